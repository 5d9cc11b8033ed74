def zrk_cX10_init_0 : ByteArray := .mk #[42, 183, 0, 1, 42, 187, 0, 7, 89, 183, 0, 9, 181, 0, 10, 42, 187, 0, 16, 89, 183, 0, 18, 181, 0, 19, 42, 187, 0, 23, 89]
theorem zrw_cX10_init_0 : zrW 0 cX10_init zrk_cX10_init_0 := by unfold zrW; decide +kernel
theorem dX10_init_0 : decode cX10_init 0 = .ok (.aload_n 0, 1) := zrD zrw_cX10_init_0 (i := 0) (by decide +kernel) rfl
theorem dX10_init_1 : decode cX10_init 1 = .ok (.invokespecial 1, 3) := zrD zrw_cX10_init_0 (i := 1) (by decide +kernel) rfl
theorem dX10_init_4 : decode cX10_init 4 = .ok (.aload_n 0, 1) := zrD zrw_cX10_init_0 (i := 4) (by decide +kernel) rfl
theorem dX10_init_5 : decode cX10_init 5 = .ok (.new 7, 3) := zrD zrw_cX10_init_0 (i := 5) (by decide +kernel) rfl
theorem dX10_init_8 : decode cX10_init 8 = .ok (.dup, 1) := zrD zrw_cX10_init_0 (i := 8) (by decide +kernel) rfl
theorem dX10_init_9 : decode cX10_init 9 = .ok (.invokespecial 9, 3) := zrD zrw_cX10_init_0 (i := 9) (by decide +kernel) rfl
theorem dX10_init_12 : decode cX10_init 12 = .ok (.putfield 10, 3) := zrD zrw_cX10_init_0 (i := 12) (by decide +kernel) rfl
theorem dX10_init_15 : decode cX10_init 15 = .ok (.aload_n 0, 1) := zrD zrw_cX10_init_0 (i := 15) (by decide +kernel) rfl
theorem dX10_init_16 : decode cX10_init 16 = .ok (.new 16, 3) := zrD zrw_cX10_init_0 (i := 16) (by decide +kernel) rfl
theorem dX10_init_19 : decode cX10_init 19 = .ok (.dup, 1) := zrD zrw_cX10_init_0 (i := 19) (by decide +kernel) rfl
theorem dX10_init_20 : decode cX10_init 20 = .ok (.invokespecial 18, 3) := zrD zrw_cX10_init_0 (i := 20) (by decide +kernel) rfl
theorem dX10_init_23 : decode cX10_init 23 = .ok (.putfield 19, 3) := zrD zrw_cX10_init_0 (i := 23) (by decide +kernel) rfl
theorem dX10_init_26 : decode cX10_init 26 = .ok (.aload_n 0, 1) := zrD zrw_cX10_init_0 (i := 26) (by decide +kernel) rfl
theorem dX10_init_27 : decode cX10_init 27 = .ok (.new 23, 3) := zrD zrw_cX10_init_0 (i := 27) (by decide +kernel) rfl
theorem dX10_init_30 : decode cX10_init 30 = .ok (.dup, 1) := zrD zrw_cX10_init_0 (i := 30) (by decide +kernel) rfl
def zrk_cX10_init_31 : ByteArray := .mk #[183, 0, 25, 181, 0, 26, 42, 42, 180, 0, 26, 180, 0, 30, 181, 0, 34, 42, 187, 0, 35, 89, 183, 0, 37, 181, 0, 38, 42, 187, 0, 42]
theorem zrw_cX10_init_31 : zrW 31 cX10_init zrk_cX10_init_31 := by unfold zrW; decide +kernel
theorem dX10_init_31 : decode cX10_init 31 = .ok (.invokespecial 25, 3) := zrD zrw_cX10_init_31 (i := 0) (by decide +kernel) rfl
theorem dX10_init_34 : decode cX10_init 34 = .ok (.putfield 26, 3) := zrD zrw_cX10_init_31 (i := 3) (by decide +kernel) rfl
theorem dX10_init_37 : decode cX10_init 37 = .ok (.aload_n 0, 1) := zrD zrw_cX10_init_31 (i := 6) (by decide +kernel) rfl
theorem dX10_init_38 : decode cX10_init 38 = .ok (.aload_n 0, 1) := zrD zrw_cX10_init_31 (i := 7) (by decide +kernel) rfl
theorem dX10_init_39 : decode cX10_init 39 = .ok (.getfield 26, 3) := zrD zrw_cX10_init_31 (i := 8) (by decide +kernel) rfl
theorem dX10_init_42 : decode cX10_init 42 = .ok (.getfield 30, 3) := zrD zrw_cX10_init_31 (i := 11) (by decide +kernel) rfl
theorem dX10_init_45 : decode cX10_init 45 = .ok (.putfield 34, 3) := zrD zrw_cX10_init_31 (i := 14) (by decide +kernel) rfl
theorem dX10_init_48 : decode cX10_init 48 = .ok (.aload_n 0, 1) := zrD zrw_cX10_init_31 (i := 17) (by decide +kernel) rfl
theorem dX10_init_49 : decode cX10_init 49 = .ok (.new 35, 3) := zrD zrw_cX10_init_31 (i := 18) (by decide +kernel) rfl
theorem dX10_init_52 : decode cX10_init 52 = .ok (.dup, 1) := zrD zrw_cX10_init_31 (i := 21) (by decide +kernel) rfl
theorem dX10_init_53 : decode cX10_init 53 = .ok (.invokespecial 37, 3) := zrD zrw_cX10_init_31 (i := 22) (by decide +kernel) rfl
theorem dX10_init_56 : decode cX10_init 56 = .ok (.putfield 38, 3) := zrD zrw_cX10_init_31 (i := 25) (by decide +kernel) rfl
theorem dX10_init_59 : decode cX10_init 59 = .ok (.aload_n 0, 1) := zrD zrw_cX10_init_31 (i := 28) (by decide +kernel) rfl
theorem dX10_init_60 : decode cX10_init 60 = .ok (.new 42, 3) := zrD zrw_cX10_init_31 (i := 29) (by decide +kernel) rfl
def zrk_cX10_init_63 : ByteArray := .mk #[89, 183, 0, 44, 181, 0, 45, 42, 187, 0, 49, 89, 183, 0, 51, 181, 0, 52, 42, 187, 0, 49, 89, 183, 0, 51, 181, 0, 56, 42, 6]
theorem zrw_cX10_init_63 : zrW 63 cX10_init zrk_cX10_init_63 := by unfold zrW; decide +kernel
theorem dX10_init_63 : decode cX10_init 63 = .ok (.dup, 1) := zrD zrw_cX10_init_63 (i := 0) (by decide +kernel) rfl
theorem dX10_init_64 : decode cX10_init 64 = .ok (.invokespecial 44, 3) := zrD zrw_cX10_init_63 (i := 1) (by decide +kernel) rfl
theorem dX10_init_67 : decode cX10_init 67 = .ok (.putfield 45, 3) := zrD zrw_cX10_init_63 (i := 4) (by decide +kernel) rfl
theorem dX10_init_70 : decode cX10_init 70 = .ok (.aload_n 0, 1) := zrD zrw_cX10_init_63 (i := 7) (by decide +kernel) rfl
theorem dX10_init_71 : decode cX10_init 71 = .ok (.new 49, 3) := zrD zrw_cX10_init_63 (i := 8) (by decide +kernel) rfl
theorem dX10_init_74 : decode cX10_init 74 = .ok (.dup, 1) := zrD zrw_cX10_init_63 (i := 11) (by decide +kernel) rfl
theorem dX10_init_75 : decode cX10_init 75 = .ok (.invokespecial 51, 3) := zrD zrw_cX10_init_63 (i := 12) (by decide +kernel) rfl
theorem dX10_init_78 : decode cX10_init 78 = .ok (.putfield 52, 3) := zrD zrw_cX10_init_63 (i := 15) (by decide +kernel) rfl
theorem dX10_init_81 : decode cX10_init 81 = .ok (.aload_n 0, 1) := zrD zrw_cX10_init_63 (i := 18) (by decide +kernel) rfl
theorem dX10_init_82 : decode cX10_init 82 = .ok (.new 49, 3) := zrD zrw_cX10_init_63 (i := 19) (by decide +kernel) rfl
theorem dX10_init_85 : decode cX10_init 85 = .ok (.dup, 1) := zrD zrw_cX10_init_63 (i := 22) (by decide +kernel) rfl
theorem dX10_init_86 : decode cX10_init 86 = .ok (.invokespecial 51, 3) := zrD zrw_cX10_init_63 (i := 23) (by decide +kernel) rfl
theorem dX10_init_89 : decode cX10_init 89 = .ok (.putfield 56, 3) := zrD zrw_cX10_init_63 (i := 26) (by decide +kernel) rfl
theorem dX10_init_92 : decode cX10_init 92 = .ok (.aload_n 0, 1) := zrD zrw_cX10_init_63 (i := 29) (by decide +kernel) rfl
theorem dX10_init_93 : decode cX10_init 93 = .ok (.iconst 3, 1) := zrD zrw_cX10_init_63 (i := 30) (by decide +kernel) rfl
def zrk_cX10_init_94 : ByteArray := .mk #[189, 0, 49, 181, 0, 59, 3, 60, 27, 6, 162, 0, 22, 42, 180, 0, 59, 27, 187, 0, 49, 89, 183, 0, 51, 83, 132, 1, 1, 167, 255, 235]
theorem zrw_cX10_init_94 : zrW 94 cX10_init zrk_cX10_init_94 := by unfold zrW; decide +kernel
theorem dX10_init_94 : decode cX10_init 94 = .ok (.anewarray 49, 3) := zrD zrw_cX10_init_94 (i := 0) (by decide +kernel) rfl
theorem dX10_init_97 : decode cX10_init 97 = .ok (.putfield 59, 3) := zrD zrw_cX10_init_94 (i := 3) (by decide +kernel) rfl
theorem dX10_init_100 : decode cX10_init 100 = .ok (.iconst 0, 1) := zrD zrw_cX10_init_94 (i := 6) (by decide +kernel) rfl
theorem dX10_init_101 : decode cX10_init 101 = .ok (.istore_n 1, 1) := zrD zrw_cX10_init_94 (i := 7) (by decide +kernel) rfl
theorem dX10_init_102 : decode cX10_init 102 = .ok (.iload_n 1, 1) := zrD zrw_cX10_init_94 (i := 8) (by decide +kernel) rfl
theorem dX10_init_103 : decode cX10_init 103 = .ok (.iconst 3, 1) := zrD zrw_cX10_init_94 (i := 9) (by decide +kernel) rfl
theorem dX10_init_104 : decode cX10_init 104 = .ok (.if_icmp .ge 22, 3) := zrD zrw_cX10_init_94 (i := 10) (by decide +kernel) rfl
theorem dX10_init_107 : decode cX10_init 107 = .ok (.aload_n 0, 1) := zrD zrw_cX10_init_94 (i := 13) (by decide +kernel) rfl
theorem dX10_init_108 : decode cX10_init 108 = .ok (.getfield 59, 3) := zrD zrw_cX10_init_94 (i := 14) (by decide +kernel) rfl
theorem dX10_init_111 : decode cX10_init 111 = .ok (.iload_n 1, 1) := zrD zrw_cX10_init_94 (i := 17) (by decide +kernel) rfl
theorem dX10_init_112 : decode cX10_init 112 = .ok (.new 49, 3) := zrD zrw_cX10_init_94 (i := 18) (by decide +kernel) rfl
theorem dX10_init_115 : decode cX10_init 115 = .ok (.dup, 1) := zrD zrw_cX10_init_94 (i := 21) (by decide +kernel) rfl
theorem dX10_init_116 : decode cX10_init 116 = .ok (.invokespecial 51, 3) := zrD zrw_cX10_init_94 (i := 22) (by decide +kernel) rfl
theorem dX10_init_119 : decode cX10_init 119 = .ok (.aastore, 1) := zrD zrw_cX10_init_94 (i := 25) (by decide +kernel) rfl
theorem dX10_init_120 : decode cX10_init 120 = .ok (.iinc 1 1, 3) := zrD zrw_cX10_init_94 (i := 26) (by decide +kernel) rfl
theorem dX10_init_123 : decode cX10_init 123 = .ok (.goto (-21), 3) := zrD zrw_cX10_init_94 (i := 29) (by decide +kernel) rfl
def zrk_cX10_init_126 : ByteArray := .mk #[42, 16, 12]
theorem zrw_cX10_init_126 : zrW 126 cX10_init zrk_cX10_init_126 := by unfold zrW; decide +kernel
theorem dX10_init_126 : decode cX10_init 126 = .ok (.aload_n 0, 1) := zrD zrw_cX10_init_126 (i := 0) (by decide +kernel) rfl
theorem dX10_init_127 : decode cX10_init 127 = .ok (.bipush 12, 2) := zrD zrw_cX10_init_126 (i := 1) (by decide +kernel) rfl
theorem dX10_init_129 : decode cX10_init 129 = .ok (.newarray .int, 2) := by decide +kernel
def zrk_cX10_init_131 : ByteArray := .mk #[181, 0, 63, 42, 187, 0, 67, 89, 183, 0, 69, 181, 0, 70, 42, 187, 0, 67, 89, 183, 0, 69, 181, 0, 74, 42, 3, 181, 0, 77, 42, 2]
theorem zrw_cX10_init_131 : zrW 131 cX10_init zrk_cX10_init_131 := by unfold zrW; decide +kernel
theorem dX10_init_131 : decode cX10_init 131 = .ok (.putfield 63, 3) := zrD zrw_cX10_init_131 (i := 0) (by decide +kernel) rfl
theorem dX10_init_134 : decode cX10_init 134 = .ok (.aload_n 0, 1) := zrD zrw_cX10_init_131 (i := 3) (by decide +kernel) rfl
theorem dX10_init_135 : decode cX10_init 135 = .ok (.new 67, 3) := zrD zrw_cX10_init_131 (i := 4) (by decide +kernel) rfl
theorem dX10_init_138 : decode cX10_init 138 = .ok (.dup, 1) := zrD zrw_cX10_init_131 (i := 7) (by decide +kernel) rfl
theorem dX10_init_139 : decode cX10_init 139 = .ok (.invokespecial 69, 3) := zrD zrw_cX10_init_131 (i := 8) (by decide +kernel) rfl
theorem dX10_init_142 : decode cX10_init 142 = .ok (.putfield 70, 3) := zrD zrw_cX10_init_131 (i := 11) (by decide +kernel) rfl
theorem dX10_init_145 : decode cX10_init 145 = .ok (.aload_n 0, 1) := zrD zrw_cX10_init_131 (i := 14) (by decide +kernel) rfl
theorem dX10_init_146 : decode cX10_init 146 = .ok (.new 67, 3) := zrD zrw_cX10_init_131 (i := 15) (by decide +kernel) rfl
theorem dX10_init_149 : decode cX10_init 149 = .ok (.dup, 1) := zrD zrw_cX10_init_131 (i := 18) (by decide +kernel) rfl
theorem dX10_init_150 : decode cX10_init 150 = .ok (.invokespecial 69, 3) := zrD zrw_cX10_init_131 (i := 19) (by decide +kernel) rfl
theorem dX10_init_153 : decode cX10_init 153 = .ok (.putfield 74, 3) := zrD zrw_cX10_init_131 (i := 22) (by decide +kernel) rfl
theorem dX10_init_156 : decode cX10_init 156 = .ok (.aload_n 0, 1) := zrD zrw_cX10_init_131 (i := 25) (by decide +kernel) rfl
theorem dX10_init_157 : decode cX10_init 157 = .ok (.iconst 0, 1) := zrD zrw_cX10_init_131 (i := 26) (by decide +kernel) rfl
theorem dX10_init_158 : decode cX10_init 158 = .ok (.putfield 77, 3) := zrD zrw_cX10_init_131 (i := 27) (by decide +kernel) rfl
theorem dX10_init_161 : decode cX10_init 161 = .ok (.aload_n 0, 1) := zrD zrw_cX10_init_131 (i := 30) (by decide +kernel) rfl
theorem dX10_init_162 : decode cX10_init 162 = .ok (.iconst (-1), 1) := zrD zrw_cX10_init_131 (i := 31) (by decide +kernel) rfl
def zrk_cX10_init_163 : ByteArray := .mk #[181, 0, 81, 177]
theorem zrw_cX10_init_163 : zrW 163 cX10_init zrk_cX10_init_163 := by unfold zrW; decide +kernel
theorem dX10_init_163 : decode cX10_init 163 = .ok (.putfield 81, 3) := zrD zrw_cX10_init_163 (i := 0) (by decide +kernel) rfl
theorem dX10_init_166 : decode cX10_init 166 = .ok (.return_, 1) := zrD zrw_cX10_init_163 (i := 3) (by decide +kernel) rfl
def zrk_cX10_feed_0 : ByteArray := .mk #[42, 180, 0, 10, 180, 0, 84, 16, 20, 96, 17, 7, 208, 164, 0, 5, 2, 172, 42, 180, 0, 10, 27, 182, 0, 87, 42, 180, 0, 10, 28]
theorem zrw_cX10_feed_0 : zrW 0 cX10_feed zrk_cX10_feed_0 := by unfold zrW; decide +kernel
theorem dX10_feed_0 : decode cX10_feed 0 = .ok (.aload_n 0, 1) := zrD zrw_cX10_feed_0 (i := 0) (by decide +kernel) rfl
theorem dX10_feed_1 : decode cX10_feed 1 = .ok (.getfield 10, 3) := zrD zrw_cX10_feed_0 (i := 1) (by decide +kernel) rfl
theorem dX10_feed_4 : decode cX10_feed 4 = .ok (.getfield 84, 3) := zrD zrw_cX10_feed_0 (i := 4) (by decide +kernel) rfl
theorem dX10_feed_7 : decode cX10_feed 7 = .ok (.bipush 20, 2) := zrD zrw_cX10_feed_0 (i := 7) (by decide +kernel) rfl
theorem dX10_feed_9 : decode cX10_feed 9 = .ok (.iadd, 1) := zrD zrw_cX10_feed_0 (i := 9) (by decide +kernel) rfl
theorem dX10_feed_10 : decode cX10_feed 10 = .ok (.sipush 2000, 3) := zrD zrw_cX10_feed_0 (i := 10) (by decide +kernel) rfl
theorem dX10_feed_13 : decode cX10_feed 13 = .ok (.if_icmp .le 5, 3) := zrD zrw_cX10_feed_0 (i := 13) (by decide +kernel) rfl
theorem dX10_feed_16 : decode cX10_feed 16 = .ok (.iconst (-1), 1) := zrD zrw_cX10_feed_0 (i := 16) (by decide +kernel) rfl
theorem dX10_feed_17 : decode cX10_feed 17 = .ok (.ireturn, 1) := zrD zrw_cX10_feed_0 (i := 17) (by decide +kernel) rfl
theorem dX10_feed_18 : decode cX10_feed 18 = .ok (.aload_n 0, 1) := zrD zrw_cX10_feed_0 (i := 18) (by decide +kernel) rfl
theorem dX10_feed_19 : decode cX10_feed 19 = .ok (.getfield 10, 3) := zrD zrw_cX10_feed_0 (i := 19) (by decide +kernel) rfl
theorem dX10_feed_22 : decode cX10_feed 22 = .ok (.iload_n 1, 1) := zrD zrw_cX10_feed_0 (i := 22) (by decide +kernel) rfl
theorem dX10_feed_23 : decode cX10_feed 23 = .ok (.invokevirtual 87, 3) := zrD zrw_cX10_feed_0 (i := 23) (by decide +kernel) rfl
theorem dX10_feed_26 : decode cX10_feed 26 = .ok (.aload_n 0, 1) := zrD zrw_cX10_feed_0 (i := 26) (by decide +kernel) rfl
theorem dX10_feed_27 : decode cX10_feed 27 = .ok (.getfield 10, 3) := zrD zrw_cX10_feed_0 (i := 27) (by decide +kernel) rfl
theorem dX10_feed_30 : decode cX10_feed 30 = .ok (.iload_n 2, 1) := zrD zrw_cX10_feed_0 (i := 30) (by decide +kernel) rfl
def zrk_cX10_feed_31 : ByteArray := .mk #[182, 0, 87, 42, 180, 0, 10, 29, 182, 0, 87, 42, 180, 0, 10, 21, 4, 182, 0, 87, 42, 180, 0, 10, 21, 5, 182, 0, 87, 42]
theorem zrw_cX10_feed_31 : zrW 31 cX10_feed zrk_cX10_feed_31 := by unfold zrW; decide +kernel
theorem dX10_feed_31 : decode cX10_feed 31 = .ok (.invokevirtual 87, 3) := zrD zrw_cX10_feed_31 (i := 0) (by decide +kernel) rfl
theorem dX10_feed_34 : decode cX10_feed 34 = .ok (.aload_n 0, 1) := zrD zrw_cX10_feed_31 (i := 3) (by decide +kernel) rfl
theorem dX10_feed_35 : decode cX10_feed 35 = .ok (.getfield 10, 3) := zrD zrw_cX10_feed_31 (i := 4) (by decide +kernel) rfl
theorem dX10_feed_38 : decode cX10_feed 38 = .ok (.iload_n 3, 1) := zrD zrw_cX10_feed_31 (i := 7) (by decide +kernel) rfl
theorem dX10_feed_39 : decode cX10_feed 39 = .ok (.invokevirtual 87, 3) := zrD zrw_cX10_feed_31 (i := 8) (by decide +kernel) rfl
theorem dX10_feed_42 : decode cX10_feed 42 = .ok (.aload_n 0, 1) := zrD zrw_cX10_feed_31 (i := 11) (by decide +kernel) rfl
theorem dX10_feed_43 : decode cX10_feed 43 = .ok (.getfield 10, 3) := zrD zrw_cX10_feed_31 (i := 12) (by decide +kernel) rfl
theorem dX10_feed_46 : decode cX10_feed 46 = .ok (.iload 4, 2) := zrD zrw_cX10_feed_31 (i := 15) (by decide +kernel) rfl
theorem dX10_feed_48 : decode cX10_feed 48 = .ok (.invokevirtual 87, 3) := zrD zrw_cX10_feed_31 (i := 17) (by decide +kernel) rfl
theorem dX10_feed_51 : decode cX10_feed 51 = .ok (.aload_n 0, 1) := zrD zrw_cX10_feed_31 (i := 20) (by decide +kernel) rfl
theorem dX10_feed_52 : decode cX10_feed 52 = .ok (.getfield 10, 3) := zrD zrw_cX10_feed_31 (i := 21) (by decide +kernel) rfl
theorem dX10_feed_55 : decode cX10_feed 55 = .ok (.iload 5, 2) := zrD zrw_cX10_feed_31 (i := 24) (by decide +kernel) rfl
theorem dX10_feed_57 : decode cX10_feed 57 = .ok (.invokevirtual 87, 3) := zrD zrw_cX10_feed_31 (i := 26) (by decide +kernel) rfl
theorem dX10_feed_60 : decode cX10_feed 60 = .ok (.aload_n 0, 1) := zrD zrw_cX10_feed_31 (i := 29) (by decide +kernel) rfl
def zrk_cX10_feed_61 : ByteArray := .mk #[180, 0, 10, 180, 0, 84, 172]
theorem zrw_cX10_feed_61 : zrW 61 cX10_feed zrk_cX10_feed_61 := by unfold zrW; decide +kernel
theorem dX10_feed_61 : decode cX10_feed 61 = .ok (.getfield 10, 3) := zrD zrw_cX10_feed_61 (i := 0) (by decide +kernel) rfl
theorem dX10_feed_64 : decode cX10_feed 64 = .ok (.getfield 84, 3) := zrD zrw_cX10_feed_61 (i := 3) (by decide +kernel) rfl
theorem dX10_feed_67 : decode cX10_feed 67 = .ok (.ireturn, 1) := zrD zrw_cX10_feed_61 (i := 6) (by decide +kernel) rfl
def zrk_cX10_back_0 : ByteArray := .mk #[27, 155, 0, 14, 27, 42, 180, 0, 10, 180, 0, 84, 164, 0, 5, 2, 172, 42, 180, 0, 10, 89, 180, 0, 84, 27, 100, 181, 0, 84, 42]
theorem zrw_cX10_back_0 : zrW 0 cX10_back zrk_cX10_back_0 := by unfold zrW; decide +kernel
theorem dX10_back_0 : decode cX10_back 0 = .ok (.iload_n 1, 1) := zrD zrw_cX10_back_0 (i := 0) (by decide +kernel) rfl
theorem dX10_back_1 : decode cX10_back 1 = .ok (.ifCond .lt 14, 3) := zrD zrw_cX10_back_0 (i := 1) (by decide +kernel) rfl
theorem dX10_back_4 : decode cX10_back 4 = .ok (.iload_n 1, 1) := zrD zrw_cX10_back_0 (i := 4) (by decide +kernel) rfl
theorem dX10_back_5 : decode cX10_back 5 = .ok (.aload_n 0, 1) := zrD zrw_cX10_back_0 (i := 5) (by decide +kernel) rfl
theorem dX10_back_6 : decode cX10_back 6 = .ok (.getfield 10, 3) := zrD zrw_cX10_back_0 (i := 6) (by decide +kernel) rfl
theorem dX10_back_9 : decode cX10_back 9 = .ok (.getfield 84, 3) := zrD zrw_cX10_back_0 (i := 9) (by decide +kernel) rfl
theorem dX10_back_12 : decode cX10_back 12 = .ok (.if_icmp .le 5, 3) := zrD zrw_cX10_back_0 (i := 12) (by decide +kernel) rfl
theorem dX10_back_15 : decode cX10_back 15 = .ok (.iconst (-1), 1) := zrD zrw_cX10_back_0 (i := 15) (by decide +kernel) rfl
theorem dX10_back_16 : decode cX10_back 16 = .ok (.ireturn, 1) := zrD zrw_cX10_back_0 (i := 16) (by decide +kernel) rfl
theorem dX10_back_17 : decode cX10_back 17 = .ok (.aload_n 0, 1) := zrD zrw_cX10_back_0 (i := 17) (by decide +kernel) rfl
theorem dX10_back_18 : decode cX10_back 18 = .ok (.getfield 10, 3) := zrD zrw_cX10_back_0 (i := 18) (by decide +kernel) rfl
theorem dX10_back_21 : decode cX10_back 21 = .ok (.dup, 1) := zrD zrw_cX10_back_0 (i := 21) (by decide +kernel) rfl
theorem dX10_back_22 : decode cX10_back 22 = .ok (.getfield 84, 3) := zrD zrw_cX10_back_0 (i := 22) (by decide +kernel) rfl
theorem dX10_back_25 : decode cX10_back 25 = .ok (.iload_n 1, 1) := zrD zrw_cX10_back_0 (i := 25) (by decide +kernel) rfl
theorem dX10_back_26 : decode cX10_back 26 = .ok (.isub, 1) := zrD zrw_cX10_back_0 (i := 26) (by decide +kernel) rfl
theorem dX10_back_27 : decode cX10_back 27 = .ok (.putfield 84, 3) := zrD zrw_cX10_back_0 (i := 27) (by decide +kernel) rfl
theorem dX10_back_30 : decode cX10_back 30 = .ok (.aload_n 0, 1) := zrD zrw_cX10_back_0 (i := 30) (by decide +kernel) rfl
def zrk_cX10_back_31 : ByteArray := .mk #[180, 0, 10, 180, 0, 84, 172]
theorem zrw_cX10_back_31 : zrW 31 cX10_back zrk_cX10_back_31 := by unfold zrW; decide +kernel
theorem dX10_back_31 : decode cX10_back 31 = .ok (.getfield 10, 3) := zrD zrw_cX10_back_31 (i := 0) (by decide +kernel) rfl
theorem dX10_back_34 : decode cX10_back 34 = .ok (.getfield 84, 3) := zrD zrw_cX10_back_31 (i := 3) (by decide +kernel) rfl
theorem dX10_back_37 : decode cX10_back 37 = .ok (.ireturn, 1) := zrD zrw_cX10_back_31 (i := 6) (by decide +kernel) rfl
def zrk_cX10_read_0 : ByteArray := .mk #[42, 180, 0, 19, 42, 180, 0, 10, 180, 0, 91, 42, 180, 0, 10, 180, 0, 84, 42, 180, 0, 74, 182, 0, 95, 60, 42, 42, 180, 0, 19]
theorem zrw_cX10_read_0 : zrW 0 cX10_read zrk_cX10_read_0 := by unfold zrW; decide +kernel
theorem dX10_read_0 : decode cX10_read 0 = .ok (.aload_n 0, 1) := zrD zrw_cX10_read_0 (i := 0) (by decide +kernel) rfl
theorem dX10_read_1 : decode cX10_read 1 = .ok (.getfield 19, 3) := zrD zrw_cX10_read_0 (i := 1) (by decide +kernel) rfl
theorem dX10_read_4 : decode cX10_read 4 = .ok (.aload_n 0, 1) := zrD zrw_cX10_read_0 (i := 4) (by decide +kernel) rfl
theorem dX10_read_5 : decode cX10_read 5 = .ok (.getfield 10, 3) := zrD zrw_cX10_read_0 (i := 5) (by decide +kernel) rfl
theorem dX10_read_8 : decode cX10_read 8 = .ok (.getfield 91, 3) := zrD zrw_cX10_read_0 (i := 8) (by decide +kernel) rfl
theorem dX10_read_11 : decode cX10_read 11 = .ok (.aload_n 0, 1) := zrD zrw_cX10_read_0 (i := 11) (by decide +kernel) rfl
theorem dX10_read_12 : decode cX10_read 12 = .ok (.getfield 10, 3) := zrD zrw_cX10_read_0 (i := 12) (by decide +kernel) rfl
theorem dX10_read_15 : decode cX10_read 15 = .ok (.getfield 84, 3) := zrD zrw_cX10_read_0 (i := 15) (by decide +kernel) rfl
theorem dX10_read_18 : decode cX10_read 18 = .ok (.aload_n 0, 1) := zrD zrw_cX10_read_0 (i := 18) (by decide +kernel) rfl
theorem dX10_read_19 : decode cX10_read 19 = .ok (.getfield 74, 3) := zrD zrw_cX10_read_0 (i := 19) (by decide +kernel) rfl
theorem dX10_read_22 : decode cX10_read 22 = .ok (.invokevirtual 95, 3) := zrD zrw_cX10_read_0 (i := 22) (by decide +kernel) rfl
theorem dX10_read_25 : decode cX10_read 25 = .ok (.istore_n 1, 1) := zrD zrw_cX10_read_0 (i := 25) (by decide +kernel) rfl
theorem dX10_read_26 : decode cX10_read 26 = .ok (.aload_n 0, 1) := zrD zrw_cX10_read_0 (i := 26) (by decide +kernel) rfl
theorem dX10_read_27 : decode cX10_read 27 = .ok (.aload_n 0, 1) := zrD zrw_cX10_read_0 (i := 27) (by decide +kernel) rfl
theorem dX10_read_28 : decode cX10_read 28 = .ok (.getfield 19, 3) := zrD zrw_cX10_read_0 (i := 28) (by decide +kernel) rfl
def zrk_cX10_read_31 : ByteArray := .mk #[180, 0, 99, 181, 0, 81, 42, 180, 0, 10, 3, 181, 0, 84, 27, 154, 0, 25, 42, 180, 0, 74, 77, 42, 42, 180, 0, 70, 181, 0, 74, 42]
theorem zrw_cX10_read_31 : zrW 31 cX10_read zrk_cX10_read_31 := by unfold zrW; decide +kernel
theorem dX10_read_31 : decode cX10_read 31 = .ok (.getfield 99, 3) := zrD zrw_cX10_read_31 (i := 0) (by decide +kernel) rfl
theorem dX10_read_34 : decode cX10_read 34 = .ok (.putfield 81, 3) := zrD zrw_cX10_read_31 (i := 3) (by decide +kernel) rfl
theorem dX10_read_37 : decode cX10_read 37 = .ok (.aload_n 0, 1) := zrD zrw_cX10_read_31 (i := 6) (by decide +kernel) rfl
theorem dX10_read_38 : decode cX10_read 38 = .ok (.getfield 10, 3) := zrD zrw_cX10_read_31 (i := 7) (by decide +kernel) rfl
theorem dX10_read_41 : decode cX10_read 41 = .ok (.iconst 0, 1) := zrD zrw_cX10_read_31 (i := 10) (by decide +kernel) rfl
theorem dX10_read_42 : decode cX10_read 42 = .ok (.putfield 84, 3) := zrD zrw_cX10_read_31 (i := 11) (by decide +kernel) rfl
theorem dX10_read_45 : decode cX10_read 45 = .ok (.iload_n 1, 1) := zrD zrw_cX10_read_31 (i := 14) (by decide +kernel) rfl
theorem dX10_read_46 : decode cX10_read 46 = .ok (.ifCond .ne 25, 3) := zrD zrw_cX10_read_31 (i := 15) (by decide +kernel) rfl
theorem dX10_read_49 : decode cX10_read 49 = .ok (.aload_n 0, 1) := zrD zrw_cX10_read_31 (i := 18) (by decide +kernel) rfl
theorem dX10_read_50 : decode cX10_read 50 = .ok (.getfield 74, 3) := zrD zrw_cX10_read_31 (i := 19) (by decide +kernel) rfl
theorem dX10_read_53 : decode cX10_read 53 = .ok (.astore_n 2, 1) := zrD zrw_cX10_read_31 (i := 22) (by decide +kernel) rfl
theorem dX10_read_54 : decode cX10_read 54 = .ok (.aload_n 0, 1) := zrD zrw_cX10_read_31 (i := 23) (by decide +kernel) rfl
theorem dX10_read_55 : decode cX10_read 55 = .ok (.aload_n 0, 1) := zrD zrw_cX10_read_31 (i := 24) (by decide +kernel) rfl
theorem dX10_read_56 : decode cX10_read 56 = .ok (.getfield 70, 3) := zrD zrw_cX10_read_31 (i := 25) (by decide +kernel) rfl
theorem dX10_read_59 : decode cX10_read 59 = .ok (.putfield 74, 3) := zrD zrw_cX10_read_31 (i := 28) (by decide +kernel) rfl
theorem dX10_read_62 : decode cX10_read 62 = .ok (.aload_n 0, 1) := zrD zrw_cX10_read_31 (i := 31) (by decide +kernel) rfl
def zrk_cX10_read_63 : ByteArray := .mk #[44, 181, 0, 70, 42, 182, 0, 100, 27, 172]
theorem zrw_cX10_read_63 : zrW 63 cX10_read zrk_cX10_read_63 := by unfold zrW; decide +kernel
theorem dX10_read_63 : decode cX10_read 63 = .ok (.aload_n 2, 1) := zrD zrw_cX10_read_63 (i := 0) (by decide +kernel) rfl
theorem dX10_read_64 : decode cX10_read 64 = .ok (.putfield 70, 3) := zrD zrw_cX10_read_63 (i := 1) (by decide +kernel) rfl
theorem dX10_read_67 : decode cX10_read 67 = .ok (.aload_n 0, 1) := zrD zrw_cX10_read_63 (i := 4) (by decide +kernel) rfl
theorem dX10_read_68 : decode cX10_read 68 = .ok (.invokevirtual 100, 3) := zrD zrw_cX10_read_63 (i := 5) (by decide +kernel) rfl
theorem dX10_read_71 : decode cX10_read 71 = .ok (.iload_n 1, 1) := zrD zrw_cX10_read_63 (i := 8) (by decide +kernel) rfl
theorem dX10_read_72 : decode cX10_read 72 = .ok (.ireturn, 1) := zrD zrw_cX10_read_63 (i := 9) (by decide +kernel) rfl
def zrk_cX10_beginAnew_0 : ByteArray := .mk #[42, 180, 0, 52, 42, 180, 0, 70, 182, 0, 103, 42, 180, 0, 38, 3, 181, 0, 107, 42, 180, 0, 45, 3, 181, 0, 108, 42, 3, 181, 0, 77]
theorem zrw_cX10_beginAnew_0 : zrW 0 cX10_beginAnew zrk_cX10_beginAnew_0 := by unfold zrW; decide +kernel
theorem dX10_beginAnew_0 : decode cX10_beginAnew 0 = .ok (.aload_n 0, 1) := zrD zrw_cX10_beginAnew_0 (i := 0) (by decide +kernel) rfl
theorem dX10_beginAnew_1 : decode cX10_beginAnew 1 = .ok (.getfield 52, 3) := zrD zrw_cX10_beginAnew_0 (i := 1) (by decide +kernel) rfl
theorem dX10_beginAnew_4 : decode cX10_beginAnew 4 = .ok (.aload_n 0, 1) := zrD zrw_cX10_beginAnew_0 (i := 4) (by decide +kernel) rfl
theorem dX10_beginAnew_5 : decode cX10_beginAnew 5 = .ok (.getfield 70, 3) := zrD zrw_cX10_beginAnew_0 (i := 5) (by decide +kernel) rfl
theorem dX10_beginAnew_8 : decode cX10_beginAnew 8 = .ok (.invokevirtual 103, 3) := zrD zrw_cX10_beginAnew_0 (i := 8) (by decide +kernel) rfl
theorem dX10_beginAnew_11 : decode cX10_beginAnew 11 = .ok (.aload_n 0, 1) := zrD zrw_cX10_beginAnew_0 (i := 11) (by decide +kernel) rfl
theorem dX10_beginAnew_12 : decode cX10_beginAnew 12 = .ok (.getfield 38, 3) := zrD zrw_cX10_beginAnew_0 (i := 12) (by decide +kernel) rfl
theorem dX10_beginAnew_15 : decode cX10_beginAnew 15 = .ok (.iconst 0, 1) := zrD zrw_cX10_beginAnew_0 (i := 15) (by decide +kernel) rfl
theorem dX10_beginAnew_16 : decode cX10_beginAnew 16 = .ok (.putfield 107, 3) := zrD zrw_cX10_beginAnew_0 (i := 16) (by decide +kernel) rfl
theorem dX10_beginAnew_19 : decode cX10_beginAnew 19 = .ok (.aload_n 0, 1) := zrD zrw_cX10_beginAnew_0 (i := 19) (by decide +kernel) rfl
theorem dX10_beginAnew_20 : decode cX10_beginAnew 20 = .ok (.getfield 45, 3) := zrD zrw_cX10_beginAnew_0 (i := 20) (by decide +kernel) rfl
theorem dX10_beginAnew_23 : decode cX10_beginAnew 23 = .ok (.iconst 0, 1) := zrD zrw_cX10_beginAnew_0 (i := 23) (by decide +kernel) rfl
theorem dX10_beginAnew_24 : decode cX10_beginAnew 24 = .ok (.putfield 108, 3) := zrD zrw_cX10_beginAnew_0 (i := 24) (by decide +kernel) rfl
theorem dX10_beginAnew_27 : decode cX10_beginAnew 27 = .ok (.aload_n 0, 1) := zrD zrw_cX10_beginAnew_0 (i := 27) (by decide +kernel) rfl
theorem dX10_beginAnew_28 : decode cX10_beginAnew 28 = .ok (.iconst 0, 1) := zrD zrw_cX10_beginAnew_0 (i := 28) (by decide +kernel) rfl
theorem dX10_beginAnew_29 : decode cX10_beginAnew 29 = .ok (.putfield 77, 3) := zrD zrw_cX10_beginAnew_0 (i := 29) (by decide +kernel) rfl
def zrk_cX10_beginAnew_32 : ByteArray := .mk #[177]
theorem zrw_cX10_beginAnew_32 : zrW 32 cX10_beginAnew zrk_cX10_beginAnew_32 := by unfold zrW; decide +kernel
theorem dX10_beginAnew_32 : decode cX10_beginAnew 32 = .ok (.return_, 1) := zrD zrw_cX10_beginAnew_32 (i := 0) (by decide +kernel) rfl
def zrk_cX10_place_0 : ByteArray := .mk #[42, 180, 0, 81, 172]
theorem zrw_cX10_place_0 : zrW 0 cX10_place zrk_cX10_place_0 := by unfold zrW; decide +kernel
theorem dX10_place_0 : decode cX10_place 0 = .ok (.aload_n 0, 1) := zrD zrw_cX10_place_0 (i := 0) (by decide +kernel) rfl
theorem dX10_place_1 : decode cX10_place 1 = .ok (.getfield 81, 3) := zrD zrw_cX10_place_0 (i := 1) (by decide +kernel) rfl
theorem dX10_place_4 : decode cX10_place 4 = .ok (.ireturn, 1) := zrD zrw_cX10_place_0 (i := 4) (by decide +kernel) rfl
def zrk_cX10_spot_0 : ByteArray := .mk #[42, 27, 182, 0, 109, 153, 0, 13, 28, 155, 0, 9, 28, 16, 12, 164, 0, 5, 2, 172, 42, 182, 0, 113, 28]
theorem zrw_cX10_spot_0 : zrW 0 cX10_spot zrk_cX10_spot_0 := by unfold zrW; decide +kernel
theorem dX10_spot_0 : decode cX10_spot 0 = .ok (.aload_n 0, 1) := zrD zrw_cX10_spot_0 (i := 0) (by decide +kernel) rfl
theorem dX10_spot_1 : decode cX10_spot 1 = .ok (.iload_n 1, 1) := zrD zrw_cX10_spot_0 (i := 1) (by decide +kernel) rfl
theorem dX10_spot_2 : decode cX10_spot 2 = .ok (.invokevirtual 109, 3) := zrD zrw_cX10_spot_0 (i := 2) (by decide +kernel) rfl
theorem dX10_spot_5 : decode cX10_spot 5 = .ok (.ifCond .eq 13, 3) := zrD zrw_cX10_spot_0 (i := 5) (by decide +kernel) rfl
theorem dX10_spot_8 : decode cX10_spot 8 = .ok (.iload_n 2, 1) := zrD zrw_cX10_spot_0 (i := 8) (by decide +kernel) rfl
theorem dX10_spot_9 : decode cX10_spot 9 = .ok (.ifCond .lt 9, 3) := zrD zrw_cX10_spot_0 (i := 9) (by decide +kernel) rfl
theorem dX10_spot_12 : decode cX10_spot 12 = .ok (.iload_n 2, 1) := zrD zrw_cX10_spot_0 (i := 12) (by decide +kernel) rfl
theorem dX10_spot_13 : decode cX10_spot 13 = .ok (.bipush 12, 2) := zrD zrw_cX10_spot_0 (i := 13) (by decide +kernel) rfl
theorem dX10_spot_15 : decode cX10_spot 15 = .ok (.if_icmp .le 5, 3) := zrD zrw_cX10_spot_0 (i := 15) (by decide +kernel) rfl
theorem dX10_spot_18 : decode cX10_spot 18 = .ok (.iconst (-1), 1) := zrD zrw_cX10_spot_0 (i := 18) (by decide +kernel) rfl
theorem dX10_spot_19 : decode cX10_spot 19 = .ok (.ireturn, 1) := zrD zrw_cX10_spot_0 (i := 19) (by decide +kernel) rfl
theorem dX10_spot_20 : decode cX10_spot 20 = .ok (.aload_n 0, 1) := zrD zrw_cX10_spot_0 (i := 20) (by decide +kernel) rfl
theorem dX10_spot_21 : decode cX10_spot 21 = .ok (.invokevirtual 113, 3) := zrD zrw_cX10_spot_0 (i := 21) (by decide +kernel) rfl
theorem dX10_spot_24 : decode cX10_spot 24 = .ok (.iload_n 2, 1) := zrD zrw_cX10_spot_0 (i := 24) (by decide +kernel) rfl
theorem dX10_spot_25 : decode cX10_spot 25 = .ok (.tableswitch 209 0 11 #[63, 82, 92, 102, 112, 132, 142, 152, 162, 179, 189, 199], 63) := by decide +kernel
def zrk_cX10_spot_88 : ByteArray := .mk #[27, 154, 0, 8, 16, 254, 167, 0, 12, 42, 180, 0, 52, 180, 0, 116, 27, 46, 172, 42, 180, 0, 70, 180, 0, 119, 27, 46, 172, 42]
theorem zrw_cX10_spot_88 : zrW 88 cX10_spot zrk_cX10_spot_88 := by unfold zrW; decide +kernel
theorem dX10_spot_88 : decode cX10_spot 88 = .ok (.iload_n 1, 1) := zrD zrw_cX10_spot_88 (i := 0) (by decide +kernel) rfl
theorem dX10_spot_89 : decode cX10_spot 89 = .ok (.ifCond .ne 8, 3) := zrD zrw_cX10_spot_88 (i := 1) (by decide +kernel) rfl
theorem dX10_spot_92 : decode cX10_spot 92 = .ok (.bipush (-2), 2) := zrD zrw_cX10_spot_88 (i := 4) (by decide +kernel) rfl
theorem dX10_spot_94 : decode cX10_spot 94 = .ok (.goto 12, 3) := zrD zrw_cX10_spot_88 (i := 6) (by decide +kernel) rfl
theorem dX10_spot_97 : decode cX10_spot 97 = .ok (.aload_n 0, 1) := zrD zrw_cX10_spot_88 (i := 9) (by decide +kernel) rfl
theorem dX10_spot_98 : decode cX10_spot 98 = .ok (.getfield 52, 3) := zrD zrw_cX10_spot_88 (i := 10) (by decide +kernel) rfl
theorem dX10_spot_101 : decode cX10_spot 101 = .ok (.getfield 116, 3) := zrD zrw_cX10_spot_88 (i := 13) (by decide +kernel) rfl
theorem dX10_spot_104 : decode cX10_spot 104 = .ok (.iload_n 1, 1) := zrD zrw_cX10_spot_88 (i := 16) (by decide +kernel) rfl
theorem dX10_spot_105 : decode cX10_spot 105 = .ok (.iaload, 1) := zrD zrw_cX10_spot_88 (i := 17) (by decide +kernel) rfl
theorem dX10_spot_106 : decode cX10_spot 106 = .ok (.ireturn, 1) := zrD zrw_cX10_spot_88 (i := 18) (by decide +kernel) rfl
theorem dX10_spot_107 : decode cX10_spot 107 = .ok (.aload_n 0, 1) := zrD zrw_cX10_spot_88 (i := 19) (by decide +kernel) rfl
theorem dX10_spot_108 : decode cX10_spot 108 = .ok (.getfield 70, 3) := zrD zrw_cX10_spot_88 (i := 20) (by decide +kernel) rfl
theorem dX10_spot_111 : decode cX10_spot 111 = .ok (.getfield 119, 3) := zrD zrw_cX10_spot_88 (i := 23) (by decide +kernel) rfl
theorem dX10_spot_114 : decode cX10_spot 114 = .ok (.iload_n 1, 1) := zrD zrw_cX10_spot_88 (i := 26) (by decide +kernel) rfl
theorem dX10_spot_115 : decode cX10_spot 115 = .ok (.iaload, 1) := zrD zrw_cX10_spot_88 (i := 27) (by decide +kernel) rfl
theorem dX10_spot_116 : decode cX10_spot 116 = .ok (.ireturn, 1) := zrD zrw_cX10_spot_88 (i := 28) (by decide +kernel) rfl
theorem dX10_spot_117 : decode cX10_spot 117 = .ok (.aload_n 0, 1) := zrD zrw_cX10_spot_88 (i := 29) (by decide +kernel) rfl
def zrk_cX10_spot_118 : ByteArray := .mk #[180, 0, 70, 180, 0, 122, 27, 46, 172, 42, 180, 0, 70, 180, 0, 125, 27, 46, 172, 42, 180, 0, 52, 180, 0, 128, 27, 184, 0, 131]
theorem zrw_cX10_spot_118 : zrW 118 cX10_spot zrk_cX10_spot_118 := by unfold zrW; decide +kernel
theorem dX10_spot_118 : decode cX10_spot 118 = .ok (.getfield 70, 3) := zrD zrw_cX10_spot_118 (i := 0) (by decide +kernel) rfl
theorem dX10_spot_121 : decode cX10_spot 121 = .ok (.getfield 122, 3) := zrD zrw_cX10_spot_118 (i := 3) (by decide +kernel) rfl
theorem dX10_spot_124 : decode cX10_spot 124 = .ok (.iload_n 1, 1) := zrD zrw_cX10_spot_118 (i := 6) (by decide +kernel) rfl
theorem dX10_spot_125 : decode cX10_spot 125 = .ok (.iaload, 1) := zrD zrw_cX10_spot_118 (i := 7) (by decide +kernel) rfl
theorem dX10_spot_126 : decode cX10_spot 126 = .ok (.ireturn, 1) := zrD zrw_cX10_spot_118 (i := 8) (by decide +kernel) rfl
theorem dX10_spot_127 : decode cX10_spot 127 = .ok (.aload_n 0, 1) := zrD zrw_cX10_spot_118 (i := 9) (by decide +kernel) rfl
theorem dX10_spot_128 : decode cX10_spot 128 = .ok (.getfield 70, 3) := zrD zrw_cX10_spot_118 (i := 10) (by decide +kernel) rfl
theorem dX10_spot_131 : decode cX10_spot 131 = .ok (.getfield 125, 3) := zrD zrw_cX10_spot_118 (i := 13) (by decide +kernel) rfl
theorem dX10_spot_134 : decode cX10_spot 134 = .ok (.iload_n 1, 1) := zrD zrw_cX10_spot_118 (i := 16) (by decide +kernel) rfl
theorem dX10_spot_135 : decode cX10_spot 135 = .ok (.iaload, 1) := zrD zrw_cX10_spot_118 (i := 17) (by decide +kernel) rfl
theorem dX10_spot_136 : decode cX10_spot 136 = .ok (.ireturn, 1) := zrD zrw_cX10_spot_118 (i := 18) (by decide +kernel) rfl
theorem dX10_spot_137 : decode cX10_spot 137 = .ok (.aload_n 0, 1) := zrD zrw_cX10_spot_118 (i := 19) (by decide +kernel) rfl
theorem dX10_spot_138 : decode cX10_spot 138 = .ok (.getfield 52, 3) := zrD zrw_cX10_spot_118 (i := 20) (by decide +kernel) rfl
theorem dX10_spot_141 : decode cX10_spot 141 = .ok (.getfield 128, 3) := zrD zrw_cX10_spot_118 (i := 23) (by decide +kernel) rfl
theorem dX10_spot_144 : decode cX10_spot 144 = .ok (.iload_n 1, 1) := zrD zrw_cX10_spot_118 (i := 26) (by decide +kernel) rfl
theorem dX10_spot_145 : decode cX10_spot 145 = .ok (.invokestatic 131, 3) := zrD zrw_cX10_spot_118 (i := 27) (by decide +kernel) rfl
def zrk_cX10_spot_148 : ByteArray := .mk #[153, 0, 7, 4, 167, 0, 4, 3, 172, 42, 180, 0, 26, 180, 0, 135, 27, 46, 172, 42, 180, 0, 34, 180, 0, 138, 27, 46, 172, 42]
theorem zrw_cX10_spot_148 : zrW 148 cX10_spot zrk_cX10_spot_148 := by unfold zrW; decide +kernel
theorem dX10_spot_148 : decode cX10_spot 148 = .ok (.ifCond .eq 7, 3) := zrD zrw_cX10_spot_148 (i := 0) (by decide +kernel) rfl
theorem dX10_spot_151 : decode cX10_spot 151 = .ok (.iconst 1, 1) := zrD zrw_cX10_spot_148 (i := 3) (by decide +kernel) rfl
theorem dX10_spot_152 : decode cX10_spot 152 = .ok (.goto 4, 3) := zrD zrw_cX10_spot_148 (i := 4) (by decide +kernel) rfl
theorem dX10_spot_155 : decode cX10_spot 155 = .ok (.iconst 0, 1) := zrD zrw_cX10_spot_148 (i := 7) (by decide +kernel) rfl
theorem dX10_spot_156 : decode cX10_spot 156 = .ok (.ireturn, 1) := zrD zrw_cX10_spot_148 (i := 8) (by decide +kernel) rfl
theorem dX10_spot_157 : decode cX10_spot 157 = .ok (.aload_n 0, 1) := zrD zrw_cX10_spot_148 (i := 9) (by decide +kernel) rfl
theorem dX10_spot_158 : decode cX10_spot 158 = .ok (.getfield 26, 3) := zrD zrw_cX10_spot_148 (i := 10) (by decide +kernel) rfl
theorem dX10_spot_161 : decode cX10_spot 161 = .ok (.getfield 135, 3) := zrD zrw_cX10_spot_148 (i := 13) (by decide +kernel) rfl
theorem dX10_spot_164 : decode cX10_spot 164 = .ok (.iload_n 1, 1) := zrD zrw_cX10_spot_148 (i := 16) (by decide +kernel) rfl
theorem dX10_spot_165 : decode cX10_spot 165 = .ok (.iaload, 1) := zrD zrw_cX10_spot_148 (i := 17) (by decide +kernel) rfl
theorem dX10_spot_166 : decode cX10_spot 166 = .ok (.ireturn, 1) := zrD zrw_cX10_spot_148 (i := 18) (by decide +kernel) rfl
theorem dX10_spot_167 : decode cX10_spot 167 = .ok (.aload_n 0, 1) := zrD zrw_cX10_spot_148 (i := 19) (by decide +kernel) rfl
theorem dX10_spot_168 : decode cX10_spot 168 = .ok (.getfield 34, 3) := zrD zrw_cX10_spot_148 (i := 20) (by decide +kernel) rfl
theorem dX10_spot_171 : decode cX10_spot 171 = .ok (.getfield 138, 3) := zrD zrw_cX10_spot_148 (i := 23) (by decide +kernel) rfl
theorem dX10_spot_174 : decode cX10_spot 174 = .ok (.iload_n 1, 1) := zrD zrw_cX10_spot_148 (i := 26) (by decide +kernel) rfl
theorem dX10_spot_175 : decode cX10_spot 175 = .ok (.iaload, 1) := zrD zrw_cX10_spot_148 (i := 27) (by decide +kernel) rfl
theorem dX10_spot_176 : decode cX10_spot 176 = .ok (.ireturn, 1) := zrD zrw_cX10_spot_148 (i := 28) (by decide +kernel) rfl
theorem dX10_spot_177 : decode cX10_spot 177 = .ok (.aload_n 0, 1) := zrD zrw_cX10_spot_148 (i := 29) (by decide +kernel) rfl
def zrk_cX10_spot_178 : ByteArray := .mk #[180, 0, 34, 180, 0, 143, 27, 46, 172, 42, 180, 0, 34, 27, 182, 0, 146, 153, 0, 7, 4, 167, 0, 4, 3, 172, 42, 180, 0, 52]
theorem zrw_cX10_spot_178 : zrW 178 cX10_spot zrk_cX10_spot_178 := by unfold zrW; decide +kernel
theorem dX10_spot_178 : decode cX10_spot 178 = .ok (.getfield 34, 3) := zrD zrw_cX10_spot_178 (i := 0) (by decide +kernel) rfl
theorem dX10_spot_181 : decode cX10_spot 181 = .ok (.getfield 143, 3) := zrD zrw_cX10_spot_178 (i := 3) (by decide +kernel) rfl
theorem dX10_spot_184 : decode cX10_spot 184 = .ok (.iload_n 1, 1) := zrD zrw_cX10_spot_178 (i := 6) (by decide +kernel) rfl
theorem dX10_spot_185 : decode cX10_spot 185 = .ok (.iaload, 1) := zrD zrw_cX10_spot_178 (i := 7) (by decide +kernel) rfl
theorem dX10_spot_186 : decode cX10_spot 186 = .ok (.ireturn, 1) := zrD zrw_cX10_spot_178 (i := 8) (by decide +kernel) rfl
theorem dX10_spot_187 : decode cX10_spot 187 = .ok (.aload_n 0, 1) := zrD zrw_cX10_spot_178 (i := 9) (by decide +kernel) rfl
theorem dX10_spot_188 : decode cX10_spot 188 = .ok (.getfield 34, 3) := zrD zrw_cX10_spot_178 (i := 10) (by decide +kernel) rfl
theorem dX10_spot_191 : decode cX10_spot 191 = .ok (.iload_n 1, 1) := zrD zrw_cX10_spot_178 (i := 13) (by decide +kernel) rfl
theorem dX10_spot_192 : decode cX10_spot 192 = .ok (.invokevirtual 146, 3) := zrD zrw_cX10_spot_178 (i := 14) (by decide +kernel) rfl
theorem dX10_spot_195 : decode cX10_spot 195 = .ok (.ifCond .eq 7, 3) := zrD zrw_cX10_spot_178 (i := 17) (by decide +kernel) rfl
theorem dX10_spot_198 : decode cX10_spot 198 = .ok (.iconst 1, 1) := zrD zrw_cX10_spot_178 (i := 20) (by decide +kernel) rfl
theorem dX10_spot_199 : decode cX10_spot 199 = .ok (.goto 4, 3) := zrD zrw_cX10_spot_178 (i := 21) (by decide +kernel) rfl
theorem dX10_spot_202 : decode cX10_spot 202 = .ok (.iconst 0, 1) := zrD zrw_cX10_spot_178 (i := 24) (by decide +kernel) rfl
theorem dX10_spot_203 : decode cX10_spot 203 = .ok (.ireturn, 1) := zrD zrw_cX10_spot_178 (i := 25) (by decide +kernel) rfl
theorem dX10_spot_204 : decode cX10_spot 204 = .ok (.aload_n 0, 1) := zrD zrw_cX10_spot_178 (i := 26) (by decide +kernel) rfl
theorem dX10_spot_205 : decode cX10_spot 205 = .ok (.getfield 52, 3) := zrD zrw_cX10_spot_178 (i := 27) (by decide +kernel) rfl
def zrk_cX10_spot_208 : ByteArray := .mk #[180, 0, 149, 27, 46, 172, 42, 180, 0, 52, 180, 0, 152, 27, 46, 172, 42, 180, 0, 26, 180, 0, 155, 27, 46, 172, 42, 180, 0, 26, 27]
theorem zrw_cX10_spot_208 : zrW 208 cX10_spot zrk_cX10_spot_208 := by unfold zrW; decide +kernel
theorem dX10_spot_208 : decode cX10_spot 208 = .ok (.getfield 149, 3) := zrD zrw_cX10_spot_208 (i := 0) (by decide +kernel) rfl
theorem dX10_spot_211 : decode cX10_spot 211 = .ok (.iload_n 1, 1) := zrD zrw_cX10_spot_208 (i := 3) (by decide +kernel) rfl
theorem dX10_spot_212 : decode cX10_spot 212 = .ok (.iaload, 1) := zrD zrw_cX10_spot_208 (i := 4) (by decide +kernel) rfl
theorem dX10_spot_213 : decode cX10_spot 213 = .ok (.ireturn, 1) := zrD zrw_cX10_spot_208 (i := 5) (by decide +kernel) rfl
theorem dX10_spot_214 : decode cX10_spot 214 = .ok (.aload_n 0, 1) := zrD zrw_cX10_spot_208 (i := 6) (by decide +kernel) rfl
theorem dX10_spot_215 : decode cX10_spot 215 = .ok (.getfield 52, 3) := zrD zrw_cX10_spot_208 (i := 7) (by decide +kernel) rfl
theorem dX10_spot_218 : decode cX10_spot 218 = .ok (.getfield 152, 3) := zrD zrw_cX10_spot_208 (i := 10) (by decide +kernel) rfl
theorem dX10_spot_221 : decode cX10_spot 221 = .ok (.iload_n 1, 1) := zrD zrw_cX10_spot_208 (i := 13) (by decide +kernel) rfl
theorem dX10_spot_222 : decode cX10_spot 222 = .ok (.iaload, 1) := zrD zrw_cX10_spot_208 (i := 14) (by decide +kernel) rfl
theorem dX10_spot_223 : decode cX10_spot 223 = .ok (.ireturn, 1) := zrD zrw_cX10_spot_208 (i := 15) (by decide +kernel) rfl
theorem dX10_spot_224 : decode cX10_spot 224 = .ok (.aload_n 0, 1) := zrD zrw_cX10_spot_208 (i := 16) (by decide +kernel) rfl
theorem dX10_spot_225 : decode cX10_spot 225 = .ok (.getfield 26, 3) := zrD zrw_cX10_spot_208 (i := 17) (by decide +kernel) rfl
theorem dX10_spot_228 : decode cX10_spot 228 = .ok (.getfield 155, 3) := zrD zrw_cX10_spot_208 (i := 20) (by decide +kernel) rfl
theorem dX10_spot_231 : decode cX10_spot 231 = .ok (.iload_n 1, 1) := zrD zrw_cX10_spot_208 (i := 23) (by decide +kernel) rfl
theorem dX10_spot_232 : decode cX10_spot 232 = .ok (.iaload, 1) := zrD zrw_cX10_spot_208 (i := 24) (by decide +kernel) rfl
theorem dX10_spot_233 : decode cX10_spot 233 = .ok (.ireturn, 1) := zrD zrw_cX10_spot_208 (i := 25) (by decide +kernel) rfl
theorem dX10_spot_234 : decode cX10_spot 234 = .ok (.aload_n 0, 1) := zrD zrw_cX10_spot_208 (i := 26) (by decide +kernel) rfl
theorem dX10_spot_235 : decode cX10_spot 235 = .ok (.getfield 26, 3) := zrD zrw_cX10_spot_208 (i := 27) (by decide +kernel) rfl
theorem dX10_spot_238 : decode cX10_spot 238 = .ok (.iload_n 1, 1) := zrD zrw_cX10_spot_208 (i := 30) (by decide +kernel) rfl
def zrk_cX10_spot_239 : ByteArray := .mk #[182, 0, 158, 172]
theorem zrw_cX10_spot_239 : zrW 239 cX10_spot zrk_cX10_spot_239 := by unfold zrW; decide +kernel
theorem dX10_spot_239 : decode cX10_spot 239 = .ok (.invokevirtual 158, 3) := zrD zrw_cX10_spot_239 (i := 0) (by decide +kernel) rfl
theorem dX10_spot_242 : decode cX10_spot 242 = .ok (.ireturn, 1) := zrD zrw_cX10_spot_239 (i := 3) (by decide +kernel) rfl
def zrk_cX10_claim_0 : ByteArray := .mk #[42, 27, 28, 182, 0, 162, 153, 0, 15, 42, 180, 0, 26, 27, 28, 182, 0, 165, 167, 0, 4, 2, 172]
theorem zrw_cX10_claim_0 : zrW 0 cX10_claim zrk_cX10_claim_0 := by unfold zrW; decide +kernel
theorem dX10_claim_0 : decode cX10_claim 0 = .ok (.aload_n 0, 1) := zrD zrw_cX10_claim_0 (i := 0) (by decide +kernel) rfl
theorem dX10_claim_1 : decode cX10_claim 1 = .ok (.iload_n 1, 1) := zrD zrw_cX10_claim_0 (i := 1) (by decide +kernel) rfl
theorem dX10_claim_2 : decode cX10_claim 2 = .ok (.iload_n 2, 1) := zrD zrw_cX10_claim_0 (i := 2) (by decide +kernel) rfl
theorem dX10_claim_3 : decode cX10_claim 3 = .ok (.invokevirtual 162, 3) := zrD zrw_cX10_claim_0 (i := 3) (by decide +kernel) rfl
theorem dX10_claim_6 : decode cX10_claim 6 = .ok (.ifCond .eq 15, 3) := zrD zrw_cX10_claim_0 (i := 6) (by decide +kernel) rfl
theorem dX10_claim_9 : decode cX10_claim 9 = .ok (.aload_n 0, 1) := zrD zrw_cX10_claim_0 (i := 9) (by decide +kernel) rfl
theorem dX10_claim_10 : decode cX10_claim 10 = .ok (.getfield 26, 3) := zrD zrw_cX10_claim_0 (i := 10) (by decide +kernel) rfl
theorem dX10_claim_13 : decode cX10_claim 13 = .ok (.iload_n 1, 1) := zrD zrw_cX10_claim_0 (i := 13) (by decide +kernel) rfl
theorem dX10_claim_14 : decode cX10_claim 14 = .ok (.iload_n 2, 1) := zrD zrw_cX10_claim_0 (i := 14) (by decide +kernel) rfl
theorem dX10_claim_15 : decode cX10_claim 15 = .ok (.invokevirtual 165, 3) := zrD zrw_cX10_claim_0 (i := 15) (by decide +kernel) rfl
theorem dX10_claim_18 : decode cX10_claim 18 = .ok (.goto 4, 3) := zrD zrw_cX10_claim_0 (i := 18) (by decide +kernel) rfl
theorem dX10_claim_21 : decode cX10_claim 21 = .ok (.iconst (-1), 1) := zrD zrw_cX10_claim_0 (i := 21) (by decide +kernel) rfl
theorem dX10_claim_22 : decode cX10_claim 22 = .ok (.ireturn, 1) := zrD zrw_cX10_claim_0 (i := 22) (by decide +kernel) rfl
def zrk_cX10_winner_0 : ByteArray := .mk #[42, 27, 182, 0, 169, 154, 0, 5, 2, 172, 42, 182, 0, 113, 42, 180, 0, 26, 27, 182, 0, 172, 172]
theorem zrw_cX10_winner_0 : zrW 0 cX10_winner zrk_cX10_winner_0 := by unfold zrW; decide +kernel
theorem dX10_winner_0 : decode cX10_winner 0 = .ok (.aload_n 0, 1) := zrD zrw_cX10_winner_0 (i := 0) (by decide +kernel) rfl
theorem dX10_winner_1 : decode cX10_winner 1 = .ok (.iload_n 1, 1) := zrD zrw_cX10_winner_0 (i := 1) (by decide +kernel) rfl
theorem dX10_winner_2 : decode cX10_winner 2 = .ok (.invokevirtual 169, 3) := zrD zrw_cX10_winner_0 (i := 2) (by decide +kernel) rfl
theorem dX10_winner_5 : decode cX10_winner 5 = .ok (.ifCond .ne 5, 3) := zrD zrw_cX10_winner_0 (i := 5) (by decide +kernel) rfl
theorem dX10_winner_8 : decode cX10_winner 8 = .ok (.iconst (-1), 1) := zrD zrw_cX10_winner_0 (i := 8) (by decide +kernel) rfl
theorem dX10_winner_9 : decode cX10_winner 9 = .ok (.ireturn, 1) := zrD zrw_cX10_winner_0 (i := 9) (by decide +kernel) rfl
theorem dX10_winner_10 : decode cX10_winner 10 = .ok (.aload_n 0, 1) := zrD zrw_cX10_winner_0 (i := 10) (by decide +kernel) rfl
theorem dX10_winner_11 : decode cX10_winner 11 = .ok (.invokevirtual 113, 3) := zrD zrw_cX10_winner_0 (i := 11) (by decide +kernel) rfl
theorem dX10_winner_14 : decode cX10_winner 14 = .ok (.aload_n 0, 1) := zrD zrw_cX10_winner_0 (i := 14) (by decide +kernel) rfl
theorem dX10_winner_15 : decode cX10_winner 15 = .ok (.getfield 26, 3) := zrD zrw_cX10_winner_0 (i := 15) (by decide +kernel) rfl
theorem dX10_winner_18 : decode cX10_winner 18 = .ok (.iload_n 1, 1) := zrD zrw_cX10_winner_0 (i := 18) (by decide +kernel) rfl
theorem dX10_winner_19 : decode cX10_winner 19 = .ok (.invokevirtual 172, 3) := zrD zrw_cX10_winner_0 (i := 19) (by decide +kernel) rfl
theorem dX10_winner_22 : decode cX10_winner 22 = .ok (.ireturn, 1) := zrD zrw_cX10_winner_0 (i := 22) (by decide +kernel) rfl
def zrk_cX10_count_0 : ByteArray := .mk #[42, 182, 0, 113, 27]
theorem zrw_cX10_count_0 : zrW 0 cX10_count zrk_cX10_count_0 := by unfold zrW; decide +kernel
theorem dX10_count_0 : decode cX10_count 0 = .ok (.aload_n 0, 1) := zrD zrw_cX10_count_0 (i := 0) (by decide +kernel) rfl
theorem dX10_count_1 : decode cX10_count 1 = .ok (.invokevirtual 113, 3) := zrD zrw_cX10_count_0 (i := 1) (by decide +kernel) rfl
theorem dX10_count_4 : decode cX10_count 4 = .ok (.iload_n 1, 1) := zrD zrw_cX10_count_0 (i := 4) (by decide +kernel) rfl
theorem dX10_count_5 : decode cX10_count 5 = .ok (.tableswitch 247 0 16 #[83, 91, 99, 107, 115, 123, 131, 136, 148, 156, 164, 172, 180, 210, 222, 227, 239], 83) := by decide +kernel
def zrk_cX10_count_88 : ByteArray := .mk #[42, 180, 0, 70, 180, 0, 175, 172, 42, 180, 0, 52, 180, 0, 178, 172, 42, 180, 0, 52, 182, 0, 181, 172, 42, 180, 0, 52, 180, 0, 185, 172]
theorem zrw_cX10_count_88 : zrW 88 cX10_count zrk_cX10_count_88 := by unfold zrW; decide +kernel
theorem dX10_count_88 : decode cX10_count 88 = .ok (.aload_n 0, 1) := zrD zrw_cX10_count_88 (i := 0) (by decide +kernel) rfl
theorem dX10_count_89 : decode cX10_count 89 = .ok (.getfield 70, 3) := zrD zrw_cX10_count_88 (i := 1) (by decide +kernel) rfl
theorem dX10_count_92 : decode cX10_count 92 = .ok (.getfield 175, 3) := zrD zrw_cX10_count_88 (i := 4) (by decide +kernel) rfl
theorem dX10_count_95 : decode cX10_count 95 = .ok (.ireturn, 1) := zrD zrw_cX10_count_88 (i := 7) (by decide +kernel) rfl
theorem dX10_count_96 : decode cX10_count 96 = .ok (.aload_n 0, 1) := zrD zrw_cX10_count_88 (i := 8) (by decide +kernel) rfl
theorem dX10_count_97 : decode cX10_count 97 = .ok (.getfield 52, 3) := zrD zrw_cX10_count_88 (i := 9) (by decide +kernel) rfl
theorem dX10_count_100 : decode cX10_count 100 = .ok (.getfield 178, 3) := zrD zrw_cX10_count_88 (i := 12) (by decide +kernel) rfl
theorem dX10_count_103 : decode cX10_count 103 = .ok (.ireturn, 1) := zrD zrw_cX10_count_88 (i := 15) (by decide +kernel) rfl
theorem dX10_count_104 : decode cX10_count 104 = .ok (.aload_n 0, 1) := zrD zrw_cX10_count_88 (i := 16) (by decide +kernel) rfl
theorem dX10_count_105 : decode cX10_count 105 = .ok (.getfield 52, 3) := zrD zrw_cX10_count_88 (i := 17) (by decide +kernel) rfl
theorem dX10_count_108 : decode cX10_count 108 = .ok (.invokevirtual 181, 3) := zrD zrw_cX10_count_88 (i := 20) (by decide +kernel) rfl
theorem dX10_count_111 : decode cX10_count 111 = .ok (.ireturn, 1) := zrD zrw_cX10_count_88 (i := 23) (by decide +kernel) rfl
theorem dX10_count_112 : decode cX10_count 112 = .ok (.aload_n 0, 1) := zrD zrw_cX10_count_88 (i := 24) (by decide +kernel) rfl
theorem dX10_count_113 : decode cX10_count 113 = .ok (.getfield 52, 3) := zrD zrw_cX10_count_88 (i := 25) (by decide +kernel) rfl
theorem dX10_count_116 : decode cX10_count 116 = .ok (.getfield 185, 3) := zrD zrw_cX10_count_88 (i := 28) (by decide +kernel) rfl
theorem dX10_count_119 : decode cX10_count 119 = .ok (.ireturn, 1) := zrD zrw_cX10_count_88 (i := 31) (by decide +kernel) rfl
def zrk_cX10_count_120 : ByteArray := .mk #[42, 180, 0, 34, 182, 0, 188, 172, 42, 180, 0, 52, 180, 0, 128, 172, 42, 182, 0, 191, 172, 42, 42, 180, 0, 52, 180, 0, 152, 182, 0, 194]
theorem zrw_cX10_count_120 : zrW 120 cX10_count zrk_cX10_count_120 := by unfold zrW; decide +kernel
theorem dX10_count_120 : decode cX10_count 120 = .ok (.aload_n 0, 1) := zrD zrw_cX10_count_120 (i := 0) (by decide +kernel) rfl
theorem dX10_count_121 : decode cX10_count 121 = .ok (.getfield 34, 3) := zrD zrw_cX10_count_120 (i := 1) (by decide +kernel) rfl
theorem dX10_count_124 : decode cX10_count 124 = .ok (.invokevirtual 188, 3) := zrD zrw_cX10_count_120 (i := 4) (by decide +kernel) rfl
theorem dX10_count_127 : decode cX10_count 127 = .ok (.ireturn, 1) := zrD zrw_cX10_count_120 (i := 7) (by decide +kernel) rfl
theorem dX10_count_128 : decode cX10_count 128 = .ok (.aload_n 0, 1) := zrD zrw_cX10_count_120 (i := 8) (by decide +kernel) rfl
theorem dX10_count_129 : decode cX10_count 129 = .ok (.getfield 52, 3) := zrD zrw_cX10_count_120 (i := 9) (by decide +kernel) rfl
theorem dX10_count_132 : decode cX10_count 132 = .ok (.getfield 128, 3) := zrD zrw_cX10_count_120 (i := 12) (by decide +kernel) rfl
theorem dX10_count_135 : decode cX10_count 135 = .ok (.ireturn, 1) := zrD zrw_cX10_count_120 (i := 15) (by decide +kernel) rfl
theorem dX10_count_136 : decode cX10_count 136 = .ok (.aload_n 0, 1) := zrD zrw_cX10_count_120 (i := 16) (by decide +kernel) rfl
theorem dX10_count_137 : decode cX10_count 137 = .ok (.invokevirtual 191, 3) := zrD zrw_cX10_count_120 (i := 17) (by decide +kernel) rfl
theorem dX10_count_140 : decode cX10_count 140 = .ok (.ireturn, 1) := zrD zrw_cX10_count_120 (i := 20) (by decide +kernel) rfl
theorem dX10_count_141 : decode cX10_count 141 = .ok (.aload_n 0, 1) := zrD zrw_cX10_count_120 (i := 21) (by decide +kernel) rfl
theorem dX10_count_142 : decode cX10_count 142 = .ok (.aload_n 0, 1) := zrD zrw_cX10_count_120 (i := 22) (by decide +kernel) rfl
theorem dX10_count_143 : decode cX10_count 143 = .ok (.getfield 52, 3) := zrD zrw_cX10_count_120 (i := 23) (by decide +kernel) rfl
theorem dX10_count_146 : decode cX10_count 146 = .ok (.getfield 152, 3) := zrD zrw_cX10_count_120 (i := 26) (by decide +kernel) rfl
theorem dX10_count_149 : decode cX10_count 149 = .ok (.invokevirtual 194, 3) := zrD zrw_cX10_count_120 (i := 29) (by decide +kernel) rfl
def zrk_cX10_count_152 : ByteArray := .mk #[172, 42, 180, 0, 10, 180, 0, 84, 172, 42, 180, 0, 38, 180, 0, 107, 172, 42, 180, 0, 45, 180, 0, 108, 172, 42, 180, 0, 77, 184, 0, 198]
theorem zrw_cX10_count_152 : zrW 152 cX10_count zrk_cX10_count_152 := by unfold zrW; decide +kernel
theorem dX10_count_152 : decode cX10_count 152 = .ok (.ireturn, 1) := zrD zrw_cX10_count_152 (i := 0) (by decide +kernel) rfl
theorem dX10_count_153 : decode cX10_count 153 = .ok (.aload_n 0, 1) := zrD zrw_cX10_count_152 (i := 1) (by decide +kernel) rfl
theorem dX10_count_154 : decode cX10_count 154 = .ok (.getfield 10, 3) := zrD zrw_cX10_count_152 (i := 2) (by decide +kernel) rfl
theorem dX10_count_157 : decode cX10_count 157 = .ok (.getfield 84, 3) := zrD zrw_cX10_count_152 (i := 5) (by decide +kernel) rfl
theorem dX10_count_160 : decode cX10_count 160 = .ok (.ireturn, 1) := zrD zrw_cX10_count_152 (i := 8) (by decide +kernel) rfl
theorem dX10_count_161 : decode cX10_count 161 = .ok (.aload_n 0, 1) := zrD zrw_cX10_count_152 (i := 9) (by decide +kernel) rfl
theorem dX10_count_162 : decode cX10_count 162 = .ok (.getfield 38, 3) := zrD zrw_cX10_count_152 (i := 10) (by decide +kernel) rfl
theorem dX10_count_165 : decode cX10_count 165 = .ok (.getfield 107, 3) := zrD zrw_cX10_count_152 (i := 13) (by decide +kernel) rfl
theorem dX10_count_168 : decode cX10_count 168 = .ok (.ireturn, 1) := zrD zrw_cX10_count_152 (i := 16) (by decide +kernel) rfl
theorem dX10_count_169 : decode cX10_count 169 = .ok (.aload_n 0, 1) := zrD zrw_cX10_count_152 (i := 17) (by decide +kernel) rfl
theorem dX10_count_170 : decode cX10_count 170 = .ok (.getfield 45, 3) := zrD zrw_cX10_count_152 (i := 18) (by decide +kernel) rfl
theorem dX10_count_173 : decode cX10_count 173 = .ok (.getfield 108, 3) := zrD zrw_cX10_count_152 (i := 21) (by decide +kernel) rfl
theorem dX10_count_176 : decode cX10_count 176 = .ok (.ireturn, 1) := zrD zrw_cX10_count_152 (i := 24) (by decide +kernel) rfl
theorem dX10_count_177 : decode cX10_count 177 = .ok (.aload_n 0, 1) := zrD zrw_cX10_count_152 (i := 25) (by decide +kernel) rfl
theorem dX10_count_178 : decode cX10_count 178 = .ok (.getfield 77, 3) := zrD zrw_cX10_count_152 (i := 26) (by decide +kernel) rfl
theorem dX10_count_181 : decode cX10_count 181 = .ok (.invokestatic 198, 3) := zrD zrw_cX10_count_152 (i := 29) (by decide +kernel) rfl
def zrk_cX10_count_184 : ByteArray := .mk #[172, 42, 180, 0, 70, 42, 180, 0, 70, 180, 0, 203, 42, 180, 0, 52, 180, 0, 178, 182, 0, 206, 153, 0, 7, 4, 167, 0, 4, 3, 172, 42]
theorem zrw_cX10_count_184 : zrW 184 cX10_count zrk_cX10_count_184 := by unfold zrW; decide +kernel
theorem dX10_count_184 : decode cX10_count 184 = .ok (.ireturn, 1) := zrD zrw_cX10_count_184 (i := 0) (by decide +kernel) rfl
theorem dX10_count_185 : decode cX10_count 185 = .ok (.aload_n 0, 1) := zrD zrw_cX10_count_184 (i := 1) (by decide +kernel) rfl
theorem dX10_count_186 : decode cX10_count 186 = .ok (.getfield 70, 3) := zrD zrw_cX10_count_184 (i := 2) (by decide +kernel) rfl
theorem dX10_count_189 : decode cX10_count 189 = .ok (.aload_n 0, 1) := zrD zrw_cX10_count_184 (i := 5) (by decide +kernel) rfl
theorem dX10_count_190 : decode cX10_count 190 = .ok (.getfield 70, 3) := zrD zrw_cX10_count_184 (i := 6) (by decide +kernel) rfl
theorem dX10_count_193 : decode cX10_count 193 = .ok (.getfield 203, 3) := zrD zrw_cX10_count_184 (i := 9) (by decide +kernel) rfl
theorem dX10_count_196 : decode cX10_count 196 = .ok (.aload_n 0, 1) := zrD zrw_cX10_count_184 (i := 12) (by decide +kernel) rfl
theorem dX10_count_197 : decode cX10_count 197 = .ok (.getfield 52, 3) := zrD zrw_cX10_count_184 (i := 13) (by decide +kernel) rfl
theorem dX10_count_200 : decode cX10_count 200 = .ok (.getfield 178, 3) := zrD zrw_cX10_count_184 (i := 16) (by decide +kernel) rfl
theorem dX10_count_203 : decode cX10_count 203 = .ok (.invokevirtual 206, 3) := zrD zrw_cX10_count_184 (i := 19) (by decide +kernel) rfl
theorem dX10_count_206 : decode cX10_count 206 = .ok (.ifCond .eq 7, 3) := zrD zrw_cX10_count_184 (i := 22) (by decide +kernel) rfl
theorem dX10_count_209 : decode cX10_count 209 = .ok (.iconst 1, 1) := zrD zrw_cX10_count_184 (i := 25) (by decide +kernel) rfl
theorem dX10_count_210 : decode cX10_count 210 = .ok (.goto 4, 3) := zrD zrw_cX10_count_184 (i := 26) (by decide +kernel) rfl
theorem dX10_count_213 : decode cX10_count 213 = .ok (.iconst 0, 1) := zrD zrw_cX10_count_184 (i := 29) (by decide +kernel) rfl
theorem dX10_count_214 : decode cX10_count 214 = .ok (.ireturn, 1) := zrD zrw_cX10_count_184 (i := 30) (by decide +kernel) rfl
theorem dX10_count_215 : decode cX10_count 215 = .ok (.aload_n 0, 1) := zrD zrw_cX10_count_184 (i := 31) (by decide +kernel) rfl
def zrk_cX10_count_216 : ByteArray := .mk #[42, 180, 0, 70, 180, 0, 119, 182, 0, 194, 172, 42, 182, 0, 209, 172, 42, 42, 180, 0, 70, 180, 0, 122, 182, 0, 194, 172, 42, 180, 0, 34]
theorem zrw_cX10_count_216 : zrW 216 cX10_count zrk_cX10_count_216 := by unfold zrW; decide +kernel
theorem dX10_count_216 : decode cX10_count 216 = .ok (.aload_n 0, 1) := zrD zrw_cX10_count_216 (i := 0) (by decide +kernel) rfl
theorem dX10_count_217 : decode cX10_count 217 = .ok (.getfield 70, 3) := zrD zrw_cX10_count_216 (i := 1) (by decide +kernel) rfl
theorem dX10_count_220 : decode cX10_count 220 = .ok (.getfield 119, 3) := zrD zrw_cX10_count_216 (i := 4) (by decide +kernel) rfl
theorem dX10_count_223 : decode cX10_count 223 = .ok (.invokevirtual 194, 3) := zrD zrw_cX10_count_216 (i := 7) (by decide +kernel) rfl
theorem dX10_count_226 : decode cX10_count 226 = .ok (.ireturn, 1) := zrD zrw_cX10_count_216 (i := 10) (by decide +kernel) rfl
theorem dX10_count_227 : decode cX10_count 227 = .ok (.aload_n 0, 1) := zrD zrw_cX10_count_216 (i := 11) (by decide +kernel) rfl
theorem dX10_count_228 : decode cX10_count 228 = .ok (.invokevirtual 209, 3) := zrD zrw_cX10_count_216 (i := 12) (by decide +kernel) rfl
theorem dX10_count_231 : decode cX10_count 231 = .ok (.ireturn, 1) := zrD zrw_cX10_count_216 (i := 15) (by decide +kernel) rfl
theorem dX10_count_232 : decode cX10_count 232 = .ok (.aload_n 0, 1) := zrD zrw_cX10_count_216 (i := 16) (by decide +kernel) rfl
theorem dX10_count_233 : decode cX10_count 233 = .ok (.aload_n 0, 1) := zrD zrw_cX10_count_216 (i := 17) (by decide +kernel) rfl
theorem dX10_count_234 : decode cX10_count 234 = .ok (.getfield 70, 3) := zrD zrw_cX10_count_216 (i := 18) (by decide +kernel) rfl
theorem dX10_count_237 : decode cX10_count 237 = .ok (.getfield 122, 3) := zrD zrw_cX10_count_216 (i := 21) (by decide +kernel) rfl
theorem dX10_count_240 : decode cX10_count 240 = .ok (.invokevirtual 194, 3) := zrD zrw_cX10_count_216 (i := 24) (by decide +kernel) rfl
theorem dX10_count_243 : decode cX10_count 243 = .ok (.ireturn, 1) := zrD zrw_cX10_count_216 (i := 27) (by decide +kernel) rfl
theorem dX10_count_244 : decode cX10_count 244 = .ok (.aload_n 0, 1) := zrD zrw_cX10_count_216 (i := 28) (by decide +kernel) rfl
theorem dX10_count_245 : decode cX10_count 245 = .ok (.getfield 34, 3) := zrD zrw_cX10_count_216 (i := 29) (by decide +kernel) rfl
def zrk_cX10_count_248 : ByteArray := .mk #[182, 0, 212, 172, 2, 172]
theorem zrw_cX10_count_248 : zrW 248 cX10_count zrk_cX10_count_248 := by unfold zrW; decide +kernel
theorem dX10_count_248 : decode cX10_count 248 = .ok (.invokevirtual 212, 3) := zrD zrw_cX10_count_248 (i := 0) (by decide +kernel) rfl
theorem dX10_count_251 : decode cX10_count 251 = .ok (.ireturn, 1) := zrD zrw_cX10_count_248 (i := 3) (by decide +kernel) rfl
theorem dX10_count_252 : decode cX10_count 252 = .ok (.iconst (-1), 1) := zrD zrw_cX10_count_248 (i := 4) (by decide +kernel) rfl
theorem dX10_count_253 : decode cX10_count 253 = .ok (.ireturn, 1) := zrD zrw_cX10_count_248 (i := 5) (by decide +kernel) rfl
def zrk_cX10_sumOf_0 : ByteArray := .mk #[3, 61, 3, 62, 29, 42, 180, 0, 70, 180, 0, 175, 162, 0, 15, 28, 43, 29, 46, 96, 61, 132, 3, 1, 167, 255, 236, 28, 172]
theorem zrw_cX10_sumOf_0 : zrW 0 cX10_sumOf zrk_cX10_sumOf_0 := by unfold zrW; decide +kernel
theorem dX10_sumOf_0 : decode cX10_sumOf 0 = .ok (.iconst 0, 1) := zrD zrw_cX10_sumOf_0 (i := 0) (by decide +kernel) rfl
theorem dX10_sumOf_1 : decode cX10_sumOf 1 = .ok (.istore_n 2, 1) := zrD zrw_cX10_sumOf_0 (i := 1) (by decide +kernel) rfl
theorem dX10_sumOf_2 : decode cX10_sumOf 2 = .ok (.iconst 0, 1) := zrD zrw_cX10_sumOf_0 (i := 2) (by decide +kernel) rfl
theorem dX10_sumOf_3 : decode cX10_sumOf 3 = .ok (.istore_n 3, 1) := zrD zrw_cX10_sumOf_0 (i := 3) (by decide +kernel) rfl
theorem dX10_sumOf_4 : decode cX10_sumOf 4 = .ok (.iload_n 3, 1) := zrD zrw_cX10_sumOf_0 (i := 4) (by decide +kernel) rfl
theorem dX10_sumOf_5 : decode cX10_sumOf 5 = .ok (.aload_n 0, 1) := zrD zrw_cX10_sumOf_0 (i := 5) (by decide +kernel) rfl
theorem dX10_sumOf_6 : decode cX10_sumOf 6 = .ok (.getfield 70, 3) := zrD zrw_cX10_sumOf_0 (i := 6) (by decide +kernel) rfl
theorem dX10_sumOf_9 : decode cX10_sumOf 9 = .ok (.getfield 175, 3) := zrD zrw_cX10_sumOf_0 (i := 9) (by decide +kernel) rfl
theorem dX10_sumOf_12 : decode cX10_sumOf 12 = .ok (.if_icmp .ge 15, 3) := zrD zrw_cX10_sumOf_0 (i := 12) (by decide +kernel) rfl
theorem dX10_sumOf_15 : decode cX10_sumOf 15 = .ok (.iload_n 2, 1) := zrD zrw_cX10_sumOf_0 (i := 15) (by decide +kernel) rfl
theorem dX10_sumOf_16 : decode cX10_sumOf 16 = .ok (.aload_n 1, 1) := zrD zrw_cX10_sumOf_0 (i := 16) (by decide +kernel) rfl
theorem dX10_sumOf_17 : decode cX10_sumOf 17 = .ok (.iload_n 3, 1) := zrD zrw_cX10_sumOf_0 (i := 17) (by decide +kernel) rfl
theorem dX10_sumOf_18 : decode cX10_sumOf 18 = .ok (.iaload, 1) := zrD zrw_cX10_sumOf_0 (i := 18) (by decide +kernel) rfl
theorem dX10_sumOf_19 : decode cX10_sumOf 19 = .ok (.iadd, 1) := zrD zrw_cX10_sumOf_0 (i := 19) (by decide +kernel) rfl
theorem dX10_sumOf_20 : decode cX10_sumOf 20 = .ok (.istore_n 2, 1) := zrD zrw_cX10_sumOf_0 (i := 20) (by decide +kernel) rfl
theorem dX10_sumOf_21 : decode cX10_sumOf 21 = .ok (.iinc 3 1, 3) := zrD zrw_cX10_sumOf_0 (i := 21) (by decide +kernel) rfl
theorem dX10_sumOf_24 : decode cX10_sumOf 24 = .ok (.goto (-20), 3) := zrD zrw_cX10_sumOf_0 (i := 24) (by decide +kernel) rfl
theorem dX10_sumOf_27 : decode cX10_sumOf 27 = .ok (.iload_n 2, 1) := zrD zrw_cX10_sumOf_0 (i := 27) (by decide +kernel) rfl
theorem dX10_sumOf_28 : decode cX10_sumOf 28 = .ok (.ireturn, 1) := zrD zrw_cX10_sumOf_0 (i := 28) (by decide +kernel) rfl
def zrk_cX10_turnedPlaces_0 : ByteArray := .mk #[3, 60, 4, 61, 28, 42, 180, 0, 70, 180, 0, 175, 162, 0, 37, 42, 180, 0, 52, 180, 0, 116, 28, 46, 42, 180, 0, 70, 180, 0, 215, 28]
theorem zrw_cX10_turnedPlaces_0 : zrW 0 cX10_turnedPlaces zrk_cX10_turnedPlaces_0 := by unfold zrW; decide +kernel
theorem dX10_turnedPlaces_0 : decode cX10_turnedPlaces 0 = .ok (.iconst 0, 1) := zrD zrw_cX10_turnedPlaces_0 (i := 0) (by decide +kernel) rfl
theorem dX10_turnedPlaces_1 : decode cX10_turnedPlaces 1 = .ok (.istore_n 1, 1) := zrD zrw_cX10_turnedPlaces_0 (i := 1) (by decide +kernel) rfl
theorem dX10_turnedPlaces_2 : decode cX10_turnedPlaces 2 = .ok (.iconst 1, 1) := zrD zrw_cX10_turnedPlaces_0 (i := 2) (by decide +kernel) rfl
theorem dX10_turnedPlaces_3 : decode cX10_turnedPlaces 3 = .ok (.istore_n 2, 1) := zrD zrw_cX10_turnedPlaces_0 (i := 3) (by decide +kernel) rfl
theorem dX10_turnedPlaces_4 : decode cX10_turnedPlaces 4 = .ok (.iload_n 2, 1) := zrD zrw_cX10_turnedPlaces_0 (i := 4) (by decide +kernel) rfl
theorem dX10_turnedPlaces_5 : decode cX10_turnedPlaces 5 = .ok (.aload_n 0, 1) := zrD zrw_cX10_turnedPlaces_0 (i := 5) (by decide +kernel) rfl
theorem dX10_turnedPlaces_6 : decode cX10_turnedPlaces 6 = .ok (.getfield 70, 3) := zrD zrw_cX10_turnedPlaces_0 (i := 6) (by decide +kernel) rfl
theorem dX10_turnedPlaces_9 : decode cX10_turnedPlaces 9 = .ok (.getfield 175, 3) := zrD zrw_cX10_turnedPlaces_0 (i := 9) (by decide +kernel) rfl
theorem dX10_turnedPlaces_12 : decode cX10_turnedPlaces 12 = .ok (.if_icmp .ge 37, 3) := zrD zrw_cX10_turnedPlaces_0 (i := 12) (by decide +kernel) rfl
theorem dX10_turnedPlaces_15 : decode cX10_turnedPlaces 15 = .ok (.aload_n 0, 1) := zrD zrw_cX10_turnedPlaces_0 (i := 15) (by decide +kernel) rfl
theorem dX10_turnedPlaces_16 : decode cX10_turnedPlaces 16 = .ok (.getfield 52, 3) := zrD zrw_cX10_turnedPlaces_0 (i := 16) (by decide +kernel) rfl
theorem dX10_turnedPlaces_19 : decode cX10_turnedPlaces 19 = .ok (.getfield 116, 3) := zrD zrw_cX10_turnedPlaces_0 (i := 19) (by decide +kernel) rfl
theorem dX10_turnedPlaces_22 : decode cX10_turnedPlaces 22 = .ok (.iload_n 2, 1) := zrD zrw_cX10_turnedPlaces_0 (i := 22) (by decide +kernel) rfl
theorem dX10_turnedPlaces_23 : decode cX10_turnedPlaces 23 = .ok (.iaload, 1) := zrD zrw_cX10_turnedPlaces_0 (i := 23) (by decide +kernel) rfl
theorem dX10_turnedPlaces_24 : decode cX10_turnedPlaces 24 = .ok (.aload_n 0, 1) := zrD zrw_cX10_turnedPlaces_0 (i := 24) (by decide +kernel) rfl
theorem dX10_turnedPlaces_25 : decode cX10_turnedPlaces 25 = .ok (.getfield 70, 3) := zrD zrw_cX10_turnedPlaces_0 (i := 25) (by decide +kernel) rfl
theorem dX10_turnedPlaces_28 : decode cX10_turnedPlaces 28 = .ok (.getfield 215, 3) := zrD zrw_cX10_turnedPlaces_0 (i := 28) (by decide +kernel) rfl
theorem dX10_turnedPlaces_31 : decode cX10_turnedPlaces 31 = .ok (.iload_n 2, 1) := zrD zrw_cX10_turnedPlaces_0 (i := 31) (by decide +kernel) rfl
def zrk_cX10_turnedPlaces_32 : ByteArray := .mk #[46, 159, 0, 10, 27, 28, 184, 0, 216, 128, 60, 132, 2, 1, 167, 255, 214, 27, 172]
theorem zrw_cX10_turnedPlaces_32 : zrW 32 cX10_turnedPlaces zrk_cX10_turnedPlaces_32 := by unfold zrW; decide +kernel
theorem dX10_turnedPlaces_32 : decode cX10_turnedPlaces 32 = .ok (.iaload, 1) := zrD zrw_cX10_turnedPlaces_32 (i := 0) (by decide +kernel) rfl
theorem dX10_turnedPlaces_33 : decode cX10_turnedPlaces 33 = .ok (.if_icmp .eq 10, 3) := zrD zrw_cX10_turnedPlaces_32 (i := 1) (by decide +kernel) rfl
theorem dX10_turnedPlaces_36 : decode cX10_turnedPlaces 36 = .ok (.iload_n 1, 1) := zrD zrw_cX10_turnedPlaces_32 (i := 4) (by decide +kernel) rfl
theorem dX10_turnedPlaces_37 : decode cX10_turnedPlaces 37 = .ok (.iload_n 2, 1) := zrD zrw_cX10_turnedPlaces_32 (i := 5) (by decide +kernel) rfl
theorem dX10_turnedPlaces_38 : decode cX10_turnedPlaces 38 = .ok (.invokestatic 216, 3) := zrD zrw_cX10_turnedPlaces_32 (i := 6) (by decide +kernel) rfl
theorem dX10_turnedPlaces_41 : decode cX10_turnedPlaces 41 = .ok (.ior, 1) := zrD zrw_cX10_turnedPlaces_32 (i := 9) (by decide +kernel) rfl
theorem dX10_turnedPlaces_42 : decode cX10_turnedPlaces 42 = .ok (.istore_n 1, 1) := zrD zrw_cX10_turnedPlaces_32 (i := 10) (by decide +kernel) rfl
theorem dX10_turnedPlaces_43 : decode cX10_turnedPlaces 43 = .ok (.iinc 2 1, 3) := zrD zrw_cX10_turnedPlaces_32 (i := 11) (by decide +kernel) rfl
theorem dX10_turnedPlaces_46 : decode cX10_turnedPlaces 46 = .ok (.goto (-42), 3) := zrD zrw_cX10_turnedPlaces_32 (i := 14) (by decide +kernel) rfl
theorem dX10_turnedPlaces_49 : decode cX10_turnedPlaces 49 = .ok (.iload_n 1, 1) := zrD zrw_cX10_turnedPlaces_32 (i := 17) (by decide +kernel) rfl
theorem dX10_turnedPlaces_50 : decode cX10_turnedPlaces 50 = .ok (.ireturn, 1) := zrD zrw_cX10_turnedPlaces_32 (i := 18) (by decide +kernel) rfl
def zrk_cX10_dam_0 : ByteArray := .mk #[27, 153, 0, 26, 42, 27, 182, 0, 109, 153, 0, 18, 42, 180, 0, 52, 180, 0, 128, 27, 184, 0, 131, 28, 160, 0, 5, 3, 172, 42]
theorem zrw_cX10_dam_0 : zrW 0 cX10_dam zrk_cX10_dam_0 := by unfold zrW; decide +kernel
theorem dX10_dam_0 : decode cX10_dam 0 = .ok (.iload_n 1, 1) := zrD zrw_cX10_dam_0 (i := 0) (by decide +kernel) rfl
theorem dX10_dam_1 : decode cX10_dam 1 = .ok (.ifCond .eq 26, 3) := zrD zrw_cX10_dam_0 (i := 1) (by decide +kernel) rfl
theorem dX10_dam_4 : decode cX10_dam 4 = .ok (.aload_n 0, 1) := zrD zrw_cX10_dam_0 (i := 4) (by decide +kernel) rfl
theorem dX10_dam_5 : decode cX10_dam 5 = .ok (.iload_n 1, 1) := zrD zrw_cX10_dam_0 (i := 5) (by decide +kernel) rfl
theorem dX10_dam_6 : decode cX10_dam 6 = .ok (.invokevirtual 109, 3) := zrD zrw_cX10_dam_0 (i := 6) (by decide +kernel) rfl
theorem dX10_dam_9 : decode cX10_dam 9 = .ok (.ifCond .eq 18, 3) := zrD zrw_cX10_dam_0 (i := 9) (by decide +kernel) rfl
theorem dX10_dam_12 : decode cX10_dam 12 = .ok (.aload_n 0, 1) := zrD zrw_cX10_dam_0 (i := 12) (by decide +kernel) rfl
theorem dX10_dam_13 : decode cX10_dam 13 = .ok (.getfield 52, 3) := zrD zrw_cX10_dam_0 (i := 13) (by decide +kernel) rfl
theorem dX10_dam_16 : decode cX10_dam 16 = .ok (.getfield 128, 3) := zrD zrw_cX10_dam_0 (i := 16) (by decide +kernel) rfl
theorem dX10_dam_19 : decode cX10_dam 19 = .ok (.iload_n 1, 1) := zrD zrw_cX10_dam_0 (i := 19) (by decide +kernel) rfl
theorem dX10_dam_20 : decode cX10_dam 20 = .ok (.invokestatic 131, 3) := zrD zrw_cX10_dam_0 (i := 20) (by decide +kernel) rfl
theorem dX10_dam_23 : decode cX10_dam 23 = .ok (.iload_n 2, 1) := zrD zrw_cX10_dam_0 (i := 23) (by decide +kernel) rfl
theorem dX10_dam_24 : decode cX10_dam 24 = .ok (.if_icmp .ne 5, 3) := zrD zrw_cX10_dam_0 (i := 24) (by decide +kernel) rfl
theorem dX10_dam_27 : decode cX10_dam 27 = .ok (.iconst 0, 1) := zrD zrw_cX10_dam_0 (i := 27) (by decide +kernel) rfl
theorem dX10_dam_28 : decode cX10_dam 28 = .ok (.ireturn, 1) := zrD zrw_cX10_dam_0 (i := 28) (by decide +kernel) rfl
theorem dX10_dam_29 : decode cX10_dam 29 = .ok (.aload_n 0, 1) := zrD zrw_cX10_dam_0 (i := 29) (by decide +kernel) rfl
def zrk_cX10_dam_30 : ByteArray := .mk #[180, 0, 38, 42, 180, 0, 52, 182, 0, 219, 42, 180, 0, 52, 89, 180, 0, 128, 27, 184, 0, 216, 130, 181, 0, 128, 4, 172]
theorem zrw_cX10_dam_30 : zrW 30 cX10_dam zrk_cX10_dam_30 := by unfold zrW; decide +kernel
theorem dX10_dam_30 : decode cX10_dam 30 = .ok (.getfield 38, 3) := zrD zrw_cX10_dam_30 (i := 0) (by decide +kernel) rfl
theorem dX10_dam_33 : decode cX10_dam 33 = .ok (.aload_n 0, 1) := zrD zrw_cX10_dam_30 (i := 3) (by decide +kernel) rfl
theorem dX10_dam_34 : decode cX10_dam 34 = .ok (.getfield 52, 3) := zrD zrw_cX10_dam_30 (i := 4) (by decide +kernel) rfl
theorem dX10_dam_37 : decode cX10_dam 37 = .ok (.invokevirtual 219, 3) := zrD zrw_cX10_dam_30 (i := 7) (by decide +kernel) rfl
theorem dX10_dam_40 : decode cX10_dam 40 = .ok (.aload_n 0, 1) := zrD zrw_cX10_dam_30 (i := 10) (by decide +kernel) rfl
theorem dX10_dam_41 : decode cX10_dam 41 = .ok (.getfield 52, 3) := zrD zrw_cX10_dam_30 (i := 11) (by decide +kernel) rfl
theorem dX10_dam_44 : decode cX10_dam 44 = .ok (.dup, 1) := zrD zrw_cX10_dam_30 (i := 14) (by decide +kernel) rfl
theorem dX10_dam_45 : decode cX10_dam 45 = .ok (.getfield 128, 3) := zrD zrw_cX10_dam_30 (i := 15) (by decide +kernel) rfl
theorem dX10_dam_48 : decode cX10_dam 48 = .ok (.iload_n 1, 1) := zrD zrw_cX10_dam_30 (i := 18) (by decide +kernel) rfl
theorem dX10_dam_49 : decode cX10_dam 49 = .ok (.invokestatic 216, 3) := zrD zrw_cX10_dam_30 (i := 19) (by decide +kernel) rfl
theorem dX10_dam_52 : decode cX10_dam 52 = .ok (.ixor, 1) := zrD zrw_cX10_dam_30 (i := 22) (by decide +kernel) rfl
theorem dX10_dam_53 : decode cX10_dam 53 = .ok (.putfield 128, 3) := zrD zrw_cX10_dam_30 (i := 23) (by decide +kernel) rfl
theorem dX10_dam_56 : decode cX10_dam 56 = .ok (.iconst 1, 1) := zrD zrw_cX10_dam_30 (i := 26) (by decide +kernel) rfl
theorem dX10_dam_57 : decode cX10_dam 57 = .ok (.ireturn, 1) := zrD zrw_cX10_dam_30 (i := 27) (by decide +kernel) rfl
def zrk_cX10_turn_0 : ByteArray := .mk #[42, 27, 28, 182, 0, 223, 154, 0, 5, 3, 172, 42, 180, 0, 38, 42, 180, 0, 52, 182, 0, 219, 42, 180, 0, 52, 180, 0, 116, 27, 28, 79]
theorem zrw_cX10_turn_0 : zrW 0 cX10_turn zrk_cX10_turn_0 := by unfold zrW; decide +kernel
theorem dX10_turn_0 : decode cX10_turn 0 = .ok (.aload_n 0, 1) := zrD zrw_cX10_turn_0 (i := 0) (by decide +kernel) rfl
theorem dX10_turn_1 : decode cX10_turn 1 = .ok (.iload_n 1, 1) := zrD zrw_cX10_turn_0 (i := 1) (by decide +kernel) rfl
theorem dX10_turn_2 : decode cX10_turn 2 = .ok (.iload_n 2, 1) := zrD zrw_cX10_turn_0 (i := 2) (by decide +kernel) rfl
theorem dX10_turn_3 : decode cX10_turn 3 = .ok (.invokevirtual 223, 3) := zrD zrw_cX10_turn_0 (i := 3) (by decide +kernel) rfl
theorem dX10_turn_6 : decode cX10_turn 6 = .ok (.ifCond .ne 5, 3) := zrD zrw_cX10_turn_0 (i := 6) (by decide +kernel) rfl
theorem dX10_turn_9 : decode cX10_turn 9 = .ok (.iconst 0, 1) := zrD zrw_cX10_turn_0 (i := 9) (by decide +kernel) rfl
theorem dX10_turn_10 : decode cX10_turn 10 = .ok (.ireturn, 1) := zrD zrw_cX10_turn_0 (i := 10) (by decide +kernel) rfl
theorem dX10_turn_11 : decode cX10_turn 11 = .ok (.aload_n 0, 1) := zrD zrw_cX10_turn_0 (i := 11) (by decide +kernel) rfl
theorem dX10_turn_12 : decode cX10_turn 12 = .ok (.getfield 38, 3) := zrD zrw_cX10_turn_0 (i := 12) (by decide +kernel) rfl
theorem dX10_turn_15 : decode cX10_turn 15 = .ok (.aload_n 0, 1) := zrD zrw_cX10_turn_0 (i := 15) (by decide +kernel) rfl
theorem dX10_turn_16 : decode cX10_turn 16 = .ok (.getfield 52, 3) := zrD zrw_cX10_turn_0 (i := 16) (by decide +kernel) rfl
theorem dX10_turn_19 : decode cX10_turn 19 = .ok (.invokevirtual 219, 3) := zrD zrw_cX10_turn_0 (i := 19) (by decide +kernel) rfl
theorem dX10_turn_22 : decode cX10_turn 22 = .ok (.aload_n 0, 1) := zrD zrw_cX10_turn_0 (i := 22) (by decide +kernel) rfl
theorem dX10_turn_23 : decode cX10_turn 23 = .ok (.getfield 52, 3) := zrD zrw_cX10_turn_0 (i := 23) (by decide +kernel) rfl
theorem dX10_turn_26 : decode cX10_turn 26 = .ok (.getfield 116, 3) := zrD zrw_cX10_turn_0 (i := 26) (by decide +kernel) rfl
theorem dX10_turn_29 : decode cX10_turn 29 = .ok (.iload_n 1, 1) := zrD zrw_cX10_turn_0 (i := 29) (by decide +kernel) rfl
theorem dX10_turn_30 : decode cX10_turn 30 = .ok (.iload_n 2, 1) := zrD zrw_cX10_turn_0 (i := 30) (by decide +kernel) rfl
theorem dX10_turn_31 : decode cX10_turn 31 = .ok (.iastore, 1) := zrD zrw_cX10_turn_0 (i := 31) (by decide +kernel) rfl
def zrk_cX10_turn_32 : ByteArray := .mk #[4, 172]
theorem zrw_cX10_turn_32 : zrW 32 cX10_turn zrk_cX10_turn_32 := by unfold zrW; decide +kernel
theorem dX10_turn_32 : decode cX10_turn 32 = .ok (.iconst 1, 1) := zrD zrw_cX10_turn_32 (i := 0) (by decide +kernel) rfl
theorem dX10_turn_33 : decode cX10_turn 33 = .ok (.ireturn, 1) := zrD zrw_cX10_turn_32 (i := 1) (by decide +kernel) rfl
def zrk_cX10_isTurn_0 : ByteArray := .mk #[27, 153, 0, 48, 42, 27, 182, 0, 109, 153, 0, 40, 42, 28, 182, 0, 109, 153, 0, 32, 42, 180, 0, 52, 180, 0, 116, 27, 46, 28]
theorem zrw_cX10_isTurn_0 : zrW 0 cX10_isTurn zrk_cX10_isTurn_0 := by unfold zrW; decide +kernel
theorem dX10_isTurn_0 : decode cX10_isTurn 0 = .ok (.iload_n 1, 1) := zrD zrw_cX10_isTurn_0 (i := 0) (by decide +kernel) rfl
theorem dX10_isTurn_1 : decode cX10_isTurn 1 = .ok (.ifCond .eq 48, 3) := zrD zrw_cX10_isTurn_0 (i := 1) (by decide +kernel) rfl
theorem dX10_isTurn_4 : decode cX10_isTurn 4 = .ok (.aload_n 0, 1) := zrD zrw_cX10_isTurn_0 (i := 4) (by decide +kernel) rfl
theorem dX10_isTurn_5 : decode cX10_isTurn 5 = .ok (.iload_n 1, 1) := zrD zrw_cX10_isTurn_0 (i := 5) (by decide +kernel) rfl
theorem dX10_isTurn_6 : decode cX10_isTurn 6 = .ok (.invokevirtual 109, 3) := zrD zrw_cX10_isTurn_0 (i := 6) (by decide +kernel) rfl
theorem dX10_isTurn_9 : decode cX10_isTurn 9 = .ok (.ifCond .eq 40, 3) := zrD zrw_cX10_isTurn_0 (i := 9) (by decide +kernel) rfl
theorem dX10_isTurn_12 : decode cX10_isTurn 12 = .ok (.aload_n 0, 1) := zrD zrw_cX10_isTurn_0 (i := 12) (by decide +kernel) rfl
theorem dX10_isTurn_13 : decode cX10_isTurn 13 = .ok (.iload_n 2, 1) := zrD zrw_cX10_isTurn_0 (i := 13) (by decide +kernel) rfl
theorem dX10_isTurn_14 : decode cX10_isTurn 14 = .ok (.invokevirtual 109, 3) := zrD zrw_cX10_isTurn_0 (i := 14) (by decide +kernel) rfl
theorem dX10_isTurn_17 : decode cX10_isTurn 17 = .ok (.ifCond .eq 32, 3) := zrD zrw_cX10_isTurn_0 (i := 17) (by decide +kernel) rfl
theorem dX10_isTurn_20 : decode cX10_isTurn 20 = .ok (.aload_n 0, 1) := zrD zrw_cX10_isTurn_0 (i := 20) (by decide +kernel) rfl
theorem dX10_isTurn_21 : decode cX10_isTurn 21 = .ok (.getfield 52, 3) := zrD zrw_cX10_isTurn_0 (i := 21) (by decide +kernel) rfl
theorem dX10_isTurn_24 : decode cX10_isTurn 24 = .ok (.getfield 116, 3) := zrD zrw_cX10_isTurn_0 (i := 24) (by decide +kernel) rfl
theorem dX10_isTurn_27 : decode cX10_isTurn 27 = .ok (.iload_n 1, 1) := zrD zrw_cX10_isTurn_0 (i := 27) (by decide +kernel) rfl
theorem dX10_isTurn_28 : decode cX10_isTurn 28 = .ok (.iaload, 1) := zrD zrw_cX10_isTurn_0 (i := 28) (by decide +kernel) rfl
theorem dX10_isTurn_29 : decode cX10_isTurn 29 = .ok (.iload_n 2, 1) := zrD zrw_cX10_isTurn_0 (i := 29) (by decide +kernel) rfl
def zrk_cX10_isTurn_30 : ByteArray := .mk #[159, 0, 19, 42, 180, 0, 52, 28, 27, 182, 0, 226, 154, 0, 7, 4, 167, 0, 4, 3, 172]
theorem zrw_cX10_isTurn_30 : zrW 30 cX10_isTurn zrk_cX10_isTurn_30 := by unfold zrW; decide +kernel
theorem dX10_isTurn_30 : decode cX10_isTurn 30 = .ok (.if_icmp .eq 19, 3) := zrD zrw_cX10_isTurn_30 (i := 0) (by decide +kernel) rfl
theorem dX10_isTurn_33 : decode cX10_isTurn 33 = .ok (.aload_n 0, 1) := zrD zrw_cX10_isTurn_30 (i := 3) (by decide +kernel) rfl
theorem dX10_isTurn_34 : decode cX10_isTurn 34 = .ok (.getfield 52, 3) := zrD zrw_cX10_isTurn_30 (i := 4) (by decide +kernel) rfl
theorem dX10_isTurn_37 : decode cX10_isTurn 37 = .ok (.iload_n 2, 1) := zrD zrw_cX10_isTurn_30 (i := 7) (by decide +kernel) rfl
theorem dX10_isTurn_38 : decode cX10_isTurn 38 = .ok (.iload_n 1, 1) := zrD zrw_cX10_isTurn_30 (i := 8) (by decide +kernel) rfl
theorem dX10_isTurn_39 : decode cX10_isTurn 39 = .ok (.invokevirtual 226, 3) := zrD zrw_cX10_isTurn_30 (i := 9) (by decide +kernel) rfl
theorem dX10_isTurn_42 : decode cX10_isTurn 42 = .ok (.ifCond .ne 7, 3) := zrD zrw_cX10_isTurn_30 (i := 12) (by decide +kernel) rfl
theorem dX10_isTurn_45 : decode cX10_isTurn 45 = .ok (.iconst 1, 1) := zrD zrw_cX10_isTurn_30 (i := 15) (by decide +kernel) rfl
theorem dX10_isTurn_46 : decode cX10_isTurn 46 = .ok (.goto 4, 3) := zrD zrw_cX10_isTurn_30 (i := 16) (by decide +kernel) rfl
theorem dX10_isTurn_49 : decode cX10_isTurn 49 = .ok (.iconst 0, 1) := zrD zrw_cX10_isTurn_30 (i := 19) (by decide +kernel) rfl
theorem dX10_isTurn_50 : decode cX10_isTurn 50 = .ok (.ireturn, 1) := zrD zrw_cX10_isTurn_30 (i := 20) (by decide +kernel) rfl
def zrk_cX10_rule_0 : ByteArray := .mk #[42, 27, 182, 0, 169, 153, 0, 14, 42, 180, 0, 52, 180, 0, 185, 27, 160, 0, 5, 3, 172, 42, 180, 0, 38, 42, 180, 0, 52, 182, 0, 219]
theorem zrw_cX10_rule_0 : zrW 0 cX10_rule zrk_cX10_rule_0 := by unfold zrW; decide +kernel
theorem dX10_rule_0 : decode cX10_rule 0 = .ok (.aload_n 0, 1) := zrD zrw_cX10_rule_0 (i := 0) (by decide +kernel) rfl
theorem dX10_rule_1 : decode cX10_rule 1 = .ok (.iload_n 1, 1) := zrD zrw_cX10_rule_0 (i := 1) (by decide +kernel) rfl
theorem dX10_rule_2 : decode cX10_rule 2 = .ok (.invokevirtual 169, 3) := zrD zrw_cX10_rule_0 (i := 2) (by decide +kernel) rfl
theorem dX10_rule_5 : decode cX10_rule 5 = .ok (.ifCond .eq 14, 3) := zrD zrw_cX10_rule_0 (i := 5) (by decide +kernel) rfl
theorem dX10_rule_8 : decode cX10_rule 8 = .ok (.aload_n 0, 1) := zrD zrw_cX10_rule_0 (i := 8) (by decide +kernel) rfl
theorem dX10_rule_9 : decode cX10_rule 9 = .ok (.getfield 52, 3) := zrD zrw_cX10_rule_0 (i := 9) (by decide +kernel) rfl
theorem dX10_rule_12 : decode cX10_rule 12 = .ok (.getfield 185, 3) := zrD zrw_cX10_rule_0 (i := 12) (by decide +kernel) rfl
theorem dX10_rule_15 : decode cX10_rule 15 = .ok (.iload_n 1, 1) := zrD zrw_cX10_rule_0 (i := 15) (by decide +kernel) rfl
theorem dX10_rule_16 : decode cX10_rule 16 = .ok (.if_icmp .ne 5, 3) := zrD zrw_cX10_rule_0 (i := 16) (by decide +kernel) rfl
theorem dX10_rule_19 : decode cX10_rule 19 = .ok (.iconst 0, 1) := zrD zrw_cX10_rule_0 (i := 19) (by decide +kernel) rfl
theorem dX10_rule_20 : decode cX10_rule 20 = .ok (.ireturn, 1) := zrD zrw_cX10_rule_0 (i := 20) (by decide +kernel) rfl
theorem dX10_rule_21 : decode cX10_rule 21 = .ok (.aload_n 0, 1) := zrD zrw_cX10_rule_0 (i := 21) (by decide +kernel) rfl
theorem dX10_rule_22 : decode cX10_rule 22 = .ok (.getfield 38, 3) := zrD zrw_cX10_rule_0 (i := 22) (by decide +kernel) rfl
theorem dX10_rule_25 : decode cX10_rule 25 = .ok (.aload_n 0, 1) := zrD zrw_cX10_rule_0 (i := 25) (by decide +kernel) rfl
theorem dX10_rule_26 : decode cX10_rule 26 = .ok (.getfield 52, 3) := zrD zrw_cX10_rule_0 (i := 26) (by decide +kernel) rfl
theorem dX10_rule_29 : decode cX10_rule 29 = .ok (.invokevirtual 219, 3) := zrD zrw_cX10_rule_0 (i := 29) (by decide +kernel) rfl
def zrk_cX10_rule_32 : ByteArray := .mk #[42, 180, 0, 52, 27, 181, 0, 185, 4, 172]
theorem zrw_cX10_rule_32 : zrW 32 cX10_rule zrk_cX10_rule_32 := by unfold zrW; decide +kernel
theorem dX10_rule_32 : decode cX10_rule 32 = .ok (.aload_n 0, 1) := zrD zrw_cX10_rule_32 (i := 0) (by decide +kernel) rfl
theorem dX10_rule_33 : decode cX10_rule 33 = .ok (.getfield 52, 3) := zrD zrw_cX10_rule_32 (i := 1) (by decide +kernel) rfl
theorem dX10_rule_36 : decode cX10_rule 36 = .ok (.iload_n 1, 1) := zrD zrw_cX10_rule_32 (i := 4) (by decide +kernel) rfl
theorem dX10_rule_37 : decode cX10_rule 37 = .ok (.putfield 185, 3) := zrD zrw_cX10_rule_32 (i := 5) (by decide +kernel) rfl
theorem dX10_rule_40 : decode cX10_rule 40 = .ok (.iconst 1, 1) := zrD zrw_cX10_rule_32 (i := 8) (by decide +kernel) rfl
theorem dX10_rule_41 : decode cX10_rule 41 = .ok (.ireturn, 1) := zrD zrw_cX10_rule_32 (i := 9) (by decide +kernel) rfl
def zrk_cX10_months_0 : ByteArray := .mk #[27, 3, 16, 60, 184, 0, 229, 154, 0, 5, 2, 172, 27, 158, 0, 37, 42, 180, 0, 38, 42, 180, 0, 52, 182, 0, 219, 42, 180, 0, 26, 42]
theorem zrw_cX10_months_0 : zrW 0 cX10_months zrk_cX10_months_0 := by unfold zrW; decide +kernel
theorem dX10_months_0 : decode cX10_months 0 = .ok (.iload_n 1, 1) := zrD zrw_cX10_months_0 (i := 0) (by decide +kernel) rfl
theorem dX10_months_1 : decode cX10_months 1 = .ok (.iconst 0, 1) := zrD zrw_cX10_months_0 (i := 1) (by decide +kernel) rfl
theorem dX10_months_2 : decode cX10_months 2 = .ok (.bipush 60, 2) := zrD zrw_cX10_months_0 (i := 2) (by decide +kernel) rfl
theorem dX10_months_4 : decode cX10_months 4 = .ok (.invokestatic 229, 3) := zrD zrw_cX10_months_0 (i := 4) (by decide +kernel) rfl
theorem dX10_months_7 : decode cX10_months 7 = .ok (.ifCond .ne 5, 3) := zrD zrw_cX10_months_0 (i := 7) (by decide +kernel) rfl
theorem dX10_months_10 : decode cX10_months 10 = .ok (.iconst (-1), 1) := zrD zrw_cX10_months_0 (i := 10) (by decide +kernel) rfl
theorem dX10_months_11 : decode cX10_months 11 = .ok (.ireturn, 1) := zrD zrw_cX10_months_0 (i := 11) (by decide +kernel) rfl
theorem dX10_months_12 : decode cX10_months 12 = .ok (.iload_n 1, 1) := zrD zrw_cX10_months_0 (i := 12) (by decide +kernel) rfl
theorem dX10_months_13 : decode cX10_months 13 = .ok (.ifCond .le 37, 3) := zrD zrw_cX10_months_0 (i := 13) (by decide +kernel) rfl
theorem dX10_months_16 : decode cX10_months 16 = .ok (.aload_n 0, 1) := zrD zrw_cX10_months_0 (i := 16) (by decide +kernel) rfl
theorem dX10_months_17 : decode cX10_months 17 = .ok (.getfield 38, 3) := zrD zrw_cX10_months_0 (i := 17) (by decide +kernel) rfl
theorem dX10_months_20 : decode cX10_months 20 = .ok (.aload_n 0, 1) := zrD zrw_cX10_months_0 (i := 20) (by decide +kernel) rfl
theorem dX10_months_21 : decode cX10_months 21 = .ok (.getfield 52, 3) := zrD zrw_cX10_months_0 (i := 21) (by decide +kernel) rfl
theorem dX10_months_24 : decode cX10_months 24 = .ok (.invokevirtual 219, 3) := zrD zrw_cX10_months_0 (i := 24) (by decide +kernel) rfl
theorem dX10_months_27 : decode cX10_months 27 = .ok (.aload_n 0, 1) := zrD zrw_cX10_months_0 (i := 27) (by decide +kernel) rfl
theorem dX10_months_28 : decode cX10_months 28 = .ok (.getfield 26, 3) := zrD zrw_cX10_months_0 (i := 28) (by decide +kernel) rfl
theorem dX10_months_31 : decode cX10_months 31 = .ok (.aload_n 0, 1) := zrD zrw_cX10_months_0 (i := 31) (by decide +kernel) rfl
def zrk_cX10_months_32 : ByteArray := .mk #[180, 0, 70, 42, 180, 0, 52, 27, 42, 180, 0, 70, 180, 0, 203, 182, 0, 233, 42, 180, 0, 52, 180, 0, 178, 172]
theorem zrw_cX10_months_32 : zrW 32 cX10_months zrk_cX10_months_32 := by unfold zrW; decide +kernel
theorem dX10_months_32 : decode cX10_months 32 = .ok (.getfield 70, 3) := zrD zrw_cX10_months_32 (i := 0) (by decide +kernel) rfl
theorem dX10_months_35 : decode cX10_months 35 = .ok (.aload_n 0, 1) := zrD zrw_cX10_months_32 (i := 3) (by decide +kernel) rfl
theorem dX10_months_36 : decode cX10_months 36 = .ok (.getfield 52, 3) := zrD zrw_cX10_months_32 (i := 4) (by decide +kernel) rfl
theorem dX10_months_39 : decode cX10_months 39 = .ok (.iload_n 1, 1) := zrD zrw_cX10_months_32 (i := 7) (by decide +kernel) rfl
theorem dX10_months_40 : decode cX10_months 40 = .ok (.aload_n 0, 1) := zrD zrw_cX10_months_32 (i := 8) (by decide +kernel) rfl
theorem dX10_months_41 : decode cX10_months 41 = .ok (.getfield 70, 3) := zrD zrw_cX10_months_32 (i := 9) (by decide +kernel) rfl
theorem dX10_months_44 : decode cX10_months 44 = .ok (.getfield 203, 3) := zrD zrw_cX10_months_32 (i := 12) (by decide +kernel) rfl
theorem dX10_months_47 : decode cX10_months 47 = .ok (.invokevirtual 233, 3) := zrD zrw_cX10_months_32 (i := 15) (by decide +kernel) rfl
theorem dX10_months_50 : decode cX10_months 50 = .ok (.aload_n 0, 1) := zrD zrw_cX10_months_32 (i := 18) (by decide +kernel) rfl
theorem dX10_months_51 : decode cX10_months 51 = .ok (.getfield 52, 3) := zrD zrw_cX10_months_32 (i := 19) (by decide +kernel) rfl
theorem dX10_months_54 : decode cX10_months 54 = .ok (.getfield 178, 3) := zrD zrw_cX10_months_32 (i := 22) (by decide +kernel) rfl
theorem dX10_months_57 : decode cX10_months 57 = .ok (.ireturn, 1) := zrD zrw_cX10_months_32 (i := 25) (by decide +kernel) rfl
def zrk_cX10_undo_0 : ByteArray := .mk #[42, 180, 0, 38, 42, 180, 0, 52, 182, 0, 237, 172]
theorem zrw_cX10_undo_0 : zrW 0 cX10_undo zrk_cX10_undo_0 := by unfold zrW; decide +kernel
theorem dX10_undo_0 : decode cX10_undo 0 = .ok (.aload_n 0, 1) := zrD zrw_cX10_undo_0 (i := 0) (by decide +kernel) rfl
theorem dX10_undo_1 : decode cX10_undo 1 = .ok (.getfield 38, 3) := zrD zrw_cX10_undo_0 (i := 1) (by decide +kernel) rfl
theorem dX10_undo_4 : decode cX10_undo 4 = .ok (.aload_n 0, 1) := zrD zrw_cX10_undo_0 (i := 4) (by decide +kernel) rfl
theorem dX10_undo_5 : decode cX10_undo 5 = .ok (.getfield 52, 3) := zrD zrw_cX10_undo_0 (i := 5) (by decide +kernel) rfl
theorem dX10_undo_8 : decode cX10_undo 8 = .ok (.invokevirtual 237, 3) := zrD zrw_cX10_undo_0 (i := 8) (by decide +kernel) rfl
theorem dX10_undo_11 : decode cX10_undo 11 = .ok (.ireturn, 1) := zrD zrw_cX10_undo_0 (i := 11) (by decide +kernel) rfl
def zrk_cX10_hold_0 : ByteArray := .mk #[27, 3, 5, 184, 0, 229, 154, 0, 5, 3, 172, 42, 180, 0, 59, 27, 50, 42, 180, 0, 52, 182, 0, 241, 42, 89, 180, 0, 77, 27]
theorem zrw_cX10_hold_0 : zrW 0 cX10_hold zrk_cX10_hold_0 := by unfold zrW; decide +kernel
theorem dX10_hold_0 : decode cX10_hold 0 = .ok (.iload_n 1, 1) := zrD zrw_cX10_hold_0 (i := 0) (by decide +kernel) rfl
theorem dX10_hold_1 : decode cX10_hold 1 = .ok (.iconst 0, 1) := zrD zrw_cX10_hold_0 (i := 1) (by decide +kernel) rfl
theorem dX10_hold_2 : decode cX10_hold 2 = .ok (.iconst 2, 1) := zrD zrw_cX10_hold_0 (i := 2) (by decide +kernel) rfl
theorem dX10_hold_3 : decode cX10_hold 3 = .ok (.invokestatic 229, 3) := zrD zrw_cX10_hold_0 (i := 3) (by decide +kernel) rfl
theorem dX10_hold_6 : decode cX10_hold 6 = .ok (.ifCond .ne 5, 3) := zrD zrw_cX10_hold_0 (i := 6) (by decide +kernel) rfl
theorem dX10_hold_9 : decode cX10_hold 9 = .ok (.iconst 0, 1) := zrD zrw_cX10_hold_0 (i := 9) (by decide +kernel) rfl
theorem dX10_hold_10 : decode cX10_hold 10 = .ok (.ireturn, 1) := zrD zrw_cX10_hold_0 (i := 10) (by decide +kernel) rfl
theorem dX10_hold_11 : decode cX10_hold 11 = .ok (.aload_n 0, 1) := zrD zrw_cX10_hold_0 (i := 11) (by decide +kernel) rfl
theorem dX10_hold_12 : decode cX10_hold 12 = .ok (.getfield 59, 3) := zrD zrw_cX10_hold_0 (i := 12) (by decide +kernel) rfl
theorem dX10_hold_15 : decode cX10_hold 15 = .ok (.iload_n 1, 1) := zrD zrw_cX10_hold_0 (i := 15) (by decide +kernel) rfl
theorem dX10_hold_16 : decode cX10_hold 16 = .ok (.aaload, 1) := zrD zrw_cX10_hold_0 (i := 16) (by decide +kernel) rfl
theorem dX10_hold_17 : decode cX10_hold 17 = .ok (.aload_n 0, 1) := zrD zrw_cX10_hold_0 (i := 17) (by decide +kernel) rfl
theorem dX10_hold_18 : decode cX10_hold 18 = .ok (.getfield 52, 3) := zrD zrw_cX10_hold_0 (i := 18) (by decide +kernel) rfl
theorem dX10_hold_21 : decode cX10_hold 21 = .ok (.invokevirtual 241, 3) := zrD zrw_cX10_hold_0 (i := 21) (by decide +kernel) rfl
theorem dX10_hold_24 : decode cX10_hold 24 = .ok (.aload_n 0, 1) := zrD zrw_cX10_hold_0 (i := 24) (by decide +kernel) rfl
theorem dX10_hold_25 : decode cX10_hold 25 = .ok (.dup, 1) := zrD zrw_cX10_hold_0 (i := 25) (by decide +kernel) rfl
theorem dX10_hold_26 : decode cX10_hold 26 = .ok (.getfield 77, 3) := zrD zrw_cX10_hold_0 (i := 26) (by decide +kernel) rfl
theorem dX10_hold_29 : decode cX10_hold 29 = .ok (.iload_n 1, 1) := zrD zrw_cX10_hold_0 (i := 29) (by decide +kernel) rfl
def zrk_cX10_hold_30 : ByteArray := .mk #[184, 0, 216, 128, 181, 0, 77, 4, 172]
theorem zrw_cX10_hold_30 : zrW 30 cX10_hold zrk_cX10_hold_30 := by unfold zrW; decide +kernel
theorem dX10_hold_30 : decode cX10_hold 30 = .ok (.invokestatic 216, 3) := zrD zrw_cX10_hold_30 (i := 0) (by decide +kernel) rfl
theorem dX10_hold_33 : decode cX10_hold 33 = .ok (.ior, 1) := zrD zrw_cX10_hold_30 (i := 3) (by decide +kernel) rfl
theorem dX10_hold_34 : decode cX10_hold 34 = .ok (.putfield 77, 3) := zrD zrw_cX10_hold_30 (i := 4) (by decide +kernel) rfl
theorem dX10_hold_37 : decode cX10_hold 37 = .ok (.iconst 1, 1) := zrD zrw_cX10_hold_30 (i := 7) (by decide +kernel) rfl
theorem dX10_hold_38 : decode cX10_hold 38 = .ok (.ireturn, 1) := zrD zrw_cX10_hold_30 (i := 8) (by decide +kernel) rfl
def zrk_cX10_restore_0 : ByteArray := .mk #[27, 3, 5, 184, 0, 229, 153, 0, 14, 42, 180, 0, 77, 27, 184, 0, 131, 154, 0, 5, 3, 172, 42, 180, 0, 52, 42, 180, 0, 59, 27, 50]
theorem zrw_cX10_restore_0 : zrW 0 cX10_restore zrk_cX10_restore_0 := by unfold zrW; decide +kernel
theorem dX10_restore_0 : decode cX10_restore 0 = .ok (.iload_n 1, 1) := zrD zrw_cX10_restore_0 (i := 0) (by decide +kernel) rfl
theorem dX10_restore_1 : decode cX10_restore 1 = .ok (.iconst 0, 1) := zrD zrw_cX10_restore_0 (i := 1) (by decide +kernel) rfl
theorem dX10_restore_2 : decode cX10_restore 2 = .ok (.iconst 2, 1) := zrD zrw_cX10_restore_0 (i := 2) (by decide +kernel) rfl
theorem dX10_restore_3 : decode cX10_restore 3 = .ok (.invokestatic 229, 3) := zrD zrw_cX10_restore_0 (i := 3) (by decide +kernel) rfl
theorem dX10_restore_6 : decode cX10_restore 6 = .ok (.ifCond .eq 14, 3) := zrD zrw_cX10_restore_0 (i := 6) (by decide +kernel) rfl
theorem dX10_restore_9 : decode cX10_restore 9 = .ok (.aload_n 0, 1) := zrD zrw_cX10_restore_0 (i := 9) (by decide +kernel) rfl
theorem dX10_restore_10 : decode cX10_restore 10 = .ok (.getfield 77, 3) := zrD zrw_cX10_restore_0 (i := 10) (by decide +kernel) rfl
theorem dX10_restore_13 : decode cX10_restore 13 = .ok (.iload_n 1, 1) := zrD zrw_cX10_restore_0 (i := 13) (by decide +kernel) rfl
theorem dX10_restore_14 : decode cX10_restore 14 = .ok (.invokestatic 131, 3) := zrD zrw_cX10_restore_0 (i := 14) (by decide +kernel) rfl
theorem dX10_restore_17 : decode cX10_restore 17 = .ok (.ifCond .ne 5, 3) := zrD zrw_cX10_restore_0 (i := 17) (by decide +kernel) rfl
theorem dX10_restore_20 : decode cX10_restore 20 = .ok (.iconst 0, 1) := zrD zrw_cX10_restore_0 (i := 20) (by decide +kernel) rfl
theorem dX10_restore_21 : decode cX10_restore 21 = .ok (.ireturn, 1) := zrD zrw_cX10_restore_0 (i := 21) (by decide +kernel) rfl
theorem dX10_restore_22 : decode cX10_restore 22 = .ok (.aload_n 0, 1) := zrD zrw_cX10_restore_0 (i := 22) (by decide +kernel) rfl
theorem dX10_restore_23 : decode cX10_restore 23 = .ok (.getfield 52, 3) := zrD zrw_cX10_restore_0 (i := 23) (by decide +kernel) rfl
theorem dX10_restore_26 : decode cX10_restore 26 = .ok (.aload_n 0, 1) := zrD zrw_cX10_restore_0 (i := 26) (by decide +kernel) rfl
theorem dX10_restore_27 : decode cX10_restore 27 = .ok (.getfield 59, 3) := zrD zrw_cX10_restore_0 (i := 27) (by decide +kernel) rfl
theorem dX10_restore_30 : decode cX10_restore 30 = .ok (.iload_n 1, 1) := zrD zrw_cX10_restore_0 (i := 30) (by decide +kernel) rfl
theorem dX10_restore_31 : decode cX10_restore 31 = .ok (.aaload, 1) := zrD zrw_cX10_restore_0 (i := 31) (by decide +kernel) rfl
def zrk_cX10_restore_32 : ByteArray := .mk #[182, 0, 241, 42, 180, 0, 38, 3, 181, 0, 107, 4, 172]
theorem zrw_cX10_restore_32 : zrW 32 cX10_restore zrk_cX10_restore_32 := by unfold zrW; decide +kernel
theorem dX10_restore_32 : decode cX10_restore 32 = .ok (.invokevirtual 241, 3) := zrD zrw_cX10_restore_32 (i := 0) (by decide +kernel) rfl
theorem dX10_restore_35 : decode cX10_restore 35 = .ok (.aload_n 0, 1) := zrD zrw_cX10_restore_32 (i := 3) (by decide +kernel) rfl
theorem dX10_restore_36 : decode cX10_restore 36 = .ok (.getfield 38, 3) := zrD zrw_cX10_restore_32 (i := 4) (by decide +kernel) rfl
theorem dX10_restore_39 : decode cX10_restore 39 = .ok (.iconst 0, 1) := zrD zrw_cX10_restore_32 (i := 7) (by decide +kernel) rfl
theorem dX10_restore_40 : decode cX10_restore 40 = .ok (.putfield 107, 3) := zrD zrw_cX10_restore_32 (i := 8) (by decide +kernel) rfl
theorem dX10_restore_43 : decode cX10_restore 43 = .ok (.iconst 1, 1) := zrD zrw_cX10_restore_32 (i := 11) (by decide +kernel) rfl
theorem dX10_restore_44 : decode cX10_restore 44 = .ok (.ireturn, 1) := zrD zrw_cX10_restore_32 (i := 12) (by decide +kernel) rfl
def zrk_cX10_behind_0 : ByteArray := .mk #[42, 27, 28, 182, 0, 162, 154, 0, 5, 2, 172, 42, 180, 0, 26, 28, 182, 0, 172, 62, 29, 156, 0, 7, 2, 167, 0, 22, 42, 180, 0, 26]
theorem zrw_cX10_behind_0 : zrW 0 cX10_behind zrk_cX10_behind_0 := by unfold zrW; decide +kernel
theorem dX10_behind_0 : decode cX10_behind 0 = .ok (.aload_n 0, 1) := zrD zrw_cX10_behind_0 (i := 0) (by decide +kernel) rfl
theorem dX10_behind_1 : decode cX10_behind 1 = .ok (.iload_n 1, 1) := zrD zrw_cX10_behind_0 (i := 1) (by decide +kernel) rfl
theorem dX10_behind_2 : decode cX10_behind 2 = .ok (.iload_n 2, 1) := zrD zrw_cX10_behind_0 (i := 2) (by decide +kernel) rfl
theorem dX10_behind_3 : decode cX10_behind 3 = .ok (.invokevirtual 162, 3) := zrD zrw_cX10_behind_0 (i := 3) (by decide +kernel) rfl
theorem dX10_behind_6 : decode cX10_behind 6 = .ok (.ifCond .ne 5, 3) := zrD zrw_cX10_behind_0 (i := 6) (by decide +kernel) rfl
theorem dX10_behind_9 : decode cX10_behind 9 = .ok (.iconst (-1), 1) := zrD zrw_cX10_behind_0 (i := 9) (by decide +kernel) rfl
theorem dX10_behind_10 : decode cX10_behind 10 = .ok (.ireturn, 1) := zrD zrw_cX10_behind_0 (i := 10) (by decide +kernel) rfl
theorem dX10_behind_11 : decode cX10_behind 11 = .ok (.aload_n 0, 1) := zrD zrw_cX10_behind_0 (i := 11) (by decide +kernel) rfl
theorem dX10_behind_12 : decode cX10_behind 12 = .ok (.getfield 26, 3) := zrD zrw_cX10_behind_0 (i := 12) (by decide +kernel) rfl
theorem dX10_behind_15 : decode cX10_behind 15 = .ok (.iload_n 2, 1) := zrD zrw_cX10_behind_0 (i := 15) (by decide +kernel) rfl
theorem dX10_behind_16 : decode cX10_behind 16 = .ok (.invokevirtual 172, 3) := zrD zrw_cX10_behind_0 (i := 16) (by decide +kernel) rfl
theorem dX10_behind_19 : decode cX10_behind 19 = .ok (.istore_n 3, 1) := zrD zrw_cX10_behind_0 (i := 19) (by decide +kernel) rfl
theorem dX10_behind_20 : decode cX10_behind 20 = .ok (.iload_n 3, 1) := zrD zrw_cX10_behind_0 (i := 20) (by decide +kernel) rfl
theorem dX10_behind_21 : decode cX10_behind 21 = .ok (.ifCond .ge 7, 3) := zrD zrw_cX10_behind_0 (i := 21) (by decide +kernel) rfl
theorem dX10_behind_24 : decode cX10_behind 24 = .ok (.iconst (-1), 1) := zrD zrw_cX10_behind_0 (i := 24) (by decide +kernel) rfl
theorem dX10_behind_25 : decode cX10_behind 25 = .ok (.goto 22, 3) := zrD zrw_cX10_behind_0 (i := 25) (by decide +kernel) rfl
theorem dX10_behind_28 : decode cX10_behind 28 = .ok (.aload_n 0, 1) := zrD zrw_cX10_behind_0 (i := 28) (by decide +kernel) rfl
theorem dX10_behind_29 : decode cX10_behind 29 = .ok (.getfield 26, 3) := zrD zrw_cX10_behind_0 (i := 29) (by decide +kernel) rfl
def zrk_cX10_behind_32 : ByteArray := .mk #[180, 0, 244, 29, 46, 42, 180, 0, 26, 180, 0, 244, 27, 46, 100, 172]
theorem zrw_cX10_behind_32 : zrW 32 cX10_behind zrk_cX10_behind_32 := by unfold zrW; decide +kernel
theorem dX10_behind_32 : decode cX10_behind 32 = .ok (.getfield 244, 3) := zrD zrw_cX10_behind_32 (i := 0) (by decide +kernel) rfl
theorem dX10_behind_35 : decode cX10_behind 35 = .ok (.iload_n 3, 1) := zrD zrw_cX10_behind_32 (i := 3) (by decide +kernel) rfl
theorem dX10_behind_36 : decode cX10_behind 36 = .ok (.iaload, 1) := zrD zrw_cX10_behind_32 (i := 4) (by decide +kernel) rfl
theorem dX10_behind_37 : decode cX10_behind 37 = .ok (.aload_n 0, 1) := zrD zrw_cX10_behind_32 (i := 5) (by decide +kernel) rfl
theorem dX10_behind_38 : decode cX10_behind 38 = .ok (.getfield 26, 3) := zrD zrw_cX10_behind_32 (i := 6) (by decide +kernel) rfl
theorem dX10_behind_41 : decode cX10_behind 41 = .ok (.getfield 244, 3) := zrD zrw_cX10_behind_32 (i := 9) (by decide +kernel) rfl
theorem dX10_behind_44 : decode cX10_behind 44 = .ok (.iload_n 1, 1) := zrD zrw_cX10_behind_32 (i := 12) (by decide +kernel) rfl
theorem dX10_behind_45 : decode cX10_behind 45 = .ok (.iaload, 1) := zrD zrw_cX10_behind_32 (i := 13) (by decide +kernel) rfl
theorem dX10_behind_46 : decode cX10_behind 46 = .ok (.isub, 1) := zrD zrw_cX10_behind_32 (i := 14) (by decide +kernel) rfl
theorem dX10_behind_47 : decode cX10_behind 47 = .ok (.ireturn, 1) := zrD zrw_cX10_behind_32 (i := 15) (by decide +kernel) rfl
def zrk_cX10_margin_0 : ByteArray := .mk #[42, 27, 182, 0, 169, 154, 0, 5, 2, 172, 42, 182, 0, 113, 42, 180, 0, 26, 27, 182, 0, 247, 42, 180, 0, 26, 2, 182, 0, 250, 61, 42]
theorem zrw_cX10_margin_0 : zrW 0 cX10_margin zrk_cX10_margin_0 := by unfold zrW; decide +kernel
theorem dX10_margin_0 : decode cX10_margin 0 = .ok (.aload_n 0, 1) := zrD zrw_cX10_margin_0 (i := 0) (by decide +kernel) rfl
theorem dX10_margin_1 : decode cX10_margin 1 = .ok (.iload_n 1, 1) := zrD zrw_cX10_margin_0 (i := 1) (by decide +kernel) rfl
theorem dX10_margin_2 : decode cX10_margin 2 = .ok (.invokevirtual 169, 3) := zrD zrw_cX10_margin_0 (i := 2) (by decide +kernel) rfl
theorem dX10_margin_5 : decode cX10_margin 5 = .ok (.ifCond .ne 5, 3) := zrD zrw_cX10_margin_0 (i := 5) (by decide +kernel) rfl
theorem dX10_margin_8 : decode cX10_margin 8 = .ok (.iconst (-1), 1) := zrD zrw_cX10_margin_0 (i := 8) (by decide +kernel) rfl
theorem dX10_margin_9 : decode cX10_margin 9 = .ok (.ireturn, 1) := zrD zrw_cX10_margin_0 (i := 9) (by decide +kernel) rfl
theorem dX10_margin_10 : decode cX10_margin 10 = .ok (.aload_n 0, 1) := zrD zrw_cX10_margin_0 (i := 10) (by decide +kernel) rfl
theorem dX10_margin_11 : decode cX10_margin 11 = .ok (.invokevirtual 113, 3) := zrD zrw_cX10_margin_0 (i := 11) (by decide +kernel) rfl
theorem dX10_margin_14 : decode cX10_margin 14 = .ok (.aload_n 0, 1) := zrD zrw_cX10_margin_0 (i := 14) (by decide +kernel) rfl
theorem dX10_margin_15 : decode cX10_margin 15 = .ok (.getfield 26, 3) := zrD zrw_cX10_margin_0 (i := 15) (by decide +kernel) rfl
theorem dX10_margin_18 : decode cX10_margin 18 = .ok (.iload_n 1, 1) := zrD zrw_cX10_margin_0 (i := 18) (by decide +kernel) rfl
theorem dX10_margin_19 : decode cX10_margin 19 = .ok (.invokevirtual 247, 3) := zrD zrw_cX10_margin_0 (i := 19) (by decide +kernel) rfl
theorem dX10_margin_22 : decode cX10_margin 22 = .ok (.aload_n 0, 1) := zrD zrw_cX10_margin_0 (i := 22) (by decide +kernel) rfl
theorem dX10_margin_23 : decode cX10_margin 23 = .ok (.getfield 26, 3) := zrD zrw_cX10_margin_0 (i := 23) (by decide +kernel) rfl
theorem dX10_margin_26 : decode cX10_margin 26 = .ok (.iconst (-1), 1) := zrD zrw_cX10_margin_0 (i := 26) (by decide +kernel) rfl
theorem dX10_margin_27 : decode cX10_margin 27 = .ok (.invokevirtual 250, 3) := zrD zrw_cX10_margin_0 (i := 27) (by decide +kernel) rfl
theorem dX10_margin_30 : decode cX10_margin 30 = .ok (.istore_n 2, 1) := zrD zrw_cX10_margin_0 (i := 30) (by decide +kernel) rfl
theorem dX10_margin_31 : decode cX10_margin 31 = .ok (.aload_n 0, 1) := zrD zrw_cX10_margin_0 (i := 31) (by decide +kernel) rfl
def zrk_cX10_margin_32 : ByteArray := .mk #[180, 0, 26, 28, 182, 0, 250, 62, 28, 155, 0, 7, 29, 156, 0, 8, 16, 254, 167, 0, 22, 42, 180, 0, 26, 180, 0, 244, 28, 46, 42]
theorem zrw_cX10_margin_32 : zrW 32 cX10_margin zrk_cX10_margin_32 := by unfold zrW; decide +kernel
theorem dX10_margin_32 : decode cX10_margin 32 = .ok (.getfield 26, 3) := zrD zrw_cX10_margin_32 (i := 0) (by decide +kernel) rfl
theorem dX10_margin_35 : decode cX10_margin 35 = .ok (.iload_n 2, 1) := zrD zrw_cX10_margin_32 (i := 3) (by decide +kernel) rfl
theorem dX10_margin_36 : decode cX10_margin 36 = .ok (.invokevirtual 250, 3) := zrD zrw_cX10_margin_32 (i := 4) (by decide +kernel) rfl
theorem dX10_margin_39 : decode cX10_margin 39 = .ok (.istore_n 3, 1) := zrD zrw_cX10_margin_32 (i := 7) (by decide +kernel) rfl
theorem dX10_margin_40 : decode cX10_margin 40 = .ok (.iload_n 2, 1) := zrD zrw_cX10_margin_32 (i := 8) (by decide +kernel) rfl
theorem dX10_margin_41 : decode cX10_margin 41 = .ok (.ifCond .lt 7, 3) := zrD zrw_cX10_margin_32 (i := 9) (by decide +kernel) rfl
theorem dX10_margin_44 : decode cX10_margin 44 = .ok (.iload_n 3, 1) := zrD zrw_cX10_margin_32 (i := 12) (by decide +kernel) rfl
theorem dX10_margin_45 : decode cX10_margin 45 = .ok (.ifCond .ge 8, 3) := zrD zrw_cX10_margin_32 (i := 13) (by decide +kernel) rfl
theorem dX10_margin_48 : decode cX10_margin 48 = .ok (.bipush (-2), 2) := zrD zrw_cX10_margin_32 (i := 16) (by decide +kernel) rfl
theorem dX10_margin_50 : decode cX10_margin 50 = .ok (.goto 22, 3) := zrD zrw_cX10_margin_32 (i := 18) (by decide +kernel) rfl
theorem dX10_margin_53 : decode cX10_margin 53 = .ok (.aload_n 0, 1) := zrD zrw_cX10_margin_32 (i := 21) (by decide +kernel) rfl
theorem dX10_margin_54 : decode cX10_margin 54 = .ok (.getfield 26, 3) := zrD zrw_cX10_margin_32 (i := 22) (by decide +kernel) rfl
theorem dX10_margin_57 : decode cX10_margin 57 = .ok (.getfield 244, 3) := zrD zrw_cX10_margin_32 (i := 25) (by decide +kernel) rfl
theorem dX10_margin_60 : decode cX10_margin 60 = .ok (.iload_n 2, 1) := zrD zrw_cX10_margin_32 (i := 28) (by decide +kernel) rfl
theorem dX10_margin_61 : decode cX10_margin 61 = .ok (.iaload, 1) := zrD zrw_cX10_margin_32 (i := 29) (by decide +kernel) rfl
theorem dX10_margin_62 : decode cX10_margin 62 = .ok (.aload_n 0, 1) := zrD zrw_cX10_margin_32 (i := 30) (by decide +kernel) rfl
def zrk_cX10_margin_63 : ByteArray := .mk #[180, 0, 26, 180, 0, 244, 29, 46, 100, 172]
theorem zrw_cX10_margin_63 : zrW 63 cX10_margin zrk_cX10_margin_63 := by unfold zrW; decide +kernel
theorem dX10_margin_63 : decode cX10_margin 63 = .ok (.getfield 26, 3) := zrD zrw_cX10_margin_63 (i := 0) (by decide +kernel) rfl
theorem dX10_margin_66 : decode cX10_margin 66 = .ok (.getfield 244, 3) := zrD zrw_cX10_margin_63 (i := 3) (by decide +kernel) rfl
theorem dX10_margin_69 : decode cX10_margin 69 = .ok (.iload_n 3, 1) := zrD zrw_cX10_margin_63 (i := 6) (by decide +kernel) rfl
theorem dX10_margin_70 : decode cX10_margin 70 = .ok (.iaload, 1) := zrD zrw_cX10_margin_63 (i := 7) (by decide +kernel) rfl
theorem dX10_margin_71 : decode cX10_margin 71 = .ok (.isub, 1) := zrD zrw_cX10_margin_63 (i := 8) (by decide +kernel) rfl
theorem dX10_margin_72 : decode cX10_margin 72 = .ok (.ireturn, 1) := zrD zrw_cX10_margin_63 (i := 9) (by decide +kernel) rfl
def zrk_cX10_rank_0 : ByteArray := .mk #[42, 27, 28, 182, 0, 162, 154, 0, 5, 2, 172, 42, 180, 0, 26, 28, 182, 0, 247, 42, 180, 0, 26, 27, 182, 0, 253, 172]
theorem zrw_cX10_rank_0 : zrW 0 cX10_rank zrk_cX10_rank_0 := by unfold zrW; decide +kernel
theorem dX10_rank_0 : decode cX10_rank 0 = .ok (.aload_n 0, 1) := zrD zrw_cX10_rank_0 (i := 0) (by decide +kernel) rfl
theorem dX10_rank_1 : decode cX10_rank 1 = .ok (.iload_n 1, 1) := zrD zrw_cX10_rank_0 (i := 1) (by decide +kernel) rfl
theorem dX10_rank_2 : decode cX10_rank 2 = .ok (.iload_n 2, 1) := zrD zrw_cX10_rank_0 (i := 2) (by decide +kernel) rfl
theorem dX10_rank_3 : decode cX10_rank 3 = .ok (.invokevirtual 162, 3) := zrD zrw_cX10_rank_0 (i := 3) (by decide +kernel) rfl
theorem dX10_rank_6 : decode cX10_rank 6 = .ok (.ifCond .ne 5, 3) := zrD zrw_cX10_rank_0 (i := 6) (by decide +kernel) rfl
theorem dX10_rank_9 : decode cX10_rank 9 = .ok (.iconst (-1), 1) := zrD zrw_cX10_rank_0 (i := 9) (by decide +kernel) rfl
theorem dX10_rank_10 : decode cX10_rank 10 = .ok (.ireturn, 1) := zrD zrw_cX10_rank_0 (i := 10) (by decide +kernel) rfl
theorem dX10_rank_11 : decode cX10_rank 11 = .ok (.aload_n 0, 1) := zrD zrw_cX10_rank_0 (i := 11) (by decide +kernel) rfl
theorem dX10_rank_12 : decode cX10_rank 12 = .ok (.getfield 26, 3) := zrD zrw_cX10_rank_0 (i := 12) (by decide +kernel) rfl
theorem dX10_rank_15 : decode cX10_rank 15 = .ok (.iload_n 2, 1) := zrD zrw_cX10_rank_0 (i := 15) (by decide +kernel) rfl
theorem dX10_rank_16 : decode cX10_rank 16 = .ok (.invokevirtual 247, 3) := zrD zrw_cX10_rank_0 (i := 16) (by decide +kernel) rfl
theorem dX10_rank_19 : decode cX10_rank 19 = .ok (.aload_n 0, 1) := zrD zrw_cX10_rank_0 (i := 19) (by decide +kernel) rfl
theorem dX10_rank_20 : decode cX10_rank 20 = .ok (.getfield 26, 3) := zrD zrw_cX10_rank_0 (i := 20) (by decide +kernel) rfl
theorem dX10_rank_23 : decode cX10_rank 23 = .ok (.iload_n 1, 1) := zrD zrw_cX10_rank_0 (i := 23) (by decide +kernel) rfl
theorem dX10_rank_24 : decode cX10_rank 24 = .ok (.invokevirtual 253, 3) := zrD zrw_cX10_rank_0 (i := 24) (by decide +kernel) rfl
theorem dX10_rank_27 : decode cX10_rank 27 = .ok (.ireturn, 1) := zrD zrw_cX10_rank_0 (i := 27) (by decide +kernel) rfl
def zrk_cX10_vote_0 : ByteArray := .mk #[27, 3, 4, 184, 0, 229, 154, 0, 5, 2, 172, 42, 182, 0, 113, 42, 180, 0, 34, 182, 0, 188, 154, 0, 6, 16, 254, 172, 42, 182, 1, 0]
theorem zrw_cX10_vote_0 : zrW 0 cX10_vote zrk_cX10_vote_0 := by unfold zrW; decide +kernel
theorem dX10_vote_0 : decode cX10_vote 0 = .ok (.iload_n 1, 1) := zrD zrw_cX10_vote_0 (i := 0) (by decide +kernel) rfl
theorem dX10_vote_1 : decode cX10_vote 1 = .ok (.iconst 0, 1) := zrD zrw_cX10_vote_0 (i := 1) (by decide +kernel) rfl
theorem dX10_vote_2 : decode cX10_vote 2 = .ok (.iconst 1, 1) := zrD zrw_cX10_vote_0 (i := 2) (by decide +kernel) rfl
theorem dX10_vote_3 : decode cX10_vote 3 = .ok (.invokestatic 229, 3) := zrD zrw_cX10_vote_0 (i := 3) (by decide +kernel) rfl
theorem dX10_vote_6 : decode cX10_vote 6 = .ok (.ifCond .ne 5, 3) := zrD zrw_cX10_vote_0 (i := 6) (by decide +kernel) rfl
theorem dX10_vote_9 : decode cX10_vote 9 = .ok (.iconst (-1), 1) := zrD zrw_cX10_vote_0 (i := 9) (by decide +kernel) rfl
theorem dX10_vote_10 : decode cX10_vote 10 = .ok (.ireturn, 1) := zrD zrw_cX10_vote_0 (i := 10) (by decide +kernel) rfl
theorem dX10_vote_11 : decode cX10_vote 11 = .ok (.aload_n 0, 1) := zrD zrw_cX10_vote_0 (i := 11) (by decide +kernel) rfl
theorem dX10_vote_12 : decode cX10_vote 12 = .ok (.invokevirtual 113, 3) := zrD zrw_cX10_vote_0 (i := 12) (by decide +kernel) rfl
theorem dX10_vote_15 : decode cX10_vote 15 = .ok (.aload_n 0, 1) := zrD zrw_cX10_vote_0 (i := 15) (by decide +kernel) rfl
theorem dX10_vote_16 : decode cX10_vote 16 = .ok (.getfield 34, 3) := zrD zrw_cX10_vote_0 (i := 16) (by decide +kernel) rfl
theorem dX10_vote_19 : decode cX10_vote 19 = .ok (.invokevirtual 188, 3) := zrD zrw_cX10_vote_0 (i := 19) (by decide +kernel) rfl
theorem dX10_vote_22 : decode cX10_vote 22 = .ok (.ifCond .ne 6, 3) := zrD zrw_cX10_vote_0 (i := 22) (by decide +kernel) rfl
theorem dX10_vote_25 : decode cX10_vote 25 = .ok (.bipush (-2), 2) := zrD zrw_cX10_vote_0 (i := 25) (by decide +kernel) rfl
theorem dX10_vote_27 : decode cX10_vote 27 = .ok (.ireturn, 1) := zrD zrw_cX10_vote_0 (i := 27) (by decide +kernel) rfl
theorem dX10_vote_28 : decode cX10_vote 28 = .ok (.aload_n 0, 1) := zrD zrw_cX10_vote_0 (i := 28) (by decide +kernel) rfl
theorem dX10_vote_29 : decode cX10_vote 29 = .ok (.invokevirtual 256, 3) := zrD zrw_cX10_vote_0 (i := 29) (by decide +kernel) rfl
def zrk_cX10_vote_32 : ByteArray := .mk #[3, 61, 4, 62, 29, 6, 162, 0, 24, 42, 29, 182, 1, 3, 42, 28, 182, 1, 3, 164, 0, 5, 29, 61, 132, 3, 1, 167, 255, 233, 27]
theorem zrw_cX10_vote_32 : zrW 32 cX10_vote zrk_cX10_vote_32 := by unfold zrW; decide +kernel
theorem dX10_vote_32 : decode cX10_vote 32 = .ok (.iconst 0, 1) := zrD zrw_cX10_vote_32 (i := 0) (by decide +kernel) rfl
theorem dX10_vote_33 : decode cX10_vote 33 = .ok (.istore_n 2, 1) := zrD zrw_cX10_vote_32 (i := 1) (by decide +kernel) rfl
theorem dX10_vote_34 : decode cX10_vote 34 = .ok (.iconst 1, 1) := zrD zrw_cX10_vote_32 (i := 2) (by decide +kernel) rfl
theorem dX10_vote_35 : decode cX10_vote 35 = .ok (.istore_n 3, 1) := zrD zrw_cX10_vote_32 (i := 3) (by decide +kernel) rfl
theorem dX10_vote_36 : decode cX10_vote 36 = .ok (.iload_n 3, 1) := zrD zrw_cX10_vote_32 (i := 4) (by decide +kernel) rfl
theorem dX10_vote_37 : decode cX10_vote 37 = .ok (.iconst 3, 1) := zrD zrw_cX10_vote_32 (i := 5) (by decide +kernel) rfl
theorem dX10_vote_38 : decode cX10_vote 38 = .ok (.if_icmp .ge 24, 3) := zrD zrw_cX10_vote_32 (i := 6) (by decide +kernel) rfl
theorem dX10_vote_41 : decode cX10_vote 41 = .ok (.aload_n 0, 1) := zrD zrw_cX10_vote_32 (i := 9) (by decide +kernel) rfl
theorem dX10_vote_42 : decode cX10_vote 42 = .ok (.iload_n 3, 1) := zrD zrw_cX10_vote_32 (i := 10) (by decide +kernel) rfl
theorem dX10_vote_43 : decode cX10_vote 43 = .ok (.invokevirtual 259, 3) := zrD zrw_cX10_vote_32 (i := 11) (by decide +kernel) rfl
theorem dX10_vote_46 : decode cX10_vote 46 = .ok (.aload_n 0, 1) := zrD zrw_cX10_vote_32 (i := 14) (by decide +kernel) rfl
theorem dX10_vote_47 : decode cX10_vote 47 = .ok (.iload_n 2, 1) := zrD zrw_cX10_vote_32 (i := 15) (by decide +kernel) rfl
theorem dX10_vote_48 : decode cX10_vote 48 = .ok (.invokevirtual 259, 3) := zrD zrw_cX10_vote_32 (i := 16) (by decide +kernel) rfl
theorem dX10_vote_51 : decode cX10_vote 51 = .ok (.if_icmp .le 5, 3) := zrD zrw_cX10_vote_32 (i := 19) (by decide +kernel) rfl
theorem dX10_vote_54 : decode cX10_vote 54 = .ok (.iload_n 3, 1) := zrD zrw_cX10_vote_32 (i := 22) (by decide +kernel) rfl
theorem dX10_vote_55 : decode cX10_vote 55 = .ok (.istore_n 2, 1) := zrD zrw_cX10_vote_32 (i := 23) (by decide +kernel) rfl
theorem dX10_vote_56 : decode cX10_vote 56 = .ok (.iinc 3 1, 3) := zrD zrw_cX10_vote_32 (i := 24) (by decide +kernel) rfl
theorem dX10_vote_59 : decode cX10_vote 59 = .ok (.goto (-23), 3) := zrD zrw_cX10_vote_32 (i := 27) (by decide +kernel) rfl
theorem dX10_vote_62 : decode cX10_vote 62 = .ok (.iload_n 1, 1) := zrD zrw_cX10_vote_32 (i := 30) (by decide +kernel) rfl
def zrk_cX10_vote_63 : ByteArray := .mk #[154, 0, 7, 28, 167, 0, 8, 42, 28, 182, 1, 3, 172]
theorem zrw_cX10_vote_63 : zrW 63 cX10_vote zrk_cX10_vote_63 := by unfold zrW; decide +kernel
theorem dX10_vote_63 : decode cX10_vote 63 = .ok (.ifCond .ne 7, 3) := zrD zrw_cX10_vote_63 (i := 0) (by decide +kernel) rfl
theorem dX10_vote_66 : decode cX10_vote 66 = .ok (.iload_n 2, 1) := zrD zrw_cX10_vote_63 (i := 3) (by decide +kernel) rfl
theorem dX10_vote_67 : decode cX10_vote 67 = .ok (.goto 8, 3) := zrD zrw_cX10_vote_63 (i := 4) (by decide +kernel) rfl
theorem dX10_vote_70 : decode cX10_vote 70 = .ok (.aload_n 0, 1) := zrD zrw_cX10_vote_63 (i := 7) (by decide +kernel) rfl
theorem dX10_vote_71 : decode cX10_vote 71 = .ok (.iload_n 2, 1) := zrD zrw_cX10_vote_63 (i := 8) (by decide +kernel) rfl
theorem dX10_vote_72 : decode cX10_vote 72 = .ok (.invokevirtual 259, 3) := zrD zrw_cX10_vote_63 (i := 9) (by decide +kernel) rfl
theorem dX10_vote_75 : decode cX10_vote 75 = .ok (.ireturn, 1) := zrD zrw_cX10_vote_63 (i := 12) (by decide +kernel) rfl
def zrk_cX10_castVotes_0 : ByteArray := .mk #[3, 60, 27, 6, 162, 0, 73, 42, 180, 0, 26, 27, 182, 0, 247, 4, 61, 28, 42, 180, 0, 70, 180, 0, 175, 162, 0, 46, 6, 42]
theorem zrw_cX10_castVotes_0 : zrW 0 cX10_castVotes zrk_cX10_castVotes_0 := by unfold zrW; decide +kernel
theorem dX10_castVotes_0 : decode cX10_castVotes 0 = .ok (.iconst 0, 1) := zrD zrw_cX10_castVotes_0 (i := 0) (by decide +kernel) rfl
theorem dX10_castVotes_1 : decode cX10_castVotes 1 = .ok (.istore_n 1, 1) := zrD zrw_cX10_castVotes_0 (i := 1) (by decide +kernel) rfl
theorem dX10_castVotes_2 : decode cX10_castVotes 2 = .ok (.iload_n 1, 1) := zrD zrw_cX10_castVotes_0 (i := 2) (by decide +kernel) rfl
theorem dX10_castVotes_3 : decode cX10_castVotes 3 = .ok (.iconst 3, 1) := zrD zrw_cX10_castVotes_0 (i := 3) (by decide +kernel) rfl
theorem dX10_castVotes_4 : decode cX10_castVotes 4 = .ok (.if_icmp .ge 73, 3) := zrD zrw_cX10_castVotes_0 (i := 4) (by decide +kernel) rfl
theorem dX10_castVotes_7 : decode cX10_castVotes 7 = .ok (.aload_n 0, 1) := zrD zrw_cX10_castVotes_0 (i := 7) (by decide +kernel) rfl
theorem dX10_castVotes_8 : decode cX10_castVotes 8 = .ok (.getfield 26, 3) := zrD zrw_cX10_castVotes_0 (i := 8) (by decide +kernel) rfl
theorem dX10_castVotes_11 : decode cX10_castVotes 11 = .ok (.iload_n 1, 1) := zrD zrw_cX10_castVotes_0 (i := 11) (by decide +kernel) rfl
theorem dX10_castVotes_12 : decode cX10_castVotes 12 = .ok (.invokevirtual 247, 3) := zrD zrw_cX10_castVotes_0 (i := 12) (by decide +kernel) rfl
theorem dX10_castVotes_15 : decode cX10_castVotes 15 = .ok (.iconst 1, 1) := zrD zrw_cX10_castVotes_0 (i := 15) (by decide +kernel) rfl
theorem dX10_castVotes_16 : decode cX10_castVotes 16 = .ok (.istore_n 2, 1) := zrD zrw_cX10_castVotes_0 (i := 16) (by decide +kernel) rfl
theorem dX10_castVotes_17 : decode cX10_castVotes 17 = .ok (.iload_n 2, 1) := zrD zrw_cX10_castVotes_0 (i := 17) (by decide +kernel) rfl
theorem dX10_castVotes_18 : decode cX10_castVotes 18 = .ok (.aload_n 0, 1) := zrD zrw_cX10_castVotes_0 (i := 18) (by decide +kernel) rfl
theorem dX10_castVotes_19 : decode cX10_castVotes 19 = .ok (.getfield 70, 3) := zrD zrw_cX10_castVotes_0 (i := 19) (by decide +kernel) rfl
theorem dX10_castVotes_22 : decode cX10_castVotes 22 = .ok (.getfield 175, 3) := zrD zrw_cX10_castVotes_0 (i := 22) (by decide +kernel) rfl
theorem dX10_castVotes_25 : decode cX10_castVotes 25 = .ok (.if_icmp .ge 46, 3) := zrD zrw_cX10_castVotes_0 (i := 25) (by decide +kernel) rfl
theorem dX10_castVotes_28 : decode cX10_castVotes 28 = .ok (.iconst 3, 1) := zrD zrw_cX10_castVotes_0 (i := 28) (by decide +kernel) rfl
theorem dX10_castVotes_29 : decode cX10_castVotes 29 = .ok (.aload_n 0, 1) := zrD zrw_cX10_castVotes_0 (i := 29) (by decide +kernel) rfl
def zrk_cX10_castVotes_30 : ByteArray := .mk #[180, 0, 26, 28, 182, 0, 253, 104, 27, 96, 62, 42, 180, 0, 63, 28, 27, 154, 0, 7, 29, 167, 0, 13, 42, 180, 0, 63, 28, 46, 29]
theorem zrw_cX10_castVotes_30 : zrW 30 cX10_castVotes zrk_cX10_castVotes_30 := by unfold zrW; decide +kernel
theorem dX10_castVotes_30 : decode cX10_castVotes 30 = .ok (.getfield 26, 3) := zrD zrw_cX10_castVotes_30 (i := 0) (by decide +kernel) rfl
theorem dX10_castVotes_33 : decode cX10_castVotes 33 = .ok (.iload_n 2, 1) := zrD zrw_cX10_castVotes_30 (i := 3) (by decide +kernel) rfl
theorem dX10_castVotes_34 : decode cX10_castVotes 34 = .ok (.invokevirtual 253, 3) := zrD zrw_cX10_castVotes_30 (i := 4) (by decide +kernel) rfl
theorem dX10_castVotes_37 : decode cX10_castVotes 37 = .ok (.imul, 1) := zrD zrw_cX10_castVotes_30 (i := 7) (by decide +kernel) rfl
theorem dX10_castVotes_38 : decode cX10_castVotes 38 = .ok (.iload_n 1, 1) := zrD zrw_cX10_castVotes_30 (i := 8) (by decide +kernel) rfl
theorem dX10_castVotes_39 : decode cX10_castVotes 39 = .ok (.iadd, 1) := zrD zrw_cX10_castVotes_30 (i := 9) (by decide +kernel) rfl
theorem dX10_castVotes_40 : decode cX10_castVotes 40 = .ok (.istore_n 3, 1) := zrD zrw_cX10_castVotes_30 (i := 10) (by decide +kernel) rfl
theorem dX10_castVotes_41 : decode cX10_castVotes 41 = .ok (.aload_n 0, 1) := zrD zrw_cX10_castVotes_30 (i := 11) (by decide +kernel) rfl
theorem dX10_castVotes_42 : decode cX10_castVotes 42 = .ok (.getfield 63, 3) := zrD zrw_cX10_castVotes_30 (i := 12) (by decide +kernel) rfl
theorem dX10_castVotes_45 : decode cX10_castVotes 45 = .ok (.iload_n 2, 1) := zrD zrw_cX10_castVotes_30 (i := 15) (by decide +kernel) rfl
theorem dX10_castVotes_46 : decode cX10_castVotes 46 = .ok (.iload_n 1, 1) := zrD zrw_cX10_castVotes_30 (i := 16) (by decide +kernel) rfl
theorem dX10_castVotes_47 : decode cX10_castVotes 47 = .ok (.ifCond .ne 7, 3) := zrD zrw_cX10_castVotes_30 (i := 17) (by decide +kernel) rfl
theorem dX10_castVotes_50 : decode cX10_castVotes 50 = .ok (.iload_n 3, 1) := zrD zrw_cX10_castVotes_30 (i := 20) (by decide +kernel) rfl
theorem dX10_castVotes_51 : decode cX10_castVotes 51 = .ok (.goto 13, 3) := zrD zrw_cX10_castVotes_30 (i := 21) (by decide +kernel) rfl
theorem dX10_castVotes_54 : decode cX10_castVotes 54 = .ok (.aload_n 0, 1) := zrD zrw_cX10_castVotes_30 (i := 24) (by decide +kernel) rfl
theorem dX10_castVotes_55 : decode cX10_castVotes 55 = .ok (.getfield 63, 3) := zrD zrw_cX10_castVotes_30 (i := 25) (by decide +kernel) rfl
theorem dX10_castVotes_58 : decode cX10_castVotes 58 = .ok (.iload_n 2, 1) := zrD zrw_cX10_castVotes_30 (i := 28) (by decide +kernel) rfl
theorem dX10_castVotes_59 : decode cX10_castVotes 59 = .ok (.iaload, 1) := zrD zrw_cX10_castVotes_30 (i := 29) (by decide +kernel) rfl
theorem dX10_castVotes_60 : decode cX10_castVotes 60 = .ok (.iload_n 3, 1) := zrD zrw_cX10_castVotes_30 (i := 30) (by decide +kernel) rfl
def zrk_cX10_castVotes_61 : ByteArray := .mk #[184, 1, 6, 79, 132, 2, 1, 167, 255, 205, 132, 1, 1, 167, 255, 184, 177]
theorem zrw_cX10_castVotes_61 : zrW 61 cX10_castVotes zrk_cX10_castVotes_61 := by unfold zrW; decide +kernel
theorem dX10_castVotes_61 : decode cX10_castVotes 61 = .ok (.invokestatic 262, 3) := zrD zrw_cX10_castVotes_61 (i := 0) (by decide +kernel) rfl
theorem dX10_castVotes_64 : decode cX10_castVotes 64 = .ok (.iastore, 1) := zrD zrw_cX10_castVotes_61 (i := 3) (by decide +kernel) rfl
theorem dX10_castVotes_65 : decode cX10_castVotes 65 = .ok (.iinc 2 1, 3) := zrD zrw_cX10_castVotes_61 (i := 4) (by decide +kernel) rfl
theorem dX10_castVotes_68 : decode cX10_castVotes 68 = .ok (.goto (-51), 3) := zrD zrw_cX10_castVotes_61 (i := 7) (by decide +kernel) rfl
theorem dX10_castVotes_71 : decode cX10_castVotes 71 = .ok (.iinc 1 1, 3) := zrD zrw_cX10_castVotes_61 (i := 10) (by decide +kernel) rfl
theorem dX10_castVotes_74 : decode cX10_castVotes 74 = .ok (.goto (-72), 3) := zrD zrw_cX10_castVotes_61 (i := 13) (by decide +kernel) rfl
theorem dX10_castVotes_77 : decode cX10_castVotes 77 = .ok (.return_, 1) := zrD zrw_cX10_castVotes_61 (i := 16) (by decide +kernel) rfl
def zrk_cX10_votesFor_0 : ByteArray := .mk #[3, 61, 4, 62, 29, 42, 180, 0, 70, 180, 0, 175, 162, 0, 35, 42, 180, 0, 34, 29, 182, 0, 146, 153, 0, 18, 42, 180, 0, 63, 29, 46]
theorem zrw_cX10_votesFor_0 : zrW 0 cX10_votesFor zrk_cX10_votesFor_0 := by unfold zrW; decide +kernel
theorem dX10_votesFor_0 : decode cX10_votesFor 0 = .ok (.iconst 0, 1) := zrD zrw_cX10_votesFor_0 (i := 0) (by decide +kernel) rfl
theorem dX10_votesFor_1 : decode cX10_votesFor 1 = .ok (.istore_n 2, 1) := zrD zrw_cX10_votesFor_0 (i := 1) (by decide +kernel) rfl
theorem dX10_votesFor_2 : decode cX10_votesFor 2 = .ok (.iconst 1, 1) := zrD zrw_cX10_votesFor_0 (i := 2) (by decide +kernel) rfl
theorem dX10_votesFor_3 : decode cX10_votesFor 3 = .ok (.istore_n 3, 1) := zrD zrw_cX10_votesFor_0 (i := 3) (by decide +kernel) rfl
theorem dX10_votesFor_4 : decode cX10_votesFor 4 = .ok (.iload_n 3, 1) := zrD zrw_cX10_votesFor_0 (i := 4) (by decide +kernel) rfl
theorem dX10_votesFor_5 : decode cX10_votesFor 5 = .ok (.aload_n 0, 1) := zrD zrw_cX10_votesFor_0 (i := 5) (by decide +kernel) rfl
theorem dX10_votesFor_6 : decode cX10_votesFor 6 = .ok (.getfield 70, 3) := zrD zrw_cX10_votesFor_0 (i := 6) (by decide +kernel) rfl
theorem dX10_votesFor_9 : decode cX10_votesFor 9 = .ok (.getfield 175, 3) := zrD zrw_cX10_votesFor_0 (i := 9) (by decide +kernel) rfl
theorem dX10_votesFor_12 : decode cX10_votesFor 12 = .ok (.if_icmp .ge 35, 3) := zrD zrw_cX10_votesFor_0 (i := 12) (by decide +kernel) rfl
theorem dX10_votesFor_15 : decode cX10_votesFor 15 = .ok (.aload_n 0, 1) := zrD zrw_cX10_votesFor_0 (i := 15) (by decide +kernel) rfl
theorem dX10_votesFor_16 : decode cX10_votesFor 16 = .ok (.getfield 34, 3) := zrD zrw_cX10_votesFor_0 (i := 16) (by decide +kernel) rfl
theorem dX10_votesFor_19 : decode cX10_votesFor 19 = .ok (.iload_n 3, 1) := zrD zrw_cX10_votesFor_0 (i := 19) (by decide +kernel) rfl
theorem dX10_votesFor_20 : decode cX10_votesFor 20 = .ok (.invokevirtual 146, 3) := zrD zrw_cX10_votesFor_0 (i := 20) (by decide +kernel) rfl
theorem dX10_votesFor_23 : decode cX10_votesFor 23 = .ok (.ifCond .eq 18, 3) := zrD zrw_cX10_votesFor_0 (i := 23) (by decide +kernel) rfl
theorem dX10_votesFor_26 : decode cX10_votesFor 26 = .ok (.aload_n 0, 1) := zrD zrw_cX10_votesFor_0 (i := 26) (by decide +kernel) rfl
theorem dX10_votesFor_27 : decode cX10_votesFor 27 = .ok (.getfield 63, 3) := zrD zrw_cX10_votesFor_0 (i := 27) (by decide +kernel) rfl
theorem dX10_votesFor_30 : decode cX10_votesFor 30 = .ok (.iload_n 3, 1) := zrD zrw_cX10_votesFor_0 (i := 30) (by decide +kernel) rfl
theorem dX10_votesFor_31 : decode cX10_votesFor 31 = .ok (.iaload, 1) := zrD zrw_cX10_votesFor_0 (i := 31) (by decide +kernel) rfl
def zrk_cX10_votesFor_32 : ByteArray := .mk #[6, 112, 27, 160, 0, 6, 132, 2, 1, 132, 3, 1, 167, 255, 216, 28, 172]
theorem zrw_cX10_votesFor_32 : zrW 32 cX10_votesFor zrk_cX10_votesFor_32 := by unfold zrW; decide +kernel
theorem dX10_votesFor_32 : decode cX10_votesFor 32 = .ok (.iconst 3, 1) := zrD zrw_cX10_votesFor_32 (i := 0) (by decide +kernel) rfl
theorem dX10_votesFor_33 : decode cX10_votesFor 33 = .ok (.irem, 1) := zrD zrw_cX10_votesFor_32 (i := 1) (by decide +kernel) rfl
theorem dX10_votesFor_34 : decode cX10_votesFor 34 = .ok (.iload_n 1, 1) := zrD zrw_cX10_votesFor_32 (i := 2) (by decide +kernel) rfl
theorem dX10_votesFor_35 : decode cX10_votesFor 35 = .ok (.if_icmp .ne 6, 3) := zrD zrw_cX10_votesFor_32 (i := 3) (by decide +kernel) rfl
theorem dX10_votesFor_38 : decode cX10_votesFor 38 = .ok (.iinc 2 1, 3) := zrD zrw_cX10_votesFor_32 (i := 6) (by decide +kernel) rfl
theorem dX10_votesFor_41 : decode cX10_votesFor 41 = .ok (.iinc 3 1, 3) := zrD zrw_cX10_votesFor_32 (i := 9) (by decide +kernel) rfl
theorem dX10_votesFor_44 : decode cX10_votesFor 44 = .ok (.goto (-40), 3) := zrD zrw_cX10_votesFor_32 (i := 12) (by decide +kernel) rfl
theorem dX10_votesFor_47 : decode cX10_votesFor 47 = .ok (.iload_n 2, 1) := zrD zrw_cX10_votesFor_32 (i := 15) (by decide +kernel) rfl
theorem dX10_votesFor_48 : decode cX10_votesFor 48 = .ok (.ireturn, 1) := zrD zrw_cX10_votesFor_32 (i := 16) (by decide +kernel) rfl
def zrk_cX10_richest_0 : ByteArray := .mk #[27, 3, 4, 184, 0, 229, 154, 0, 5, 2, 172, 3, 61, 4, 62, 29, 42, 180, 0, 70, 180, 0, 175, 162, 0, 32, 42, 180, 0, 52]
theorem zrw_cX10_richest_0 : zrW 0 cX10_richest zrk_cX10_richest_0 := by unfold zrW; decide +kernel
theorem dX10_richest_0 : decode cX10_richest 0 = .ok (.iload_n 1, 1) := zrD zrw_cX10_richest_0 (i := 0) (by decide +kernel) rfl
theorem dX10_richest_1 : decode cX10_richest 1 = .ok (.iconst 0, 1) := zrD zrw_cX10_richest_0 (i := 1) (by decide +kernel) rfl
theorem dX10_richest_2 : decode cX10_richest 2 = .ok (.iconst 1, 1) := zrD zrw_cX10_richest_0 (i := 2) (by decide +kernel) rfl
theorem dX10_richest_3 : decode cX10_richest 3 = .ok (.invokestatic 229, 3) := zrD zrw_cX10_richest_0 (i := 3) (by decide +kernel) rfl
theorem dX10_richest_6 : decode cX10_richest 6 = .ok (.ifCond .ne 5, 3) := zrD zrw_cX10_richest_0 (i := 6) (by decide +kernel) rfl
theorem dX10_richest_9 : decode cX10_richest 9 = .ok (.iconst (-1), 1) := zrD zrw_cX10_richest_0 (i := 9) (by decide +kernel) rfl
theorem dX10_richest_10 : decode cX10_richest 10 = .ok (.ireturn, 1) := zrD zrw_cX10_richest_0 (i := 10) (by decide +kernel) rfl
theorem dX10_richest_11 : decode cX10_richest 11 = .ok (.iconst 0, 1) := zrD zrw_cX10_richest_0 (i := 11) (by decide +kernel) rfl
theorem dX10_richest_12 : decode cX10_richest 12 = .ok (.istore_n 2, 1) := zrD zrw_cX10_richest_0 (i := 12) (by decide +kernel) rfl
theorem dX10_richest_13 : decode cX10_richest 13 = .ok (.iconst 1, 1) := zrD zrw_cX10_richest_0 (i := 13) (by decide +kernel) rfl
theorem dX10_richest_14 : decode cX10_richest 14 = .ok (.istore_n 3, 1) := zrD zrw_cX10_richest_0 (i := 14) (by decide +kernel) rfl
theorem dX10_richest_15 : decode cX10_richest 15 = .ok (.iload_n 3, 1) := zrD zrw_cX10_richest_0 (i := 15) (by decide +kernel) rfl
theorem dX10_richest_16 : decode cX10_richest 16 = .ok (.aload_n 0, 1) := zrD zrw_cX10_richest_0 (i := 16) (by decide +kernel) rfl
theorem dX10_richest_17 : decode cX10_richest 17 = .ok (.getfield 70, 3) := zrD zrw_cX10_richest_0 (i := 17) (by decide +kernel) rfl
theorem dX10_richest_20 : decode cX10_richest 20 = .ok (.getfield 175, 3) := zrD zrw_cX10_richest_0 (i := 20) (by decide +kernel) rfl
theorem dX10_richest_23 : decode cX10_richest 23 = .ok (.if_icmp .ge 32, 3) := zrD zrw_cX10_richest_0 (i := 23) (by decide +kernel) rfl
theorem dX10_richest_26 : decode cX10_richest 26 = .ok (.aload_n 0, 1) := zrD zrw_cX10_richest_0 (i := 26) (by decide +kernel) rfl
theorem dX10_richest_27 : decode cX10_richest 27 = .ok (.getfield 52, 3) := zrD zrw_cX10_richest_0 (i := 27) (by decide +kernel) rfl
def zrk_cX10_richest_30 : ByteArray := .mk #[180, 0, 152, 29, 46, 42, 180, 0, 52, 180, 0, 152, 28, 46, 164, 0, 5, 29, 61, 132, 3, 1, 167, 255, 219, 42, 180, 0, 52, 180, 0, 152]
theorem zrw_cX10_richest_30 : zrW 30 cX10_richest zrk_cX10_richest_30 := by unfold zrW; decide +kernel
theorem dX10_richest_30 : decode cX10_richest 30 = .ok (.getfield 152, 3) := zrD zrw_cX10_richest_30 (i := 0) (by decide +kernel) rfl
theorem dX10_richest_33 : decode cX10_richest 33 = .ok (.iload_n 3, 1) := zrD zrw_cX10_richest_30 (i := 3) (by decide +kernel) rfl
theorem dX10_richest_34 : decode cX10_richest 34 = .ok (.iaload, 1) := zrD zrw_cX10_richest_30 (i := 4) (by decide +kernel) rfl
theorem dX10_richest_35 : decode cX10_richest 35 = .ok (.aload_n 0, 1) := zrD zrw_cX10_richest_30 (i := 5) (by decide +kernel) rfl
theorem dX10_richest_36 : decode cX10_richest 36 = .ok (.getfield 52, 3) := zrD zrw_cX10_richest_30 (i := 6) (by decide +kernel) rfl
theorem dX10_richest_39 : decode cX10_richest 39 = .ok (.getfield 152, 3) := zrD zrw_cX10_richest_30 (i := 9) (by decide +kernel) rfl
theorem dX10_richest_42 : decode cX10_richest 42 = .ok (.iload_n 2, 1) := zrD zrw_cX10_richest_30 (i := 12) (by decide +kernel) rfl
theorem dX10_richest_43 : decode cX10_richest 43 = .ok (.iaload, 1) := zrD zrw_cX10_richest_30 (i := 13) (by decide +kernel) rfl
theorem dX10_richest_44 : decode cX10_richest 44 = .ok (.if_icmp .le 5, 3) := zrD zrw_cX10_richest_30 (i := 14) (by decide +kernel) rfl
theorem dX10_richest_47 : decode cX10_richest 47 = .ok (.iload_n 3, 1) := zrD zrw_cX10_richest_30 (i := 17) (by decide +kernel) rfl
theorem dX10_richest_48 : decode cX10_richest 48 = .ok (.istore_n 2, 1) := zrD zrw_cX10_richest_30 (i := 18) (by decide +kernel) rfl
theorem dX10_richest_49 : decode cX10_richest 49 = .ok (.iinc 3 1, 3) := zrD zrw_cX10_richest_30 (i := 19) (by decide +kernel) rfl
theorem dX10_richest_52 : decode cX10_richest 52 = .ok (.goto (-37), 3) := zrD zrw_cX10_richest_30 (i := 22) (by decide +kernel) rfl
theorem dX10_richest_55 : decode cX10_richest 55 = .ok (.aload_n 0, 1) := zrD zrw_cX10_richest_30 (i := 25) (by decide +kernel) rfl
theorem dX10_richest_56 : decode cX10_richest 56 = .ok (.getfield 52, 3) := zrD zrw_cX10_richest_30 (i := 26) (by decide +kernel) rfl
theorem dX10_richest_59 : decode cX10_richest 59 = .ok (.getfield 152, 3) := zrD zrw_cX10_richest_30 (i := 29) (by decide +kernel) rfl
def zrk_cX10_richest_62 : ByteArray := .mk #[28, 46, 154, 0, 6, 16, 254, 172, 27, 154, 0, 7, 28, 167, 0, 12, 42, 180, 0, 52, 180, 0, 152, 28, 46, 172]
theorem zrw_cX10_richest_62 : zrW 62 cX10_richest zrk_cX10_richest_62 := by unfold zrW; decide +kernel
theorem dX10_richest_62 : decode cX10_richest 62 = .ok (.iload_n 2, 1) := zrD zrw_cX10_richest_62 (i := 0) (by decide +kernel) rfl
theorem dX10_richest_63 : decode cX10_richest 63 = .ok (.iaload, 1) := zrD zrw_cX10_richest_62 (i := 1) (by decide +kernel) rfl
theorem dX10_richest_64 : decode cX10_richest 64 = .ok (.ifCond .ne 6, 3) := zrD zrw_cX10_richest_62 (i := 2) (by decide +kernel) rfl
theorem dX10_richest_67 : decode cX10_richest 67 = .ok (.bipush (-2), 2) := zrD zrw_cX10_richest_62 (i := 5) (by decide +kernel) rfl
theorem dX10_richest_69 : decode cX10_richest 69 = .ok (.ireturn, 1) := zrD zrw_cX10_richest_62 (i := 7) (by decide +kernel) rfl
theorem dX10_richest_70 : decode cX10_richest 70 = .ok (.iload_n 1, 1) := zrD zrw_cX10_richest_62 (i := 8) (by decide +kernel) rfl
theorem dX10_richest_71 : decode cX10_richest 71 = .ok (.ifCond .ne 7, 3) := zrD zrw_cX10_richest_62 (i := 9) (by decide +kernel) rfl
theorem dX10_richest_74 : decode cX10_richest 74 = .ok (.iload_n 2, 1) := zrD zrw_cX10_richest_62 (i := 12) (by decide +kernel) rfl
theorem dX10_richest_75 : decode cX10_richest 75 = .ok (.goto 12, 3) := zrD zrw_cX10_richest_62 (i := 13) (by decide +kernel) rfl
theorem dX10_richest_78 : decode cX10_richest 78 = .ok (.aload_n 0, 1) := zrD zrw_cX10_richest_62 (i := 16) (by decide +kernel) rfl
theorem dX10_richest_79 : decode cX10_richest 79 = .ok (.getfield 52, 3) := zrD zrw_cX10_richest_62 (i := 17) (by decide +kernel) rfl
theorem dX10_richest_82 : decode cX10_richest 82 = .ok (.getfield 152, 3) := zrD zrw_cX10_richest_62 (i := 20) (by decide +kernel) rfl
theorem dX10_richest_85 : decode cX10_richest 85 = .ok (.iload_n 2, 1) := zrD zrw_cX10_richest_62 (i := 23) (by decide +kernel) rfl
theorem dX10_richest_86 : decode cX10_richest 86 = .ok (.iaload, 1) := zrD zrw_cX10_richest_62 (i := 24) (by decide +kernel) rfl
theorem dX10_richest_87 : decode cX10_richest 87 = .ok (.ireturn, 1) := zrD zrw_cX10_richest_62 (i := 25) (by decide +kernel) rfl
def zrk_cX10_turnFor_0 : ByteArray := .mk #[42, 27, 28, 182, 0, 162, 154, 0, 5, 2, 172, 4, 62, 29, 42, 180, 0, 70, 180, 0, 175, 162, 0, 65, 3, 54, 4, 21, 4, 42]
theorem zrw_cX10_turnFor_0 : zrW 0 cX10_turnFor zrk_cX10_turnFor_0 := by unfold zrW; decide +kernel
theorem dX10_turnFor_0 : decode cX10_turnFor 0 = .ok (.aload_n 0, 1) := zrD zrw_cX10_turnFor_0 (i := 0) (by decide +kernel) rfl
theorem dX10_turnFor_1 : decode cX10_turnFor 1 = .ok (.iload_n 1, 1) := zrD zrw_cX10_turnFor_0 (i := 1) (by decide +kernel) rfl
theorem dX10_turnFor_2 : decode cX10_turnFor 2 = .ok (.iload_n 2, 1) := zrD zrw_cX10_turnFor_0 (i := 2) (by decide +kernel) rfl
theorem dX10_turnFor_3 : decode cX10_turnFor 3 = .ok (.invokevirtual 162, 3) := zrD zrw_cX10_turnFor_0 (i := 3) (by decide +kernel) rfl
theorem dX10_turnFor_6 : decode cX10_turnFor 6 = .ok (.ifCond .ne 5, 3) := zrD zrw_cX10_turnFor_0 (i := 6) (by decide +kernel) rfl
theorem dX10_turnFor_9 : decode cX10_turnFor 9 = .ok (.iconst (-1), 1) := zrD zrw_cX10_turnFor_0 (i := 9) (by decide +kernel) rfl
theorem dX10_turnFor_10 : decode cX10_turnFor 10 = .ok (.ireturn, 1) := zrD zrw_cX10_turnFor_0 (i := 10) (by decide +kernel) rfl
theorem dX10_turnFor_11 : decode cX10_turnFor 11 = .ok (.iconst 1, 1) := zrD zrw_cX10_turnFor_0 (i := 11) (by decide +kernel) rfl
theorem dX10_turnFor_12 : decode cX10_turnFor 12 = .ok (.istore_n 3, 1) := zrD zrw_cX10_turnFor_0 (i := 12) (by decide +kernel) rfl
theorem dX10_turnFor_13 : decode cX10_turnFor 13 = .ok (.iload_n 3, 1) := zrD zrw_cX10_turnFor_0 (i := 13) (by decide +kernel) rfl
theorem dX10_turnFor_14 : decode cX10_turnFor 14 = .ok (.aload_n 0, 1) := zrD zrw_cX10_turnFor_0 (i := 14) (by decide +kernel) rfl
theorem dX10_turnFor_15 : decode cX10_turnFor 15 = .ok (.getfield 70, 3) := zrD zrw_cX10_turnFor_0 (i := 15) (by decide +kernel) rfl
theorem dX10_turnFor_18 : decode cX10_turnFor 18 = .ok (.getfield 175, 3) := zrD zrw_cX10_turnFor_0 (i := 18) (by decide +kernel) rfl
theorem dX10_turnFor_21 : decode cX10_turnFor 21 = .ok (.if_icmp .ge 65, 3) := zrD zrw_cX10_turnFor_0 (i := 21) (by decide +kernel) rfl
theorem dX10_turnFor_24 : decode cX10_turnFor 24 = .ok (.iconst 0, 1) := zrD zrw_cX10_turnFor_0 (i := 24) (by decide +kernel) rfl
theorem dX10_turnFor_25 : decode cX10_turnFor 25 = .ok (.istore 4, 2) := zrD zrw_cX10_turnFor_0 (i := 25) (by decide +kernel) rfl
theorem dX10_turnFor_27 : decode cX10_turnFor 27 = .ok (.iload 4, 2) := zrD zrw_cX10_turnFor_0 (i := 27) (by decide +kernel) rfl
theorem dX10_turnFor_29 : decode cX10_turnFor 29 = .ok (.aload_n 0, 1) := zrD zrw_cX10_turnFor_0 (i := 29) (by decide +kernel) rfl
def zrk_cX10_turnFor_30 : ByteArray := .mk #[180, 0, 70, 180, 0, 175, 162, 0, 44, 29, 27, 159, 0, 33, 42, 29, 21, 4, 182, 0, 223, 153, 0, 23, 42, 27, 28, 29, 21, 4]
theorem zrw_cX10_turnFor_30 : zrW 30 cX10_turnFor zrk_cX10_turnFor_30 := by unfold zrW; decide +kernel
theorem dX10_turnFor_30 : decode cX10_turnFor 30 = .ok (.getfield 70, 3) := zrD zrw_cX10_turnFor_30 (i := 0) (by decide +kernel) rfl
theorem dX10_turnFor_33 : decode cX10_turnFor 33 = .ok (.getfield 175, 3) := zrD zrw_cX10_turnFor_30 (i := 3) (by decide +kernel) rfl
theorem dX10_turnFor_36 : decode cX10_turnFor 36 = .ok (.if_icmp .ge 44, 3) := zrD zrw_cX10_turnFor_30 (i := 6) (by decide +kernel) rfl
theorem dX10_turnFor_39 : decode cX10_turnFor 39 = .ok (.iload_n 3, 1) := zrD zrw_cX10_turnFor_30 (i := 9) (by decide +kernel) rfl
theorem dX10_turnFor_40 : decode cX10_turnFor 40 = .ok (.iload_n 1, 1) := zrD zrw_cX10_turnFor_30 (i := 10) (by decide +kernel) rfl
theorem dX10_turnFor_41 : decode cX10_turnFor 41 = .ok (.if_icmp .eq 33, 3) := zrD zrw_cX10_turnFor_30 (i := 11) (by decide +kernel) rfl
theorem dX10_turnFor_44 : decode cX10_turnFor 44 = .ok (.aload_n 0, 1) := zrD zrw_cX10_turnFor_30 (i := 14) (by decide +kernel) rfl
theorem dX10_turnFor_45 : decode cX10_turnFor 45 = .ok (.iload_n 3, 1) := zrD zrw_cX10_turnFor_30 (i := 15) (by decide +kernel) rfl
theorem dX10_turnFor_46 : decode cX10_turnFor 46 = .ok (.iload 4, 2) := zrD zrw_cX10_turnFor_30 (i := 16) (by decide +kernel) rfl
theorem dX10_turnFor_48 : decode cX10_turnFor 48 = .ok (.invokevirtual 223, 3) := zrD zrw_cX10_turnFor_30 (i := 18) (by decide +kernel) rfl
theorem dX10_turnFor_51 : decode cX10_turnFor 51 = .ok (.ifCond .eq 23, 3) := zrD zrw_cX10_turnFor_30 (i := 21) (by decide +kernel) rfl
theorem dX10_turnFor_54 : decode cX10_turnFor 54 = .ok (.aload_n 0, 1) := zrD zrw_cX10_turnFor_30 (i := 24) (by decide +kernel) rfl
theorem dX10_turnFor_55 : decode cX10_turnFor 55 = .ok (.iload_n 1, 1) := zrD zrw_cX10_turnFor_30 (i := 25) (by decide +kernel) rfl
theorem dX10_turnFor_56 : decode cX10_turnFor 56 = .ok (.iload_n 2, 1) := zrD zrw_cX10_turnFor_30 (i := 26) (by decide +kernel) rfl
theorem dX10_turnFor_57 : decode cX10_turnFor 57 = .ok (.iload_n 3, 1) := zrD zrw_cX10_turnFor_30 (i := 27) (by decide +kernel) rfl
theorem dX10_turnFor_58 : decode cX10_turnFor 58 = .ok (.iload 4, 2) := zrD zrw_cX10_turnFor_30 (i := 28) (by decide +kernel) rfl
def zrk_cX10_turnFor_60 : ByteArray := .mk #[182, 1, 11, 153, 0, 11, 16, 100, 29, 104, 21, 4, 96, 172, 132, 4, 1, 167, 255, 206, 132, 3, 1, 167, 255, 186, 16, 254, 172]
theorem zrw_cX10_turnFor_60 : zrW 60 cX10_turnFor zrk_cX10_turnFor_60 := by unfold zrW; decide +kernel
theorem dX10_turnFor_60 : decode cX10_turnFor 60 = .ok (.invokevirtual 267, 3) := zrD zrw_cX10_turnFor_60 (i := 0) (by decide +kernel) rfl
theorem dX10_turnFor_63 : decode cX10_turnFor 63 = .ok (.ifCond .eq 11, 3) := zrD zrw_cX10_turnFor_60 (i := 3) (by decide +kernel) rfl
theorem dX10_turnFor_66 : decode cX10_turnFor 66 = .ok (.bipush 100, 2) := zrD zrw_cX10_turnFor_60 (i := 6) (by decide +kernel) rfl
theorem dX10_turnFor_68 : decode cX10_turnFor 68 = .ok (.iload_n 3, 1) := zrD zrw_cX10_turnFor_60 (i := 8) (by decide +kernel) rfl
theorem dX10_turnFor_69 : decode cX10_turnFor 69 = .ok (.imul, 1) := zrD zrw_cX10_turnFor_60 (i := 9) (by decide +kernel) rfl
theorem dX10_turnFor_70 : decode cX10_turnFor 70 = .ok (.iload 4, 2) := zrD zrw_cX10_turnFor_60 (i := 10) (by decide +kernel) rfl
theorem dX10_turnFor_72 : decode cX10_turnFor 72 = .ok (.iadd, 1) := zrD zrw_cX10_turnFor_60 (i := 12) (by decide +kernel) rfl
theorem dX10_turnFor_73 : decode cX10_turnFor 73 = .ok (.ireturn, 1) := zrD zrw_cX10_turnFor_60 (i := 13) (by decide +kernel) rfl
theorem dX10_turnFor_74 : decode cX10_turnFor 74 = .ok (.iinc 4 1, 3) := zrD zrw_cX10_turnFor_60 (i := 14) (by decide +kernel) rfl
theorem dX10_turnFor_77 : decode cX10_turnFor 77 = .ok (.goto (-50), 3) := zrD zrw_cX10_turnFor_60 (i := 17) (by decide +kernel) rfl
theorem dX10_turnFor_80 : decode cX10_turnFor 80 = .ok (.iinc 3 1, 3) := zrD zrw_cX10_turnFor_60 (i := 20) (by decide +kernel) rfl
theorem dX10_turnFor_83 : decode cX10_turnFor 83 = .ok (.goto (-70), 3) := zrD zrw_cX10_turnFor_60 (i := 23) (by decide +kernel) rfl
theorem dX10_turnFor_86 : decode cX10_turnFor 86 = .ok (.bipush (-2), 2) := zrD zrw_cX10_turnFor_60 (i := 26) (by decide +kernel) rfl
theorem dX10_turnFor_88 : decode cX10_turnFor 88 = .ok (.ireturn, 1) := zrD zrw_cX10_turnFor_60 (i := 28) (by decide +kernel) rfl
def zrk_cX10_winsTurned_0 : ByteArray := .mk #[42, 180, 0, 56, 42, 180, 0, 52, 182, 0, 241, 42, 180, 0, 56, 180, 0, 116, 29, 21, 4, 79, 42, 180, 0, 26, 42, 180, 0, 70, 42]
theorem zrw_cX10_winsTurned_0 : zrW 0 cX10_winsTurned zrk_cX10_winsTurned_0 := by unfold zrW; decide +kernel
theorem dX10_winsTurned_0 : decode cX10_winsTurned 0 = .ok (.aload_n 0, 1) := zrD zrw_cX10_winsTurned_0 (i := 0) (by decide +kernel) rfl
theorem dX10_winsTurned_1 : decode cX10_winsTurned 1 = .ok (.getfield 56, 3) := zrD zrw_cX10_winsTurned_0 (i := 1) (by decide +kernel) rfl
theorem dX10_winsTurned_4 : decode cX10_winsTurned 4 = .ok (.aload_n 0, 1) := zrD zrw_cX10_winsTurned_0 (i := 4) (by decide +kernel) rfl
theorem dX10_winsTurned_5 : decode cX10_winsTurned 5 = .ok (.getfield 52, 3) := zrD zrw_cX10_winsTurned_0 (i := 5) (by decide +kernel) rfl
theorem dX10_winsTurned_8 : decode cX10_winsTurned 8 = .ok (.invokevirtual 241, 3) := zrD zrw_cX10_winsTurned_0 (i := 8) (by decide +kernel) rfl
theorem dX10_winsTurned_11 : decode cX10_winsTurned 11 = .ok (.aload_n 0, 1) := zrD zrw_cX10_winsTurned_0 (i := 11) (by decide +kernel) rfl
theorem dX10_winsTurned_12 : decode cX10_winsTurned 12 = .ok (.getfield 56, 3) := zrD zrw_cX10_winsTurned_0 (i := 12) (by decide +kernel) rfl
theorem dX10_winsTurned_15 : decode cX10_winsTurned 15 = .ok (.getfield 116, 3) := zrD zrw_cX10_winsTurned_0 (i := 15) (by decide +kernel) rfl
theorem dX10_winsTurned_18 : decode cX10_winsTurned 18 = .ok (.iload_n 3, 1) := zrD zrw_cX10_winsTurned_0 (i := 18) (by decide +kernel) rfl
theorem dX10_winsTurned_19 : decode cX10_winsTurned 19 = .ok (.iload 4, 2) := zrD zrw_cX10_winsTurned_0 (i := 19) (by decide +kernel) rfl
theorem dX10_winsTurned_21 : decode cX10_winsTurned 21 = .ok (.iastore, 1) := zrD zrw_cX10_winsTurned_0 (i := 21) (by decide +kernel) rfl
theorem dX10_winsTurned_22 : decode cX10_winsTurned 22 = .ok (.aload_n 0, 1) := zrD zrw_cX10_winsTurned_0 (i := 22) (by decide +kernel) rfl
theorem dX10_winsTurned_23 : decode cX10_winsTurned 23 = .ok (.getfield 26, 3) := zrD zrw_cX10_winsTurned_0 (i := 23) (by decide +kernel) rfl
theorem dX10_winsTurned_26 : decode cX10_winsTurned 26 = .ok (.aload_n 0, 1) := zrD zrw_cX10_winsTurned_0 (i := 26) (by decide +kernel) rfl
theorem dX10_winsTurned_27 : decode cX10_winsTurned 27 = .ok (.getfield 70, 3) := zrD zrw_cX10_winsTurned_0 (i := 27) (by decide +kernel) rfl
theorem dX10_winsTurned_30 : decode cX10_winsTurned 30 = .ok (.aload_n 0, 1) := zrD zrw_cX10_winsTurned_0 (i := 30) (by decide +kernel) rfl
def zrk_cX10_winsTurned_31 : ByteArray := .mk #[180, 0, 56, 182, 1, 15, 42, 180, 0, 26, 28, 182, 0, 172, 27, 160, 0, 7, 4, 167, 0, 4, 3, 172]
theorem zrw_cX10_winsTurned_31 : zrW 31 cX10_winsTurned zrk_cX10_winsTurned_31 := by unfold zrW; decide +kernel
theorem dX10_winsTurned_31 : decode cX10_winsTurned 31 = .ok (.getfield 56, 3) := zrD zrw_cX10_winsTurned_31 (i := 0) (by decide +kernel) rfl
theorem dX10_winsTurned_34 : decode cX10_winsTurned 34 = .ok (.invokevirtual 271, 3) := zrD zrw_cX10_winsTurned_31 (i := 3) (by decide +kernel) rfl
theorem dX10_winsTurned_37 : decode cX10_winsTurned 37 = .ok (.aload_n 0, 1) := zrD zrw_cX10_winsTurned_31 (i := 6) (by decide +kernel) rfl
theorem dX10_winsTurned_38 : decode cX10_winsTurned 38 = .ok (.getfield 26, 3) := zrD zrw_cX10_winsTurned_31 (i := 7) (by decide +kernel) rfl
theorem dX10_winsTurned_41 : decode cX10_winsTurned 41 = .ok (.iload_n 2, 1) := zrD zrw_cX10_winsTurned_31 (i := 10) (by decide +kernel) rfl
theorem dX10_winsTurned_42 : decode cX10_winsTurned 42 = .ok (.invokevirtual 172, 3) := zrD zrw_cX10_winsTurned_31 (i := 11) (by decide +kernel) rfl
theorem dX10_winsTurned_45 : decode cX10_winsTurned 45 = .ok (.iload_n 1, 1) := zrD zrw_cX10_winsTurned_31 (i := 14) (by decide +kernel) rfl
theorem dX10_winsTurned_46 : decode cX10_winsTurned 46 = .ok (.if_icmp .ne 7, 3) := zrD zrw_cX10_winsTurned_31 (i := 15) (by decide +kernel) rfl
theorem dX10_winsTurned_49 : decode cX10_winsTurned 49 = .ok (.iconst 1, 1) := zrD zrw_cX10_winsTurned_31 (i := 18) (by decide +kernel) rfl
theorem dX10_winsTurned_50 : decode cX10_winsTurned 50 = .ok (.goto 4, 3) := zrD zrw_cX10_winsTurned_31 (i := 19) (by decide +kernel) rfl
theorem dX10_winsTurned_53 : decode cX10_winsTurned 53 = .ok (.iconst 0, 1) := zrD zrw_cX10_winsTurned_31 (i := 22) (by decide +kernel) rfl
theorem dX10_winsTurned_54 : decode cX10_winsTurned 54 = .ok (.ireturn, 1) := zrD zrw_cX10_winsTurned_31 (i := 23) (by decide +kernel) rfl
def zrk_cX10_damFor_0 : ByteArray := .mk #[42, 27, 28, 182, 0, 162, 154, 0, 5, 2, 172, 4, 62, 29, 42, 180, 0, 70, 180, 0, 175, 162, 0, 56, 42, 180, 0, 52, 180, 0, 128, 29]
theorem zrw_cX10_damFor_0 : zrW 0 cX10_damFor zrk_cX10_damFor_0 := by unfold zrW; decide +kernel
theorem dX10_damFor_0 : decode cX10_damFor 0 = .ok (.aload_n 0, 1) := zrD zrw_cX10_damFor_0 (i := 0) (by decide +kernel) rfl
theorem dX10_damFor_1 : decode cX10_damFor 1 = .ok (.iload_n 1, 1) := zrD zrw_cX10_damFor_0 (i := 1) (by decide +kernel) rfl
theorem dX10_damFor_2 : decode cX10_damFor 2 = .ok (.iload_n 2, 1) := zrD zrw_cX10_damFor_0 (i := 2) (by decide +kernel) rfl
theorem dX10_damFor_3 : decode cX10_damFor 3 = .ok (.invokevirtual 162, 3) := zrD zrw_cX10_damFor_0 (i := 3) (by decide +kernel) rfl
theorem dX10_damFor_6 : decode cX10_damFor 6 = .ok (.ifCond .ne 5, 3) := zrD zrw_cX10_damFor_0 (i := 6) (by decide +kernel) rfl
theorem dX10_damFor_9 : decode cX10_damFor 9 = .ok (.iconst (-1), 1) := zrD zrw_cX10_damFor_0 (i := 9) (by decide +kernel) rfl
theorem dX10_damFor_10 : decode cX10_damFor 10 = .ok (.ireturn, 1) := zrD zrw_cX10_damFor_0 (i := 10) (by decide +kernel) rfl
theorem dX10_damFor_11 : decode cX10_damFor 11 = .ok (.iconst 1, 1) := zrD zrw_cX10_damFor_0 (i := 11) (by decide +kernel) rfl
theorem dX10_damFor_12 : decode cX10_damFor 12 = .ok (.istore_n 3, 1) := zrD zrw_cX10_damFor_0 (i := 12) (by decide +kernel) rfl
theorem dX10_damFor_13 : decode cX10_damFor 13 = .ok (.iload_n 3, 1) := zrD zrw_cX10_damFor_0 (i := 13) (by decide +kernel) rfl
theorem dX10_damFor_14 : decode cX10_damFor 14 = .ok (.aload_n 0, 1) := zrD zrw_cX10_damFor_0 (i := 14) (by decide +kernel) rfl
theorem dX10_damFor_15 : decode cX10_damFor 15 = .ok (.getfield 70, 3) := zrD zrw_cX10_damFor_0 (i := 15) (by decide +kernel) rfl
theorem dX10_damFor_18 : decode cX10_damFor 18 = .ok (.getfield 175, 3) := zrD zrw_cX10_damFor_0 (i := 18) (by decide +kernel) rfl
theorem dX10_damFor_21 : decode cX10_damFor 21 = .ok (.if_icmp .ge 56, 3) := zrD zrw_cX10_damFor_0 (i := 21) (by decide +kernel) rfl
theorem dX10_damFor_24 : decode cX10_damFor 24 = .ok (.aload_n 0, 1) := zrD zrw_cX10_damFor_0 (i := 24) (by decide +kernel) rfl
theorem dX10_damFor_25 : decode cX10_damFor 25 = .ok (.getfield 52, 3) := zrD zrw_cX10_damFor_0 (i := 25) (by decide +kernel) rfl
theorem dX10_damFor_28 : decode cX10_damFor 28 = .ok (.getfield 128, 3) := zrD zrw_cX10_damFor_0 (i := 28) (by decide +kernel) rfl
theorem dX10_damFor_31 : decode cX10_damFor 31 = .ok (.iload_n 3, 1) := zrD zrw_cX10_damFor_0 (i := 31) (by decide +kernel) rfl
def zrk_cX10_damFor_32 : ByteArray := .mk #[184, 0, 131, 154, 0, 36, 42, 180, 0, 26, 42, 180, 0, 52, 180, 0, 128, 29, 184, 0, 216, 128, 182, 1, 18, 42, 180, 0, 26, 28]
theorem zrw_cX10_damFor_32 : zrW 32 cX10_damFor zrk_cX10_damFor_32 := by unfold zrW; decide +kernel
theorem dX10_damFor_32 : decode cX10_damFor 32 = .ok (.invokestatic 131, 3) := zrD zrw_cX10_damFor_32 (i := 0) (by decide +kernel) rfl
theorem dX10_damFor_35 : decode cX10_damFor 35 = .ok (.ifCond .ne 36, 3) := zrD zrw_cX10_damFor_32 (i := 3) (by decide +kernel) rfl
theorem dX10_damFor_38 : decode cX10_damFor 38 = .ok (.aload_n 0, 1) := zrD zrw_cX10_damFor_32 (i := 6) (by decide +kernel) rfl
theorem dX10_damFor_39 : decode cX10_damFor 39 = .ok (.getfield 26, 3) := zrD zrw_cX10_damFor_32 (i := 7) (by decide +kernel) rfl
theorem dX10_damFor_42 : decode cX10_damFor 42 = .ok (.aload_n 0, 1) := zrD zrw_cX10_damFor_32 (i := 10) (by decide +kernel) rfl
theorem dX10_damFor_43 : decode cX10_damFor 43 = .ok (.getfield 52, 3) := zrD zrw_cX10_damFor_32 (i := 11) (by decide +kernel) rfl
theorem dX10_damFor_46 : decode cX10_damFor 46 = .ok (.getfield 128, 3) := zrD zrw_cX10_damFor_32 (i := 14) (by decide +kernel) rfl
theorem dX10_damFor_49 : decode cX10_damFor 49 = .ok (.iload_n 3, 1) := zrD zrw_cX10_damFor_32 (i := 17) (by decide +kernel) rfl
theorem dX10_damFor_50 : decode cX10_damFor 50 = .ok (.invokestatic 216, 3) := zrD zrw_cX10_damFor_32 (i := 18) (by decide +kernel) rfl
theorem dX10_damFor_53 : decode cX10_damFor 53 = .ok (.ior, 1) := zrD zrw_cX10_damFor_32 (i := 21) (by decide +kernel) rfl
theorem dX10_damFor_54 : decode cX10_damFor 54 = .ok (.invokevirtual 274, 3) := zrD zrw_cX10_damFor_32 (i := 22) (by decide +kernel) rfl
theorem dX10_damFor_57 : decode cX10_damFor 57 = .ok (.aload_n 0, 1) := zrD zrw_cX10_damFor_32 (i := 25) (by decide +kernel) rfl
theorem dX10_damFor_58 : decode cX10_damFor 58 = .ok (.getfield 26, 3) := zrD zrw_cX10_damFor_32 (i := 26) (by decide +kernel) rfl
theorem dX10_damFor_61 : decode cX10_damFor 61 = .ok (.iload_n 2, 1) := zrD zrw_cX10_damFor_32 (i := 29) (by decide +kernel) rfl
def zrk_cX10_damFor_62 : ByteArray := .mk #[182, 0, 172, 27, 160, 0, 5, 29, 172, 132, 3, 1, 167, 255, 195, 16, 254, 172]
theorem zrw_cX10_damFor_62 : zrW 62 cX10_damFor zrk_cX10_damFor_62 := by unfold zrW; decide +kernel
theorem dX10_damFor_62 : decode cX10_damFor 62 = .ok (.invokevirtual 172, 3) := zrD zrw_cX10_damFor_62 (i := 0) (by decide +kernel) rfl
theorem dX10_damFor_65 : decode cX10_damFor 65 = .ok (.iload_n 1, 1) := zrD zrw_cX10_damFor_62 (i := 3) (by decide +kernel) rfl
theorem dX10_damFor_66 : decode cX10_damFor 66 = .ok (.if_icmp .ne 5, 3) := zrD zrw_cX10_damFor_62 (i := 4) (by decide +kernel) rfl
theorem dX10_damFor_69 : decode cX10_damFor 69 = .ok (.iload_n 3, 1) := zrD zrw_cX10_damFor_62 (i := 7) (by decide +kernel) rfl
theorem dX10_damFor_70 : decode cX10_damFor 70 = .ok (.ireturn, 1) := zrD zrw_cX10_damFor_62 (i := 8) (by decide +kernel) rfl
theorem dX10_damFor_71 : decode cX10_damFor 71 = .ok (.iinc 3 1, 3) := zrD zrw_cX10_damFor_62 (i := 9) (by decide +kernel) rfl
theorem dX10_damFor_74 : decode cX10_damFor 74 = .ok (.goto (-61), 3) := zrD zrw_cX10_damFor_62 (i := 12) (by decide +kernel) rfl
theorem dX10_damFor_77 : decode cX10_damFor 77 = .ok (.bipush (-2), 2) := zrD zrw_cX10_damFor_62 (i := 15) (by decide +kernel) rfl
theorem dX10_damFor_79 : decode cX10_damFor 79 = .ok (.ireturn, 1) := zrD zrw_cX10_damFor_62 (i := 17) (by decide +kernel) rfl
def zrk_cX10_dams_0 : ByteArray := .mk #[42, 182, 1, 21, 153, 0, 23, 27, 3, 17, 39, 15, 184, 0, 229, 153, 0, 12, 28, 2, 5, 184, 0, 229, 154, 0, 5, 2, 172, 42]
theorem zrw_cX10_dams_0 : zrW 0 cX10_dams zrk_cX10_dams_0 := by unfold zrW; decide +kernel
theorem dX10_dams_0 : decode cX10_dams 0 = .ok (.aload_n 0, 1) := zrD zrw_cX10_dams_0 (i := 0) (by decide +kernel) rfl
theorem dX10_dams_1 : decode cX10_dams 1 = .ok (.invokevirtual 277, 3) := zrD zrw_cX10_dams_0 (i := 1) (by decide +kernel) rfl
theorem dX10_dams_4 : decode cX10_dams 4 = .ok (.ifCond .eq 23, 3) := zrD zrw_cX10_dams_0 (i := 4) (by decide +kernel) rfl
theorem dX10_dams_7 : decode cX10_dams 7 = .ok (.iload_n 1, 1) := zrD zrw_cX10_dams_0 (i := 7) (by decide +kernel) rfl
theorem dX10_dams_8 : decode cX10_dams 8 = .ok (.iconst 0, 1) := zrD zrw_cX10_dams_0 (i := 8) (by decide +kernel) rfl
theorem dX10_dams_9 : decode cX10_dams 9 = .ok (.sipush 9999, 3) := zrD zrw_cX10_dams_0 (i := 9) (by decide +kernel) rfl
theorem dX10_dams_12 : decode cX10_dams 12 = .ok (.invokestatic 229, 3) := zrD zrw_cX10_dams_0 (i := 12) (by decide +kernel) rfl
theorem dX10_dams_15 : decode cX10_dams 15 = .ok (.ifCond .eq 12, 3) := zrD zrw_cX10_dams_0 (i := 15) (by decide +kernel) rfl
theorem dX10_dams_18 : decode cX10_dams 18 = .ok (.iload_n 2, 1) := zrD zrw_cX10_dams_0 (i := 18) (by decide +kernel) rfl
theorem dX10_dams_19 : decode cX10_dams 19 = .ok (.iconst (-1), 1) := zrD zrw_cX10_dams_0 (i := 19) (by decide +kernel) rfl
theorem dX10_dams_20 : decode cX10_dams 20 = .ok (.iconst 2, 1) := zrD zrw_cX10_dams_0 (i := 20) (by decide +kernel) rfl
theorem dX10_dams_21 : decode cX10_dams 21 = .ok (.invokestatic 229, 3) := zrD zrw_cX10_dams_0 (i := 21) (by decide +kernel) rfl
theorem dX10_dams_24 : decode cX10_dams 24 = .ok (.ifCond .ne 5, 3) := zrD zrw_cX10_dams_0 (i := 24) (by decide +kernel) rfl
theorem dX10_dams_27 : decode cX10_dams 27 = .ok (.iconst (-1), 1) := zrD zrw_cX10_dams_0 (i := 27) (by decide +kernel) rfl
theorem dX10_dams_28 : decode cX10_dams 28 = .ok (.ireturn, 1) := zrD zrw_cX10_dams_0 (i := 28) (by decide +kernel) rfl
theorem dX10_dams_29 : decode cX10_dams 29 = .ok (.aload_n 0, 1) := zrD zrw_cX10_dams_0 (i := 29) (by decide +kernel) rfl
def zrk_cX10_dams_30 : ByteArray := .mk #[182, 0, 113, 42, 27, 182, 1, 25, 62, 29, 2, 160, 0, 6, 16, 254, 172, 28, 2, 160, 0, 10, 29, 184, 0, 198, 167, 0, 8, 29, 28]
theorem zrw_cX10_dams_30 : zrW 30 cX10_dams zrk_cX10_dams_30 := by unfold zrW; decide +kernel
theorem dX10_dams_30 : decode cX10_dams 30 = .ok (.invokevirtual 113, 3) := zrD zrw_cX10_dams_30 (i := 0) (by decide +kernel) rfl
theorem dX10_dams_33 : decode cX10_dams 33 = .ok (.aload_n 0, 1) := zrD zrw_cX10_dams_30 (i := 3) (by decide +kernel) rfl
theorem dX10_dams_34 : decode cX10_dams 34 = .ok (.iload_n 1, 1) := zrD zrw_cX10_dams_30 (i := 4) (by decide +kernel) rfl
theorem dX10_dams_35 : decode cX10_dams 35 = .ok (.invokevirtual 281, 3) := zrD zrw_cX10_dams_30 (i := 5) (by decide +kernel) rfl
theorem dX10_dams_38 : decode cX10_dams 38 = .ok (.istore_n 3, 1) := zrD zrw_cX10_dams_30 (i := 8) (by decide +kernel) rfl
theorem dX10_dams_39 : decode cX10_dams 39 = .ok (.iload_n 3, 1) := zrD zrw_cX10_dams_30 (i := 9) (by decide +kernel) rfl
theorem dX10_dams_40 : decode cX10_dams 40 = .ok (.iconst (-1), 1) := zrD zrw_cX10_dams_30 (i := 10) (by decide +kernel) rfl
theorem dX10_dams_41 : decode cX10_dams 41 = .ok (.if_icmp .ne 6, 3) := zrD zrw_cX10_dams_30 (i := 11) (by decide +kernel) rfl
theorem dX10_dams_44 : decode cX10_dams 44 = .ok (.bipush (-2), 2) := zrD zrw_cX10_dams_30 (i := 14) (by decide +kernel) rfl
theorem dX10_dams_46 : decode cX10_dams 46 = .ok (.ireturn, 1) := zrD zrw_cX10_dams_30 (i := 16) (by decide +kernel) rfl
theorem dX10_dams_47 : decode cX10_dams 47 = .ok (.iload_n 2, 1) := zrD zrw_cX10_dams_30 (i := 17) (by decide +kernel) rfl
theorem dX10_dams_48 : decode cX10_dams 48 = .ok (.iconst (-1), 1) := zrD zrw_cX10_dams_30 (i := 18) (by decide +kernel) rfl
theorem dX10_dams_49 : decode cX10_dams 49 = .ok (.if_icmp .ne 10, 3) := zrD zrw_cX10_dams_30 (i := 19) (by decide +kernel) rfl
theorem dX10_dams_52 : decode cX10_dams 52 = .ok (.iload_n 3, 1) := zrD zrw_cX10_dams_30 (i := 22) (by decide +kernel) rfl
theorem dX10_dams_53 : decode cX10_dams 53 = .ok (.invokestatic 198, 3) := zrD zrw_cX10_dams_30 (i := 23) (by decide +kernel) rfl
theorem dX10_dams_56 : decode cX10_dams 56 = .ok (.goto 8, 3) := zrD zrw_cX10_dams_30 (i := 26) (by decide +kernel) rfl
theorem dX10_dams_59 : decode cX10_dams 59 = .ok (.iload_n 3, 1) := zrD zrw_cX10_dams_30 (i := 29) (by decide +kernel) rfl
theorem dX10_dams_60 : decode cX10_dams 60 = .ok (.iload_n 2, 1) := zrD zrw_cX10_dams_30 (i := 30) (by decide +kernel) rfl
def zrk_cX10_dams_61 : ByteArray := .mk #[184, 1, 28, 172]
theorem zrw_cX10_dams_61 : zrW 61 cX10_dams zrk_cX10_dams_61 := by unfold zrW; decide +kernel
theorem dX10_dams_61 : decode cX10_dams 61 = .ok (.invokestatic 284, 3) := zrD zrw_cX10_dams_61 (i := 0) (by decide +kernel) rfl
theorem dX10_dams_64 : decode cX10_dams 64 = .ok (.ireturn, 1) := zrD zrw_cX10_dams_61 (i := 3) (by decide +kernel) rfl
def zrk_cX10_fewestDams_0 : ByteArray := .mk #[42, 180, 0, 70, 180, 0, 175, 184, 0, 216, 4, 100, 42, 180, 0, 52, 180, 0, 128, 3, 184, 0, 216, 128, 2, 130, 126, 61, 2, 62, 3]
theorem zrw_cX10_fewestDams_0 : zrW 0 cX10_fewestDams zrk_cX10_fewestDams_0 := by unfold zrW; decide +kernel
theorem dX10_fewestDams_0 : decode cX10_fewestDams 0 = .ok (.aload_n 0, 1) := zrD zrw_cX10_fewestDams_0 (i := 0) (by decide +kernel) rfl
theorem dX10_fewestDams_1 : decode cX10_fewestDams 1 = .ok (.getfield 70, 3) := zrD zrw_cX10_fewestDams_0 (i := 1) (by decide +kernel) rfl
theorem dX10_fewestDams_4 : decode cX10_fewestDams 4 = .ok (.getfield 175, 3) := zrD zrw_cX10_fewestDams_0 (i := 4) (by decide +kernel) rfl
theorem dX10_fewestDams_7 : decode cX10_fewestDams 7 = .ok (.invokestatic 216, 3) := zrD zrw_cX10_fewestDams_0 (i := 7) (by decide +kernel) rfl
theorem dX10_fewestDams_10 : decode cX10_fewestDams 10 = .ok (.iconst 1, 1) := zrD zrw_cX10_fewestDams_0 (i := 10) (by decide +kernel) rfl
theorem dX10_fewestDams_11 : decode cX10_fewestDams 11 = .ok (.isub, 1) := zrD zrw_cX10_fewestDams_0 (i := 11) (by decide +kernel) rfl
theorem dX10_fewestDams_12 : decode cX10_fewestDams 12 = .ok (.aload_n 0, 1) := zrD zrw_cX10_fewestDams_0 (i := 12) (by decide +kernel) rfl
theorem dX10_fewestDams_13 : decode cX10_fewestDams 13 = .ok (.getfield 52, 3) := zrD zrw_cX10_fewestDams_0 (i := 13) (by decide +kernel) rfl
theorem dX10_fewestDams_16 : decode cX10_fewestDams 16 = .ok (.getfield 128, 3) := zrD zrw_cX10_fewestDams_0 (i := 16) (by decide +kernel) rfl
theorem dX10_fewestDams_19 : decode cX10_fewestDams 19 = .ok (.iconst 0, 1) := zrD zrw_cX10_fewestDams_0 (i := 19) (by decide +kernel) rfl
theorem dX10_fewestDams_20 : decode cX10_fewestDams 20 = .ok (.invokestatic 216, 3) := zrD zrw_cX10_fewestDams_0 (i := 20) (by decide +kernel) rfl
theorem dX10_fewestDams_23 : decode cX10_fewestDams 23 = .ok (.ior, 1) := zrD zrw_cX10_fewestDams_0 (i := 23) (by decide +kernel) rfl
theorem dX10_fewestDams_24 : decode cX10_fewestDams 24 = .ok (.iconst (-1), 1) := zrD zrw_cX10_fewestDams_0 (i := 24) (by decide +kernel) rfl
theorem dX10_fewestDams_25 : decode cX10_fewestDams 25 = .ok (.ixor, 1) := zrD zrw_cX10_fewestDams_0 (i := 25) (by decide +kernel) rfl
theorem dX10_fewestDams_26 : decode cX10_fewestDams 26 = .ok (.iand, 1) := zrD zrw_cX10_fewestDams_0 (i := 26) (by decide +kernel) rfl
theorem dX10_fewestDams_27 : decode cX10_fewestDams 27 = .ok (.istore_n 2, 1) := zrD zrw_cX10_fewestDams_0 (i := 27) (by decide +kernel) rfl
theorem dX10_fewestDams_28 : decode cX10_fewestDams 28 = .ok (.iconst (-1), 1) := zrD zrw_cX10_fewestDams_0 (i := 28) (by decide +kernel) rfl
theorem dX10_fewestDams_29 : decode cX10_fewestDams 29 = .ok (.istore_n 3, 1) := zrD zrw_cX10_fewestDams_0 (i := 29) (by decide +kernel) rfl
theorem dX10_fewestDams_30 : decode cX10_fewestDams 30 = .ok (.iconst 0, 1) := zrD zrw_cX10_fewestDams_0 (i := 30) (by decide +kernel) rfl
def zrk_cX10_fewestDams_31 : ByteArray := .mk #[54, 4, 21, 4, 28, 163, 0, 68, 21, 4, 28, 2, 130, 126, 154, 0, 53, 21, 4, 184, 0, 198, 6, 163, 0, 44, 21, 4, 29, 184, 1, 31]
theorem zrw_cX10_fewestDams_31 : zrW 31 cX10_fewestDams zrk_cX10_fewestDams_31 := by unfold zrW; decide +kernel
theorem dX10_fewestDams_31 : decode cX10_fewestDams 31 = .ok (.istore 4, 2) := zrD zrw_cX10_fewestDams_31 (i := 0) (by decide +kernel) rfl
theorem dX10_fewestDams_33 : decode cX10_fewestDams 33 = .ok (.iload 4, 2) := zrD zrw_cX10_fewestDams_31 (i := 2) (by decide +kernel) rfl
theorem dX10_fewestDams_35 : decode cX10_fewestDams 35 = .ok (.iload_n 2, 1) := zrD zrw_cX10_fewestDams_31 (i := 4) (by decide +kernel) rfl
theorem dX10_fewestDams_36 : decode cX10_fewestDams 36 = .ok (.if_icmp .gt 68, 3) := zrD zrw_cX10_fewestDams_31 (i := 5) (by decide +kernel) rfl
theorem dX10_fewestDams_39 : decode cX10_fewestDams 39 = .ok (.iload 4, 2) := zrD zrw_cX10_fewestDams_31 (i := 8) (by decide +kernel) rfl
theorem dX10_fewestDams_41 : decode cX10_fewestDams 41 = .ok (.iload_n 2, 1) := zrD zrw_cX10_fewestDams_31 (i := 10) (by decide +kernel) rfl
theorem dX10_fewestDams_42 : decode cX10_fewestDams 42 = .ok (.iconst (-1), 1) := zrD zrw_cX10_fewestDams_31 (i := 11) (by decide +kernel) rfl
theorem dX10_fewestDams_43 : decode cX10_fewestDams 43 = .ok (.ixor, 1) := zrD zrw_cX10_fewestDams_31 (i := 12) (by decide +kernel) rfl
theorem dX10_fewestDams_44 : decode cX10_fewestDams 44 = .ok (.iand, 1) := zrD zrw_cX10_fewestDams_31 (i := 13) (by decide +kernel) rfl
theorem dX10_fewestDams_45 : decode cX10_fewestDams 45 = .ok (.ifCond .ne 53, 3) := zrD zrw_cX10_fewestDams_31 (i := 14) (by decide +kernel) rfl
theorem dX10_fewestDams_48 : decode cX10_fewestDams 48 = .ok (.iload 4, 2) := zrD zrw_cX10_fewestDams_31 (i := 17) (by decide +kernel) rfl
theorem dX10_fewestDams_50 : decode cX10_fewestDams 50 = .ok (.invokestatic 198, 3) := zrD zrw_cX10_fewestDams_31 (i := 19) (by decide +kernel) rfl
theorem dX10_fewestDams_53 : decode cX10_fewestDams 53 = .ok (.iconst 3, 1) := zrD zrw_cX10_fewestDams_31 (i := 22) (by decide +kernel) rfl
theorem dX10_fewestDams_54 : decode cX10_fewestDams 54 = .ok (.if_icmp .gt 44, 3) := zrD zrw_cX10_fewestDams_31 (i := 23) (by decide +kernel) rfl
theorem dX10_fewestDams_57 : decode cX10_fewestDams 57 = .ok (.iload 4, 2) := zrD zrw_cX10_fewestDams_31 (i := 26) (by decide +kernel) rfl
theorem dX10_fewestDams_59 : decode cX10_fewestDams 59 = .ok (.iload_n 3, 1) := zrD zrw_cX10_fewestDams_31 (i := 28) (by decide +kernel) rfl
theorem dX10_fewestDams_60 : decode cX10_fewestDams 60 = .ok (.invokestatic 287, 3) := zrD zrw_cX10_fewestDams_31 (i := 29) (by decide +kernel) rfl
def zrk_cX10_fewestDams_63 : ByteArray := .mk #[153, 0, 35, 42, 180, 0, 26, 42, 180, 0, 52, 180, 0, 128, 21, 4, 128, 182, 1, 18, 42, 182, 0, 191, 27, 163, 0, 8, 21, 4]
theorem zrw_cX10_fewestDams_63 : zrW 63 cX10_fewestDams zrk_cX10_fewestDams_63 := by unfold zrW; decide +kernel
theorem dX10_fewestDams_63 : decode cX10_fewestDams 63 = .ok (.ifCond .eq 35, 3) := zrD zrw_cX10_fewestDams_63 (i := 0) (by decide +kernel) rfl
theorem dX10_fewestDams_66 : decode cX10_fewestDams 66 = .ok (.aload_n 0, 1) := zrD zrw_cX10_fewestDams_63 (i := 3) (by decide +kernel) rfl
theorem dX10_fewestDams_67 : decode cX10_fewestDams 67 = .ok (.getfield 26, 3) := zrD zrw_cX10_fewestDams_63 (i := 4) (by decide +kernel) rfl
theorem dX10_fewestDams_70 : decode cX10_fewestDams 70 = .ok (.aload_n 0, 1) := zrD zrw_cX10_fewestDams_63 (i := 7) (by decide +kernel) rfl
theorem dX10_fewestDams_71 : decode cX10_fewestDams 71 = .ok (.getfield 52, 3) := zrD zrw_cX10_fewestDams_63 (i := 8) (by decide +kernel) rfl
theorem dX10_fewestDams_74 : decode cX10_fewestDams 74 = .ok (.getfield 128, 3) := zrD zrw_cX10_fewestDams_63 (i := 11) (by decide +kernel) rfl
theorem dX10_fewestDams_77 : decode cX10_fewestDams 77 = .ok (.iload 4, 2) := zrD zrw_cX10_fewestDams_63 (i := 14) (by decide +kernel) rfl
theorem dX10_fewestDams_79 : decode cX10_fewestDams 79 = .ok (.ior, 1) := zrD zrw_cX10_fewestDams_63 (i := 16) (by decide +kernel) rfl
theorem dX10_fewestDams_80 : decode cX10_fewestDams 80 = .ok (.invokevirtual 274, 3) := zrD zrw_cX10_fewestDams_63 (i := 17) (by decide +kernel) rfl
theorem dX10_fewestDams_83 : decode cX10_fewestDams 83 = .ok (.aload_n 0, 1) := zrD zrw_cX10_fewestDams_63 (i := 20) (by decide +kernel) rfl
theorem dX10_fewestDams_84 : decode cX10_fewestDams 84 = .ok (.invokevirtual 191, 3) := zrD zrw_cX10_fewestDams_63 (i := 21) (by decide +kernel) rfl
theorem dX10_fewestDams_87 : decode cX10_fewestDams 87 = .ok (.iload_n 1, 1) := zrD zrw_cX10_fewestDams_63 (i := 24) (by decide +kernel) rfl
theorem dX10_fewestDams_88 : decode cX10_fewestDams 88 = .ok (.if_icmp .gt 8, 3) := zrD zrw_cX10_fewestDams_63 (i := 25) (by decide +kernel) rfl
theorem dX10_fewestDams_91 : decode cX10_fewestDams 91 = .ok (.iload 4, 2) := zrD zrw_cX10_fewestDams_63 (i := 28) (by decide +kernel) rfl
def zrk_cX10_fewestDams_93 : ByteArray := .mk #[167, 0, 4, 29, 62, 132, 4, 1, 167, 255, 188, 29, 172]
theorem zrw_cX10_fewestDams_93 : zrW 93 cX10_fewestDams zrk_cX10_fewestDams_93 := by unfold zrW; decide +kernel
theorem dX10_fewestDams_93 : decode cX10_fewestDams 93 = .ok (.goto 4, 3) := zrD zrw_cX10_fewestDams_93 (i := 0) (by decide +kernel) rfl
theorem dX10_fewestDams_96 : decode cX10_fewestDams 96 = .ok (.iload_n 3, 1) := zrD zrw_cX10_fewestDams_93 (i := 3) (by decide +kernel) rfl
theorem dX10_fewestDams_97 : decode cX10_fewestDams 97 = .ok (.istore_n 3, 1) := zrD zrw_cX10_fewestDams_93 (i := 4) (by decide +kernel) rfl
theorem dX10_fewestDams_98 : decode cX10_fewestDams 98 = .ok (.iinc 4 1, 3) := zrD zrw_cX10_fewestDams_93 (i := 5) (by decide +kernel) rfl
theorem dX10_fewestDams_101 : decode cX10_fewestDams 101 = .ok (.goto (-68), 3) := zrD zrw_cX10_fewestDams_93 (i := 8) (by decide +kernel) rfl
theorem dX10_fewestDams_104 : decode cX10_fewestDams 104 = .ok (.iload_n 3, 1) := zrD zrw_cX10_fewestDams_93 (i := 11) (by decide +kernel) rfl
theorem dX10_fewestDams_105 : decode cX10_fewestDams 105 = .ok (.ireturn, 1) := zrD zrw_cX10_fewestDams_93 (i := 12) (by decide +kernel) rfl
def zrk_cX10_isAhead_0 : ByteArray := .mk #[27, 184, 0, 198, 26, 184, 0, 198, 100, 61, 26, 27, 130, 26, 27, 130, 116, 126, 62, 27, 2, 159, 0, 17, 28, 157, 0, 13, 28, 154, 0, 13]
theorem zrw_cX10_isAhead_0 : zrW 0 cX10_isAhead zrk_cX10_isAhead_0 := by unfold zrW; decide +kernel
theorem dX10_isAhead_0 : decode cX10_isAhead 0 = .ok (.iload_n 1, 1) := zrD zrw_cX10_isAhead_0 (i := 0) (by decide +kernel) rfl
theorem dX10_isAhead_1 : decode cX10_isAhead 1 = .ok (.invokestatic 198, 3) := zrD zrw_cX10_isAhead_0 (i := 1) (by decide +kernel) rfl
theorem dX10_isAhead_4 : decode cX10_isAhead 4 = .ok (.iload_n 0, 1) := zrD zrw_cX10_isAhead_0 (i := 4) (by decide +kernel) rfl
theorem dX10_isAhead_5 : decode cX10_isAhead 5 = .ok (.invokestatic 198, 3) := zrD zrw_cX10_isAhead_0 (i := 5) (by decide +kernel) rfl
theorem dX10_isAhead_8 : decode cX10_isAhead 8 = .ok (.isub, 1) := zrD zrw_cX10_isAhead_0 (i := 8) (by decide +kernel) rfl
theorem dX10_isAhead_9 : decode cX10_isAhead 9 = .ok (.istore_n 2, 1) := zrD zrw_cX10_isAhead_0 (i := 9) (by decide +kernel) rfl
theorem dX10_isAhead_10 : decode cX10_isAhead 10 = .ok (.iload_n 0, 1) := zrD zrw_cX10_isAhead_0 (i := 10) (by decide +kernel) rfl
theorem dX10_isAhead_11 : decode cX10_isAhead 11 = .ok (.iload_n 1, 1) := zrD zrw_cX10_isAhead_0 (i := 11) (by decide +kernel) rfl
theorem dX10_isAhead_12 : decode cX10_isAhead 12 = .ok (.ixor, 1) := zrD zrw_cX10_isAhead_0 (i := 12) (by decide +kernel) rfl
theorem dX10_isAhead_13 : decode cX10_isAhead 13 = .ok (.iload_n 0, 1) := zrD zrw_cX10_isAhead_0 (i := 13) (by decide +kernel) rfl
theorem dX10_isAhead_14 : decode cX10_isAhead 14 = .ok (.iload_n 1, 1) := zrD zrw_cX10_isAhead_0 (i := 14) (by decide +kernel) rfl
theorem dX10_isAhead_15 : decode cX10_isAhead 15 = .ok (.ixor, 1) := zrD zrw_cX10_isAhead_0 (i := 15) (by decide +kernel) rfl
theorem dX10_isAhead_16 : decode cX10_isAhead 16 = .ok (.ineg, 1) := zrD zrw_cX10_isAhead_0 (i := 16) (by decide +kernel) rfl
theorem dX10_isAhead_17 : decode cX10_isAhead 17 = .ok (.iand, 1) := zrD zrw_cX10_isAhead_0 (i := 17) (by decide +kernel) rfl
theorem dX10_isAhead_18 : decode cX10_isAhead 18 = .ok (.istore_n 3, 1) := zrD zrw_cX10_isAhead_0 (i := 18) (by decide +kernel) rfl
theorem dX10_isAhead_19 : decode cX10_isAhead 19 = .ok (.iload_n 1, 1) := zrD zrw_cX10_isAhead_0 (i := 19) (by decide +kernel) rfl
theorem dX10_isAhead_20 : decode cX10_isAhead 20 = .ok (.iconst (-1), 1) := zrD zrw_cX10_isAhead_0 (i := 20) (by decide +kernel) rfl
theorem dX10_isAhead_21 : decode cX10_isAhead 21 = .ok (.if_icmp .eq 17, 3) := zrD zrw_cX10_isAhead_0 (i := 21) (by decide +kernel) rfl
theorem dX10_isAhead_24 : decode cX10_isAhead 24 = .ok (.iload_n 2, 1) := zrD zrw_cX10_isAhead_0 (i := 24) (by decide +kernel) rfl
theorem dX10_isAhead_25 : decode cX10_isAhead 25 = .ok (.ifCond .gt 13, 3) := zrD zrw_cX10_isAhead_0 (i := 25) (by decide +kernel) rfl
theorem dX10_isAhead_28 : decode cX10_isAhead 28 = .ok (.iload_n 2, 1) := zrD zrw_cX10_isAhead_0 (i := 28) (by decide +kernel) rfl
theorem dX10_isAhead_29 : decode cX10_isAhead 29 = .ok (.ifCond .ne 13, 3) := zrD zrw_cX10_isAhead_0 (i := 29) (by decide +kernel) rfl
def zrk_cX10_isAhead_32 : ByteArray := .mk #[26, 29, 126, 153, 0, 7, 4, 167, 0, 4, 3, 172]
theorem zrw_cX10_isAhead_32 : zrW 32 cX10_isAhead zrk_cX10_isAhead_32 := by unfold zrW; decide +kernel
theorem dX10_isAhead_32 : decode cX10_isAhead 32 = .ok (.iload_n 0, 1) := zrD zrw_cX10_isAhead_32 (i := 0) (by decide +kernel) rfl
theorem dX10_isAhead_33 : decode cX10_isAhead 33 = .ok (.iload_n 3, 1) := zrD zrw_cX10_isAhead_32 (i := 1) (by decide +kernel) rfl
theorem dX10_isAhead_34 : decode cX10_isAhead 34 = .ok (.iand, 1) := zrD zrw_cX10_isAhead_32 (i := 2) (by decide +kernel) rfl
theorem dX10_isAhead_35 : decode cX10_isAhead 35 = .ok (.ifCond .eq 7, 3) := zrD zrw_cX10_isAhead_32 (i := 3) (by decide +kernel) rfl
theorem dX10_isAhead_38 : decode cX10_isAhead 38 = .ok (.iconst 1, 1) := zrD zrw_cX10_isAhead_32 (i := 6) (by decide +kernel) rfl
theorem dX10_isAhead_39 : decode cX10_isAhead 39 = .ok (.goto 4, 3) := zrD zrw_cX10_isAhead_32 (i := 7) (by decide +kernel) rfl
theorem dX10_isAhead_42 : decode cX10_isAhead 42 = .ok (.iconst 0, 1) := zrD zrw_cX10_isAhead_32 (i := 10) (by decide +kernel) rfl
theorem dX10_isAhead_43 : decode cX10_isAhead 43 = .ok (.ireturn, 1) := zrD zrw_cX10_isAhead_32 (i := 11) (by decide +kernel) rfl
def zrk_cX10_loss_0 : ByteArray := .mk #[27, 153, 0, 11, 42, 27, 182, 0, 109, 154, 0, 5, 2, 172, 42, 182, 0, 113, 42, 27, 182, 1, 34, 172]
theorem zrw_cX10_loss_0 : zrW 0 cX10_loss zrk_cX10_loss_0 := by unfold zrW; decide +kernel
theorem dX10_loss_0 : decode cX10_loss 0 = .ok (.iload_n 1, 1) := zrD zrw_cX10_loss_0 (i := 0) (by decide +kernel) rfl
theorem dX10_loss_1 : decode cX10_loss 1 = .ok (.ifCond .eq 11, 3) := zrD zrw_cX10_loss_0 (i := 1) (by decide +kernel) rfl
theorem dX10_loss_4 : decode cX10_loss 4 = .ok (.aload_n 0, 1) := zrD zrw_cX10_loss_0 (i := 4) (by decide +kernel) rfl
theorem dX10_loss_5 : decode cX10_loss 5 = .ok (.iload_n 1, 1) := zrD zrw_cX10_loss_0 (i := 5) (by decide +kernel) rfl
theorem dX10_loss_6 : decode cX10_loss 6 = .ok (.invokevirtual 109, 3) := zrD zrw_cX10_loss_0 (i := 6) (by decide +kernel) rfl
theorem dX10_loss_9 : decode cX10_loss 9 = .ok (.ifCond .ne 5, 3) := zrD zrw_cX10_loss_0 (i := 9) (by decide +kernel) rfl
theorem dX10_loss_12 : decode cX10_loss 12 = .ok (.iconst (-1), 1) := zrD zrw_cX10_loss_0 (i := 12) (by decide +kernel) rfl
theorem dX10_loss_13 : decode cX10_loss 13 = .ok (.ireturn, 1) := zrD zrw_cX10_loss_0 (i := 13) (by decide +kernel) rfl
theorem dX10_loss_14 : decode cX10_loss 14 = .ok (.aload_n 0, 1) := zrD zrw_cX10_loss_0 (i := 14) (by decide +kernel) rfl
theorem dX10_loss_15 : decode cX10_loss 15 = .ok (.invokevirtual 113, 3) := zrD zrw_cX10_loss_0 (i := 15) (by decide +kernel) rfl
theorem dX10_loss_18 : decode cX10_loss 18 = .ok (.aload_n 0, 1) := zrD zrw_cX10_loss_0 (i := 18) (by decide +kernel) rfl
theorem dX10_loss_19 : decode cX10_loss 19 = .ok (.iload_n 1, 1) := zrD zrw_cX10_loss_0 (i := 19) (by decide +kernel) rfl
theorem dX10_loss_20 : decode cX10_loss 20 = .ok (.invokevirtual 290, 3) := zrD zrw_cX10_loss_0 (i := 20) (by decide +kernel) rfl
theorem dX10_loss_23 : decode cX10_loss 23 = .ok (.ireturn, 1) := zrD zrw_cX10_loss_0 (i := 23) (by decide +kernel) rfl
def zrk_cX10_lossOf_0 : ByteArray := .mk #[42, 182, 0, 191, 61, 42, 180, 0, 26, 42, 180, 0, 52, 180, 0, 128, 27, 184, 0, 216, 128, 182, 1, 18, 28, 42, 182, 0, 191, 100, 172]
theorem zrw_cX10_lossOf_0 : zrW 0 cX10_lossOf zrk_cX10_lossOf_0 := by unfold zrW; decide +kernel
theorem dX10_lossOf_0 : decode cX10_lossOf 0 = .ok (.aload_n 0, 1) := zrD zrw_cX10_lossOf_0 (i := 0) (by decide +kernel) rfl
theorem dX10_lossOf_1 : decode cX10_lossOf 1 = .ok (.invokevirtual 191, 3) := zrD zrw_cX10_lossOf_0 (i := 1) (by decide +kernel) rfl
theorem dX10_lossOf_4 : decode cX10_lossOf 4 = .ok (.istore_n 2, 1) := zrD zrw_cX10_lossOf_0 (i := 4) (by decide +kernel) rfl
theorem dX10_lossOf_5 : decode cX10_lossOf 5 = .ok (.aload_n 0, 1) := zrD zrw_cX10_lossOf_0 (i := 5) (by decide +kernel) rfl
theorem dX10_lossOf_6 : decode cX10_lossOf 6 = .ok (.getfield 26, 3) := zrD zrw_cX10_lossOf_0 (i := 6) (by decide +kernel) rfl
theorem dX10_lossOf_9 : decode cX10_lossOf 9 = .ok (.aload_n 0, 1) := zrD zrw_cX10_lossOf_0 (i := 9) (by decide +kernel) rfl
theorem dX10_lossOf_10 : decode cX10_lossOf 10 = .ok (.getfield 52, 3) := zrD zrw_cX10_lossOf_0 (i := 10) (by decide +kernel) rfl
theorem dX10_lossOf_13 : decode cX10_lossOf 13 = .ok (.getfield 128, 3) := zrD zrw_cX10_lossOf_0 (i := 13) (by decide +kernel) rfl
theorem dX10_lossOf_16 : decode cX10_lossOf 16 = .ok (.iload_n 1, 1) := zrD zrw_cX10_lossOf_0 (i := 16) (by decide +kernel) rfl
theorem dX10_lossOf_17 : decode cX10_lossOf 17 = .ok (.invokestatic 216, 3) := zrD zrw_cX10_lossOf_0 (i := 17) (by decide +kernel) rfl
theorem dX10_lossOf_20 : decode cX10_lossOf 20 = .ok (.ior, 1) := zrD zrw_cX10_lossOf_0 (i := 20) (by decide +kernel) rfl
theorem dX10_lossOf_21 : decode cX10_lossOf 21 = .ok (.invokevirtual 274, 3) := zrD zrw_cX10_lossOf_0 (i := 21) (by decide +kernel) rfl
theorem dX10_lossOf_24 : decode cX10_lossOf 24 = .ok (.iload_n 2, 1) := zrD zrw_cX10_lossOf_0 (i := 24) (by decide +kernel) rfl
theorem dX10_lossOf_25 : decode cX10_lossOf 25 = .ok (.aload_n 0, 1) := zrD zrw_cX10_lossOf_0 (i := 25) (by decide +kernel) rfl
theorem dX10_lossOf_26 : decode cX10_lossOf 26 = .ok (.invokevirtual 191, 3) := zrD zrw_cX10_lossOf_0 (i := 26) (by decide +kernel) rfl
theorem dX10_lossOf_29 : decode cX10_lossOf 29 = .ok (.isub, 1) := zrD zrw_cX10_lossOf_0 (i := 29) (by decide +kernel) rfl
theorem dX10_lossOf_30 : decode cX10_lossOf 30 = .ok (.ireturn, 1) := zrD zrw_cX10_lossOf_0 (i := 30) (by decide +kernel) rfl
def zrk_cX10_part_0 : ByteArray := .mk #[27, 153, 0, 11, 42, 27, 182, 0, 109, 154, 0, 5, 2, 172, 42, 182, 0, 113, 42, 182, 0, 191, 61, 28, 154, 0, 7, 3, 167, 0, 14, 42]
theorem zrw_cX10_part_0 : zrW 0 cX10_part zrk_cX10_part_0 := by unfold zrW; decide +kernel
theorem dX10_part_0 : decode cX10_part 0 = .ok (.iload_n 1, 1) := zrD zrw_cX10_part_0 (i := 0) (by decide +kernel) rfl
theorem dX10_part_1 : decode cX10_part 1 = .ok (.ifCond .eq 11, 3) := zrD zrw_cX10_part_0 (i := 1) (by decide +kernel) rfl
theorem dX10_part_4 : decode cX10_part 4 = .ok (.aload_n 0, 1) := zrD zrw_cX10_part_0 (i := 4) (by decide +kernel) rfl
theorem dX10_part_5 : decode cX10_part 5 = .ok (.iload_n 1, 1) := zrD zrw_cX10_part_0 (i := 5) (by decide +kernel) rfl
theorem dX10_part_6 : decode cX10_part 6 = .ok (.invokevirtual 109, 3) := zrD zrw_cX10_part_0 (i := 6) (by decide +kernel) rfl
theorem dX10_part_9 : decode cX10_part 9 = .ok (.ifCond .ne 5, 3) := zrD zrw_cX10_part_0 (i := 9) (by decide +kernel) rfl
theorem dX10_part_12 : decode cX10_part 12 = .ok (.iconst (-1), 1) := zrD zrw_cX10_part_0 (i := 12) (by decide +kernel) rfl
theorem dX10_part_13 : decode cX10_part 13 = .ok (.ireturn, 1) := zrD zrw_cX10_part_0 (i := 13) (by decide +kernel) rfl
theorem dX10_part_14 : decode cX10_part 14 = .ok (.aload_n 0, 1) := zrD zrw_cX10_part_0 (i := 14) (by decide +kernel) rfl
theorem dX10_part_15 : decode cX10_part 15 = .ok (.invokevirtual 113, 3) := zrD zrw_cX10_part_0 (i := 15) (by decide +kernel) rfl
theorem dX10_part_18 : decode cX10_part 18 = .ok (.aload_n 0, 1) := zrD zrw_cX10_part_0 (i := 18) (by decide +kernel) rfl
theorem dX10_part_19 : decode cX10_part 19 = .ok (.invokevirtual 191, 3) := zrD zrw_cX10_part_0 (i := 19) (by decide +kernel) rfl
theorem dX10_part_22 : decode cX10_part 22 = .ok (.istore_n 2, 1) := zrD zrw_cX10_part_0 (i := 22) (by decide +kernel) rfl
theorem dX10_part_23 : decode cX10_part 23 = .ok (.iload_n 2, 1) := zrD zrw_cX10_part_0 (i := 23) (by decide +kernel) rfl
theorem dX10_part_24 : decode cX10_part 24 = .ok (.ifCond .ne 7, 3) := zrD zrw_cX10_part_0 (i := 24) (by decide +kernel) rfl
theorem dX10_part_27 : decode cX10_part 27 = .ok (.iconst 0, 1) := zrD zrw_cX10_part_0 (i := 27) (by decide +kernel) rfl
theorem dX10_part_28 : decode cX10_part 28 = .ok (.goto 14, 3) := zrD zrw_cX10_part_0 (i := 28) (by decide +kernel) rfl
theorem dX10_part_31 : decode cX10_part 31 = .ok (.aload_n 0, 1) := zrD zrw_cX10_part_0 (i := 31) (by decide +kernel) rfl
def zrk_cX10_part_32 : ByteArray := .mk #[27, 182, 1, 34, 17, 3, 232, 104, 28, 108, 172]
theorem zrw_cX10_part_32 : zrW 32 cX10_part zrk_cX10_part_32 := by unfold zrW; decide +kernel
theorem dX10_part_32 : decode cX10_part 32 = .ok (.iload_n 1, 1) := zrD zrw_cX10_part_32 (i := 0) (by decide +kernel) rfl
theorem dX10_part_33 : decode cX10_part 33 = .ok (.invokevirtual 290, 3) := zrD zrw_cX10_part_32 (i := 1) (by decide +kernel) rfl
theorem dX10_part_36 : decode cX10_part 36 = .ok (.sipush 1000, 3) := zrD zrw_cX10_part_32 (i := 4) (by decide +kernel) rfl
theorem dX10_part_39 : decode cX10_part 39 = .ok (.imul, 1) := zrD zrw_cX10_part_32 (i := 7) (by decide +kernel) rfl
theorem dX10_part_40 : decode cX10_part 40 = .ok (.iload_n 2, 1) := zrD zrw_cX10_part_32 (i := 8) (by decide +kernel) rfl
theorem dX10_part_41 : decode cX10_part 41 = .ok (.idiv, 1) := zrD zrw_cX10_part_32 (i := 9) (by decide +kernel) rfl
theorem dX10_part_42 : decode cX10_part 42 = .ok (.ireturn, 1) := zrD zrw_cX10_part_32 (i := 10) (by decide +kernel) rfl
def zrk_cX10_main_0 : ByteArray := .mk #[42, 182, 1, 21, 153, 0, 7, 27, 156, 0, 5, 2, 172, 42, 182, 0, 113, 3, 61, 3, 62, 29, 27, 162, 0, 20, 28, 2, 159, 0, 15, 42]
theorem zrw_cX10_main_0 : zrW 0 cX10_main zrk_cX10_main_0 := by unfold zrW; decide +kernel
theorem dX10_main_0 : decode cX10_main 0 = .ok (.aload_n 0, 1) := zrD zrw_cX10_main_0 (i := 0) (by decide +kernel) rfl
theorem dX10_main_1 : decode cX10_main 1 = .ok (.invokevirtual 277, 3) := zrD zrw_cX10_main_0 (i := 1) (by decide +kernel) rfl
theorem dX10_main_4 : decode cX10_main 4 = .ok (.ifCond .eq 7, 3) := zrD zrw_cX10_main_0 (i := 4) (by decide +kernel) rfl
theorem dX10_main_7 : decode cX10_main 7 = .ok (.iload_n 1, 1) := zrD zrw_cX10_main_0 (i := 7) (by decide +kernel) rfl
theorem dX10_main_8 : decode cX10_main 8 = .ok (.ifCond .ge 5, 3) := zrD zrw_cX10_main_0 (i := 8) (by decide +kernel) rfl
theorem dX10_main_11 : decode cX10_main 11 = .ok (.iconst (-1), 1) := zrD zrw_cX10_main_0 (i := 11) (by decide +kernel) rfl
theorem dX10_main_12 : decode cX10_main 12 = .ok (.ireturn, 1) := zrD zrw_cX10_main_0 (i := 12) (by decide +kernel) rfl
theorem dX10_main_13 : decode cX10_main 13 = .ok (.aload_n 0, 1) := zrD zrw_cX10_main_0 (i := 13) (by decide +kernel) rfl
theorem dX10_main_14 : decode cX10_main 14 = .ok (.invokevirtual 113, 3) := zrD zrw_cX10_main_0 (i := 14) (by decide +kernel) rfl
theorem dX10_main_17 : decode cX10_main 17 = .ok (.iconst 0, 1) := zrD zrw_cX10_main_0 (i := 17) (by decide +kernel) rfl
theorem dX10_main_18 : decode cX10_main 18 = .ok (.istore_n 2, 1) := zrD zrw_cX10_main_0 (i := 18) (by decide +kernel) rfl
theorem dX10_main_19 : decode cX10_main 19 = .ok (.iconst 0, 1) := zrD zrw_cX10_main_0 (i := 19) (by decide +kernel) rfl
theorem dX10_main_20 : decode cX10_main 20 = .ok (.istore_n 3, 1) := zrD zrw_cX10_main_0 (i := 20) (by decide +kernel) rfl
theorem dX10_main_21 : decode cX10_main 21 = .ok (.iload_n 3, 1) := zrD zrw_cX10_main_0 (i := 21) (by decide +kernel) rfl
theorem dX10_main_22 : decode cX10_main 22 = .ok (.iload_n 1, 1) := zrD zrw_cX10_main_0 (i := 22) (by decide +kernel) rfl
theorem dX10_main_23 : decode cX10_main 23 = .ok (.if_icmp .ge 20, 3) := zrD zrw_cX10_main_0 (i := 23) (by decide +kernel) rfl
theorem dX10_main_26 : decode cX10_main 26 = .ok (.iload_n 2, 1) := zrD zrw_cX10_main_0 (i := 26) (by decide +kernel) rfl
theorem dX10_main_27 : decode cX10_main 27 = .ok (.iconst (-1), 1) := zrD zrw_cX10_main_0 (i := 27) (by decide +kernel) rfl
theorem dX10_main_28 : decode cX10_main 28 = .ok (.if_icmp .eq 15, 3) := zrD zrw_cX10_main_0 (i := 28) (by decide +kernel) rfl
theorem dX10_main_31 : decode cX10_main 31 = .ok (.aload_n 0, 1) := zrD zrw_cX10_main_0 (i := 31) (by decide +kernel) rfl
def zrk_cX10_main_32 : ByteArray := .mk #[28, 182, 1, 37, 61, 132, 3, 1, 167, 255, 237, 28, 172]
theorem zrw_cX10_main_32 : zrW 32 cX10_main zrk_cX10_main_32 := by unfold zrW; decide +kernel
theorem dX10_main_32 : decode cX10_main 32 = .ok (.iload_n 2, 1) := zrD zrw_cX10_main_32 (i := 0) (by decide +kernel) rfl
theorem dX10_main_33 : decode cX10_main 33 = .ok (.invokevirtual 293, 3) := zrD zrw_cX10_main_32 (i := 1) (by decide +kernel) rfl
theorem dX10_main_36 : decode cX10_main 36 = .ok (.istore_n 2, 1) := zrD zrw_cX10_main_32 (i := 4) (by decide +kernel) rfl
theorem dX10_main_37 : decode cX10_main 37 = .ok (.iinc 3 1, 3) := zrD zrw_cX10_main_32 (i := 5) (by decide +kernel) rfl
theorem dX10_main_40 : decode cX10_main 40 = .ok (.goto (-19), 3) := zrD zrw_cX10_main_32 (i := 8) (by decide +kernel) rfl
theorem dX10_main_43 : decode cX10_main 43 = .ok (.iload_n 2, 1) := zrD zrw_cX10_main_32 (i := 11) (by decide +kernel) rfl
theorem dX10_main_44 : decode cX10_main 44 = .ok (.ireturn, 1) := zrD zrw_cX10_main_32 (i := 12) (by decide +kernel) rfl
def zrk_cX10_greatestInto_0 : ByteArray := .mk #[2, 61, 4, 62, 29, 42, 180, 0, 70, 180, 0, 175, 162, 0, 50, 42, 180, 0, 52, 180, 0, 116, 29, 46, 27, 160, 0, 31, 28, 2]
theorem zrw_cX10_greatestInto_0 : zrW 0 cX10_greatestInto zrk_cX10_greatestInto_0 := by unfold zrW; decide +kernel
theorem dX10_greatestInto_0 : decode cX10_greatestInto 0 = .ok (.iconst (-1), 1) := zrD zrw_cX10_greatestInto_0 (i := 0) (by decide +kernel) rfl
theorem dX10_greatestInto_1 : decode cX10_greatestInto 1 = .ok (.istore_n 2, 1) := zrD zrw_cX10_greatestInto_0 (i := 1) (by decide +kernel) rfl
theorem dX10_greatestInto_2 : decode cX10_greatestInto 2 = .ok (.iconst 1, 1) := zrD zrw_cX10_greatestInto_0 (i := 2) (by decide +kernel) rfl
theorem dX10_greatestInto_3 : decode cX10_greatestInto 3 = .ok (.istore_n 3, 1) := zrD zrw_cX10_greatestInto_0 (i := 3) (by decide +kernel) rfl
theorem dX10_greatestInto_4 : decode cX10_greatestInto 4 = .ok (.iload_n 3, 1) := zrD zrw_cX10_greatestInto_0 (i := 4) (by decide +kernel) rfl
theorem dX10_greatestInto_5 : decode cX10_greatestInto 5 = .ok (.aload_n 0, 1) := zrD zrw_cX10_greatestInto_0 (i := 5) (by decide +kernel) rfl
theorem dX10_greatestInto_6 : decode cX10_greatestInto 6 = .ok (.getfield 70, 3) := zrD zrw_cX10_greatestInto_0 (i := 6) (by decide +kernel) rfl
theorem dX10_greatestInto_9 : decode cX10_greatestInto 9 = .ok (.getfield 175, 3) := zrD zrw_cX10_greatestInto_0 (i := 9) (by decide +kernel) rfl
theorem dX10_greatestInto_12 : decode cX10_greatestInto 12 = .ok (.if_icmp .ge 50, 3) := zrD zrw_cX10_greatestInto_0 (i := 12) (by decide +kernel) rfl
theorem dX10_greatestInto_15 : decode cX10_greatestInto 15 = .ok (.aload_n 0, 1) := zrD zrw_cX10_greatestInto_0 (i := 15) (by decide +kernel) rfl
theorem dX10_greatestInto_16 : decode cX10_greatestInto 16 = .ok (.getfield 52, 3) := zrD zrw_cX10_greatestInto_0 (i := 16) (by decide +kernel) rfl
theorem dX10_greatestInto_19 : decode cX10_greatestInto 19 = .ok (.getfield 116, 3) := zrD zrw_cX10_greatestInto_0 (i := 19) (by decide +kernel) rfl
theorem dX10_greatestInto_22 : decode cX10_greatestInto 22 = .ok (.iload_n 3, 1) := zrD zrw_cX10_greatestInto_0 (i := 22) (by decide +kernel) rfl
theorem dX10_greatestInto_23 : decode cX10_greatestInto 23 = .ok (.iaload, 1) := zrD zrw_cX10_greatestInto_0 (i := 23) (by decide +kernel) rfl
theorem dX10_greatestInto_24 : decode cX10_greatestInto 24 = .ok (.iload_n 1, 1) := zrD zrw_cX10_greatestInto_0 (i := 24) (by decide +kernel) rfl
theorem dX10_greatestInto_25 : decode cX10_greatestInto 25 = .ok (.if_icmp .ne 31, 3) := zrD zrw_cX10_greatestInto_0 (i := 25) (by decide +kernel) rfl
theorem dX10_greatestInto_28 : decode cX10_greatestInto 28 = .ok (.iload_n 2, 1) := zrD zrw_cX10_greatestInto_0 (i := 28) (by decide +kernel) rfl
theorem dX10_greatestInto_29 : decode cX10_greatestInto 29 = .ok (.iconst (-1), 1) := zrD zrw_cX10_greatestInto_0 (i := 29) (by decide +kernel) rfl
def zrk_cX10_greatestInto_30 : ByteArray := .mk #[159, 0, 24, 42, 180, 0, 26, 180, 0, 135, 29, 46, 42, 180, 0, 26, 180, 0, 135, 28, 46, 164, 0, 5, 29, 61, 132, 3, 1, 167, 255, 201]
theorem zrw_cX10_greatestInto_30 : zrW 30 cX10_greatestInto zrk_cX10_greatestInto_30 := by unfold zrW; decide +kernel
theorem dX10_greatestInto_30 : decode cX10_greatestInto 30 = .ok (.if_icmp .eq 24, 3) := zrD zrw_cX10_greatestInto_30 (i := 0) (by decide +kernel) rfl
theorem dX10_greatestInto_33 : decode cX10_greatestInto 33 = .ok (.aload_n 0, 1) := zrD zrw_cX10_greatestInto_30 (i := 3) (by decide +kernel) rfl
theorem dX10_greatestInto_34 : decode cX10_greatestInto 34 = .ok (.getfield 26, 3) := zrD zrw_cX10_greatestInto_30 (i := 4) (by decide +kernel) rfl
theorem dX10_greatestInto_37 : decode cX10_greatestInto 37 = .ok (.getfield 135, 3) := zrD zrw_cX10_greatestInto_30 (i := 7) (by decide +kernel) rfl
theorem dX10_greatestInto_40 : decode cX10_greatestInto 40 = .ok (.iload_n 3, 1) := zrD zrw_cX10_greatestInto_30 (i := 10) (by decide +kernel) rfl
theorem dX10_greatestInto_41 : decode cX10_greatestInto 41 = .ok (.iaload, 1) := zrD zrw_cX10_greatestInto_30 (i := 11) (by decide +kernel) rfl
theorem dX10_greatestInto_42 : decode cX10_greatestInto 42 = .ok (.aload_n 0, 1) := zrD zrw_cX10_greatestInto_30 (i := 12) (by decide +kernel) rfl
theorem dX10_greatestInto_43 : decode cX10_greatestInto 43 = .ok (.getfield 26, 3) := zrD zrw_cX10_greatestInto_30 (i := 13) (by decide +kernel) rfl
theorem dX10_greatestInto_46 : decode cX10_greatestInto 46 = .ok (.getfield 135, 3) := zrD zrw_cX10_greatestInto_30 (i := 16) (by decide +kernel) rfl
theorem dX10_greatestInto_49 : decode cX10_greatestInto 49 = .ok (.iload_n 2, 1) := zrD zrw_cX10_greatestInto_30 (i := 19) (by decide +kernel) rfl
theorem dX10_greatestInto_50 : decode cX10_greatestInto 50 = .ok (.iaload, 1) := zrD zrw_cX10_greatestInto_30 (i := 20) (by decide +kernel) rfl
theorem dX10_greatestInto_51 : decode cX10_greatestInto 51 = .ok (.if_icmp .le 5, 3) := zrD zrw_cX10_greatestInto_30 (i := 21) (by decide +kernel) rfl
theorem dX10_greatestInto_54 : decode cX10_greatestInto 54 = .ok (.iload_n 3, 1) := zrD zrw_cX10_greatestInto_30 (i := 24) (by decide +kernel) rfl
theorem dX10_greatestInto_55 : decode cX10_greatestInto 55 = .ok (.istore_n 2, 1) := zrD zrw_cX10_greatestInto_30 (i := 25) (by decide +kernel) rfl
theorem dX10_greatestInto_56 : decode cX10_greatestInto 56 = .ok (.iinc 3 1, 3) := zrD zrw_cX10_greatestInto_30 (i := 26) (by decide +kernel) rfl
theorem dX10_greatestInto_59 : decode cX10_greatestInto 59 = .ok (.goto (-55), 3) := zrD zrw_cX10_greatestInto_30 (i := 29) (by decide +kernel) rfl
def zrk_cX10_greatestInto_62 : ByteArray := .mk #[28, 172]
theorem zrw_cX10_greatestInto_62 : zrW 62 cX10_greatestInto zrk_cX10_greatestInto_62 := by unfold zrW; decide +kernel
theorem dX10_greatestInto_62 : decode cX10_greatestInto 62 = .ok (.iload_n 2, 1) := zrD zrw_cX10_greatestInto_62 (i := 0) (by decide +kernel) rfl
theorem dX10_greatestInto_63 : decode cX10_greatestInto 63 = .ok (.ireturn, 1) := zrD zrw_cX10_greatestInto_62 (i := 1) (by decide +kernel) rfl
def zrk_cX10_tryFromNow_0 : ByteArray := .mk #[42, 180, 0, 56, 42, 180, 0, 52, 182, 0, 241, 42, 180, 0, 26, 42, 180, 0, 70, 42, 180, 0, 56, 182, 1, 15, 177]
theorem zrw_cX10_tryFromNow_0 : zrW 0 cX10_tryFromNow zrk_cX10_tryFromNow_0 := by unfold zrW; decide +kernel
theorem dX10_tryFromNow_0 : decode cX10_tryFromNow 0 = .ok (.aload_n 0, 1) := zrD zrw_cX10_tryFromNow_0 (i := 0) (by decide +kernel) rfl
theorem dX10_tryFromNow_1 : decode cX10_tryFromNow 1 = .ok (.getfield 56, 3) := zrD zrw_cX10_tryFromNow_0 (i := 1) (by decide +kernel) rfl
theorem dX10_tryFromNow_4 : decode cX10_tryFromNow 4 = .ok (.aload_n 0, 1) := zrD zrw_cX10_tryFromNow_0 (i := 4) (by decide +kernel) rfl
theorem dX10_tryFromNow_5 : decode cX10_tryFromNow 5 = .ok (.getfield 52, 3) := zrD zrw_cX10_tryFromNow_0 (i := 5) (by decide +kernel) rfl
theorem dX10_tryFromNow_8 : decode cX10_tryFromNow 8 = .ok (.invokevirtual 241, 3) := zrD zrw_cX10_tryFromNow_0 (i := 8) (by decide +kernel) rfl
theorem dX10_tryFromNow_11 : decode cX10_tryFromNow 11 = .ok (.aload_n 0, 1) := zrD zrw_cX10_tryFromNow_0 (i := 11) (by decide +kernel) rfl
theorem dX10_tryFromNow_12 : decode cX10_tryFromNow 12 = .ok (.getfield 26, 3) := zrD zrw_cX10_tryFromNow_0 (i := 12) (by decide +kernel) rfl
theorem dX10_tryFromNow_15 : decode cX10_tryFromNow 15 = .ok (.aload_n 0, 1) := zrD zrw_cX10_tryFromNow_0 (i := 15) (by decide +kernel) rfl
theorem dX10_tryFromNow_16 : decode cX10_tryFromNow 16 = .ok (.getfield 70, 3) := zrD zrw_cX10_tryFromNow_0 (i := 16) (by decide +kernel) rfl
theorem dX10_tryFromNow_19 : decode cX10_tryFromNow 19 = .ok (.aload_n 0, 1) := zrD zrw_cX10_tryFromNow_0 (i := 19) (by decide +kernel) rfl
theorem dX10_tryFromNow_20 : decode cX10_tryFromNow 20 = .ok (.getfield 56, 3) := zrD zrw_cX10_tryFromNow_0 (i := 20) (by decide +kernel) rfl
theorem dX10_tryFromNow_23 : decode cX10_tryFromNow 23 = .ok (.invokevirtual 271, 3) := zrD zrw_cX10_tryFromNow_0 (i := 23) (by decide +kernel) rfl
theorem dX10_tryFromNow_26 : decode cX10_tryFromNow 26 = .ok (.return_, 1) := zrD zrw_cX10_tryFromNow_0 (i := 26) (by decide +kernel) rfl
def zrk_cX10_agree_0 : ByteArray := .mk #[27, 4, 16, 24, 184, 0, 229, 154, 0, 5, 2, 172, 3, 61, 42, 182, 1, 40, 3, 62, 29, 27, 162, 0, 60, 42, 180, 0, 26, 3]
theorem zrw_cX10_agree_0 : zrW 0 cX10_agree zrk_cX10_agree_0 := by unfold zrW; decide +kernel
theorem dX10_agree_0 : decode cX10_agree 0 = .ok (.iload_n 1, 1) := zrD zrw_cX10_agree_0 (i := 0) (by decide +kernel) rfl
theorem dX10_agree_1 : decode cX10_agree 1 = .ok (.iconst 1, 1) := zrD zrw_cX10_agree_0 (i := 1) (by decide +kernel) rfl
theorem dX10_agree_2 : decode cX10_agree 2 = .ok (.bipush 24, 2) := zrD zrw_cX10_agree_0 (i := 2) (by decide +kernel) rfl
theorem dX10_agree_4 : decode cX10_agree 4 = .ok (.invokestatic 229, 3) := zrD zrw_cX10_agree_0 (i := 4) (by decide +kernel) rfl
theorem dX10_agree_7 : decode cX10_agree 7 = .ok (.ifCond .ne 5, 3) := zrD zrw_cX10_agree_0 (i := 7) (by decide +kernel) rfl
theorem dX10_agree_10 : decode cX10_agree 10 = .ok (.iconst (-1), 1) := zrD zrw_cX10_agree_0 (i := 10) (by decide +kernel) rfl
theorem dX10_agree_11 : decode cX10_agree 11 = .ok (.ireturn, 1) := zrD zrw_cX10_agree_0 (i := 11) (by decide +kernel) rfl
theorem dX10_agree_12 : decode cX10_agree 12 = .ok (.iconst 0, 1) := zrD zrw_cX10_agree_0 (i := 12) (by decide +kernel) rfl
theorem dX10_agree_13 : decode cX10_agree 13 = .ok (.istore_n 2, 1) := zrD zrw_cX10_agree_0 (i := 13) (by decide +kernel) rfl
theorem dX10_agree_14 : decode cX10_agree 14 = .ok (.aload_n 0, 1) := zrD zrw_cX10_agree_0 (i := 14) (by decide +kernel) rfl
theorem dX10_agree_15 : decode cX10_agree 15 = .ok (.invokevirtual 296, 3) := zrD zrw_cX10_agree_0 (i := 15) (by decide +kernel) rfl
theorem dX10_agree_18 : decode cX10_agree 18 = .ok (.iconst 0, 1) := zrD zrw_cX10_agree_0 (i := 18) (by decide +kernel) rfl
theorem dX10_agree_19 : decode cX10_agree 19 = .ok (.istore_n 3, 1) := zrD zrw_cX10_agree_0 (i := 19) (by decide +kernel) rfl
theorem dX10_agree_20 : decode cX10_agree 20 = .ok (.iload_n 3, 1) := zrD zrw_cX10_agree_0 (i := 20) (by decide +kernel) rfl
theorem dX10_agree_21 : decode cX10_agree 21 = .ok (.iload_n 1, 1) := zrD zrw_cX10_agree_0 (i := 21) (by decide +kernel) rfl
theorem dX10_agree_22 : decode cX10_agree 22 = .ok (.if_icmp .ge 60, 3) := zrD zrw_cX10_agree_0 (i := 22) (by decide +kernel) rfl
theorem dX10_agree_25 : decode cX10_agree 25 = .ok (.aload_n 0, 1) := zrD zrw_cX10_agree_0 (i := 25) (by decide +kernel) rfl
theorem dX10_agree_26 : decode cX10_agree 26 = .ok (.getfield 26, 3) := zrD zrw_cX10_agree_0 (i := 26) (by decide +kernel) rfl
theorem dX10_agree_29 : decode cX10_agree 29 = .ok (.iconst 0, 1) := zrD zrw_cX10_agree_0 (i := 29) (by decide +kernel) rfl
def zrk_cX10_agree_30 : ByteArray := .mk #[182, 0, 172, 54, 4, 21, 4, 158, 0, 32, 21, 4, 42, 180, 0, 26, 4, 182, 0, 172, 160, 0, 19, 21, 4, 42, 180, 0, 26, 5]
theorem zrw_cX10_agree_30 : zrW 30 cX10_agree zrk_cX10_agree_30 := by unfold zrW; decide +kernel
theorem dX10_agree_30 : decode cX10_agree 30 = .ok (.invokevirtual 172, 3) := zrD zrw_cX10_agree_30 (i := 0) (by decide +kernel) rfl
theorem dX10_agree_33 : decode cX10_agree 33 = .ok (.istore 4, 2) := zrD zrw_cX10_agree_30 (i := 3) (by decide +kernel) rfl
theorem dX10_agree_35 : decode cX10_agree 35 = .ok (.iload 4, 2) := zrD zrw_cX10_agree_30 (i := 5) (by decide +kernel) rfl
theorem dX10_agree_37 : decode cX10_agree 37 = .ok (.ifCond .le 32, 3) := zrD zrw_cX10_agree_30 (i := 7) (by decide +kernel) rfl
theorem dX10_agree_40 : decode cX10_agree 40 = .ok (.iload 4, 2) := zrD zrw_cX10_agree_30 (i := 10) (by decide +kernel) rfl
theorem dX10_agree_42 : decode cX10_agree 42 = .ok (.aload_n 0, 1) := zrD zrw_cX10_agree_30 (i := 12) (by decide +kernel) rfl
theorem dX10_agree_43 : decode cX10_agree 43 = .ok (.getfield 26, 3) := zrD zrw_cX10_agree_30 (i := 13) (by decide +kernel) rfl
theorem dX10_agree_46 : decode cX10_agree 46 = .ok (.iconst 1, 1) := zrD zrw_cX10_agree_30 (i := 16) (by decide +kernel) rfl
theorem dX10_agree_47 : decode cX10_agree 47 = .ok (.invokevirtual 172, 3) := zrD zrw_cX10_agree_30 (i := 17) (by decide +kernel) rfl
theorem dX10_agree_50 : decode cX10_agree 50 = .ok (.if_icmp .ne 19, 3) := zrD zrw_cX10_agree_30 (i := 20) (by decide +kernel) rfl
theorem dX10_agree_53 : decode cX10_agree 53 = .ok (.iload 4, 2) := zrD zrw_cX10_agree_30 (i := 23) (by decide +kernel) rfl
theorem dX10_agree_55 : decode cX10_agree 55 = .ok (.aload_n 0, 1) := zrD zrw_cX10_agree_30 (i := 25) (by decide +kernel) rfl
theorem dX10_agree_56 : decode cX10_agree 56 = .ok (.getfield 26, 3) := zrD zrw_cX10_agree_30 (i := 26) (by decide +kernel) rfl
theorem dX10_agree_59 : decode cX10_agree 59 = .ok (.iconst 2, 1) := zrD zrw_cX10_agree_30 (i := 29) (by decide +kernel) rfl
def zrk_cX10_agree_60 : ByteArray := .mk #[182, 0, 172, 160, 0, 6, 132, 2, 1, 42, 180, 0, 26, 182, 1, 43, 132, 3, 1, 167, 255, 197, 28, 172]
theorem zrw_cX10_agree_60 : zrW 60 cX10_agree zrk_cX10_agree_60 := by unfold zrW; decide +kernel
theorem dX10_agree_60 : decode cX10_agree 60 = .ok (.invokevirtual 172, 3) := zrD zrw_cX10_agree_60 (i := 0) (by decide +kernel) rfl
theorem dX10_agree_63 : decode cX10_agree 63 = .ok (.if_icmp .ne 6, 3) := zrD zrw_cX10_agree_60 (i := 3) (by decide +kernel) rfl
theorem dX10_agree_66 : decode cX10_agree 66 = .ok (.iinc 2 1, 3) := zrD zrw_cX10_agree_60 (i := 6) (by decide +kernel) rfl
theorem dX10_agree_69 : decode cX10_agree 69 = .ok (.aload_n 0, 1) := zrD zrw_cX10_agree_60 (i := 9) (by decide +kernel) rfl
theorem dX10_agree_70 : decode cX10_agree 70 = .ok (.getfield 26, 3) := zrD zrw_cX10_agree_60 (i := 10) (by decide +kernel) rfl
theorem dX10_agree_73 : decode cX10_agree 73 = .ok (.invokevirtual 299, 3) := zrD zrw_cX10_agree_60 (i := 13) (by decide +kernel) rfl
theorem dX10_agree_76 : decode cX10_agree 76 = .ok (.iinc 3 1, 3) := zrD zrw_cX10_agree_60 (i := 16) (by decide +kernel) rfl
theorem dX10_agree_79 : decode cX10_agree 79 = .ok (.goto (-59), 3) := zrD zrw_cX10_agree_60 (i := 19) (by decide +kernel) rfl
theorem dX10_agree_82 : decode cX10_agree 82 = .ok (.iload_n 2, 1) := zrD zrw_cX10_agree_60 (i := 22) (by decide +kernel) rfl
theorem dX10_agree_83 : decode cX10_agree 83 = .ok (.ireturn, 1) := zrD zrw_cX10_agree_60 (i := 23) (by decide +kernel) rfl
def zrk_cX10_driest_0 : ByteArray := .mk #[42, 182, 1, 21, 153, 0, 22, 27, 4, 16, 24, 184, 0, 229, 153, 0, 12, 28, 3, 4, 184, 0, 229, 154, 0, 5, 2, 172, 3, 62, 42]
theorem zrw_cX10_driest_0 : zrW 0 cX10_driest zrk_cX10_driest_0 := by unfold zrW; decide +kernel
theorem dX10_driest_0 : decode cX10_driest 0 = .ok (.aload_n 0, 1) := zrD zrw_cX10_driest_0 (i := 0) (by decide +kernel) rfl
theorem dX10_driest_1 : decode cX10_driest 1 = .ok (.invokevirtual 277, 3) := zrD zrw_cX10_driest_0 (i := 1) (by decide +kernel) rfl
theorem dX10_driest_4 : decode cX10_driest 4 = .ok (.ifCond .eq 22, 3) := zrD zrw_cX10_driest_0 (i := 4) (by decide +kernel) rfl
theorem dX10_driest_7 : decode cX10_driest 7 = .ok (.iload_n 1, 1) := zrD zrw_cX10_driest_0 (i := 7) (by decide +kernel) rfl
theorem dX10_driest_8 : decode cX10_driest 8 = .ok (.iconst 1, 1) := zrD zrw_cX10_driest_0 (i := 8) (by decide +kernel) rfl
theorem dX10_driest_9 : decode cX10_driest 9 = .ok (.bipush 24, 2) := zrD zrw_cX10_driest_0 (i := 9) (by decide +kernel) rfl
theorem dX10_driest_11 : decode cX10_driest 11 = .ok (.invokestatic 229, 3) := zrD zrw_cX10_driest_0 (i := 11) (by decide +kernel) rfl
theorem dX10_driest_14 : decode cX10_driest 14 = .ok (.ifCond .eq 12, 3) := zrD zrw_cX10_driest_0 (i := 14) (by decide +kernel) rfl
theorem dX10_driest_17 : decode cX10_driest 17 = .ok (.iload_n 2, 1) := zrD zrw_cX10_driest_0 (i := 17) (by decide +kernel) rfl
theorem dX10_driest_18 : decode cX10_driest 18 = .ok (.iconst 0, 1) := zrD zrw_cX10_driest_0 (i := 18) (by decide +kernel) rfl
theorem dX10_driest_19 : decode cX10_driest 19 = .ok (.iconst 1, 1) := zrD zrw_cX10_driest_0 (i := 19) (by decide +kernel) rfl
theorem dX10_driest_20 : decode cX10_driest 20 = .ok (.invokestatic 229, 3) := zrD zrw_cX10_driest_0 (i := 20) (by decide +kernel) rfl
theorem dX10_driest_23 : decode cX10_driest 23 = .ok (.ifCond .ne 5, 3) := zrD zrw_cX10_driest_0 (i := 23) (by decide +kernel) rfl
theorem dX10_driest_26 : decode cX10_driest 26 = .ok (.iconst (-1), 1) := zrD zrw_cX10_driest_0 (i := 26) (by decide +kernel) rfl
theorem dX10_driest_27 : decode cX10_driest 27 = .ok (.ireturn, 1) := zrD zrw_cX10_driest_0 (i := 27) (by decide +kernel) rfl
theorem dX10_driest_28 : decode cX10_driest 28 = .ok (.iconst 0, 1) := zrD zrw_cX10_driest_0 (i := 28) (by decide +kernel) rfl
theorem dX10_driest_29 : decode cX10_driest 29 = .ok (.istore_n 3, 1) := zrD zrw_cX10_driest_0 (i := 29) (by decide +kernel) rfl
theorem dX10_driest_30 : decode cX10_driest 30 = .ok (.aload_n 0, 1) := zrD zrw_cX10_driest_0 (i := 30) (by decide +kernel) rfl
def zrk_cX10_driest_31 : ByteArray := .mk #[182, 1, 40, 42, 182, 0, 191, 54, 4, 4, 54, 5, 21, 5, 27, 162, 0, 34, 42, 180, 0, 26, 182, 1, 43, 42, 182, 0, 191, 21, 4]
theorem zrw_cX10_driest_31 : zrW 31 cX10_driest zrk_cX10_driest_31 := by unfold zrW; decide +kernel
theorem dX10_driest_31 : decode cX10_driest 31 = .ok (.invokevirtual 296, 3) := zrD zrw_cX10_driest_31 (i := 0) (by decide +kernel) rfl
theorem dX10_driest_34 : decode cX10_driest 34 = .ok (.aload_n 0, 1) := zrD zrw_cX10_driest_31 (i := 3) (by decide +kernel) rfl
theorem dX10_driest_35 : decode cX10_driest 35 = .ok (.invokevirtual 191, 3) := zrD zrw_cX10_driest_31 (i := 4) (by decide +kernel) rfl
theorem dX10_driest_38 : decode cX10_driest 38 = .ok (.istore 4, 2) := zrD zrw_cX10_driest_31 (i := 7) (by decide +kernel) rfl
theorem dX10_driest_40 : decode cX10_driest 40 = .ok (.iconst 1, 1) := zrD zrw_cX10_driest_31 (i := 9) (by decide +kernel) rfl
theorem dX10_driest_41 : decode cX10_driest 41 = .ok (.istore 5, 2) := zrD zrw_cX10_driest_31 (i := 10) (by decide +kernel) rfl
theorem dX10_driest_43 : decode cX10_driest 43 = .ok (.iload 5, 2) := zrD zrw_cX10_driest_31 (i := 12) (by decide +kernel) rfl
theorem dX10_driest_45 : decode cX10_driest 45 = .ok (.iload_n 1, 1) := zrD zrw_cX10_driest_31 (i := 14) (by decide +kernel) rfl
theorem dX10_driest_46 : decode cX10_driest 46 = .ok (.if_icmp .ge 34, 3) := zrD zrw_cX10_driest_31 (i := 15) (by decide +kernel) rfl
theorem dX10_driest_49 : decode cX10_driest 49 = .ok (.aload_n 0, 1) := zrD zrw_cX10_driest_31 (i := 18) (by decide +kernel) rfl
theorem dX10_driest_50 : decode cX10_driest 50 = .ok (.getfield 26, 3) := zrD zrw_cX10_driest_31 (i := 19) (by decide +kernel) rfl
theorem dX10_driest_53 : decode cX10_driest 53 = .ok (.invokevirtual 299, 3) := zrD zrw_cX10_driest_31 (i := 22) (by decide +kernel) rfl
theorem dX10_driest_56 : decode cX10_driest 56 = .ok (.aload_n 0, 1) := zrD zrw_cX10_driest_31 (i := 25) (by decide +kernel) rfl
theorem dX10_driest_57 : decode cX10_driest 57 = .ok (.invokevirtual 191, 3) := zrD zrw_cX10_driest_31 (i := 26) (by decide +kernel) rfl
theorem dX10_driest_60 : decode cX10_driest 60 = .ok (.iload 4, 2) := zrD zrw_cX10_driest_31 (i := 29) (by decide +kernel) rfl
def zrk_cX10_driest_62 : ByteArray := .mk #[162, 0, 12, 42, 182, 0, 191, 54, 4, 21, 5, 62, 132, 5, 1, 167, 255, 222, 28, 154, 0, 7, 29, 167, 0, 5, 21, 4, 172]
theorem zrw_cX10_driest_62 : zrW 62 cX10_driest zrk_cX10_driest_62 := by unfold zrW; decide +kernel
theorem dX10_driest_62 : decode cX10_driest 62 = .ok (.if_icmp .ge 12, 3) := zrD zrw_cX10_driest_62 (i := 0) (by decide +kernel) rfl
theorem dX10_driest_65 : decode cX10_driest 65 = .ok (.aload_n 0, 1) := zrD zrw_cX10_driest_62 (i := 3) (by decide +kernel) rfl
theorem dX10_driest_66 : decode cX10_driest 66 = .ok (.invokevirtual 191, 3) := zrD zrw_cX10_driest_62 (i := 4) (by decide +kernel) rfl
theorem dX10_driest_69 : decode cX10_driest 69 = .ok (.istore 4, 2) := zrD zrw_cX10_driest_62 (i := 7) (by decide +kernel) rfl
theorem dX10_driest_71 : decode cX10_driest 71 = .ok (.iload 5, 2) := zrD zrw_cX10_driest_62 (i := 9) (by decide +kernel) rfl
theorem dX10_driest_73 : decode cX10_driest 73 = .ok (.istore_n 3, 1) := zrD zrw_cX10_driest_62 (i := 11) (by decide +kernel) rfl
theorem dX10_driest_74 : decode cX10_driest 74 = .ok (.iinc 5 1, 3) := zrD zrw_cX10_driest_62 (i := 12) (by decide +kernel) rfl
theorem dX10_driest_77 : decode cX10_driest 77 = .ok (.goto (-34), 3) := zrD zrw_cX10_driest_62 (i := 15) (by decide +kernel) rfl
theorem dX10_driest_80 : decode cX10_driest 80 = .ok (.iload_n 2, 1) := zrD zrw_cX10_driest_62 (i := 18) (by decide +kernel) rfl
theorem dX10_driest_81 : decode cX10_driest 81 = .ok (.ifCond .ne 7, 3) := zrD zrw_cX10_driest_62 (i := 19) (by decide +kernel) rfl
theorem dX10_driest_84 : decode cX10_driest 84 = .ok (.iload_n 3, 1) := zrD zrw_cX10_driest_62 (i := 22) (by decide +kernel) rfl
theorem dX10_driest_85 : decode cX10_driest 85 = .ok (.goto 5, 3) := zrD zrw_cX10_driest_62 (i := 23) (by decide +kernel) rfl
theorem dX10_driest_88 : decode cX10_driest 88 = .ok (.iload 4, 2) := zrD zrw_cX10_driest_62 (i := 26) (by decide +kernel) rfl
theorem dX10_driest_90 : decode cX10_driest 90 = .ok (.ireturn, 1) := zrD zrw_cX10_driest_62 (i := 28) (by decide +kernel) rfl
def zrk_cX10_reign_0 : ByteArray := .mk #[42, 27, 182, 0, 169, 153, 0, 22, 28, 4, 16, 24, 184, 0, 229, 153, 0, 12, 29, 3, 4, 184, 0, 229, 154, 0, 5, 2, 172, 42]
theorem zrw_cX10_reign_0 : zrW 0 cX10_reign zrk_cX10_reign_0 := by unfold zrW; decide +kernel
theorem dX10_reign_0 : decode cX10_reign 0 = .ok (.aload_n 0, 1) := zrD zrw_cX10_reign_0 (i := 0) (by decide +kernel) rfl
theorem dX10_reign_1 : decode cX10_reign 1 = .ok (.iload_n 1, 1) := zrD zrw_cX10_reign_0 (i := 1) (by decide +kernel) rfl
theorem dX10_reign_2 : decode cX10_reign 2 = .ok (.invokevirtual 169, 3) := zrD zrw_cX10_reign_0 (i := 2) (by decide +kernel) rfl
theorem dX10_reign_5 : decode cX10_reign 5 = .ok (.ifCond .eq 22, 3) := zrD zrw_cX10_reign_0 (i := 5) (by decide +kernel) rfl
theorem dX10_reign_8 : decode cX10_reign 8 = .ok (.iload_n 2, 1) := zrD zrw_cX10_reign_0 (i := 8) (by decide +kernel) rfl
theorem dX10_reign_9 : decode cX10_reign 9 = .ok (.iconst 1, 1) := zrD zrw_cX10_reign_0 (i := 9) (by decide +kernel) rfl
theorem dX10_reign_10 : decode cX10_reign 10 = .ok (.bipush 24, 2) := zrD zrw_cX10_reign_0 (i := 10) (by decide +kernel) rfl
theorem dX10_reign_12 : decode cX10_reign 12 = .ok (.invokestatic 229, 3) := zrD zrw_cX10_reign_0 (i := 12) (by decide +kernel) rfl
theorem dX10_reign_15 : decode cX10_reign 15 = .ok (.ifCond .eq 12, 3) := zrD zrw_cX10_reign_0 (i := 15) (by decide +kernel) rfl
theorem dX10_reign_18 : decode cX10_reign 18 = .ok (.iload_n 3, 1) := zrD zrw_cX10_reign_0 (i := 18) (by decide +kernel) rfl
theorem dX10_reign_19 : decode cX10_reign 19 = .ok (.iconst 0, 1) := zrD zrw_cX10_reign_0 (i := 19) (by decide +kernel) rfl
theorem dX10_reign_20 : decode cX10_reign 20 = .ok (.iconst 1, 1) := zrD zrw_cX10_reign_0 (i := 20) (by decide +kernel) rfl
theorem dX10_reign_21 : decode cX10_reign 21 = .ok (.invokestatic 229, 3) := zrD zrw_cX10_reign_0 (i := 21) (by decide +kernel) rfl
theorem dX10_reign_24 : decode cX10_reign 24 = .ok (.ifCond .ne 5, 3) := zrD zrw_cX10_reign_0 (i := 24) (by decide +kernel) rfl
theorem dX10_reign_27 : decode cX10_reign 27 = .ok (.iconst (-1), 1) := zrD zrw_cX10_reign_0 (i := 27) (by decide +kernel) rfl
theorem dX10_reign_28 : decode cX10_reign 28 = .ok (.ireturn, 1) := zrD zrw_cX10_reign_0 (i := 28) (by decide +kernel) rfl
theorem dX10_reign_29 : decode cX10_reign 29 = .ok (.aload_n 0, 1) := zrD zrw_cX10_reign_0 (i := 29) (by decide +kernel) rfl
def zrk_cX10_reign_30 : ByteArray := .mk #[180, 0, 63, 3, 184, 1, 46, 42, 182, 1, 40, 3, 54, 4, 21, 4, 28, 162, 0, 42, 42, 180, 0, 26, 27, 182, 0, 172, 54, 5, 21, 5]
theorem zrw_cX10_reign_30 : zrW 30 cX10_reign zrk_cX10_reign_30 := by unfold zrW; decide +kernel
theorem dX10_reign_30 : decode cX10_reign 30 = .ok (.getfield 63, 3) := zrD zrw_cX10_reign_30 (i := 0) (by decide +kernel) rfl
theorem dX10_reign_33 : decode cX10_reign 33 = .ok (.iconst 0, 1) := zrD zrw_cX10_reign_30 (i := 3) (by decide +kernel) rfl
theorem dX10_reign_34 : decode cX10_reign 34 = .ok (.invokestatic 302, 3) := zrD zrw_cX10_reign_30 (i := 4) (by decide +kernel) rfl
theorem dX10_reign_37 : decode cX10_reign 37 = .ok (.aload_n 0, 1) := zrD zrw_cX10_reign_30 (i := 7) (by decide +kernel) rfl
theorem dX10_reign_38 : decode cX10_reign 38 = .ok (.invokevirtual 296, 3) := zrD zrw_cX10_reign_30 (i := 8) (by decide +kernel) rfl
theorem dX10_reign_41 : decode cX10_reign 41 = .ok (.iconst 0, 1) := zrD zrw_cX10_reign_30 (i := 11) (by decide +kernel) rfl
theorem dX10_reign_42 : decode cX10_reign 42 = .ok (.istore 4, 2) := zrD zrw_cX10_reign_30 (i := 12) (by decide +kernel) rfl
theorem dX10_reign_44 : decode cX10_reign 44 = .ok (.iload 4, 2) := zrD zrw_cX10_reign_30 (i := 14) (by decide +kernel) rfl
theorem dX10_reign_46 : decode cX10_reign 46 = .ok (.iload_n 2, 1) := zrD zrw_cX10_reign_30 (i := 16) (by decide +kernel) rfl
theorem dX10_reign_47 : decode cX10_reign 47 = .ok (.if_icmp .ge 42, 3) := zrD zrw_cX10_reign_30 (i := 17) (by decide +kernel) rfl
theorem dX10_reign_50 : decode cX10_reign 50 = .ok (.aload_n 0, 1) := zrD zrw_cX10_reign_30 (i := 20) (by decide +kernel) rfl
theorem dX10_reign_51 : decode cX10_reign 51 = .ok (.getfield 26, 3) := zrD zrw_cX10_reign_30 (i := 21) (by decide +kernel) rfl
theorem dX10_reign_54 : decode cX10_reign 54 = .ok (.iload_n 1, 1) := zrD zrw_cX10_reign_30 (i := 24) (by decide +kernel) rfl
theorem dX10_reign_55 : decode cX10_reign 55 = .ok (.invokevirtual 172, 3) := zrD zrw_cX10_reign_30 (i := 25) (by decide +kernel) rfl
theorem dX10_reign_58 : decode cX10_reign 58 = .ok (.istore 5, 2) := zrD zrw_cX10_reign_30 (i := 28) (by decide +kernel) rfl
theorem dX10_reign_60 : decode cX10_reign 60 = .ok (.iload 5, 2) := zrD zrw_cX10_reign_30 (i := 30) (by decide +kernel) rfl
def zrk_cX10_reign_62 : ByteArray := .mk #[158, 0, 14, 42, 180, 0, 63, 21, 5, 92, 46, 4, 96, 79, 42, 180, 0, 26, 182, 1, 43, 132, 4, 1, 167, 255, 214, 29, 154, 0, 10, 42]
theorem zrw_cX10_reign_62 : zrW 62 cX10_reign zrk_cX10_reign_62 := by unfold zrW; decide +kernel
theorem dX10_reign_62 : decode cX10_reign 62 = .ok (.ifCond .le 14, 3) := zrD zrw_cX10_reign_62 (i := 0) (by decide +kernel) rfl
theorem dX10_reign_65 : decode cX10_reign 65 = .ok (.aload_n 0, 1) := zrD zrw_cX10_reign_62 (i := 3) (by decide +kernel) rfl
theorem dX10_reign_66 : decode cX10_reign 66 = .ok (.getfield 63, 3) := zrD zrw_cX10_reign_62 (i := 4) (by decide +kernel) rfl
theorem dX10_reign_69 : decode cX10_reign 69 = .ok (.iload 5, 2) := zrD zrw_cX10_reign_62 (i := 7) (by decide +kernel) rfl
theorem dX10_reign_71 : decode cX10_reign 71 = .ok (.dup2, 1) := zrD zrw_cX10_reign_62 (i := 9) (by decide +kernel) rfl
theorem dX10_reign_72 : decode cX10_reign 72 = .ok (.iaload, 1) := zrD zrw_cX10_reign_62 (i := 10) (by decide +kernel) rfl
theorem dX10_reign_73 : decode cX10_reign 73 = .ok (.iconst 1, 1) := zrD zrw_cX10_reign_62 (i := 11) (by decide +kernel) rfl
theorem dX10_reign_74 : decode cX10_reign 74 = .ok (.iadd, 1) := zrD zrw_cX10_reign_62 (i := 12) (by decide +kernel) rfl
theorem dX10_reign_75 : decode cX10_reign 75 = .ok (.iastore, 1) := zrD zrw_cX10_reign_62 (i := 13) (by decide +kernel) rfl
theorem dX10_reign_76 : decode cX10_reign 76 = .ok (.aload_n 0, 1) := zrD zrw_cX10_reign_62 (i := 14) (by decide +kernel) rfl
theorem dX10_reign_77 : decode cX10_reign 77 = .ok (.getfield 26, 3) := zrD zrw_cX10_reign_62 (i := 15) (by decide +kernel) rfl
theorem dX10_reign_80 : decode cX10_reign 80 = .ok (.invokevirtual 299, 3) := zrD zrw_cX10_reign_62 (i := 18) (by decide +kernel) rfl
theorem dX10_reign_83 : decode cX10_reign 83 = .ok (.iinc 4 1, 3) := zrD zrw_cX10_reign_62 (i := 21) (by decide +kernel) rfl
theorem dX10_reign_86 : decode cX10_reign 86 = .ok (.goto (-42), 3) := zrD zrw_cX10_reign_62 (i := 24) (by decide +kernel) rfl
theorem dX10_reign_89 : decode cX10_reign 89 = .ok (.iload_n 3, 1) := zrD zrw_cX10_reign_62 (i := 27) (by decide +kernel) rfl
theorem dX10_reign_90 : decode cX10_reign 90 = .ok (.ifCond .ne 10, 3) := zrD zrw_cX10_reign_62 (i := 28) (by decide +kernel) rfl
theorem dX10_reign_93 : decode cX10_reign 93 = .ok (.aload_n 0, 1) := zrD zrw_cX10_reign_62 (i := 31) (by decide +kernel) rfl
def zrk_cX10_reign_94 : ByteArray := .mk #[182, 1, 52, 167, 0, 7, 42, 182, 1, 55, 172]
theorem zrw_cX10_reign_94 : zrW 94 cX10_reign zrk_cX10_reign_94 := by unfold zrW; decide +kernel
theorem dX10_reign_94 : decode cX10_reign 94 = .ok (.invokevirtual 308, 3) := zrD zrw_cX10_reign_94 (i := 0) (by decide +kernel) rfl
theorem dX10_reign_97 : decode cX10_reign 97 = .ok (.goto 7, 3) := zrD zrw_cX10_reign_94 (i := 3) (by decide +kernel) rfl
theorem dX10_reign_100 : decode cX10_reign 100 = .ok (.aload_n 0, 1) := zrD zrw_cX10_reign_94 (i := 6) (by decide +kernel) rfl
theorem dX10_reign_101 : decode cX10_reign 101 = .ok (.invokevirtual 311, 3) := zrD zrw_cX10_reign_94 (i := 7) (by decide +kernel) rfl
theorem dX10_reign_104 : decode cX10_reign 104 = .ok (.ireturn, 1) := zrD zrw_cX10_reign_94 (i := 10) (by decide +kernel) rfl
def zrk_cX10_tallied_0 : ByteArray := .mk #[3, 60, 4, 61, 28, 42, 180, 0, 70, 180, 0, 175, 162, 0, 21, 42, 180, 0, 63, 28, 46, 158, 0, 6, 132, 1, 1, 132, 2, 1]
theorem zrw_cX10_tallied_0 : zrW 0 cX10_tallied zrk_cX10_tallied_0 := by unfold zrW; decide +kernel
theorem dX10_tallied_0 : decode cX10_tallied 0 = .ok (.iconst 0, 1) := zrD zrw_cX10_tallied_0 (i := 0) (by decide +kernel) rfl
theorem dX10_tallied_1 : decode cX10_tallied 1 = .ok (.istore_n 1, 1) := zrD zrw_cX10_tallied_0 (i := 1) (by decide +kernel) rfl
theorem dX10_tallied_2 : decode cX10_tallied 2 = .ok (.iconst 1, 1) := zrD zrw_cX10_tallied_0 (i := 2) (by decide +kernel) rfl
theorem dX10_tallied_3 : decode cX10_tallied 3 = .ok (.istore_n 2, 1) := zrD zrw_cX10_tallied_0 (i := 3) (by decide +kernel) rfl
theorem dX10_tallied_4 : decode cX10_tallied 4 = .ok (.iload_n 2, 1) := zrD zrw_cX10_tallied_0 (i := 4) (by decide +kernel) rfl
theorem dX10_tallied_5 : decode cX10_tallied 5 = .ok (.aload_n 0, 1) := zrD zrw_cX10_tallied_0 (i := 5) (by decide +kernel) rfl
theorem dX10_tallied_6 : decode cX10_tallied 6 = .ok (.getfield 70, 3) := zrD zrw_cX10_tallied_0 (i := 6) (by decide +kernel) rfl
theorem dX10_tallied_9 : decode cX10_tallied 9 = .ok (.getfield 175, 3) := zrD zrw_cX10_tallied_0 (i := 9) (by decide +kernel) rfl
theorem dX10_tallied_12 : decode cX10_tallied 12 = .ok (.if_icmp .ge 21, 3) := zrD zrw_cX10_tallied_0 (i := 12) (by decide +kernel) rfl
theorem dX10_tallied_15 : decode cX10_tallied 15 = .ok (.aload_n 0, 1) := zrD zrw_cX10_tallied_0 (i := 15) (by decide +kernel) rfl
theorem dX10_tallied_16 : decode cX10_tallied 16 = .ok (.getfield 63, 3) := zrD zrw_cX10_tallied_0 (i := 16) (by decide +kernel) rfl
theorem dX10_tallied_19 : decode cX10_tallied 19 = .ok (.iload_n 2, 1) := zrD zrw_cX10_tallied_0 (i := 19) (by decide +kernel) rfl
theorem dX10_tallied_20 : decode cX10_tallied 20 = .ok (.iaload, 1) := zrD zrw_cX10_tallied_0 (i := 20) (by decide +kernel) rfl
theorem dX10_tallied_21 : decode cX10_tallied 21 = .ok (.ifCond .le 6, 3) := zrD zrw_cX10_tallied_0 (i := 21) (by decide +kernel) rfl
theorem dX10_tallied_24 : decode cX10_tallied 24 = .ok (.iinc 1 1, 3) := zrD zrw_cX10_tallied_0 (i := 24) (by decide +kernel) rfl
theorem dX10_tallied_27 : decode cX10_tallied 27 = .ok (.iinc 2 1, 3) := zrD zrw_cX10_tallied_0 (i := 27) (by decide +kernel) rfl
def zrk_cX10_tallied_30 : ByteArray := .mk #[167, 255, 230, 27, 172]
theorem zrw_cX10_tallied_30 : zrW 30 cX10_tallied zrk_cX10_tallied_30 := by unfold zrW; decide +kernel
theorem dX10_tallied_30 : decode cX10_tallied 30 = .ok (.goto (-26), 3) := zrD zrw_cX10_tallied_30 (i := 0) (by decide +kernel) rfl
theorem dX10_tallied_33 : decode cX10_tallied 33 = .ok (.iload_n 1, 1) := zrD zrw_cX10_tallied_30 (i := 3) (by decide +kernel) rfl
theorem dX10_tallied_34 : decode cX10_tallied 34 = .ok (.ireturn, 1) := zrD zrw_cX10_tallied_30 (i := 4) (by decide +kernel) rfl
def zrk_cX10_mostTallied_0 : ByteArray := .mk #[16, 254, 60, 4, 61, 28, 42, 180, 0, 70, 180, 0, 175, 162, 0, 34, 42, 180, 0, 63, 28, 46, 27, 156, 0, 7, 3, 167, 0, 9, 42]
theorem zrw_cX10_mostTallied_0 : zrW 0 cX10_mostTallied zrk_cX10_mostTallied_0 := by unfold zrW; decide +kernel
theorem dX10_mostTallied_0 : decode cX10_mostTallied 0 = .ok (.bipush (-2), 2) := zrD zrw_cX10_mostTallied_0 (i := 0) (by decide +kernel) rfl
theorem dX10_mostTallied_2 : decode cX10_mostTallied 2 = .ok (.istore_n 1, 1) := zrD zrw_cX10_mostTallied_0 (i := 2) (by decide +kernel) rfl
theorem dX10_mostTallied_3 : decode cX10_mostTallied 3 = .ok (.iconst 1, 1) := zrD zrw_cX10_mostTallied_0 (i := 3) (by decide +kernel) rfl
theorem dX10_mostTallied_4 : decode cX10_mostTallied 4 = .ok (.istore_n 2, 1) := zrD zrw_cX10_mostTallied_0 (i := 4) (by decide +kernel) rfl
theorem dX10_mostTallied_5 : decode cX10_mostTallied 5 = .ok (.iload_n 2, 1) := zrD zrw_cX10_mostTallied_0 (i := 5) (by decide +kernel) rfl
theorem dX10_mostTallied_6 : decode cX10_mostTallied 6 = .ok (.aload_n 0, 1) := zrD zrw_cX10_mostTallied_0 (i := 6) (by decide +kernel) rfl
theorem dX10_mostTallied_7 : decode cX10_mostTallied 7 = .ok (.getfield 70, 3) := zrD zrw_cX10_mostTallied_0 (i := 7) (by decide +kernel) rfl
theorem dX10_mostTallied_10 : decode cX10_mostTallied 10 = .ok (.getfield 175, 3) := zrD zrw_cX10_mostTallied_0 (i := 10) (by decide +kernel) rfl
theorem dX10_mostTallied_13 : decode cX10_mostTallied 13 = .ok (.if_icmp .ge 34, 3) := zrD zrw_cX10_mostTallied_0 (i := 13) (by decide +kernel) rfl
theorem dX10_mostTallied_16 : decode cX10_mostTallied 16 = .ok (.aload_n 0, 1) := zrD zrw_cX10_mostTallied_0 (i := 16) (by decide +kernel) rfl
theorem dX10_mostTallied_17 : decode cX10_mostTallied 17 = .ok (.getfield 63, 3) := zrD zrw_cX10_mostTallied_0 (i := 17) (by decide +kernel) rfl
theorem dX10_mostTallied_20 : decode cX10_mostTallied 20 = .ok (.iload_n 2, 1) := zrD zrw_cX10_mostTallied_0 (i := 20) (by decide +kernel) rfl
theorem dX10_mostTallied_21 : decode cX10_mostTallied 21 = .ok (.iaload, 1) := zrD zrw_cX10_mostTallied_0 (i := 21) (by decide +kernel) rfl
theorem dX10_mostTallied_22 : decode cX10_mostTallied 22 = .ok (.iload_n 1, 1) := zrD zrw_cX10_mostTallied_0 (i := 22) (by decide +kernel) rfl
theorem dX10_mostTallied_23 : decode cX10_mostTallied 23 = .ok (.ifCond .ge 7, 3) := zrD zrw_cX10_mostTallied_0 (i := 23) (by decide +kernel) rfl
theorem dX10_mostTallied_26 : decode cX10_mostTallied 26 = .ok (.iconst 0, 1) := zrD zrw_cX10_mostTallied_0 (i := 26) (by decide +kernel) rfl
theorem dX10_mostTallied_27 : decode cX10_mostTallied 27 = .ok (.goto 9, 3) := zrD zrw_cX10_mostTallied_0 (i := 27) (by decide +kernel) rfl
theorem dX10_mostTallied_30 : decode cX10_mostTallied 30 = .ok (.aload_n 0, 1) := zrD zrw_cX10_mostTallied_0 (i := 30) (by decide +kernel) rfl
def zrk_cX10_mostTallied_31 : ByteArray := .mk #[180, 0, 63, 27, 46, 164, 0, 5, 28, 60, 132, 2, 1, 167, 255, 217, 27, 172]
theorem zrw_cX10_mostTallied_31 : zrW 31 cX10_mostTallied zrk_cX10_mostTallied_31 := by unfold zrW; decide +kernel
theorem dX10_mostTallied_31 : decode cX10_mostTallied 31 = .ok (.getfield 63, 3) := zrD zrw_cX10_mostTallied_31 (i := 0) (by decide +kernel) rfl
theorem dX10_mostTallied_34 : decode cX10_mostTallied 34 = .ok (.iload_n 1, 1) := zrD zrw_cX10_mostTallied_31 (i := 3) (by decide +kernel) rfl
theorem dX10_mostTallied_35 : decode cX10_mostTallied 35 = .ok (.iaload, 1) := zrD zrw_cX10_mostTallied_31 (i := 4) (by decide +kernel) rfl
theorem dX10_mostTallied_36 : decode cX10_mostTallied 36 = .ok (.if_icmp .le 5, 3) := zrD zrw_cX10_mostTallied_31 (i := 5) (by decide +kernel) rfl
theorem dX10_mostTallied_39 : decode cX10_mostTallied 39 = .ok (.iload_n 2, 1) := zrD zrw_cX10_mostTallied_31 (i := 8) (by decide +kernel) rfl
theorem dX10_mostTallied_40 : decode cX10_mostTallied 40 = .ok (.istore_n 1, 1) := zrD zrw_cX10_mostTallied_31 (i := 9) (by decide +kernel) rfl
theorem dX10_mostTallied_41 : decode cX10_mostTallied 41 = .ok (.iinc 2 1, 3) := zrD zrw_cX10_mostTallied_31 (i := 10) (by decide +kernel) rfl
theorem dX10_mostTallied_44 : decode cX10_mostTallied 44 = .ok (.goto (-39), 3) := zrD zrw_cX10_mostTallied_31 (i := 13) (by decide +kernel) rfl
theorem dX10_mostTallied_47 : decode cX10_mostTallied 47 = .ok (.iload_n 1, 1) := zrD zrw_cX10_mostTallied_31 (i := 16) (by decide +kernel) rfl
theorem dX10_mostTallied_48 : decode cX10_mostTallied 48 = .ok (.ireturn, 1) := zrD zrw_cX10_mostTallied_31 (i := 17) (by decide +kernel) rfl
def zrk_cX10_when_0 : ByteArray := .mk #[42, 182, 0, 113, 42, 180, 0, 34, 27, 182, 0, 146, 154, 0, 5, 2, 172, 42, 182, 1, 40, 4, 61, 28, 16, 60, 163, 0, 39, 42]
theorem zrw_cX10_when_0 : zrW 0 cX10_when zrk_cX10_when_0 := by unfold zrW; decide +kernel
theorem dX10_when_0 : decode cX10_when 0 = .ok (.aload_n 0, 1) := zrD zrw_cX10_when_0 (i := 0) (by decide +kernel) rfl
theorem dX10_when_1 : decode cX10_when 1 = .ok (.invokevirtual 113, 3) := zrD zrw_cX10_when_0 (i := 1) (by decide +kernel) rfl
theorem dX10_when_4 : decode cX10_when 4 = .ok (.aload_n 0, 1) := zrD zrw_cX10_when_0 (i := 4) (by decide +kernel) rfl
theorem dX10_when_5 : decode cX10_when 5 = .ok (.getfield 34, 3) := zrD zrw_cX10_when_0 (i := 5) (by decide +kernel) rfl
theorem dX10_when_8 : decode cX10_when 8 = .ok (.iload_n 1, 1) := zrD zrw_cX10_when_0 (i := 8) (by decide +kernel) rfl
theorem dX10_when_9 : decode cX10_when 9 = .ok (.invokevirtual 146, 3) := zrD zrw_cX10_when_0 (i := 9) (by decide +kernel) rfl
theorem dX10_when_12 : decode cX10_when 12 = .ok (.ifCond .ne 5, 3) := zrD zrw_cX10_when_0 (i := 12) (by decide +kernel) rfl
theorem dX10_when_15 : decode cX10_when 15 = .ok (.iconst (-1), 1) := zrD zrw_cX10_when_0 (i := 15) (by decide +kernel) rfl
theorem dX10_when_16 : decode cX10_when 16 = .ok (.ireturn, 1) := zrD zrw_cX10_when_0 (i := 16) (by decide +kernel) rfl
theorem dX10_when_17 : decode cX10_when 17 = .ok (.aload_n 0, 1) := zrD zrw_cX10_when_0 (i := 17) (by decide +kernel) rfl
theorem dX10_when_18 : decode cX10_when 18 = .ok (.invokevirtual 296, 3) := zrD zrw_cX10_when_0 (i := 18) (by decide +kernel) rfl
theorem dX10_when_21 : decode cX10_when 21 = .ok (.iconst 1, 1) := zrD zrw_cX10_when_0 (i := 21) (by decide +kernel) rfl
theorem dX10_when_22 : decode cX10_when 22 = .ok (.istore_n 2, 1) := zrD zrw_cX10_when_0 (i := 22) (by decide +kernel) rfl
theorem dX10_when_23 : decode cX10_when 23 = .ok (.iload_n 2, 1) := zrD zrw_cX10_when_0 (i := 23) (by decide +kernel) rfl
theorem dX10_when_24 : decode cX10_when 24 = .ok (.bipush 60, 2) := zrD zrw_cX10_when_0 (i := 24) (by decide +kernel) rfl
theorem dX10_when_26 : decode cX10_when 26 = .ok (.if_icmp .gt 39, 3) := zrD zrw_cX10_when_0 (i := 26) (by decide +kernel) rfl
theorem dX10_when_29 : decode cX10_when 29 = .ok (.aload_n 0, 1) := zrD zrw_cX10_when_0 (i := 29) (by decide +kernel) rfl
def zrk_cX10_when_30 : ByteArray := .mk #[180, 0, 26, 182, 1, 43, 42, 180, 0, 56, 180, 0, 149, 27, 46, 42, 180, 0, 52, 180, 0, 149, 27, 46, 164, 0, 5, 28, 172, 132, 2, 1]
theorem zrw_cX10_when_30 : zrW 30 cX10_when zrk_cX10_when_30 := by unfold zrW; decide +kernel
theorem dX10_when_30 : decode cX10_when 30 = .ok (.getfield 26, 3) := zrD zrw_cX10_when_30 (i := 0) (by decide +kernel) rfl
theorem dX10_when_33 : decode cX10_when 33 = .ok (.invokevirtual 299, 3) := zrD zrw_cX10_when_30 (i := 3) (by decide +kernel) rfl
theorem dX10_when_36 : decode cX10_when 36 = .ok (.aload_n 0, 1) := zrD zrw_cX10_when_30 (i := 6) (by decide +kernel) rfl
theorem dX10_when_37 : decode cX10_when 37 = .ok (.getfield 56, 3) := zrD zrw_cX10_when_30 (i := 7) (by decide +kernel) rfl
theorem dX10_when_40 : decode cX10_when 40 = .ok (.getfield 149, 3) := zrD zrw_cX10_when_30 (i := 10) (by decide +kernel) rfl
theorem dX10_when_43 : decode cX10_when 43 = .ok (.iload_n 1, 1) := zrD zrw_cX10_when_30 (i := 13) (by decide +kernel) rfl
theorem dX10_when_44 : decode cX10_when 44 = .ok (.iaload, 1) := zrD zrw_cX10_when_30 (i := 14) (by decide +kernel) rfl
theorem dX10_when_45 : decode cX10_when 45 = .ok (.aload_n 0, 1) := zrD zrw_cX10_when_30 (i := 15) (by decide +kernel) rfl
theorem dX10_when_46 : decode cX10_when 46 = .ok (.getfield 52, 3) := zrD zrw_cX10_when_30 (i := 16) (by decide +kernel) rfl
theorem dX10_when_49 : decode cX10_when 49 = .ok (.getfield 149, 3) := zrD zrw_cX10_when_30 (i := 19) (by decide +kernel) rfl
theorem dX10_when_52 : decode cX10_when 52 = .ok (.iload_n 1, 1) := zrD zrw_cX10_when_30 (i := 22) (by decide +kernel) rfl
theorem dX10_when_53 : decode cX10_when 53 = .ok (.iaload, 1) := zrD zrw_cX10_when_30 (i := 23) (by decide +kernel) rfl
theorem dX10_when_54 : decode cX10_when 54 = .ok (.if_icmp .le 5, 3) := zrD zrw_cX10_when_30 (i := 24) (by decide +kernel) rfl
theorem dX10_when_57 : decode cX10_when 57 = .ok (.iload_n 2, 1) := zrD zrw_cX10_when_30 (i := 27) (by decide +kernel) rfl
theorem dX10_when_58 : decode cX10_when 58 = .ok (.ireturn, 1) := zrD zrw_cX10_when_30 (i := 28) (by decide +kernel) rfl
theorem dX10_when_59 : decode cX10_when 59 = .ok (.iinc 2 1, 3) := zrD zrw_cX10_when_30 (i := 29) (by decide +kernel) rfl
def zrk_cX10_when_62 : ByteArray := .mk #[167, 255, 217, 16, 254, 172]
theorem zrw_cX10_when_62 : zrW 62 cX10_when zrk_cX10_when_62 := by unfold zrW; decide +kernel
theorem dX10_when_62 : decode cX10_when 62 = .ok (.goto (-39), 3) := zrD zrw_cX10_when_62 (i := 0) (by decide +kernel) rfl
theorem dX10_when_65 : decode cX10_when 65 = .ok (.bipush (-2), 2) := zrD zrw_cX10_when_62 (i := 3) (by decide +kernel) rfl
theorem dX10_when_67 : decode cX10_when 67 = .ok (.ireturn, 1) := zrD zrw_cX10_when_62 (i := 5) (by decide +kernel) rfl
def zrk_cX10_then_0 : ByteArray := .mk #[42, 182, 0, 113, 42, 180, 0, 34, 27, 182, 0, 146, 153, 0, 22, 28, 3, 16, 60, 184, 0, 229, 153, 0, 12, 29, 3, 4, 184, 0, 229]
theorem zrw_cX10_then_0 : zrW 0 cX10_then zrk_cX10_then_0 := by unfold zrW; decide +kernel
theorem dX10_then_0 : decode cX10_then 0 = .ok (.aload_n 0, 1) := zrD zrw_cX10_then_0 (i := 0) (by decide +kernel) rfl
theorem dX10_then_1 : decode cX10_then 1 = .ok (.invokevirtual 113, 3) := zrD zrw_cX10_then_0 (i := 1) (by decide +kernel) rfl
theorem dX10_then_4 : decode cX10_then 4 = .ok (.aload_n 0, 1) := zrD zrw_cX10_then_0 (i := 4) (by decide +kernel) rfl
theorem dX10_then_5 : decode cX10_then 5 = .ok (.getfield 34, 3) := zrD zrw_cX10_then_0 (i := 5) (by decide +kernel) rfl
theorem dX10_then_8 : decode cX10_then 8 = .ok (.iload_n 1, 1) := zrD zrw_cX10_then_0 (i := 8) (by decide +kernel) rfl
theorem dX10_then_9 : decode cX10_then 9 = .ok (.invokevirtual 146, 3) := zrD zrw_cX10_then_0 (i := 9) (by decide +kernel) rfl
theorem dX10_then_12 : decode cX10_then 12 = .ok (.ifCond .eq 22, 3) := zrD zrw_cX10_then_0 (i := 12) (by decide +kernel) rfl
theorem dX10_then_15 : decode cX10_then 15 = .ok (.iload_n 2, 1) := zrD zrw_cX10_then_0 (i := 15) (by decide +kernel) rfl
theorem dX10_then_16 : decode cX10_then 16 = .ok (.iconst 0, 1) := zrD zrw_cX10_then_0 (i := 16) (by decide +kernel) rfl
theorem dX10_then_17 : decode cX10_then 17 = .ok (.bipush 60, 2) := zrD zrw_cX10_then_0 (i := 17) (by decide +kernel) rfl
theorem dX10_then_19 : decode cX10_then 19 = .ok (.invokestatic 229, 3) := zrD zrw_cX10_then_0 (i := 19) (by decide +kernel) rfl
theorem dX10_then_22 : decode cX10_then 22 = .ok (.ifCond .eq 12, 3) := zrD zrw_cX10_then_0 (i := 22) (by decide +kernel) rfl
theorem dX10_then_25 : decode cX10_then 25 = .ok (.iload_n 3, 1) := zrD zrw_cX10_then_0 (i := 25) (by decide +kernel) rfl
theorem dX10_then_26 : decode cX10_then 26 = .ok (.iconst 0, 1) := zrD zrw_cX10_then_0 (i := 26) (by decide +kernel) rfl
theorem dX10_then_27 : decode cX10_then 27 = .ok (.iconst 1, 1) := zrD zrw_cX10_then_0 (i := 27) (by decide +kernel) rfl
theorem dX10_then_28 : decode cX10_then 28 = .ok (.invokestatic 229, 3) := zrD zrw_cX10_then_0 (i := 28) (by decide +kernel) rfl
def zrk_cX10_then_31 : ByteArray := .mk #[154, 0, 5, 2, 172, 42, 180, 0, 56, 42, 180, 0, 52, 182, 0, 241, 42, 180, 0, 26, 42, 180, 0, 70, 42, 180, 0, 56, 28, 42]
theorem zrw_cX10_then_31 : zrW 31 cX10_then zrk_cX10_then_31 := by unfold zrW; decide +kernel
theorem dX10_then_31 : decode cX10_then 31 = .ok (.ifCond .ne 5, 3) := zrD zrw_cX10_then_31 (i := 0) (by decide +kernel) rfl
theorem dX10_then_34 : decode cX10_then 34 = .ok (.iconst (-1), 1) := zrD zrw_cX10_then_31 (i := 3) (by decide +kernel) rfl
theorem dX10_then_35 : decode cX10_then 35 = .ok (.ireturn, 1) := zrD zrw_cX10_then_31 (i := 4) (by decide +kernel) rfl
theorem dX10_then_36 : decode cX10_then 36 = .ok (.aload_n 0, 1) := zrD zrw_cX10_then_31 (i := 5) (by decide +kernel) rfl
theorem dX10_then_37 : decode cX10_then 37 = .ok (.getfield 56, 3) := zrD zrw_cX10_then_31 (i := 6) (by decide +kernel) rfl
theorem dX10_then_40 : decode cX10_then 40 = .ok (.aload_n 0, 1) := zrD zrw_cX10_then_31 (i := 9) (by decide +kernel) rfl
theorem dX10_then_41 : decode cX10_then 41 = .ok (.getfield 52, 3) := zrD zrw_cX10_then_31 (i := 10) (by decide +kernel) rfl
theorem dX10_then_44 : decode cX10_then 44 = .ok (.invokevirtual 241, 3) := zrD zrw_cX10_then_31 (i := 13) (by decide +kernel) rfl
theorem dX10_then_47 : decode cX10_then 47 = .ok (.aload_n 0, 1) := zrD zrw_cX10_then_31 (i := 16) (by decide +kernel) rfl
theorem dX10_then_48 : decode cX10_then 48 = .ok (.getfield 26, 3) := zrD zrw_cX10_then_31 (i := 17) (by decide +kernel) rfl
theorem dX10_then_51 : decode cX10_then 51 = .ok (.aload_n 0, 1) := zrD zrw_cX10_then_31 (i := 20) (by decide +kernel) rfl
theorem dX10_then_52 : decode cX10_then 52 = .ok (.getfield 70, 3) := zrD zrw_cX10_then_31 (i := 21) (by decide +kernel) rfl
theorem dX10_then_55 : decode cX10_then 55 = .ok (.aload_n 0, 1) := zrD zrw_cX10_then_31 (i := 24) (by decide +kernel) rfl
theorem dX10_then_56 : decode cX10_then 56 = .ok (.getfield 56, 3) := zrD zrw_cX10_then_31 (i := 25) (by decide +kernel) rfl
theorem dX10_then_59 : decode cX10_then 59 = .ok (.iload_n 2, 1) := zrD zrw_cX10_then_31 (i := 28) (by decide +kernel) rfl
theorem dX10_then_60 : decode cX10_then 60 = .ok (.aload_n 0, 1) := zrD zrw_cX10_then_31 (i := 29) (by decide +kernel) rfl
def zrk_cX10_then_61 : ByteArray := .mk #[180, 0, 70, 180, 0, 203, 182, 0, 233, 29, 154, 0, 15, 42, 180, 0, 56, 180, 0, 149, 27, 46, 167, 0, 12, 42, 180, 0, 56, 180, 0, 152]
theorem zrw_cX10_then_61 : zrW 61 cX10_then zrk_cX10_then_61 := by unfold zrW; decide +kernel
theorem dX10_then_61 : decode cX10_then 61 = .ok (.getfield 70, 3) := zrD zrw_cX10_then_61 (i := 0) (by decide +kernel) rfl
theorem dX10_then_64 : decode cX10_then 64 = .ok (.getfield 203, 3) := zrD zrw_cX10_then_61 (i := 3) (by decide +kernel) rfl
theorem dX10_then_67 : decode cX10_then 67 = .ok (.invokevirtual 233, 3) := zrD zrw_cX10_then_61 (i := 6) (by decide +kernel) rfl
theorem dX10_then_70 : decode cX10_then 70 = .ok (.iload_n 3, 1) := zrD zrw_cX10_then_61 (i := 9) (by decide +kernel) rfl
theorem dX10_then_71 : decode cX10_then 71 = .ok (.ifCond .ne 15, 3) := zrD zrw_cX10_then_61 (i := 10) (by decide +kernel) rfl
theorem dX10_then_74 : decode cX10_then 74 = .ok (.aload_n 0, 1) := zrD zrw_cX10_then_61 (i := 13) (by decide +kernel) rfl
theorem dX10_then_75 : decode cX10_then 75 = .ok (.getfield 56, 3) := zrD zrw_cX10_then_61 (i := 14) (by decide +kernel) rfl
theorem dX10_then_78 : decode cX10_then 78 = .ok (.getfield 149, 3) := zrD zrw_cX10_then_61 (i := 17) (by decide +kernel) rfl
theorem dX10_then_81 : decode cX10_then 81 = .ok (.iload_n 1, 1) := zrD zrw_cX10_then_61 (i := 20) (by decide +kernel) rfl
theorem dX10_then_82 : decode cX10_then 82 = .ok (.iaload, 1) := zrD zrw_cX10_then_61 (i := 21) (by decide +kernel) rfl
theorem dX10_then_83 : decode cX10_then 83 = .ok (.goto 12, 3) := zrD zrw_cX10_then_61 (i := 22) (by decide +kernel) rfl
theorem dX10_then_86 : decode cX10_then 86 = .ok (.aload_n 0, 1) := zrD zrw_cX10_then_61 (i := 25) (by decide +kernel) rfl
theorem dX10_then_87 : decode cX10_then 87 = .ok (.getfield 56, 3) := zrD zrw_cX10_then_61 (i := 26) (by decide +kernel) rfl
theorem dX10_then_90 : decode cX10_then 90 = .ok (.getfield 152, 3) := zrD zrw_cX10_then_61 (i := 29) (by decide +kernel) rfl
def zrk_cX10_then_93 : ByteArray := .mk #[27, 46, 172]
theorem zrw_cX10_then_93 : zrW 93 cX10_then zrk_cX10_then_93 := by unfold zrW; decide +kernel
theorem dX10_then_93 : decode cX10_then 93 = .ok (.iload_n 1, 1) := zrD zrw_cX10_then_93 (i := 0) (by decide +kernel) rfl
theorem dX10_then_94 : decode cX10_then 94 = .ok (.iaload, 1) := zrD zrw_cX10_then_93 (i := 1) (by decide +kernel) rfl
theorem dX10_then_95 : decode cX10_then 95 = .ok (.ireturn, 1) := zrD zrw_cX10_then_93 (i := 2) (by decide +kernel) rfl
def zrk_cX10_flowIn_0 : ByteArray := .mk #[42, 182, 1, 21, 153, 0, 13, 27, 3, 16, 60, 184, 0, 229, 154, 0, 5, 2, 172, 42, 180, 0, 56, 42, 180, 0, 52, 182, 0, 241, 42]
theorem zrw_cX10_flowIn_0 : zrW 0 cX10_flowIn zrk_cX10_flowIn_0 := by unfold zrW; decide +kernel
theorem dX10_flowIn_0 : decode cX10_flowIn 0 = .ok (.aload_n 0, 1) := zrD zrw_cX10_flowIn_0 (i := 0) (by decide +kernel) rfl
theorem dX10_flowIn_1 : decode cX10_flowIn 1 = .ok (.invokevirtual 277, 3) := zrD zrw_cX10_flowIn_0 (i := 1) (by decide +kernel) rfl
theorem dX10_flowIn_4 : decode cX10_flowIn 4 = .ok (.ifCond .eq 13, 3) := zrD zrw_cX10_flowIn_0 (i := 4) (by decide +kernel) rfl
theorem dX10_flowIn_7 : decode cX10_flowIn 7 = .ok (.iload_n 1, 1) := zrD zrw_cX10_flowIn_0 (i := 7) (by decide +kernel) rfl
theorem dX10_flowIn_8 : decode cX10_flowIn 8 = .ok (.iconst 0, 1) := zrD zrw_cX10_flowIn_0 (i := 8) (by decide +kernel) rfl
theorem dX10_flowIn_9 : decode cX10_flowIn 9 = .ok (.bipush 60, 2) := zrD zrw_cX10_flowIn_0 (i := 9) (by decide +kernel) rfl
theorem dX10_flowIn_11 : decode cX10_flowIn 11 = .ok (.invokestatic 229, 3) := zrD zrw_cX10_flowIn_0 (i := 11) (by decide +kernel) rfl
theorem dX10_flowIn_14 : decode cX10_flowIn 14 = .ok (.ifCond .ne 5, 3) := zrD zrw_cX10_flowIn_0 (i := 14) (by decide +kernel) rfl
theorem dX10_flowIn_17 : decode cX10_flowIn 17 = .ok (.iconst (-1), 1) := zrD zrw_cX10_flowIn_0 (i := 17) (by decide +kernel) rfl
theorem dX10_flowIn_18 : decode cX10_flowIn 18 = .ok (.ireturn, 1) := zrD zrw_cX10_flowIn_0 (i := 18) (by decide +kernel) rfl
theorem dX10_flowIn_19 : decode cX10_flowIn 19 = .ok (.aload_n 0, 1) := zrD zrw_cX10_flowIn_0 (i := 19) (by decide +kernel) rfl
theorem dX10_flowIn_20 : decode cX10_flowIn 20 = .ok (.getfield 56, 3) := zrD zrw_cX10_flowIn_0 (i := 20) (by decide +kernel) rfl
theorem dX10_flowIn_23 : decode cX10_flowIn 23 = .ok (.aload_n 0, 1) := zrD zrw_cX10_flowIn_0 (i := 23) (by decide +kernel) rfl
theorem dX10_flowIn_24 : decode cX10_flowIn 24 = .ok (.getfield 52, 3) := zrD zrw_cX10_flowIn_0 (i := 24) (by decide +kernel) rfl
theorem dX10_flowIn_27 : decode cX10_flowIn 27 = .ok (.invokevirtual 241, 3) := zrD zrw_cX10_flowIn_0 (i := 27) (by decide +kernel) rfl
theorem dX10_flowIn_30 : decode cX10_flowIn 30 = .ok (.aload_n 0, 1) := zrD zrw_cX10_flowIn_0 (i := 30) (by decide +kernel) rfl
def zrk_cX10_flowIn_31 : ByteArray := .mk #[180, 0, 26, 42, 180, 0, 70, 42, 180, 0, 56, 27, 42, 180, 0, 70, 180, 0, 203, 182, 0, 233, 42, 180, 0, 26, 42, 180, 0, 70, 42]
theorem zrw_cX10_flowIn_31 : zrW 31 cX10_flowIn zrk_cX10_flowIn_31 := by unfold zrW; decide +kernel
theorem dX10_flowIn_31 : decode cX10_flowIn 31 = .ok (.getfield 26, 3) := zrD zrw_cX10_flowIn_31 (i := 0) (by decide +kernel) rfl
theorem dX10_flowIn_34 : decode cX10_flowIn 34 = .ok (.aload_n 0, 1) := zrD zrw_cX10_flowIn_31 (i := 3) (by decide +kernel) rfl
theorem dX10_flowIn_35 : decode cX10_flowIn 35 = .ok (.getfield 70, 3) := zrD zrw_cX10_flowIn_31 (i := 4) (by decide +kernel) rfl
theorem dX10_flowIn_38 : decode cX10_flowIn 38 = .ok (.aload_n 0, 1) := zrD zrw_cX10_flowIn_31 (i := 7) (by decide +kernel) rfl
theorem dX10_flowIn_39 : decode cX10_flowIn 39 = .ok (.getfield 56, 3) := zrD zrw_cX10_flowIn_31 (i := 8) (by decide +kernel) rfl
theorem dX10_flowIn_42 : decode cX10_flowIn 42 = .ok (.iload_n 1, 1) := zrD zrw_cX10_flowIn_31 (i := 11) (by decide +kernel) rfl
theorem dX10_flowIn_43 : decode cX10_flowIn 43 = .ok (.aload_n 0, 1) := zrD zrw_cX10_flowIn_31 (i := 12) (by decide +kernel) rfl
theorem dX10_flowIn_44 : decode cX10_flowIn 44 = .ok (.getfield 70, 3) := zrD zrw_cX10_flowIn_31 (i := 13) (by decide +kernel) rfl
theorem dX10_flowIn_47 : decode cX10_flowIn 47 = .ok (.getfield 203, 3) := zrD zrw_cX10_flowIn_31 (i := 16) (by decide +kernel) rfl
theorem dX10_flowIn_50 : decode cX10_flowIn 50 = .ok (.invokevirtual 233, 3) := zrD zrw_cX10_flowIn_31 (i := 19) (by decide +kernel) rfl
theorem dX10_flowIn_53 : decode cX10_flowIn 53 = .ok (.aload_n 0, 1) := zrD zrw_cX10_flowIn_31 (i := 22) (by decide +kernel) rfl
theorem dX10_flowIn_54 : decode cX10_flowIn 54 = .ok (.getfield 26, 3) := zrD zrw_cX10_flowIn_31 (i := 23) (by decide +kernel) rfl
theorem dX10_flowIn_57 : decode cX10_flowIn 57 = .ok (.aload_n 0, 1) := zrD zrw_cX10_flowIn_31 (i := 26) (by decide +kernel) rfl
theorem dX10_flowIn_58 : decode cX10_flowIn 58 = .ok (.getfield 70, 3) := zrD zrw_cX10_flowIn_31 (i := 27) (by decide +kernel) rfl
theorem dX10_flowIn_61 : decode cX10_flowIn 61 = .ok (.aload_n 0, 1) := zrD zrw_cX10_flowIn_31 (i := 30) (by decide +kernel) rfl
def zrk_cX10_flowIn_62 : ByteArray := .mk #[180, 0, 56, 182, 1, 15, 42, 182, 0, 191, 172]
theorem zrw_cX10_flowIn_62 : zrW 62 cX10_flowIn zrk_cX10_flowIn_62 := by unfold zrW; decide +kernel
theorem dX10_flowIn_62 : decode cX10_flowIn 62 = .ok (.getfield 56, 3) := zrD zrw_cX10_flowIn_62 (i := 0) (by decide +kernel) rfl
theorem dX10_flowIn_65 : decode cX10_flowIn 65 = .ok (.invokevirtual 271, 3) := zrD zrw_cX10_flowIn_62 (i := 3) (by decide +kernel) rfl
theorem dX10_flowIn_68 : decode cX10_flowIn 68 = .ok (.aload_n 0, 1) := zrD zrw_cX10_flowIn_62 (i := 6) (by decide +kernel) rfl
theorem dX10_flowIn_69 : decode cX10_flowIn 69 = .ok (.invokevirtual 191, 3) := zrD zrw_cX10_flowIn_62 (i := 7) (by decide +kernel) rfl
theorem dX10_flowIn_72 : decode cX10_flowIn 72 = .ok (.ireturn, 1) := zrD zrw_cX10_flowIn_62 (i := 10) (by decide +kernel) rfl
def zrk_cX10_year_0 : ByteArray := .mk #[42, 182, 0, 113, 42, 180, 0, 34, 27, 182, 0, 146, 153, 0, 23, 28, 3, 16, 60, 184, 0, 229, 153, 0, 13, 29, 4, 16, 20, 184, 0, 229]
theorem zrw_cX10_year_0 : zrW 0 cX10_year zrk_cX10_year_0 := by unfold zrW; decide +kernel
theorem dX10_year_0 : decode cX10_year 0 = .ok (.aload_n 0, 1) := zrD zrw_cX10_year_0 (i := 0) (by decide +kernel) rfl
theorem dX10_year_1 : decode cX10_year 1 = .ok (.invokevirtual 113, 3) := zrD zrw_cX10_year_0 (i := 1) (by decide +kernel) rfl
theorem dX10_year_4 : decode cX10_year 4 = .ok (.aload_n 0, 1) := zrD zrw_cX10_year_0 (i := 4) (by decide +kernel) rfl
theorem dX10_year_5 : decode cX10_year 5 = .ok (.getfield 34, 3) := zrD zrw_cX10_year_0 (i := 5) (by decide +kernel) rfl
theorem dX10_year_8 : decode cX10_year 8 = .ok (.iload_n 1, 1) := zrD zrw_cX10_year_0 (i := 8) (by decide +kernel) rfl
theorem dX10_year_9 : decode cX10_year 9 = .ok (.invokevirtual 146, 3) := zrD zrw_cX10_year_0 (i := 9) (by decide +kernel) rfl
theorem dX10_year_12 : decode cX10_year 12 = .ok (.ifCond .eq 23, 3) := zrD zrw_cX10_year_0 (i := 12) (by decide +kernel) rfl
theorem dX10_year_15 : decode cX10_year 15 = .ok (.iload_n 2, 1) := zrD zrw_cX10_year_0 (i := 15) (by decide +kernel) rfl
theorem dX10_year_16 : decode cX10_year 16 = .ok (.iconst 0, 1) := zrD zrw_cX10_year_0 (i := 16) (by decide +kernel) rfl
theorem dX10_year_17 : decode cX10_year 17 = .ok (.bipush 60, 2) := zrD zrw_cX10_year_0 (i := 17) (by decide +kernel) rfl
theorem dX10_year_19 : decode cX10_year 19 = .ok (.invokestatic 229, 3) := zrD zrw_cX10_year_0 (i := 19) (by decide +kernel) rfl
theorem dX10_year_22 : decode cX10_year 22 = .ok (.ifCond .eq 13, 3) := zrD zrw_cX10_year_0 (i := 22) (by decide +kernel) rfl
theorem dX10_year_25 : decode cX10_year 25 = .ok (.iload_n 3, 1) := zrD zrw_cX10_year_0 (i := 25) (by decide +kernel) rfl
theorem dX10_year_26 : decode cX10_year 26 = .ok (.iconst 1, 1) := zrD zrw_cX10_year_0 (i := 26) (by decide +kernel) rfl
theorem dX10_year_27 : decode cX10_year 27 = .ok (.bipush 20, 2) := zrD zrw_cX10_year_0 (i := 27) (by decide +kernel) rfl
theorem dX10_year_29 : decode cX10_year 29 = .ok (.invokestatic 229, 3) := zrD zrw_cX10_year_0 (i := 29) (by decide +kernel) rfl
def zrk_cX10_year_32 : ByteArray := .mk #[154, 0, 5, 2, 172, 3, 54, 4, 3, 54, 5, 21, 5, 29, 162, 0, 57, 42, 180, 0, 56, 42, 180, 0, 52, 182, 0, 241, 42, 180, 0, 26]
theorem zrw_cX10_year_32 : zrW 32 cX10_year zrk_cX10_year_32 := by unfold zrW; decide +kernel
theorem dX10_year_32 : decode cX10_year 32 = .ok (.ifCond .ne 5, 3) := zrD zrw_cX10_year_32 (i := 0) (by decide +kernel) rfl
theorem dX10_year_35 : decode cX10_year 35 = .ok (.iconst (-1), 1) := zrD zrw_cX10_year_32 (i := 3) (by decide +kernel) rfl
theorem dX10_year_36 : decode cX10_year 36 = .ok (.ireturn, 1) := zrD zrw_cX10_year_32 (i := 4) (by decide +kernel) rfl
theorem dX10_year_37 : decode cX10_year 37 = .ok (.iconst 0, 1) := zrD zrw_cX10_year_32 (i := 5) (by decide +kernel) rfl
theorem dX10_year_38 : decode cX10_year 38 = .ok (.istore 4, 2) := zrD zrw_cX10_year_32 (i := 6) (by decide +kernel) rfl
theorem dX10_year_40 : decode cX10_year 40 = .ok (.iconst 0, 1) := zrD zrw_cX10_year_32 (i := 8) (by decide +kernel) rfl
theorem dX10_year_41 : decode cX10_year 41 = .ok (.istore 5, 2) := zrD zrw_cX10_year_32 (i := 9) (by decide +kernel) rfl
theorem dX10_year_43 : decode cX10_year 43 = .ok (.iload 5, 2) := zrD zrw_cX10_year_32 (i := 11) (by decide +kernel) rfl
theorem dX10_year_45 : decode cX10_year 45 = .ok (.iload_n 3, 1) := zrD zrw_cX10_year_32 (i := 13) (by decide +kernel) rfl
theorem dX10_year_46 : decode cX10_year 46 = .ok (.if_icmp .ge 57, 3) := zrD zrw_cX10_year_32 (i := 14) (by decide +kernel) rfl
theorem dX10_year_49 : decode cX10_year 49 = .ok (.aload_n 0, 1) := zrD zrw_cX10_year_32 (i := 17) (by decide +kernel) rfl
theorem dX10_year_50 : decode cX10_year 50 = .ok (.getfield 56, 3) := zrD zrw_cX10_year_32 (i := 18) (by decide +kernel) rfl
theorem dX10_year_53 : decode cX10_year 53 = .ok (.aload_n 0, 1) := zrD zrw_cX10_year_32 (i := 21) (by decide +kernel) rfl
theorem dX10_year_54 : decode cX10_year 54 = .ok (.getfield 52, 3) := zrD zrw_cX10_year_32 (i := 22) (by decide +kernel) rfl
theorem dX10_year_57 : decode cX10_year 57 = .ok (.invokevirtual 241, 3) := zrD zrw_cX10_year_32 (i := 25) (by decide +kernel) rfl
theorem dX10_year_60 : decode cX10_year 60 = .ok (.aload_n 0, 1) := zrD zrw_cX10_year_32 (i := 28) (by decide +kernel) rfl
theorem dX10_year_61 : decode cX10_year 61 = .ok (.getfield 26, 3) := zrD zrw_cX10_year_32 (i := 29) (by decide +kernel) rfl
def zrk_cX10_year_64 : ByteArray := .mk #[42, 180, 0, 70, 42, 180, 0, 56, 28, 42, 180, 0, 70, 180, 0, 203, 21, 5, 96, 182, 0, 233, 42, 27, 182, 1, 58, 153, 0, 6]
theorem zrw_cX10_year_64 : zrW 64 cX10_year zrk_cX10_year_64 := by unfold zrW; decide +kernel
theorem dX10_year_64 : decode cX10_year 64 = .ok (.aload_n 0, 1) := zrD zrw_cX10_year_64 (i := 0) (by decide +kernel) rfl
theorem dX10_year_65 : decode cX10_year 65 = .ok (.getfield 70, 3) := zrD zrw_cX10_year_64 (i := 1) (by decide +kernel) rfl
theorem dX10_year_68 : decode cX10_year 68 = .ok (.aload_n 0, 1) := zrD zrw_cX10_year_64 (i := 4) (by decide +kernel) rfl
theorem dX10_year_69 : decode cX10_year 69 = .ok (.getfield 56, 3) := zrD zrw_cX10_year_64 (i := 5) (by decide +kernel) rfl
theorem dX10_year_72 : decode cX10_year 72 = .ok (.iload_n 2, 1) := zrD zrw_cX10_year_64 (i := 8) (by decide +kernel) rfl
theorem dX10_year_73 : decode cX10_year 73 = .ok (.aload_n 0, 1) := zrD zrw_cX10_year_64 (i := 9) (by decide +kernel) rfl
theorem dX10_year_74 : decode cX10_year 74 = .ok (.getfield 70, 3) := zrD zrw_cX10_year_64 (i := 10) (by decide +kernel) rfl
theorem dX10_year_77 : decode cX10_year 77 = .ok (.getfield 203, 3) := zrD zrw_cX10_year_64 (i := 13) (by decide +kernel) rfl
theorem dX10_year_80 : decode cX10_year 80 = .ok (.iload 5, 2) := zrD zrw_cX10_year_64 (i := 16) (by decide +kernel) rfl
theorem dX10_year_82 : decode cX10_year 82 = .ok (.iadd, 1) := zrD zrw_cX10_year_64 (i := 18) (by decide +kernel) rfl
theorem dX10_year_83 : decode cX10_year 83 = .ok (.invokevirtual 233, 3) := zrD zrw_cX10_year_64 (i := 19) (by decide +kernel) rfl
theorem dX10_year_86 : decode cX10_year 86 = .ok (.aload_n 0, 1) := zrD zrw_cX10_year_64 (i := 22) (by decide +kernel) rfl
theorem dX10_year_87 : decode cX10_year 87 = .ok (.iload_n 1, 1) := zrD zrw_cX10_year_64 (i := 23) (by decide +kernel) rfl
theorem dX10_year_88 : decode cX10_year 88 = .ok (.invokevirtual 314, 3) := zrD zrw_cX10_year_64 (i := 24) (by decide +kernel) rfl
theorem dX10_year_91 : decode cX10_year 91 = .ok (.ifCond .eq 6, 3) := zrD zrw_cX10_year_64 (i := 27) (by decide +kernel) rfl
def zrk_cX10_year_94 : ByteArray := .mk #[132, 4, 1, 132, 5, 1, 167, 255, 199, 21, 4, 172]
theorem zrw_cX10_year_94 : zrW 94 cX10_year zrk_cX10_year_94 := by unfold zrW; decide +kernel
theorem dX10_year_94 : decode cX10_year 94 = .ok (.iinc 4 1, 3) := zrD zrw_cX10_year_94 (i := 0) (by decide +kernel) rfl
theorem dX10_year_97 : decode cX10_year 97 = .ok (.iinc 5 1, 3) := zrD zrw_cX10_year_94 (i := 3) (by decide +kernel) rfl
theorem dX10_year_100 : decode cX10_year 100 = .ok (.goto (-57), 3) := zrD zrw_cX10_year_94 (i := 6) (by decide +kernel) rfl
theorem dX10_year_103 : decode cX10_year 103 = .ok (.iload 4, 2) := zrD zrw_cX10_year_94 (i := 9) (by decide +kernel) rfl
theorem dX10_year_105 : decode cX10_year 105 = .ok (.ireturn, 1) := zrD zrw_cX10_year_94 (i := 11) (by decide +kernel) rfl
def zrk_cX10_hasWonMost_0 : ByteArray := .mk #[4, 61, 4, 62, 29, 42, 180, 0, 70, 180, 0, 175, 162, 0, 48, 29, 27, 159, 0, 37, 42, 180, 0, 34, 29, 182, 0, 146, 153, 0, 26, 42]
theorem zrw_cX10_hasWonMost_0 : zrW 0 cX10_hasWonMost zrk_cX10_hasWonMost_0 := by unfold zrW; decide +kernel
theorem dX10_hasWonMost_0 : decode cX10_hasWonMost 0 = .ok (.iconst 1, 1) := zrD zrw_cX10_hasWonMost_0 (i := 0) (by decide +kernel) rfl
theorem dX10_hasWonMost_1 : decode cX10_hasWonMost 1 = .ok (.istore_n 2, 1) := zrD zrw_cX10_hasWonMost_0 (i := 1) (by decide +kernel) rfl
theorem dX10_hasWonMost_2 : decode cX10_hasWonMost 2 = .ok (.iconst 1, 1) := zrD zrw_cX10_hasWonMost_0 (i := 2) (by decide +kernel) rfl
theorem dX10_hasWonMost_3 : decode cX10_hasWonMost 3 = .ok (.istore_n 3, 1) := zrD zrw_cX10_hasWonMost_0 (i := 3) (by decide +kernel) rfl
theorem dX10_hasWonMost_4 : decode cX10_hasWonMost 4 = .ok (.iload_n 3, 1) := zrD zrw_cX10_hasWonMost_0 (i := 4) (by decide +kernel) rfl
theorem dX10_hasWonMost_5 : decode cX10_hasWonMost 5 = .ok (.aload_n 0, 1) := zrD zrw_cX10_hasWonMost_0 (i := 5) (by decide +kernel) rfl
theorem dX10_hasWonMost_6 : decode cX10_hasWonMost 6 = .ok (.getfield 70, 3) := zrD zrw_cX10_hasWonMost_0 (i := 6) (by decide +kernel) rfl
theorem dX10_hasWonMost_9 : decode cX10_hasWonMost 9 = .ok (.getfield 175, 3) := zrD zrw_cX10_hasWonMost_0 (i := 9) (by decide +kernel) rfl
theorem dX10_hasWonMost_12 : decode cX10_hasWonMost 12 = .ok (.if_icmp .ge 48, 3) := zrD zrw_cX10_hasWonMost_0 (i := 12) (by decide +kernel) rfl
theorem dX10_hasWonMost_15 : decode cX10_hasWonMost 15 = .ok (.iload_n 3, 1) := zrD zrw_cX10_hasWonMost_0 (i := 15) (by decide +kernel) rfl
theorem dX10_hasWonMost_16 : decode cX10_hasWonMost 16 = .ok (.iload_n 1, 1) := zrD zrw_cX10_hasWonMost_0 (i := 16) (by decide +kernel) rfl
theorem dX10_hasWonMost_17 : decode cX10_hasWonMost 17 = .ok (.if_icmp .eq 37, 3) := zrD zrw_cX10_hasWonMost_0 (i := 17) (by decide +kernel) rfl
theorem dX10_hasWonMost_20 : decode cX10_hasWonMost 20 = .ok (.aload_n 0, 1) := zrD zrw_cX10_hasWonMost_0 (i := 20) (by decide +kernel) rfl
theorem dX10_hasWonMost_21 : decode cX10_hasWonMost 21 = .ok (.getfield 34, 3) := zrD zrw_cX10_hasWonMost_0 (i := 21) (by decide +kernel) rfl
theorem dX10_hasWonMost_24 : decode cX10_hasWonMost 24 = .ok (.iload_n 3, 1) := zrD zrw_cX10_hasWonMost_0 (i := 24) (by decide +kernel) rfl
theorem dX10_hasWonMost_25 : decode cX10_hasWonMost 25 = .ok (.invokevirtual 146, 3) := zrD zrw_cX10_hasWonMost_0 (i := 25) (by decide +kernel) rfl
theorem dX10_hasWonMost_28 : decode cX10_hasWonMost 28 = .ok (.ifCond .eq 26, 3) := zrD zrw_cX10_hasWonMost_0 (i := 28) (by decide +kernel) rfl
theorem dX10_hasWonMost_31 : decode cX10_hasWonMost 31 = .ok (.aload_n 0, 1) := zrD zrw_cX10_hasWonMost_0 (i := 31) (by decide +kernel) rfl
def zrk_cX10_hasWonMost_32 : ByteArray := .mk #[180, 0, 56, 180, 0, 149, 29, 46, 42, 180, 0, 56, 180, 0, 149, 27, 46, 161, 0, 5, 3, 61, 132, 3, 1, 167, 255, 203, 28, 172]
theorem zrw_cX10_hasWonMost_32 : zrW 32 cX10_hasWonMost zrk_cX10_hasWonMost_32 := by unfold zrW; decide +kernel
theorem dX10_hasWonMost_32 : decode cX10_hasWonMost 32 = .ok (.getfield 56, 3) := zrD zrw_cX10_hasWonMost_32 (i := 0) (by decide +kernel) rfl
theorem dX10_hasWonMost_35 : decode cX10_hasWonMost 35 = .ok (.getfield 149, 3) := zrD zrw_cX10_hasWonMost_32 (i := 3) (by decide +kernel) rfl
theorem dX10_hasWonMost_38 : decode cX10_hasWonMost 38 = .ok (.iload_n 3, 1) := zrD zrw_cX10_hasWonMost_32 (i := 6) (by decide +kernel) rfl
theorem dX10_hasWonMost_39 : decode cX10_hasWonMost 39 = .ok (.iaload, 1) := zrD zrw_cX10_hasWonMost_32 (i := 7) (by decide +kernel) rfl
theorem dX10_hasWonMost_40 : decode cX10_hasWonMost 40 = .ok (.aload_n 0, 1) := zrD zrw_cX10_hasWonMost_32 (i := 8) (by decide +kernel) rfl
theorem dX10_hasWonMost_41 : decode cX10_hasWonMost 41 = .ok (.getfield 56, 3) := zrD zrw_cX10_hasWonMost_32 (i := 9) (by decide +kernel) rfl
theorem dX10_hasWonMost_44 : decode cX10_hasWonMost 44 = .ok (.getfield 149, 3) := zrD zrw_cX10_hasWonMost_32 (i := 12) (by decide +kernel) rfl
theorem dX10_hasWonMost_47 : decode cX10_hasWonMost 47 = .ok (.iload_n 1, 1) := zrD zrw_cX10_hasWonMost_32 (i := 15) (by decide +kernel) rfl
theorem dX10_hasWonMost_48 : decode cX10_hasWonMost 48 = .ok (.iaload, 1) := zrD zrw_cX10_hasWonMost_32 (i := 16) (by decide +kernel) rfl
theorem dX10_hasWonMost_49 : decode cX10_hasWonMost 49 = .ok (.if_icmp .lt 5, 3) := zrD zrw_cX10_hasWonMost_32 (i := 17) (by decide +kernel) rfl
theorem dX10_hasWonMost_52 : decode cX10_hasWonMost 52 = .ok (.iconst 0, 1) := zrD zrw_cX10_hasWonMost_32 (i := 20) (by decide +kernel) rfl
theorem dX10_hasWonMost_53 : decode cX10_hasWonMost 53 = .ok (.istore_n 2, 1) := zrD zrw_cX10_hasWonMost_32 (i := 21) (by decide +kernel) rfl
theorem dX10_hasWonMost_54 : decode cX10_hasWonMost 54 = .ok (.iinc 3 1, 3) := zrD zrw_cX10_hasWonMost_32 (i := 22) (by decide +kernel) rfl
theorem dX10_hasWonMost_57 : decode cX10_hasWonMost 57 = .ok (.goto (-53), 3) := zrD zrw_cX10_hasWonMost_32 (i := 25) (by decide +kernel) rfl
theorem dX10_hasWonMost_60 : decode cX10_hasWonMost 60 = .ok (.iload_n 2, 1) := zrD zrw_cX10_hasWonMost_32 (i := 28) (by decide +kernel) rfl
theorem dX10_hasWonMost_61 : decode cX10_hasWonMost 61 = .ok (.ireturn, 1) := zrD zrw_cX10_hasWonMost_32 (i := 29) (by decide +kernel) rfl
def zrk_cX10_depth_0 : ByteArray := .mk #[42, 182, 0, 113, 42, 180, 0, 34, 182, 1, 61, 172]
theorem zrw_cX10_depth_0 : zrW 0 cX10_depth zrk_cX10_depth_0 := by unfold zrW; decide +kernel
theorem dX10_depth_0 : decode cX10_depth 0 = .ok (.aload_n 0, 1) := zrD zrw_cX10_depth_0 (i := 0) (by decide +kernel) rfl
theorem dX10_depth_1 : decode cX10_depth 1 = .ok (.invokevirtual 113, 3) := zrD zrw_cX10_depth_0 (i := 1) (by decide +kernel) rfl
theorem dX10_depth_4 : decode cX10_depth 4 = .ok (.aload_n 0, 1) := zrD zrw_cX10_depth_0 (i := 4) (by decide +kernel) rfl
theorem dX10_depth_5 : decode cX10_depth 5 = .ok (.getfield 34, 3) := zrD zrw_cX10_depth_0 (i := 5) (by decide +kernel) rfl
theorem dX10_depth_8 : decode cX10_depth 8 = .ok (.invokevirtual 317, 3) := zrD zrw_cX10_depth_0 (i := 8) (by decide +kernel) rfl
theorem dX10_depth_11 : decode cX10_depth 11 = .ok (.ireturn, 1) := zrD zrw_cX10_depth_0 (i := 11) (by decide +kernel) rfl
def zrk_cX10_order_0 : ByteArray := .mk #[42, 27, 182, 0, 109, 154, 0, 5, 2, 172, 42, 182, 0, 113, 42, 180, 0, 34, 42, 180, 0, 52, 27, 182, 1, 64, 172]
theorem zrw_cX10_order_0 : zrW 0 cX10_order zrk_cX10_order_0 := by unfold zrW; decide +kernel
theorem dX10_order_0 : decode cX10_order 0 = .ok (.aload_n 0, 1) := zrD zrw_cX10_order_0 (i := 0) (by decide +kernel) rfl
theorem dX10_order_1 : decode cX10_order 1 = .ok (.iload_n 1, 1) := zrD zrw_cX10_order_0 (i := 1) (by decide +kernel) rfl
theorem dX10_order_2 : decode cX10_order 2 = .ok (.invokevirtual 109, 3) := zrD zrw_cX10_order_0 (i := 2) (by decide +kernel) rfl
theorem dX10_order_5 : decode cX10_order 5 = .ok (.ifCond .ne 5, 3) := zrD zrw_cX10_order_0 (i := 5) (by decide +kernel) rfl
theorem dX10_order_8 : decode cX10_order 8 = .ok (.iconst (-1), 1) := zrD zrw_cX10_order_0 (i := 8) (by decide +kernel) rfl
theorem dX10_order_9 : decode cX10_order 9 = .ok (.ireturn, 1) := zrD zrw_cX10_order_0 (i := 9) (by decide +kernel) rfl
theorem dX10_order_10 : decode cX10_order 10 = .ok (.aload_n 0, 1) := zrD zrw_cX10_order_0 (i := 10) (by decide +kernel) rfl
theorem dX10_order_11 : decode cX10_order 11 = .ok (.invokevirtual 113, 3) := zrD zrw_cX10_order_0 (i := 11) (by decide +kernel) rfl
theorem dX10_order_14 : decode cX10_order 14 = .ok (.aload_n 0, 1) := zrD zrw_cX10_order_0 (i := 14) (by decide +kernel) rfl
theorem dX10_order_15 : decode cX10_order 15 = .ok (.getfield 34, 3) := zrD zrw_cX10_order_0 (i := 15) (by decide +kernel) rfl
theorem dX10_order_18 : decode cX10_order 18 = .ok (.aload_n 0, 1) := zrD zrw_cX10_order_0 (i := 18) (by decide +kernel) rfl
theorem dX10_order_19 : decode cX10_order 19 = .ok (.getfield 52, 3) := zrD zrw_cX10_order_0 (i := 19) (by decide +kernel) rfl
theorem dX10_order_22 : decode cX10_order 22 = .ok (.iload_n 1, 1) := zrD zrw_cX10_order_0 (i := 22) (by decide +kernel) rfl
theorem dX10_order_23 : decode cX10_order 23 = .ok (.invokevirtual 320, 3) := zrD zrw_cX10_order_0 (i := 23) (by decide +kernel) rfl
theorem dX10_order_26 : decode cX10_order 26 = .ok (.ireturn, 1) := zrD zrw_cX10_order_0 (i := 26) (by decide +kernel) rfl
def zrk_cX10_basin_0 : ByteArray := .mk #[42, 27, 182, 0, 109, 153, 0, 12, 28, 3, 4, 184, 0, 229, 154, 0, 5, 2, 172, 42, 182, 0, 113, 42, 180, 0, 34, 27, 182, 1, 68, 62]
theorem zrw_cX10_basin_0 : zrW 0 cX10_basin zrk_cX10_basin_0 := by unfold zrW; decide +kernel
theorem dX10_basin_0 : decode cX10_basin 0 = .ok (.aload_n 0, 1) := zrD zrw_cX10_basin_0 (i := 0) (by decide +kernel) rfl
theorem dX10_basin_1 : decode cX10_basin 1 = .ok (.iload_n 1, 1) := zrD zrw_cX10_basin_0 (i := 1) (by decide +kernel) rfl
theorem dX10_basin_2 : decode cX10_basin 2 = .ok (.invokevirtual 109, 3) := zrD zrw_cX10_basin_0 (i := 2) (by decide +kernel) rfl
theorem dX10_basin_5 : decode cX10_basin 5 = .ok (.ifCond .eq 12, 3) := zrD zrw_cX10_basin_0 (i := 5) (by decide +kernel) rfl
theorem dX10_basin_8 : decode cX10_basin 8 = .ok (.iload_n 2, 1) := zrD zrw_cX10_basin_0 (i := 8) (by decide +kernel) rfl
theorem dX10_basin_9 : decode cX10_basin 9 = .ok (.iconst 0, 1) := zrD zrw_cX10_basin_0 (i := 9) (by decide +kernel) rfl
theorem dX10_basin_10 : decode cX10_basin 10 = .ok (.iconst 1, 1) := zrD zrw_cX10_basin_0 (i := 10) (by decide +kernel) rfl
theorem dX10_basin_11 : decode cX10_basin 11 = .ok (.invokestatic 229, 3) := zrD zrw_cX10_basin_0 (i := 11) (by decide +kernel) rfl
theorem dX10_basin_14 : decode cX10_basin 14 = .ok (.ifCond .ne 5, 3) := zrD zrw_cX10_basin_0 (i := 14) (by decide +kernel) rfl
theorem dX10_basin_17 : decode cX10_basin 17 = .ok (.iconst (-1), 1) := zrD zrw_cX10_basin_0 (i := 17) (by decide +kernel) rfl
theorem dX10_basin_18 : decode cX10_basin 18 = .ok (.ireturn, 1) := zrD zrw_cX10_basin_0 (i := 18) (by decide +kernel) rfl
theorem dX10_basin_19 : decode cX10_basin 19 = .ok (.aload_n 0, 1) := zrD zrw_cX10_basin_0 (i := 19) (by decide +kernel) rfl
theorem dX10_basin_20 : decode cX10_basin 20 = .ok (.invokevirtual 113, 3) := zrD zrw_cX10_basin_0 (i := 20) (by decide +kernel) rfl
theorem dX10_basin_23 : decode cX10_basin 23 = .ok (.aload_n 0, 1) := zrD zrw_cX10_basin_0 (i := 23) (by decide +kernel) rfl
theorem dX10_basin_24 : decode cX10_basin 24 = .ok (.getfield 34, 3) := zrD zrw_cX10_basin_0 (i := 24) (by decide +kernel) rfl
theorem dX10_basin_27 : decode cX10_basin 27 = .ok (.iload_n 1, 1) := zrD zrw_cX10_basin_0 (i := 27) (by decide +kernel) rfl
theorem dX10_basin_28 : decode cX10_basin 28 = .ok (.invokevirtual 324, 3) := zrD zrw_cX10_basin_0 (i := 28) (by decide +kernel) rfl
theorem dX10_basin_31 : decode cX10_basin 31 = .ok (.istore_n 3, 1) := zrD zrw_cX10_basin_0 (i := 31) (by decide +kernel) rfl
def zrk_cX10_basin_32 : ByteArray := .mk #[28, 154, 0, 7, 29, 167, 0, 11, 42, 180, 0, 26, 29, 182, 1, 71, 172]
theorem zrw_cX10_basin_32 : zrW 32 cX10_basin zrk_cX10_basin_32 := by unfold zrW; decide +kernel
theorem dX10_basin_32 : decode cX10_basin 32 = .ok (.iload_n 2, 1) := zrD zrw_cX10_basin_32 (i := 0) (by decide +kernel) rfl
theorem dX10_basin_33 : decode cX10_basin 33 = .ok (.ifCond .ne 7, 3) := zrD zrw_cX10_basin_32 (i := 1) (by decide +kernel) rfl
theorem dX10_basin_36 : decode cX10_basin 36 = .ok (.iload_n 3, 1) := zrD zrw_cX10_basin_32 (i := 4) (by decide +kernel) rfl
theorem dX10_basin_37 : decode cX10_basin 37 = .ok (.goto 11, 3) := zrD zrw_cX10_basin_32 (i := 5) (by decide +kernel) rfl
theorem dX10_basin_40 : decode cX10_basin 40 = .ok (.aload_n 0, 1) := zrD zrw_cX10_basin_32 (i := 8) (by decide +kernel) rfl
theorem dX10_basin_41 : decode cX10_basin 41 = .ok (.getfield 26, 3) := zrD zrw_cX10_basin_32 (i := 9) (by decide +kernel) rfl
theorem dX10_basin_44 : decode cX10_basin 44 = .ok (.iload_n 3, 1) := zrD zrw_cX10_basin_32 (i := 12) (by decide +kernel) rfl
theorem dX10_basin_45 : decode cX10_basin 45 = .ok (.invokevirtual 327, 3) := zrD zrw_cX10_basin_32 (i := 13) (by decide +kernel) rfl
theorem dX10_basin_48 : decode cX10_basin 48 = .ok (.ireturn, 1) := zrD zrw_cX10_basin_32 (i := 16) (by decide +kernel) rfl
def zrk_cX10_tour_0 : ByteArray := .mk #[42, 182, 0, 113, 42, 180, 0, 34, 42, 180, 0, 34, 182, 0, 188, 182, 1, 74, 172]
theorem zrw_cX10_tour_0 : zrW 0 cX10_tour zrk_cX10_tour_0 := by unfold zrW; decide +kernel
theorem dX10_tour_0 : decode cX10_tour 0 = .ok (.aload_n 0, 1) := zrD zrw_cX10_tour_0 (i := 0) (by decide +kernel) rfl
theorem dX10_tour_1 : decode cX10_tour 1 = .ok (.invokevirtual 113, 3) := zrD zrw_cX10_tour_0 (i := 1) (by decide +kernel) rfl
theorem dX10_tour_4 : decode cX10_tour 4 = .ok (.aload_n 0, 1) := zrD zrw_cX10_tour_0 (i := 4) (by decide +kernel) rfl
theorem dX10_tour_5 : decode cX10_tour 5 = .ok (.getfield 34, 3) := zrD zrw_cX10_tour_0 (i := 5) (by decide +kernel) rfl
theorem dX10_tour_8 : decode cX10_tour 8 = .ok (.aload_n 0, 1) := zrD zrw_cX10_tour_0 (i := 8) (by decide +kernel) rfl
theorem dX10_tour_9 : decode cX10_tour 9 = .ok (.getfield 34, 3) := zrD zrw_cX10_tour_0 (i := 9) (by decide +kernel) rfl
theorem dX10_tour_12 : decode cX10_tour 12 = .ok (.invokevirtual 188, 3) := zrD zrw_cX10_tour_0 (i := 12) (by decide +kernel) rfl
theorem dX10_tour_15 : decode cX10_tour 15 = .ok (.invokevirtual 330, 3) := zrD zrw_cX10_tour_0 (i := 15) (by decide +kernel) rfl
theorem dX10_tour_18 : decode cX10_tour 18 = .ok (.ireturn, 1) := zrD zrw_cX10_tour_0 (i := 18) (by decide +kernel) rfl
def zrk_cX10_parted_0 : ByteArray := .mk #[42, 182, 0, 113, 42, 180, 0, 34, 182, 0, 188, 60, 42, 180, 0, 34, 27, 182, 1, 74, 61, 3, 62, 29, 27, 162, 0, 44, 29, 27, 126, 29]
theorem zrw_cX10_parted_0 : zrW 0 cX10_parted zrk_cX10_parted_0 := by unfold zrW; decide +kernel
theorem dX10_parted_0 : decode cX10_parted 0 = .ok (.aload_n 0, 1) := zrD zrw_cX10_parted_0 (i := 0) (by decide +kernel) rfl
theorem dX10_parted_1 : decode cX10_parted 1 = .ok (.invokevirtual 113, 3) := zrD zrw_cX10_parted_0 (i := 1) (by decide +kernel) rfl
theorem dX10_parted_4 : decode cX10_parted 4 = .ok (.aload_n 0, 1) := zrD zrw_cX10_parted_0 (i := 4) (by decide +kernel) rfl
theorem dX10_parted_5 : decode cX10_parted 5 = .ok (.getfield 34, 3) := zrD zrw_cX10_parted_0 (i := 5) (by decide +kernel) rfl
theorem dX10_parted_8 : decode cX10_parted 8 = .ok (.invokevirtual 188, 3) := zrD zrw_cX10_parted_0 (i := 8) (by decide +kernel) rfl
theorem dX10_parted_11 : decode cX10_parted 11 = .ok (.istore_n 1, 1) := zrD zrw_cX10_parted_0 (i := 11) (by decide +kernel) rfl
theorem dX10_parted_12 : decode cX10_parted 12 = .ok (.aload_n 0, 1) := zrD zrw_cX10_parted_0 (i := 12) (by decide +kernel) rfl
theorem dX10_parted_13 : decode cX10_parted 13 = .ok (.getfield 34, 3) := zrD zrw_cX10_parted_0 (i := 13) (by decide +kernel) rfl
theorem dX10_parted_16 : decode cX10_parted 16 = .ok (.iload_n 1, 1) := zrD zrw_cX10_parted_0 (i := 16) (by decide +kernel) rfl
theorem dX10_parted_17 : decode cX10_parted 17 = .ok (.invokevirtual 330, 3) := zrD zrw_cX10_parted_0 (i := 17) (by decide +kernel) rfl
theorem dX10_parted_20 : decode cX10_parted 20 = .ok (.istore_n 2, 1) := zrD zrw_cX10_parted_0 (i := 20) (by decide +kernel) rfl
theorem dX10_parted_21 : decode cX10_parted 21 = .ok (.iconst 0, 1) := zrD zrw_cX10_parted_0 (i := 21) (by decide +kernel) rfl
theorem dX10_parted_22 : decode cX10_parted 22 = .ok (.istore_n 3, 1) := zrD zrw_cX10_parted_0 (i := 22) (by decide +kernel) rfl
theorem dX10_parted_23 : decode cX10_parted 23 = .ok (.iload_n 3, 1) := zrD zrw_cX10_parted_0 (i := 23) (by decide +kernel) rfl
theorem dX10_parted_24 : decode cX10_parted 24 = .ok (.iload_n 1, 1) := zrD zrw_cX10_parted_0 (i := 24) (by decide +kernel) rfl
theorem dX10_parted_25 : decode cX10_parted 25 = .ok (.if_icmp .ge 44, 3) := zrD zrw_cX10_parted_0 (i := 25) (by decide +kernel) rfl
theorem dX10_parted_28 : decode cX10_parted 28 = .ok (.iload_n 3, 1) := zrD zrw_cX10_parted_0 (i := 28) (by decide +kernel) rfl
theorem dX10_parted_29 : decode cX10_parted 29 = .ok (.iload_n 1, 1) := zrD zrw_cX10_parted_0 (i := 29) (by decide +kernel) rfl
theorem dX10_parted_30 : decode cX10_parted 30 = .ok (.iand, 1) := zrD zrw_cX10_parted_0 (i := 30) (by decide +kernel) rfl
theorem dX10_parted_31 : decode cX10_parted 31 = .ok (.iload_n 3, 1) := zrD zrw_cX10_parted_0 (i := 31) (by decide +kernel) rfl
def zrk_cX10_parted_32 : ByteArray := .mk #[160, 0, 31, 28, 42, 180, 0, 34, 29, 182, 1, 74, 42, 180, 0, 34, 27, 29, 2, 130, 126, 182, 1, 74, 184, 1, 77, 184, 1, 6, 61]
theorem zrw_cX10_parted_32 : zrW 32 cX10_parted zrk_cX10_parted_32 := by unfold zrW; decide +kernel
theorem dX10_parted_32 : decode cX10_parted 32 = .ok (.if_icmp .ne 31, 3) := zrD zrw_cX10_parted_32 (i := 0) (by decide +kernel) rfl
theorem dX10_parted_35 : decode cX10_parted 35 = .ok (.iload_n 2, 1) := zrD zrw_cX10_parted_32 (i := 3) (by decide +kernel) rfl
theorem dX10_parted_36 : decode cX10_parted 36 = .ok (.aload_n 0, 1) := zrD zrw_cX10_parted_32 (i := 4) (by decide +kernel) rfl
theorem dX10_parted_37 : decode cX10_parted 37 = .ok (.getfield 34, 3) := zrD zrw_cX10_parted_32 (i := 5) (by decide +kernel) rfl
theorem dX10_parted_40 : decode cX10_parted 40 = .ok (.iload_n 3, 1) := zrD zrw_cX10_parted_32 (i := 8) (by decide +kernel) rfl
theorem dX10_parted_41 : decode cX10_parted 41 = .ok (.invokevirtual 330, 3) := zrD zrw_cX10_parted_32 (i := 9) (by decide +kernel) rfl
theorem dX10_parted_44 : decode cX10_parted 44 = .ok (.aload_n 0, 1) := zrD zrw_cX10_parted_32 (i := 12) (by decide +kernel) rfl
theorem dX10_parted_45 : decode cX10_parted 45 = .ok (.getfield 34, 3) := zrD zrw_cX10_parted_32 (i := 13) (by decide +kernel) rfl
theorem dX10_parted_48 : decode cX10_parted 48 = .ok (.iload_n 1, 1) := zrD zrw_cX10_parted_32 (i := 16) (by decide +kernel) rfl
theorem dX10_parted_49 : decode cX10_parted 49 = .ok (.iload_n 3, 1) := zrD zrw_cX10_parted_32 (i := 17) (by decide +kernel) rfl
theorem dX10_parted_50 : decode cX10_parted 50 = .ok (.iconst (-1), 1) := zrD zrw_cX10_parted_32 (i := 18) (by decide +kernel) rfl
theorem dX10_parted_51 : decode cX10_parted 51 = .ok (.ixor, 1) := zrD zrw_cX10_parted_32 (i := 19) (by decide +kernel) rfl
theorem dX10_parted_52 : decode cX10_parted 52 = .ok (.iand, 1) := zrD zrw_cX10_parted_32 (i := 20) (by decide +kernel) rfl
theorem dX10_parted_53 : decode cX10_parted 53 = .ok (.invokevirtual 330, 3) := zrD zrw_cX10_parted_32 (i := 21) (by decide +kernel) rfl
theorem dX10_parted_56 : decode cX10_parted 56 = .ok (.invokestatic 333, 3) := zrD zrw_cX10_parted_32 (i := 24) (by decide +kernel) rfl
theorem dX10_parted_59 : decode cX10_parted 59 = .ok (.invokestatic 262, 3) := zrD zrw_cX10_parted_32 (i := 27) (by decide +kernel) rfl
theorem dX10_parted_62 : decode cX10_parted 62 = .ok (.istore_n 2, 1) := zrD zrw_cX10_parted_32 (i := 30) (by decide +kernel) rfl
def zrk_cX10_parted_63 : ByteArray := .mk #[132, 3, 1, 167, 255, 213, 28, 172]
theorem zrw_cX10_parted_63 : zrW 63 cX10_parted zrk_cX10_parted_63 := by unfold zrW; decide +kernel
theorem dX10_parted_63 : decode cX10_parted 63 = .ok (.iinc 3 1, 3) := zrD zrw_cX10_parted_63 (i := 0) (by decide +kernel) rfl
theorem dX10_parted_66 : decode cX10_parted 66 = .ok (.goto (-43), 3) := zrD zrw_cX10_parted_63 (i := 3) (by decide +kernel) rfl
theorem dX10_parted_69 : decode cX10_parted 69 = .ok (.iload_n 2, 1) := zrD zrw_cX10_parted_63 (i := 6) (by decide +kernel) rfl
theorem dX10_parted_70 : decode cX10_parted 70 = .ok (.ireturn, 1) := zrD zrw_cX10_parted_63 (i := 7) (by decide +kernel) rfl
def zrk_cX10_meet_0 : ByteArray := .mk #[42, 27, 182, 0, 109, 153, 0, 20, 42, 28, 182, 0, 109, 153, 0, 12, 29, 3, 4, 184, 0, 229, 154, 0, 5, 2, 172, 42, 182, 0, 113, 42]
theorem zrw_cX10_meet_0 : zrW 0 cX10_meet zrk_cX10_meet_0 := by unfold zrW; decide +kernel
theorem dX10_meet_0 : decode cX10_meet 0 = .ok (.aload_n 0, 1) := zrD zrw_cX10_meet_0 (i := 0) (by decide +kernel) rfl
theorem dX10_meet_1 : decode cX10_meet 1 = .ok (.iload_n 1, 1) := zrD zrw_cX10_meet_0 (i := 1) (by decide +kernel) rfl
theorem dX10_meet_2 : decode cX10_meet 2 = .ok (.invokevirtual 109, 3) := zrD zrw_cX10_meet_0 (i := 2) (by decide +kernel) rfl
theorem dX10_meet_5 : decode cX10_meet 5 = .ok (.ifCond .eq 20, 3) := zrD zrw_cX10_meet_0 (i := 5) (by decide +kernel) rfl
theorem dX10_meet_8 : decode cX10_meet 8 = .ok (.aload_n 0, 1) := zrD zrw_cX10_meet_0 (i := 8) (by decide +kernel) rfl
theorem dX10_meet_9 : decode cX10_meet 9 = .ok (.iload_n 2, 1) := zrD zrw_cX10_meet_0 (i := 9) (by decide +kernel) rfl
theorem dX10_meet_10 : decode cX10_meet 10 = .ok (.invokevirtual 109, 3) := zrD zrw_cX10_meet_0 (i := 10) (by decide +kernel) rfl
theorem dX10_meet_13 : decode cX10_meet 13 = .ok (.ifCond .eq 12, 3) := zrD zrw_cX10_meet_0 (i := 13) (by decide +kernel) rfl
theorem dX10_meet_16 : decode cX10_meet 16 = .ok (.iload_n 3, 1) := zrD zrw_cX10_meet_0 (i := 16) (by decide +kernel) rfl
theorem dX10_meet_17 : decode cX10_meet 17 = .ok (.iconst 0, 1) := zrD zrw_cX10_meet_0 (i := 17) (by decide +kernel) rfl
theorem dX10_meet_18 : decode cX10_meet 18 = .ok (.iconst 1, 1) := zrD zrw_cX10_meet_0 (i := 18) (by decide +kernel) rfl
theorem dX10_meet_19 : decode cX10_meet 19 = .ok (.invokestatic 229, 3) := zrD zrw_cX10_meet_0 (i := 19) (by decide +kernel) rfl
theorem dX10_meet_22 : decode cX10_meet 22 = .ok (.ifCond .ne 5, 3) := zrD zrw_cX10_meet_0 (i := 22) (by decide +kernel) rfl
theorem dX10_meet_25 : decode cX10_meet 25 = .ok (.iconst (-1), 1) := zrD zrw_cX10_meet_0 (i := 25) (by decide +kernel) rfl
theorem dX10_meet_26 : decode cX10_meet 26 = .ok (.ireturn, 1) := zrD zrw_cX10_meet_0 (i := 26) (by decide +kernel) rfl
theorem dX10_meet_27 : decode cX10_meet 27 = .ok (.aload_n 0, 1) := zrD zrw_cX10_meet_0 (i := 27) (by decide +kernel) rfl
theorem dX10_meet_28 : decode cX10_meet 28 = .ok (.invokevirtual 113, 3) := zrD zrw_cX10_meet_0 (i := 28) (by decide +kernel) rfl
theorem dX10_meet_31 : decode cX10_meet 31 = .ok (.aload_n 0, 1) := zrD zrw_cX10_meet_0 (i := 31) (by decide +kernel) rfl
def zrk_cX10_meet_32 : ByteArray := .mk #[180, 0, 34, 27, 28, 182, 1, 80, 54, 4, 29, 154, 0, 8, 21, 4, 167, 0, 35, 42, 180, 0, 34, 180, 0, 138, 27, 46, 42, 180, 0, 34]
theorem zrw_cX10_meet_32 : zrW 32 cX10_meet zrk_cX10_meet_32 := by unfold zrW; decide +kernel
theorem dX10_meet_32 : decode cX10_meet 32 = .ok (.getfield 34, 3) := zrD zrw_cX10_meet_32 (i := 0) (by decide +kernel) rfl
theorem dX10_meet_35 : decode cX10_meet 35 = .ok (.iload_n 1, 1) := zrD zrw_cX10_meet_32 (i := 3) (by decide +kernel) rfl
theorem dX10_meet_36 : decode cX10_meet 36 = .ok (.iload_n 2, 1) := zrD zrw_cX10_meet_32 (i := 4) (by decide +kernel) rfl
theorem dX10_meet_37 : decode cX10_meet 37 = .ok (.invokevirtual 336, 3) := zrD zrw_cX10_meet_32 (i := 5) (by decide +kernel) rfl
theorem dX10_meet_40 : decode cX10_meet 40 = .ok (.istore 4, 2) := zrD zrw_cX10_meet_32 (i := 8) (by decide +kernel) rfl
theorem dX10_meet_42 : decode cX10_meet 42 = .ok (.iload_n 3, 1) := zrD zrw_cX10_meet_32 (i := 10) (by decide +kernel) rfl
theorem dX10_meet_43 : decode cX10_meet 43 = .ok (.ifCond .ne 8, 3) := zrD zrw_cX10_meet_32 (i := 11) (by decide +kernel) rfl
theorem dX10_meet_46 : decode cX10_meet 46 = .ok (.iload 4, 2) := zrD zrw_cX10_meet_32 (i := 14) (by decide +kernel) rfl
theorem dX10_meet_48 : decode cX10_meet 48 = .ok (.goto 35, 3) := zrD zrw_cX10_meet_32 (i := 16) (by decide +kernel) rfl
theorem dX10_meet_51 : decode cX10_meet 51 = .ok (.aload_n 0, 1) := zrD zrw_cX10_meet_32 (i := 19) (by decide +kernel) rfl
theorem dX10_meet_52 : decode cX10_meet 52 = .ok (.getfield 34, 3) := zrD zrw_cX10_meet_32 (i := 20) (by decide +kernel) rfl
theorem dX10_meet_55 : decode cX10_meet 55 = .ok (.getfield 138, 3) := zrD zrw_cX10_meet_32 (i := 23) (by decide +kernel) rfl
theorem dX10_meet_58 : decode cX10_meet 58 = .ok (.iload_n 1, 1) := zrD zrw_cX10_meet_32 (i := 26) (by decide +kernel) rfl
theorem dX10_meet_59 : decode cX10_meet 59 = .ok (.iaload, 1) := zrD zrw_cX10_meet_32 (i := 27) (by decide +kernel) rfl
theorem dX10_meet_60 : decode cX10_meet 60 = .ok (.aload_n 0, 1) := zrD zrw_cX10_meet_32 (i := 28) (by decide +kernel) rfl
theorem dX10_meet_61 : decode cX10_meet 61 = .ok (.getfield 34, 3) := zrD zrw_cX10_meet_32 (i := 29) (by decide +kernel) rfl
def zrk_cX10_meet_64 : ByteArray := .mk #[180, 0, 138, 28, 46, 96, 5, 42, 180, 0, 34, 180, 0, 138, 21, 4, 46, 104, 100, 172]
theorem zrw_cX10_meet_64 : zrW 64 cX10_meet zrk_cX10_meet_64 := by unfold zrW; decide +kernel
theorem dX10_meet_64 : decode cX10_meet 64 = .ok (.getfield 138, 3) := zrD zrw_cX10_meet_64 (i := 0) (by decide +kernel) rfl
theorem dX10_meet_67 : decode cX10_meet 67 = .ok (.iload_n 2, 1) := zrD zrw_cX10_meet_64 (i := 3) (by decide +kernel) rfl
theorem dX10_meet_68 : decode cX10_meet 68 = .ok (.iaload, 1) := zrD zrw_cX10_meet_64 (i := 4) (by decide +kernel) rfl
theorem dX10_meet_69 : decode cX10_meet 69 = .ok (.iadd, 1) := zrD zrw_cX10_meet_64 (i := 5) (by decide +kernel) rfl
theorem dX10_meet_70 : decode cX10_meet 70 = .ok (.iconst 2, 1) := zrD zrw_cX10_meet_64 (i := 6) (by decide +kernel) rfl
theorem dX10_meet_71 : decode cX10_meet 71 = .ok (.aload_n 0, 1) := zrD zrw_cX10_meet_64 (i := 7) (by decide +kernel) rfl
theorem dX10_meet_72 : decode cX10_meet 72 = .ok (.getfield 34, 3) := zrD zrw_cX10_meet_64 (i := 8) (by decide +kernel) rfl
theorem dX10_meet_75 : decode cX10_meet 75 = .ok (.getfield 138, 3) := zrD zrw_cX10_meet_64 (i := 11) (by decide +kernel) rfl
theorem dX10_meet_78 : decode cX10_meet 78 = .ok (.iload 4, 2) := zrD zrw_cX10_meet_64 (i := 14) (by decide +kernel) rfl
theorem dX10_meet_80 : decode cX10_meet 80 = .ok (.iaload, 1) := zrD zrw_cX10_meet_64 (i := 16) (by decide +kernel) rfl
theorem dX10_meet_81 : decode cX10_meet 81 = .ok (.imul, 1) := zrD zrw_cX10_meet_64 (i := 17) (by decide +kernel) rfl
theorem dX10_meet_82 : decode cX10_meet 82 = .ok (.isub, 1) := zrD zrw_cX10_meet_64 (i := 18) (by decide +kernel) rfl
theorem dX10_meet_83 : decode cX10_meet 83 = .ok (.ireturn, 1) := zrD zrw_cX10_meet_64 (i := 19) (by decide +kernel) rfl
def zrk_cX10_tell_0 : ByteArray := .mk #[42, 27, 182, 0, 109, 153, 0, 25, 28, 3, 17, 39, 15, 184, 0, 229, 153, 0, 14, 29, 28, 17, 39, 15, 184, 0, 229, 154, 0, 5, 2, 172]
theorem zrw_cX10_tell_0 : zrW 0 cX10_tell zrk_cX10_tell_0 := by unfold zrW; decide +kernel
theorem dX10_tell_0 : decode cX10_tell 0 = .ok (.aload_n 0, 1) := zrD zrw_cX10_tell_0 (i := 0) (by decide +kernel) rfl
theorem dX10_tell_1 : decode cX10_tell 1 = .ok (.iload_n 1, 1) := zrD zrw_cX10_tell_0 (i := 1) (by decide +kernel) rfl
theorem dX10_tell_2 : decode cX10_tell 2 = .ok (.invokevirtual 109, 3) := zrD zrw_cX10_tell_0 (i := 2) (by decide +kernel) rfl
theorem dX10_tell_5 : decode cX10_tell 5 = .ok (.ifCond .eq 25, 3) := zrD zrw_cX10_tell_0 (i := 5) (by decide +kernel) rfl
theorem dX10_tell_8 : decode cX10_tell 8 = .ok (.iload_n 2, 1) := zrD zrw_cX10_tell_0 (i := 8) (by decide +kernel) rfl
theorem dX10_tell_9 : decode cX10_tell 9 = .ok (.iconst 0, 1) := zrD zrw_cX10_tell_0 (i := 9) (by decide +kernel) rfl
theorem dX10_tell_10 : decode cX10_tell 10 = .ok (.sipush 9999, 3) := zrD zrw_cX10_tell_0 (i := 10) (by decide +kernel) rfl
theorem dX10_tell_13 : decode cX10_tell 13 = .ok (.invokestatic 229, 3) := zrD zrw_cX10_tell_0 (i := 13) (by decide +kernel) rfl
theorem dX10_tell_16 : decode cX10_tell 16 = .ok (.ifCond .eq 14, 3) := zrD zrw_cX10_tell_0 (i := 16) (by decide +kernel) rfl
theorem dX10_tell_19 : decode cX10_tell 19 = .ok (.iload_n 3, 1) := zrD zrw_cX10_tell_0 (i := 19) (by decide +kernel) rfl
theorem dX10_tell_20 : decode cX10_tell 20 = .ok (.iload_n 2, 1) := zrD zrw_cX10_tell_0 (i := 20) (by decide +kernel) rfl
theorem dX10_tell_21 : decode cX10_tell 21 = .ok (.sipush 9999, 3) := zrD zrw_cX10_tell_0 (i := 21) (by decide +kernel) rfl
theorem dX10_tell_24 : decode cX10_tell 24 = .ok (.invokestatic 229, 3) := zrD zrw_cX10_tell_0 (i := 24) (by decide +kernel) rfl
theorem dX10_tell_27 : decode cX10_tell 27 = .ok (.ifCond .ne 5, 3) := zrD zrw_cX10_tell_0 (i := 27) (by decide +kernel) rfl
theorem dX10_tell_30 : decode cX10_tell 30 = .ok (.iconst (-1), 1) := zrD zrw_cX10_tell_0 (i := 30) (by decide +kernel) rfl
theorem dX10_tell_31 : decode cX10_tell 31 = .ok (.ireturn, 1) := zrD zrw_cX10_tell_0 (i := 31) (by decide +kernel) rfl
def zrk_cX10_tell_32 : ByteArray := .mk #[42, 180, 0, 45, 27, 28, 29, 21, 4, 182, 1, 83, 172]
theorem zrw_cX10_tell_32 : zrW 32 cX10_tell zrk_cX10_tell_32 := by unfold zrW; decide +kernel
theorem dX10_tell_32 : decode cX10_tell 32 = .ok (.aload_n 0, 1) := zrD zrw_cX10_tell_32 (i := 0) (by decide +kernel) rfl
theorem dX10_tell_33 : decode cX10_tell 33 = .ok (.getfield 45, 3) := zrD zrw_cX10_tell_32 (i := 1) (by decide +kernel) rfl
theorem dX10_tell_36 : decode cX10_tell 36 = .ok (.iload_n 1, 1) := zrD zrw_cX10_tell_32 (i := 4) (by decide +kernel) rfl
theorem dX10_tell_37 : decode cX10_tell 37 = .ok (.iload_n 2, 1) := zrD zrw_cX10_tell_32 (i := 5) (by decide +kernel) rfl
theorem dX10_tell_38 : decode cX10_tell 38 = .ok (.iload_n 3, 1) := zrD zrw_cX10_tell_32 (i := 6) (by decide +kernel) rfl
theorem dX10_tell_39 : decode cX10_tell 39 = .ok (.iload 4, 2) := zrD zrw_cX10_tell_32 (i := 7) (by decide +kernel) rfl
theorem dX10_tell_41 : decode cX10_tell 41 = .ok (.invokevirtual 339, 3) := zrD zrw_cX10_tell_32 (i := 9) (by decide +kernel) rfl
theorem dX10_tell_44 : decode cX10_tell 44 = .ok (.ireturn, 1) := zrD zrw_cX10_tell_32 (i := 12) (by decide +kernel) rfl
def zrk_cX10_forget_0 : ByteArray := .mk #[42, 180, 0, 45, 180, 0, 108, 60, 42, 180, 0, 45, 3, 181, 0, 108, 27, 172]
theorem zrw_cX10_forget_0 : zrW 0 cX10_forget zrk_cX10_forget_0 := by unfold zrW; decide +kernel
theorem dX10_forget_0 : decode cX10_forget 0 = .ok (.aload_n 0, 1) := zrD zrw_cX10_forget_0 (i := 0) (by decide +kernel) rfl
theorem dX10_forget_1 : decode cX10_forget 1 = .ok (.getfield 45, 3) := zrD zrw_cX10_forget_0 (i := 1) (by decide +kernel) rfl
theorem dX10_forget_4 : decode cX10_forget 4 = .ok (.getfield 108, 3) := zrD zrw_cX10_forget_0 (i := 4) (by decide +kernel) rfl
theorem dX10_forget_7 : decode cX10_forget 7 = .ok (.istore_n 1, 1) := zrD zrw_cX10_forget_0 (i := 7) (by decide +kernel) rfl
theorem dX10_forget_8 : decode cX10_forget 8 = .ok (.aload_n 0, 1) := zrD zrw_cX10_forget_0 (i := 8) (by decide +kernel) rfl
theorem dX10_forget_9 : decode cX10_forget 9 = .ok (.getfield 45, 3) := zrD zrw_cX10_forget_0 (i := 9) (by decide +kernel) rfl
theorem dX10_forget_12 : decode cX10_forget 12 = .ok (.iconst 0, 1) := zrD zrw_cX10_forget_0 (i := 12) (by decide +kernel) rfl
theorem dX10_forget_13 : decode cX10_forget 13 = .ok (.putfield 108, 3) := zrD zrw_cX10_forget_0 (i := 13) (by decide +kernel) rfl
theorem dX10_forget_16 : decode cX10_forget 16 = .ok (.iload_n 1, 1) := zrD zrw_cX10_forget_0 (i := 16) (by decide +kernel) rfl
theorem dX10_forget_17 : decode cX10_forget 17 = .ok (.ireturn, 1) := zrD zrw_cX10_forget_0 (i := 17) (by decide +kernel) rfl
def zrk_cX10_dyed_0 : ByteArray := .mk #[27, 3, 42, 180, 0, 45, 180, 0, 108, 184, 0, 229, 153, 0, 12, 28, 3, 4, 184, 0, 229, 154, 0, 5, 2, 172, 42, 182, 0, 113, 42]
theorem zrw_cX10_dyed_0 : zrW 0 cX10_dyed zrk_cX10_dyed_0 := by unfold zrW; decide +kernel
theorem dX10_dyed_0 : decode cX10_dyed 0 = .ok (.iload_n 1, 1) := zrD zrw_cX10_dyed_0 (i := 0) (by decide +kernel) rfl
theorem dX10_dyed_1 : decode cX10_dyed 1 = .ok (.iconst 0, 1) := zrD zrw_cX10_dyed_0 (i := 1) (by decide +kernel) rfl
theorem dX10_dyed_2 : decode cX10_dyed 2 = .ok (.aload_n 0, 1) := zrD zrw_cX10_dyed_0 (i := 2) (by decide +kernel) rfl
theorem dX10_dyed_3 : decode cX10_dyed 3 = .ok (.getfield 45, 3) := zrD zrw_cX10_dyed_0 (i := 3) (by decide +kernel) rfl
theorem dX10_dyed_6 : decode cX10_dyed 6 = .ok (.getfield 108, 3) := zrD zrw_cX10_dyed_0 (i := 6) (by decide +kernel) rfl
theorem dX10_dyed_9 : decode cX10_dyed 9 = .ok (.invokestatic 229, 3) := zrD zrw_cX10_dyed_0 (i := 9) (by decide +kernel) rfl
theorem dX10_dyed_12 : decode cX10_dyed 12 = .ok (.ifCond .eq 12, 3) := zrD zrw_cX10_dyed_0 (i := 12) (by decide +kernel) rfl
theorem dX10_dyed_15 : decode cX10_dyed 15 = .ok (.iload_n 2, 1) := zrD zrw_cX10_dyed_0 (i := 15) (by decide +kernel) rfl
theorem dX10_dyed_16 : decode cX10_dyed 16 = .ok (.iconst 0, 1) := zrD zrw_cX10_dyed_0 (i := 16) (by decide +kernel) rfl
theorem dX10_dyed_17 : decode cX10_dyed 17 = .ok (.iconst 1, 1) := zrD zrw_cX10_dyed_0 (i := 17) (by decide +kernel) rfl
theorem dX10_dyed_18 : decode cX10_dyed 18 = .ok (.invokestatic 229, 3) := zrD zrw_cX10_dyed_0 (i := 18) (by decide +kernel) rfl
theorem dX10_dyed_21 : decode cX10_dyed 21 = .ok (.ifCond .ne 5, 3) := zrD zrw_cX10_dyed_0 (i := 21) (by decide +kernel) rfl
theorem dX10_dyed_24 : decode cX10_dyed 24 = .ok (.iconst (-1), 1) := zrD zrw_cX10_dyed_0 (i := 24) (by decide +kernel) rfl
theorem dX10_dyed_25 : decode cX10_dyed 25 = .ok (.ireturn, 1) := zrD zrw_cX10_dyed_0 (i := 25) (by decide +kernel) rfl
theorem dX10_dyed_26 : decode cX10_dyed 26 = .ok (.aload_n 0, 1) := zrD zrw_cX10_dyed_0 (i := 26) (by decide +kernel) rfl
theorem dX10_dyed_27 : decode cX10_dyed 27 = .ok (.invokevirtual 113, 3) := zrD zrw_cX10_dyed_0 (i := 27) (by decide +kernel) rfl
theorem dX10_dyed_30 : decode cX10_dyed 30 = .ok (.aload_n 0, 1) := zrD zrw_cX10_dyed_0 (i := 30) (by decide +kernel) rfl
def zrk_cX10_dyed_31 : ByteArray := .mk #[180, 0, 45, 42, 180, 0, 34, 27, 182, 1, 87, 62, 28, 154, 0, 10, 29, 184, 0, 198, 167, 0, 4, 29, 172]
theorem zrw_cX10_dyed_31 : zrW 31 cX10_dyed zrk_cX10_dyed_31 := by unfold zrW; decide +kernel
theorem dX10_dyed_31 : decode cX10_dyed 31 = .ok (.getfield 45, 3) := zrD zrw_cX10_dyed_31 (i := 0) (by decide +kernel) rfl
theorem dX10_dyed_34 : decode cX10_dyed 34 = .ok (.aload_n 0, 1) := zrD zrw_cX10_dyed_31 (i := 3) (by decide +kernel) rfl
theorem dX10_dyed_35 : decode cX10_dyed 35 = .ok (.getfield 34, 3) := zrD zrw_cX10_dyed_31 (i := 4) (by decide +kernel) rfl
theorem dX10_dyed_38 : decode cX10_dyed 38 = .ok (.iload_n 1, 1) := zrD zrw_cX10_dyed_31 (i := 7) (by decide +kernel) rfl
theorem dX10_dyed_39 : decode cX10_dyed 39 = .ok (.invokevirtual 343, 3) := zrD zrw_cX10_dyed_31 (i := 8) (by decide +kernel) rfl
theorem dX10_dyed_42 : decode cX10_dyed 42 = .ok (.istore_n 3, 1) := zrD zrw_cX10_dyed_31 (i := 11) (by decide +kernel) rfl
theorem dX10_dyed_43 : decode cX10_dyed 43 = .ok (.iload_n 2, 1) := zrD zrw_cX10_dyed_31 (i := 12) (by decide +kernel) rfl
theorem dX10_dyed_44 : decode cX10_dyed 44 = .ok (.ifCond .ne 10, 3) := zrD zrw_cX10_dyed_31 (i := 13) (by decide +kernel) rfl
theorem dX10_dyed_47 : decode cX10_dyed 47 = .ok (.iload_n 3, 1) := zrD zrw_cX10_dyed_31 (i := 16) (by decide +kernel) rfl
theorem dX10_dyed_48 : decode cX10_dyed 48 = .ok (.invokestatic 198, 3) := zrD zrw_cX10_dyed_31 (i := 17) (by decide +kernel) rfl
theorem dX10_dyed_51 : decode cX10_dyed 51 = .ok (.goto 4, 3) := zrD zrw_cX10_dyed_31 (i := 20) (by decide +kernel) rfl
theorem dX10_dyed_54 : decode cX10_dyed 54 = .ok (.iload_n 3, 1) := zrD zrw_cX10_dyed_31 (i := 23) (by decide +kernel) rfl
theorem dX10_dyed_55 : decode cX10_dyed 55 = .ok (.ireturn, 1) := zrD zrw_cX10_dyed_31 (i := 24) (by decide +kernel) rfl
def zrk_cX10_watch_0 : ByteArray := .mk #[27, 3, 42, 180, 0, 45, 180, 0, 108, 184, 0, 229, 154, 0, 5, 2, 172, 42, 182, 0, 113, 42, 180, 0, 45, 42, 180, 0, 34, 27]
theorem zrw_cX10_watch_0 : zrW 0 cX10_watch zrk_cX10_watch_0 := by unfold zrW; decide +kernel
theorem dX10_watch_0 : decode cX10_watch 0 = .ok (.iload_n 1, 1) := zrD zrw_cX10_watch_0 (i := 0) (by decide +kernel) rfl
theorem dX10_watch_1 : decode cX10_watch 1 = .ok (.iconst 0, 1) := zrD zrw_cX10_watch_0 (i := 1) (by decide +kernel) rfl
theorem dX10_watch_2 : decode cX10_watch 2 = .ok (.aload_n 0, 1) := zrD zrw_cX10_watch_0 (i := 2) (by decide +kernel) rfl
theorem dX10_watch_3 : decode cX10_watch 3 = .ok (.getfield 45, 3) := zrD zrw_cX10_watch_0 (i := 3) (by decide +kernel) rfl
theorem dX10_watch_6 : decode cX10_watch 6 = .ok (.getfield 108, 3) := zrD zrw_cX10_watch_0 (i := 6) (by decide +kernel) rfl
theorem dX10_watch_9 : decode cX10_watch 9 = .ok (.invokestatic 229, 3) := zrD zrw_cX10_watch_0 (i := 9) (by decide +kernel) rfl
theorem dX10_watch_12 : decode cX10_watch 12 = .ok (.ifCond .ne 5, 3) := zrD zrw_cX10_watch_0 (i := 12) (by decide +kernel) rfl
theorem dX10_watch_15 : decode cX10_watch 15 = .ok (.iconst (-1), 1) := zrD zrw_cX10_watch_0 (i := 15) (by decide +kernel) rfl
theorem dX10_watch_16 : decode cX10_watch 16 = .ok (.ireturn, 1) := zrD zrw_cX10_watch_0 (i := 16) (by decide +kernel) rfl
theorem dX10_watch_17 : decode cX10_watch 17 = .ok (.aload_n 0, 1) := zrD zrw_cX10_watch_0 (i := 17) (by decide +kernel) rfl
theorem dX10_watch_18 : decode cX10_watch 18 = .ok (.invokevirtual 113, 3) := zrD zrw_cX10_watch_0 (i := 18) (by decide +kernel) rfl
theorem dX10_watch_21 : decode cX10_watch 21 = .ok (.aload_n 0, 1) := zrD zrw_cX10_watch_0 (i := 21) (by decide +kernel) rfl
theorem dX10_watch_22 : decode cX10_watch 22 = .ok (.getfield 45, 3) := zrD zrw_cX10_watch_0 (i := 22) (by decide +kernel) rfl
theorem dX10_watch_25 : decode cX10_watch 25 = .ok (.aload_n 0, 1) := zrD zrw_cX10_watch_0 (i := 25) (by decide +kernel) rfl
theorem dX10_watch_26 : decode cX10_watch 26 = .ok (.getfield 34, 3) := zrD zrw_cX10_watch_0 (i := 26) (by decide +kernel) rfl
theorem dX10_watch_29 : decode cX10_watch 29 = .ok (.iload_n 1, 1) := zrD zrw_cX10_watch_0 (i := 29) (by decide +kernel) rfl
def zrk_cX10_watch_30 : ByteArray := .mk #[182, 1, 87, 61, 28, 154, 0, 6, 16, 254, 172, 3, 62, 4, 54, 4, 21, 4, 42, 180, 0, 70, 180, 0, 175, 162, 0, 28, 42, 28, 21, 4]
theorem zrw_cX10_watch_30 : zrW 30 cX10_watch zrk_cX10_watch_30 := by unfold zrW; decide +kernel
theorem dX10_watch_30 : decode cX10_watch 30 = .ok (.invokevirtual 343, 3) := zrD zrw_cX10_watch_30 (i := 0) (by decide +kernel) rfl
theorem dX10_watch_33 : decode cX10_watch 33 = .ok (.istore_n 2, 1) := zrD zrw_cX10_watch_30 (i := 3) (by decide +kernel) rfl
theorem dX10_watch_34 : decode cX10_watch 34 = .ok (.iload_n 2, 1) := zrD zrw_cX10_watch_30 (i := 4) (by decide +kernel) rfl
theorem dX10_watch_35 : decode cX10_watch 35 = .ok (.ifCond .ne 6, 3) := zrD zrw_cX10_watch_30 (i := 5) (by decide +kernel) rfl
theorem dX10_watch_38 : decode cX10_watch 38 = .ok (.bipush (-2), 2) := zrD zrw_cX10_watch_30 (i := 8) (by decide +kernel) rfl
theorem dX10_watch_40 : decode cX10_watch 40 = .ok (.ireturn, 1) := zrD zrw_cX10_watch_30 (i := 10) (by decide +kernel) rfl
theorem dX10_watch_41 : decode cX10_watch 41 = .ok (.iconst 0, 1) := zrD zrw_cX10_watch_30 (i := 11) (by decide +kernel) rfl
theorem dX10_watch_42 : decode cX10_watch 42 = .ok (.istore_n 3, 1) := zrD zrw_cX10_watch_30 (i := 12) (by decide +kernel) rfl
theorem dX10_watch_43 : decode cX10_watch 43 = .ok (.iconst 1, 1) := zrD zrw_cX10_watch_30 (i := 13) (by decide +kernel) rfl
theorem dX10_watch_44 : decode cX10_watch 44 = .ok (.istore 4, 2) := zrD zrw_cX10_watch_30 (i := 14) (by decide +kernel) rfl
theorem dX10_watch_46 : decode cX10_watch 46 = .ok (.iload 4, 2) := zrD zrw_cX10_watch_30 (i := 16) (by decide +kernel) rfl
theorem dX10_watch_48 : decode cX10_watch 48 = .ok (.aload_n 0, 1) := zrD zrw_cX10_watch_30 (i := 18) (by decide +kernel) rfl
theorem dX10_watch_49 : decode cX10_watch 49 = .ok (.getfield 70, 3) := zrD zrw_cX10_watch_30 (i := 19) (by decide +kernel) rfl
theorem dX10_watch_52 : decode cX10_watch 52 = .ok (.getfield 175, 3) := zrD zrw_cX10_watch_30 (i := 22) (by decide +kernel) rfl
theorem dX10_watch_55 : decode cX10_watch 55 = .ok (.if_icmp .ge 28, 3) := zrD zrw_cX10_watch_30 (i := 25) (by decide +kernel) rfl
theorem dX10_watch_58 : decode cX10_watch 58 = .ok (.aload_n 0, 1) := zrD zrw_cX10_watch_30 (i := 28) (by decide +kernel) rfl
theorem dX10_watch_59 : decode cX10_watch 59 = .ok (.iload_n 2, 1) := zrD zrw_cX10_watch_30 (i := 29) (by decide +kernel) rfl
theorem dX10_watch_60 : decode cX10_watch 60 = .ok (.iload 4, 2) := zrD zrw_cX10_watch_30 (i := 30) (by decide +kernel) rfl
def zrk_cX10_watch_62 : ByteArray := .mk #[182, 1, 91, 42, 28, 29, 182, 1, 91, 162, 0, 6, 21, 4, 62, 132, 4, 1, 167, 255, 222, 29, 172]
theorem zrw_cX10_watch_62 : zrW 62 cX10_watch zrk_cX10_watch_62 := by unfold zrW; decide +kernel
theorem dX10_watch_62 : decode cX10_watch 62 = .ok (.invokevirtual 347, 3) := zrD zrw_cX10_watch_62 (i := 0) (by decide +kernel) rfl
theorem dX10_watch_65 : decode cX10_watch 65 = .ok (.aload_n 0, 1) := zrD zrw_cX10_watch_62 (i := 3) (by decide +kernel) rfl
theorem dX10_watch_66 : decode cX10_watch 66 = .ok (.iload_n 2, 1) := zrD zrw_cX10_watch_62 (i := 4) (by decide +kernel) rfl
theorem dX10_watch_67 : decode cX10_watch 67 = .ok (.iload_n 3, 1) := zrD zrw_cX10_watch_62 (i := 5) (by decide +kernel) rfl
theorem dX10_watch_68 : decode cX10_watch 68 = .ok (.invokevirtual 347, 3) := zrD zrw_cX10_watch_62 (i := 6) (by decide +kernel) rfl
theorem dX10_watch_71 : decode cX10_watch 71 = .ok (.if_icmp .ge 6, 3) := zrD zrw_cX10_watch_62 (i := 9) (by decide +kernel) rfl
theorem dX10_watch_74 : decode cX10_watch 74 = .ok (.iload 4, 2) := zrD zrw_cX10_watch_62 (i := 12) (by decide +kernel) rfl
theorem dX10_watch_76 : decode cX10_watch 76 = .ok (.istore_n 3, 1) := zrD zrw_cX10_watch_62 (i := 14) (by decide +kernel) rfl
theorem dX10_watch_77 : decode cX10_watch 77 = .ok (.iinc 4 1, 3) := zrD zrw_cX10_watch_62 (i := 15) (by decide +kernel) rfl
theorem dX10_watch_80 : decode cX10_watch 80 = .ok (.goto (-34), 3) := zrD zrw_cX10_watch_62 (i := 18) (by decide +kernel) rfl
theorem dX10_watch_83 : decode cX10_watch 83 = .ok (.iload_n 3, 1) := zrD zrw_cX10_watch_62 (i := 21) (by decide +kernel) rfl
theorem dX10_watch_84 : decode cX10_watch 84 = .ok (.ireturn, 1) := zrD zrw_cX10_watch_62 (i := 22) (by decide +kernel) rfl
def zrk_cX10_leftAtWorst_0 : ByteArray := .mk #[27, 42, 180, 0, 34, 28, 182, 1, 68, 126, 62, 29, 184, 0, 198, 27, 29, 2, 130, 126, 184, 0, 198, 184, 1, 77, 172]
theorem zrw_cX10_leftAtWorst_0 : zrW 0 cX10_leftAtWorst zrk_cX10_leftAtWorst_0 := by unfold zrW; decide +kernel
theorem dX10_leftAtWorst_0 : decode cX10_leftAtWorst 0 = .ok (.iload_n 1, 1) := zrD zrw_cX10_leftAtWorst_0 (i := 0) (by decide +kernel) rfl
theorem dX10_leftAtWorst_1 : decode cX10_leftAtWorst 1 = .ok (.aload_n 0, 1) := zrD zrw_cX10_leftAtWorst_0 (i := 1) (by decide +kernel) rfl
theorem dX10_leftAtWorst_2 : decode cX10_leftAtWorst 2 = .ok (.getfield 34, 3) := zrD zrw_cX10_leftAtWorst_0 (i := 2) (by decide +kernel) rfl
theorem dX10_leftAtWorst_5 : decode cX10_leftAtWorst 5 = .ok (.iload_n 2, 1) := zrD zrw_cX10_leftAtWorst_0 (i := 5) (by decide +kernel) rfl
theorem dX10_leftAtWorst_6 : decode cX10_leftAtWorst 6 = .ok (.invokevirtual 324, 3) := zrD zrw_cX10_leftAtWorst_0 (i := 6) (by decide +kernel) rfl
theorem dX10_leftAtWorst_9 : decode cX10_leftAtWorst 9 = .ok (.iand, 1) := zrD zrw_cX10_leftAtWorst_0 (i := 9) (by decide +kernel) rfl
theorem dX10_leftAtWorst_10 : decode cX10_leftAtWorst 10 = .ok (.istore_n 3, 1) := zrD zrw_cX10_leftAtWorst_0 (i := 10) (by decide +kernel) rfl
theorem dX10_leftAtWorst_11 : decode cX10_leftAtWorst 11 = .ok (.iload_n 3, 1) := zrD zrw_cX10_leftAtWorst_0 (i := 11) (by decide +kernel) rfl
theorem dX10_leftAtWorst_12 : decode cX10_leftAtWorst 12 = .ok (.invokestatic 198, 3) := zrD zrw_cX10_leftAtWorst_0 (i := 12) (by decide +kernel) rfl
theorem dX10_leftAtWorst_15 : decode cX10_leftAtWorst 15 = .ok (.iload_n 1, 1) := zrD zrw_cX10_leftAtWorst_0 (i := 15) (by decide +kernel) rfl
theorem dX10_leftAtWorst_16 : decode cX10_leftAtWorst 16 = .ok (.iload_n 3, 1) := zrD zrw_cX10_leftAtWorst_0 (i := 16) (by decide +kernel) rfl
theorem dX10_leftAtWorst_17 : decode cX10_leftAtWorst 17 = .ok (.iconst (-1), 1) := zrD zrw_cX10_leftAtWorst_0 (i := 17) (by decide +kernel) rfl
theorem dX10_leftAtWorst_18 : decode cX10_leftAtWorst 18 = .ok (.ixor, 1) := zrD zrw_cX10_leftAtWorst_0 (i := 18) (by decide +kernel) rfl
theorem dX10_leftAtWorst_19 : decode cX10_leftAtWorst 19 = .ok (.iand, 1) := zrD zrw_cX10_leftAtWorst_0 (i := 19) (by decide +kernel) rfl
theorem dX10_leftAtWorst_20 : decode cX10_leftAtWorst 20 = .ok (.invokestatic 198, 3) := zrD zrw_cX10_leftAtWorst_0 (i := 20) (by decide +kernel) rfl
theorem dX10_leftAtWorst_23 : decode cX10_leftAtWorst 23 = .ok (.invokestatic 333, 3) := zrD zrw_cX10_leftAtWorst_0 (i := 23) (by decide +kernel) rfl
theorem dX10_leftAtWorst_26 : decode cX10_leftAtWorst 26 = .ok (.ireturn, 1) := zrD zrw_cX10_leftAtWorst_0 (i := 26) (by decide +kernel) rfl
def zrk_cX10_look_0 : ByteArray := .mk #[42, 180, 0, 26, 42, 180, 0, 70, 42, 180, 0, 52, 182, 1, 15, 177]
theorem zrw_cX10_look_0 : zrW 0 cX10_look zrk_cX10_look_0 := by unfold zrW; decide +kernel
theorem dX10_look_0 : decode cX10_look 0 = .ok (.aload_n 0, 1) := zrD zrw_cX10_look_0 (i := 0) (by decide +kernel) rfl
theorem dX10_look_1 : decode cX10_look 1 = .ok (.getfield 26, 3) := zrD zrw_cX10_look_0 (i := 1) (by decide +kernel) rfl
theorem dX10_look_4 : decode cX10_look 4 = .ok (.aload_n 0, 1) := zrD zrw_cX10_look_0 (i := 4) (by decide +kernel) rfl
theorem dX10_look_5 : decode cX10_look 5 = .ok (.getfield 70, 3) := zrD zrw_cX10_look_0 (i := 5) (by decide +kernel) rfl
theorem dX10_look_8 : decode cX10_look 8 = .ok (.aload_n 0, 1) := zrD zrw_cX10_look_0 (i := 8) (by decide +kernel) rfl
theorem dX10_look_9 : decode cX10_look 9 = .ok (.getfield 52, 3) := zrD zrw_cX10_look_0 (i := 9) (by decide +kernel) rfl
theorem dX10_look_12 : decode cX10_look 12 = .ok (.invokevirtual 271, 3) := zrD zrw_cX10_look_0 (i := 12) (by decide +kernel) rfl
theorem dX10_look_15 : decode cX10_look 15 = .ok (.return_, 1) := zrD zrw_cX10_look_0 (i := 15) (by decide +kernel) rfl
def zrk_cX10_hasMouth_0 : ByteArray := .mk #[42, 180, 0, 70, 180, 0, 175, 158, 0, 7, 4, 167, 0, 4, 3, 172]
theorem zrw_cX10_hasMouth_0 : zrW 0 cX10_hasMouth zrk_cX10_hasMouth_0 := by unfold zrW; decide +kernel
theorem dX10_hasMouth_0 : decode cX10_hasMouth 0 = .ok (.aload_n 0, 1) := zrD zrw_cX10_hasMouth_0 (i := 0) (by decide +kernel) rfl
theorem dX10_hasMouth_1 : decode cX10_hasMouth 1 = .ok (.getfield 70, 3) := zrD zrw_cX10_hasMouth_0 (i := 1) (by decide +kernel) rfl
theorem dX10_hasMouth_4 : decode cX10_hasMouth 4 = .ok (.getfield 175, 3) := zrD zrw_cX10_hasMouth_0 (i := 4) (by decide +kernel) rfl
theorem dX10_hasMouth_7 : decode cX10_hasMouth 7 = .ok (.ifCond .le 7, 3) := zrD zrw_cX10_hasMouth_0 (i := 7) (by decide +kernel) rfl
theorem dX10_hasMouth_10 : decode cX10_hasMouth 10 = .ok (.iconst 1, 1) := zrD zrw_cX10_hasMouth_0 (i := 10) (by decide +kernel) rfl
theorem dX10_hasMouth_11 : decode cX10_hasMouth 11 = .ok (.goto 4, 3) := zrD zrw_cX10_hasMouth_0 (i := 11) (by decide +kernel) rfl
theorem dX10_hasMouth_14 : decode cX10_hasMouth 14 = .ok (.iconst 0, 1) := zrD zrw_cX10_hasMouth_0 (i := 14) (by decide +kernel) rfl
theorem dX10_hasMouth_15 : decode cX10_hasMouth 15 = .ok (.ireturn, 1) := zrD zrw_cX10_hasMouth_0 (i := 15) (by decide +kernel) rfl
def zrk_cX10_mouthFlow_0 : ByteArray := .mk #[42, 182, 1, 21, 153, 0, 15, 42, 180, 0, 26, 180, 0, 135, 3, 46, 167, 0, 4, 3, 172]
theorem zrw_cX10_mouthFlow_0 : zrW 0 cX10_mouthFlow zrk_cX10_mouthFlow_0 := by unfold zrW; decide +kernel
theorem dX10_mouthFlow_0 : decode cX10_mouthFlow 0 = .ok (.aload_n 0, 1) := zrD zrw_cX10_mouthFlow_0 (i := 0) (by decide +kernel) rfl
theorem dX10_mouthFlow_1 : decode cX10_mouthFlow 1 = .ok (.invokevirtual 277, 3) := zrD zrw_cX10_mouthFlow_0 (i := 1) (by decide +kernel) rfl
theorem dX10_mouthFlow_4 : decode cX10_mouthFlow 4 = .ok (.ifCond .eq 15, 3) := zrD zrw_cX10_mouthFlow_0 (i := 4) (by decide +kernel) rfl
theorem dX10_mouthFlow_7 : decode cX10_mouthFlow 7 = .ok (.aload_n 0, 1) := zrD zrw_cX10_mouthFlow_0 (i := 7) (by decide +kernel) rfl
theorem dX10_mouthFlow_8 : decode cX10_mouthFlow 8 = .ok (.getfield 26, 3) := zrD zrw_cX10_mouthFlow_0 (i := 8) (by decide +kernel) rfl
theorem dX10_mouthFlow_11 : decode cX10_mouthFlow 11 = .ok (.getfield 135, 3) := zrD zrw_cX10_mouthFlow_0 (i := 11) (by decide +kernel) rfl
theorem dX10_mouthFlow_14 : decode cX10_mouthFlow 14 = .ok (.iconst 0, 1) := zrD zrw_cX10_mouthFlow_0 (i := 14) (by decide +kernel) rfl
theorem dX10_mouthFlow_15 : decode cX10_mouthFlow 15 = .ok (.iaload, 1) := zrD zrw_cX10_mouthFlow_0 (i := 15) (by decide +kernel) rfl
theorem dX10_mouthFlow_16 : decode cX10_mouthFlow 16 = .ok (.goto 4, 3) := zrD zrw_cX10_mouthFlow_0 (i := 16) (by decide +kernel) rfl
theorem dX10_mouthFlow_19 : decode cX10_mouthFlow 19 = .ok (.iconst 0, 1) := zrD zrw_cX10_mouthFlow_0 (i := 19) (by decide +kernel) rfl
theorem dX10_mouthFlow_20 : decode cX10_mouthFlow 20 = .ok (.ireturn, 1) := zrD zrw_cX10_mouthFlow_0 (i := 20) (by decide +kernel) rfl
def zrk_cX10_isPlace_0 : ByteArray := .mk #[27, 3, 42, 180, 0, 70, 180, 0, 175, 4, 100, 184, 0, 229, 172]
theorem zrw_cX10_isPlace_0 : zrW 0 cX10_isPlace zrk_cX10_isPlace_0 := by unfold zrW; decide +kernel
theorem dX10_isPlace_0 : decode cX10_isPlace 0 = .ok (.iload_n 1, 1) := zrD zrw_cX10_isPlace_0 (i := 0) (by decide +kernel) rfl
theorem dX10_isPlace_1 : decode cX10_isPlace 1 = .ok (.iconst 0, 1) := zrD zrw_cX10_isPlace_0 (i := 1) (by decide +kernel) rfl
theorem dX10_isPlace_2 : decode cX10_isPlace 2 = .ok (.aload_n 0, 1) := zrD zrw_cX10_isPlace_0 (i := 2) (by decide +kernel) rfl
theorem dX10_isPlace_3 : decode cX10_isPlace 3 = .ok (.getfield 70, 3) := zrD zrw_cX10_isPlace_0 (i := 3) (by decide +kernel) rfl
theorem dX10_isPlace_6 : decode cX10_isPlace 6 = .ok (.getfield 175, 3) := zrD zrw_cX10_isPlace_0 (i := 6) (by decide +kernel) rfl
theorem dX10_isPlace_9 : decode cX10_isPlace 9 = .ok (.iconst 1, 1) := zrD zrw_cX10_isPlace_0 (i := 9) (by decide +kernel) rfl
theorem dX10_isPlace_10 : decode cX10_isPlace 10 = .ok (.isub, 1) := zrD zrw_cX10_isPlace_0 (i := 10) (by decide +kernel) rfl
theorem dX10_isPlace_11 : decode cX10_isPlace 11 = .ok (.invokestatic 229, 3) := zrD zrw_cX10_isPlace_0 (i := 11) (by decide +kernel) rfl
theorem dX10_isPlace_14 : decode cX10_isPlace 14 = .ok (.ireturn, 1) := zrD zrw_cX10_isPlace_0 (i := 14) (by decide +kernel) rfl
def zrk_cX10_isLaw_0 : ByteArray := .mk #[27, 3, 5, 184, 0, 229, 172]
theorem zrw_cX10_isLaw_0 : zrW 0 cX10_isLaw zrk_cX10_isLaw_0 := by unfold zrW; decide +kernel
theorem dX10_isLaw_0 : decode cX10_isLaw 0 = .ok (.iload_n 1, 1) := zrD zrw_cX10_isLaw_0 (i := 0) (by decide +kernel) rfl
theorem dX10_isLaw_1 : decode cX10_isLaw 1 = .ok (.iconst 0, 1) := zrD zrw_cX10_isLaw_0 (i := 1) (by decide +kernel) rfl
theorem dX10_isLaw_2 : decode cX10_isLaw 2 = .ok (.iconst 2, 1) := zrD zrw_cX10_isLaw_0 (i := 2) (by decide +kernel) rfl
theorem dX10_isLaw_3 : decode cX10_isLaw 3 = .ok (.invokestatic 229, 3) := zrD zrw_cX10_isLaw_0 (i := 3) (by decide +kernel) rfl
theorem dX10_isLaw_6 : decode cX10_isLaw 6 = .ok (.ireturn, 1) := zrD zrw_cX10_isLaw_0 (i := 6) (by decide +kernel) rfl
def zrk_cX10_isContest_0 : ByteArray := .mk #[42, 180, 0, 26, 42, 180, 0, 70, 42, 180, 0, 52, 182, 1, 15, 42, 28, 182, 0, 169, 153, 0, 18, 42, 180, 0, 34, 27, 182, 0, 146]
theorem zrw_cX10_isContest_0 : zrW 0 cX10_isContest zrk_cX10_isContest_0 := by unfold zrW; decide +kernel
theorem dX10_isContest_0 : decode cX10_isContest 0 = .ok (.aload_n 0, 1) := zrD zrw_cX10_isContest_0 (i := 0) (by decide +kernel) rfl
theorem dX10_isContest_1 : decode cX10_isContest 1 = .ok (.getfield 26, 3) := zrD zrw_cX10_isContest_0 (i := 1) (by decide +kernel) rfl
theorem dX10_isContest_4 : decode cX10_isContest 4 = .ok (.aload_n 0, 1) := zrD zrw_cX10_isContest_0 (i := 4) (by decide +kernel) rfl
theorem dX10_isContest_5 : decode cX10_isContest 5 = .ok (.getfield 70, 3) := zrD zrw_cX10_isContest_0 (i := 5) (by decide +kernel) rfl
theorem dX10_isContest_8 : decode cX10_isContest 8 = .ok (.aload_n 0, 1) := zrD zrw_cX10_isContest_0 (i := 8) (by decide +kernel) rfl
theorem dX10_isContest_9 : decode cX10_isContest 9 = .ok (.getfield 52, 3) := zrD zrw_cX10_isContest_0 (i := 9) (by decide +kernel) rfl
theorem dX10_isContest_12 : decode cX10_isContest 12 = .ok (.invokevirtual 271, 3) := zrD zrw_cX10_isContest_0 (i := 12) (by decide +kernel) rfl
theorem dX10_isContest_15 : decode cX10_isContest 15 = .ok (.aload_n 0, 1) := zrD zrw_cX10_isContest_0 (i := 15) (by decide +kernel) rfl
theorem dX10_isContest_16 : decode cX10_isContest 16 = .ok (.iload_n 2, 1) := zrD zrw_cX10_isContest_0 (i := 16) (by decide +kernel) rfl
theorem dX10_isContest_17 : decode cX10_isContest 17 = .ok (.invokevirtual 169, 3) := zrD zrw_cX10_isContest_0 (i := 17) (by decide +kernel) rfl
theorem dX10_isContest_20 : decode cX10_isContest 20 = .ok (.ifCond .eq 18, 3) := zrD zrw_cX10_isContest_0 (i := 20) (by decide +kernel) rfl
theorem dX10_isContest_23 : decode cX10_isContest 23 = .ok (.aload_n 0, 1) := zrD zrw_cX10_isContest_0 (i := 23) (by decide +kernel) rfl
theorem dX10_isContest_24 : decode cX10_isContest 24 = .ok (.getfield 34, 3) := zrD zrw_cX10_isContest_0 (i := 24) (by decide +kernel) rfl
theorem dX10_isContest_27 : decode cX10_isContest 27 = .ok (.iload_n 1, 1) := zrD zrw_cX10_isContest_0 (i := 27) (by decide +kernel) rfl
theorem dX10_isContest_28 : decode cX10_isContest 28 = .ok (.invokevirtual 146, 3) := zrD zrw_cX10_isContest_0 (i := 28) (by decide +kernel) rfl
def zrk_cX10_isContest_31 : ByteArray := .mk #[153, 0, 7, 4, 167, 0, 4, 3, 172]
theorem zrw_cX10_isContest_31 : zrW 31 cX10_isContest zrk_cX10_isContest_31 := by unfold zrW; decide +kernel
theorem dX10_isContest_31 : decode cX10_isContest 31 = .ok (.ifCond .eq 7, 3) := zrD zrw_cX10_isContest_31 (i := 0) (by decide +kernel) rfl
theorem dX10_isContest_34 : decode cX10_isContest 34 = .ok (.iconst 1, 1) := zrD zrw_cX10_isContest_31 (i := 3) (by decide +kernel) rfl
theorem dX10_isContest_35 : decode cX10_isContest 35 = .ok (.goto 4, 3) := zrD zrw_cX10_isContest_31 (i := 4) (by decide +kernel) rfl
theorem dX10_isContest_38 : decode cX10_isContest 38 = .ok (.iconst 0, 1) := zrD zrw_cX10_isContest_31 (i := 7) (by decide +kernel) rfl
theorem dX10_isContest_39 : decode cX10_isContest 39 = .ok (.ireturn, 1) := zrD zrw_cX10_isContest_31 (i := 8) (by decide +kernel) rfl
def zrk_cX10_isWithin_0 : ByteArray := .mk #[26, 27, 161, 0, 12, 26, 28, 163, 0, 7, 4, 167, 0, 4, 3, 172]
theorem zrw_cX10_isWithin_0 : zrW 0 cX10_isWithin zrk_cX10_isWithin_0 := by unfold zrW; decide +kernel
theorem dX10_isWithin_0 : decode cX10_isWithin 0 = .ok (.iload_n 0, 1) := zrD zrw_cX10_isWithin_0 (i := 0) (by decide +kernel) rfl
theorem dX10_isWithin_1 : decode cX10_isWithin 1 = .ok (.iload_n 1, 1) := zrD zrw_cX10_isWithin_0 (i := 1) (by decide +kernel) rfl
theorem dX10_isWithin_2 : decode cX10_isWithin 2 = .ok (.if_icmp .lt 12, 3) := zrD zrw_cX10_isWithin_0 (i := 2) (by decide +kernel) rfl
theorem dX10_isWithin_5 : decode cX10_isWithin 5 = .ok (.iload_n 0, 1) := zrD zrw_cX10_isWithin_0 (i := 5) (by decide +kernel) rfl
theorem dX10_isWithin_6 : decode cX10_isWithin 6 = .ok (.iload_n 2, 1) := zrD zrw_cX10_isWithin_0 (i := 6) (by decide +kernel) rfl
theorem dX10_isWithin_7 : decode cX10_isWithin 7 = .ok (.if_icmp .gt 7, 3) := zrD zrw_cX10_isWithin_0 (i := 7) (by decide +kernel) rfl
theorem dX10_isWithin_10 : decode cX10_isWithin 10 = .ok (.iconst 1, 1) := zrD zrw_cX10_isWithin_0 (i := 10) (by decide +kernel) rfl
theorem dX10_isWithin_11 : decode cX10_isWithin 11 = .ok (.goto 4, 3) := zrD zrw_cX10_isWithin_0 (i := 11) (by decide +kernel) rfl
theorem dX10_isWithin_14 : decode cX10_isWithin 14 = .ok (.iconst 0, 1) := zrD zrw_cX10_isWithin_0 (i := 14) (by decide +kernel) rfl
theorem dX10_isWithin_15 : decode cX10_isWithin 15 = .ok (.ireturn, 1) := zrD zrw_cX10_isWithin_0 (i := 15) (by decide +kernel) rfl
def zrk_cX10_held_0 : ByteArray := .mk #[27, 28, 26, 184, 1, 6, 184, 1, 77, 172]
theorem zrw_cX10_held_0 : zrW 0 cX10_held zrk_cX10_held_0 := by unfold zrW; decide +kernel
theorem dX10_held_0 : decode cX10_held 0 = .ok (.iload_n 1, 1) := zrD zrw_cX10_held_0 (i := 0) (by decide +kernel) rfl
theorem dX10_held_1 : decode cX10_held 1 = .ok (.iload_n 2, 1) := zrD zrw_cX10_held_0 (i := 1) (by decide +kernel) rfl
theorem dX10_held_2 : decode cX10_held 2 = .ok (.iload_n 0, 1) := zrD zrw_cX10_held_0 (i := 2) (by decide +kernel) rfl
theorem dX10_held_3 : decode cX10_held 3 = .ok (.invokestatic 262, 3) := zrD zrw_cX10_held_0 (i := 3) (by decide +kernel) rfl
theorem dX10_held_6 : decode cX10_held 6 = .ok (.invokestatic 333, 3) := zrD zrw_cX10_held_0 (i := 6) (by decide +kernel) rfl
theorem dX10_held_9 : decode cX10_held 9 = .ok (.ireturn, 1) := zrD zrw_cX10_held_0 (i := 9) (by decide +kernel) rfl
def zrk_cX10_bit_0 : ByteArray := .mk #[4, 26, 120, 172]
theorem zrw_cX10_bit_0 : zrW 0 cX10_bit zrk_cX10_bit_0 := by unfold zrW; decide +kernel
theorem dX10_bit_0 : decode cX10_bit 0 = .ok (.iconst 1, 1) := zrD zrw_cX10_bit_0 (i := 0) (by decide +kernel) rfl
theorem dX10_bit_1 : decode cX10_bit 1 = .ok (.iload_n 0, 1) := zrD zrw_cX10_bit_0 (i := 1) (by decide +kernel) rfl
theorem dX10_bit_2 : decode cX10_bit 2 = .ok (.ishl, 1) := zrD zrw_cX10_bit_0 (i := 2) (by decide +kernel) rfl
theorem dX10_bit_3 : decode cX10_bit 3 = .ok (.ireturn, 1) := zrD zrw_cX10_bit_0 (i := 3) (by decide +kernel) rfl
def zrk_cX10_has_0 : ByteArray := .mk #[26, 27, 184, 0, 216, 126, 153, 0, 7, 4, 167, 0, 4, 3, 172]
theorem zrw_cX10_has_0 : zrW 0 cX10_has zrk_cX10_has_0 := by unfold zrW; decide +kernel
theorem dX10_has_0 : decode cX10_has 0 = .ok (.iload_n 0, 1) := zrD zrw_cX10_has_0 (i := 0) (by decide +kernel) rfl
theorem dX10_has_1 : decode cX10_has 1 = .ok (.iload_n 1, 1) := zrD zrw_cX10_has_0 (i := 1) (by decide +kernel) rfl
theorem dX10_has_2 : decode cX10_has 2 = .ok (.invokestatic 216, 3) := zrD zrw_cX10_has_0 (i := 2) (by decide +kernel) rfl
theorem dX10_has_5 : decode cX10_has 5 = .ok (.iand, 1) := zrD zrw_cX10_has_0 (i := 5) (by decide +kernel) rfl
theorem dX10_has_6 : decode cX10_has 6 = .ok (.ifCond .eq 7, 3) := zrD zrw_cX10_has_0 (i := 6) (by decide +kernel) rfl
theorem dX10_has_9 : decode cX10_has 9 = .ok (.iconst 1, 1) := zrD zrw_cX10_has_0 (i := 9) (by decide +kernel) rfl
theorem dX10_has_10 : decode cX10_has 10 = .ok (.goto 4, 3) := zrD zrw_cX10_has_0 (i := 10) (by decide +kernel) rfl
theorem dX10_has_13 : decode cX10_has 13 = .ok (.iconst 0, 1) := zrD zrw_cX10_has_0 (i := 13) (by decide +kernel) rfl
theorem dX10_has_14 : decode cX10_has 14 = .ok (.ireturn, 1) := zrD zrw_cX10_has_0 (i := 14) (by decide +kernel) rfl
def zrk_cX10_bitAt_0 : ByteArray := .mk #[3, 61, 3, 62, 29, 16, 12, 162, 0, 27, 26, 29, 184, 0, 131, 153, 0, 13, 28, 27, 160, 0, 5, 29, 172, 132, 2, 1, 132, 3, 1]
theorem zrw_cX10_bitAt_0 : zrW 0 cX10_bitAt zrk_cX10_bitAt_0 := by unfold zrW; decide +kernel
theorem dX10_bitAt_0 : decode cX10_bitAt 0 = .ok (.iconst 0, 1) := zrD zrw_cX10_bitAt_0 (i := 0) (by decide +kernel) rfl
theorem dX10_bitAt_1 : decode cX10_bitAt 1 = .ok (.istore_n 2, 1) := zrD zrw_cX10_bitAt_0 (i := 1) (by decide +kernel) rfl
theorem dX10_bitAt_2 : decode cX10_bitAt 2 = .ok (.iconst 0, 1) := zrD zrw_cX10_bitAt_0 (i := 2) (by decide +kernel) rfl
theorem dX10_bitAt_3 : decode cX10_bitAt 3 = .ok (.istore_n 3, 1) := zrD zrw_cX10_bitAt_0 (i := 3) (by decide +kernel) rfl
theorem dX10_bitAt_4 : decode cX10_bitAt 4 = .ok (.iload_n 3, 1) := zrD zrw_cX10_bitAt_0 (i := 4) (by decide +kernel) rfl
theorem dX10_bitAt_5 : decode cX10_bitAt 5 = .ok (.bipush 12, 2) := zrD zrw_cX10_bitAt_0 (i := 5) (by decide +kernel) rfl
theorem dX10_bitAt_7 : decode cX10_bitAt 7 = .ok (.if_icmp .ge 27, 3) := zrD zrw_cX10_bitAt_0 (i := 7) (by decide +kernel) rfl
theorem dX10_bitAt_10 : decode cX10_bitAt 10 = .ok (.iload_n 0, 1) := zrD zrw_cX10_bitAt_0 (i := 10) (by decide +kernel) rfl
theorem dX10_bitAt_11 : decode cX10_bitAt 11 = .ok (.iload_n 3, 1) := zrD zrw_cX10_bitAt_0 (i := 11) (by decide +kernel) rfl
theorem dX10_bitAt_12 : decode cX10_bitAt 12 = .ok (.invokestatic 131, 3) := zrD zrw_cX10_bitAt_0 (i := 12) (by decide +kernel) rfl
theorem dX10_bitAt_15 : decode cX10_bitAt 15 = .ok (.ifCond .eq 13, 3) := zrD zrw_cX10_bitAt_0 (i := 15) (by decide +kernel) rfl
theorem dX10_bitAt_18 : decode cX10_bitAt 18 = .ok (.iload_n 2, 1) := zrD zrw_cX10_bitAt_0 (i := 18) (by decide +kernel) rfl
theorem dX10_bitAt_19 : decode cX10_bitAt 19 = .ok (.iload_n 1, 1) := zrD zrw_cX10_bitAt_0 (i := 19) (by decide +kernel) rfl
theorem dX10_bitAt_20 : decode cX10_bitAt 20 = .ok (.if_icmp .ne 5, 3) := zrD zrw_cX10_bitAt_0 (i := 20) (by decide +kernel) rfl
theorem dX10_bitAt_23 : decode cX10_bitAt 23 = .ok (.iload_n 3, 1) := zrD zrw_cX10_bitAt_0 (i := 23) (by decide +kernel) rfl
theorem dX10_bitAt_24 : decode cX10_bitAt 24 = .ok (.ireturn, 1) := zrD zrw_cX10_bitAt_0 (i := 24) (by decide +kernel) rfl
theorem dX10_bitAt_25 : decode cX10_bitAt 25 = .ok (.iinc 2 1, 3) := zrD zrw_cX10_bitAt_0 (i := 25) (by decide +kernel) rfl
theorem dX10_bitAt_28 : decode cX10_bitAt 28 = .ok (.iinc 3 1, 3) := zrD zrw_cX10_bitAt_0 (i := 28) (by decide +kernel) rfl
def zrk_cX10_bitAt_31 : ByteArray := .mk #[167, 255, 229, 2, 172]
theorem zrw_cX10_bitAt_31 : zrW 31 cX10_bitAt zrk_cX10_bitAt_31 := by unfold zrW; decide +kernel
theorem dX10_bitAt_31 : decode cX10_bitAt 31 = .ok (.goto (-27), 3) := zrD zrw_cX10_bitAt_31 (i := 0) (by decide +kernel) rfl
theorem dX10_bitAt_34 : decode cX10_bitAt 34 = .ok (.iconst (-1), 1) := zrD zrw_cX10_bitAt_31 (i := 3) (by decide +kernel) rfl
theorem dX10_bitAt_35 : decode cX10_bitAt 35 = .ok (.ireturn, 1) := zrD zrw_cX10_bitAt_31 (i := 4) (by decide +kernel) rfl
