def zrk_cJ0_length_8abf5_0 : ByteArray := .mk #[42, 180, 0, 9, 190, 42, 182, 1, 79, 122, 172]
theorem zrw_cJ0_length_8abf5_0 : zrW 0 cJ0_length_8abf5 zrk_cJ0_length_8abf5_0 := by unfold zrW; decide +kernel
theorem dJ0_length_8abf5_0 : decode cJ0_length_8abf5 0 = .ok (.aload_n 0, 1) := zrD zrw_cJ0_length_8abf5_0 (i := 0) (by decide +kernel) rfl
theorem dJ0_length_8abf5_1 : decode cJ0_length_8abf5 1 = .ok (.getfield 9, 3) := zrD zrw_cJ0_length_8abf5_0 (i := 1) (by decide +kernel) rfl
theorem dJ0_length_8abf5_4 : decode cJ0_length_8abf5 4 = .ok (.arraylength, 1) := zrD zrw_cJ0_length_8abf5_0 (i := 4) (by decide +kernel) rfl
theorem dJ0_length_8abf5_5 : decode cJ0_length_8abf5 5 = .ok (.aload_n 0, 1) := zrD zrw_cJ0_length_8abf5_0 (i := 5) (by decide +kernel) rfl
theorem dJ0_length_8abf5_6 : decode cJ0_length_8abf5 6 = .ok (.invokevirtual 335, 3) := zrD zrw_cJ0_length_8abf5_0 (i := 6) (by decide +kernel) rfl
theorem dJ0_length_8abf5_9 : decode cJ0_length_8abf5 9 = .ok (.ishr, 1) := zrD zrw_cJ0_length_8abf5_0 (i := 9) (by decide +kernel) rfl
theorem dJ0_length_8abf5_10 : decode cJ0_length_8abf5 10 = .ok (.ireturn, 1) := zrD zrw_cJ0_length_8abf5_0 (i := 10) (by decide +kernel) rfl
def zrk_cJ0_charAt_5068e_0 : ByteArray := .mk #[42, 182, 1, 236, 153, 0, 12, 42, 180, 0, 9, 27, 184, 1, 239, 172, 42, 180, 0, 9, 27, 184, 1, 242, 172]
theorem zrw_cJ0_charAt_5068e_0 : zrW 0 cJ0_charAt_5068e zrk_cJ0_charAt_5068e_0 := by unfold zrW; decide +kernel
theorem dJ0_charAt_5068e_0 : decode cJ0_charAt_5068e 0 = .ok (.aload_n 0, 1) := zrD zrw_cJ0_charAt_5068e_0 (i := 0) (by decide +kernel) rfl
theorem dJ0_charAt_5068e_1 : decode cJ0_charAt_5068e 1 = .ok (.invokevirtual 492, 3) := zrD zrw_cJ0_charAt_5068e_0 (i := 1) (by decide +kernel) rfl
theorem dJ0_charAt_5068e_4 : decode cJ0_charAt_5068e 4 = .ok (.ifCond .eq 12, 3) := zrD zrw_cJ0_charAt_5068e_0 (i := 4) (by decide +kernel) rfl
theorem dJ0_charAt_5068e_7 : decode cJ0_charAt_5068e 7 = .ok (.aload_n 0, 1) := zrD zrw_cJ0_charAt_5068e_0 (i := 7) (by decide +kernel) rfl
theorem dJ0_charAt_5068e_8 : decode cJ0_charAt_5068e 8 = .ok (.getfield 9, 3) := zrD zrw_cJ0_charAt_5068e_0 (i := 8) (by decide +kernel) rfl
theorem dJ0_charAt_5068e_11 : decode cJ0_charAt_5068e 11 = .ok (.iload_n 1, 1) := zrD zrw_cJ0_charAt_5068e_0 (i := 11) (by decide +kernel) rfl
theorem dJ0_charAt_5068e_12 : decode cJ0_charAt_5068e 12 = .ok (.invokestatic 495, 3) := zrD zrw_cJ0_charAt_5068e_0 (i := 12) (by decide +kernel) rfl
theorem dJ0_charAt_5068e_15 : decode cJ0_charAt_5068e 15 = .ok (.ireturn, 1) := zrD zrw_cJ0_charAt_5068e_0 (i := 15) (by decide +kernel) rfl
theorem dJ0_charAt_5068e_16 : decode cJ0_charAt_5068e 16 = .ok (.aload_n 0, 1) := zrD zrw_cJ0_charAt_5068e_0 (i := 16) (by decide +kernel) rfl
theorem dJ0_charAt_5068e_17 : decode cJ0_charAt_5068e 17 = .ok (.getfield 9, 3) := zrD zrw_cJ0_charAt_5068e_0 (i := 17) (by decide +kernel) rfl
theorem dJ0_charAt_5068e_20 : decode cJ0_charAt_5068e 20 = .ok (.iload_n 1, 1) := zrD zrw_cJ0_charAt_5068e_0 (i := 20) (by decide +kernel) rfl
theorem dJ0_charAt_5068e_21 : decode cJ0_charAt_5068e 21 = .ok (.invokestatic 498, 3) := zrD zrw_cJ0_charAt_5068e_0 (i := 21) (by decide +kernel) rfl
theorem dJ0_charAt_5068e_24 : decode cJ0_charAt_5068e 24 = .ok (.ireturn, 1) := zrD zrw_cJ0_charAt_5068e_0 (i := 24) (by decide +kernel) rfl
def zrk_cJ0_indexOf_0f7a4_0 : ByteArray := .mk #[42, 27, 3, 182, 2, 121, 172]
theorem zrw_cJ0_indexOf_0f7a4_0 : zrW 0 cJ0_indexOf_0f7a4 zrk_cJ0_indexOf_0f7a4_0 := by unfold zrW; decide +kernel
theorem dJ0_indexOf_0f7a4_0 : decode cJ0_indexOf_0f7a4 0 = .ok (.aload_n 0, 1) := zrD zrw_cJ0_indexOf_0f7a4_0 (i := 0) (by decide +kernel) rfl
theorem dJ0_indexOf_0f7a4_1 : decode cJ0_indexOf_0f7a4 1 = .ok (.iload_n 1, 1) := zrD zrw_cJ0_indexOf_0f7a4_0 (i := 1) (by decide +kernel) rfl
theorem dJ0_indexOf_0f7a4_2 : decode cJ0_indexOf_0f7a4 2 = .ok (.iconst 0, 1) := zrD zrw_cJ0_indexOf_0f7a4_0 (i := 2) (by decide +kernel) rfl
theorem dJ0_indexOf_0f7a4_3 : decode cJ0_indexOf_0f7a4 3 = .ok (.invokevirtual 633, 3) := zrD zrw_cJ0_indexOf_0f7a4_0 (i := 3) (by decide +kernel) rfl
theorem dJ0_indexOf_0f7a4_6 : decode cJ0_indexOf_0f7a4 6 = .ok (.ireturn, 1) := zrD zrw_cJ0_indexOf_0f7a4_0 (i := 6) (by decide +kernel) rfl
def zrk_cJ0_indexOf_7cf53_0 : ByteArray := .mk #[42, 182, 1, 236, 153, 0, 19, 42, 180, 0, 9, 27, 28, 42, 182, 1, 249, 184, 2, 125, 167, 0, 16, 42, 180, 0, 9, 27, 28, 42]
theorem zrw_cJ0_indexOf_7cf53_0 : zrW 0 cJ0_indexOf_7cf53 zrk_cJ0_indexOf_7cf53_0 := by unfold zrW; decide +kernel
theorem dJ0_indexOf_7cf53_0 : decode cJ0_indexOf_7cf53 0 = .ok (.aload_n 0, 1) := zrD zrw_cJ0_indexOf_7cf53_0 (i := 0) (by decide +kernel) rfl
theorem dJ0_indexOf_7cf53_1 : decode cJ0_indexOf_7cf53 1 = .ok (.invokevirtual 492, 3) := zrD zrw_cJ0_indexOf_7cf53_0 (i := 1) (by decide +kernel) rfl
theorem dJ0_indexOf_7cf53_4 : decode cJ0_indexOf_7cf53 4 = .ok (.ifCond .eq 19, 3) := zrD zrw_cJ0_indexOf_7cf53_0 (i := 4) (by decide +kernel) rfl
theorem dJ0_indexOf_7cf53_7 : decode cJ0_indexOf_7cf53 7 = .ok (.aload_n 0, 1) := zrD zrw_cJ0_indexOf_7cf53_0 (i := 7) (by decide +kernel) rfl
theorem dJ0_indexOf_7cf53_8 : decode cJ0_indexOf_7cf53 8 = .ok (.getfield 9, 3) := zrD zrw_cJ0_indexOf_7cf53_0 (i := 8) (by decide +kernel) rfl
theorem dJ0_indexOf_7cf53_11 : decode cJ0_indexOf_7cf53 11 = .ok (.iload_n 1, 1) := zrD zrw_cJ0_indexOf_7cf53_0 (i := 11) (by decide +kernel) rfl
theorem dJ0_indexOf_7cf53_12 : decode cJ0_indexOf_7cf53 12 = .ok (.iload_n 2, 1) := zrD zrw_cJ0_indexOf_7cf53_0 (i := 12) (by decide +kernel) rfl
theorem dJ0_indexOf_7cf53_13 : decode cJ0_indexOf_7cf53 13 = .ok (.aload_n 0, 1) := zrD zrw_cJ0_indexOf_7cf53_0 (i := 13) (by decide +kernel) rfl
theorem dJ0_indexOf_7cf53_14 : decode cJ0_indexOf_7cf53 14 = .ok (.invokevirtual 505, 3) := zrD zrw_cJ0_indexOf_7cf53_0 (i := 14) (by decide +kernel) rfl
theorem dJ0_indexOf_7cf53_17 : decode cJ0_indexOf_7cf53 17 = .ok (.invokestatic 637, 3) := zrD zrw_cJ0_indexOf_7cf53_0 (i := 17) (by decide +kernel) rfl
theorem dJ0_indexOf_7cf53_20 : decode cJ0_indexOf_7cf53 20 = .ok (.goto 16, 3) := zrD zrw_cJ0_indexOf_7cf53_0 (i := 20) (by decide +kernel) rfl
theorem dJ0_indexOf_7cf53_23 : decode cJ0_indexOf_7cf53 23 = .ok (.aload_n 0, 1) := zrD zrw_cJ0_indexOf_7cf53_0 (i := 23) (by decide +kernel) rfl
theorem dJ0_indexOf_7cf53_24 : decode cJ0_indexOf_7cf53 24 = .ok (.getfield 9, 3) := zrD zrw_cJ0_indexOf_7cf53_0 (i := 24) (by decide +kernel) rfl
theorem dJ0_indexOf_7cf53_27 : decode cJ0_indexOf_7cf53 27 = .ok (.iload_n 1, 1) := zrD zrw_cJ0_indexOf_7cf53_0 (i := 27) (by decide +kernel) rfl
theorem dJ0_indexOf_7cf53_28 : decode cJ0_indexOf_7cf53 28 = .ok (.iload_n 2, 1) := zrD zrw_cJ0_indexOf_7cf53_0 (i := 28) (by decide +kernel) rfl
theorem dJ0_indexOf_7cf53_29 : decode cJ0_indexOf_7cf53 29 = .ok (.aload_n 0, 1) := zrD zrw_cJ0_indexOf_7cf53_0 (i := 29) (by decide +kernel) rfl
def zrk_cJ0_indexOf_7cf53_30 : ByteArray := .mk #[182, 1, 249, 184, 2, 128, 172]
theorem zrw_cJ0_indexOf_7cf53_30 : zrW 30 cJ0_indexOf_7cf53 zrk_cJ0_indexOf_7cf53_30 := by unfold zrW; decide +kernel
theorem dJ0_indexOf_7cf53_30 : decode cJ0_indexOf_7cf53 30 = .ok (.invokevirtual 505, 3) := zrD zrw_cJ0_indexOf_7cf53_30 (i := 0) (by decide +kernel) rfl
theorem dJ0_indexOf_7cf53_33 : decode cJ0_indexOf_7cf53 33 = .ok (.invokestatic 640, 3) := zrD zrw_cJ0_indexOf_7cf53_30 (i := 3) (by decide +kernel) rfl
theorem dJ0_indexOf_7cf53_36 : decode cJ0_indexOf_7cf53 36 = .ok (.ireturn, 1) := zrD zrw_cJ0_indexOf_7cf53_30 (i := 6) (by decide +kernel) rfl
def zrk_cJ0_coder_7d493_0 : ByteArray := .mk #[178, 0, 38, 153, 0, 10, 42, 180, 0, 15, 167, 0, 4, 4, 172]
theorem zrw_cJ0_coder_7d493_0 : zrW 0 cJ0_coder_7d493 zrk_cJ0_coder_7d493_0 := by unfold zrW; decide +kernel
theorem dJ0_coder_7d493_0 : decode cJ0_coder_7d493 0 = .ok (.getstatic 38, 3) := zrD zrw_cJ0_coder_7d493_0 (i := 0) (by decide +kernel) rfl
theorem dJ0_coder_7d493_3 : decode cJ0_coder_7d493 3 = .ok (.ifCond .eq 10, 3) := zrD zrw_cJ0_coder_7d493_0 (i := 3) (by decide +kernel) rfl
theorem dJ0_coder_7d493_6 : decode cJ0_coder_7d493 6 = .ok (.aload_n 0, 1) := zrD zrw_cJ0_coder_7d493_0 (i := 6) (by decide +kernel) rfl
theorem dJ0_coder_7d493_7 : decode cJ0_coder_7d493 7 = .ok (.getfield 15, 3) := zrD zrw_cJ0_coder_7d493_0 (i := 7) (by decide +kernel) rfl
theorem dJ0_coder_7d493_10 : decode cJ0_coder_7d493 10 = .ok (.goto 4, 3) := zrD zrw_cJ0_coder_7d493_0 (i := 10) (by decide +kernel) rfl
theorem dJ0_coder_7d493_13 : decode cJ0_coder_7d493 13 = .ok (.iconst 1, 1) := zrD zrw_cJ0_coder_7d493_0 (i := 13) (by decide +kernel) rfl
theorem dJ0_coder_7d493_14 : decode cJ0_coder_7d493 14 = .ok (.ireturn, 1) := zrD zrw_cJ0_coder_7d493_0 (i := 14) (by decide +kernel) rfl
def zrk_cJ0_isLatin1_aae02_0 : ByteArray := .mk #[178, 0, 38, 153, 0, 14, 42, 180, 0, 15, 154, 0, 7, 4, 167, 0, 4, 3, 172]
theorem zrw_cJ0_isLatin1_aae02_0 : zrW 0 cJ0_isLatin1_aae02 zrk_cJ0_isLatin1_aae02_0 := by unfold zrW; decide +kernel
theorem dJ0_isLatin1_aae02_0 : decode cJ0_isLatin1_aae02 0 = .ok (.getstatic 38, 3) := zrD zrw_cJ0_isLatin1_aae02_0 (i := 0) (by decide +kernel) rfl
theorem dJ0_isLatin1_aae02_3 : decode cJ0_isLatin1_aae02 3 = .ok (.ifCond .eq 14, 3) := zrD zrw_cJ0_isLatin1_aae02_0 (i := 3) (by decide +kernel) rfl
theorem dJ0_isLatin1_aae02_6 : decode cJ0_isLatin1_aae02 6 = .ok (.aload_n 0, 1) := zrD zrw_cJ0_isLatin1_aae02_0 (i := 6) (by decide +kernel) rfl
theorem dJ0_isLatin1_aae02_7 : decode cJ0_isLatin1_aae02 7 = .ok (.getfield 15, 3) := zrD zrw_cJ0_isLatin1_aae02_0 (i := 7) (by decide +kernel) rfl
theorem dJ0_isLatin1_aae02_10 : decode cJ0_isLatin1_aae02 10 = .ok (.ifCond .ne 7, 3) := zrD zrw_cJ0_isLatin1_aae02_0 (i := 10) (by decide +kernel) rfl
theorem dJ0_isLatin1_aae02_13 : decode cJ0_isLatin1_aae02 13 = .ok (.iconst 1, 1) := zrD zrw_cJ0_isLatin1_aae02_0 (i := 13) (by decide +kernel) rfl
theorem dJ0_isLatin1_aae02_14 : decode cJ0_isLatin1_aae02 14 = .ok (.goto 4, 3) := zrD zrw_cJ0_isLatin1_aae02_0 (i := 14) (by decide +kernel) rfl
theorem dJ0_isLatin1_aae02_17 : decode cJ0_isLatin1_aae02 17 = .ok (.iconst 0, 1) := zrD zrw_cJ0_isLatin1_aae02_0 (i := 17) (by decide +kernel) rfl
theorem dJ0_isLatin1_aae02_18 : decode cJ0_isLatin1_aae02 18 = .ok (.ireturn, 1) := zrD zrw_cJ0_isLatin1_aae02_0 (i := 18) (by decide +kernel) rfl
def zrk_cJ0_checkIndex_df160_0 : ByteArray := .mk #[26, 27, 178, 4, 29, 184, 4, 35, 87, 177]
theorem zrw_cJ0_checkIndex_df160_0 : zrW 0 cJ0_checkIndex_df160 zrk_cJ0_checkIndex_df160_0 := by unfold zrW; decide +kernel
theorem dJ0_checkIndex_df160_0 : decode cJ0_checkIndex_df160 0 = .ok (.iload_n 0, 1) := zrD zrw_cJ0_checkIndex_df160_0 (i := 0) (by decide +kernel) rfl
theorem dJ0_checkIndex_df160_1 : decode cJ0_checkIndex_df160 1 = .ok (.iload_n 1, 1) := zrD zrw_cJ0_checkIndex_df160_0 (i := 1) (by decide +kernel) rfl
theorem dJ0_checkIndex_df160_2 : decode cJ0_checkIndex_df160 2 = .ok (.getstatic 1053, 3) := zrD zrw_cJ0_checkIndex_df160_0 (i := 2) (by decide +kernel) rfl
theorem dJ0_checkIndex_df160_5 : decode cJ0_checkIndex_df160 5 = .ok (.invokestatic 1059, 3) := zrD zrw_cJ0_checkIndex_df160_0 (i := 5) (by decide +kernel) rfl
theorem dJ0_checkIndex_df160_8 : decode cJ0_checkIndex_df160 8 = .ok (.pop, 1) := zrD zrw_cJ0_checkIndex_df160_0 (i := 8) (by decide +kernel) rfl
theorem dJ0_checkIndex_df160_9 : decode cJ0_checkIndex_df160 9 = .ok (.return_, 1) := zrD zrw_cJ0_checkIndex_df160_0 (i := 9) (by decide +kernel) rfl
def zrk_cJ0_checkBoundsBeginEnd_23922_0 : ByteArray := .mk #[26, 27, 28, 178, 4, 29, 184, 4, 38, 87, 177]
theorem zrw_cJ0_checkBoundsBeginEnd_23922_0 : zrW 0 cJ0_checkBoundsBeginEnd_23922 zrk_cJ0_checkBoundsBeginEnd_23922_0 := by unfold zrW; decide +kernel
theorem dJ0_checkBoundsBeginEnd_23922_0 : decode cJ0_checkBoundsBeginEnd_23922 0 = .ok (.iload_n 0, 1) := zrD zrw_cJ0_checkBoundsBeginEnd_23922_0 (i := 0) (by decide +kernel) rfl
theorem dJ0_checkBoundsBeginEnd_23922_1 : decode cJ0_checkBoundsBeginEnd_23922 1 = .ok (.iload_n 1, 1) := zrD zrw_cJ0_checkBoundsBeginEnd_23922_0 (i := 1) (by decide +kernel) rfl
theorem dJ0_checkBoundsBeginEnd_23922_2 : decode cJ0_checkBoundsBeginEnd_23922 2 = .ok (.iload_n 2, 1) := zrD zrw_cJ0_checkBoundsBeginEnd_23922_0 (i := 2) (by decide +kernel) rfl
theorem dJ0_checkBoundsBeginEnd_23922_3 : decode cJ0_checkBoundsBeginEnd_23922 3 = .ok (.getstatic 1053, 3) := zrD zrw_cJ0_checkBoundsBeginEnd_23922_0 (i := 3) (by decide +kernel) rfl
theorem dJ0_checkBoundsBeginEnd_23922_6 : decode cJ0_checkBoundsBeginEnd_23922 6 = .ok (.invokestatic 1062, 3) := zrD zrw_cJ0_checkBoundsBeginEnd_23922_0 (i := 6) (by decide +kernel) rfl
theorem dJ0_checkBoundsBeginEnd_23922_9 : decode cJ0_checkBoundsBeginEnd_23922 9 = .ok (.pop, 1) := zrD zrw_cJ0_checkBoundsBeginEnd_23922_0 (i := 9) (by decide +kernel) rfl
theorem dJ0_checkBoundsBeginEnd_23922_10 : decode cJ0_checkBoundsBeginEnd_23922 10 = .ok (.return_, 1) := zrD zrw_cJ0_checkBoundsBeginEnd_23922_0 (i := 10) (by decide +kernel) rfl
def zrk_cJ1_charAt_3b067_0 : ByteArray := .mk #[27, 42, 190, 184, 0, 9, 42, 27, 51, 17, 0, 255, 126, 146, 172]
theorem zrw_cJ1_charAt_3b067_0 : zrW 0 cJ1_charAt_3b067 zrk_cJ1_charAt_3b067_0 := by unfold zrW; decide +kernel
theorem dJ1_charAt_3b067_0 : decode cJ1_charAt_3b067 0 = .ok (.iload_n 1, 1) := zrD zrw_cJ1_charAt_3b067_0 (i := 0) (by decide +kernel) rfl
theorem dJ1_charAt_3b067_1 : decode cJ1_charAt_3b067 1 = .ok (.aload_n 0, 1) := zrD zrw_cJ1_charAt_3b067_0 (i := 1) (by decide +kernel) rfl
theorem dJ1_charAt_3b067_2 : decode cJ1_charAt_3b067 2 = .ok (.arraylength, 1) := zrD zrw_cJ1_charAt_3b067_0 (i := 2) (by decide +kernel) rfl
theorem dJ1_charAt_3b067_3 : decode cJ1_charAt_3b067 3 = .ok (.invokestatic 9, 3) := zrD zrw_cJ1_charAt_3b067_0 (i := 3) (by decide +kernel) rfl
theorem dJ1_charAt_3b067_6 : decode cJ1_charAt_3b067 6 = .ok (.aload_n 0, 1) := zrD zrw_cJ1_charAt_3b067_0 (i := 6) (by decide +kernel) rfl
theorem dJ1_charAt_3b067_7 : decode cJ1_charAt_3b067 7 = .ok (.iload_n 1, 1) := zrD zrw_cJ1_charAt_3b067_0 (i := 7) (by decide +kernel) rfl
theorem dJ1_charAt_3b067_8 : decode cJ1_charAt_3b067 8 = .ok (.baload, 1) := zrD zrw_cJ1_charAt_3b067_0 (i := 8) (by decide +kernel) rfl
theorem dJ1_charAt_3b067_9 : decode cJ1_charAt_3b067 9 = .ok (.sipush 255, 3) := zrD zrw_cJ1_charAt_3b067_0 (i := 9) (by decide +kernel) rfl
theorem dJ1_charAt_3b067_12 : decode cJ1_charAt_3b067 12 = .ok (.iand, 1) := zrD zrw_cJ1_charAt_3b067_0 (i := 12) (by decide +kernel) rfl
theorem dJ1_charAt_3b067_13 : decode cJ1_charAt_3b067 13 = .ok (.i2c, 1) := zrD zrw_cJ1_charAt_3b067_0 (i := 13) (by decide +kernel) rfl
theorem dJ1_charAt_3b067_14 : decode cJ1_charAt_3b067 14 = .ok (.ireturn, 1) := zrD zrw_cJ1_charAt_3b067_0 (i := 14) (by decide +kernel) rfl
def zrk_cJ1_canEncode_9a6ad_0 : ByteArray := .mk #[26, 155, 0, 14, 26, 17, 0, 255, 163, 0, 7, 4, 167, 0, 4, 3, 172]
theorem zrw_cJ1_canEncode_9a6ad_0 : zrW 0 cJ1_canEncode_9a6ad zrk_cJ1_canEncode_9a6ad_0 := by unfold zrW; decide +kernel
theorem dJ1_canEncode_9a6ad_0 : decode cJ1_canEncode_9a6ad 0 = .ok (.iload_n 0, 1) := zrD zrw_cJ1_canEncode_9a6ad_0 (i := 0) (by decide +kernel) rfl
theorem dJ1_canEncode_9a6ad_1 : decode cJ1_canEncode_9a6ad 1 = .ok (.ifCond .lt 14, 3) := zrD zrw_cJ1_canEncode_9a6ad_0 (i := 1) (by decide +kernel) rfl
theorem dJ1_canEncode_9a6ad_4 : decode cJ1_canEncode_9a6ad 4 = .ok (.iload_n 0, 1) := zrD zrw_cJ1_canEncode_9a6ad_0 (i := 4) (by decide +kernel) rfl
theorem dJ1_canEncode_9a6ad_5 : decode cJ1_canEncode_9a6ad 5 = .ok (.sipush 255, 3) := zrD zrw_cJ1_canEncode_9a6ad_0 (i := 5) (by decide +kernel) rfl
theorem dJ1_canEncode_9a6ad_8 : decode cJ1_canEncode_9a6ad 8 = .ok (.if_icmp .gt 7, 3) := zrD zrw_cJ1_canEncode_9a6ad_0 (i := 8) (by decide +kernel) rfl
theorem dJ1_canEncode_9a6ad_11 : decode cJ1_canEncode_9a6ad 11 = .ok (.iconst 1, 1) := zrD zrw_cJ1_canEncode_9a6ad_0 (i := 11) (by decide +kernel) rfl
theorem dJ1_canEncode_9a6ad_12 : decode cJ1_canEncode_9a6ad 12 = .ok (.goto 4, 3) := zrD zrw_cJ1_canEncode_9a6ad_0 (i := 12) (by decide +kernel) rfl
theorem dJ1_canEncode_9a6ad_15 : decode cJ1_canEncode_9a6ad 15 = .ok (.iconst 0, 1) := zrD zrw_cJ1_canEncode_9a6ad_0 (i := 15) (by decide +kernel) rfl
theorem dJ1_canEncode_9a6ad_16 : decode cJ1_canEncode_9a6ad 16 = .ok (.ireturn, 1) := zrD zrw_cJ1_canEncode_9a6ad_0 (i := 16) (by decide +kernel) rfl
def zrk_cJ1_indexOf_4cfef_0 : ByteArray := .mk #[27, 184, 0, 88, 154, 0, 5, 2, 172, 28, 3, 184, 0, 92, 61, 29, 42, 190, 184, 0, 38, 62, 28, 29, 161, 0, 5, 2, 172, 42, 27, 28]
theorem zrw_cJ1_indexOf_4cfef_0 : zrW 0 cJ1_indexOf_4cfef zrk_cJ1_indexOf_4cfef_0 := by unfold zrW; decide +kernel
theorem dJ1_indexOf_4cfef_0 : decode cJ1_indexOf_4cfef 0 = .ok (.iload_n 1, 1) := zrD zrw_cJ1_indexOf_4cfef_0 (i := 0) (by decide +kernel) rfl
theorem dJ1_indexOf_4cfef_1 : decode cJ1_indexOf_4cfef 1 = .ok (.invokestatic 88, 3) := zrD zrw_cJ1_indexOf_4cfef_0 (i := 1) (by decide +kernel) rfl
theorem dJ1_indexOf_4cfef_4 : decode cJ1_indexOf_4cfef 4 = .ok (.ifCond .ne 5, 3) := zrD zrw_cJ1_indexOf_4cfef_0 (i := 4) (by decide +kernel) rfl
theorem dJ1_indexOf_4cfef_7 : decode cJ1_indexOf_4cfef 7 = .ok (.iconst (-1), 1) := zrD zrw_cJ1_indexOf_4cfef_0 (i := 7) (by decide +kernel) rfl
theorem dJ1_indexOf_4cfef_8 : decode cJ1_indexOf_4cfef 8 = .ok (.ireturn, 1) := zrD zrw_cJ1_indexOf_4cfef_0 (i := 8) (by decide +kernel) rfl
theorem dJ1_indexOf_4cfef_9 : decode cJ1_indexOf_4cfef 9 = .ok (.iload_n 2, 1) := zrD zrw_cJ1_indexOf_4cfef_0 (i := 9) (by decide +kernel) rfl
theorem dJ1_indexOf_4cfef_10 : decode cJ1_indexOf_4cfef 10 = .ok (.iconst 0, 1) := zrD zrw_cJ1_indexOf_4cfef_0 (i := 10) (by decide +kernel) rfl
theorem dJ1_indexOf_4cfef_11 : decode cJ1_indexOf_4cfef 11 = .ok (.invokestatic 92, 3) := zrD zrw_cJ1_indexOf_4cfef_0 (i := 11) (by decide +kernel) rfl
theorem dJ1_indexOf_4cfef_14 : decode cJ1_indexOf_4cfef 14 = .ok (.istore_n 2, 1) := zrD zrw_cJ1_indexOf_4cfef_0 (i := 14) (by decide +kernel) rfl
theorem dJ1_indexOf_4cfef_15 : decode cJ1_indexOf_4cfef 15 = .ok (.iload_n 3, 1) := zrD zrw_cJ1_indexOf_4cfef_0 (i := 15) (by decide +kernel) rfl
theorem dJ1_indexOf_4cfef_16 : decode cJ1_indexOf_4cfef 16 = .ok (.aload_n 0, 1) := zrD zrw_cJ1_indexOf_4cfef_0 (i := 16) (by decide +kernel) rfl
theorem dJ1_indexOf_4cfef_17 : decode cJ1_indexOf_4cfef 17 = .ok (.arraylength, 1) := zrD zrw_cJ1_indexOf_4cfef_0 (i := 17) (by decide +kernel) rfl
theorem dJ1_indexOf_4cfef_18 : decode cJ1_indexOf_4cfef 18 = .ok (.invokestatic 38, 3) := zrD zrw_cJ1_indexOf_4cfef_0 (i := 18) (by decide +kernel) rfl
theorem dJ1_indexOf_4cfef_21 : decode cJ1_indexOf_4cfef 21 = .ok (.istore_n 3, 1) := zrD zrw_cJ1_indexOf_4cfef_0 (i := 21) (by decide +kernel) rfl
theorem dJ1_indexOf_4cfef_22 : decode cJ1_indexOf_4cfef 22 = .ok (.iload_n 2, 1) := zrD zrw_cJ1_indexOf_4cfef_0 (i := 22) (by decide +kernel) rfl
theorem dJ1_indexOf_4cfef_23 : decode cJ1_indexOf_4cfef 23 = .ok (.iload_n 3, 1) := zrD zrw_cJ1_indexOf_4cfef_0 (i := 23) (by decide +kernel) rfl
theorem dJ1_indexOf_4cfef_24 : decode cJ1_indexOf_4cfef 24 = .ok (.if_icmp .lt 5, 3) := zrD zrw_cJ1_indexOf_4cfef_0 (i := 24) (by decide +kernel) rfl
theorem dJ1_indexOf_4cfef_27 : decode cJ1_indexOf_4cfef 27 = .ok (.iconst (-1), 1) := zrD zrw_cJ1_indexOf_4cfef_0 (i := 27) (by decide +kernel) rfl
theorem dJ1_indexOf_4cfef_28 : decode cJ1_indexOf_4cfef 28 = .ok (.ireturn, 1) := zrD zrw_cJ1_indexOf_4cfef_0 (i := 28) (by decide +kernel) rfl
theorem dJ1_indexOf_4cfef_29 : decode cJ1_indexOf_4cfef 29 = .ok (.aload_n 0, 1) := zrD zrw_cJ1_indexOf_4cfef_0 (i := 29) (by decide +kernel) rfl
theorem dJ1_indexOf_4cfef_30 : decode cJ1_indexOf_4cfef 30 = .ok (.iload_n 1, 1) := zrD zrw_cJ1_indexOf_4cfef_0 (i := 30) (by decide +kernel) rfl
theorem dJ1_indexOf_4cfef_31 : decode cJ1_indexOf_4cfef 31 = .ok (.iload_n 2, 1) := zrD zrw_cJ1_indexOf_4cfef_0 (i := 31) (by decide +kernel) rfl
def zrk_cJ1_indexOf_4cfef_32 : ByteArray := .mk #[29, 184, 0, 95, 172]
theorem zrw_cJ1_indexOf_4cfef_32 : zrW 32 cJ1_indexOf_4cfef zrk_cJ1_indexOf_4cfef_32 := by unfold zrW; decide +kernel
theorem dJ1_indexOf_4cfef_32 : decode cJ1_indexOf_4cfef 32 = .ok (.iload_n 3, 1) := zrD zrw_cJ1_indexOf_4cfef_32 (i := 0) (by decide +kernel) rfl
theorem dJ1_indexOf_4cfef_33 : decode cJ1_indexOf_4cfef 33 = .ok (.invokestatic 95, 3) := zrD zrw_cJ1_indexOf_4cfef_32 (i := 1) (by decide +kernel) rfl
theorem dJ1_indexOf_4cfef_36 : decode cJ1_indexOf_4cfef 36 = .ok (.ireturn, 1) := zrD zrw_cJ1_indexOf_4cfef_32 (i := 4) (by decide +kernel) rfl
def zrk_cJ1_indexOfChar_4cfef_0 : ByteArray := .mk #[27, 145, 54, 4, 28, 54, 5, 21, 5, 29, 162, 0, 21, 42, 21, 5, 51, 21, 4, 160, 0, 6, 21, 5, 172, 132, 5, 1, 167, 255, 235, 2]
theorem zrw_cJ1_indexOfChar_4cfef_0 : zrW 0 cJ1_indexOfChar_4cfef zrk_cJ1_indexOfChar_4cfef_0 := by unfold zrW; decide +kernel
theorem dJ1_indexOfChar_4cfef_0 : decode cJ1_indexOfChar_4cfef 0 = .ok (.iload_n 1, 1) := zrD zrw_cJ1_indexOfChar_4cfef_0 (i := 0) (by decide +kernel) rfl
theorem dJ1_indexOfChar_4cfef_1 : decode cJ1_indexOfChar_4cfef 1 = .ok (.i2b, 1) := zrD zrw_cJ1_indexOfChar_4cfef_0 (i := 1) (by decide +kernel) rfl
theorem dJ1_indexOfChar_4cfef_2 : decode cJ1_indexOfChar_4cfef 2 = .ok (.istore 4, 2) := zrD zrw_cJ1_indexOfChar_4cfef_0 (i := 2) (by decide +kernel) rfl
theorem dJ1_indexOfChar_4cfef_4 : decode cJ1_indexOfChar_4cfef 4 = .ok (.iload_n 2, 1) := zrD zrw_cJ1_indexOfChar_4cfef_0 (i := 4) (by decide +kernel) rfl
theorem dJ1_indexOfChar_4cfef_5 : decode cJ1_indexOfChar_4cfef 5 = .ok (.istore 5, 2) := zrD zrw_cJ1_indexOfChar_4cfef_0 (i := 5) (by decide +kernel) rfl
theorem dJ1_indexOfChar_4cfef_7 : decode cJ1_indexOfChar_4cfef 7 = .ok (.iload 5, 2) := zrD zrw_cJ1_indexOfChar_4cfef_0 (i := 7) (by decide +kernel) rfl
theorem dJ1_indexOfChar_4cfef_9 : decode cJ1_indexOfChar_4cfef 9 = .ok (.iload_n 3, 1) := zrD zrw_cJ1_indexOfChar_4cfef_0 (i := 9) (by decide +kernel) rfl
theorem dJ1_indexOfChar_4cfef_10 : decode cJ1_indexOfChar_4cfef 10 = .ok (.if_icmp .ge 21, 3) := zrD zrw_cJ1_indexOfChar_4cfef_0 (i := 10) (by decide +kernel) rfl
theorem dJ1_indexOfChar_4cfef_13 : decode cJ1_indexOfChar_4cfef 13 = .ok (.aload_n 0, 1) := zrD zrw_cJ1_indexOfChar_4cfef_0 (i := 13) (by decide +kernel) rfl
theorem dJ1_indexOfChar_4cfef_14 : decode cJ1_indexOfChar_4cfef 14 = .ok (.iload 5, 2) := zrD zrw_cJ1_indexOfChar_4cfef_0 (i := 14) (by decide +kernel) rfl
theorem dJ1_indexOfChar_4cfef_16 : decode cJ1_indexOfChar_4cfef 16 = .ok (.baload, 1) := zrD zrw_cJ1_indexOfChar_4cfef_0 (i := 16) (by decide +kernel) rfl
theorem dJ1_indexOfChar_4cfef_17 : decode cJ1_indexOfChar_4cfef 17 = .ok (.iload 4, 2) := zrD zrw_cJ1_indexOfChar_4cfef_0 (i := 17) (by decide +kernel) rfl
theorem dJ1_indexOfChar_4cfef_19 : decode cJ1_indexOfChar_4cfef 19 = .ok (.if_icmp .ne 6, 3) := zrD zrw_cJ1_indexOfChar_4cfef_0 (i := 19) (by decide +kernel) rfl
theorem dJ1_indexOfChar_4cfef_22 : decode cJ1_indexOfChar_4cfef 22 = .ok (.iload 5, 2) := zrD zrw_cJ1_indexOfChar_4cfef_0 (i := 22) (by decide +kernel) rfl
theorem dJ1_indexOfChar_4cfef_24 : decode cJ1_indexOfChar_4cfef 24 = .ok (.ireturn, 1) := zrD zrw_cJ1_indexOfChar_4cfef_0 (i := 24) (by decide +kernel) rfl
theorem dJ1_indexOfChar_4cfef_25 : decode cJ1_indexOfChar_4cfef 25 = .ok (.iinc 5 1, 3) := zrD zrw_cJ1_indexOfChar_4cfef_0 (i := 25) (by decide +kernel) rfl
theorem dJ1_indexOfChar_4cfef_28 : decode cJ1_indexOfChar_4cfef 28 = .ok (.goto (-21), 3) := zrD zrw_cJ1_indexOfChar_4cfef_0 (i := 28) (by decide +kernel) rfl
theorem dJ1_indexOfChar_4cfef_31 : decode cJ1_indexOfChar_4cfef 31 = .ok (.iconst (-1), 1) := zrD zrw_cJ1_indexOfChar_4cfef_0 (i := 31) (by decide +kernel) rfl
def zrk_cJ1_indexOfChar_4cfef_32 : ByteArray := .mk #[172]
theorem zrw_cJ1_indexOfChar_4cfef_32 : zrW 32 cJ1_indexOfChar_4cfef zrk_cJ1_indexOfChar_4cfef_32 := by unfold zrW; decide +kernel
theorem dJ1_indexOfChar_4cfef_32 : decode cJ1_indexOfChar_4cfef 32 = .ok (.ireturn, 1) := zrD zrw_cJ1_indexOfChar_4cfef_32 (i := 0) (by decide +kernel) rfl
def zrk_cJ11_isValidCodePoint_9a6ad_0 : ByteArray := .mk #[26, 16, 16, 124, 60, 27, 16, 17, 162, 0, 7, 4, 167, 0, 4, 3, 172]
theorem zrw_cJ11_isValidCodePoint_9a6ad_0 : zrW 0 cJ11_isValidCodePoint_9a6ad zrk_cJ11_isValidCodePoint_9a6ad_0 := by unfold zrW; decide +kernel
theorem dJ11_isValidCodePoint_9a6ad_0 : decode cJ11_isValidCodePoint_9a6ad 0 = .ok (.iload_n 0, 1) := zrD zrw_cJ11_isValidCodePoint_9a6ad_0 (i := 0) (by decide +kernel) rfl
theorem dJ11_isValidCodePoint_9a6ad_1 : decode cJ11_isValidCodePoint_9a6ad 1 = .ok (.bipush 16, 2) := zrD zrw_cJ11_isValidCodePoint_9a6ad_0 (i := 1) (by decide +kernel) rfl
theorem dJ11_isValidCodePoint_9a6ad_3 : decode cJ11_isValidCodePoint_9a6ad 3 = .ok (.iushr, 1) := zrD zrw_cJ11_isValidCodePoint_9a6ad_0 (i := 3) (by decide +kernel) rfl
theorem dJ11_isValidCodePoint_9a6ad_4 : decode cJ11_isValidCodePoint_9a6ad 4 = .ok (.istore_n 1, 1) := zrD zrw_cJ11_isValidCodePoint_9a6ad_0 (i := 4) (by decide +kernel) rfl
theorem dJ11_isValidCodePoint_9a6ad_5 : decode cJ11_isValidCodePoint_9a6ad 5 = .ok (.iload_n 1, 1) := zrD zrw_cJ11_isValidCodePoint_9a6ad_0 (i := 5) (by decide +kernel) rfl
theorem dJ11_isValidCodePoint_9a6ad_6 : decode cJ11_isValidCodePoint_9a6ad 6 = .ok (.bipush 17, 2) := zrD zrw_cJ11_isValidCodePoint_9a6ad_0 (i := 6) (by decide +kernel) rfl
theorem dJ11_isValidCodePoint_9a6ad_8 : decode cJ11_isValidCodePoint_9a6ad 8 = .ok (.if_icmp .ge 7, 3) := zrD zrw_cJ11_isValidCodePoint_9a6ad_0 (i := 8) (by decide +kernel) rfl
theorem dJ11_isValidCodePoint_9a6ad_11 : decode cJ11_isValidCodePoint_9a6ad 11 = .ok (.iconst 1, 1) := zrD zrw_cJ11_isValidCodePoint_9a6ad_0 (i := 11) (by decide +kernel) rfl
theorem dJ11_isValidCodePoint_9a6ad_12 : decode cJ11_isValidCodePoint_9a6ad 12 = .ok (.goto 4, 3) := zrD zrw_cJ11_isValidCodePoint_9a6ad_0 (i := 12) (by decide +kernel) rfl
theorem dJ11_isValidCodePoint_9a6ad_15 : decode cJ11_isValidCodePoint_9a6ad 15 = .ok (.iconst 0, 1) := zrD zrw_cJ11_isValidCodePoint_9a6ad_0 (i := 15) (by decide +kernel) rfl
theorem dJ11_isValidCodePoint_9a6ad_16 : decode cJ11_isValidCodePoint_9a6ad 16 = .ok (.ireturn, 1) := zrD zrw_cJ11_isValidCodePoint_9a6ad_0 (i := 16) (by decide +kernel) rfl
def zrk_cJ11_highSurrogate_5068e_0 : ByteArray := .mk #[26, 16, 10, 124, 18, 110, 96, 146, 172]
theorem zrw_cJ11_highSurrogate_5068e_0 : zrW 0 cJ11_highSurrogate_5068e zrk_cJ11_highSurrogate_5068e_0 := by unfold zrW; decide +kernel
theorem dJ11_highSurrogate_5068e_0 : decode cJ11_highSurrogate_5068e 0 = .ok (.iload_n 0, 1) := zrD zrw_cJ11_highSurrogate_5068e_0 (i := 0) (by decide +kernel) rfl
theorem dJ11_highSurrogate_5068e_1 : decode cJ11_highSurrogate_5068e 1 = .ok (.bipush 10, 2) := zrD zrw_cJ11_highSurrogate_5068e_0 (i := 1) (by decide +kernel) rfl
theorem dJ11_highSurrogate_5068e_3 : decode cJ11_highSurrogate_5068e 3 = .ok (.iushr, 1) := zrD zrw_cJ11_highSurrogate_5068e_0 (i := 3) (by decide +kernel) rfl
theorem dJ11_highSurrogate_5068e_4 : decode cJ11_highSurrogate_5068e 4 = .ok (.ldc 110, 2) := zrD zrw_cJ11_highSurrogate_5068e_0 (i := 4) (by decide +kernel) rfl
theorem dJ11_highSurrogate_5068e_6 : decode cJ11_highSurrogate_5068e 6 = .ok (.iadd, 1) := zrD zrw_cJ11_highSurrogate_5068e_0 (i := 6) (by decide +kernel) rfl
theorem dJ11_highSurrogate_5068e_7 : decode cJ11_highSurrogate_5068e 7 = .ok (.i2c, 1) := zrD zrw_cJ11_highSurrogate_5068e_0 (i := 7) (by decide +kernel) rfl
theorem dJ11_highSurrogate_5068e_8 : decode cJ11_highSurrogate_5068e 8 = .ok (.ireturn, 1) := zrD zrw_cJ11_highSurrogate_5068e_0 (i := 8) (by decide +kernel) rfl
def zrk_cJ11_lowSurrogate_5068e_0 : ByteArray := .mk #[26, 17, 3, 255, 126, 18, 76, 96, 146, 172]
theorem zrw_cJ11_lowSurrogate_5068e_0 : zrW 0 cJ11_lowSurrogate_5068e zrk_cJ11_lowSurrogate_5068e_0 := by unfold zrW; decide +kernel
theorem dJ11_lowSurrogate_5068e_0 : decode cJ11_lowSurrogate_5068e 0 = .ok (.iload_n 0, 1) := zrD zrw_cJ11_lowSurrogate_5068e_0 (i := 0) (by decide +kernel) rfl
theorem dJ11_lowSurrogate_5068e_1 : decode cJ11_lowSurrogate_5068e 1 = .ok (.sipush 1023, 3) := zrD zrw_cJ11_lowSurrogate_5068e_0 (i := 1) (by decide +kernel) rfl
theorem dJ11_lowSurrogate_5068e_4 : decode cJ11_lowSurrogate_5068e 4 = .ok (.iand, 1) := zrD zrw_cJ11_lowSurrogate_5068e_0 (i := 4) (by decide +kernel) rfl
theorem dJ11_lowSurrogate_5068e_5 : decode cJ11_lowSurrogate_5068e 5 = .ok (.ldc 76, 2) := zrD zrw_cJ11_lowSurrogate_5068e_0 (i := 5) (by decide +kernel) rfl
theorem dJ11_lowSurrogate_5068e_7 : decode cJ11_lowSurrogate_5068e 7 = .ok (.iadd, 1) := zrD zrw_cJ11_lowSurrogate_5068e_0 (i := 7) (by decide +kernel) rfl
theorem dJ11_lowSurrogate_5068e_8 : decode cJ11_lowSurrogate_5068e 8 = .ok (.i2c, 1) := zrD zrw_cJ11_lowSurrogate_5068e_0 (i := 8) (by decide +kernel) rfl
theorem dJ11_lowSurrogate_5068e_9 : decode cJ11_lowSurrogate_5068e 9 = .ok (.ireturn, 1) := zrD zrw_cJ11_lowSurrogate_5068e_0 (i := 9) (by decide +kernel) rfl
def zrk_cJ2_getChar_3b067_0 : ByteArray := .mk #[178, 0, 44, 154, 0, 25, 27, 155, 0, 11, 27, 42, 184, 0, 48, 161, 0, 13, 187, 0, 52, 89, 18, 54, 183, 0, 56, 191, 27, 4, 120, 60]
theorem zrw_cJ2_getChar_3b067_0 : zrW 0 cJ2_getChar_3b067 zrk_cJ2_getChar_3b067_0 := by unfold zrW; decide +kernel
theorem dJ2_getChar_3b067_0 : decode cJ2_getChar_3b067 0 = .ok (.getstatic 44, 3) := zrD zrw_cJ2_getChar_3b067_0 (i := 0) (by decide +kernel) rfl
theorem dJ2_getChar_3b067_3 : decode cJ2_getChar_3b067 3 = .ok (.ifCond .ne 25, 3) := zrD zrw_cJ2_getChar_3b067_0 (i := 3) (by decide +kernel) rfl
theorem dJ2_getChar_3b067_6 : decode cJ2_getChar_3b067 6 = .ok (.iload_n 1, 1) := zrD zrw_cJ2_getChar_3b067_0 (i := 6) (by decide +kernel) rfl
theorem dJ2_getChar_3b067_7 : decode cJ2_getChar_3b067 7 = .ok (.ifCond .lt 11, 3) := zrD zrw_cJ2_getChar_3b067_0 (i := 7) (by decide +kernel) rfl
theorem dJ2_getChar_3b067_10 : decode cJ2_getChar_3b067 10 = .ok (.iload_n 1, 1) := zrD zrw_cJ2_getChar_3b067_0 (i := 10) (by decide +kernel) rfl
theorem dJ2_getChar_3b067_11 : decode cJ2_getChar_3b067 11 = .ok (.aload_n 0, 1) := zrD zrw_cJ2_getChar_3b067_0 (i := 11) (by decide +kernel) rfl
theorem dJ2_getChar_3b067_12 : decode cJ2_getChar_3b067 12 = .ok (.invokestatic 48, 3) := zrD zrw_cJ2_getChar_3b067_0 (i := 12) (by decide +kernel) rfl
theorem dJ2_getChar_3b067_15 : decode cJ2_getChar_3b067 15 = .ok (.if_icmp .lt 13, 3) := zrD zrw_cJ2_getChar_3b067_0 (i := 15) (by decide +kernel) rfl
theorem dJ2_getChar_3b067_18 : decode cJ2_getChar_3b067 18 = .ok (.new 52, 3) := zrD zrw_cJ2_getChar_3b067_0 (i := 18) (by decide +kernel) rfl
theorem dJ2_getChar_3b067_21 : decode cJ2_getChar_3b067 21 = .ok (.dup, 1) := zrD zrw_cJ2_getChar_3b067_0 (i := 21) (by decide +kernel) rfl
theorem dJ2_getChar_3b067_22 : decode cJ2_getChar_3b067 22 = .ok (.ldc 54, 2) := zrD zrw_cJ2_getChar_3b067_0 (i := 22) (by decide +kernel) rfl
theorem dJ2_getChar_3b067_24 : decode cJ2_getChar_3b067 24 = .ok (.invokespecial 56, 3) := zrD zrw_cJ2_getChar_3b067_0 (i := 24) (by decide +kernel) rfl
theorem dJ2_getChar_3b067_27 : decode cJ2_getChar_3b067 27 = .ok (.athrow, 1) := zrD zrw_cJ2_getChar_3b067_0 (i := 27) (by decide +kernel) rfl
theorem dJ2_getChar_3b067_28 : decode cJ2_getChar_3b067 28 = .ok (.iload_n 1, 1) := zrD zrw_cJ2_getChar_3b067_0 (i := 28) (by decide +kernel) rfl
theorem dJ2_getChar_3b067_29 : decode cJ2_getChar_3b067 29 = .ok (.iconst 1, 1) := zrD zrw_cJ2_getChar_3b067_0 (i := 29) (by decide +kernel) rfl
theorem dJ2_getChar_3b067_30 : decode cJ2_getChar_3b067 30 = .ok (.ishl, 1) := zrD zrw_cJ2_getChar_3b067_0 (i := 30) (by decide +kernel) rfl
theorem dJ2_getChar_3b067_31 : decode cJ2_getChar_3b067 31 = .ok (.istore_n 1, 1) := zrD zrw_cJ2_getChar_3b067_0 (i := 31) (by decide +kernel) rfl
def zrk_cJ2_getChar_3b067_32 : ByteArray := .mk #[42, 27, 132, 1, 1, 51, 17, 0, 255, 126, 178, 0, 59, 120, 42, 27, 51, 17, 0, 255, 126, 178, 0, 63, 120, 128, 146, 172]
theorem zrw_cJ2_getChar_3b067_32 : zrW 32 cJ2_getChar_3b067 zrk_cJ2_getChar_3b067_32 := by unfold zrW; decide +kernel
theorem dJ2_getChar_3b067_32 : decode cJ2_getChar_3b067 32 = .ok (.aload_n 0, 1) := zrD zrw_cJ2_getChar_3b067_32 (i := 0) (by decide +kernel) rfl
theorem dJ2_getChar_3b067_33 : decode cJ2_getChar_3b067 33 = .ok (.iload_n 1, 1) := zrD zrw_cJ2_getChar_3b067_32 (i := 1) (by decide +kernel) rfl
theorem dJ2_getChar_3b067_34 : decode cJ2_getChar_3b067 34 = .ok (.iinc 1 1, 3) := zrD zrw_cJ2_getChar_3b067_32 (i := 2) (by decide +kernel) rfl
theorem dJ2_getChar_3b067_37 : decode cJ2_getChar_3b067 37 = .ok (.baload, 1) := zrD zrw_cJ2_getChar_3b067_32 (i := 5) (by decide +kernel) rfl
theorem dJ2_getChar_3b067_38 : decode cJ2_getChar_3b067 38 = .ok (.sipush 255, 3) := zrD zrw_cJ2_getChar_3b067_32 (i := 6) (by decide +kernel) rfl
theorem dJ2_getChar_3b067_41 : decode cJ2_getChar_3b067 41 = .ok (.iand, 1) := zrD zrw_cJ2_getChar_3b067_32 (i := 9) (by decide +kernel) rfl
theorem dJ2_getChar_3b067_42 : decode cJ2_getChar_3b067 42 = .ok (.getstatic 59, 3) := zrD zrw_cJ2_getChar_3b067_32 (i := 10) (by decide +kernel) rfl
theorem dJ2_getChar_3b067_45 : decode cJ2_getChar_3b067 45 = .ok (.ishl, 1) := zrD zrw_cJ2_getChar_3b067_32 (i := 13) (by decide +kernel) rfl
theorem dJ2_getChar_3b067_46 : decode cJ2_getChar_3b067 46 = .ok (.aload_n 0, 1) := zrD zrw_cJ2_getChar_3b067_32 (i := 14) (by decide +kernel) rfl
theorem dJ2_getChar_3b067_47 : decode cJ2_getChar_3b067 47 = .ok (.iload_n 1, 1) := zrD zrw_cJ2_getChar_3b067_32 (i := 15) (by decide +kernel) rfl
theorem dJ2_getChar_3b067_48 : decode cJ2_getChar_3b067 48 = .ok (.baload, 1) := zrD zrw_cJ2_getChar_3b067_32 (i := 16) (by decide +kernel) rfl
theorem dJ2_getChar_3b067_49 : decode cJ2_getChar_3b067 49 = .ok (.sipush 255, 3) := zrD zrw_cJ2_getChar_3b067_32 (i := 17) (by decide +kernel) rfl
theorem dJ2_getChar_3b067_52 : decode cJ2_getChar_3b067 52 = .ok (.iand, 1) := zrD zrw_cJ2_getChar_3b067_32 (i := 20) (by decide +kernel) rfl
theorem dJ2_getChar_3b067_53 : decode cJ2_getChar_3b067 53 = .ok (.getstatic 63, 3) := zrD zrw_cJ2_getChar_3b067_32 (i := 21) (by decide +kernel) rfl
theorem dJ2_getChar_3b067_56 : decode cJ2_getChar_3b067 56 = .ok (.ishl, 1) := zrD zrw_cJ2_getChar_3b067_32 (i := 24) (by decide +kernel) rfl
theorem dJ2_getChar_3b067_57 : decode cJ2_getChar_3b067 57 = .ok (.ior, 1) := zrD zrw_cJ2_getChar_3b067_32 (i := 25) (by decide +kernel) rfl
theorem dJ2_getChar_3b067_58 : decode cJ2_getChar_3b067 58 = .ok (.i2c, 1) := zrD zrw_cJ2_getChar_3b067_32 (i := 26) (by decide +kernel) rfl
theorem dJ2_getChar_3b067_59 : decode cJ2_getChar_3b067 59 = .ok (.ireturn, 1) := zrD zrw_cJ2_getChar_3b067_32 (i := 27) (by decide +kernel) rfl
def zrk_cJ2_length_9d52b_0 : ByteArray := .mk #[42, 190, 4, 122, 172]
theorem zrw_cJ2_length_9d52b_0 : zrW 0 cJ2_length_9d52b zrk_cJ2_length_9d52b_0 := by unfold zrW; decide +kernel
theorem dJ2_length_9d52b_0 : decode cJ2_length_9d52b 0 = .ok (.aload_n 0, 1) := zrD zrw_cJ2_length_9d52b_0 (i := 0) (by decide +kernel) rfl
theorem dJ2_length_9d52b_1 : decode cJ2_length_9d52b 1 = .ok (.arraylength, 1) := zrD zrw_cJ2_length_9d52b_0 (i := 1) (by decide +kernel) rfl
theorem dJ2_length_9d52b_2 : decode cJ2_length_9d52b 2 = .ok (.iconst 1, 1) := zrD zrw_cJ2_length_9d52b_0 (i := 2) (by decide +kernel) rfl
theorem dJ2_length_9d52b_3 : decode cJ2_length_9d52b 3 = .ok (.ishr, 1) := zrD zrw_cJ2_length_9d52b_0 (i := 3) (by decide +kernel) rfl
theorem dJ2_length_9d52b_4 : decode cJ2_length_9d52b 4 = .ok (.ireturn, 1) := zrD zrw_cJ2_length_9d52b_0 (i := 4) (by decide +kernel) rfl
def zrk_cJ2_indexOf_4cfef_0 : ByteArray := .mk #[28, 3, 184, 0, 224, 61, 29, 42, 190, 4, 122, 184, 0, 183, 62, 28, 29, 161, 0, 5, 2, 172, 27, 18, 227, 162, 0, 11, 42, 27, 28, 29]
theorem zrw_cJ2_indexOf_4cfef_0 : zrW 0 cJ2_indexOf_4cfef zrk_cJ2_indexOf_4cfef_0 := by unfold zrW; decide +kernel
theorem dJ2_indexOf_4cfef_0 : decode cJ2_indexOf_4cfef 0 = .ok (.iload_n 2, 1) := zrD zrw_cJ2_indexOf_4cfef_0 (i := 0) (by decide +kernel) rfl
theorem dJ2_indexOf_4cfef_1 : decode cJ2_indexOf_4cfef 1 = .ok (.iconst 0, 1) := zrD zrw_cJ2_indexOf_4cfef_0 (i := 1) (by decide +kernel) rfl
theorem dJ2_indexOf_4cfef_2 : decode cJ2_indexOf_4cfef 2 = .ok (.invokestatic 224, 3) := zrD zrw_cJ2_indexOf_4cfef_0 (i := 2) (by decide +kernel) rfl
theorem dJ2_indexOf_4cfef_5 : decode cJ2_indexOf_4cfef 5 = .ok (.istore_n 2, 1) := zrD zrw_cJ2_indexOf_4cfef_0 (i := 5) (by decide +kernel) rfl
theorem dJ2_indexOf_4cfef_6 : decode cJ2_indexOf_4cfef 6 = .ok (.iload_n 3, 1) := zrD zrw_cJ2_indexOf_4cfef_0 (i := 6) (by decide +kernel) rfl
theorem dJ2_indexOf_4cfef_7 : decode cJ2_indexOf_4cfef 7 = .ok (.aload_n 0, 1) := zrD zrw_cJ2_indexOf_4cfef_0 (i := 7) (by decide +kernel) rfl
theorem dJ2_indexOf_4cfef_8 : decode cJ2_indexOf_4cfef 8 = .ok (.arraylength, 1) := zrD zrw_cJ2_indexOf_4cfef_0 (i := 8) (by decide +kernel) rfl
theorem dJ2_indexOf_4cfef_9 : decode cJ2_indexOf_4cfef 9 = .ok (.iconst 1, 1) := zrD zrw_cJ2_indexOf_4cfef_0 (i := 9) (by decide +kernel) rfl
theorem dJ2_indexOf_4cfef_10 : decode cJ2_indexOf_4cfef 10 = .ok (.ishr, 1) := zrD zrw_cJ2_indexOf_4cfef_0 (i := 10) (by decide +kernel) rfl
theorem dJ2_indexOf_4cfef_11 : decode cJ2_indexOf_4cfef 11 = .ok (.invokestatic 183, 3) := zrD zrw_cJ2_indexOf_4cfef_0 (i := 11) (by decide +kernel) rfl
theorem dJ2_indexOf_4cfef_14 : decode cJ2_indexOf_4cfef 14 = .ok (.istore_n 3, 1) := zrD zrw_cJ2_indexOf_4cfef_0 (i := 14) (by decide +kernel) rfl
theorem dJ2_indexOf_4cfef_15 : decode cJ2_indexOf_4cfef 15 = .ok (.iload_n 2, 1) := zrD zrw_cJ2_indexOf_4cfef_0 (i := 15) (by decide +kernel) rfl
theorem dJ2_indexOf_4cfef_16 : decode cJ2_indexOf_4cfef 16 = .ok (.iload_n 3, 1) := zrD zrw_cJ2_indexOf_4cfef_0 (i := 16) (by decide +kernel) rfl
theorem dJ2_indexOf_4cfef_17 : decode cJ2_indexOf_4cfef 17 = .ok (.if_icmp .lt 5, 3) := zrD zrw_cJ2_indexOf_4cfef_0 (i := 17) (by decide +kernel) rfl
theorem dJ2_indexOf_4cfef_20 : decode cJ2_indexOf_4cfef 20 = .ok (.iconst (-1), 1) := zrD zrw_cJ2_indexOf_4cfef_0 (i := 20) (by decide +kernel) rfl
theorem dJ2_indexOf_4cfef_21 : decode cJ2_indexOf_4cfef 21 = .ok (.ireturn, 1) := zrD zrw_cJ2_indexOf_4cfef_0 (i := 21) (by decide +kernel) rfl
theorem dJ2_indexOf_4cfef_22 : decode cJ2_indexOf_4cfef 22 = .ok (.iload_n 1, 1) := zrD zrw_cJ2_indexOf_4cfef_0 (i := 22) (by decide +kernel) rfl
theorem dJ2_indexOf_4cfef_23 : decode cJ2_indexOf_4cfef 23 = .ok (.ldc 227, 2) := zrD zrw_cJ2_indexOf_4cfef_0 (i := 23) (by decide +kernel) rfl
theorem dJ2_indexOf_4cfef_25 : decode cJ2_indexOf_4cfef 25 = .ok (.if_icmp .ge 11, 3) := zrD zrw_cJ2_indexOf_4cfef_0 (i := 25) (by decide +kernel) rfl
theorem dJ2_indexOf_4cfef_28 : decode cJ2_indexOf_4cfef 28 = .ok (.aload_n 0, 1) := zrD zrw_cJ2_indexOf_4cfef_0 (i := 28) (by decide +kernel) rfl
theorem dJ2_indexOf_4cfef_29 : decode cJ2_indexOf_4cfef 29 = .ok (.iload_n 1, 1) := zrD zrw_cJ2_indexOf_4cfef_0 (i := 29) (by decide +kernel) rfl
theorem dJ2_indexOf_4cfef_30 : decode cJ2_indexOf_4cfef 30 = .ok (.iload_n 2, 1) := zrD zrw_cJ2_indexOf_4cfef_0 (i := 30) (by decide +kernel) rfl
theorem dJ2_indexOf_4cfef_31 : decode cJ2_indexOf_4cfef 31 = .ok (.iload_n 3, 1) := zrD zrw_cJ2_indexOf_4cfef_0 (i := 31) (by decide +kernel) rfl
def zrk_cJ2_indexOf_4cfef_32 : ByteArray := .mk #[184, 0, 228, 172, 42, 27, 28, 29, 184, 0, 232, 172]
theorem zrw_cJ2_indexOf_4cfef_32 : zrW 32 cJ2_indexOf_4cfef zrk_cJ2_indexOf_4cfef_32 := by unfold zrW; decide +kernel
theorem dJ2_indexOf_4cfef_32 : decode cJ2_indexOf_4cfef 32 = .ok (.invokestatic 228, 3) := zrD zrw_cJ2_indexOf_4cfef_32 (i := 0) (by decide +kernel) rfl
theorem dJ2_indexOf_4cfef_35 : decode cJ2_indexOf_4cfef 35 = .ok (.ireturn, 1) := zrD zrw_cJ2_indexOf_4cfef_32 (i := 3) (by decide +kernel) rfl
theorem dJ2_indexOf_4cfef_36 : decode cJ2_indexOf_4cfef 36 = .ok (.aload_n 0, 1) := zrD zrw_cJ2_indexOf_4cfef_32 (i := 4) (by decide +kernel) rfl
theorem dJ2_indexOf_4cfef_37 : decode cJ2_indexOf_4cfef 37 = .ok (.iload_n 1, 1) := zrD zrw_cJ2_indexOf_4cfef_32 (i := 5) (by decide +kernel) rfl
theorem dJ2_indexOf_4cfef_38 : decode cJ2_indexOf_4cfef 38 = .ok (.iload_n 2, 1) := zrD zrw_cJ2_indexOf_4cfef_32 (i := 6) (by decide +kernel) rfl
theorem dJ2_indexOf_4cfef_39 : decode cJ2_indexOf_4cfef 39 = .ok (.iload_n 3, 1) := zrD zrw_cJ2_indexOf_4cfef_32 (i := 7) (by decide +kernel) rfl
theorem dJ2_indexOf_4cfef_40 : decode cJ2_indexOf_4cfef 40 = .ok (.invokestatic 232, 3) := zrD zrw_cJ2_indexOf_4cfef_32 (i := 8) (by decide +kernel) rfl
theorem dJ2_indexOf_4cfef_43 : decode cJ2_indexOf_4cfef 43 = .ok (.ireturn, 1) := zrD zrw_cJ2_indexOf_4cfef_32 (i := 11) (by decide +kernel) rfl
def zrk_cJ2_indexOfChar_4cfef_0 : ByteArray := .mk #[28, 29, 42, 184, 0, 96, 42, 27, 28, 29, 184, 0, 244, 172]
theorem zrw_cJ2_indexOfChar_4cfef_0 : zrW 0 cJ2_indexOfChar_4cfef zrk_cJ2_indexOfChar_4cfef_0 := by unfold zrW; decide +kernel
theorem dJ2_indexOfChar_4cfef_0 : decode cJ2_indexOfChar_4cfef 0 = .ok (.iload_n 2, 1) := zrD zrw_cJ2_indexOfChar_4cfef_0 (i := 0) (by decide +kernel) rfl
theorem dJ2_indexOfChar_4cfef_1 : decode cJ2_indexOfChar_4cfef 1 = .ok (.iload_n 3, 1) := zrD zrw_cJ2_indexOfChar_4cfef_0 (i := 1) (by decide +kernel) rfl
theorem dJ2_indexOfChar_4cfef_2 : decode cJ2_indexOfChar_4cfef 2 = .ok (.aload_n 0, 1) := zrD zrw_cJ2_indexOfChar_4cfef_0 (i := 2) (by decide +kernel) rfl
theorem dJ2_indexOfChar_4cfef_3 : decode cJ2_indexOfChar_4cfef 3 = .ok (.invokestatic 96, 3) := zrD zrw_cJ2_indexOfChar_4cfef_0 (i := 3) (by decide +kernel) rfl
theorem dJ2_indexOfChar_4cfef_6 : decode cJ2_indexOfChar_4cfef 6 = .ok (.aload_n 0, 1) := zrD zrw_cJ2_indexOfChar_4cfef_0 (i := 6) (by decide +kernel) rfl
theorem dJ2_indexOfChar_4cfef_7 : decode cJ2_indexOfChar_4cfef 7 = .ok (.iload_n 1, 1) := zrD zrw_cJ2_indexOfChar_4cfef_0 (i := 7) (by decide +kernel) rfl
theorem dJ2_indexOfChar_4cfef_8 : decode cJ2_indexOfChar_4cfef 8 = .ok (.iload_n 2, 1) := zrD zrw_cJ2_indexOfChar_4cfef_0 (i := 8) (by decide +kernel) rfl
theorem dJ2_indexOfChar_4cfef_9 : decode cJ2_indexOfChar_4cfef 9 = .ok (.iload_n 3, 1) := zrD zrw_cJ2_indexOfChar_4cfef_0 (i := 9) (by decide +kernel) rfl
theorem dJ2_indexOfChar_4cfef_10 : decode cJ2_indexOfChar_4cfef 10 = .ok (.invokestatic 244, 3) := zrD zrw_cJ2_indexOfChar_4cfef_0 (i := 10) (by decide +kernel) rfl
theorem dJ2_indexOfChar_4cfef_13 : decode cJ2_indexOfChar_4cfef 13 = .ok (.ireturn, 1) := zrD zrw_cJ2_indexOfChar_4cfef_0 (i := 13) (by decide +kernel) rfl
def zrk_cJ2_indexOfCharUnsafe_4cfef_0 : ByteArray := .mk #[28, 54, 4, 21, 4, 29, 162, 0, 22, 42, 21, 4, 184, 0, 71, 27, 160, 0, 6, 21, 4, 172, 132, 4, 1, 167, 255, 234, 2, 172]
theorem zrw_cJ2_indexOfCharUnsafe_4cfef_0 : zrW 0 cJ2_indexOfCharUnsafe_4cfef zrk_cJ2_indexOfCharUnsafe_4cfef_0 := by unfold zrW; decide +kernel
theorem dJ2_indexOfCharUnsafe_4cfef_0 : decode cJ2_indexOfCharUnsafe_4cfef 0 = .ok (.iload_n 2, 1) := zrD zrw_cJ2_indexOfCharUnsafe_4cfef_0 (i := 0) (by decide +kernel) rfl
theorem dJ2_indexOfCharUnsafe_4cfef_1 : decode cJ2_indexOfCharUnsafe_4cfef 1 = .ok (.istore 4, 2) := zrD zrw_cJ2_indexOfCharUnsafe_4cfef_0 (i := 1) (by decide +kernel) rfl
theorem dJ2_indexOfCharUnsafe_4cfef_3 : decode cJ2_indexOfCharUnsafe_4cfef 3 = .ok (.iload 4, 2) := zrD zrw_cJ2_indexOfCharUnsafe_4cfef_0 (i := 3) (by decide +kernel) rfl
theorem dJ2_indexOfCharUnsafe_4cfef_5 : decode cJ2_indexOfCharUnsafe_4cfef 5 = .ok (.iload_n 3, 1) := zrD zrw_cJ2_indexOfCharUnsafe_4cfef_0 (i := 5) (by decide +kernel) rfl
theorem dJ2_indexOfCharUnsafe_4cfef_6 : decode cJ2_indexOfCharUnsafe_4cfef 6 = .ok (.if_icmp .ge 22, 3) := zrD zrw_cJ2_indexOfCharUnsafe_4cfef_0 (i := 6) (by decide +kernel) rfl
theorem dJ2_indexOfCharUnsafe_4cfef_9 : decode cJ2_indexOfCharUnsafe_4cfef 9 = .ok (.aload_n 0, 1) := zrD zrw_cJ2_indexOfCharUnsafe_4cfef_0 (i := 9) (by decide +kernel) rfl
theorem dJ2_indexOfCharUnsafe_4cfef_10 : decode cJ2_indexOfCharUnsafe_4cfef 10 = .ok (.iload 4, 2) := zrD zrw_cJ2_indexOfCharUnsafe_4cfef_0 (i := 10) (by decide +kernel) rfl
theorem dJ2_indexOfCharUnsafe_4cfef_12 : decode cJ2_indexOfCharUnsafe_4cfef 12 = .ok (.invokestatic 71, 3) := zrD zrw_cJ2_indexOfCharUnsafe_4cfef_0 (i := 12) (by decide +kernel) rfl
theorem dJ2_indexOfCharUnsafe_4cfef_15 : decode cJ2_indexOfCharUnsafe_4cfef 15 = .ok (.iload_n 1, 1) := zrD zrw_cJ2_indexOfCharUnsafe_4cfef_0 (i := 15) (by decide +kernel) rfl
theorem dJ2_indexOfCharUnsafe_4cfef_16 : decode cJ2_indexOfCharUnsafe_4cfef 16 = .ok (.if_icmp .ne 6, 3) := zrD zrw_cJ2_indexOfCharUnsafe_4cfef_0 (i := 16) (by decide +kernel) rfl
theorem dJ2_indexOfCharUnsafe_4cfef_19 : decode cJ2_indexOfCharUnsafe_4cfef 19 = .ok (.iload 4, 2) := zrD zrw_cJ2_indexOfCharUnsafe_4cfef_0 (i := 19) (by decide +kernel) rfl
theorem dJ2_indexOfCharUnsafe_4cfef_21 : decode cJ2_indexOfCharUnsafe_4cfef 21 = .ok (.ireturn, 1) := zrD zrw_cJ2_indexOfCharUnsafe_4cfef_0 (i := 21) (by decide +kernel) rfl
theorem dJ2_indexOfCharUnsafe_4cfef_22 : decode cJ2_indexOfCharUnsafe_4cfef 22 = .ok (.iinc 4 1, 3) := zrD zrw_cJ2_indexOfCharUnsafe_4cfef_0 (i := 22) (by decide +kernel) rfl
theorem dJ2_indexOfCharUnsafe_4cfef_25 : decode cJ2_indexOfCharUnsafe_4cfef 25 = .ok (.goto (-22), 3) := zrD zrw_cJ2_indexOfCharUnsafe_4cfef_0 (i := 25) (by decide +kernel) rfl
theorem dJ2_indexOfCharUnsafe_4cfef_28 : decode cJ2_indexOfCharUnsafe_4cfef 28 = .ok (.iconst (-1), 1) := zrD zrw_cJ2_indexOfCharUnsafe_4cfef_0 (i := 28) (by decide +kernel) rfl
theorem dJ2_indexOfCharUnsafe_4cfef_29 : decode cJ2_indexOfCharUnsafe_4cfef 29 = .ok (.ireturn, 1) := zrD zrw_cJ2_indexOfCharUnsafe_4cfef_0 (i := 29) (by decide +kernel) rfl
def zrk_cJ2_indexOfSupplementary_4cfef_0 : ByteArray := .mk #[27, 184, 0, 164, 153, 0, 65, 27, 184, 0, 157, 54, 4, 27, 184, 0, 161, 54, 5, 28, 29, 42, 184, 0, 96, 28, 54, 6, 21, 6, 29, 4]
theorem zrw_cJ2_indexOfSupplementary_4cfef_0 : zrW 0 cJ2_indexOfSupplementary_4cfef zrk_cJ2_indexOfSupplementary_4cfef_0 := by unfold zrW; decide +kernel
theorem dJ2_indexOfSupplementary_4cfef_0 : decode cJ2_indexOfSupplementary_4cfef 0 = .ok (.iload_n 1, 1) := zrD zrw_cJ2_indexOfSupplementary_4cfef_0 (i := 0) (by decide +kernel) rfl
theorem dJ2_indexOfSupplementary_4cfef_1 : decode cJ2_indexOfSupplementary_4cfef 1 = .ok (.invokestatic 164, 3) := zrD zrw_cJ2_indexOfSupplementary_4cfef_0 (i := 1) (by decide +kernel) rfl
theorem dJ2_indexOfSupplementary_4cfef_4 : decode cJ2_indexOfSupplementary_4cfef 4 = .ok (.ifCond .eq 65, 3) := zrD zrw_cJ2_indexOfSupplementary_4cfef_0 (i := 4) (by decide +kernel) rfl
theorem dJ2_indexOfSupplementary_4cfef_7 : decode cJ2_indexOfSupplementary_4cfef 7 = .ok (.iload_n 1, 1) := zrD zrw_cJ2_indexOfSupplementary_4cfef_0 (i := 7) (by decide +kernel) rfl
theorem dJ2_indexOfSupplementary_4cfef_8 : decode cJ2_indexOfSupplementary_4cfef 8 = .ok (.invokestatic 157, 3) := zrD zrw_cJ2_indexOfSupplementary_4cfef_0 (i := 8) (by decide +kernel) rfl
theorem dJ2_indexOfSupplementary_4cfef_11 : decode cJ2_indexOfSupplementary_4cfef 11 = .ok (.istore 4, 2) := zrD zrw_cJ2_indexOfSupplementary_4cfef_0 (i := 11) (by decide +kernel) rfl
theorem dJ2_indexOfSupplementary_4cfef_13 : decode cJ2_indexOfSupplementary_4cfef 13 = .ok (.iload_n 1, 1) := zrD zrw_cJ2_indexOfSupplementary_4cfef_0 (i := 13) (by decide +kernel) rfl
theorem dJ2_indexOfSupplementary_4cfef_14 : decode cJ2_indexOfSupplementary_4cfef 14 = .ok (.invokestatic 161, 3) := zrD zrw_cJ2_indexOfSupplementary_4cfef_0 (i := 14) (by decide +kernel) rfl
theorem dJ2_indexOfSupplementary_4cfef_17 : decode cJ2_indexOfSupplementary_4cfef 17 = .ok (.istore 5, 2) := zrD zrw_cJ2_indexOfSupplementary_4cfef_0 (i := 17) (by decide +kernel) rfl
theorem dJ2_indexOfSupplementary_4cfef_19 : decode cJ2_indexOfSupplementary_4cfef 19 = .ok (.iload_n 2, 1) := zrD zrw_cJ2_indexOfSupplementary_4cfef_0 (i := 19) (by decide +kernel) rfl
theorem dJ2_indexOfSupplementary_4cfef_20 : decode cJ2_indexOfSupplementary_4cfef 20 = .ok (.iload_n 3, 1) := zrD zrw_cJ2_indexOfSupplementary_4cfef_0 (i := 20) (by decide +kernel) rfl
theorem dJ2_indexOfSupplementary_4cfef_21 : decode cJ2_indexOfSupplementary_4cfef 21 = .ok (.aload_n 0, 1) := zrD zrw_cJ2_indexOfSupplementary_4cfef_0 (i := 21) (by decide +kernel) rfl
theorem dJ2_indexOfSupplementary_4cfef_22 : decode cJ2_indexOfSupplementary_4cfef 22 = .ok (.invokestatic 96, 3) := zrD zrw_cJ2_indexOfSupplementary_4cfef_0 (i := 22) (by decide +kernel) rfl
theorem dJ2_indexOfSupplementary_4cfef_25 : decode cJ2_indexOfSupplementary_4cfef 25 = .ok (.iload_n 2, 1) := zrD zrw_cJ2_indexOfSupplementary_4cfef_0 (i := 25) (by decide +kernel) rfl
theorem dJ2_indexOfSupplementary_4cfef_26 : decode cJ2_indexOfSupplementary_4cfef 26 = .ok (.istore 6, 2) := zrD zrw_cJ2_indexOfSupplementary_4cfef_0 (i := 26) (by decide +kernel) rfl
theorem dJ2_indexOfSupplementary_4cfef_28 : decode cJ2_indexOfSupplementary_4cfef 28 = .ok (.iload 6, 2) := zrD zrw_cJ2_indexOfSupplementary_4cfef_0 (i := 28) (by decide +kernel) rfl
theorem dJ2_indexOfSupplementary_4cfef_30 : decode cJ2_indexOfSupplementary_4cfef 30 = .ok (.iload_n 3, 1) := zrD zrw_cJ2_indexOfSupplementary_4cfef_0 (i := 30) (by decide +kernel) rfl
theorem dJ2_indexOfSupplementary_4cfef_31 : decode cJ2_indexOfSupplementary_4cfef 31 = .ok (.iconst 1, 1) := zrD zrw_cJ2_indexOfSupplementary_4cfef_0 (i := 31) (by decide +kernel) rfl
def zrk_cJ2_indexOfSupplementary_4cfef_32 : ByteArray := .mk #[100, 162, 0, 36, 42, 21, 6, 184, 0, 71, 21, 4, 160, 0, 19, 42, 21, 6, 4, 96, 184, 0, 71, 21, 5, 160, 0, 6, 21, 6, 172]
theorem zrw_cJ2_indexOfSupplementary_4cfef_32 : zrW 32 cJ2_indexOfSupplementary_4cfef zrk_cJ2_indexOfSupplementary_4cfef_32 := by unfold zrW; decide +kernel
theorem dJ2_indexOfSupplementary_4cfef_32 : decode cJ2_indexOfSupplementary_4cfef 32 = .ok (.isub, 1) := zrD zrw_cJ2_indexOfSupplementary_4cfef_32 (i := 0) (by decide +kernel) rfl
theorem dJ2_indexOfSupplementary_4cfef_33 : decode cJ2_indexOfSupplementary_4cfef 33 = .ok (.if_icmp .ge 36, 3) := zrD zrw_cJ2_indexOfSupplementary_4cfef_32 (i := 1) (by decide +kernel) rfl
theorem dJ2_indexOfSupplementary_4cfef_36 : decode cJ2_indexOfSupplementary_4cfef 36 = .ok (.aload_n 0, 1) := zrD zrw_cJ2_indexOfSupplementary_4cfef_32 (i := 4) (by decide +kernel) rfl
theorem dJ2_indexOfSupplementary_4cfef_37 : decode cJ2_indexOfSupplementary_4cfef 37 = .ok (.iload 6, 2) := zrD zrw_cJ2_indexOfSupplementary_4cfef_32 (i := 5) (by decide +kernel) rfl
theorem dJ2_indexOfSupplementary_4cfef_39 : decode cJ2_indexOfSupplementary_4cfef 39 = .ok (.invokestatic 71, 3) := zrD zrw_cJ2_indexOfSupplementary_4cfef_32 (i := 7) (by decide +kernel) rfl
theorem dJ2_indexOfSupplementary_4cfef_42 : decode cJ2_indexOfSupplementary_4cfef 42 = .ok (.iload 4, 2) := zrD zrw_cJ2_indexOfSupplementary_4cfef_32 (i := 10) (by decide +kernel) rfl
theorem dJ2_indexOfSupplementary_4cfef_44 : decode cJ2_indexOfSupplementary_4cfef 44 = .ok (.if_icmp .ne 19, 3) := zrD zrw_cJ2_indexOfSupplementary_4cfef_32 (i := 12) (by decide +kernel) rfl
theorem dJ2_indexOfSupplementary_4cfef_47 : decode cJ2_indexOfSupplementary_4cfef 47 = .ok (.aload_n 0, 1) := zrD zrw_cJ2_indexOfSupplementary_4cfef_32 (i := 15) (by decide +kernel) rfl
theorem dJ2_indexOfSupplementary_4cfef_48 : decode cJ2_indexOfSupplementary_4cfef 48 = .ok (.iload 6, 2) := zrD zrw_cJ2_indexOfSupplementary_4cfef_32 (i := 16) (by decide +kernel) rfl
theorem dJ2_indexOfSupplementary_4cfef_50 : decode cJ2_indexOfSupplementary_4cfef 50 = .ok (.iconst 1, 1) := zrD zrw_cJ2_indexOfSupplementary_4cfef_32 (i := 18) (by decide +kernel) rfl
theorem dJ2_indexOfSupplementary_4cfef_51 : decode cJ2_indexOfSupplementary_4cfef 51 = .ok (.iadd, 1) := zrD zrw_cJ2_indexOfSupplementary_4cfef_32 (i := 19) (by decide +kernel) rfl
theorem dJ2_indexOfSupplementary_4cfef_52 : decode cJ2_indexOfSupplementary_4cfef 52 = .ok (.invokestatic 71, 3) := zrD zrw_cJ2_indexOfSupplementary_4cfef_32 (i := 20) (by decide +kernel) rfl
theorem dJ2_indexOfSupplementary_4cfef_55 : decode cJ2_indexOfSupplementary_4cfef 55 = .ok (.iload 5, 2) := zrD zrw_cJ2_indexOfSupplementary_4cfef_32 (i := 23) (by decide +kernel) rfl
theorem dJ2_indexOfSupplementary_4cfef_57 : decode cJ2_indexOfSupplementary_4cfef 57 = .ok (.if_icmp .ne 6, 3) := zrD zrw_cJ2_indexOfSupplementary_4cfef_32 (i := 25) (by decide +kernel) rfl
theorem dJ2_indexOfSupplementary_4cfef_60 : decode cJ2_indexOfSupplementary_4cfef 60 = .ok (.iload 6, 2) := zrD zrw_cJ2_indexOfSupplementary_4cfef_32 (i := 28) (by decide +kernel) rfl
theorem dJ2_indexOfSupplementary_4cfef_62 : decode cJ2_indexOfSupplementary_4cfef 62 = .ok (.ireturn, 1) := zrD zrw_cJ2_indexOfSupplementary_4cfef_32 (i := 30) (by decide +kernel) rfl
def zrk_cJ2_indexOfSupplementary_4cfef_63 : ByteArray := .mk #[132, 6, 1, 167, 255, 218, 2, 172]
theorem zrw_cJ2_indexOfSupplementary_4cfef_63 : zrW 63 cJ2_indexOfSupplementary_4cfef zrk_cJ2_indexOfSupplementary_4cfef_63 := by unfold zrW; decide +kernel
theorem dJ2_indexOfSupplementary_4cfef_63 : decode cJ2_indexOfSupplementary_4cfef 63 = .ok (.iinc 6 1, 3) := zrD zrw_cJ2_indexOfSupplementary_4cfef_63 (i := 0) (by decide +kernel) rfl
theorem dJ2_indexOfSupplementary_4cfef_66 : decode cJ2_indexOfSupplementary_4cfef 66 = .ok (.goto (-38), 3) := zrD zrw_cJ2_indexOfSupplementary_4cfef_63 (i := 3) (by decide +kernel) rfl
theorem dJ2_indexOfSupplementary_4cfef_69 : decode cJ2_indexOfSupplementary_4cfef 69 = .ok (.iconst (-1), 1) := zrD zrw_cJ2_indexOfSupplementary_4cfef_63 (i := 6) (by decide +kernel) rfl
theorem dJ2_indexOfSupplementary_4cfef_70 : decode cJ2_indexOfSupplementary_4cfef 70 = .ok (.ireturn, 1) := zrD zrw_cJ2_indexOfSupplementary_4cfef_63 (i := 7) (by decide +kernel) rfl
def zrk_cJ2_charAt_3b067_0 : ByteArray := .mk #[27, 42, 184, 0, 67, 42, 27, 184, 0, 71, 172]
theorem zrw_cJ2_charAt_3b067_0 : zrW 0 cJ2_charAt_3b067 zrk_cJ2_charAt_3b067_0 := by unfold zrW; decide +kernel
theorem dJ2_charAt_3b067_0 : decode cJ2_charAt_3b067 0 = .ok (.iload_n 1, 1) := zrD zrw_cJ2_charAt_3b067_0 (i := 0) (by decide +kernel) rfl
theorem dJ2_charAt_3b067_1 : decode cJ2_charAt_3b067 1 = .ok (.aload_n 0, 1) := zrD zrw_cJ2_charAt_3b067_0 (i := 1) (by decide +kernel) rfl
theorem dJ2_charAt_3b067_2 : decode cJ2_charAt_3b067 2 = .ok (.invokestatic 67, 3) := zrD zrw_cJ2_charAt_3b067_0 (i := 2) (by decide +kernel) rfl
theorem dJ2_charAt_3b067_5 : decode cJ2_charAt_3b067 5 = .ok (.aload_n 0, 1) := zrD zrw_cJ2_charAt_3b067_0 (i := 5) (by decide +kernel) rfl
theorem dJ2_charAt_3b067_6 : decode cJ2_charAt_3b067 6 = .ok (.iload_n 1, 1) := zrD zrw_cJ2_charAt_3b067_0 (i := 6) (by decide +kernel) rfl
theorem dJ2_charAt_3b067_7 : decode cJ2_charAt_3b067 7 = .ok (.invokestatic 71, 3) := zrD zrw_cJ2_charAt_3b067_0 (i := 7) (by decide +kernel) rfl
theorem dJ2_charAt_3b067_10 : decode cJ2_charAt_3b067 10 = .ok (.ireturn, 1) := zrD zrw_cJ2_charAt_3b067_0 (i := 10) (by decide +kernel) rfl
def zrk_cJ2_checkIndex_2214a_0 : ByteArray := .mk #[26, 43, 184, 0, 48, 184, 1, 158, 177]
theorem zrw_cJ2_checkIndex_2214a_0 : zrW 0 cJ2_checkIndex_2214a zrk_cJ2_checkIndex_2214a_0 := by unfold zrW; decide +kernel
theorem dJ2_checkIndex_2214a_0 : decode cJ2_checkIndex_2214a 0 = .ok (.iload_n 0, 1) := zrD zrw_cJ2_checkIndex_2214a_0 (i := 0) (by decide +kernel) rfl
theorem dJ2_checkIndex_2214a_1 : decode cJ2_checkIndex_2214a 1 = .ok (.aload_n 1, 1) := zrD zrw_cJ2_checkIndex_2214a_0 (i := 1) (by decide +kernel) rfl
theorem dJ2_checkIndex_2214a_2 : decode cJ2_checkIndex_2214a 2 = .ok (.invokestatic 48, 3) := zrD zrw_cJ2_checkIndex_2214a_0 (i := 2) (by decide +kernel) rfl
theorem dJ2_checkIndex_2214a_5 : decode cJ2_checkIndex_2214a 5 = .ok (.invokestatic 414, 3) := zrD zrw_cJ2_checkIndex_2214a_0 (i := 5) (by decide +kernel) rfl
theorem dJ2_checkIndex_2214a_8 : decode cJ2_checkIndex_2214a 8 = .ok (.return_, 1) := zrD zrw_cJ2_checkIndex_2214a_0 (i := 8) (by decide +kernel) rfl
def zrk_cJ2_checkBoundsBeginEnd_d044e_0 : ByteArray := .mk #[26, 27, 44, 184, 0, 48, 184, 0, 241, 177]
theorem zrw_cJ2_checkBoundsBeginEnd_d044e_0 : zrW 0 cJ2_checkBoundsBeginEnd_d044e zrk_cJ2_checkBoundsBeginEnd_d044e_0 := by unfold zrW; decide +kernel
theorem dJ2_checkBoundsBeginEnd_d044e_0 : decode cJ2_checkBoundsBeginEnd_d044e 0 = .ok (.iload_n 0, 1) := zrD zrw_cJ2_checkBoundsBeginEnd_d044e_0 (i := 0) (by decide +kernel) rfl
theorem dJ2_checkBoundsBeginEnd_d044e_1 : decode cJ2_checkBoundsBeginEnd_d044e 1 = .ok (.iload_n 1, 1) := zrD zrw_cJ2_checkBoundsBeginEnd_d044e_0 (i := 1) (by decide +kernel) rfl
theorem dJ2_checkBoundsBeginEnd_d044e_2 : decode cJ2_checkBoundsBeginEnd_d044e 2 = .ok (.aload_n 2, 1) := zrD zrw_cJ2_checkBoundsBeginEnd_d044e_0 (i := 2) (by decide +kernel) rfl
theorem dJ2_checkBoundsBeginEnd_d044e_3 : decode cJ2_checkBoundsBeginEnd_d044e 3 = .ok (.invokestatic 48, 3) := zrD zrw_cJ2_checkBoundsBeginEnd_d044e_0 (i := 3) (by decide +kernel) rfl
theorem dJ2_checkBoundsBeginEnd_d044e_6 : decode cJ2_checkBoundsBeginEnd_d044e 6 = .ok (.invokestatic 241, 3) := zrD zrw_cJ2_checkBoundsBeginEnd_d044e_0 (i := 6) (by decide +kernel) rfl
theorem dJ2_checkBoundsBeginEnd_d044e_9 : decode cJ2_checkBoundsBeginEnd_d044e 9 = .ok (.return_, 1) := zrD zrw_cJ2_checkBoundsBeginEnd_d044e_0 (i := 9) (by decide +kernel) rfl
def zrk_cJ3_checkIndex_8e157_0 : ByteArray := .mk #[26, 155, 0, 8, 26, 27, 161, 0, 10, 44, 26, 27, 184, 0, 95, 191, 26, 172]
theorem zrw_cJ3_checkIndex_8e157_0 : zrW 0 cJ3_checkIndex_8e157 zrk_cJ3_checkIndex_8e157_0 := by unfold zrW; decide +kernel
theorem dJ3_checkIndex_8e157_0 : decode cJ3_checkIndex_8e157 0 = .ok (.iload_n 0, 1) := zrD zrw_cJ3_checkIndex_8e157_0 (i := 0) (by decide +kernel) rfl
theorem dJ3_checkIndex_8e157_1 : decode cJ3_checkIndex_8e157 1 = .ok (.ifCond .lt 8, 3) := zrD zrw_cJ3_checkIndex_8e157_0 (i := 1) (by decide +kernel) rfl
theorem dJ3_checkIndex_8e157_4 : decode cJ3_checkIndex_8e157 4 = .ok (.iload_n 0, 1) := zrD zrw_cJ3_checkIndex_8e157_0 (i := 4) (by decide +kernel) rfl
theorem dJ3_checkIndex_8e157_5 : decode cJ3_checkIndex_8e157 5 = .ok (.iload_n 1, 1) := zrD zrw_cJ3_checkIndex_8e157_0 (i := 5) (by decide +kernel) rfl
theorem dJ3_checkIndex_8e157_6 : decode cJ3_checkIndex_8e157 6 = .ok (.if_icmp .lt 10, 3) := zrD zrw_cJ3_checkIndex_8e157_0 (i := 6) (by decide +kernel) rfl
theorem dJ3_checkIndex_8e157_9 : decode cJ3_checkIndex_8e157 9 = .ok (.aload_n 2, 1) := zrD zrw_cJ3_checkIndex_8e157_0 (i := 9) (by decide +kernel) rfl
theorem dJ3_checkIndex_8e157_10 : decode cJ3_checkIndex_8e157 10 = .ok (.iload_n 0, 1) := zrD zrw_cJ3_checkIndex_8e157_0 (i := 10) (by decide +kernel) rfl
theorem dJ3_checkIndex_8e157_11 : decode cJ3_checkIndex_8e157 11 = .ok (.iload_n 1, 1) := zrD zrw_cJ3_checkIndex_8e157_0 (i := 11) (by decide +kernel) rfl
theorem dJ3_checkIndex_8e157_12 : decode cJ3_checkIndex_8e157 12 = .ok (.invokestatic 95, 3) := zrD zrw_cJ3_checkIndex_8e157_0 (i := 12) (by decide +kernel) rfl
theorem dJ3_checkIndex_8e157_15 : decode cJ3_checkIndex_8e157 15 = .ok (.athrow, 1) := zrD zrw_cJ3_checkIndex_8e157_0 (i := 15) (by decide +kernel) rfl
theorem dJ3_checkIndex_8e157_16 : decode cJ3_checkIndex_8e157 16 = .ok (.iload_n 0, 1) := zrD zrw_cJ3_checkIndex_8e157_0 (i := 16) (by decide +kernel) rfl
theorem dJ3_checkIndex_8e157_17 : decode cJ3_checkIndex_8e157 17 = .ok (.ireturn, 1) := zrD zrw_cJ3_checkIndex_8e157_0 (i := 17) (by decide +kernel) rfl
def zrk_cJ3_checkFromToIndex_8c36e_0 : ByteArray := .mk #[26, 155, 0, 13, 26, 27, 163, 0, 8, 27, 28, 164, 0, 11, 45, 26, 27, 28, 184, 0, 99, 191, 26, 172]
theorem zrw_cJ3_checkFromToIndex_8c36e_0 : zrW 0 cJ3_checkFromToIndex_8c36e zrk_cJ3_checkFromToIndex_8c36e_0 := by unfold zrW; decide +kernel
theorem dJ3_checkFromToIndex_8c36e_0 : decode cJ3_checkFromToIndex_8c36e 0 = .ok (.iload_n 0, 1) := zrD zrw_cJ3_checkFromToIndex_8c36e_0 (i := 0) (by decide +kernel) rfl
theorem dJ3_checkFromToIndex_8c36e_1 : decode cJ3_checkFromToIndex_8c36e 1 = .ok (.ifCond .lt 13, 3) := zrD zrw_cJ3_checkFromToIndex_8c36e_0 (i := 1) (by decide +kernel) rfl
theorem dJ3_checkFromToIndex_8c36e_4 : decode cJ3_checkFromToIndex_8c36e 4 = .ok (.iload_n 0, 1) := zrD zrw_cJ3_checkFromToIndex_8c36e_0 (i := 4) (by decide +kernel) rfl
theorem dJ3_checkFromToIndex_8c36e_5 : decode cJ3_checkFromToIndex_8c36e 5 = .ok (.iload_n 1, 1) := zrD zrw_cJ3_checkFromToIndex_8c36e_0 (i := 5) (by decide +kernel) rfl
theorem dJ3_checkFromToIndex_8c36e_6 : decode cJ3_checkFromToIndex_8c36e 6 = .ok (.if_icmp .gt 8, 3) := zrD zrw_cJ3_checkFromToIndex_8c36e_0 (i := 6) (by decide +kernel) rfl
theorem dJ3_checkFromToIndex_8c36e_9 : decode cJ3_checkFromToIndex_8c36e 9 = .ok (.iload_n 1, 1) := zrD zrw_cJ3_checkFromToIndex_8c36e_0 (i := 9) (by decide +kernel) rfl
theorem dJ3_checkFromToIndex_8c36e_10 : decode cJ3_checkFromToIndex_8c36e 10 = .ok (.iload_n 2, 1) := zrD zrw_cJ3_checkFromToIndex_8c36e_0 (i := 10) (by decide +kernel) rfl
theorem dJ3_checkFromToIndex_8c36e_11 : decode cJ3_checkFromToIndex_8c36e 11 = .ok (.if_icmp .le 11, 3) := zrD zrw_cJ3_checkFromToIndex_8c36e_0 (i := 11) (by decide +kernel) rfl
theorem dJ3_checkFromToIndex_8c36e_14 : decode cJ3_checkFromToIndex_8c36e 14 = .ok (.aload_n 3, 1) := zrD zrw_cJ3_checkFromToIndex_8c36e_0 (i := 14) (by decide +kernel) rfl
theorem dJ3_checkFromToIndex_8c36e_15 : decode cJ3_checkFromToIndex_8c36e 15 = .ok (.iload_n 0, 1) := zrD zrw_cJ3_checkFromToIndex_8c36e_0 (i := 15) (by decide +kernel) rfl
theorem dJ3_checkFromToIndex_8c36e_16 : decode cJ3_checkFromToIndex_8c36e 16 = .ok (.iload_n 1, 1) := zrD zrw_cJ3_checkFromToIndex_8c36e_0 (i := 16) (by decide +kernel) rfl
theorem dJ3_checkFromToIndex_8c36e_17 : decode cJ3_checkFromToIndex_8c36e 17 = .ok (.iload_n 2, 1) := zrD zrw_cJ3_checkFromToIndex_8c36e_0 (i := 17) (by decide +kernel) rfl
theorem dJ3_checkFromToIndex_8c36e_18 : decode cJ3_checkFromToIndex_8c36e 18 = .ok (.invokestatic 99, 3) := zrD zrw_cJ3_checkFromToIndex_8c36e_0 (i := 18) (by decide +kernel) rfl
theorem dJ3_checkFromToIndex_8c36e_21 : decode cJ3_checkFromToIndex_8c36e 21 = .ok (.athrow, 1) := zrD zrw_cJ3_checkFromToIndex_8c36e_0 (i := 21) (by decide +kernel) rfl
theorem dJ3_checkFromToIndex_8c36e_22 : decode cJ3_checkFromToIndex_8c36e 22 = .ok (.iload_n 0, 1) := zrD zrw_cJ3_checkFromToIndex_8c36e_0 (i := 22) (by decide +kernel) rfl
theorem dJ3_checkFromToIndex_8c36e_23 : decode cJ3_checkFromToIndex_8c36e 23 = .ok (.ireturn, 1) := zrD zrw_cJ3_checkFromToIndex_8c36e_0 (i := 23) (by decide +kernel) rfl
def zrk_cJ6_bitCount_0f7a4_0 : ByteArray := .mk #[26, 26, 4, 124, 19, 1, 9, 126, 100, 59, 26, 19, 1, 10, 126, 26, 5, 124, 19, 1, 10, 126, 96, 59, 26, 26, 7, 124, 96, 19, 1, 11]
theorem zrw_cJ6_bitCount_0f7a4_0 : zrW 0 cJ6_bitCount_0f7a4 zrk_cJ6_bitCount_0f7a4_0 := by unfold zrW; decide +kernel
theorem dJ6_bitCount_0f7a4_0 : decode cJ6_bitCount_0f7a4 0 = .ok (.iload_n 0, 1) := zrD zrw_cJ6_bitCount_0f7a4_0 (i := 0) (by decide +kernel) rfl
theorem dJ6_bitCount_0f7a4_1 : decode cJ6_bitCount_0f7a4 1 = .ok (.iload_n 0, 1) := zrD zrw_cJ6_bitCount_0f7a4_0 (i := 1) (by decide +kernel) rfl
theorem dJ6_bitCount_0f7a4_2 : decode cJ6_bitCount_0f7a4 2 = .ok (.iconst 1, 1) := zrD zrw_cJ6_bitCount_0f7a4_0 (i := 2) (by decide +kernel) rfl
theorem dJ6_bitCount_0f7a4_3 : decode cJ6_bitCount_0f7a4 3 = .ok (.iushr, 1) := zrD zrw_cJ6_bitCount_0f7a4_0 (i := 3) (by decide +kernel) rfl
theorem dJ6_bitCount_0f7a4_4 : decode cJ6_bitCount_0f7a4 4 = .ok (.ldc_w 265, 3) := zrD zrw_cJ6_bitCount_0f7a4_0 (i := 4) (by decide +kernel) rfl
theorem dJ6_bitCount_0f7a4_7 : decode cJ6_bitCount_0f7a4 7 = .ok (.iand, 1) := zrD zrw_cJ6_bitCount_0f7a4_0 (i := 7) (by decide +kernel) rfl
theorem dJ6_bitCount_0f7a4_8 : decode cJ6_bitCount_0f7a4 8 = .ok (.isub, 1) := zrD zrw_cJ6_bitCount_0f7a4_0 (i := 8) (by decide +kernel) rfl
theorem dJ6_bitCount_0f7a4_9 : decode cJ6_bitCount_0f7a4 9 = .ok (.istore_n 0, 1) := zrD zrw_cJ6_bitCount_0f7a4_0 (i := 9) (by decide +kernel) rfl
theorem dJ6_bitCount_0f7a4_10 : decode cJ6_bitCount_0f7a4 10 = .ok (.iload_n 0, 1) := zrD zrw_cJ6_bitCount_0f7a4_0 (i := 10) (by decide +kernel) rfl
theorem dJ6_bitCount_0f7a4_11 : decode cJ6_bitCount_0f7a4 11 = .ok (.ldc_w 266, 3) := zrD zrw_cJ6_bitCount_0f7a4_0 (i := 11) (by decide +kernel) rfl
theorem dJ6_bitCount_0f7a4_14 : decode cJ6_bitCount_0f7a4 14 = .ok (.iand, 1) := zrD zrw_cJ6_bitCount_0f7a4_0 (i := 14) (by decide +kernel) rfl
theorem dJ6_bitCount_0f7a4_15 : decode cJ6_bitCount_0f7a4 15 = .ok (.iload_n 0, 1) := zrD zrw_cJ6_bitCount_0f7a4_0 (i := 15) (by decide +kernel) rfl
theorem dJ6_bitCount_0f7a4_16 : decode cJ6_bitCount_0f7a4 16 = .ok (.iconst 2, 1) := zrD zrw_cJ6_bitCount_0f7a4_0 (i := 16) (by decide +kernel) rfl
theorem dJ6_bitCount_0f7a4_17 : decode cJ6_bitCount_0f7a4 17 = .ok (.iushr, 1) := zrD zrw_cJ6_bitCount_0f7a4_0 (i := 17) (by decide +kernel) rfl
theorem dJ6_bitCount_0f7a4_18 : decode cJ6_bitCount_0f7a4 18 = .ok (.ldc_w 266, 3) := zrD zrw_cJ6_bitCount_0f7a4_0 (i := 18) (by decide +kernel) rfl
theorem dJ6_bitCount_0f7a4_21 : decode cJ6_bitCount_0f7a4 21 = .ok (.iand, 1) := zrD zrw_cJ6_bitCount_0f7a4_0 (i := 21) (by decide +kernel) rfl
theorem dJ6_bitCount_0f7a4_22 : decode cJ6_bitCount_0f7a4 22 = .ok (.iadd, 1) := zrD zrw_cJ6_bitCount_0f7a4_0 (i := 22) (by decide +kernel) rfl
theorem dJ6_bitCount_0f7a4_23 : decode cJ6_bitCount_0f7a4 23 = .ok (.istore_n 0, 1) := zrD zrw_cJ6_bitCount_0f7a4_0 (i := 23) (by decide +kernel) rfl
theorem dJ6_bitCount_0f7a4_24 : decode cJ6_bitCount_0f7a4 24 = .ok (.iload_n 0, 1) := zrD zrw_cJ6_bitCount_0f7a4_0 (i := 24) (by decide +kernel) rfl
theorem dJ6_bitCount_0f7a4_25 : decode cJ6_bitCount_0f7a4 25 = .ok (.iload_n 0, 1) := zrD zrw_cJ6_bitCount_0f7a4_0 (i := 25) (by decide +kernel) rfl
theorem dJ6_bitCount_0f7a4_26 : decode cJ6_bitCount_0f7a4 26 = .ok (.iconst 4, 1) := zrD zrw_cJ6_bitCount_0f7a4_0 (i := 26) (by decide +kernel) rfl
theorem dJ6_bitCount_0f7a4_27 : decode cJ6_bitCount_0f7a4 27 = .ok (.iushr, 1) := zrD zrw_cJ6_bitCount_0f7a4_0 (i := 27) (by decide +kernel) rfl
theorem dJ6_bitCount_0f7a4_28 : decode cJ6_bitCount_0f7a4 28 = .ok (.iadd, 1) := zrD zrw_cJ6_bitCount_0f7a4_0 (i := 28) (by decide +kernel) rfl
theorem dJ6_bitCount_0f7a4_29 : decode cJ6_bitCount_0f7a4 29 = .ok (.ldc_w 267, 3) := zrD zrw_cJ6_bitCount_0f7a4_0 (i := 29) (by decide +kernel) rfl
def zrk_cJ6_bitCount_0f7a4_32 : ByteArray := .mk #[126, 59, 26, 26, 16, 8, 124, 96, 59, 26, 26, 16, 16, 124, 96, 59, 26, 16, 63, 126, 172]
theorem zrw_cJ6_bitCount_0f7a4_32 : zrW 32 cJ6_bitCount_0f7a4 zrk_cJ6_bitCount_0f7a4_32 := by unfold zrW; decide +kernel
theorem dJ6_bitCount_0f7a4_32 : decode cJ6_bitCount_0f7a4 32 = .ok (.iand, 1) := zrD zrw_cJ6_bitCount_0f7a4_32 (i := 0) (by decide +kernel) rfl
theorem dJ6_bitCount_0f7a4_33 : decode cJ6_bitCount_0f7a4 33 = .ok (.istore_n 0, 1) := zrD zrw_cJ6_bitCount_0f7a4_32 (i := 1) (by decide +kernel) rfl
theorem dJ6_bitCount_0f7a4_34 : decode cJ6_bitCount_0f7a4 34 = .ok (.iload_n 0, 1) := zrD zrw_cJ6_bitCount_0f7a4_32 (i := 2) (by decide +kernel) rfl
theorem dJ6_bitCount_0f7a4_35 : decode cJ6_bitCount_0f7a4 35 = .ok (.iload_n 0, 1) := zrD zrw_cJ6_bitCount_0f7a4_32 (i := 3) (by decide +kernel) rfl
theorem dJ6_bitCount_0f7a4_36 : decode cJ6_bitCount_0f7a4 36 = .ok (.bipush 8, 2) := zrD zrw_cJ6_bitCount_0f7a4_32 (i := 4) (by decide +kernel) rfl
theorem dJ6_bitCount_0f7a4_38 : decode cJ6_bitCount_0f7a4 38 = .ok (.iushr, 1) := zrD zrw_cJ6_bitCount_0f7a4_32 (i := 6) (by decide +kernel) rfl
theorem dJ6_bitCount_0f7a4_39 : decode cJ6_bitCount_0f7a4 39 = .ok (.iadd, 1) := zrD zrw_cJ6_bitCount_0f7a4_32 (i := 7) (by decide +kernel) rfl
theorem dJ6_bitCount_0f7a4_40 : decode cJ6_bitCount_0f7a4 40 = .ok (.istore_n 0, 1) := zrD zrw_cJ6_bitCount_0f7a4_32 (i := 8) (by decide +kernel) rfl
theorem dJ6_bitCount_0f7a4_41 : decode cJ6_bitCount_0f7a4 41 = .ok (.iload_n 0, 1) := zrD zrw_cJ6_bitCount_0f7a4_32 (i := 9) (by decide +kernel) rfl
theorem dJ6_bitCount_0f7a4_42 : decode cJ6_bitCount_0f7a4 42 = .ok (.iload_n 0, 1) := zrD zrw_cJ6_bitCount_0f7a4_32 (i := 10) (by decide +kernel) rfl
theorem dJ6_bitCount_0f7a4_43 : decode cJ6_bitCount_0f7a4 43 = .ok (.bipush 16, 2) := zrD zrw_cJ6_bitCount_0f7a4_32 (i := 11) (by decide +kernel) rfl
theorem dJ6_bitCount_0f7a4_45 : decode cJ6_bitCount_0f7a4 45 = .ok (.iushr, 1) := zrD zrw_cJ6_bitCount_0f7a4_32 (i := 13) (by decide +kernel) rfl
theorem dJ6_bitCount_0f7a4_46 : decode cJ6_bitCount_0f7a4 46 = .ok (.iadd, 1) := zrD zrw_cJ6_bitCount_0f7a4_32 (i := 14) (by decide +kernel) rfl
theorem dJ6_bitCount_0f7a4_47 : decode cJ6_bitCount_0f7a4 47 = .ok (.istore_n 0, 1) := zrD zrw_cJ6_bitCount_0f7a4_32 (i := 15) (by decide +kernel) rfl
theorem dJ6_bitCount_0f7a4_48 : decode cJ6_bitCount_0f7a4 48 = .ok (.iload_n 0, 1) := zrD zrw_cJ6_bitCount_0f7a4_32 (i := 16) (by decide +kernel) rfl
theorem dJ6_bitCount_0f7a4_49 : decode cJ6_bitCount_0f7a4 49 = .ok (.bipush 63, 2) := zrD zrw_cJ6_bitCount_0f7a4_32 (i := 17) (by decide +kernel) rfl
theorem dJ6_bitCount_0f7a4_51 : decode cJ6_bitCount_0f7a4 51 = .ok (.iand, 1) := zrD zrw_cJ6_bitCount_0f7a4_32 (i := 19) (by decide +kernel) rfl
theorem dJ6_bitCount_0f7a4_52 : decode cJ6_bitCount_0f7a4 52 = .ok (.ireturn, 1) := zrD zrw_cJ6_bitCount_0f7a4_32 (i := 20) (by decide +kernel) rfl
def zrk_cJ7_fill_53178_0 : ByteArray := .mk #[3, 61, 42, 190, 62, 28, 29, 162, 0, 13, 42, 28, 27, 79, 132, 2, 1, 167, 255, 244, 177]
theorem zrw_cJ7_fill_53178_0 : zrW 0 cJ7_fill_53178 zrk_cJ7_fill_53178_0 := by unfold zrW; decide +kernel
theorem dJ7_fill_53178_0 : decode cJ7_fill_53178 0 = .ok (.iconst 0, 1) := zrD zrw_cJ7_fill_53178_0 (i := 0) (by decide +kernel) rfl
theorem dJ7_fill_53178_1 : decode cJ7_fill_53178 1 = .ok (.istore_n 2, 1) := zrD zrw_cJ7_fill_53178_0 (i := 1) (by decide +kernel) rfl
theorem dJ7_fill_53178_2 : decode cJ7_fill_53178 2 = .ok (.aload_n 0, 1) := zrD zrw_cJ7_fill_53178_0 (i := 2) (by decide +kernel) rfl
theorem dJ7_fill_53178_3 : decode cJ7_fill_53178 3 = .ok (.arraylength, 1) := zrD zrw_cJ7_fill_53178_0 (i := 3) (by decide +kernel) rfl
theorem dJ7_fill_53178_4 : decode cJ7_fill_53178 4 = .ok (.istore_n 3, 1) := zrD zrw_cJ7_fill_53178_0 (i := 4) (by decide +kernel) rfl
theorem dJ7_fill_53178_5 : decode cJ7_fill_53178 5 = .ok (.iload_n 2, 1) := zrD zrw_cJ7_fill_53178_0 (i := 5) (by decide +kernel) rfl
theorem dJ7_fill_53178_6 : decode cJ7_fill_53178 6 = .ok (.iload_n 3, 1) := zrD zrw_cJ7_fill_53178_0 (i := 6) (by decide +kernel) rfl
theorem dJ7_fill_53178_7 : decode cJ7_fill_53178 7 = .ok (.if_icmp .ge 13, 3) := zrD zrw_cJ7_fill_53178_0 (i := 7) (by decide +kernel) rfl
theorem dJ7_fill_53178_10 : decode cJ7_fill_53178 10 = .ok (.aload_n 0, 1) := zrD zrw_cJ7_fill_53178_0 (i := 10) (by decide +kernel) rfl
theorem dJ7_fill_53178_11 : decode cJ7_fill_53178 11 = .ok (.iload_n 2, 1) := zrD zrw_cJ7_fill_53178_0 (i := 11) (by decide +kernel) rfl
theorem dJ7_fill_53178_12 : decode cJ7_fill_53178 12 = .ok (.iload_n 1, 1) := zrD zrw_cJ7_fill_53178_0 (i := 12) (by decide +kernel) rfl
theorem dJ7_fill_53178_13 : decode cJ7_fill_53178 13 = .ok (.iastore, 1) := zrD zrw_cJ7_fill_53178_0 (i := 13) (by decide +kernel) rfl
theorem dJ7_fill_53178_14 : decode cJ7_fill_53178 14 = .ok (.iinc 2 1, 3) := zrD zrw_cJ7_fill_53178_0 (i := 14) (by decide +kernel) rfl
theorem dJ7_fill_53178_17 : decode cJ7_fill_53178 17 = .ok (.goto (-12), 3) := zrD zrw_cJ7_fill_53178_0 (i := 17) (by decide +kernel) rfl
theorem dJ7_fill_53178_20 : decode cJ7_fill_53178 20 = .ok (.return_, 1) := zrD zrw_cJ7_fill_53178_0 (i := 20) (by decide +kernel) rfl
def zrk_cJ9_max_7cf53_0 : ByteArray := .mk #[26, 27, 161, 0, 7, 26, 167, 0, 4, 27, 172]
theorem zrw_cJ9_max_7cf53_0 : zrW 0 cJ9_max_7cf53 zrk_cJ9_max_7cf53_0 := by unfold zrW; decide +kernel
theorem dJ9_max_7cf53_0 : decode cJ9_max_7cf53 0 = .ok (.iload_n 0, 1) := zrD zrw_cJ9_max_7cf53_0 (i := 0) (by decide +kernel) rfl
theorem dJ9_max_7cf53_1 : decode cJ9_max_7cf53 1 = .ok (.iload_n 1, 1) := zrD zrw_cJ9_max_7cf53_0 (i := 1) (by decide +kernel) rfl
theorem dJ9_max_7cf53_2 : decode cJ9_max_7cf53 2 = .ok (.if_icmp .lt 7, 3) := zrD zrw_cJ9_max_7cf53_0 (i := 2) (by decide +kernel) rfl
theorem dJ9_max_7cf53_5 : decode cJ9_max_7cf53 5 = .ok (.iload_n 0, 1) := zrD zrw_cJ9_max_7cf53_0 (i := 5) (by decide +kernel) rfl
theorem dJ9_max_7cf53_6 : decode cJ9_max_7cf53 6 = .ok (.goto 4, 3) := zrD zrw_cJ9_max_7cf53_0 (i := 6) (by decide +kernel) rfl
theorem dJ9_max_7cf53_9 : decode cJ9_max_7cf53 9 = .ok (.iload_n 1, 1) := zrD zrw_cJ9_max_7cf53_0 (i := 9) (by decide +kernel) rfl
theorem dJ9_max_7cf53_10 : decode cJ9_max_7cf53 10 = .ok (.ireturn, 1) := zrD zrw_cJ9_max_7cf53_0 (i := 10) (by decide +kernel) rfl
def zrk_cJ9_min_7cf53_0 : ByteArray := .mk #[26, 27, 163, 0, 7, 26, 167, 0, 4, 27, 172]
theorem zrw_cJ9_min_7cf53_0 : zrW 0 cJ9_min_7cf53 zrk_cJ9_min_7cf53_0 := by unfold zrW; decide +kernel
theorem dJ9_min_7cf53_0 : decode cJ9_min_7cf53 0 = .ok (.iload_n 0, 1) := zrD zrw_cJ9_min_7cf53_0 (i := 0) (by decide +kernel) rfl
theorem dJ9_min_7cf53_1 : decode cJ9_min_7cf53 1 = .ok (.iload_n 1, 1) := zrD zrw_cJ9_min_7cf53_0 (i := 1) (by decide +kernel) rfl
theorem dJ9_min_7cf53_2 : decode cJ9_min_7cf53 2 = .ok (.if_icmp .gt 7, 3) := zrD zrw_cJ9_min_7cf53_0 (i := 2) (by decide +kernel) rfl
theorem dJ9_min_7cf53_5 : decode cJ9_min_7cf53 5 = .ok (.iload_n 0, 1) := zrD zrw_cJ9_min_7cf53_0 (i := 5) (by decide +kernel) rfl
theorem dJ9_min_7cf53_6 : decode cJ9_min_7cf53 6 = .ok (.goto 4, 3) := zrD zrw_cJ9_min_7cf53_0 (i := 6) (by decide +kernel) rfl
theorem dJ9_min_7cf53_9 : decode cJ9_min_7cf53 9 = .ok (.iload_n 1, 1) := zrD zrw_cJ9_min_7cf53_0 (i := 9) (by decide +kernel) rfl
theorem dJ9_min_7cf53_10 : decode cJ9_min_7cf53 10 = .ok (.ireturn, 1) := zrD zrw_cJ9_min_7cf53_0 (i := 10) (by decide +kernel) rfl
def zrk_cL_law_0 : ByteArray := .mk #[187, 0, 7, 89, 183, 0, 9, 76, 187, 0, 10, 89, 183, 0, 12, 77, 3, 62, 29, 42, 190, 16, 6, 100, 163, 5, 143, 42, 29, 46, 16, 63]
theorem zrw_cL_law_0 : zrW 0 cL_law zrk_cL_law_0 := by unfold zrW; decide +kernel
theorem dL_law_0 : decode cL_law 0 = .ok (.new 7, 3) := zrD zrw_cL_law_0 (i := 0) (by decide +kernel) rfl
theorem dL_law_3 : decode cL_law 3 = .ok (.dup, 1) := zrD zrw_cL_law_0 (i := 3) (by decide +kernel) rfl
theorem dL_law_4 : decode cL_law 4 = .ok (.invokespecial 9, 3) := zrD zrw_cL_law_0 (i := 4) (by decide +kernel) rfl
theorem dL_law_7 : decode cL_law 7 = .ok (.astore_n 1, 1) := zrD zrw_cL_law_0 (i := 7) (by decide +kernel) rfl
theorem dL_law_8 : decode cL_law 8 = .ok (.new 10, 3) := zrD zrw_cL_law_0 (i := 8) (by decide +kernel) rfl
theorem dL_law_11 : decode cL_law 11 = .ok (.dup, 1) := zrD zrw_cL_law_0 (i := 11) (by decide +kernel) rfl
theorem dL_law_12 : decode cL_law 12 = .ok (.invokespecial 12, 3) := zrD zrw_cL_law_0 (i := 12) (by decide +kernel) rfl
theorem dL_law_15 : decode cL_law 15 = .ok (.astore_n 2, 1) := zrD zrw_cL_law_0 (i := 15) (by decide +kernel) rfl
theorem dL_law_16 : decode cL_law 16 = .ok (.iconst 0, 1) := zrD zrw_cL_law_0 (i := 16) (by decide +kernel) rfl
theorem dL_law_17 : decode cL_law 17 = .ok (.istore_n 3, 1) := zrD zrw_cL_law_0 (i := 17) (by decide +kernel) rfl
theorem dL_law_18 : decode cL_law 18 = .ok (.iload_n 3, 1) := zrD zrw_cL_law_0 (i := 18) (by decide +kernel) rfl
theorem dL_law_19 : decode cL_law 19 = .ok (.aload_n 0, 1) := zrD zrw_cL_law_0 (i := 19) (by decide +kernel) rfl
theorem dL_law_20 : decode cL_law 20 = .ok (.arraylength, 1) := zrD zrw_cL_law_0 (i := 20) (by decide +kernel) rfl
theorem dL_law_21 : decode cL_law 21 = .ok (.bipush 6, 2) := zrD zrw_cL_law_0 (i := 21) (by decide +kernel) rfl
theorem dL_law_23 : decode cL_law 23 = .ok (.isub, 1) := zrD zrw_cL_law_0 (i := 23) (by decide +kernel) rfl
theorem dL_law_24 : decode cL_law 24 = .ok (.if_icmp .gt 1423, 3) := zrD zrw_cL_law_0 (i := 24) (by decide +kernel) rfl
theorem dL_law_27 : decode cL_law 27 = .ok (.aload_n 0, 1) := zrD zrw_cL_law_0 (i := 27) (by decide +kernel) rfl
theorem dL_law_28 : decode cL_law 28 = .ok (.iload_n 3, 1) := zrD zrw_cL_law_0 (i := 28) (by decide +kernel) rfl
theorem dL_law_29 : decode cL_law 29 = .ok (.iaload, 1) := zrD zrw_cL_law_0 (i := 29) (by decide +kernel) rfl
theorem dL_law_30 : decode cL_law 30 = .ok (.bipush 63, 2) := zrD zrw_cL_law_0 (i := 30) (by decide +kernel) rfl
def zrk_cL_law_32 : ByteArray := .mk #[126]
theorem zrw_cL_law_32 : zrW 32 cL_law zrk_cL_law_32 := by unfold zrW; decide +kernel
theorem dL_law_32 : decode cL_law 32 = .ok (.iand, 1) := zrD zrw_cL_law_32 (i := 0) (by decide +kernel) rfl
theorem dL_law_33 : decode cL_law 33 = .ok (.tableswitch 1408 0 42 #[187, 250, 273, 286, 299, 332, 365, 388, 437, 470, 493, 516, 529, 552, 585, 608, 631, 664, 687, 720, 743, 766, 799, 832, 865, 878, 901, 934, 957, 1000, 1013, 1026, 1069, 1092, 1135, 1158, 1201, 1270, 1283, 1316, 1339, 1362, 1385], 187) := by decide +kernel
def zrk_cL_law_220 : ByteArray := .mk #[43, 42, 29, 4, 96, 46, 42, 29, 5, 96, 46, 42, 29, 6, 96, 46, 42, 29, 7, 96, 46, 42, 29, 8, 96, 46, 182, 0, 13, 87, 44, 42]
theorem zrw_cL_law_220 : zrW 220 cL_law zrk_cL_law_220 := by unfold zrW; decide +kernel
theorem dL_law_220 : decode cL_law 220 = .ok (.aload_n 1, 1) := zrD zrw_cL_law_220 (i := 0) (by decide +kernel) rfl
theorem dL_law_221 : decode cL_law 221 = .ok (.aload_n 0, 1) := zrD zrw_cL_law_220 (i := 1) (by decide +kernel) rfl
theorem dL_law_222 : decode cL_law 222 = .ok (.iload_n 3, 1) := zrD zrw_cL_law_220 (i := 2) (by decide +kernel) rfl
theorem dL_law_223 : decode cL_law 223 = .ok (.iconst 1, 1) := zrD zrw_cL_law_220 (i := 3) (by decide +kernel) rfl
theorem dL_law_224 : decode cL_law 224 = .ok (.iadd, 1) := zrD zrw_cL_law_220 (i := 4) (by decide +kernel) rfl
theorem dL_law_225 : decode cL_law 225 = .ok (.iaload, 1) := zrD zrw_cL_law_220 (i := 5) (by decide +kernel) rfl
theorem dL_law_226 : decode cL_law 226 = .ok (.aload_n 0, 1) := zrD zrw_cL_law_220 (i := 6) (by decide +kernel) rfl
theorem dL_law_227 : decode cL_law 227 = .ok (.iload_n 3, 1) := zrD zrw_cL_law_220 (i := 7) (by decide +kernel) rfl
theorem dL_law_228 : decode cL_law 228 = .ok (.iconst 2, 1) := zrD zrw_cL_law_220 (i := 8) (by decide +kernel) rfl
theorem dL_law_229 : decode cL_law 229 = .ok (.iadd, 1) := zrD zrw_cL_law_220 (i := 9) (by decide +kernel) rfl
theorem dL_law_230 : decode cL_law 230 = .ok (.iaload, 1) := zrD zrw_cL_law_220 (i := 10) (by decide +kernel) rfl
theorem dL_law_231 : decode cL_law 231 = .ok (.aload_n 0, 1) := zrD zrw_cL_law_220 (i := 11) (by decide +kernel) rfl
theorem dL_law_232 : decode cL_law 232 = .ok (.iload_n 3, 1) := zrD zrw_cL_law_220 (i := 12) (by decide +kernel) rfl
theorem dL_law_233 : decode cL_law 233 = .ok (.iconst 3, 1) := zrD zrw_cL_law_220 (i := 13) (by decide +kernel) rfl
theorem dL_law_234 : decode cL_law 234 = .ok (.iadd, 1) := zrD zrw_cL_law_220 (i := 14) (by decide +kernel) rfl
theorem dL_law_235 : decode cL_law 235 = .ok (.iaload, 1) := zrD zrw_cL_law_220 (i := 15) (by decide +kernel) rfl
theorem dL_law_236 : decode cL_law 236 = .ok (.aload_n 0, 1) := zrD zrw_cL_law_220 (i := 16) (by decide +kernel) rfl
theorem dL_law_237 : decode cL_law 237 = .ok (.iload_n 3, 1) := zrD zrw_cL_law_220 (i := 17) (by decide +kernel) rfl
theorem dL_law_238 : decode cL_law 238 = .ok (.iconst 4, 1) := zrD zrw_cL_law_220 (i := 18) (by decide +kernel) rfl
theorem dL_law_239 : decode cL_law 239 = .ok (.iadd, 1) := zrD zrw_cL_law_220 (i := 19) (by decide +kernel) rfl
theorem dL_law_240 : decode cL_law 240 = .ok (.iaload, 1) := zrD zrw_cL_law_220 (i := 20) (by decide +kernel) rfl
theorem dL_law_241 : decode cL_law 241 = .ok (.aload_n 0, 1) := zrD zrw_cL_law_220 (i := 21) (by decide +kernel) rfl
theorem dL_law_242 : decode cL_law 242 = .ok (.iload_n 3, 1) := zrD zrw_cL_law_220 (i := 22) (by decide +kernel) rfl
theorem dL_law_243 : decode cL_law 243 = .ok (.iconst 5, 1) := zrD zrw_cL_law_220 (i := 23) (by decide +kernel) rfl
theorem dL_law_244 : decode cL_law 244 = .ok (.iadd, 1) := zrD zrw_cL_law_220 (i := 24) (by decide +kernel) rfl
theorem dL_law_245 : decode cL_law 245 = .ok (.iaload, 1) := zrD zrw_cL_law_220 (i := 25) (by decide +kernel) rfl
theorem dL_law_246 : decode cL_law 246 = .ok (.invokevirtual 13, 3) := zrD zrw_cL_law_220 (i := 26) (by decide +kernel) rfl
theorem dL_law_249 : decode cL_law 249 = .ok (.pop, 1) := zrD zrw_cL_law_220 (i := 29) (by decide +kernel) rfl
theorem dL_law_250 : decode cL_law 250 = .ok (.aload_n 2, 1) := zrD zrw_cL_law_220 (i := 30) (by decide +kernel) rfl
theorem dL_law_251 : decode cL_law 251 = .ok (.aload_n 0, 1) := zrD zrw_cL_law_220 (i := 31) (by decide +kernel) rfl
def zrk_cL_law_252 : ByteArray := .mk #[29, 4, 96, 46, 42, 29, 5, 96, 46, 42, 29, 6, 96, 46, 42, 29, 7, 96, 46, 42, 29, 8, 96, 46, 182, 0, 17, 87, 167, 4, 137, 43]
theorem zrw_cL_law_252 : zrW 252 cL_law zrk_cL_law_252 := by unfold zrW; decide +kernel
theorem dL_law_252 : decode cL_law 252 = .ok (.iload_n 3, 1) := zrD zrw_cL_law_252 (i := 0) (by decide +kernel) rfl
theorem dL_law_253 : decode cL_law 253 = .ok (.iconst 1, 1) := zrD zrw_cL_law_252 (i := 1) (by decide +kernel) rfl
theorem dL_law_254 : decode cL_law 254 = .ok (.iadd, 1) := zrD zrw_cL_law_252 (i := 2) (by decide +kernel) rfl
theorem dL_law_255 : decode cL_law 255 = .ok (.iaload, 1) := zrD zrw_cL_law_252 (i := 3) (by decide +kernel) rfl
theorem dL_law_256 : decode cL_law 256 = .ok (.aload_n 0, 1) := zrD zrw_cL_law_252 (i := 4) (by decide +kernel) rfl
theorem dL_law_257 : decode cL_law 257 = .ok (.iload_n 3, 1) := zrD zrw_cL_law_252 (i := 5) (by decide +kernel) rfl
theorem dL_law_258 : decode cL_law 258 = .ok (.iconst 2, 1) := zrD zrw_cL_law_252 (i := 6) (by decide +kernel) rfl
theorem dL_law_259 : decode cL_law 259 = .ok (.iadd, 1) := zrD zrw_cL_law_252 (i := 7) (by decide +kernel) rfl
theorem dL_law_260 : decode cL_law 260 = .ok (.iaload, 1) := zrD zrw_cL_law_252 (i := 8) (by decide +kernel) rfl
theorem dL_law_261 : decode cL_law 261 = .ok (.aload_n 0, 1) := zrD zrw_cL_law_252 (i := 9) (by decide +kernel) rfl
theorem dL_law_262 : decode cL_law 262 = .ok (.iload_n 3, 1) := zrD zrw_cL_law_252 (i := 10) (by decide +kernel) rfl
theorem dL_law_263 : decode cL_law 263 = .ok (.iconst 3, 1) := zrD zrw_cL_law_252 (i := 11) (by decide +kernel) rfl
theorem dL_law_264 : decode cL_law 264 = .ok (.iadd, 1) := zrD zrw_cL_law_252 (i := 12) (by decide +kernel) rfl
theorem dL_law_265 : decode cL_law 265 = .ok (.iaload, 1) := zrD zrw_cL_law_252 (i := 13) (by decide +kernel) rfl
theorem dL_law_266 : decode cL_law 266 = .ok (.aload_n 0, 1) := zrD zrw_cL_law_252 (i := 14) (by decide +kernel) rfl
theorem dL_law_267 : decode cL_law 267 = .ok (.iload_n 3, 1) := zrD zrw_cL_law_252 (i := 15) (by decide +kernel) rfl
theorem dL_law_268 : decode cL_law 268 = .ok (.iconst 4, 1) := zrD zrw_cL_law_252 (i := 16) (by decide +kernel) rfl
theorem dL_law_269 : decode cL_law 269 = .ok (.iadd, 1) := zrD zrw_cL_law_252 (i := 17) (by decide +kernel) rfl
theorem dL_law_270 : decode cL_law 270 = .ok (.iaload, 1) := zrD zrw_cL_law_252 (i := 18) (by decide +kernel) rfl
theorem dL_law_271 : decode cL_law 271 = .ok (.aload_n 0, 1) := zrD zrw_cL_law_252 (i := 19) (by decide +kernel) rfl
theorem dL_law_272 : decode cL_law 272 = .ok (.iload_n 3, 1) := zrD zrw_cL_law_252 (i := 20) (by decide +kernel) rfl
theorem dL_law_273 : decode cL_law 273 = .ok (.iconst 5, 1) := zrD zrw_cL_law_252 (i := 21) (by decide +kernel) rfl
theorem dL_law_274 : decode cL_law 274 = .ok (.iadd, 1) := zrD zrw_cL_law_252 (i := 22) (by decide +kernel) rfl
theorem dL_law_275 : decode cL_law 275 = .ok (.iaload, 1) := zrD zrw_cL_law_252 (i := 23) (by decide +kernel) rfl
theorem dL_law_276 : decode cL_law 276 = .ok (.invokevirtual 17, 3) := zrD zrw_cL_law_252 (i := 24) (by decide +kernel) rfl
theorem dL_law_279 : decode cL_law 279 = .ok (.pop, 1) := zrD zrw_cL_law_252 (i := 27) (by decide +kernel) rfl
theorem dL_law_280 : decode cL_law 280 = .ok (.goto 1161, 3) := zrD zrw_cL_law_252 (i := 28) (by decide +kernel) rfl
theorem dL_law_283 : decode cL_law 283 = .ok (.aload_n 1, 1) := zrD zrw_cL_law_252 (i := 31) (by decide +kernel) rfl
def zrk_cL_law_284 : ByteArray := .mk #[42, 29, 4, 96, 46, 182, 0, 18, 87, 44, 42, 29, 4, 96, 46, 182, 0, 22, 87, 167, 4, 114, 43, 182, 0, 23, 87, 44, 182, 0, 27, 87]
theorem zrw_cL_law_284 : zrW 284 cL_law zrk_cL_law_284 := by unfold zrW; decide +kernel
theorem dL_law_284 : decode cL_law 284 = .ok (.aload_n 0, 1) := zrD zrw_cL_law_284 (i := 0) (by decide +kernel) rfl
theorem dL_law_285 : decode cL_law 285 = .ok (.iload_n 3, 1) := zrD zrw_cL_law_284 (i := 1) (by decide +kernel) rfl
theorem dL_law_286 : decode cL_law 286 = .ok (.iconst 1, 1) := zrD zrw_cL_law_284 (i := 2) (by decide +kernel) rfl
theorem dL_law_287 : decode cL_law 287 = .ok (.iadd, 1) := zrD zrw_cL_law_284 (i := 3) (by decide +kernel) rfl
theorem dL_law_288 : decode cL_law 288 = .ok (.iaload, 1) := zrD zrw_cL_law_284 (i := 4) (by decide +kernel) rfl
theorem dL_law_289 : decode cL_law 289 = .ok (.invokevirtual 18, 3) := zrD zrw_cL_law_284 (i := 5) (by decide +kernel) rfl
theorem dL_law_292 : decode cL_law 292 = .ok (.pop, 1) := zrD zrw_cL_law_284 (i := 8) (by decide +kernel) rfl
theorem dL_law_293 : decode cL_law 293 = .ok (.aload_n 2, 1) := zrD zrw_cL_law_284 (i := 9) (by decide +kernel) rfl
theorem dL_law_294 : decode cL_law 294 = .ok (.aload_n 0, 1) := zrD zrw_cL_law_284 (i := 10) (by decide +kernel) rfl
theorem dL_law_295 : decode cL_law 295 = .ok (.iload_n 3, 1) := zrD zrw_cL_law_284 (i := 11) (by decide +kernel) rfl
theorem dL_law_296 : decode cL_law 296 = .ok (.iconst 1, 1) := zrD zrw_cL_law_284 (i := 12) (by decide +kernel) rfl
theorem dL_law_297 : decode cL_law 297 = .ok (.iadd, 1) := zrD zrw_cL_law_284 (i := 13) (by decide +kernel) rfl
theorem dL_law_298 : decode cL_law 298 = .ok (.iaload, 1) := zrD zrw_cL_law_284 (i := 14) (by decide +kernel) rfl
theorem dL_law_299 : decode cL_law 299 = .ok (.invokevirtual 22, 3) := zrD zrw_cL_law_284 (i := 15) (by decide +kernel) rfl
theorem dL_law_302 : decode cL_law 302 = .ok (.pop, 1) := zrD zrw_cL_law_284 (i := 18) (by decide +kernel) rfl
theorem dL_law_303 : decode cL_law 303 = .ok (.goto 1138, 3) := zrD zrw_cL_law_284 (i := 19) (by decide +kernel) rfl
theorem dL_law_306 : decode cL_law 306 = .ok (.aload_n 1, 1) := zrD zrw_cL_law_284 (i := 22) (by decide +kernel) rfl
theorem dL_law_307 : decode cL_law 307 = .ok (.invokevirtual 23, 3) := zrD zrw_cL_law_284 (i := 23) (by decide +kernel) rfl
theorem dL_law_310 : decode cL_law 310 = .ok (.pop, 1) := zrD zrw_cL_law_284 (i := 26) (by decide +kernel) rfl
theorem dL_law_311 : decode cL_law 311 = .ok (.aload_n 2, 1) := zrD zrw_cL_law_284 (i := 27) (by decide +kernel) rfl
theorem dL_law_312 : decode cL_law 312 = .ok (.invokevirtual 27, 3) := zrD zrw_cL_law_284 (i := 28) (by decide +kernel) rfl
theorem dL_law_315 : decode cL_law 315 = .ok (.pop, 1) := zrD zrw_cL_law_284 (i := 31) (by decide +kernel) rfl
def zrk_cL_law_316 : ByteArray := .mk #[167, 4, 101, 43, 182, 0, 28, 87, 44, 182, 0, 31, 87, 167, 4, 88, 43, 42, 29, 4, 96, 46, 42, 29, 5, 96, 46, 182, 0, 32, 87, 44]
theorem zrw_cL_law_316 : zrW 316 cL_law zrk_cL_law_316 := by unfold zrW; decide +kernel
theorem dL_law_316 : decode cL_law 316 = .ok (.goto 1125, 3) := zrD zrw_cL_law_316 (i := 0) (by decide +kernel) rfl
theorem dL_law_319 : decode cL_law 319 = .ok (.aload_n 1, 1) := zrD zrw_cL_law_316 (i := 3) (by decide +kernel) rfl
theorem dL_law_320 : decode cL_law 320 = .ok (.invokevirtual 28, 3) := zrD zrw_cL_law_316 (i := 4) (by decide +kernel) rfl
theorem dL_law_323 : decode cL_law 323 = .ok (.pop, 1) := zrD zrw_cL_law_316 (i := 7) (by decide +kernel) rfl
theorem dL_law_324 : decode cL_law 324 = .ok (.aload_n 2, 1) := zrD zrw_cL_law_316 (i := 8) (by decide +kernel) rfl
theorem dL_law_325 : decode cL_law 325 = .ok (.invokevirtual 31, 3) := zrD zrw_cL_law_316 (i := 9) (by decide +kernel) rfl
theorem dL_law_328 : decode cL_law 328 = .ok (.pop, 1) := zrD zrw_cL_law_316 (i := 12) (by decide +kernel) rfl
theorem dL_law_329 : decode cL_law 329 = .ok (.goto 1112, 3) := zrD zrw_cL_law_316 (i := 13) (by decide +kernel) rfl
theorem dL_law_332 : decode cL_law 332 = .ok (.aload_n 1, 1) := zrD zrw_cL_law_316 (i := 16) (by decide +kernel) rfl
theorem dL_law_333 : decode cL_law 333 = .ok (.aload_n 0, 1) := zrD zrw_cL_law_316 (i := 17) (by decide +kernel) rfl
theorem dL_law_334 : decode cL_law 334 = .ok (.iload_n 3, 1) := zrD zrw_cL_law_316 (i := 18) (by decide +kernel) rfl
theorem dL_law_335 : decode cL_law 335 = .ok (.iconst 1, 1) := zrD zrw_cL_law_316 (i := 19) (by decide +kernel) rfl
theorem dL_law_336 : decode cL_law 336 = .ok (.iadd, 1) := zrD zrw_cL_law_316 (i := 20) (by decide +kernel) rfl
theorem dL_law_337 : decode cL_law 337 = .ok (.iaload, 1) := zrD zrw_cL_law_316 (i := 21) (by decide +kernel) rfl
theorem dL_law_338 : decode cL_law 338 = .ok (.aload_n 0, 1) := zrD zrw_cL_law_316 (i := 22) (by decide +kernel) rfl
theorem dL_law_339 : decode cL_law 339 = .ok (.iload_n 3, 1) := zrD zrw_cL_law_316 (i := 23) (by decide +kernel) rfl
theorem dL_law_340 : decode cL_law 340 = .ok (.iconst 2, 1) := zrD zrw_cL_law_316 (i := 24) (by decide +kernel) rfl
theorem dL_law_341 : decode cL_law 341 = .ok (.iadd, 1) := zrD zrw_cL_law_316 (i := 25) (by decide +kernel) rfl
theorem dL_law_342 : decode cL_law 342 = .ok (.iaload, 1) := zrD zrw_cL_law_316 (i := 26) (by decide +kernel) rfl
theorem dL_law_343 : decode cL_law 343 = .ok (.invokevirtual 32, 3) := zrD zrw_cL_law_316 (i := 27) (by decide +kernel) rfl
theorem dL_law_346 : decode cL_law 346 = .ok (.pop, 1) := zrD zrw_cL_law_316 (i := 30) (by decide +kernel) rfl
theorem dL_law_347 : decode cL_law 347 = .ok (.aload_n 2, 1) := zrD zrw_cL_law_316 (i := 31) (by decide +kernel) rfl
def zrk_cL_law_348 : ByteArray := .mk #[42, 29, 4, 96, 46, 42, 29, 5, 96, 46, 182, 0, 36, 87, 167, 4, 55, 43, 42, 29, 4, 96, 46, 42, 29, 5, 96, 46, 182, 0, 37, 87]
theorem zrw_cL_law_348 : zrW 348 cL_law zrk_cL_law_348 := by unfold zrW; decide +kernel
theorem dL_law_348 : decode cL_law 348 = .ok (.aload_n 0, 1) := zrD zrw_cL_law_348 (i := 0) (by decide +kernel) rfl
theorem dL_law_349 : decode cL_law 349 = .ok (.iload_n 3, 1) := zrD zrw_cL_law_348 (i := 1) (by decide +kernel) rfl
theorem dL_law_350 : decode cL_law 350 = .ok (.iconst 1, 1) := zrD zrw_cL_law_348 (i := 2) (by decide +kernel) rfl
theorem dL_law_351 : decode cL_law 351 = .ok (.iadd, 1) := zrD zrw_cL_law_348 (i := 3) (by decide +kernel) rfl
theorem dL_law_352 : decode cL_law 352 = .ok (.iaload, 1) := zrD zrw_cL_law_348 (i := 4) (by decide +kernel) rfl
theorem dL_law_353 : decode cL_law 353 = .ok (.aload_n 0, 1) := zrD zrw_cL_law_348 (i := 5) (by decide +kernel) rfl
theorem dL_law_354 : decode cL_law 354 = .ok (.iload_n 3, 1) := zrD zrw_cL_law_348 (i := 6) (by decide +kernel) rfl
theorem dL_law_355 : decode cL_law 355 = .ok (.iconst 2, 1) := zrD zrw_cL_law_348 (i := 7) (by decide +kernel) rfl
theorem dL_law_356 : decode cL_law 356 = .ok (.iadd, 1) := zrD zrw_cL_law_348 (i := 8) (by decide +kernel) rfl
theorem dL_law_357 : decode cL_law 357 = .ok (.iaload, 1) := zrD zrw_cL_law_348 (i := 9) (by decide +kernel) rfl
theorem dL_law_358 : decode cL_law 358 = .ok (.invokevirtual 36, 3) := zrD zrw_cL_law_348 (i := 10) (by decide +kernel) rfl
theorem dL_law_361 : decode cL_law 361 = .ok (.pop, 1) := zrD zrw_cL_law_348 (i := 13) (by decide +kernel) rfl
theorem dL_law_362 : decode cL_law 362 = .ok (.goto 1079, 3) := zrD zrw_cL_law_348 (i := 14) (by decide +kernel) rfl
theorem dL_law_365 : decode cL_law 365 = .ok (.aload_n 1, 1) := zrD zrw_cL_law_348 (i := 17) (by decide +kernel) rfl
theorem dL_law_366 : decode cL_law 366 = .ok (.aload_n 0, 1) := zrD zrw_cL_law_348 (i := 18) (by decide +kernel) rfl
theorem dL_law_367 : decode cL_law 367 = .ok (.iload_n 3, 1) := zrD zrw_cL_law_348 (i := 19) (by decide +kernel) rfl
theorem dL_law_368 : decode cL_law 368 = .ok (.iconst 1, 1) := zrD zrw_cL_law_348 (i := 20) (by decide +kernel) rfl
theorem dL_law_369 : decode cL_law 369 = .ok (.iadd, 1) := zrD zrw_cL_law_348 (i := 21) (by decide +kernel) rfl
theorem dL_law_370 : decode cL_law 370 = .ok (.iaload, 1) := zrD zrw_cL_law_348 (i := 22) (by decide +kernel) rfl
theorem dL_law_371 : decode cL_law 371 = .ok (.aload_n 0, 1) := zrD zrw_cL_law_348 (i := 23) (by decide +kernel) rfl
theorem dL_law_372 : decode cL_law 372 = .ok (.iload_n 3, 1) := zrD zrw_cL_law_348 (i := 24) (by decide +kernel) rfl
theorem dL_law_373 : decode cL_law 373 = .ok (.iconst 2, 1) := zrD zrw_cL_law_348 (i := 25) (by decide +kernel) rfl
theorem dL_law_374 : decode cL_law 374 = .ok (.iadd, 1) := zrD zrw_cL_law_348 (i := 26) (by decide +kernel) rfl
theorem dL_law_375 : decode cL_law 375 = .ok (.iaload, 1) := zrD zrw_cL_law_348 (i := 27) (by decide +kernel) rfl
theorem dL_law_376 : decode cL_law 376 = .ok (.invokevirtual 37, 3) := zrD zrw_cL_law_348 (i := 28) (by decide +kernel) rfl
theorem dL_law_379 : decode cL_law 379 = .ok (.pop, 1) := zrD zrw_cL_law_348 (i := 31) (by decide +kernel) rfl
def zrk_cL_law_380 : ByteArray := .mk #[44, 42, 29, 4, 96, 46, 42, 29, 5, 96, 46, 182, 0, 40, 87, 167, 4, 22, 43, 42, 29, 4, 96, 46, 182, 0, 41, 87, 44, 42, 29, 4]
theorem zrw_cL_law_380 : zrW 380 cL_law zrk_cL_law_380 := by unfold zrW; decide +kernel
theorem dL_law_380 : decode cL_law 380 = .ok (.aload_n 2, 1) := zrD zrw_cL_law_380 (i := 0) (by decide +kernel) rfl
theorem dL_law_381 : decode cL_law 381 = .ok (.aload_n 0, 1) := zrD zrw_cL_law_380 (i := 1) (by decide +kernel) rfl
theorem dL_law_382 : decode cL_law 382 = .ok (.iload_n 3, 1) := zrD zrw_cL_law_380 (i := 2) (by decide +kernel) rfl
theorem dL_law_383 : decode cL_law 383 = .ok (.iconst 1, 1) := zrD zrw_cL_law_380 (i := 3) (by decide +kernel) rfl
theorem dL_law_384 : decode cL_law 384 = .ok (.iadd, 1) := zrD zrw_cL_law_380 (i := 4) (by decide +kernel) rfl
theorem dL_law_385 : decode cL_law 385 = .ok (.iaload, 1) := zrD zrw_cL_law_380 (i := 5) (by decide +kernel) rfl
theorem dL_law_386 : decode cL_law 386 = .ok (.aload_n 0, 1) := zrD zrw_cL_law_380 (i := 6) (by decide +kernel) rfl
theorem dL_law_387 : decode cL_law 387 = .ok (.iload_n 3, 1) := zrD zrw_cL_law_380 (i := 7) (by decide +kernel) rfl
theorem dL_law_388 : decode cL_law 388 = .ok (.iconst 2, 1) := zrD zrw_cL_law_380 (i := 8) (by decide +kernel) rfl
theorem dL_law_389 : decode cL_law 389 = .ok (.iadd, 1) := zrD zrw_cL_law_380 (i := 9) (by decide +kernel) rfl
theorem dL_law_390 : decode cL_law 390 = .ok (.iaload, 1) := zrD zrw_cL_law_380 (i := 10) (by decide +kernel) rfl
theorem dL_law_391 : decode cL_law 391 = .ok (.invokevirtual 40, 3) := zrD zrw_cL_law_380 (i := 11) (by decide +kernel) rfl
theorem dL_law_394 : decode cL_law 394 = .ok (.pop, 1) := zrD zrw_cL_law_380 (i := 14) (by decide +kernel) rfl
theorem dL_law_395 : decode cL_law 395 = .ok (.goto 1046, 3) := zrD zrw_cL_law_380 (i := 15) (by decide +kernel) rfl
theorem dL_law_398 : decode cL_law 398 = .ok (.aload_n 1, 1) := zrD zrw_cL_law_380 (i := 18) (by decide +kernel) rfl
theorem dL_law_399 : decode cL_law 399 = .ok (.aload_n 0, 1) := zrD zrw_cL_law_380 (i := 19) (by decide +kernel) rfl
theorem dL_law_400 : decode cL_law 400 = .ok (.iload_n 3, 1) := zrD zrw_cL_law_380 (i := 20) (by decide +kernel) rfl
theorem dL_law_401 : decode cL_law 401 = .ok (.iconst 1, 1) := zrD zrw_cL_law_380 (i := 21) (by decide +kernel) rfl
theorem dL_law_402 : decode cL_law 402 = .ok (.iadd, 1) := zrD zrw_cL_law_380 (i := 22) (by decide +kernel) rfl
theorem dL_law_403 : decode cL_law 403 = .ok (.iaload, 1) := zrD zrw_cL_law_380 (i := 23) (by decide +kernel) rfl
theorem dL_law_404 : decode cL_law 404 = .ok (.invokevirtual 41, 3) := zrD zrw_cL_law_380 (i := 24) (by decide +kernel) rfl
theorem dL_law_407 : decode cL_law 407 = .ok (.pop, 1) := zrD zrw_cL_law_380 (i := 27) (by decide +kernel) rfl
theorem dL_law_408 : decode cL_law 408 = .ok (.aload_n 2, 1) := zrD zrw_cL_law_380 (i := 28) (by decide +kernel) rfl
theorem dL_law_409 : decode cL_law 409 = .ok (.aload_n 0, 1) := zrD zrw_cL_law_380 (i := 29) (by decide +kernel) rfl
theorem dL_law_410 : decode cL_law 410 = .ok (.iload_n 3, 1) := zrD zrw_cL_law_380 (i := 30) (by decide +kernel) rfl
theorem dL_law_411 : decode cL_law 411 = .ok (.iconst 1, 1) := zrD zrw_cL_law_380 (i := 31) (by decide +kernel) rfl
def zrk_cL_law_412 : ByteArray := .mk #[96, 46, 182, 0, 44, 87, 167, 3, 255, 43, 42, 29, 4, 96, 46, 42, 29, 5, 96, 46, 153, 0, 7, 4, 167, 0, 4, 3, 182, 0, 45, 87]
theorem zrw_cL_law_412 : zrW 412 cL_law zrk_cL_law_412 := by unfold zrW; decide +kernel
theorem dL_law_412 : decode cL_law 412 = .ok (.iadd, 1) := zrD zrw_cL_law_412 (i := 0) (by decide +kernel) rfl
theorem dL_law_413 : decode cL_law 413 = .ok (.iaload, 1) := zrD zrw_cL_law_412 (i := 1) (by decide +kernel) rfl
theorem dL_law_414 : decode cL_law 414 = .ok (.invokevirtual 44, 3) := zrD zrw_cL_law_412 (i := 2) (by decide +kernel) rfl
theorem dL_law_417 : decode cL_law 417 = .ok (.pop, 1) := zrD zrw_cL_law_412 (i := 5) (by decide +kernel) rfl
theorem dL_law_418 : decode cL_law 418 = .ok (.goto 1023, 3) := zrD zrw_cL_law_412 (i := 6) (by decide +kernel) rfl
theorem dL_law_421 : decode cL_law 421 = .ok (.aload_n 1, 1) := zrD zrw_cL_law_412 (i := 9) (by decide +kernel) rfl
theorem dL_law_422 : decode cL_law 422 = .ok (.aload_n 0, 1) := zrD zrw_cL_law_412 (i := 10) (by decide +kernel) rfl
theorem dL_law_423 : decode cL_law 423 = .ok (.iload_n 3, 1) := zrD zrw_cL_law_412 (i := 11) (by decide +kernel) rfl
theorem dL_law_424 : decode cL_law 424 = .ok (.iconst 1, 1) := zrD zrw_cL_law_412 (i := 12) (by decide +kernel) rfl
theorem dL_law_425 : decode cL_law 425 = .ok (.iadd, 1) := zrD zrw_cL_law_412 (i := 13) (by decide +kernel) rfl
theorem dL_law_426 : decode cL_law 426 = .ok (.iaload, 1) := zrD zrw_cL_law_412 (i := 14) (by decide +kernel) rfl
theorem dL_law_427 : decode cL_law 427 = .ok (.aload_n 0, 1) := zrD zrw_cL_law_412 (i := 15) (by decide +kernel) rfl
theorem dL_law_428 : decode cL_law 428 = .ok (.iload_n 3, 1) := zrD zrw_cL_law_412 (i := 16) (by decide +kernel) rfl
theorem dL_law_429 : decode cL_law 429 = .ok (.iconst 2, 1) := zrD zrw_cL_law_412 (i := 17) (by decide +kernel) rfl
theorem dL_law_430 : decode cL_law 430 = .ok (.iadd, 1) := zrD zrw_cL_law_412 (i := 18) (by decide +kernel) rfl
theorem dL_law_431 : decode cL_law 431 = .ok (.iaload, 1) := zrD zrw_cL_law_412 (i := 19) (by decide +kernel) rfl
theorem dL_law_432 : decode cL_law 432 = .ok (.ifCond .eq 7, 3) := zrD zrw_cL_law_412 (i := 20) (by decide +kernel) rfl
theorem dL_law_435 : decode cL_law 435 = .ok (.iconst 1, 1) := zrD zrw_cL_law_412 (i := 23) (by decide +kernel) rfl
theorem dL_law_436 : decode cL_law 436 = .ok (.goto 4, 3) := zrD zrw_cL_law_412 (i := 24) (by decide +kernel) rfl
theorem dL_law_439 : decode cL_law 439 = .ok (.iconst 0, 1) := zrD zrw_cL_law_412 (i := 27) (by decide +kernel) rfl
theorem dL_law_440 : decode cL_law 440 = .ok (.invokevirtual 45, 3) := zrD zrw_cL_law_412 (i := 28) (by decide +kernel) rfl
theorem dL_law_443 : decode cL_law 443 = .ok (.pop, 1) := zrD zrw_cL_law_412 (i := 31) (by decide +kernel) rfl
def zrk_cL_law_444 : ByteArray := .mk #[44, 42, 29, 4, 96, 46, 42, 29, 5, 96, 46, 153, 0, 7, 4, 167, 0, 4, 3, 182, 0, 49, 87, 167, 3, 206, 43, 42, 29, 4, 96, 46]
theorem zrw_cL_law_444 : zrW 444 cL_law zrk_cL_law_444 := by unfold zrW; decide +kernel
theorem dL_law_444 : decode cL_law 444 = .ok (.aload_n 2, 1) := zrD zrw_cL_law_444 (i := 0) (by decide +kernel) rfl
theorem dL_law_445 : decode cL_law 445 = .ok (.aload_n 0, 1) := zrD zrw_cL_law_444 (i := 1) (by decide +kernel) rfl
theorem dL_law_446 : decode cL_law 446 = .ok (.iload_n 3, 1) := zrD zrw_cL_law_444 (i := 2) (by decide +kernel) rfl
theorem dL_law_447 : decode cL_law 447 = .ok (.iconst 1, 1) := zrD zrw_cL_law_444 (i := 3) (by decide +kernel) rfl
theorem dL_law_448 : decode cL_law 448 = .ok (.iadd, 1) := zrD zrw_cL_law_444 (i := 4) (by decide +kernel) rfl
theorem dL_law_449 : decode cL_law 449 = .ok (.iaload, 1) := zrD zrw_cL_law_444 (i := 5) (by decide +kernel) rfl
theorem dL_law_450 : decode cL_law 450 = .ok (.aload_n 0, 1) := zrD zrw_cL_law_444 (i := 6) (by decide +kernel) rfl
theorem dL_law_451 : decode cL_law 451 = .ok (.iload_n 3, 1) := zrD zrw_cL_law_444 (i := 7) (by decide +kernel) rfl
theorem dL_law_452 : decode cL_law 452 = .ok (.iconst 2, 1) := zrD zrw_cL_law_444 (i := 8) (by decide +kernel) rfl
theorem dL_law_453 : decode cL_law 453 = .ok (.iadd, 1) := zrD zrw_cL_law_444 (i := 9) (by decide +kernel) rfl
theorem dL_law_454 : decode cL_law 454 = .ok (.iaload, 1) := zrD zrw_cL_law_444 (i := 10) (by decide +kernel) rfl
theorem dL_law_455 : decode cL_law 455 = .ok (.ifCond .eq 7, 3) := zrD zrw_cL_law_444 (i := 11) (by decide +kernel) rfl
theorem dL_law_458 : decode cL_law 458 = .ok (.iconst 1, 1) := zrD zrw_cL_law_444 (i := 14) (by decide +kernel) rfl
theorem dL_law_459 : decode cL_law 459 = .ok (.goto 4, 3) := zrD zrw_cL_law_444 (i := 15) (by decide +kernel) rfl
theorem dL_law_462 : decode cL_law 462 = .ok (.iconst 0, 1) := zrD zrw_cL_law_444 (i := 18) (by decide +kernel) rfl
theorem dL_law_463 : decode cL_law 463 = .ok (.invokevirtual 49, 3) := zrD zrw_cL_law_444 (i := 19) (by decide +kernel) rfl
theorem dL_law_466 : decode cL_law 466 = .ok (.pop, 1) := zrD zrw_cL_law_444 (i := 22) (by decide +kernel) rfl
theorem dL_law_467 : decode cL_law 467 = .ok (.goto 974, 3) := zrD zrw_cL_law_444 (i := 23) (by decide +kernel) rfl
theorem dL_law_470 : decode cL_law 470 = .ok (.aload_n 1, 1) := zrD zrw_cL_law_444 (i := 26) (by decide +kernel) rfl
theorem dL_law_471 : decode cL_law 471 = .ok (.aload_n 0, 1) := zrD zrw_cL_law_444 (i := 27) (by decide +kernel) rfl
theorem dL_law_472 : decode cL_law 472 = .ok (.iload_n 3, 1) := zrD zrw_cL_law_444 (i := 28) (by decide +kernel) rfl
theorem dL_law_473 : decode cL_law 473 = .ok (.iconst 1, 1) := zrD zrw_cL_law_444 (i := 29) (by decide +kernel) rfl
theorem dL_law_474 : decode cL_law 474 = .ok (.iadd, 1) := zrD zrw_cL_law_444 (i := 30) (by decide +kernel) rfl
theorem dL_law_475 : decode cL_law 475 = .ok (.iaload, 1) := zrD zrw_cL_law_444 (i := 31) (by decide +kernel) rfl
def zrk_cL_law_476 : ByteArray := .mk #[42, 29, 5, 96, 46, 182, 0, 50, 87, 44, 42, 29, 4, 96, 46, 42, 29, 5, 96, 46, 182, 0, 54, 87, 167, 3, 173, 43, 42, 29, 4, 96]
theorem zrw_cL_law_476 : zrW 476 cL_law zrk_cL_law_476 := by unfold zrW; decide +kernel
theorem dL_law_476 : decode cL_law 476 = .ok (.aload_n 0, 1) := zrD zrw_cL_law_476 (i := 0) (by decide +kernel) rfl
theorem dL_law_477 : decode cL_law 477 = .ok (.iload_n 3, 1) := zrD zrw_cL_law_476 (i := 1) (by decide +kernel) rfl
theorem dL_law_478 : decode cL_law 478 = .ok (.iconst 2, 1) := zrD zrw_cL_law_476 (i := 2) (by decide +kernel) rfl
theorem dL_law_479 : decode cL_law 479 = .ok (.iadd, 1) := zrD zrw_cL_law_476 (i := 3) (by decide +kernel) rfl
theorem dL_law_480 : decode cL_law 480 = .ok (.iaload, 1) := zrD zrw_cL_law_476 (i := 4) (by decide +kernel) rfl
theorem dL_law_481 : decode cL_law 481 = .ok (.invokevirtual 50, 3) := zrD zrw_cL_law_476 (i := 5) (by decide +kernel) rfl
theorem dL_law_484 : decode cL_law 484 = .ok (.pop, 1) := zrD zrw_cL_law_476 (i := 8) (by decide +kernel) rfl
theorem dL_law_485 : decode cL_law 485 = .ok (.aload_n 2, 1) := zrD zrw_cL_law_476 (i := 9) (by decide +kernel) rfl
theorem dL_law_486 : decode cL_law 486 = .ok (.aload_n 0, 1) := zrD zrw_cL_law_476 (i := 10) (by decide +kernel) rfl
theorem dL_law_487 : decode cL_law 487 = .ok (.iload_n 3, 1) := zrD zrw_cL_law_476 (i := 11) (by decide +kernel) rfl
theorem dL_law_488 : decode cL_law 488 = .ok (.iconst 1, 1) := zrD zrw_cL_law_476 (i := 12) (by decide +kernel) rfl
theorem dL_law_489 : decode cL_law 489 = .ok (.iadd, 1) := zrD zrw_cL_law_476 (i := 13) (by decide +kernel) rfl
theorem dL_law_490 : decode cL_law 490 = .ok (.iaload, 1) := zrD zrw_cL_law_476 (i := 14) (by decide +kernel) rfl
theorem dL_law_491 : decode cL_law 491 = .ok (.aload_n 0, 1) := zrD zrw_cL_law_476 (i := 15) (by decide +kernel) rfl
theorem dL_law_492 : decode cL_law 492 = .ok (.iload_n 3, 1) := zrD zrw_cL_law_476 (i := 16) (by decide +kernel) rfl
theorem dL_law_493 : decode cL_law 493 = .ok (.iconst 2, 1) := zrD zrw_cL_law_476 (i := 17) (by decide +kernel) rfl
theorem dL_law_494 : decode cL_law 494 = .ok (.iadd, 1) := zrD zrw_cL_law_476 (i := 18) (by decide +kernel) rfl
theorem dL_law_495 : decode cL_law 495 = .ok (.iaload, 1) := zrD zrw_cL_law_476 (i := 19) (by decide +kernel) rfl
theorem dL_law_496 : decode cL_law 496 = .ok (.invokevirtual 54, 3) := zrD zrw_cL_law_476 (i := 20) (by decide +kernel) rfl
theorem dL_law_499 : decode cL_law 499 = .ok (.pop, 1) := zrD zrw_cL_law_476 (i := 23) (by decide +kernel) rfl
theorem dL_law_500 : decode cL_law 500 = .ok (.goto 941, 3) := zrD zrw_cL_law_476 (i := 24) (by decide +kernel) rfl
theorem dL_law_503 : decode cL_law 503 = .ok (.aload_n 1, 1) := zrD zrw_cL_law_476 (i := 27) (by decide +kernel) rfl
theorem dL_law_504 : decode cL_law 504 = .ok (.aload_n 0, 1) := zrD zrw_cL_law_476 (i := 28) (by decide +kernel) rfl
theorem dL_law_505 : decode cL_law 505 = .ok (.iload_n 3, 1) := zrD zrw_cL_law_476 (i := 29) (by decide +kernel) rfl
theorem dL_law_506 : decode cL_law 506 = .ok (.iconst 1, 1) := zrD zrw_cL_law_476 (i := 30) (by decide +kernel) rfl
theorem dL_law_507 : decode cL_law 507 = .ok (.iadd, 1) := zrD zrw_cL_law_476 (i := 31) (by decide +kernel) rfl
def zrk_cL_law_508 : ByteArray := .mk #[46, 182, 0, 55, 87, 44, 42, 29, 4, 96, 46, 182, 0, 59, 87, 167, 3, 150, 43, 42, 29, 4, 96, 46, 182, 0, 60, 87, 44, 42, 29, 4]
theorem zrw_cL_law_508 : zrW 508 cL_law zrk_cL_law_508 := by unfold zrW; decide +kernel
theorem dL_law_508 : decode cL_law 508 = .ok (.iaload, 1) := zrD zrw_cL_law_508 (i := 0) (by decide +kernel) rfl
theorem dL_law_509 : decode cL_law 509 = .ok (.invokevirtual 55, 3) := zrD zrw_cL_law_508 (i := 1) (by decide +kernel) rfl
theorem dL_law_512 : decode cL_law 512 = .ok (.pop, 1) := zrD zrw_cL_law_508 (i := 4) (by decide +kernel) rfl
theorem dL_law_513 : decode cL_law 513 = .ok (.aload_n 2, 1) := zrD zrw_cL_law_508 (i := 5) (by decide +kernel) rfl
theorem dL_law_514 : decode cL_law 514 = .ok (.aload_n 0, 1) := zrD zrw_cL_law_508 (i := 6) (by decide +kernel) rfl
theorem dL_law_515 : decode cL_law 515 = .ok (.iload_n 3, 1) := zrD zrw_cL_law_508 (i := 7) (by decide +kernel) rfl
theorem dL_law_516 : decode cL_law 516 = .ok (.iconst 1, 1) := zrD zrw_cL_law_508 (i := 8) (by decide +kernel) rfl
theorem dL_law_517 : decode cL_law 517 = .ok (.iadd, 1) := zrD zrw_cL_law_508 (i := 9) (by decide +kernel) rfl
theorem dL_law_518 : decode cL_law 518 = .ok (.iaload, 1) := zrD zrw_cL_law_508 (i := 10) (by decide +kernel) rfl
theorem dL_law_519 : decode cL_law 519 = .ok (.invokevirtual 59, 3) := zrD zrw_cL_law_508 (i := 11) (by decide +kernel) rfl
theorem dL_law_522 : decode cL_law 522 = .ok (.pop, 1) := zrD zrw_cL_law_508 (i := 14) (by decide +kernel) rfl
theorem dL_law_523 : decode cL_law 523 = .ok (.goto 918, 3) := zrD zrw_cL_law_508 (i := 15) (by decide +kernel) rfl
theorem dL_law_526 : decode cL_law 526 = .ok (.aload_n 1, 1) := zrD zrw_cL_law_508 (i := 18) (by decide +kernel) rfl
theorem dL_law_527 : decode cL_law 527 = .ok (.aload_n 0, 1) := zrD zrw_cL_law_508 (i := 19) (by decide +kernel) rfl
theorem dL_law_528 : decode cL_law 528 = .ok (.iload_n 3, 1) := zrD zrw_cL_law_508 (i := 20) (by decide +kernel) rfl
theorem dL_law_529 : decode cL_law 529 = .ok (.iconst 1, 1) := zrD zrw_cL_law_508 (i := 21) (by decide +kernel) rfl
theorem dL_law_530 : decode cL_law 530 = .ok (.iadd, 1) := zrD zrw_cL_law_508 (i := 22) (by decide +kernel) rfl
theorem dL_law_531 : decode cL_law 531 = .ok (.iaload, 1) := zrD zrw_cL_law_508 (i := 23) (by decide +kernel) rfl
theorem dL_law_532 : decode cL_law 532 = .ok (.invokevirtual 60, 3) := zrD zrw_cL_law_508 (i := 24) (by decide +kernel) rfl
theorem dL_law_535 : decode cL_law 535 = .ok (.pop, 1) := zrD zrw_cL_law_508 (i := 27) (by decide +kernel) rfl
theorem dL_law_536 : decode cL_law 536 = .ok (.aload_n 2, 1) := zrD zrw_cL_law_508 (i := 28) (by decide +kernel) rfl
theorem dL_law_537 : decode cL_law 537 = .ok (.aload_n 0, 1) := zrD zrw_cL_law_508 (i := 29) (by decide +kernel) rfl
theorem dL_law_538 : decode cL_law 538 = .ok (.iload_n 3, 1) := zrD zrw_cL_law_508 (i := 30) (by decide +kernel) rfl
theorem dL_law_539 : decode cL_law 539 = .ok (.iconst 1, 1) := zrD zrw_cL_law_508 (i := 31) (by decide +kernel) rfl
def zrk_cL_law_540 : ByteArray := .mk #[96, 46, 182, 0, 63, 87, 167, 3, 127, 43, 182, 0, 64, 87, 44, 182, 0, 68, 87, 167, 3, 114, 43, 42, 29, 4, 96, 46, 182, 0, 69, 87]
theorem zrw_cL_law_540 : zrW 540 cL_law zrk_cL_law_540 := by unfold zrW; decide +kernel
theorem dL_law_540 : decode cL_law 540 = .ok (.iadd, 1) := zrD zrw_cL_law_540 (i := 0) (by decide +kernel) rfl
theorem dL_law_541 : decode cL_law 541 = .ok (.iaload, 1) := zrD zrw_cL_law_540 (i := 1) (by decide +kernel) rfl
theorem dL_law_542 : decode cL_law 542 = .ok (.invokevirtual 63, 3) := zrD zrw_cL_law_540 (i := 2) (by decide +kernel) rfl
theorem dL_law_545 : decode cL_law 545 = .ok (.pop, 1) := zrD zrw_cL_law_540 (i := 5) (by decide +kernel) rfl
theorem dL_law_546 : decode cL_law 546 = .ok (.goto 895, 3) := zrD zrw_cL_law_540 (i := 6) (by decide +kernel) rfl
theorem dL_law_549 : decode cL_law 549 = .ok (.aload_n 1, 1) := zrD zrw_cL_law_540 (i := 9) (by decide +kernel) rfl
theorem dL_law_550 : decode cL_law 550 = .ok (.invokevirtual 64, 3) := zrD zrw_cL_law_540 (i := 10) (by decide +kernel) rfl
theorem dL_law_553 : decode cL_law 553 = .ok (.pop, 1) := zrD zrw_cL_law_540 (i := 13) (by decide +kernel) rfl
theorem dL_law_554 : decode cL_law 554 = .ok (.aload_n 2, 1) := zrD zrw_cL_law_540 (i := 14) (by decide +kernel) rfl
theorem dL_law_555 : decode cL_law 555 = .ok (.invokevirtual 68, 3) := zrD zrw_cL_law_540 (i := 15) (by decide +kernel) rfl
theorem dL_law_558 : decode cL_law 558 = .ok (.pop, 1) := zrD zrw_cL_law_540 (i := 18) (by decide +kernel) rfl
theorem dL_law_559 : decode cL_law 559 = .ok (.goto 882, 3) := zrD zrw_cL_law_540 (i := 19) (by decide +kernel) rfl
theorem dL_law_562 : decode cL_law 562 = .ok (.aload_n 1, 1) := zrD zrw_cL_law_540 (i := 22) (by decide +kernel) rfl
theorem dL_law_563 : decode cL_law 563 = .ok (.aload_n 0, 1) := zrD zrw_cL_law_540 (i := 23) (by decide +kernel) rfl
theorem dL_law_564 : decode cL_law 564 = .ok (.iload_n 3, 1) := zrD zrw_cL_law_540 (i := 24) (by decide +kernel) rfl
theorem dL_law_565 : decode cL_law 565 = .ok (.iconst 1, 1) := zrD zrw_cL_law_540 (i := 25) (by decide +kernel) rfl
theorem dL_law_566 : decode cL_law 566 = .ok (.iadd, 1) := zrD zrw_cL_law_540 (i := 26) (by decide +kernel) rfl
theorem dL_law_567 : decode cL_law 567 = .ok (.iaload, 1) := zrD zrw_cL_law_540 (i := 27) (by decide +kernel) rfl
theorem dL_law_568 : decode cL_law 568 = .ok (.invokevirtual 69, 3) := zrD zrw_cL_law_540 (i := 28) (by decide +kernel) rfl
theorem dL_law_571 : decode cL_law 571 = .ok (.pop, 1) := zrD zrw_cL_law_540 (i := 31) (by decide +kernel) rfl
def zrk_cL_law_572 : ByteArray := .mk #[44, 42, 29, 4, 96, 46, 182, 0, 72, 87, 167, 3, 91, 43, 42, 29, 4, 96, 46, 42, 29, 5, 96, 46, 182, 0, 73, 87, 44, 42, 29, 4]
theorem zrw_cL_law_572 : zrW 572 cL_law zrk_cL_law_572 := by unfold zrW; decide +kernel
theorem dL_law_572 : decode cL_law 572 = .ok (.aload_n 2, 1) := zrD zrw_cL_law_572 (i := 0) (by decide +kernel) rfl
theorem dL_law_573 : decode cL_law 573 = .ok (.aload_n 0, 1) := zrD zrw_cL_law_572 (i := 1) (by decide +kernel) rfl
theorem dL_law_574 : decode cL_law 574 = .ok (.iload_n 3, 1) := zrD zrw_cL_law_572 (i := 2) (by decide +kernel) rfl
theorem dL_law_575 : decode cL_law 575 = .ok (.iconst 1, 1) := zrD zrw_cL_law_572 (i := 3) (by decide +kernel) rfl
theorem dL_law_576 : decode cL_law 576 = .ok (.iadd, 1) := zrD zrw_cL_law_572 (i := 4) (by decide +kernel) rfl
theorem dL_law_577 : decode cL_law 577 = .ok (.iaload, 1) := zrD zrw_cL_law_572 (i := 5) (by decide +kernel) rfl
theorem dL_law_578 : decode cL_law 578 = .ok (.invokevirtual 72, 3) := zrD zrw_cL_law_572 (i := 6) (by decide +kernel) rfl
theorem dL_law_581 : decode cL_law 581 = .ok (.pop, 1) := zrD zrw_cL_law_572 (i := 9) (by decide +kernel) rfl
theorem dL_law_582 : decode cL_law 582 = .ok (.goto 859, 3) := zrD zrw_cL_law_572 (i := 10) (by decide +kernel) rfl
theorem dL_law_585 : decode cL_law 585 = .ok (.aload_n 1, 1) := zrD zrw_cL_law_572 (i := 13) (by decide +kernel) rfl
theorem dL_law_586 : decode cL_law 586 = .ok (.aload_n 0, 1) := zrD zrw_cL_law_572 (i := 14) (by decide +kernel) rfl
theorem dL_law_587 : decode cL_law 587 = .ok (.iload_n 3, 1) := zrD zrw_cL_law_572 (i := 15) (by decide +kernel) rfl
theorem dL_law_588 : decode cL_law 588 = .ok (.iconst 1, 1) := zrD zrw_cL_law_572 (i := 16) (by decide +kernel) rfl
theorem dL_law_589 : decode cL_law 589 = .ok (.iadd, 1) := zrD zrw_cL_law_572 (i := 17) (by decide +kernel) rfl
theorem dL_law_590 : decode cL_law 590 = .ok (.iaload, 1) := zrD zrw_cL_law_572 (i := 18) (by decide +kernel) rfl
theorem dL_law_591 : decode cL_law 591 = .ok (.aload_n 0, 1) := zrD zrw_cL_law_572 (i := 19) (by decide +kernel) rfl
theorem dL_law_592 : decode cL_law 592 = .ok (.iload_n 3, 1) := zrD zrw_cL_law_572 (i := 20) (by decide +kernel) rfl
theorem dL_law_593 : decode cL_law 593 = .ok (.iconst 2, 1) := zrD zrw_cL_law_572 (i := 21) (by decide +kernel) rfl
theorem dL_law_594 : decode cL_law 594 = .ok (.iadd, 1) := zrD zrw_cL_law_572 (i := 22) (by decide +kernel) rfl
theorem dL_law_595 : decode cL_law 595 = .ok (.iaload, 1) := zrD zrw_cL_law_572 (i := 23) (by decide +kernel) rfl
theorem dL_law_596 : decode cL_law 596 = .ok (.invokevirtual 73, 3) := zrD zrw_cL_law_572 (i := 24) (by decide +kernel) rfl
theorem dL_law_599 : decode cL_law 599 = .ok (.pop, 1) := zrD zrw_cL_law_572 (i := 27) (by decide +kernel) rfl
theorem dL_law_600 : decode cL_law 600 = .ok (.aload_n 2, 1) := zrD zrw_cL_law_572 (i := 28) (by decide +kernel) rfl
theorem dL_law_601 : decode cL_law 601 = .ok (.aload_n 0, 1) := zrD zrw_cL_law_572 (i := 29) (by decide +kernel) rfl
theorem dL_law_602 : decode cL_law 602 = .ok (.iload_n 3, 1) := zrD zrw_cL_law_572 (i := 30) (by decide +kernel) rfl
theorem dL_law_603 : decode cL_law 603 = .ok (.iconst 1, 1) := zrD zrw_cL_law_572 (i := 31) (by decide +kernel) rfl
def zrk_cL_law_604 : ByteArray := .mk #[96, 46, 42, 29, 5, 96, 46, 182, 0, 76, 87, 167, 3, 58, 43, 42, 29, 4, 96, 46, 182, 0, 77, 87, 44, 42, 29, 4, 96, 46]
theorem zrw_cL_law_604 : zrW 604 cL_law zrk_cL_law_604 := by unfold zrW; decide +kernel
theorem dL_law_604 : decode cL_law 604 = .ok (.iadd, 1) := zrD zrw_cL_law_604 (i := 0) (by decide +kernel) rfl
theorem dL_law_605 : decode cL_law 605 = .ok (.iaload, 1) := zrD zrw_cL_law_604 (i := 1) (by decide +kernel) rfl
theorem dL_law_606 : decode cL_law 606 = .ok (.aload_n 0, 1) := zrD zrw_cL_law_604 (i := 2) (by decide +kernel) rfl
theorem dL_law_607 : decode cL_law 607 = .ok (.iload_n 3, 1) := zrD zrw_cL_law_604 (i := 3) (by decide +kernel) rfl
theorem dL_law_608 : decode cL_law 608 = .ok (.iconst 2, 1) := zrD zrw_cL_law_604 (i := 4) (by decide +kernel) rfl
theorem dL_law_609 : decode cL_law 609 = .ok (.iadd, 1) := zrD zrw_cL_law_604 (i := 5) (by decide +kernel) rfl
theorem dL_law_610 : decode cL_law 610 = .ok (.iaload, 1) := zrD zrw_cL_law_604 (i := 6) (by decide +kernel) rfl
theorem dL_law_611 : decode cL_law 611 = .ok (.invokevirtual 76, 3) := zrD zrw_cL_law_604 (i := 7) (by decide +kernel) rfl
theorem dL_law_614 : decode cL_law 614 = .ok (.pop, 1) := zrD zrw_cL_law_604 (i := 10) (by decide +kernel) rfl
theorem dL_law_615 : decode cL_law 615 = .ok (.goto 826, 3) := zrD zrw_cL_law_604 (i := 11) (by decide +kernel) rfl
theorem dL_law_618 : decode cL_law 618 = .ok (.aload_n 1, 1) := zrD zrw_cL_law_604 (i := 14) (by decide +kernel) rfl
theorem dL_law_619 : decode cL_law 619 = .ok (.aload_n 0, 1) := zrD zrw_cL_law_604 (i := 15) (by decide +kernel) rfl
theorem dL_law_620 : decode cL_law 620 = .ok (.iload_n 3, 1) := zrD zrw_cL_law_604 (i := 16) (by decide +kernel) rfl
theorem dL_law_621 : decode cL_law 621 = .ok (.iconst 1, 1) := zrD zrw_cL_law_604 (i := 17) (by decide +kernel) rfl
theorem dL_law_622 : decode cL_law 622 = .ok (.iadd, 1) := zrD zrw_cL_law_604 (i := 18) (by decide +kernel) rfl
theorem dL_law_623 : decode cL_law 623 = .ok (.iaload, 1) := zrD zrw_cL_law_604 (i := 19) (by decide +kernel) rfl
theorem dL_law_624 : decode cL_law 624 = .ok (.invokevirtual 77, 3) := zrD zrw_cL_law_604 (i := 20) (by decide +kernel) rfl
theorem dL_law_627 : decode cL_law 627 = .ok (.pop, 1) := zrD zrw_cL_law_604 (i := 23) (by decide +kernel) rfl
theorem dL_law_628 : decode cL_law 628 = .ok (.aload_n 2, 1) := zrD zrw_cL_law_604 (i := 24) (by decide +kernel) rfl
theorem dL_law_629 : decode cL_law 629 = .ok (.aload_n 0, 1) := zrD zrw_cL_law_604 (i := 25) (by decide +kernel) rfl
theorem dL_law_630 : decode cL_law 630 = .ok (.iload_n 3, 1) := zrD zrw_cL_law_604 (i := 26) (by decide +kernel) rfl
theorem dL_law_631 : decode cL_law 631 = .ok (.iconst 1, 1) := zrD zrw_cL_law_604 (i := 27) (by decide +kernel) rfl
theorem dL_law_632 : decode cL_law 632 = .ok (.iadd, 1) := zrD zrw_cL_law_604 (i := 28) (by decide +kernel) rfl
theorem dL_law_633 : decode cL_law 633 = .ok (.iaload, 1) := zrD zrw_cL_law_604 (i := 29) (by decide +kernel) rfl
def zrk_cL_law_634 : ByteArray := .mk #[182, 0, 80, 87, 167, 3, 35, 43, 42, 29, 4, 96, 46, 182, 0, 81, 87, 44, 42, 29, 4, 96, 46, 182, 0, 84, 87, 167, 3, 12, 43, 42]
theorem zrw_cL_law_634 : zrW 634 cL_law zrk_cL_law_634 := by unfold zrW; decide +kernel
theorem dL_law_634 : decode cL_law 634 = .ok (.invokevirtual 80, 3) := zrD zrw_cL_law_634 (i := 0) (by decide +kernel) rfl
theorem dL_law_637 : decode cL_law 637 = .ok (.pop, 1) := zrD zrw_cL_law_634 (i := 3) (by decide +kernel) rfl
theorem dL_law_638 : decode cL_law 638 = .ok (.goto 803, 3) := zrD zrw_cL_law_634 (i := 4) (by decide +kernel) rfl
theorem dL_law_641 : decode cL_law 641 = .ok (.aload_n 1, 1) := zrD zrw_cL_law_634 (i := 7) (by decide +kernel) rfl
theorem dL_law_642 : decode cL_law 642 = .ok (.aload_n 0, 1) := zrD zrw_cL_law_634 (i := 8) (by decide +kernel) rfl
theorem dL_law_643 : decode cL_law 643 = .ok (.iload_n 3, 1) := zrD zrw_cL_law_634 (i := 9) (by decide +kernel) rfl
theorem dL_law_644 : decode cL_law 644 = .ok (.iconst 1, 1) := zrD zrw_cL_law_634 (i := 10) (by decide +kernel) rfl
theorem dL_law_645 : decode cL_law 645 = .ok (.iadd, 1) := zrD zrw_cL_law_634 (i := 11) (by decide +kernel) rfl
theorem dL_law_646 : decode cL_law 646 = .ok (.iaload, 1) := zrD zrw_cL_law_634 (i := 12) (by decide +kernel) rfl
theorem dL_law_647 : decode cL_law 647 = .ok (.invokevirtual 81, 3) := zrD zrw_cL_law_634 (i := 13) (by decide +kernel) rfl
theorem dL_law_650 : decode cL_law 650 = .ok (.pop, 1) := zrD zrw_cL_law_634 (i := 16) (by decide +kernel) rfl
theorem dL_law_651 : decode cL_law 651 = .ok (.aload_n 2, 1) := zrD zrw_cL_law_634 (i := 17) (by decide +kernel) rfl
theorem dL_law_652 : decode cL_law 652 = .ok (.aload_n 0, 1) := zrD zrw_cL_law_634 (i := 18) (by decide +kernel) rfl
theorem dL_law_653 : decode cL_law 653 = .ok (.iload_n 3, 1) := zrD zrw_cL_law_634 (i := 19) (by decide +kernel) rfl
theorem dL_law_654 : decode cL_law 654 = .ok (.iconst 1, 1) := zrD zrw_cL_law_634 (i := 20) (by decide +kernel) rfl
theorem dL_law_655 : decode cL_law 655 = .ok (.iadd, 1) := zrD zrw_cL_law_634 (i := 21) (by decide +kernel) rfl
theorem dL_law_656 : decode cL_law 656 = .ok (.iaload, 1) := zrD zrw_cL_law_634 (i := 22) (by decide +kernel) rfl
theorem dL_law_657 : decode cL_law 657 = .ok (.invokevirtual 84, 3) := zrD zrw_cL_law_634 (i := 23) (by decide +kernel) rfl
theorem dL_law_660 : decode cL_law 660 = .ok (.pop, 1) := zrD zrw_cL_law_634 (i := 26) (by decide +kernel) rfl
theorem dL_law_661 : decode cL_law 661 = .ok (.goto 780, 3) := zrD zrw_cL_law_634 (i := 27) (by decide +kernel) rfl
theorem dL_law_664 : decode cL_law 664 = .ok (.aload_n 1, 1) := zrD zrw_cL_law_634 (i := 30) (by decide +kernel) rfl
theorem dL_law_665 : decode cL_law 665 = .ok (.aload_n 0, 1) := zrD zrw_cL_law_634 (i := 31) (by decide +kernel) rfl
def zrk_cL_law_666 : ByteArray := .mk #[29, 4, 96, 46, 42, 29, 5, 96, 46, 182, 0, 85, 87, 44, 42, 29, 4, 96, 46, 42, 29, 5, 96, 46, 182, 0, 88, 87, 167, 2, 235, 43]
theorem zrw_cL_law_666 : zrW 666 cL_law zrk_cL_law_666 := by unfold zrW; decide +kernel
theorem dL_law_666 : decode cL_law 666 = .ok (.iload_n 3, 1) := zrD zrw_cL_law_666 (i := 0) (by decide +kernel) rfl
theorem dL_law_667 : decode cL_law 667 = .ok (.iconst 1, 1) := zrD zrw_cL_law_666 (i := 1) (by decide +kernel) rfl
theorem dL_law_668 : decode cL_law 668 = .ok (.iadd, 1) := zrD zrw_cL_law_666 (i := 2) (by decide +kernel) rfl
theorem dL_law_669 : decode cL_law 669 = .ok (.iaload, 1) := zrD zrw_cL_law_666 (i := 3) (by decide +kernel) rfl
theorem dL_law_670 : decode cL_law 670 = .ok (.aload_n 0, 1) := zrD zrw_cL_law_666 (i := 4) (by decide +kernel) rfl
theorem dL_law_671 : decode cL_law 671 = .ok (.iload_n 3, 1) := zrD zrw_cL_law_666 (i := 5) (by decide +kernel) rfl
theorem dL_law_672 : decode cL_law 672 = .ok (.iconst 2, 1) := zrD zrw_cL_law_666 (i := 6) (by decide +kernel) rfl
theorem dL_law_673 : decode cL_law 673 = .ok (.iadd, 1) := zrD zrw_cL_law_666 (i := 7) (by decide +kernel) rfl
theorem dL_law_674 : decode cL_law 674 = .ok (.iaload, 1) := zrD zrw_cL_law_666 (i := 8) (by decide +kernel) rfl
theorem dL_law_675 : decode cL_law 675 = .ok (.invokevirtual 85, 3) := zrD zrw_cL_law_666 (i := 9) (by decide +kernel) rfl
theorem dL_law_678 : decode cL_law 678 = .ok (.pop, 1) := zrD zrw_cL_law_666 (i := 12) (by decide +kernel) rfl
theorem dL_law_679 : decode cL_law 679 = .ok (.aload_n 2, 1) := zrD zrw_cL_law_666 (i := 13) (by decide +kernel) rfl
theorem dL_law_680 : decode cL_law 680 = .ok (.aload_n 0, 1) := zrD zrw_cL_law_666 (i := 14) (by decide +kernel) rfl
theorem dL_law_681 : decode cL_law 681 = .ok (.iload_n 3, 1) := zrD zrw_cL_law_666 (i := 15) (by decide +kernel) rfl
theorem dL_law_682 : decode cL_law 682 = .ok (.iconst 1, 1) := zrD zrw_cL_law_666 (i := 16) (by decide +kernel) rfl
theorem dL_law_683 : decode cL_law 683 = .ok (.iadd, 1) := zrD zrw_cL_law_666 (i := 17) (by decide +kernel) rfl
theorem dL_law_684 : decode cL_law 684 = .ok (.iaload, 1) := zrD zrw_cL_law_666 (i := 18) (by decide +kernel) rfl
theorem dL_law_685 : decode cL_law 685 = .ok (.aload_n 0, 1) := zrD zrw_cL_law_666 (i := 19) (by decide +kernel) rfl
theorem dL_law_686 : decode cL_law 686 = .ok (.iload_n 3, 1) := zrD zrw_cL_law_666 (i := 20) (by decide +kernel) rfl
theorem dL_law_687 : decode cL_law 687 = .ok (.iconst 2, 1) := zrD zrw_cL_law_666 (i := 21) (by decide +kernel) rfl
theorem dL_law_688 : decode cL_law 688 = .ok (.iadd, 1) := zrD zrw_cL_law_666 (i := 22) (by decide +kernel) rfl
theorem dL_law_689 : decode cL_law 689 = .ok (.iaload, 1) := zrD zrw_cL_law_666 (i := 23) (by decide +kernel) rfl
theorem dL_law_690 : decode cL_law 690 = .ok (.invokevirtual 88, 3) := zrD zrw_cL_law_666 (i := 24) (by decide +kernel) rfl
theorem dL_law_693 : decode cL_law 693 = .ok (.pop, 1) := zrD zrw_cL_law_666 (i := 27) (by decide +kernel) rfl
theorem dL_law_694 : decode cL_law 694 = .ok (.goto 747, 3) := zrD zrw_cL_law_666 (i := 28) (by decide +kernel) rfl
theorem dL_law_697 : decode cL_law 697 = .ok (.aload_n 1, 1) := zrD zrw_cL_law_666 (i := 31) (by decide +kernel) rfl
def zrk_cL_law_698 : ByteArray := .mk #[42, 29, 4, 96, 46, 182, 0, 89, 87, 44, 42, 29, 4, 96, 46, 182, 0, 92, 87, 167, 2, 212, 43, 42, 29, 4, 96, 46, 42, 29, 5, 96]
theorem zrw_cL_law_698 : zrW 698 cL_law zrk_cL_law_698 := by unfold zrW; decide +kernel
theorem dL_law_698 : decode cL_law 698 = .ok (.aload_n 0, 1) := zrD zrw_cL_law_698 (i := 0) (by decide +kernel) rfl
theorem dL_law_699 : decode cL_law 699 = .ok (.iload_n 3, 1) := zrD zrw_cL_law_698 (i := 1) (by decide +kernel) rfl
theorem dL_law_700 : decode cL_law 700 = .ok (.iconst 1, 1) := zrD zrw_cL_law_698 (i := 2) (by decide +kernel) rfl
theorem dL_law_701 : decode cL_law 701 = .ok (.iadd, 1) := zrD zrw_cL_law_698 (i := 3) (by decide +kernel) rfl
theorem dL_law_702 : decode cL_law 702 = .ok (.iaload, 1) := zrD zrw_cL_law_698 (i := 4) (by decide +kernel) rfl
theorem dL_law_703 : decode cL_law 703 = .ok (.invokevirtual 89, 3) := zrD zrw_cL_law_698 (i := 5) (by decide +kernel) rfl
theorem dL_law_706 : decode cL_law 706 = .ok (.pop, 1) := zrD zrw_cL_law_698 (i := 8) (by decide +kernel) rfl
theorem dL_law_707 : decode cL_law 707 = .ok (.aload_n 2, 1) := zrD zrw_cL_law_698 (i := 9) (by decide +kernel) rfl
theorem dL_law_708 : decode cL_law 708 = .ok (.aload_n 0, 1) := zrD zrw_cL_law_698 (i := 10) (by decide +kernel) rfl
theorem dL_law_709 : decode cL_law 709 = .ok (.iload_n 3, 1) := zrD zrw_cL_law_698 (i := 11) (by decide +kernel) rfl
theorem dL_law_710 : decode cL_law 710 = .ok (.iconst 1, 1) := zrD zrw_cL_law_698 (i := 12) (by decide +kernel) rfl
theorem dL_law_711 : decode cL_law 711 = .ok (.iadd, 1) := zrD zrw_cL_law_698 (i := 13) (by decide +kernel) rfl
theorem dL_law_712 : decode cL_law 712 = .ok (.iaload, 1) := zrD zrw_cL_law_698 (i := 14) (by decide +kernel) rfl
theorem dL_law_713 : decode cL_law 713 = .ok (.invokevirtual 92, 3) := zrD zrw_cL_law_698 (i := 15) (by decide +kernel) rfl
theorem dL_law_716 : decode cL_law 716 = .ok (.pop, 1) := zrD zrw_cL_law_698 (i := 18) (by decide +kernel) rfl
theorem dL_law_717 : decode cL_law 717 = .ok (.goto 724, 3) := zrD zrw_cL_law_698 (i := 19) (by decide +kernel) rfl
theorem dL_law_720 : decode cL_law 720 = .ok (.aload_n 1, 1) := zrD zrw_cL_law_698 (i := 22) (by decide +kernel) rfl
theorem dL_law_721 : decode cL_law 721 = .ok (.aload_n 0, 1) := zrD zrw_cL_law_698 (i := 23) (by decide +kernel) rfl
theorem dL_law_722 : decode cL_law 722 = .ok (.iload_n 3, 1) := zrD zrw_cL_law_698 (i := 24) (by decide +kernel) rfl
theorem dL_law_723 : decode cL_law 723 = .ok (.iconst 1, 1) := zrD zrw_cL_law_698 (i := 25) (by decide +kernel) rfl
theorem dL_law_724 : decode cL_law 724 = .ok (.iadd, 1) := zrD zrw_cL_law_698 (i := 26) (by decide +kernel) rfl
theorem dL_law_725 : decode cL_law 725 = .ok (.iaload, 1) := zrD zrw_cL_law_698 (i := 27) (by decide +kernel) rfl
theorem dL_law_726 : decode cL_law 726 = .ok (.aload_n 0, 1) := zrD zrw_cL_law_698 (i := 28) (by decide +kernel) rfl
theorem dL_law_727 : decode cL_law 727 = .ok (.iload_n 3, 1) := zrD zrw_cL_law_698 (i := 29) (by decide +kernel) rfl
theorem dL_law_728 : decode cL_law 728 = .ok (.iconst 2, 1) := zrD zrw_cL_law_698 (i := 30) (by decide +kernel) rfl
theorem dL_law_729 : decode cL_law 729 = .ok (.iadd, 1) := zrD zrw_cL_law_698 (i := 31) (by decide +kernel) rfl
def zrk_cL_law_730 : ByteArray := .mk #[46, 182, 0, 93, 87, 44, 42, 29, 4, 96, 46, 42, 29, 5, 96, 46, 182, 0, 96, 87, 167, 2, 179, 43, 42, 29, 4, 96, 46, 182, 0, 97]
theorem zrw_cL_law_730 : zrW 730 cL_law zrk_cL_law_730 := by unfold zrW; decide +kernel
theorem dL_law_730 : decode cL_law 730 = .ok (.iaload, 1) := zrD zrw_cL_law_730 (i := 0) (by decide +kernel) rfl
theorem dL_law_731 : decode cL_law 731 = .ok (.invokevirtual 93, 3) := zrD zrw_cL_law_730 (i := 1) (by decide +kernel) rfl
theorem dL_law_734 : decode cL_law 734 = .ok (.pop, 1) := zrD zrw_cL_law_730 (i := 4) (by decide +kernel) rfl
theorem dL_law_735 : decode cL_law 735 = .ok (.aload_n 2, 1) := zrD zrw_cL_law_730 (i := 5) (by decide +kernel) rfl
theorem dL_law_736 : decode cL_law 736 = .ok (.aload_n 0, 1) := zrD zrw_cL_law_730 (i := 6) (by decide +kernel) rfl
theorem dL_law_737 : decode cL_law 737 = .ok (.iload_n 3, 1) := zrD zrw_cL_law_730 (i := 7) (by decide +kernel) rfl
theorem dL_law_738 : decode cL_law 738 = .ok (.iconst 1, 1) := zrD zrw_cL_law_730 (i := 8) (by decide +kernel) rfl
theorem dL_law_739 : decode cL_law 739 = .ok (.iadd, 1) := zrD zrw_cL_law_730 (i := 9) (by decide +kernel) rfl
theorem dL_law_740 : decode cL_law 740 = .ok (.iaload, 1) := zrD zrw_cL_law_730 (i := 10) (by decide +kernel) rfl
theorem dL_law_741 : decode cL_law 741 = .ok (.aload_n 0, 1) := zrD zrw_cL_law_730 (i := 11) (by decide +kernel) rfl
theorem dL_law_742 : decode cL_law 742 = .ok (.iload_n 3, 1) := zrD zrw_cL_law_730 (i := 12) (by decide +kernel) rfl
theorem dL_law_743 : decode cL_law 743 = .ok (.iconst 2, 1) := zrD zrw_cL_law_730 (i := 13) (by decide +kernel) rfl
theorem dL_law_744 : decode cL_law 744 = .ok (.iadd, 1) := zrD zrw_cL_law_730 (i := 14) (by decide +kernel) rfl
theorem dL_law_745 : decode cL_law 745 = .ok (.iaload, 1) := zrD zrw_cL_law_730 (i := 15) (by decide +kernel) rfl
theorem dL_law_746 : decode cL_law 746 = .ok (.invokevirtual 96, 3) := zrD zrw_cL_law_730 (i := 16) (by decide +kernel) rfl
theorem dL_law_749 : decode cL_law 749 = .ok (.pop, 1) := zrD zrw_cL_law_730 (i := 19) (by decide +kernel) rfl
theorem dL_law_750 : decode cL_law 750 = .ok (.goto 691, 3) := zrD zrw_cL_law_730 (i := 20) (by decide +kernel) rfl
theorem dL_law_753 : decode cL_law 753 = .ok (.aload_n 1, 1) := zrD zrw_cL_law_730 (i := 23) (by decide +kernel) rfl
theorem dL_law_754 : decode cL_law 754 = .ok (.aload_n 0, 1) := zrD zrw_cL_law_730 (i := 24) (by decide +kernel) rfl
theorem dL_law_755 : decode cL_law 755 = .ok (.iload_n 3, 1) := zrD zrw_cL_law_730 (i := 25) (by decide +kernel) rfl
theorem dL_law_756 : decode cL_law 756 = .ok (.iconst 1, 1) := zrD zrw_cL_law_730 (i := 26) (by decide +kernel) rfl
theorem dL_law_757 : decode cL_law 757 = .ok (.iadd, 1) := zrD zrw_cL_law_730 (i := 27) (by decide +kernel) rfl
theorem dL_law_758 : decode cL_law 758 = .ok (.iaload, 1) := zrD zrw_cL_law_730 (i := 28) (by decide +kernel) rfl
theorem dL_law_759 : decode cL_law 759 = .ok (.invokevirtual 97, 3) := zrD zrw_cL_law_730 (i := 29) (by decide +kernel) rfl
def zrk_cL_law_762 : ByteArray := .mk #[87, 44, 42, 29, 4, 96, 46, 182, 0, 100, 87, 167, 2, 156, 43, 42, 29, 4, 96, 46, 182, 0, 101, 87, 44, 42, 29, 4, 96, 46]
theorem zrw_cL_law_762 : zrW 762 cL_law zrk_cL_law_762 := by unfold zrW; decide +kernel
theorem dL_law_762 : decode cL_law 762 = .ok (.pop, 1) := zrD zrw_cL_law_762 (i := 0) (by decide +kernel) rfl
theorem dL_law_763 : decode cL_law 763 = .ok (.aload_n 2, 1) := zrD zrw_cL_law_762 (i := 1) (by decide +kernel) rfl
theorem dL_law_764 : decode cL_law 764 = .ok (.aload_n 0, 1) := zrD zrw_cL_law_762 (i := 2) (by decide +kernel) rfl
theorem dL_law_765 : decode cL_law 765 = .ok (.iload_n 3, 1) := zrD zrw_cL_law_762 (i := 3) (by decide +kernel) rfl
theorem dL_law_766 : decode cL_law 766 = .ok (.iconst 1, 1) := zrD zrw_cL_law_762 (i := 4) (by decide +kernel) rfl
theorem dL_law_767 : decode cL_law 767 = .ok (.iadd, 1) := zrD zrw_cL_law_762 (i := 5) (by decide +kernel) rfl
theorem dL_law_768 : decode cL_law 768 = .ok (.iaload, 1) := zrD zrw_cL_law_762 (i := 6) (by decide +kernel) rfl
theorem dL_law_769 : decode cL_law 769 = .ok (.invokevirtual 100, 3) := zrD zrw_cL_law_762 (i := 7) (by decide +kernel) rfl
theorem dL_law_772 : decode cL_law 772 = .ok (.pop, 1) := zrD zrw_cL_law_762 (i := 10) (by decide +kernel) rfl
theorem dL_law_773 : decode cL_law 773 = .ok (.goto 668, 3) := zrD zrw_cL_law_762 (i := 11) (by decide +kernel) rfl
theorem dL_law_776 : decode cL_law 776 = .ok (.aload_n 1, 1) := zrD zrw_cL_law_762 (i := 14) (by decide +kernel) rfl
theorem dL_law_777 : decode cL_law 777 = .ok (.aload_n 0, 1) := zrD zrw_cL_law_762 (i := 15) (by decide +kernel) rfl
theorem dL_law_778 : decode cL_law 778 = .ok (.iload_n 3, 1) := zrD zrw_cL_law_762 (i := 16) (by decide +kernel) rfl
theorem dL_law_779 : decode cL_law 779 = .ok (.iconst 1, 1) := zrD zrw_cL_law_762 (i := 17) (by decide +kernel) rfl
theorem dL_law_780 : decode cL_law 780 = .ok (.iadd, 1) := zrD zrw_cL_law_762 (i := 18) (by decide +kernel) rfl
theorem dL_law_781 : decode cL_law 781 = .ok (.iaload, 1) := zrD zrw_cL_law_762 (i := 19) (by decide +kernel) rfl
theorem dL_law_782 : decode cL_law 782 = .ok (.invokevirtual 101, 3) := zrD zrw_cL_law_762 (i := 20) (by decide +kernel) rfl
theorem dL_law_785 : decode cL_law 785 = .ok (.pop, 1) := zrD zrw_cL_law_762 (i := 23) (by decide +kernel) rfl
theorem dL_law_786 : decode cL_law 786 = .ok (.aload_n 2, 1) := zrD zrw_cL_law_762 (i := 24) (by decide +kernel) rfl
theorem dL_law_787 : decode cL_law 787 = .ok (.aload_n 0, 1) := zrD zrw_cL_law_762 (i := 25) (by decide +kernel) rfl
theorem dL_law_788 : decode cL_law 788 = .ok (.iload_n 3, 1) := zrD zrw_cL_law_762 (i := 26) (by decide +kernel) rfl
theorem dL_law_789 : decode cL_law 789 = .ok (.iconst 1, 1) := zrD zrw_cL_law_762 (i := 27) (by decide +kernel) rfl
theorem dL_law_790 : decode cL_law 790 = .ok (.iadd, 1) := zrD zrw_cL_law_762 (i := 28) (by decide +kernel) rfl
theorem dL_law_791 : decode cL_law 791 = .ok (.iaload, 1) := zrD zrw_cL_law_762 (i := 29) (by decide +kernel) rfl
def zrk_cL_law_792 : ByteArray := .mk #[182, 0, 104, 87, 167, 2, 133, 43, 42, 29, 4, 96, 46, 42, 29, 5, 96, 46, 182, 0, 105, 87, 44, 42, 29, 4, 96, 46, 42, 29, 5, 96]
theorem zrw_cL_law_792 : zrW 792 cL_law zrk_cL_law_792 := by unfold zrW; decide +kernel
theorem dL_law_792 : decode cL_law 792 = .ok (.invokevirtual 104, 3) := zrD zrw_cL_law_792 (i := 0) (by decide +kernel) rfl
theorem dL_law_795 : decode cL_law 795 = .ok (.pop, 1) := zrD zrw_cL_law_792 (i := 3) (by decide +kernel) rfl
theorem dL_law_796 : decode cL_law 796 = .ok (.goto 645, 3) := zrD zrw_cL_law_792 (i := 4) (by decide +kernel) rfl
theorem dL_law_799 : decode cL_law 799 = .ok (.aload_n 1, 1) := zrD zrw_cL_law_792 (i := 7) (by decide +kernel) rfl
theorem dL_law_800 : decode cL_law 800 = .ok (.aload_n 0, 1) := zrD zrw_cL_law_792 (i := 8) (by decide +kernel) rfl
theorem dL_law_801 : decode cL_law 801 = .ok (.iload_n 3, 1) := zrD zrw_cL_law_792 (i := 9) (by decide +kernel) rfl
theorem dL_law_802 : decode cL_law 802 = .ok (.iconst 1, 1) := zrD zrw_cL_law_792 (i := 10) (by decide +kernel) rfl
theorem dL_law_803 : decode cL_law 803 = .ok (.iadd, 1) := zrD zrw_cL_law_792 (i := 11) (by decide +kernel) rfl
theorem dL_law_804 : decode cL_law 804 = .ok (.iaload, 1) := zrD zrw_cL_law_792 (i := 12) (by decide +kernel) rfl
theorem dL_law_805 : decode cL_law 805 = .ok (.aload_n 0, 1) := zrD zrw_cL_law_792 (i := 13) (by decide +kernel) rfl
theorem dL_law_806 : decode cL_law 806 = .ok (.iload_n 3, 1) := zrD zrw_cL_law_792 (i := 14) (by decide +kernel) rfl
theorem dL_law_807 : decode cL_law 807 = .ok (.iconst 2, 1) := zrD zrw_cL_law_792 (i := 15) (by decide +kernel) rfl
theorem dL_law_808 : decode cL_law 808 = .ok (.iadd, 1) := zrD zrw_cL_law_792 (i := 16) (by decide +kernel) rfl
theorem dL_law_809 : decode cL_law 809 = .ok (.iaload, 1) := zrD zrw_cL_law_792 (i := 17) (by decide +kernel) rfl
theorem dL_law_810 : decode cL_law 810 = .ok (.invokevirtual 105, 3) := zrD zrw_cL_law_792 (i := 18) (by decide +kernel) rfl
theorem dL_law_813 : decode cL_law 813 = .ok (.pop, 1) := zrD zrw_cL_law_792 (i := 21) (by decide +kernel) rfl
theorem dL_law_814 : decode cL_law 814 = .ok (.aload_n 2, 1) := zrD zrw_cL_law_792 (i := 22) (by decide +kernel) rfl
theorem dL_law_815 : decode cL_law 815 = .ok (.aload_n 0, 1) := zrD zrw_cL_law_792 (i := 23) (by decide +kernel) rfl
theorem dL_law_816 : decode cL_law 816 = .ok (.iload_n 3, 1) := zrD zrw_cL_law_792 (i := 24) (by decide +kernel) rfl
theorem dL_law_817 : decode cL_law 817 = .ok (.iconst 1, 1) := zrD zrw_cL_law_792 (i := 25) (by decide +kernel) rfl
theorem dL_law_818 : decode cL_law 818 = .ok (.iadd, 1) := zrD zrw_cL_law_792 (i := 26) (by decide +kernel) rfl
theorem dL_law_819 : decode cL_law 819 = .ok (.iaload, 1) := zrD zrw_cL_law_792 (i := 27) (by decide +kernel) rfl
theorem dL_law_820 : decode cL_law 820 = .ok (.aload_n 0, 1) := zrD zrw_cL_law_792 (i := 28) (by decide +kernel) rfl
theorem dL_law_821 : decode cL_law 821 = .ok (.iload_n 3, 1) := zrD zrw_cL_law_792 (i := 29) (by decide +kernel) rfl
theorem dL_law_822 : decode cL_law 822 = .ok (.iconst 2, 1) := zrD zrw_cL_law_792 (i := 30) (by decide +kernel) rfl
theorem dL_law_823 : decode cL_law 823 = .ok (.iadd, 1) := zrD zrw_cL_law_792 (i := 31) (by decide +kernel) rfl
def zrk_cL_law_824 : ByteArray := .mk #[46, 182, 0, 108, 87, 167, 2, 100, 43, 42, 29, 4, 96, 46, 42, 29, 5, 96, 46, 182, 0, 109, 87, 44, 42, 29, 4, 96, 46, 42, 29, 5]
theorem zrw_cL_law_824 : zrW 824 cL_law zrk_cL_law_824 := by unfold zrW; decide +kernel
theorem dL_law_824 : decode cL_law 824 = .ok (.iaload, 1) := zrD zrw_cL_law_824 (i := 0) (by decide +kernel) rfl
theorem dL_law_825 : decode cL_law 825 = .ok (.invokevirtual 108, 3) := zrD zrw_cL_law_824 (i := 1) (by decide +kernel) rfl
theorem dL_law_828 : decode cL_law 828 = .ok (.pop, 1) := zrD zrw_cL_law_824 (i := 4) (by decide +kernel) rfl
theorem dL_law_829 : decode cL_law 829 = .ok (.goto 612, 3) := zrD zrw_cL_law_824 (i := 5) (by decide +kernel) rfl
theorem dL_law_832 : decode cL_law 832 = .ok (.aload_n 1, 1) := zrD zrw_cL_law_824 (i := 8) (by decide +kernel) rfl
theorem dL_law_833 : decode cL_law 833 = .ok (.aload_n 0, 1) := zrD zrw_cL_law_824 (i := 9) (by decide +kernel) rfl
theorem dL_law_834 : decode cL_law 834 = .ok (.iload_n 3, 1) := zrD zrw_cL_law_824 (i := 10) (by decide +kernel) rfl
theorem dL_law_835 : decode cL_law 835 = .ok (.iconst 1, 1) := zrD zrw_cL_law_824 (i := 11) (by decide +kernel) rfl
theorem dL_law_836 : decode cL_law 836 = .ok (.iadd, 1) := zrD zrw_cL_law_824 (i := 12) (by decide +kernel) rfl
theorem dL_law_837 : decode cL_law 837 = .ok (.iaload, 1) := zrD zrw_cL_law_824 (i := 13) (by decide +kernel) rfl
theorem dL_law_838 : decode cL_law 838 = .ok (.aload_n 0, 1) := zrD zrw_cL_law_824 (i := 14) (by decide +kernel) rfl
theorem dL_law_839 : decode cL_law 839 = .ok (.iload_n 3, 1) := zrD zrw_cL_law_824 (i := 15) (by decide +kernel) rfl
theorem dL_law_840 : decode cL_law 840 = .ok (.iconst 2, 1) := zrD zrw_cL_law_824 (i := 16) (by decide +kernel) rfl
theorem dL_law_841 : decode cL_law 841 = .ok (.iadd, 1) := zrD zrw_cL_law_824 (i := 17) (by decide +kernel) rfl
theorem dL_law_842 : decode cL_law 842 = .ok (.iaload, 1) := zrD zrw_cL_law_824 (i := 18) (by decide +kernel) rfl
theorem dL_law_843 : decode cL_law 843 = .ok (.invokevirtual 109, 3) := zrD zrw_cL_law_824 (i := 19) (by decide +kernel) rfl
theorem dL_law_846 : decode cL_law 846 = .ok (.pop, 1) := zrD zrw_cL_law_824 (i := 22) (by decide +kernel) rfl
theorem dL_law_847 : decode cL_law 847 = .ok (.aload_n 2, 1) := zrD zrw_cL_law_824 (i := 23) (by decide +kernel) rfl
theorem dL_law_848 : decode cL_law 848 = .ok (.aload_n 0, 1) := zrD zrw_cL_law_824 (i := 24) (by decide +kernel) rfl
theorem dL_law_849 : decode cL_law 849 = .ok (.iload_n 3, 1) := zrD zrw_cL_law_824 (i := 25) (by decide +kernel) rfl
theorem dL_law_850 : decode cL_law 850 = .ok (.iconst 1, 1) := zrD zrw_cL_law_824 (i := 26) (by decide +kernel) rfl
theorem dL_law_851 : decode cL_law 851 = .ok (.iadd, 1) := zrD zrw_cL_law_824 (i := 27) (by decide +kernel) rfl
theorem dL_law_852 : decode cL_law 852 = .ok (.iaload, 1) := zrD zrw_cL_law_824 (i := 28) (by decide +kernel) rfl
theorem dL_law_853 : decode cL_law 853 = .ok (.aload_n 0, 1) := zrD zrw_cL_law_824 (i := 29) (by decide +kernel) rfl
theorem dL_law_854 : decode cL_law 854 = .ok (.iload_n 3, 1) := zrD zrw_cL_law_824 (i := 30) (by decide +kernel) rfl
theorem dL_law_855 : decode cL_law 855 = .ok (.iconst 2, 1) := zrD zrw_cL_law_824 (i := 31) (by decide +kernel) rfl
def zrk_cL_law_856 : ByteArray := .mk #[96, 46, 182, 0, 112, 87, 167, 2, 67, 43, 42, 29, 4, 96, 46, 42, 29, 5, 96, 46, 182, 0, 113, 87, 44, 42, 29, 4, 96, 46, 42, 29]
theorem zrw_cL_law_856 : zrW 856 cL_law zrk_cL_law_856 := by unfold zrW; decide +kernel
theorem dL_law_856 : decode cL_law 856 = .ok (.iadd, 1) := zrD zrw_cL_law_856 (i := 0) (by decide +kernel) rfl
theorem dL_law_857 : decode cL_law 857 = .ok (.iaload, 1) := zrD zrw_cL_law_856 (i := 1) (by decide +kernel) rfl
theorem dL_law_858 : decode cL_law 858 = .ok (.invokevirtual 112, 3) := zrD zrw_cL_law_856 (i := 2) (by decide +kernel) rfl
theorem dL_law_861 : decode cL_law 861 = .ok (.pop, 1) := zrD zrw_cL_law_856 (i := 5) (by decide +kernel) rfl
theorem dL_law_862 : decode cL_law 862 = .ok (.goto 579, 3) := zrD zrw_cL_law_856 (i := 6) (by decide +kernel) rfl
theorem dL_law_865 : decode cL_law 865 = .ok (.aload_n 1, 1) := zrD zrw_cL_law_856 (i := 9) (by decide +kernel) rfl
theorem dL_law_866 : decode cL_law 866 = .ok (.aload_n 0, 1) := zrD zrw_cL_law_856 (i := 10) (by decide +kernel) rfl
theorem dL_law_867 : decode cL_law 867 = .ok (.iload_n 3, 1) := zrD zrw_cL_law_856 (i := 11) (by decide +kernel) rfl
theorem dL_law_868 : decode cL_law 868 = .ok (.iconst 1, 1) := zrD zrw_cL_law_856 (i := 12) (by decide +kernel) rfl
theorem dL_law_869 : decode cL_law 869 = .ok (.iadd, 1) := zrD zrw_cL_law_856 (i := 13) (by decide +kernel) rfl
theorem dL_law_870 : decode cL_law 870 = .ok (.iaload, 1) := zrD zrw_cL_law_856 (i := 14) (by decide +kernel) rfl
theorem dL_law_871 : decode cL_law 871 = .ok (.aload_n 0, 1) := zrD zrw_cL_law_856 (i := 15) (by decide +kernel) rfl
theorem dL_law_872 : decode cL_law 872 = .ok (.iload_n 3, 1) := zrD zrw_cL_law_856 (i := 16) (by decide +kernel) rfl
theorem dL_law_873 : decode cL_law 873 = .ok (.iconst 2, 1) := zrD zrw_cL_law_856 (i := 17) (by decide +kernel) rfl
theorem dL_law_874 : decode cL_law 874 = .ok (.iadd, 1) := zrD zrw_cL_law_856 (i := 18) (by decide +kernel) rfl
theorem dL_law_875 : decode cL_law 875 = .ok (.iaload, 1) := zrD zrw_cL_law_856 (i := 19) (by decide +kernel) rfl
theorem dL_law_876 : decode cL_law 876 = .ok (.invokevirtual 113, 3) := zrD zrw_cL_law_856 (i := 20) (by decide +kernel) rfl
theorem dL_law_879 : decode cL_law 879 = .ok (.pop, 1) := zrD zrw_cL_law_856 (i := 23) (by decide +kernel) rfl
theorem dL_law_880 : decode cL_law 880 = .ok (.aload_n 2, 1) := zrD zrw_cL_law_856 (i := 24) (by decide +kernel) rfl
theorem dL_law_881 : decode cL_law 881 = .ok (.aload_n 0, 1) := zrD zrw_cL_law_856 (i := 25) (by decide +kernel) rfl
theorem dL_law_882 : decode cL_law 882 = .ok (.iload_n 3, 1) := zrD zrw_cL_law_856 (i := 26) (by decide +kernel) rfl
theorem dL_law_883 : decode cL_law 883 = .ok (.iconst 1, 1) := zrD zrw_cL_law_856 (i := 27) (by decide +kernel) rfl
theorem dL_law_884 : decode cL_law 884 = .ok (.iadd, 1) := zrD zrw_cL_law_856 (i := 28) (by decide +kernel) rfl
theorem dL_law_885 : decode cL_law 885 = .ok (.iaload, 1) := zrD zrw_cL_law_856 (i := 29) (by decide +kernel) rfl
theorem dL_law_886 : decode cL_law 886 = .ok (.aload_n 0, 1) := zrD zrw_cL_law_856 (i := 30) (by decide +kernel) rfl
theorem dL_law_887 : decode cL_law 887 = .ok (.iload_n 3, 1) := zrD zrw_cL_law_856 (i := 31) (by decide +kernel) rfl
def zrk_cL_law_888 : ByteArray := .mk #[5, 96, 46, 182, 0, 116, 87, 167, 2, 34, 43, 182, 0, 117, 87, 44, 182, 0, 120, 87, 167, 2, 21, 43, 42, 29, 4, 96, 46, 182, 0, 121]
theorem zrw_cL_law_888 : zrW 888 cL_law zrk_cL_law_888 := by unfold zrW; decide +kernel
theorem dL_law_888 : decode cL_law 888 = .ok (.iconst 2, 1) := zrD zrw_cL_law_888 (i := 0) (by decide +kernel) rfl
theorem dL_law_889 : decode cL_law 889 = .ok (.iadd, 1) := zrD zrw_cL_law_888 (i := 1) (by decide +kernel) rfl
theorem dL_law_890 : decode cL_law 890 = .ok (.iaload, 1) := zrD zrw_cL_law_888 (i := 2) (by decide +kernel) rfl
theorem dL_law_891 : decode cL_law 891 = .ok (.invokevirtual 116, 3) := zrD zrw_cL_law_888 (i := 3) (by decide +kernel) rfl
theorem dL_law_894 : decode cL_law 894 = .ok (.pop, 1) := zrD zrw_cL_law_888 (i := 6) (by decide +kernel) rfl
theorem dL_law_895 : decode cL_law 895 = .ok (.goto 546, 3) := zrD zrw_cL_law_888 (i := 7) (by decide +kernel) rfl
theorem dL_law_898 : decode cL_law 898 = .ok (.aload_n 1, 1) := zrD zrw_cL_law_888 (i := 10) (by decide +kernel) rfl
theorem dL_law_899 : decode cL_law 899 = .ok (.invokevirtual 117, 3) := zrD zrw_cL_law_888 (i := 11) (by decide +kernel) rfl
theorem dL_law_902 : decode cL_law 902 = .ok (.pop, 1) := zrD zrw_cL_law_888 (i := 14) (by decide +kernel) rfl
theorem dL_law_903 : decode cL_law 903 = .ok (.aload_n 2, 1) := zrD zrw_cL_law_888 (i := 15) (by decide +kernel) rfl
theorem dL_law_904 : decode cL_law 904 = .ok (.invokevirtual 120, 3) := zrD zrw_cL_law_888 (i := 16) (by decide +kernel) rfl
theorem dL_law_907 : decode cL_law 907 = .ok (.pop, 1) := zrD zrw_cL_law_888 (i := 19) (by decide +kernel) rfl
theorem dL_law_908 : decode cL_law 908 = .ok (.goto 533, 3) := zrD zrw_cL_law_888 (i := 20) (by decide +kernel) rfl
theorem dL_law_911 : decode cL_law 911 = .ok (.aload_n 1, 1) := zrD zrw_cL_law_888 (i := 23) (by decide +kernel) rfl
theorem dL_law_912 : decode cL_law 912 = .ok (.aload_n 0, 1) := zrD zrw_cL_law_888 (i := 24) (by decide +kernel) rfl
theorem dL_law_913 : decode cL_law 913 = .ok (.iload_n 3, 1) := zrD zrw_cL_law_888 (i := 25) (by decide +kernel) rfl
theorem dL_law_914 : decode cL_law 914 = .ok (.iconst 1, 1) := zrD zrw_cL_law_888 (i := 26) (by decide +kernel) rfl
theorem dL_law_915 : decode cL_law 915 = .ok (.iadd, 1) := zrD zrw_cL_law_888 (i := 27) (by decide +kernel) rfl
theorem dL_law_916 : decode cL_law 916 = .ok (.iaload, 1) := zrD zrw_cL_law_888 (i := 28) (by decide +kernel) rfl
theorem dL_law_917 : decode cL_law 917 = .ok (.invokevirtual 121, 3) := zrD zrw_cL_law_888 (i := 29) (by decide +kernel) rfl
def zrk_cL_law_920 : ByteArray := .mk #[87, 44, 42, 29, 4, 96, 46, 182, 0, 124, 87, 167, 1, 254, 43, 42, 29, 4, 96, 46, 42, 29, 5, 96, 46, 182, 0, 125, 87, 44, 42, 29]
theorem zrw_cL_law_920 : zrW 920 cL_law zrk_cL_law_920 := by unfold zrW; decide +kernel
theorem dL_law_920 : decode cL_law 920 = .ok (.pop, 1) := zrD zrw_cL_law_920 (i := 0) (by decide +kernel) rfl
theorem dL_law_921 : decode cL_law 921 = .ok (.aload_n 2, 1) := zrD zrw_cL_law_920 (i := 1) (by decide +kernel) rfl
theorem dL_law_922 : decode cL_law 922 = .ok (.aload_n 0, 1) := zrD zrw_cL_law_920 (i := 2) (by decide +kernel) rfl
theorem dL_law_923 : decode cL_law 923 = .ok (.iload_n 3, 1) := zrD zrw_cL_law_920 (i := 3) (by decide +kernel) rfl
theorem dL_law_924 : decode cL_law 924 = .ok (.iconst 1, 1) := zrD zrw_cL_law_920 (i := 4) (by decide +kernel) rfl
theorem dL_law_925 : decode cL_law 925 = .ok (.iadd, 1) := zrD zrw_cL_law_920 (i := 5) (by decide +kernel) rfl
theorem dL_law_926 : decode cL_law 926 = .ok (.iaload, 1) := zrD zrw_cL_law_920 (i := 6) (by decide +kernel) rfl
theorem dL_law_927 : decode cL_law 927 = .ok (.invokevirtual 124, 3) := zrD zrw_cL_law_920 (i := 7) (by decide +kernel) rfl
theorem dL_law_930 : decode cL_law 930 = .ok (.pop, 1) := zrD zrw_cL_law_920 (i := 10) (by decide +kernel) rfl
theorem dL_law_931 : decode cL_law 931 = .ok (.goto 510, 3) := zrD zrw_cL_law_920 (i := 11) (by decide +kernel) rfl
theorem dL_law_934 : decode cL_law 934 = .ok (.aload_n 1, 1) := zrD zrw_cL_law_920 (i := 14) (by decide +kernel) rfl
theorem dL_law_935 : decode cL_law 935 = .ok (.aload_n 0, 1) := zrD zrw_cL_law_920 (i := 15) (by decide +kernel) rfl
theorem dL_law_936 : decode cL_law 936 = .ok (.iload_n 3, 1) := zrD zrw_cL_law_920 (i := 16) (by decide +kernel) rfl
theorem dL_law_937 : decode cL_law 937 = .ok (.iconst 1, 1) := zrD zrw_cL_law_920 (i := 17) (by decide +kernel) rfl
theorem dL_law_938 : decode cL_law 938 = .ok (.iadd, 1) := zrD zrw_cL_law_920 (i := 18) (by decide +kernel) rfl
theorem dL_law_939 : decode cL_law 939 = .ok (.iaload, 1) := zrD zrw_cL_law_920 (i := 19) (by decide +kernel) rfl
theorem dL_law_940 : decode cL_law 940 = .ok (.aload_n 0, 1) := zrD zrw_cL_law_920 (i := 20) (by decide +kernel) rfl
theorem dL_law_941 : decode cL_law 941 = .ok (.iload_n 3, 1) := zrD zrw_cL_law_920 (i := 21) (by decide +kernel) rfl
theorem dL_law_942 : decode cL_law 942 = .ok (.iconst 2, 1) := zrD zrw_cL_law_920 (i := 22) (by decide +kernel) rfl
theorem dL_law_943 : decode cL_law 943 = .ok (.iadd, 1) := zrD zrw_cL_law_920 (i := 23) (by decide +kernel) rfl
theorem dL_law_944 : decode cL_law 944 = .ok (.iaload, 1) := zrD zrw_cL_law_920 (i := 24) (by decide +kernel) rfl
theorem dL_law_945 : decode cL_law 945 = .ok (.invokevirtual 125, 3) := zrD zrw_cL_law_920 (i := 25) (by decide +kernel) rfl
theorem dL_law_948 : decode cL_law 948 = .ok (.pop, 1) := zrD zrw_cL_law_920 (i := 28) (by decide +kernel) rfl
theorem dL_law_949 : decode cL_law 949 = .ok (.aload_n 2, 1) := zrD zrw_cL_law_920 (i := 29) (by decide +kernel) rfl
theorem dL_law_950 : decode cL_law 950 = .ok (.aload_n 0, 1) := zrD zrw_cL_law_920 (i := 30) (by decide +kernel) rfl
theorem dL_law_951 : decode cL_law 951 = .ok (.iload_n 3, 1) := zrD zrw_cL_law_920 (i := 31) (by decide +kernel) rfl
def zrk_cL_law_952 : ByteArray := .mk #[4, 96, 46, 42, 29, 5, 96, 46, 182, 0, 128, 87, 167, 1, 221, 43, 42, 29, 4, 96, 46, 182, 0, 129, 87, 44, 42, 29, 4, 96, 46]
theorem zrw_cL_law_952 : zrW 952 cL_law zrk_cL_law_952 := by unfold zrW; decide +kernel
theorem dL_law_952 : decode cL_law 952 = .ok (.iconst 1, 1) := zrD zrw_cL_law_952 (i := 0) (by decide +kernel) rfl
theorem dL_law_953 : decode cL_law 953 = .ok (.iadd, 1) := zrD zrw_cL_law_952 (i := 1) (by decide +kernel) rfl
theorem dL_law_954 : decode cL_law 954 = .ok (.iaload, 1) := zrD zrw_cL_law_952 (i := 2) (by decide +kernel) rfl
theorem dL_law_955 : decode cL_law 955 = .ok (.aload_n 0, 1) := zrD zrw_cL_law_952 (i := 3) (by decide +kernel) rfl
theorem dL_law_956 : decode cL_law 956 = .ok (.iload_n 3, 1) := zrD zrw_cL_law_952 (i := 4) (by decide +kernel) rfl
theorem dL_law_957 : decode cL_law 957 = .ok (.iconst 2, 1) := zrD zrw_cL_law_952 (i := 5) (by decide +kernel) rfl
theorem dL_law_958 : decode cL_law 958 = .ok (.iadd, 1) := zrD zrw_cL_law_952 (i := 6) (by decide +kernel) rfl
theorem dL_law_959 : decode cL_law 959 = .ok (.iaload, 1) := zrD zrw_cL_law_952 (i := 7) (by decide +kernel) rfl
theorem dL_law_960 : decode cL_law 960 = .ok (.invokevirtual 128, 3) := zrD zrw_cL_law_952 (i := 8) (by decide +kernel) rfl
theorem dL_law_963 : decode cL_law 963 = .ok (.pop, 1) := zrD zrw_cL_law_952 (i := 11) (by decide +kernel) rfl
theorem dL_law_964 : decode cL_law 964 = .ok (.goto 477, 3) := zrD zrw_cL_law_952 (i := 12) (by decide +kernel) rfl
theorem dL_law_967 : decode cL_law 967 = .ok (.aload_n 1, 1) := zrD zrw_cL_law_952 (i := 15) (by decide +kernel) rfl
theorem dL_law_968 : decode cL_law 968 = .ok (.aload_n 0, 1) := zrD zrw_cL_law_952 (i := 16) (by decide +kernel) rfl
theorem dL_law_969 : decode cL_law 969 = .ok (.iload_n 3, 1) := zrD zrw_cL_law_952 (i := 17) (by decide +kernel) rfl
theorem dL_law_970 : decode cL_law 970 = .ok (.iconst 1, 1) := zrD zrw_cL_law_952 (i := 18) (by decide +kernel) rfl
theorem dL_law_971 : decode cL_law 971 = .ok (.iadd, 1) := zrD zrw_cL_law_952 (i := 19) (by decide +kernel) rfl
theorem dL_law_972 : decode cL_law 972 = .ok (.iaload, 1) := zrD zrw_cL_law_952 (i := 20) (by decide +kernel) rfl
theorem dL_law_973 : decode cL_law 973 = .ok (.invokevirtual 129, 3) := zrD zrw_cL_law_952 (i := 21) (by decide +kernel) rfl
theorem dL_law_976 : decode cL_law 976 = .ok (.pop, 1) := zrD zrw_cL_law_952 (i := 24) (by decide +kernel) rfl
theorem dL_law_977 : decode cL_law 977 = .ok (.aload_n 2, 1) := zrD zrw_cL_law_952 (i := 25) (by decide +kernel) rfl
theorem dL_law_978 : decode cL_law 978 = .ok (.aload_n 0, 1) := zrD zrw_cL_law_952 (i := 26) (by decide +kernel) rfl
theorem dL_law_979 : decode cL_law 979 = .ok (.iload_n 3, 1) := zrD zrw_cL_law_952 (i := 27) (by decide +kernel) rfl
theorem dL_law_980 : decode cL_law 980 = .ok (.iconst 1, 1) := zrD zrw_cL_law_952 (i := 28) (by decide +kernel) rfl
theorem dL_law_981 : decode cL_law 981 = .ok (.iadd, 1) := zrD zrw_cL_law_952 (i := 29) (by decide +kernel) rfl
theorem dL_law_982 : decode cL_law 982 = .ok (.iaload, 1) := zrD zrw_cL_law_952 (i := 30) (by decide +kernel) rfl
def zrk_cL_law_983 : ByteArray := .mk #[182, 0, 132, 87, 167, 1, 198, 43, 42, 29, 4, 96, 46, 42, 29, 5, 96, 46, 42, 29, 6, 96, 46, 182, 0, 133, 87, 44, 42, 29, 4, 96]
theorem zrw_cL_law_983 : zrW 983 cL_law zrk_cL_law_983 := by unfold zrW; decide +kernel
theorem dL_law_983 : decode cL_law 983 = .ok (.invokevirtual 132, 3) := zrD zrw_cL_law_983 (i := 0) (by decide +kernel) rfl
theorem dL_law_986 : decode cL_law 986 = .ok (.pop, 1) := zrD zrw_cL_law_983 (i := 3) (by decide +kernel) rfl
theorem dL_law_987 : decode cL_law 987 = .ok (.goto 454, 3) := zrD zrw_cL_law_983 (i := 4) (by decide +kernel) rfl
theorem dL_law_990 : decode cL_law 990 = .ok (.aload_n 1, 1) := zrD zrw_cL_law_983 (i := 7) (by decide +kernel) rfl
theorem dL_law_991 : decode cL_law 991 = .ok (.aload_n 0, 1) := zrD zrw_cL_law_983 (i := 8) (by decide +kernel) rfl
theorem dL_law_992 : decode cL_law 992 = .ok (.iload_n 3, 1) := zrD zrw_cL_law_983 (i := 9) (by decide +kernel) rfl
theorem dL_law_993 : decode cL_law 993 = .ok (.iconst 1, 1) := zrD zrw_cL_law_983 (i := 10) (by decide +kernel) rfl
theorem dL_law_994 : decode cL_law 994 = .ok (.iadd, 1) := zrD zrw_cL_law_983 (i := 11) (by decide +kernel) rfl
theorem dL_law_995 : decode cL_law 995 = .ok (.iaload, 1) := zrD zrw_cL_law_983 (i := 12) (by decide +kernel) rfl
theorem dL_law_996 : decode cL_law 996 = .ok (.aload_n 0, 1) := zrD zrw_cL_law_983 (i := 13) (by decide +kernel) rfl
theorem dL_law_997 : decode cL_law 997 = .ok (.iload_n 3, 1) := zrD zrw_cL_law_983 (i := 14) (by decide +kernel) rfl
theorem dL_law_998 : decode cL_law 998 = .ok (.iconst 2, 1) := zrD zrw_cL_law_983 (i := 15) (by decide +kernel) rfl
theorem dL_law_999 : decode cL_law 999 = .ok (.iadd, 1) := zrD zrw_cL_law_983 (i := 16) (by decide +kernel) rfl
theorem dL_law_1000 : decode cL_law 1000 = .ok (.iaload, 1) := zrD zrw_cL_law_983 (i := 17) (by decide +kernel) rfl
theorem dL_law_1001 : decode cL_law 1001 = .ok (.aload_n 0, 1) := zrD zrw_cL_law_983 (i := 18) (by decide +kernel) rfl
theorem dL_law_1002 : decode cL_law 1002 = .ok (.iload_n 3, 1) := zrD zrw_cL_law_983 (i := 19) (by decide +kernel) rfl
theorem dL_law_1003 : decode cL_law 1003 = .ok (.iconst 3, 1) := zrD zrw_cL_law_983 (i := 20) (by decide +kernel) rfl
theorem dL_law_1004 : decode cL_law 1004 = .ok (.iadd, 1) := zrD zrw_cL_law_983 (i := 21) (by decide +kernel) rfl
theorem dL_law_1005 : decode cL_law 1005 = .ok (.iaload, 1) := zrD zrw_cL_law_983 (i := 22) (by decide +kernel) rfl
theorem dL_law_1006 : decode cL_law 1006 = .ok (.invokevirtual 133, 3) := zrD zrw_cL_law_983 (i := 23) (by decide +kernel) rfl
theorem dL_law_1009 : decode cL_law 1009 = .ok (.pop, 1) := zrD zrw_cL_law_983 (i := 26) (by decide +kernel) rfl
theorem dL_law_1010 : decode cL_law 1010 = .ok (.aload_n 2, 1) := zrD zrw_cL_law_983 (i := 27) (by decide +kernel) rfl
theorem dL_law_1011 : decode cL_law 1011 = .ok (.aload_n 0, 1) := zrD zrw_cL_law_983 (i := 28) (by decide +kernel) rfl
theorem dL_law_1012 : decode cL_law 1012 = .ok (.iload_n 3, 1) := zrD zrw_cL_law_983 (i := 29) (by decide +kernel) rfl
theorem dL_law_1013 : decode cL_law 1013 = .ok (.iconst 1, 1) := zrD zrw_cL_law_983 (i := 30) (by decide +kernel) rfl
theorem dL_law_1014 : decode cL_law 1014 = .ok (.iadd, 1) := zrD zrw_cL_law_983 (i := 31) (by decide +kernel) rfl
def zrk_cL_law_1015 : ByteArray := .mk #[46, 42, 29, 5, 96, 46, 42, 29, 6, 96, 46, 182, 0, 137, 87, 167, 1, 155, 43, 182, 0, 138, 87, 44, 182, 0, 141, 87, 167, 1, 142, 43]
theorem zrw_cL_law_1015 : zrW 1015 cL_law zrk_cL_law_1015 := by unfold zrW; decide +kernel
theorem dL_law_1015 : decode cL_law 1015 = .ok (.iaload, 1) := zrD zrw_cL_law_1015 (i := 0) (by decide +kernel) rfl
theorem dL_law_1016 : decode cL_law 1016 = .ok (.aload_n 0, 1) := zrD zrw_cL_law_1015 (i := 1) (by decide +kernel) rfl
theorem dL_law_1017 : decode cL_law 1017 = .ok (.iload_n 3, 1) := zrD zrw_cL_law_1015 (i := 2) (by decide +kernel) rfl
theorem dL_law_1018 : decode cL_law 1018 = .ok (.iconst 2, 1) := zrD zrw_cL_law_1015 (i := 3) (by decide +kernel) rfl
theorem dL_law_1019 : decode cL_law 1019 = .ok (.iadd, 1) := zrD zrw_cL_law_1015 (i := 4) (by decide +kernel) rfl
theorem dL_law_1020 : decode cL_law 1020 = .ok (.iaload, 1) := zrD zrw_cL_law_1015 (i := 5) (by decide +kernel) rfl
theorem dL_law_1021 : decode cL_law 1021 = .ok (.aload_n 0, 1) := zrD zrw_cL_law_1015 (i := 6) (by decide +kernel) rfl
theorem dL_law_1022 : decode cL_law 1022 = .ok (.iload_n 3, 1) := zrD zrw_cL_law_1015 (i := 7) (by decide +kernel) rfl
theorem dL_law_1023 : decode cL_law 1023 = .ok (.iconst 3, 1) := zrD zrw_cL_law_1015 (i := 8) (by decide +kernel) rfl
theorem dL_law_1024 : decode cL_law 1024 = .ok (.iadd, 1) := zrD zrw_cL_law_1015 (i := 9) (by decide +kernel) rfl
theorem dL_law_1025 : decode cL_law 1025 = .ok (.iaload, 1) := zrD zrw_cL_law_1015 (i := 10) (by decide +kernel) rfl
theorem dL_law_1026 : decode cL_law 1026 = .ok (.invokevirtual 137, 3) := zrD zrw_cL_law_1015 (i := 11) (by decide +kernel) rfl
theorem dL_law_1029 : decode cL_law 1029 = .ok (.pop, 1) := zrD zrw_cL_law_1015 (i := 14) (by decide +kernel) rfl
theorem dL_law_1030 : decode cL_law 1030 = .ok (.goto 411, 3) := zrD zrw_cL_law_1015 (i := 15) (by decide +kernel) rfl
theorem dL_law_1033 : decode cL_law 1033 = .ok (.aload_n 1, 1) := zrD zrw_cL_law_1015 (i := 18) (by decide +kernel) rfl
theorem dL_law_1034 : decode cL_law 1034 = .ok (.invokevirtual 138, 3) := zrD zrw_cL_law_1015 (i := 19) (by decide +kernel) rfl
theorem dL_law_1037 : decode cL_law 1037 = .ok (.pop, 1) := zrD zrw_cL_law_1015 (i := 22) (by decide +kernel) rfl
theorem dL_law_1038 : decode cL_law 1038 = .ok (.aload_n 2, 1) := zrD zrw_cL_law_1015 (i := 23) (by decide +kernel) rfl
theorem dL_law_1039 : decode cL_law 1039 = .ok (.invokevirtual 141, 3) := zrD zrw_cL_law_1015 (i := 24) (by decide +kernel) rfl
theorem dL_law_1042 : decode cL_law 1042 = .ok (.pop, 1) := zrD zrw_cL_law_1015 (i := 27) (by decide +kernel) rfl
theorem dL_law_1043 : decode cL_law 1043 = .ok (.goto 398, 3) := zrD zrw_cL_law_1015 (i := 28) (by decide +kernel) rfl
theorem dL_law_1046 : decode cL_law 1046 = .ok (.aload_n 1, 1) := zrD zrw_cL_law_1015 (i := 31) (by decide +kernel) rfl
def zrk_cL_law_1047 : ByteArray := .mk #[182, 0, 142, 87, 44, 182, 0, 145, 87, 167, 1, 129, 43, 42, 29, 4, 96, 46, 42, 29, 5, 96, 46, 42, 29, 6, 96, 46, 182, 0, 146, 87]
theorem zrw_cL_law_1047 : zrW 1047 cL_law zrk_cL_law_1047 := by unfold zrW; decide +kernel
theorem dL_law_1047 : decode cL_law 1047 = .ok (.invokevirtual 142, 3) := zrD zrw_cL_law_1047 (i := 0) (by decide +kernel) rfl
theorem dL_law_1050 : decode cL_law 1050 = .ok (.pop, 1) := zrD zrw_cL_law_1047 (i := 3) (by decide +kernel) rfl
theorem dL_law_1051 : decode cL_law 1051 = .ok (.aload_n 2, 1) := zrD zrw_cL_law_1047 (i := 4) (by decide +kernel) rfl
theorem dL_law_1052 : decode cL_law 1052 = .ok (.invokevirtual 145, 3) := zrD zrw_cL_law_1047 (i := 5) (by decide +kernel) rfl
theorem dL_law_1055 : decode cL_law 1055 = .ok (.pop, 1) := zrD zrw_cL_law_1047 (i := 8) (by decide +kernel) rfl
theorem dL_law_1056 : decode cL_law 1056 = .ok (.goto 385, 3) := zrD zrw_cL_law_1047 (i := 9) (by decide +kernel) rfl
theorem dL_law_1059 : decode cL_law 1059 = .ok (.aload_n 1, 1) := zrD zrw_cL_law_1047 (i := 12) (by decide +kernel) rfl
theorem dL_law_1060 : decode cL_law 1060 = .ok (.aload_n 0, 1) := zrD zrw_cL_law_1047 (i := 13) (by decide +kernel) rfl
theorem dL_law_1061 : decode cL_law 1061 = .ok (.iload_n 3, 1) := zrD zrw_cL_law_1047 (i := 14) (by decide +kernel) rfl
theorem dL_law_1062 : decode cL_law 1062 = .ok (.iconst 1, 1) := zrD zrw_cL_law_1047 (i := 15) (by decide +kernel) rfl
theorem dL_law_1063 : decode cL_law 1063 = .ok (.iadd, 1) := zrD zrw_cL_law_1047 (i := 16) (by decide +kernel) rfl
theorem dL_law_1064 : decode cL_law 1064 = .ok (.iaload, 1) := zrD zrw_cL_law_1047 (i := 17) (by decide +kernel) rfl
theorem dL_law_1065 : decode cL_law 1065 = .ok (.aload_n 0, 1) := zrD zrw_cL_law_1047 (i := 18) (by decide +kernel) rfl
theorem dL_law_1066 : decode cL_law 1066 = .ok (.iload_n 3, 1) := zrD zrw_cL_law_1047 (i := 19) (by decide +kernel) rfl
theorem dL_law_1067 : decode cL_law 1067 = .ok (.iconst 2, 1) := zrD zrw_cL_law_1047 (i := 20) (by decide +kernel) rfl
theorem dL_law_1068 : decode cL_law 1068 = .ok (.iadd, 1) := zrD zrw_cL_law_1047 (i := 21) (by decide +kernel) rfl
theorem dL_law_1069 : decode cL_law 1069 = .ok (.iaload, 1) := zrD zrw_cL_law_1047 (i := 22) (by decide +kernel) rfl
theorem dL_law_1070 : decode cL_law 1070 = .ok (.aload_n 0, 1) := zrD zrw_cL_law_1047 (i := 23) (by decide +kernel) rfl
theorem dL_law_1071 : decode cL_law 1071 = .ok (.iload_n 3, 1) := zrD zrw_cL_law_1047 (i := 24) (by decide +kernel) rfl
theorem dL_law_1072 : decode cL_law 1072 = .ok (.iconst 3, 1) := zrD zrw_cL_law_1047 (i := 25) (by decide +kernel) rfl
theorem dL_law_1073 : decode cL_law 1073 = .ok (.iadd, 1) := zrD zrw_cL_law_1047 (i := 26) (by decide +kernel) rfl
theorem dL_law_1074 : decode cL_law 1074 = .ok (.iaload, 1) := zrD zrw_cL_law_1047 (i := 27) (by decide +kernel) rfl
theorem dL_law_1075 : decode cL_law 1075 = .ok (.invokevirtual 146, 3) := zrD zrw_cL_law_1047 (i := 28) (by decide +kernel) rfl
theorem dL_law_1078 : decode cL_law 1078 = .ok (.pop, 1) := zrD zrw_cL_law_1047 (i := 31) (by decide +kernel) rfl
def zrk_cL_law_1079 : ByteArray := .mk #[44, 42, 29, 4, 96, 46, 42, 29, 5, 96, 46, 42, 29, 6, 96, 46, 182, 0, 149, 87, 167, 1, 86, 43, 42, 29, 4, 96, 46, 182, 0, 150]
theorem zrw_cL_law_1079 : zrW 1079 cL_law zrk_cL_law_1079 := by unfold zrW; decide +kernel
theorem dL_law_1079 : decode cL_law 1079 = .ok (.aload_n 2, 1) := zrD zrw_cL_law_1079 (i := 0) (by decide +kernel) rfl
theorem dL_law_1080 : decode cL_law 1080 = .ok (.aload_n 0, 1) := zrD zrw_cL_law_1079 (i := 1) (by decide +kernel) rfl
theorem dL_law_1081 : decode cL_law 1081 = .ok (.iload_n 3, 1) := zrD zrw_cL_law_1079 (i := 2) (by decide +kernel) rfl
theorem dL_law_1082 : decode cL_law 1082 = .ok (.iconst 1, 1) := zrD zrw_cL_law_1079 (i := 3) (by decide +kernel) rfl
theorem dL_law_1083 : decode cL_law 1083 = .ok (.iadd, 1) := zrD zrw_cL_law_1079 (i := 4) (by decide +kernel) rfl
theorem dL_law_1084 : decode cL_law 1084 = .ok (.iaload, 1) := zrD zrw_cL_law_1079 (i := 5) (by decide +kernel) rfl
theorem dL_law_1085 : decode cL_law 1085 = .ok (.aload_n 0, 1) := zrD zrw_cL_law_1079 (i := 6) (by decide +kernel) rfl
theorem dL_law_1086 : decode cL_law 1086 = .ok (.iload_n 3, 1) := zrD zrw_cL_law_1079 (i := 7) (by decide +kernel) rfl
theorem dL_law_1087 : decode cL_law 1087 = .ok (.iconst 2, 1) := zrD zrw_cL_law_1079 (i := 8) (by decide +kernel) rfl
theorem dL_law_1088 : decode cL_law 1088 = .ok (.iadd, 1) := zrD zrw_cL_law_1079 (i := 9) (by decide +kernel) rfl
theorem dL_law_1089 : decode cL_law 1089 = .ok (.iaload, 1) := zrD zrw_cL_law_1079 (i := 10) (by decide +kernel) rfl
theorem dL_law_1090 : decode cL_law 1090 = .ok (.aload_n 0, 1) := zrD zrw_cL_law_1079 (i := 11) (by decide +kernel) rfl
theorem dL_law_1091 : decode cL_law 1091 = .ok (.iload_n 3, 1) := zrD zrw_cL_law_1079 (i := 12) (by decide +kernel) rfl
theorem dL_law_1092 : decode cL_law 1092 = .ok (.iconst 3, 1) := zrD zrw_cL_law_1079 (i := 13) (by decide +kernel) rfl
theorem dL_law_1093 : decode cL_law 1093 = .ok (.iadd, 1) := zrD zrw_cL_law_1079 (i := 14) (by decide +kernel) rfl
theorem dL_law_1094 : decode cL_law 1094 = .ok (.iaload, 1) := zrD zrw_cL_law_1079 (i := 15) (by decide +kernel) rfl
theorem dL_law_1095 : decode cL_law 1095 = .ok (.invokevirtual 149, 3) := zrD zrw_cL_law_1079 (i := 16) (by decide +kernel) rfl
theorem dL_law_1098 : decode cL_law 1098 = .ok (.pop, 1) := zrD zrw_cL_law_1079 (i := 19) (by decide +kernel) rfl
theorem dL_law_1099 : decode cL_law 1099 = .ok (.goto 342, 3) := zrD zrw_cL_law_1079 (i := 20) (by decide +kernel) rfl
theorem dL_law_1102 : decode cL_law 1102 = .ok (.aload_n 1, 1) := zrD zrw_cL_law_1079 (i := 23) (by decide +kernel) rfl
theorem dL_law_1103 : decode cL_law 1103 = .ok (.aload_n 0, 1) := zrD zrw_cL_law_1079 (i := 24) (by decide +kernel) rfl
theorem dL_law_1104 : decode cL_law 1104 = .ok (.iload_n 3, 1) := zrD zrw_cL_law_1079 (i := 25) (by decide +kernel) rfl
theorem dL_law_1105 : decode cL_law 1105 = .ok (.iconst 1, 1) := zrD zrw_cL_law_1079 (i := 26) (by decide +kernel) rfl
theorem dL_law_1106 : decode cL_law 1106 = .ok (.iadd, 1) := zrD zrw_cL_law_1079 (i := 27) (by decide +kernel) rfl
theorem dL_law_1107 : decode cL_law 1107 = .ok (.iaload, 1) := zrD zrw_cL_law_1079 (i := 28) (by decide +kernel) rfl
theorem dL_law_1108 : decode cL_law 1108 = .ok (.invokevirtual 150, 3) := zrD zrw_cL_law_1079 (i := 29) (by decide +kernel) rfl
def zrk_cL_law_1111 : ByteArray := .mk #[87, 44, 42, 29, 4, 96, 46, 182, 0, 153, 87, 167, 1, 63, 43, 42, 29, 4, 96, 46, 42, 29, 5, 96, 46, 42, 29, 6, 96, 46]
theorem zrw_cL_law_1111 : zrW 1111 cL_law zrk_cL_law_1111 := by unfold zrW; decide +kernel
theorem dL_law_1111 : decode cL_law 1111 = .ok (.pop, 1) := zrD zrw_cL_law_1111 (i := 0) (by decide +kernel) rfl
theorem dL_law_1112 : decode cL_law 1112 = .ok (.aload_n 2, 1) := zrD zrw_cL_law_1111 (i := 1) (by decide +kernel) rfl
theorem dL_law_1113 : decode cL_law 1113 = .ok (.aload_n 0, 1) := zrD zrw_cL_law_1111 (i := 2) (by decide +kernel) rfl
theorem dL_law_1114 : decode cL_law 1114 = .ok (.iload_n 3, 1) := zrD zrw_cL_law_1111 (i := 3) (by decide +kernel) rfl
theorem dL_law_1115 : decode cL_law 1115 = .ok (.iconst 1, 1) := zrD zrw_cL_law_1111 (i := 4) (by decide +kernel) rfl
theorem dL_law_1116 : decode cL_law 1116 = .ok (.iadd, 1) := zrD zrw_cL_law_1111 (i := 5) (by decide +kernel) rfl
theorem dL_law_1117 : decode cL_law 1117 = .ok (.iaload, 1) := zrD zrw_cL_law_1111 (i := 6) (by decide +kernel) rfl
theorem dL_law_1118 : decode cL_law 1118 = .ok (.invokevirtual 153, 3) := zrD zrw_cL_law_1111 (i := 7) (by decide +kernel) rfl
theorem dL_law_1121 : decode cL_law 1121 = .ok (.pop, 1) := zrD zrw_cL_law_1111 (i := 10) (by decide +kernel) rfl
theorem dL_law_1122 : decode cL_law 1122 = .ok (.goto 319, 3) := zrD zrw_cL_law_1111 (i := 11) (by decide +kernel) rfl
theorem dL_law_1125 : decode cL_law 1125 = .ok (.aload_n 1, 1) := zrD zrw_cL_law_1111 (i := 14) (by decide +kernel) rfl
theorem dL_law_1126 : decode cL_law 1126 = .ok (.aload_n 0, 1) := zrD zrw_cL_law_1111 (i := 15) (by decide +kernel) rfl
theorem dL_law_1127 : decode cL_law 1127 = .ok (.iload_n 3, 1) := zrD zrw_cL_law_1111 (i := 16) (by decide +kernel) rfl
theorem dL_law_1128 : decode cL_law 1128 = .ok (.iconst 1, 1) := zrD zrw_cL_law_1111 (i := 17) (by decide +kernel) rfl
theorem dL_law_1129 : decode cL_law 1129 = .ok (.iadd, 1) := zrD zrw_cL_law_1111 (i := 18) (by decide +kernel) rfl
theorem dL_law_1130 : decode cL_law 1130 = .ok (.iaload, 1) := zrD zrw_cL_law_1111 (i := 19) (by decide +kernel) rfl
theorem dL_law_1131 : decode cL_law 1131 = .ok (.aload_n 0, 1) := zrD zrw_cL_law_1111 (i := 20) (by decide +kernel) rfl
theorem dL_law_1132 : decode cL_law 1132 = .ok (.iload_n 3, 1) := zrD zrw_cL_law_1111 (i := 21) (by decide +kernel) rfl
theorem dL_law_1133 : decode cL_law 1133 = .ok (.iconst 2, 1) := zrD zrw_cL_law_1111 (i := 22) (by decide +kernel) rfl
theorem dL_law_1134 : decode cL_law 1134 = .ok (.iadd, 1) := zrD zrw_cL_law_1111 (i := 23) (by decide +kernel) rfl
theorem dL_law_1135 : decode cL_law 1135 = .ok (.iaload, 1) := zrD zrw_cL_law_1111 (i := 24) (by decide +kernel) rfl
theorem dL_law_1136 : decode cL_law 1136 = .ok (.aload_n 0, 1) := zrD zrw_cL_law_1111 (i := 25) (by decide +kernel) rfl
theorem dL_law_1137 : decode cL_law 1137 = .ok (.iload_n 3, 1) := zrD zrw_cL_law_1111 (i := 26) (by decide +kernel) rfl
theorem dL_law_1138 : decode cL_law 1138 = .ok (.iconst 3, 1) := zrD zrw_cL_law_1111 (i := 27) (by decide +kernel) rfl
theorem dL_law_1139 : decode cL_law 1139 = .ok (.iadd, 1) := zrD zrw_cL_law_1111 (i := 28) (by decide +kernel) rfl
theorem dL_law_1140 : decode cL_law 1140 = .ok (.iaload, 1) := zrD zrw_cL_law_1111 (i := 29) (by decide +kernel) rfl
def zrk_cL_law_1141 : ByteArray := .mk #[182, 0, 154, 87, 44, 42, 29, 4, 96, 46, 42, 29, 5, 96, 46, 42, 29, 6, 96, 46, 182, 0, 157, 87, 167, 1, 20, 43, 42, 29, 4, 96]
theorem zrw_cL_law_1141 : zrW 1141 cL_law zrk_cL_law_1141 := by unfold zrW; decide +kernel
theorem dL_law_1141 : decode cL_law 1141 = .ok (.invokevirtual 154, 3) := zrD zrw_cL_law_1141 (i := 0) (by decide +kernel) rfl
theorem dL_law_1144 : decode cL_law 1144 = .ok (.pop, 1) := zrD zrw_cL_law_1141 (i := 3) (by decide +kernel) rfl
theorem dL_law_1145 : decode cL_law 1145 = .ok (.aload_n 2, 1) := zrD zrw_cL_law_1141 (i := 4) (by decide +kernel) rfl
theorem dL_law_1146 : decode cL_law 1146 = .ok (.aload_n 0, 1) := zrD zrw_cL_law_1141 (i := 5) (by decide +kernel) rfl
theorem dL_law_1147 : decode cL_law 1147 = .ok (.iload_n 3, 1) := zrD zrw_cL_law_1141 (i := 6) (by decide +kernel) rfl
theorem dL_law_1148 : decode cL_law 1148 = .ok (.iconst 1, 1) := zrD zrw_cL_law_1141 (i := 7) (by decide +kernel) rfl
theorem dL_law_1149 : decode cL_law 1149 = .ok (.iadd, 1) := zrD zrw_cL_law_1141 (i := 8) (by decide +kernel) rfl
theorem dL_law_1150 : decode cL_law 1150 = .ok (.iaload, 1) := zrD zrw_cL_law_1141 (i := 9) (by decide +kernel) rfl
theorem dL_law_1151 : decode cL_law 1151 = .ok (.aload_n 0, 1) := zrD zrw_cL_law_1141 (i := 10) (by decide +kernel) rfl
theorem dL_law_1152 : decode cL_law 1152 = .ok (.iload_n 3, 1) := zrD zrw_cL_law_1141 (i := 11) (by decide +kernel) rfl
theorem dL_law_1153 : decode cL_law 1153 = .ok (.iconst 2, 1) := zrD zrw_cL_law_1141 (i := 12) (by decide +kernel) rfl
theorem dL_law_1154 : decode cL_law 1154 = .ok (.iadd, 1) := zrD zrw_cL_law_1141 (i := 13) (by decide +kernel) rfl
theorem dL_law_1155 : decode cL_law 1155 = .ok (.iaload, 1) := zrD zrw_cL_law_1141 (i := 14) (by decide +kernel) rfl
theorem dL_law_1156 : decode cL_law 1156 = .ok (.aload_n 0, 1) := zrD zrw_cL_law_1141 (i := 15) (by decide +kernel) rfl
theorem dL_law_1157 : decode cL_law 1157 = .ok (.iload_n 3, 1) := zrD zrw_cL_law_1141 (i := 16) (by decide +kernel) rfl
theorem dL_law_1158 : decode cL_law 1158 = .ok (.iconst 3, 1) := zrD zrw_cL_law_1141 (i := 17) (by decide +kernel) rfl
theorem dL_law_1159 : decode cL_law 1159 = .ok (.iadd, 1) := zrD zrw_cL_law_1141 (i := 18) (by decide +kernel) rfl
theorem dL_law_1160 : decode cL_law 1160 = .ok (.iaload, 1) := zrD zrw_cL_law_1141 (i := 19) (by decide +kernel) rfl
theorem dL_law_1161 : decode cL_law 1161 = .ok (.invokevirtual 157, 3) := zrD zrw_cL_law_1141 (i := 20) (by decide +kernel) rfl
theorem dL_law_1164 : decode cL_law 1164 = .ok (.pop, 1) := zrD zrw_cL_law_1141 (i := 23) (by decide +kernel) rfl
theorem dL_law_1165 : decode cL_law 1165 = .ok (.goto 276, 3) := zrD zrw_cL_law_1141 (i := 24) (by decide +kernel) rfl
theorem dL_law_1168 : decode cL_law 1168 = .ok (.aload_n 1, 1) := zrD zrw_cL_law_1141 (i := 27) (by decide +kernel) rfl
theorem dL_law_1169 : decode cL_law 1169 = .ok (.aload_n 0, 1) := zrD zrw_cL_law_1141 (i := 28) (by decide +kernel) rfl
theorem dL_law_1170 : decode cL_law 1170 = .ok (.iload_n 3, 1) := zrD zrw_cL_law_1141 (i := 29) (by decide +kernel) rfl
theorem dL_law_1171 : decode cL_law 1171 = .ok (.iconst 1, 1) := zrD zrw_cL_law_1141 (i := 30) (by decide +kernel) rfl
theorem dL_law_1172 : decode cL_law 1172 = .ok (.iadd, 1) := zrD zrw_cL_law_1141 (i := 31) (by decide +kernel) rfl
def zrk_cL_law_1173 : ByteArray := .mk #[46, 182, 0, 158, 87, 44, 42, 29, 4, 96, 46, 182, 0, 161, 87, 167, 0, 253, 43, 42, 29, 4, 96, 46, 42, 29, 5, 96, 46, 42, 29, 6]
theorem zrw_cL_law_1173 : zrW 1173 cL_law zrk_cL_law_1173 := by unfold zrW; decide +kernel
theorem dL_law_1173 : decode cL_law 1173 = .ok (.iaload, 1) := zrD zrw_cL_law_1173 (i := 0) (by decide +kernel) rfl
theorem dL_law_1174 : decode cL_law 1174 = .ok (.invokevirtual 158, 3) := zrD zrw_cL_law_1173 (i := 1) (by decide +kernel) rfl
theorem dL_law_1177 : decode cL_law 1177 = .ok (.pop, 1) := zrD zrw_cL_law_1173 (i := 4) (by decide +kernel) rfl
theorem dL_law_1178 : decode cL_law 1178 = .ok (.aload_n 2, 1) := zrD zrw_cL_law_1173 (i := 5) (by decide +kernel) rfl
theorem dL_law_1179 : decode cL_law 1179 = .ok (.aload_n 0, 1) := zrD zrw_cL_law_1173 (i := 6) (by decide +kernel) rfl
theorem dL_law_1180 : decode cL_law 1180 = .ok (.iload_n 3, 1) := zrD zrw_cL_law_1173 (i := 7) (by decide +kernel) rfl
theorem dL_law_1181 : decode cL_law 1181 = .ok (.iconst 1, 1) := zrD zrw_cL_law_1173 (i := 8) (by decide +kernel) rfl
theorem dL_law_1182 : decode cL_law 1182 = .ok (.iadd, 1) := zrD zrw_cL_law_1173 (i := 9) (by decide +kernel) rfl
theorem dL_law_1183 : decode cL_law 1183 = .ok (.iaload, 1) := zrD zrw_cL_law_1173 (i := 10) (by decide +kernel) rfl
theorem dL_law_1184 : decode cL_law 1184 = .ok (.invokevirtual 161, 3) := zrD zrw_cL_law_1173 (i := 11) (by decide +kernel) rfl
theorem dL_law_1187 : decode cL_law 1187 = .ok (.pop, 1) := zrD zrw_cL_law_1173 (i := 14) (by decide +kernel) rfl
theorem dL_law_1188 : decode cL_law 1188 = .ok (.goto 253, 3) := zrD zrw_cL_law_1173 (i := 15) (by decide +kernel) rfl
theorem dL_law_1191 : decode cL_law 1191 = .ok (.aload_n 1, 1) := zrD zrw_cL_law_1173 (i := 18) (by decide +kernel) rfl
theorem dL_law_1192 : decode cL_law 1192 = .ok (.aload_n 0, 1) := zrD zrw_cL_law_1173 (i := 19) (by decide +kernel) rfl
theorem dL_law_1193 : decode cL_law 1193 = .ok (.iload_n 3, 1) := zrD zrw_cL_law_1173 (i := 20) (by decide +kernel) rfl
theorem dL_law_1194 : decode cL_law 1194 = .ok (.iconst 1, 1) := zrD zrw_cL_law_1173 (i := 21) (by decide +kernel) rfl
theorem dL_law_1195 : decode cL_law 1195 = .ok (.iadd, 1) := zrD zrw_cL_law_1173 (i := 22) (by decide +kernel) rfl
theorem dL_law_1196 : decode cL_law 1196 = .ok (.iaload, 1) := zrD zrw_cL_law_1173 (i := 23) (by decide +kernel) rfl
theorem dL_law_1197 : decode cL_law 1197 = .ok (.aload_n 0, 1) := zrD zrw_cL_law_1173 (i := 24) (by decide +kernel) rfl
theorem dL_law_1198 : decode cL_law 1198 = .ok (.iload_n 3, 1) := zrD zrw_cL_law_1173 (i := 25) (by decide +kernel) rfl
theorem dL_law_1199 : decode cL_law 1199 = .ok (.iconst 2, 1) := zrD zrw_cL_law_1173 (i := 26) (by decide +kernel) rfl
theorem dL_law_1200 : decode cL_law 1200 = .ok (.iadd, 1) := zrD zrw_cL_law_1173 (i := 27) (by decide +kernel) rfl
theorem dL_law_1201 : decode cL_law 1201 = .ok (.iaload, 1) := zrD zrw_cL_law_1173 (i := 28) (by decide +kernel) rfl
theorem dL_law_1202 : decode cL_law 1202 = .ok (.aload_n 0, 1) := zrD zrw_cL_law_1173 (i := 29) (by decide +kernel) rfl
theorem dL_law_1203 : decode cL_law 1203 = .ok (.iload_n 3, 1) := zrD zrw_cL_law_1173 (i := 30) (by decide +kernel) rfl
theorem dL_law_1204 : decode cL_law 1204 = .ok (.iconst 3, 1) := zrD zrw_cL_law_1173 (i := 31) (by decide +kernel) rfl
def zrk_cL_law_1205 : ByteArray := .mk #[96, 46, 182, 0, 162, 87, 44, 42, 29, 4, 96, 46, 42, 29, 5, 96, 46, 42, 29, 6, 96, 46, 182, 0, 165, 87, 167, 0, 210, 43, 42, 29]
theorem zrw_cL_law_1205 : zrW 1205 cL_law zrk_cL_law_1205 := by unfold zrW; decide +kernel
theorem dL_law_1205 : decode cL_law 1205 = .ok (.iadd, 1) := zrD zrw_cL_law_1205 (i := 0) (by decide +kernel) rfl
theorem dL_law_1206 : decode cL_law 1206 = .ok (.iaload, 1) := zrD zrw_cL_law_1205 (i := 1) (by decide +kernel) rfl
theorem dL_law_1207 : decode cL_law 1207 = .ok (.invokevirtual 162, 3) := zrD zrw_cL_law_1205 (i := 2) (by decide +kernel) rfl
theorem dL_law_1210 : decode cL_law 1210 = .ok (.pop, 1) := zrD zrw_cL_law_1205 (i := 5) (by decide +kernel) rfl
theorem dL_law_1211 : decode cL_law 1211 = .ok (.aload_n 2, 1) := zrD zrw_cL_law_1205 (i := 6) (by decide +kernel) rfl
theorem dL_law_1212 : decode cL_law 1212 = .ok (.aload_n 0, 1) := zrD zrw_cL_law_1205 (i := 7) (by decide +kernel) rfl
theorem dL_law_1213 : decode cL_law 1213 = .ok (.iload_n 3, 1) := zrD zrw_cL_law_1205 (i := 8) (by decide +kernel) rfl
theorem dL_law_1214 : decode cL_law 1214 = .ok (.iconst 1, 1) := zrD zrw_cL_law_1205 (i := 9) (by decide +kernel) rfl
theorem dL_law_1215 : decode cL_law 1215 = .ok (.iadd, 1) := zrD zrw_cL_law_1205 (i := 10) (by decide +kernel) rfl
theorem dL_law_1216 : decode cL_law 1216 = .ok (.iaload, 1) := zrD zrw_cL_law_1205 (i := 11) (by decide +kernel) rfl
theorem dL_law_1217 : decode cL_law 1217 = .ok (.aload_n 0, 1) := zrD zrw_cL_law_1205 (i := 12) (by decide +kernel) rfl
theorem dL_law_1218 : decode cL_law 1218 = .ok (.iload_n 3, 1) := zrD zrw_cL_law_1205 (i := 13) (by decide +kernel) rfl
theorem dL_law_1219 : decode cL_law 1219 = .ok (.iconst 2, 1) := zrD zrw_cL_law_1205 (i := 14) (by decide +kernel) rfl
theorem dL_law_1220 : decode cL_law 1220 = .ok (.iadd, 1) := zrD zrw_cL_law_1205 (i := 15) (by decide +kernel) rfl
theorem dL_law_1221 : decode cL_law 1221 = .ok (.iaload, 1) := zrD zrw_cL_law_1205 (i := 16) (by decide +kernel) rfl
theorem dL_law_1222 : decode cL_law 1222 = .ok (.aload_n 0, 1) := zrD zrw_cL_law_1205 (i := 17) (by decide +kernel) rfl
theorem dL_law_1223 : decode cL_law 1223 = .ok (.iload_n 3, 1) := zrD zrw_cL_law_1205 (i := 18) (by decide +kernel) rfl
theorem dL_law_1224 : decode cL_law 1224 = .ok (.iconst 3, 1) := zrD zrw_cL_law_1205 (i := 19) (by decide +kernel) rfl
theorem dL_law_1225 : decode cL_law 1225 = .ok (.iadd, 1) := zrD zrw_cL_law_1205 (i := 20) (by decide +kernel) rfl
theorem dL_law_1226 : decode cL_law 1226 = .ok (.iaload, 1) := zrD zrw_cL_law_1205 (i := 21) (by decide +kernel) rfl
theorem dL_law_1227 : decode cL_law 1227 = .ok (.invokevirtual 165, 3) := zrD zrw_cL_law_1205 (i := 22) (by decide +kernel) rfl
theorem dL_law_1230 : decode cL_law 1230 = .ok (.pop, 1) := zrD zrw_cL_law_1205 (i := 25) (by decide +kernel) rfl
theorem dL_law_1231 : decode cL_law 1231 = .ok (.goto 210, 3) := zrD zrw_cL_law_1205 (i := 26) (by decide +kernel) rfl
theorem dL_law_1234 : decode cL_law 1234 = .ok (.aload_n 1, 1) := zrD zrw_cL_law_1205 (i := 29) (by decide +kernel) rfl
theorem dL_law_1235 : decode cL_law 1235 = .ok (.aload_n 0, 1) := zrD zrw_cL_law_1205 (i := 30) (by decide +kernel) rfl
theorem dL_law_1236 : decode cL_law 1236 = .ok (.iload_n 3, 1) := zrD zrw_cL_law_1205 (i := 31) (by decide +kernel) rfl
def zrk_cL_law_1237 : ByteArray := .mk #[4, 96, 46, 42, 29, 5, 96, 46, 42, 29, 6, 96, 46, 42, 29, 7, 96, 46, 153, 0, 7, 4, 167, 0, 4, 3, 182, 0, 166, 87, 44, 42]
theorem zrw_cL_law_1237 : zrW 1237 cL_law zrk_cL_law_1237 := by unfold zrW; decide +kernel
theorem dL_law_1237 : decode cL_law 1237 = .ok (.iconst 1, 1) := zrD zrw_cL_law_1237 (i := 0) (by decide +kernel) rfl
theorem dL_law_1238 : decode cL_law 1238 = .ok (.iadd, 1) := zrD zrw_cL_law_1237 (i := 1) (by decide +kernel) rfl
theorem dL_law_1239 : decode cL_law 1239 = .ok (.iaload, 1) := zrD zrw_cL_law_1237 (i := 2) (by decide +kernel) rfl
theorem dL_law_1240 : decode cL_law 1240 = .ok (.aload_n 0, 1) := zrD zrw_cL_law_1237 (i := 3) (by decide +kernel) rfl
theorem dL_law_1241 : decode cL_law 1241 = .ok (.iload_n 3, 1) := zrD zrw_cL_law_1237 (i := 4) (by decide +kernel) rfl
theorem dL_law_1242 : decode cL_law 1242 = .ok (.iconst 2, 1) := zrD zrw_cL_law_1237 (i := 5) (by decide +kernel) rfl
theorem dL_law_1243 : decode cL_law 1243 = .ok (.iadd, 1) := zrD zrw_cL_law_1237 (i := 6) (by decide +kernel) rfl
theorem dL_law_1244 : decode cL_law 1244 = .ok (.iaload, 1) := zrD zrw_cL_law_1237 (i := 7) (by decide +kernel) rfl
theorem dL_law_1245 : decode cL_law 1245 = .ok (.aload_n 0, 1) := zrD zrw_cL_law_1237 (i := 8) (by decide +kernel) rfl
theorem dL_law_1246 : decode cL_law 1246 = .ok (.iload_n 3, 1) := zrD zrw_cL_law_1237 (i := 9) (by decide +kernel) rfl
theorem dL_law_1247 : decode cL_law 1247 = .ok (.iconst 3, 1) := zrD zrw_cL_law_1237 (i := 10) (by decide +kernel) rfl
theorem dL_law_1248 : decode cL_law 1248 = .ok (.iadd, 1) := zrD zrw_cL_law_1237 (i := 11) (by decide +kernel) rfl
theorem dL_law_1249 : decode cL_law 1249 = .ok (.iaload, 1) := zrD zrw_cL_law_1237 (i := 12) (by decide +kernel) rfl
theorem dL_law_1250 : decode cL_law 1250 = .ok (.aload_n 0, 1) := zrD zrw_cL_law_1237 (i := 13) (by decide +kernel) rfl
theorem dL_law_1251 : decode cL_law 1251 = .ok (.iload_n 3, 1) := zrD zrw_cL_law_1237 (i := 14) (by decide +kernel) rfl
theorem dL_law_1252 : decode cL_law 1252 = .ok (.iconst 4, 1) := zrD zrw_cL_law_1237 (i := 15) (by decide +kernel) rfl
theorem dL_law_1253 : decode cL_law 1253 = .ok (.iadd, 1) := zrD zrw_cL_law_1237 (i := 16) (by decide +kernel) rfl
theorem dL_law_1254 : decode cL_law 1254 = .ok (.iaload, 1) := zrD zrw_cL_law_1237 (i := 17) (by decide +kernel) rfl
theorem dL_law_1255 : decode cL_law 1255 = .ok (.ifCond .eq 7, 3) := zrD zrw_cL_law_1237 (i := 18) (by decide +kernel) rfl
theorem dL_law_1258 : decode cL_law 1258 = .ok (.iconst 1, 1) := zrD zrw_cL_law_1237 (i := 21) (by decide +kernel) rfl
theorem dL_law_1259 : decode cL_law 1259 = .ok (.goto 4, 3) := zrD zrw_cL_law_1237 (i := 22) (by decide +kernel) rfl
theorem dL_law_1262 : decode cL_law 1262 = .ok (.iconst 0, 1) := zrD zrw_cL_law_1237 (i := 25) (by decide +kernel) rfl
theorem dL_law_1263 : decode cL_law 1263 = .ok (.invokevirtual 166, 3) := zrD zrw_cL_law_1237 (i := 26) (by decide +kernel) rfl
theorem dL_law_1266 : decode cL_law 1266 = .ok (.pop, 1) := zrD zrw_cL_law_1237 (i := 29) (by decide +kernel) rfl
theorem dL_law_1267 : decode cL_law 1267 = .ok (.aload_n 2, 1) := zrD zrw_cL_law_1237 (i := 30) (by decide +kernel) rfl
theorem dL_law_1268 : decode cL_law 1268 = .ok (.aload_n 0, 1) := zrD zrw_cL_law_1237 (i := 31) (by decide +kernel) rfl
def zrk_cL_law_1269 : ByteArray := .mk #[29, 4, 96, 46, 42, 29, 5, 96, 46, 42, 29, 6, 96, 46, 42, 29, 7, 96, 46, 153, 0, 7, 4, 167, 0, 4, 3, 182, 0, 170, 87]
theorem zrw_cL_law_1269 : zrW 1269 cL_law zrk_cL_law_1269 := by unfold zrW; decide +kernel
theorem dL_law_1269 : decode cL_law 1269 = .ok (.iload_n 3, 1) := zrD zrw_cL_law_1269 (i := 0) (by decide +kernel) rfl
theorem dL_law_1270 : decode cL_law 1270 = .ok (.iconst 1, 1) := zrD zrw_cL_law_1269 (i := 1) (by decide +kernel) rfl
theorem dL_law_1271 : decode cL_law 1271 = .ok (.iadd, 1) := zrD zrw_cL_law_1269 (i := 2) (by decide +kernel) rfl
theorem dL_law_1272 : decode cL_law 1272 = .ok (.iaload, 1) := zrD zrw_cL_law_1269 (i := 3) (by decide +kernel) rfl
theorem dL_law_1273 : decode cL_law 1273 = .ok (.aload_n 0, 1) := zrD zrw_cL_law_1269 (i := 4) (by decide +kernel) rfl
theorem dL_law_1274 : decode cL_law 1274 = .ok (.iload_n 3, 1) := zrD zrw_cL_law_1269 (i := 5) (by decide +kernel) rfl
theorem dL_law_1275 : decode cL_law 1275 = .ok (.iconst 2, 1) := zrD zrw_cL_law_1269 (i := 6) (by decide +kernel) rfl
theorem dL_law_1276 : decode cL_law 1276 = .ok (.iadd, 1) := zrD zrw_cL_law_1269 (i := 7) (by decide +kernel) rfl
theorem dL_law_1277 : decode cL_law 1277 = .ok (.iaload, 1) := zrD zrw_cL_law_1269 (i := 8) (by decide +kernel) rfl
theorem dL_law_1278 : decode cL_law 1278 = .ok (.aload_n 0, 1) := zrD zrw_cL_law_1269 (i := 9) (by decide +kernel) rfl
theorem dL_law_1279 : decode cL_law 1279 = .ok (.iload_n 3, 1) := zrD zrw_cL_law_1269 (i := 10) (by decide +kernel) rfl
theorem dL_law_1280 : decode cL_law 1280 = .ok (.iconst 3, 1) := zrD zrw_cL_law_1269 (i := 11) (by decide +kernel) rfl
theorem dL_law_1281 : decode cL_law 1281 = .ok (.iadd, 1) := zrD zrw_cL_law_1269 (i := 12) (by decide +kernel) rfl
theorem dL_law_1282 : decode cL_law 1282 = .ok (.iaload, 1) := zrD zrw_cL_law_1269 (i := 13) (by decide +kernel) rfl
theorem dL_law_1283 : decode cL_law 1283 = .ok (.aload_n 0, 1) := zrD zrw_cL_law_1269 (i := 14) (by decide +kernel) rfl
theorem dL_law_1284 : decode cL_law 1284 = .ok (.iload_n 3, 1) := zrD zrw_cL_law_1269 (i := 15) (by decide +kernel) rfl
theorem dL_law_1285 : decode cL_law 1285 = .ok (.iconst 4, 1) := zrD zrw_cL_law_1269 (i := 16) (by decide +kernel) rfl
theorem dL_law_1286 : decode cL_law 1286 = .ok (.iadd, 1) := zrD zrw_cL_law_1269 (i := 17) (by decide +kernel) rfl
theorem dL_law_1287 : decode cL_law 1287 = .ok (.iaload, 1) := zrD zrw_cL_law_1269 (i := 18) (by decide +kernel) rfl
theorem dL_law_1288 : decode cL_law 1288 = .ok (.ifCond .eq 7, 3) := zrD zrw_cL_law_1269 (i := 19) (by decide +kernel) rfl
theorem dL_law_1291 : decode cL_law 1291 = .ok (.iconst 1, 1) := zrD zrw_cL_law_1269 (i := 22) (by decide +kernel) rfl
theorem dL_law_1292 : decode cL_law 1292 = .ok (.goto 4, 3) := zrD zrw_cL_law_1269 (i := 23) (by decide +kernel) rfl
theorem dL_law_1295 : decode cL_law 1295 = .ok (.iconst 0, 1) := zrD zrw_cL_law_1269 (i := 26) (by decide +kernel) rfl
theorem dL_law_1296 : decode cL_law 1296 = .ok (.invokevirtual 170, 3) := zrD zrw_cL_law_1269 (i := 27) (by decide +kernel) rfl
theorem dL_law_1299 : decode cL_law 1299 = .ok (.pop, 1) := zrD zrw_cL_law_1269 (i := 30) (by decide +kernel) rfl
def zrk_cL_law_1300 : ByteArray := .mk #[167, 0, 141, 43, 182, 0, 171, 87, 44, 182, 0, 174, 87, 167, 0, 128, 43, 42, 29, 4, 96, 46, 42, 29, 5, 96, 46, 182, 0, 175, 87, 44]
theorem zrw_cL_law_1300 : zrW 1300 cL_law zrk_cL_law_1300 := by unfold zrW; decide +kernel
theorem dL_law_1300 : decode cL_law 1300 = .ok (.goto 141, 3) := zrD zrw_cL_law_1300 (i := 0) (by decide +kernel) rfl
theorem dL_law_1303 : decode cL_law 1303 = .ok (.aload_n 1, 1) := zrD zrw_cL_law_1300 (i := 3) (by decide +kernel) rfl
theorem dL_law_1304 : decode cL_law 1304 = .ok (.invokevirtual 171, 3) := zrD zrw_cL_law_1300 (i := 4) (by decide +kernel) rfl
theorem dL_law_1307 : decode cL_law 1307 = .ok (.pop, 1) := zrD zrw_cL_law_1300 (i := 7) (by decide +kernel) rfl
theorem dL_law_1308 : decode cL_law 1308 = .ok (.aload_n 2, 1) := zrD zrw_cL_law_1300 (i := 8) (by decide +kernel) rfl
theorem dL_law_1309 : decode cL_law 1309 = .ok (.invokevirtual 174, 3) := zrD zrw_cL_law_1300 (i := 9) (by decide +kernel) rfl
theorem dL_law_1312 : decode cL_law 1312 = .ok (.pop, 1) := zrD zrw_cL_law_1300 (i := 12) (by decide +kernel) rfl
theorem dL_law_1313 : decode cL_law 1313 = .ok (.goto 128, 3) := zrD zrw_cL_law_1300 (i := 13) (by decide +kernel) rfl
theorem dL_law_1316 : decode cL_law 1316 = .ok (.aload_n 1, 1) := zrD zrw_cL_law_1300 (i := 16) (by decide +kernel) rfl
theorem dL_law_1317 : decode cL_law 1317 = .ok (.aload_n 0, 1) := zrD zrw_cL_law_1300 (i := 17) (by decide +kernel) rfl
theorem dL_law_1318 : decode cL_law 1318 = .ok (.iload_n 3, 1) := zrD zrw_cL_law_1300 (i := 18) (by decide +kernel) rfl
theorem dL_law_1319 : decode cL_law 1319 = .ok (.iconst 1, 1) := zrD zrw_cL_law_1300 (i := 19) (by decide +kernel) rfl
theorem dL_law_1320 : decode cL_law 1320 = .ok (.iadd, 1) := zrD zrw_cL_law_1300 (i := 20) (by decide +kernel) rfl
theorem dL_law_1321 : decode cL_law 1321 = .ok (.iaload, 1) := zrD zrw_cL_law_1300 (i := 21) (by decide +kernel) rfl
theorem dL_law_1322 : decode cL_law 1322 = .ok (.aload_n 0, 1) := zrD zrw_cL_law_1300 (i := 22) (by decide +kernel) rfl
theorem dL_law_1323 : decode cL_law 1323 = .ok (.iload_n 3, 1) := zrD zrw_cL_law_1300 (i := 23) (by decide +kernel) rfl
theorem dL_law_1324 : decode cL_law 1324 = .ok (.iconst 2, 1) := zrD zrw_cL_law_1300 (i := 24) (by decide +kernel) rfl
theorem dL_law_1325 : decode cL_law 1325 = .ok (.iadd, 1) := zrD zrw_cL_law_1300 (i := 25) (by decide +kernel) rfl
theorem dL_law_1326 : decode cL_law 1326 = .ok (.iaload, 1) := zrD zrw_cL_law_1300 (i := 26) (by decide +kernel) rfl
theorem dL_law_1327 : decode cL_law 1327 = .ok (.invokevirtual 175, 3) := zrD zrw_cL_law_1300 (i := 27) (by decide +kernel) rfl
theorem dL_law_1330 : decode cL_law 1330 = .ok (.pop, 1) := zrD zrw_cL_law_1300 (i := 30) (by decide +kernel) rfl
theorem dL_law_1331 : decode cL_law 1331 = .ok (.aload_n 2, 1) := zrD zrw_cL_law_1300 (i := 31) (by decide +kernel) rfl
def zrk_cL_law_1332 : ByteArray := .mk #[42, 29, 4, 96, 46, 42, 29, 5, 96, 46, 182, 0, 178, 87, 167, 0, 95, 43, 42, 29, 4, 96, 46, 182, 0, 179, 87, 44, 42, 29, 4, 96]
theorem zrw_cL_law_1332 : zrW 1332 cL_law zrk_cL_law_1332 := by unfold zrW; decide +kernel
theorem dL_law_1332 : decode cL_law 1332 = .ok (.aload_n 0, 1) := zrD zrw_cL_law_1332 (i := 0) (by decide +kernel) rfl
theorem dL_law_1333 : decode cL_law 1333 = .ok (.iload_n 3, 1) := zrD zrw_cL_law_1332 (i := 1) (by decide +kernel) rfl
theorem dL_law_1334 : decode cL_law 1334 = .ok (.iconst 1, 1) := zrD zrw_cL_law_1332 (i := 2) (by decide +kernel) rfl
theorem dL_law_1335 : decode cL_law 1335 = .ok (.iadd, 1) := zrD zrw_cL_law_1332 (i := 3) (by decide +kernel) rfl
theorem dL_law_1336 : decode cL_law 1336 = .ok (.iaload, 1) := zrD zrw_cL_law_1332 (i := 4) (by decide +kernel) rfl
theorem dL_law_1337 : decode cL_law 1337 = .ok (.aload_n 0, 1) := zrD zrw_cL_law_1332 (i := 5) (by decide +kernel) rfl
theorem dL_law_1338 : decode cL_law 1338 = .ok (.iload_n 3, 1) := zrD zrw_cL_law_1332 (i := 6) (by decide +kernel) rfl
theorem dL_law_1339 : decode cL_law 1339 = .ok (.iconst 2, 1) := zrD zrw_cL_law_1332 (i := 7) (by decide +kernel) rfl
theorem dL_law_1340 : decode cL_law 1340 = .ok (.iadd, 1) := zrD zrw_cL_law_1332 (i := 8) (by decide +kernel) rfl
theorem dL_law_1341 : decode cL_law 1341 = .ok (.iaload, 1) := zrD zrw_cL_law_1332 (i := 9) (by decide +kernel) rfl
theorem dL_law_1342 : decode cL_law 1342 = .ok (.invokevirtual 178, 3) := zrD zrw_cL_law_1332 (i := 10) (by decide +kernel) rfl
theorem dL_law_1345 : decode cL_law 1345 = .ok (.pop, 1) := zrD zrw_cL_law_1332 (i := 13) (by decide +kernel) rfl
theorem dL_law_1346 : decode cL_law 1346 = .ok (.goto 95, 3) := zrD zrw_cL_law_1332 (i := 14) (by decide +kernel) rfl
theorem dL_law_1349 : decode cL_law 1349 = .ok (.aload_n 1, 1) := zrD zrw_cL_law_1332 (i := 17) (by decide +kernel) rfl
theorem dL_law_1350 : decode cL_law 1350 = .ok (.aload_n 0, 1) := zrD zrw_cL_law_1332 (i := 18) (by decide +kernel) rfl
theorem dL_law_1351 : decode cL_law 1351 = .ok (.iload_n 3, 1) := zrD zrw_cL_law_1332 (i := 19) (by decide +kernel) rfl
theorem dL_law_1352 : decode cL_law 1352 = .ok (.iconst 1, 1) := zrD zrw_cL_law_1332 (i := 20) (by decide +kernel) rfl
theorem dL_law_1353 : decode cL_law 1353 = .ok (.iadd, 1) := zrD zrw_cL_law_1332 (i := 21) (by decide +kernel) rfl
theorem dL_law_1354 : decode cL_law 1354 = .ok (.iaload, 1) := zrD zrw_cL_law_1332 (i := 22) (by decide +kernel) rfl
theorem dL_law_1355 : decode cL_law 1355 = .ok (.invokevirtual 179, 3) := zrD zrw_cL_law_1332 (i := 23) (by decide +kernel) rfl
theorem dL_law_1358 : decode cL_law 1358 = .ok (.pop, 1) := zrD zrw_cL_law_1332 (i := 26) (by decide +kernel) rfl
theorem dL_law_1359 : decode cL_law 1359 = .ok (.aload_n 2, 1) := zrD zrw_cL_law_1332 (i := 27) (by decide +kernel) rfl
theorem dL_law_1360 : decode cL_law 1360 = .ok (.aload_n 0, 1) := zrD zrw_cL_law_1332 (i := 28) (by decide +kernel) rfl
theorem dL_law_1361 : decode cL_law 1361 = .ok (.iload_n 3, 1) := zrD zrw_cL_law_1332 (i := 29) (by decide +kernel) rfl
theorem dL_law_1362 : decode cL_law 1362 = .ok (.iconst 1, 1) := zrD zrw_cL_law_1332 (i := 30) (by decide +kernel) rfl
theorem dL_law_1363 : decode cL_law 1363 = .ok (.iadd, 1) := zrD zrw_cL_law_1332 (i := 31) (by decide +kernel) rfl
def zrk_cL_law_1364 : ByteArray := .mk #[46, 182, 0, 182, 87, 167, 0, 72, 43, 42, 29, 4, 96, 46, 182, 0, 183, 87, 44, 42, 29, 4, 96, 46, 182, 0, 186, 87, 167, 0, 49, 43]
theorem zrw_cL_law_1364 : zrW 1364 cL_law zrk_cL_law_1364 := by unfold zrW; decide +kernel
theorem dL_law_1364 : decode cL_law 1364 = .ok (.iaload, 1) := zrD zrw_cL_law_1364 (i := 0) (by decide +kernel) rfl
theorem dL_law_1365 : decode cL_law 1365 = .ok (.invokevirtual 182, 3) := zrD zrw_cL_law_1364 (i := 1) (by decide +kernel) rfl
theorem dL_law_1368 : decode cL_law 1368 = .ok (.pop, 1) := zrD zrw_cL_law_1364 (i := 4) (by decide +kernel) rfl
theorem dL_law_1369 : decode cL_law 1369 = .ok (.goto 72, 3) := zrD zrw_cL_law_1364 (i := 5) (by decide +kernel) rfl
theorem dL_law_1372 : decode cL_law 1372 = .ok (.aload_n 1, 1) := zrD zrw_cL_law_1364 (i := 8) (by decide +kernel) rfl
theorem dL_law_1373 : decode cL_law 1373 = .ok (.aload_n 0, 1) := zrD zrw_cL_law_1364 (i := 9) (by decide +kernel) rfl
theorem dL_law_1374 : decode cL_law 1374 = .ok (.iload_n 3, 1) := zrD zrw_cL_law_1364 (i := 10) (by decide +kernel) rfl
theorem dL_law_1375 : decode cL_law 1375 = .ok (.iconst 1, 1) := zrD zrw_cL_law_1364 (i := 11) (by decide +kernel) rfl
theorem dL_law_1376 : decode cL_law 1376 = .ok (.iadd, 1) := zrD zrw_cL_law_1364 (i := 12) (by decide +kernel) rfl
theorem dL_law_1377 : decode cL_law 1377 = .ok (.iaload, 1) := zrD zrw_cL_law_1364 (i := 13) (by decide +kernel) rfl
theorem dL_law_1378 : decode cL_law 1378 = .ok (.invokevirtual 183, 3) := zrD zrw_cL_law_1364 (i := 14) (by decide +kernel) rfl
theorem dL_law_1381 : decode cL_law 1381 = .ok (.pop, 1) := zrD zrw_cL_law_1364 (i := 17) (by decide +kernel) rfl
theorem dL_law_1382 : decode cL_law 1382 = .ok (.aload_n 2, 1) := zrD zrw_cL_law_1364 (i := 18) (by decide +kernel) rfl
theorem dL_law_1383 : decode cL_law 1383 = .ok (.aload_n 0, 1) := zrD zrw_cL_law_1364 (i := 19) (by decide +kernel) rfl
theorem dL_law_1384 : decode cL_law 1384 = .ok (.iload_n 3, 1) := zrD zrw_cL_law_1364 (i := 20) (by decide +kernel) rfl
theorem dL_law_1385 : decode cL_law 1385 = .ok (.iconst 1, 1) := zrD zrw_cL_law_1364 (i := 21) (by decide +kernel) rfl
theorem dL_law_1386 : decode cL_law 1386 = .ok (.iadd, 1) := zrD zrw_cL_law_1364 (i := 22) (by decide +kernel) rfl
theorem dL_law_1387 : decode cL_law 1387 = .ok (.iaload, 1) := zrD zrw_cL_law_1364 (i := 23) (by decide +kernel) rfl
theorem dL_law_1388 : decode cL_law 1388 = .ok (.invokevirtual 186, 3) := zrD zrw_cL_law_1364 (i := 24) (by decide +kernel) rfl
theorem dL_law_1391 : decode cL_law 1391 = .ok (.pop, 1) := zrD zrw_cL_law_1364 (i := 27) (by decide +kernel) rfl
theorem dL_law_1392 : decode cL_law 1392 = .ok (.goto 49, 3) := zrD zrw_cL_law_1364 (i := 28) (by decide +kernel) rfl
theorem dL_law_1395 : decode cL_law 1395 = .ok (.aload_n 1, 1) := zrD zrw_cL_law_1364 (i := 31) (by decide +kernel) rfl
def zrk_cL_law_1396 : ByteArray := .mk #[42, 29, 4, 96, 46, 182, 0, 187, 87, 44, 42, 29, 4, 96, 46, 182, 0, 190, 87, 167, 0, 26, 43, 42, 29, 4, 96, 46, 182, 0, 191, 44]
theorem zrw_cL_law_1396 : zrW 1396 cL_law zrk_cL_law_1396 := by unfold zrW; decide +kernel
theorem dL_law_1396 : decode cL_law 1396 = .ok (.aload_n 0, 1) := zrD zrw_cL_law_1396 (i := 0) (by decide +kernel) rfl
theorem dL_law_1397 : decode cL_law 1397 = .ok (.iload_n 3, 1) := zrD zrw_cL_law_1396 (i := 1) (by decide +kernel) rfl
theorem dL_law_1398 : decode cL_law 1398 = .ok (.iconst 1, 1) := zrD zrw_cL_law_1396 (i := 2) (by decide +kernel) rfl
theorem dL_law_1399 : decode cL_law 1399 = .ok (.iadd, 1) := zrD zrw_cL_law_1396 (i := 3) (by decide +kernel) rfl
theorem dL_law_1400 : decode cL_law 1400 = .ok (.iaload, 1) := zrD zrw_cL_law_1396 (i := 4) (by decide +kernel) rfl
theorem dL_law_1401 : decode cL_law 1401 = .ok (.invokevirtual 187, 3) := zrD zrw_cL_law_1396 (i := 5) (by decide +kernel) rfl
theorem dL_law_1404 : decode cL_law 1404 = .ok (.pop, 1) := zrD zrw_cL_law_1396 (i := 8) (by decide +kernel) rfl
theorem dL_law_1405 : decode cL_law 1405 = .ok (.aload_n 2, 1) := zrD zrw_cL_law_1396 (i := 9) (by decide +kernel) rfl
theorem dL_law_1406 : decode cL_law 1406 = .ok (.aload_n 0, 1) := zrD zrw_cL_law_1396 (i := 10) (by decide +kernel) rfl
theorem dL_law_1407 : decode cL_law 1407 = .ok (.iload_n 3, 1) := zrD zrw_cL_law_1396 (i := 11) (by decide +kernel) rfl
theorem dL_law_1408 : decode cL_law 1408 = .ok (.iconst 1, 1) := zrD zrw_cL_law_1396 (i := 12) (by decide +kernel) rfl
theorem dL_law_1409 : decode cL_law 1409 = .ok (.iadd, 1) := zrD zrw_cL_law_1396 (i := 13) (by decide +kernel) rfl
theorem dL_law_1410 : decode cL_law 1410 = .ok (.iaload, 1) := zrD zrw_cL_law_1396 (i := 14) (by decide +kernel) rfl
theorem dL_law_1411 : decode cL_law 1411 = .ok (.invokevirtual 190, 3) := zrD zrw_cL_law_1396 (i := 15) (by decide +kernel) rfl
theorem dL_law_1414 : decode cL_law 1414 = .ok (.pop, 1) := zrD zrw_cL_law_1396 (i := 18) (by decide +kernel) rfl
theorem dL_law_1415 : decode cL_law 1415 = .ok (.goto 26, 3) := zrD zrw_cL_law_1396 (i := 19) (by decide +kernel) rfl
theorem dL_law_1418 : decode cL_law 1418 = .ok (.aload_n 1, 1) := zrD zrw_cL_law_1396 (i := 22) (by decide +kernel) rfl
theorem dL_law_1419 : decode cL_law 1419 = .ok (.aload_n 0, 1) := zrD zrw_cL_law_1396 (i := 23) (by decide +kernel) rfl
theorem dL_law_1420 : decode cL_law 1420 = .ok (.iload_n 3, 1) := zrD zrw_cL_law_1396 (i := 24) (by decide +kernel) rfl
theorem dL_law_1421 : decode cL_law 1421 = .ok (.iconst 1, 1) := zrD zrw_cL_law_1396 (i := 25) (by decide +kernel) rfl
theorem dL_law_1422 : decode cL_law 1422 = .ok (.iadd, 1) := zrD zrw_cL_law_1396 (i := 26) (by decide +kernel) rfl
theorem dL_law_1423 : decode cL_law 1423 = .ok (.iaload, 1) := zrD zrw_cL_law_1396 (i := 27) (by decide +kernel) rfl
theorem dL_law_1424 : decode cL_law 1424 = .ok (.invokevirtual 191, 3) := zrD zrw_cL_law_1396 (i := 28) (by decide +kernel) rfl
theorem dL_law_1427 : decode cL_law 1427 = .ok (.aload_n 2, 1) := zrD zrw_cL_law_1396 (i := 31) (by decide +kernel) rfl
def zrk_cL_law_1428 : ByteArray := .mk #[42, 29, 4, 96, 46, 182, 0, 194, 159, 0, 5, 3, 172, 132, 3, 6, 167, 250, 110, 4, 172]
theorem zrw_cL_law_1428 : zrW 1428 cL_law zrk_cL_law_1428 := by unfold zrW; decide +kernel
theorem dL_law_1428 : decode cL_law 1428 = .ok (.aload_n 0, 1) := zrD zrw_cL_law_1428 (i := 0) (by decide +kernel) rfl
theorem dL_law_1429 : decode cL_law 1429 = .ok (.iload_n 3, 1) := zrD zrw_cL_law_1428 (i := 1) (by decide +kernel) rfl
theorem dL_law_1430 : decode cL_law 1430 = .ok (.iconst 1, 1) := zrD zrw_cL_law_1428 (i := 2) (by decide +kernel) rfl
theorem dL_law_1431 : decode cL_law 1431 = .ok (.iadd, 1) := zrD zrw_cL_law_1428 (i := 3) (by decide +kernel) rfl
theorem dL_law_1432 : decode cL_law 1432 = .ok (.iaload, 1) := zrD zrw_cL_law_1428 (i := 4) (by decide +kernel) rfl
theorem dL_law_1433 : decode cL_law 1433 = .ok (.invokevirtual 194, 3) := zrD zrw_cL_law_1428 (i := 5) (by decide +kernel) rfl
theorem dL_law_1436 : decode cL_law 1436 = .ok (.if_icmp .eq 5, 3) := zrD zrw_cL_law_1428 (i := 8) (by decide +kernel) rfl
theorem dL_law_1439 : decode cL_law 1439 = .ok (.iconst 0, 1) := zrD zrw_cL_law_1428 (i := 11) (by decide +kernel) rfl
theorem dL_law_1440 : decode cL_law 1440 = .ok (.ireturn, 1) := zrD zrw_cL_law_1428 (i := 12) (by decide +kernel) rfl
theorem dL_law_1441 : decode cL_law 1441 = .ok (.iinc 3 6, 3) := zrD zrw_cL_law_1428 (i := 13) (by decide +kernel) rfl
theorem dL_law_1444 : decode cL_law 1444 = .ok (.goto (-1426), 3) := zrD zrw_cL_law_1428 (i := 16) (by decide +kernel) rfl
theorem dL_law_1447 : decode cL_law 1447 = .ok (.iconst 1, 1) := zrD zrw_cL_law_1428 (i := 19) (by decide +kernel) rfl
theorem dL_law_1448 : decode cL_law 1448 = .ok (.ireturn, 1) := zrD zrw_cL_law_1428 (i := 20) (by decide +kernel) rfl
