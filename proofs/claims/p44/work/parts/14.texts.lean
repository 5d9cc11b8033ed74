set_option maxHeartbeats 4000000 in
set_option maxRecDepth 100000 in
theorem t_J0_coder_7d493 (l : Launch) (d : zD2) (L : List Nat) (kd : Nat → Nat) (σ : zS) (i : Nat) (hi : i < 2) : zMi l yJ0_coder_7d493 (Cond.code yJ0_coder_7d493 cJ0_coder_7d493 1 (some .byte) :: zWL) 0 [.ref (d.2.2 (100 + i))] d L kd σ (fun v σ2 => (v = F_J0_coder_7d493 i ∧ (v.toInt = 0)) ∧ σ = σ2) := by
  refine zMi.of (own := RJ0) (by decide +kernel) rfl rfl (Nat.le_of_ble_eq_true rfl) ?_
  intro p e s m args below meth c A Q X ret
  refine zg_lv (lv2 := [(0, .ref (d.2.2 (100 + i)))]) rfl ?_
  obtain ⟨R, hR⟩ : ∃ R, R = F_J0_coder_7d493 i := ⟨_, rfl⟩
  have E := hR
  unfold F_J0_coder_7d493 at E
  refine zg_scs X zs_J0_38 dJ0_coder_7d493_0 (fun v1 hv1 => ?_)
  replace E := zLet_s (zcst hv1 (by decide)) E
  refine zg_if_eq X 13 dJ0_coder_7d493_3 (by decide) (fun c2 => ?_) (fun c2 => ?_)
  · omega
  · skip
    replace E := zIf_f c2 E
    refine zg_aload_n X 0 rfl dJ0_coder_7d493_6 ?_
    refine zg_scod X hi zs_J0_15 dJ0_coder_7d493_7 (fun v3 hv3 => ?_)
    replace E := zLet_s (zcst hv3 (by decide)) E
    refine zg_goto X 14 dJ0_coder_7d493_10 (by decide) ?_
    exact ret _ _ _ _ dJ0_coder_7d493_14 (by rw [zb_z0 (v := v3) (by omega)]; rfl) ⟨⟨E.symm.trans hR, by omega⟩, rfl⟩
set_option maxHeartbeats 4000000 in
set_option maxRecDepth 100000 in
theorem t_J0_isLatin1_aae02 (l : Launch) (d : zD2) (L : List Nat) (kd : Nat → Nat) (σ : zS) (i : Nat) (hi : i < 2) : zMi l yJ0_isLatin1_aae02 (Cond.code yJ0_isLatin1_aae02 cJ0_isLatin1_aae02 1 (some .boolean) :: zWL) 0 [.ref (d.2.2 (100 + i))] d L kd σ (fun v σ2 => (v = F_J0_isLatin1_aae02 i ∧ (v.toInt = 1)) ∧ σ = σ2) := by
  refine zMi.of (own := RJ0) (by decide +kernel) rfl rfl (Nat.le_of_ble_eq_true rfl) ?_
  intro p e s m args below meth c A Q X ret
  refine zg_lv (lv2 := [(0, .ref (d.2.2 (100 + i)))]) rfl ?_
  obtain ⟨R, hR⟩ : ∃ R, R = F_J0_isLatin1_aae02 i := ⟨_, rfl⟩
  have E := hR
  unfold F_J0_isLatin1_aae02 at E
  refine zg_scs X zs_J0_38 dJ0_isLatin1_aae02_0 (fun v1 hv1 => ?_)
  replace E := zLet_s (zcst hv1 (by decide)) E
  refine zg_if_eq X 17 dJ0_isLatin1_aae02_3 (by decide) (fun c2 => ?_) (fun c2 => ?_)
  · omega
  · skip
    replace E := zIf_f c2 E
    refine zg_aload_n X 0 rfl dJ0_isLatin1_aae02_6 ?_
    refine zg_scod X hi zs_J0_15 dJ0_isLatin1_aae02_7 (fun v3 hv3 => ?_)
    replace E := zLet_s (zcst hv3 (by decide)) E
    refine zg_if_ne X 17 dJ0_isLatin1_aae02_10 (by decide) (fun c4 => ?_) (fun c4 => ?_)
    · omega
    · skip
      replace E := zIf_t c4 E
      refine zg_iconst X 1 dJ0_isLatin1_aae02_13 (by decide) (fun v5 _ hv5 => ?_)
      replace E := zLet_s (zcst hv5 (by decide)) E
      refine zg_goto X 18 dJ0_isLatin1_aae02_14 (by decide) ?_
      exact ret _ _ _ _ dJ0_isLatin1_aae02_18 (zb_bool ⟨by omega, by omega⟩) ⟨⟨E.symm.trans hR, by omega⟩, rfl⟩
set_option maxHeartbeats 4000000 in
set_option maxRecDepth 100000 in
theorem t_J0_length_8abf5 (l : Launch) (d : zD2) (L : List Nat) (kd : Nat → Nat) (σ : zS) (i : Nat) (hi : i < 2) : zMi l yJ0_length_8abf5 (Cond.code yJ0_length_8abf5 cJ0_length_8abf5 1 (some .int) :: zWL) 1 [.ref (d.2.2 (100 + i))] d L kd σ (fun v σ2 => (v = F_J0_length_8abf5 i ∧ (v.toInt = zlen.getD i 0)) ∧ σ = σ2) := by
  refine zMi.of (own := RJ0) (by decide +kernel) rfl rfl (Nat.le_of_ble_eq_true rfl) ?_
  intro p e s m args below meth c A Q X ret
  refine zg_lv (lv2 := [(0, .ref (d.2.2 (100 + i)))]) rfl ?_
  obtain ⟨R, hR⟩ : ∃ R, R = F_J0_length_8abf5 i := ⟨_, rfl⟩
  have E := hR
  unfold F_J0_length_8abf5 at E
  refine zg_aload_n X 0 rfl dJ0_length_8abf5_0 ?_
  refine zg_sval X hi zs_J0_9 dJ0_length_8abf5_1 ?_
  refine zg_slen X hi dJ0_length_8abf5_4 (fun v1 hv1 => ?_)
  have zv1 := zlen_lt hi
  replace E := zLet_s (Int32.toInt_inj.mp (hv1.trans (nI_toInt (zlen_lt hi)).symm)) E
  refine zg_aload_n X 0 rfl dJ0_length_8abf5_5 ?_
  refine zg_cKi (As := []) (st := [.int v1]) X hi rfl (t_J0_coder_7d493 l d L kd _ i hi ) mk_J0_335 mc_J0_coder_7d493 mz_J0 mi_J0_coder_7d493 ml_J0_coder_7d493 (na := 0) ⟨md_J0.1, md_J0.2, by decide +kernel⟩ rfl ⟨by decide, by decide⟩ (Nat.le_of_ble_eq_true rfl) dJ0_length_8abf5_6 (fun v2 σ2 hq => ?_)
  obtain ⟨⟨hF, hv2⟩, rfl⟩ := hq
  replace E := zLet_s hF E
  refine zg_ishrW X dJ0_length_8abf5_9 (fun v3 ev3 => ?_)
  replace E := zLet_s ev3 E
  exact ret _ _ _ _ dJ0_length_8abf5_10 rfl ⟨⟨E.symm.trans hR, by rw [ev3, zb_z0 (v := v2) (by omega), sb_shr0]; exact hv1⟩, rfl⟩
set_option maxHeartbeats 4000000 in
set_option maxRecDepth 100000 in
theorem t_J1_canEncode_9a6ad (l : Launch) (d : zD2) (L : List Nat) (kd : Nat → Nat) (σ : zS) (p1 : Int32) : zMi l yJ1_canEncode_9a6ad (Cond.code yJ1_canEncode_9a6ad cJ1_canEncode_9a6ad 1 (some .boolean) :: zWL) 0 [.int p1] d L kd σ (fun v σ2 => (v = F_J1_canEncode_9a6ad p1 ∧ ((0 ≤ v.toInt ∧ v.toInt ≤ 1))) ∧ σ = σ2) := by
  refine zMi.of (own := RJ1) (by decide +kernel) rfl rfl (Nat.le_of_ble_eq_true rfl) ?_
  intro p e s m args below meth c A Q X ret
  refine zg_lv (lv2 := [(0, .int p1)]) rfl ?_
  obtain ⟨R, hR⟩ : ∃ R, R = F_J1_canEncode_9a6ad p1 := ⟨_, rfl⟩
  have E := hR
  unfold F_J1_canEncode_9a6ad at E
  refine zg_iload_n X 0 rfl dJ1_canEncode_9a6ad_0 ?_
  refine zg_if_lt X 15 dJ1_canEncode_9a6ad_1 (by decide) (fun c1 => ?_) (fun c1 => ?_)
  · skip
    replace E := zIf_t c1 E
    refine zg_iconst X 0 dJ1_canEncode_9a6ad_15 (by decide) (fun v2 _ hv2 => ?_)
    replace E := zLet_s (zcst hv2 (by decide)) E
    exact ret _ _ _ _ dJ1_canEncode_9a6ad_16 (zb_bool ⟨by omega, by omega⟩) ⟨⟨E.symm.trans hR, ⟨by omega, by omega⟩⟩, rfl⟩
  · skip
    replace E := zIf_f (Int.not_lt.mpr c1) E
    refine zg_iload_n X 0 rfl dJ1_canEncode_9a6ad_4 ?_
    refine zg_sipush X 255 dJ1_canEncode_9a6ad_5 (by decide) (fun v3 _ hv3 => ?_)
    replace E := zLet_s (zcst hv3 (by decide)) E
    have zp1_z4 := zb_rng p1
    refine zg_icmp_gt X 15 dJ1_canEncode_9a6ad_8 (by decide) (fun c5 => ?_) (fun c5 => ?_)
    · skip
      replace E := zIf_t c5 E
      refine zg_iconst X 0 dJ1_canEncode_9a6ad_15 (by decide) (fun v6 _ hv6 => ?_)
      replace E := zLet_s (zcst hv6 (by decide)) E
      exact ret _ _ _ _ dJ1_canEncode_9a6ad_16 (zb_bool ⟨by omega, by omega⟩) ⟨⟨E.symm.trans hR, ⟨by omega, by omega⟩⟩, rfl⟩
    · skip
      replace E := zIf_f (Int.not_lt.mpr c5) E
      refine zg_iconst X 1 dJ1_canEncode_9a6ad_11 (by decide) (fun v7 _ hv7 => ?_)
      replace E := zLet_s (zcst hv7 (by decide)) E
      refine zg_goto X 16 dJ1_canEncode_9a6ad_12 (by decide) ?_
      exact ret _ _ _ _ dJ1_canEncode_9a6ad_16 (zb_bool ⟨by omega, by omega⟩) ⟨⟨E.symm.trans hR, ⟨by omega, by omega⟩⟩, rfl⟩
set_option maxHeartbeats 4000000 in
set_option maxRecDepth 100000 in
theorem t_J1_indexOfChar_4cfef (l : Launch) (d : zD2) (L : List Nat) (kd : Nat → Nat) (σ : zS) (i : Nat) (hi : i < 2) (p2 : Int32) (p3 : Int32) (p4 : Int32) (hq0 : 0 ≤ p3.toInt) (hq1 : p4.toInt ≤ zlen.getD i 0) : zMi l yJ1_indexOfChar_4cfef (Cond.code yJ1_indexOfChar_4cfef cJ1_indexOfChar_4cfef 6 (some .int) :: zWL) 0 [.ref (d.2.2 (102 + i)), .int p2, .int p3, .int p4] d L kd σ (fun v σ2 => (v = F_J1_indexOfChar_4cfef i p2 p3 p4 ∧ (True)) ∧ σ = σ2) := by
  refine zMi.of (own := RJ1) (by decide +kernel) rfl rfl (Nat.le_of_ble_eq_true rfl) ?_
  intro p e s m args below meth c A Q X ret
  refine zg_lv (lv2 := [(0, .ref (d.2.2 (102 + i))), (1, .int p2), (2, .int p3), (3, .int p4)]) rfl ?_
  have zl := zlen_lt hi
  obtain ⟨R, hR⟩ : ∃ R, R = F_J1_indexOfChar_4cfef i p2 p3 p4 := ⟨_, rfl⟩
  have E := hR
  unfold F_J1_indexOfChar_4cfef at E
  refine zg_iload_n X 1 rfl dJ1_indexOfChar_4cfef_0 ?_
  refine zg_i2b X dJ1_indexOfChar_4cfef_1 (fun v1 ev1 => ?_)
  replace E := zLet_s ev1 E
  refine zg_istore X [(4, .int v1), (0, .ref (d.2.2 (102 + i))), (1, .int p2), (2, .int p3), (3, .int p4)] dJ1_indexOfChar_4cfef_2 (by decide) rfl ?_
  refine zg_iload_n X 3 rfl dJ1_indexOfChar_4cfef_4 ?_
  refine zg_istore X [(5, .int p3), (4, .int v1), (0, .ref (d.2.2 (102 + i))), (1, .int p2), (2, .int p3), (3, .int p4)] dJ1_indexOfChar_4cfef_5 (by decide) rfl ?_
  have Lp3 : ∀ (nLp3 : Nat) (x2 : Int32), R = F_J1_indexOfChar_4cfef_7 v1 i p2 p3 p4  nLp3 x2 → 0 ≤ x2.toInt ∧ x2.toInt ≤ 2147483647 → (2147483647) - x2.toInt + 1 < (nLp3 : Int) → zG d L kd A 6 p l e (k2_rm 0 (100 * 0)) s m args below meth c Q σ 7 [(5, .int x2), (4, .int v1), (0, .ref (d.2.2 (102 + i))), (1, .int p2), (2, .int p3), (3, .int p4)] [] := by
    intro nLp3
    induction nLp3 with
    | zero => intro x2  E  hxLp3 hm ; exact absurd hm (by omega)
    | succ nLp3 ihLp3 =>
      intro x2  E  hxLp3 hmLp3 
      rw [F_J1_indexOfChar_4cfef_7] at E
      refine zg_iload X 0 rfl dJ1_indexOfChar_4cfef_7 ?_
      refine zg_iload_n X 5 rfl dJ1_indexOfChar_4cfef_9 ?_
      have zx2_z4 := zb_rng x2
      have zp4_z5 := zb_rng p4
      refine zg_icmp_ge X 31 dJ1_indexOfChar_4cfef_10 (by decide) (fun c6 => ?_) (fun c6 => ?_)
      · skip
        replace E := zIf_f (Int.not_lt.mpr c6) E
        refine zg_iconst X (-1) dJ1_indexOfChar_4cfef_31 (by decide) (fun v7 _ hv7 => ?_)
        replace E := zLet_s (zcst hv7 (by decide)) E
        exact ret _ _ _ _ dJ1_indexOfChar_4cfef_32 rfl ⟨⟨E.symm.trans hR, trivial⟩, rfl⟩
      · skip
        replace E := zIf_t c6 E
        refine zg_aload_n X 2 rfl dJ1_indexOfChar_4cfef_13 ?_
        refine zg_iload X 0 rfl dJ1_indexOfChar_4cfef_14 ?_
        refine zg_sby X hi (by omega) (by omega) dJ1_indexOfChar_4cfef_16 (fun v8 ev8 => ?_)
        replace E := zLet_s ev8 E
        refine zg_iload X 1 rfl dJ1_indexOfChar_4cfef_17 ?_
        refine zg_icmp_ne X 25 dJ1_indexOfChar_4cfef_19 (by decide) (fun c9 => ?_) (fun c9 => ?_)
        · skip
          replace E := zIf_f c9 E
          refine zg_iinc X 1 (fun v10 => [(5, .int v10), (4, .int v1), (0, .ref (d.2.2 (102 + i))), (1, .int p2), (2, .int p3), (3, .int p4)]) 0 dJ1_indexOfChar_4cfef_25 rfl (by decide) (by decide) (by omega) (by omega) (fun _ => rfl) (fun v10 ev10 hv10 => ?_)
          replace E := zLet_s (zinc ev10 (by decide)) E
          refine zg_goto X 7 dJ1_indexOfChar_4cfef_28 (by decide) ?_
          refine zg_sub [0, 1, 2, 3, 4, 5] rfl ?_
          exact ihLp3 v10   E  (by omega) (by omega) 
        · skip
          replace E := zIf_t c9 E
          refine zg_iload X 0 rfl dJ1_indexOfChar_4cfef_22 ?_
          exact ret _ _ _ _ dJ1_indexOfChar_4cfef_24 rfl ⟨⟨E.symm.trans hR, trivial⟩, rfl⟩
  have zrLp3 := zb_rng p3
  refine zg_sub [0, 1, 2, 3, 4, 5] rfl ?_
  exact Lp3 4294967299 p3   E  (by omega) (by omega) 
set_option maxHeartbeats 4000000 in
set_option maxRecDepth 100000 in
theorem t_J1_indexOf_4cfef (l : Launch) (d : zD2) (L : List Nat) (kd : Nat → Nat) (σ : zS) (i : Nat) (hi : i < 2) (p2 : Int32) (p3 : Int32) (p4 : Int32) : zMi l yJ1_indexOf_4cfef (Cond.code yJ1_indexOf_4cfef cJ1_indexOf_4cfef 4 (some .int) :: zWL) 1 [.ref (d.2.2 (102 + i)), .int p2, .int p3, .int p4] d L kd σ (fun v σ2 => (v = F_J1_indexOf_4cfef i p2 p3 p4 ∧ (True)) ∧ σ = σ2) := by
  refine zMi.of (own := RJ1) (by decide +kernel) rfl rfl (Nat.le_of_ble_eq_true rfl) ?_
  intro p e s m args below meth c A Q X ret
  refine zg_lv (lv2 := [(0, .ref (d.2.2 (102 + i))), (1, .int p2), (2, .int p3), (3, .int p4)]) rfl ?_
  obtain ⟨R, hR⟩ : ∃ R, R = F_J1_indexOf_4cfef i p2 p3 p4 := ⟨_, rfl⟩
  have E := hR
  unfold F_J1_indexOf_4cfef at E
  refine zg_iload_n X 1 rfl dJ1_indexOf_4cfef_0 ?_
  refine zg_cSi (As := [.int p2]) (st := []) X (t_J1_canEncode_9a6ad l d L kd _ p2 ) mk_J1_88 mc_J1_canEncode_9a6ad mz_J1 ms_J1_canEncode_9a6ad (na := 1) ⟨md_J1.1, md_J1.2, by decide +kernel⟩ rfl ⟨by decide, by decide⟩ (Nat.le_of_ble_eq_true rfl) dJ1_indexOf_4cfef_1 (fun v1 σ2 hq => ?_)
  obtain ⟨⟨hF, hv1⟩, rfl⟩ := hq
  replace E := zLet_s hF E
  refine zg_if_ne X 9 dJ1_indexOf_4cfef_4 (by decide) (fun c2 => ?_) (fun c2 => ?_)
  · skip
    replace E := zIf_f c2 E
    refine zg_iload_n X 2 rfl dJ1_indexOf_4cfef_9 ?_
    refine zg_iconst X 0 dJ1_indexOf_4cfef_10 (by decide) (fun v3 _ hv3 => ?_)
    replace E := zLet_s (zcst hv3 (by decide)) E
    refine zg_max X wj_J1_92 ⟨by decide, Nat.le_of_ble_eq_true rfl⟩ dJ1_indexOf_4cfef_11 (fun v4 hv4 => ?_)
    replace E := zLet_s (zmax_e hv4) E
    refine zg_istore_n X [(2, .int v4), (0, .ref (d.2.2 (102 + i))), (1, .int p2), (3, .int p4)] dJ1_indexOf_4cfef_14 (by decide) rfl ?_
    refine zg_iload_n X 3 rfl dJ1_indexOf_4cfef_15 ?_
    refine zg_aload_n X 1 rfl dJ1_indexOf_4cfef_16 ?_
    refine zg_slen X hi dJ1_indexOf_4cfef_17 (fun v5 hv5 => ?_)
    have zv5 := zlen_lt hi
    replace E := zLet_s (Int32.toInt_inj.mp (hv5.trans (nI_toInt (zlen_lt hi)).symm)) E
    refine zg_min X wj_J1_38 ⟨by decide, Nat.le_of_ble_eq_true rfl⟩ dJ1_indexOf_4cfef_18 (fun v6 hv6 => ?_)
    replace E := zLet_s (zmin_e hv6) E
    refine zg_istore_n X [(3, .int v6), (2, .int v4), (0, .ref (d.2.2 (102 + i))), (1, .int p2)] dJ1_indexOf_4cfef_21 (by decide) rfl ?_
    refine zg_iload_n X 1 rfl dJ1_indexOf_4cfef_22 ?_
    refine zg_iload_n X 0 rfl dJ1_indexOf_4cfef_23 ?_
    have zv4_z7 := zb_rng v4
    have zv6_z8 := zb_rng v6
    refine zg_icmp_lt X 29 dJ1_indexOf_4cfef_24 (by decide) (fun c9 => ?_) (fun c9 => ?_)
    · skip
      replace E := zIf_t c9 E
      refine zg_aload_n X 2 rfl dJ1_indexOf_4cfef_29 ?_
      refine zg_iload_n X 3 rfl dJ1_indexOf_4cfef_30 ?_
      refine zg_iload_n X 1 rfl dJ1_indexOf_4cfef_31 ?_
      refine zg_iload_n X 0 rfl dJ1_indexOf_4cfef_32 ?_
      refine zg_cSi (As := [.ref (d.2.2 (102 + i)), .int p2, .int v4, .int v6]) (st := []) X (t_J1_indexOfChar_4cfef l d L kd _ i hi p2 v4 v6 (by omega) (by omega)) mk_J1_95 mc_J1_indexOfChar_4cfef mz_J1 ms_J1_indexOfChar_4cfef (na := 4) ⟨md_J1.1, md_J1.2, by decide +kernel⟩ rfl ⟨by decide, by decide⟩ (Nat.le_of_ble_eq_true rfl) dJ1_indexOf_4cfef_33 (fun v10 σ2 hq => ?_)
      obtain ⟨⟨hF, hv10⟩, rfl⟩ := hq
      replace E := zLet_s hF E
      exact ret _ _ _ _ dJ1_indexOf_4cfef_36 rfl ⟨⟨E.symm.trans hR, trivial⟩, rfl⟩
    · skip
      replace E := zIf_f (Int.not_lt.mpr c9) E
      refine zg_iconst X (-1) dJ1_indexOf_4cfef_27 (by decide) (fun v11 _ hv11 => ?_)
      replace E := zLet_s (zcst hv11 (by decide)) E
      exact ret _ _ _ _ dJ1_indexOf_4cfef_28 rfl ⟨⟨E.symm.trans hR, trivial⟩, rfl⟩
  · skip
    replace E := zIf_t c2 E
    refine zg_iconst X (-1) dJ1_indexOf_4cfef_7 (by decide) (fun v12 _ hv12 => ?_)
    replace E := zLet_s (zcst hv12 (by decide)) E
    exact ret _ _ _ _ dJ1_indexOf_4cfef_8 rfl ⟨⟨E.symm.trans hR, trivial⟩, rfl⟩
set_option maxHeartbeats 4000000 in
set_option maxRecDepth 100000 in
theorem t_J0_indexOf_7cf53 (l : Launch) (d : zD2) (L : List Nat) (kd : Nat → Nat) (σ : zS) (i : Nat) (hi : i < 2) (p1 : Int32) (p2 : Int32) : zMi l yJ0_indexOf_7cf53 (Cond.code yJ0_indexOf_7cf53 cJ0_indexOf_7cf53 3 (some .int) :: zWL) 2 [.ref (d.2.2 (100 + i)), .int p1, .int p2] d L kd σ (fun v σ2 => (v = F_J0_indexOf_7cf53 i p1 p2 ∧ (True)) ∧ σ = σ2) := by
  refine zMi.of (own := RJ0) (by decide +kernel) rfl rfl (Nat.le_of_ble_eq_true rfl) ?_
  intro p e s m args below meth c A Q X ret
  refine zg_lv (lv2 := [(0, .ref (d.2.2 (100 + i))), (1, .int p1), (2, .int p2)]) rfl ?_
  obtain ⟨R, hR⟩ : ∃ R, R = F_J0_indexOf_7cf53 i p1 p2 := ⟨_, rfl⟩
  have E := hR
  unfold F_J0_indexOf_7cf53 at E
  refine zg_aload_n X 0 rfl dJ0_indexOf_7cf53_0 ?_
  refine zg_cKi (As := []) (st := []) X hi rfl (t_J0_isLatin1_aae02 l d L kd _ i hi ) mk_J0_492 mc_J0_isLatin1_aae02 mz_J0 mi_J0_isLatin1_aae02 ml_J0_isLatin1_aae02 (na := 0) ⟨md_J0.1, md_J0.2, by decide +kernel⟩ rfl ⟨by decide, by decide⟩ (Nat.le_of_ble_eq_true rfl) dJ0_indexOf_7cf53_1 (fun v1 σ2 hq => ?_)
  obtain ⟨⟨hF, hv1⟩, rfl⟩ := hq
  replace E := zLet_s hF E
  refine zg_if_eq X 23 dJ0_indexOf_7cf53_4 (by decide) (fun c2 => ?_) (fun c2 => ?_)
  · omega
  · skip
    replace E := zIf_f c2 E
    refine zg_aload_n X 0 rfl dJ0_indexOf_7cf53_7 ?_
    refine zg_sval X hi zs_J0_9 dJ0_indexOf_7cf53_8 ?_
    refine zg_iload_n X 1 rfl dJ0_indexOf_7cf53_11 ?_
    refine zg_iload_n X 2 rfl dJ0_indexOf_7cf53_12 ?_
    refine zg_aload_n X 0 rfl dJ0_indexOf_7cf53_13 ?_
    refine zg_cKi (As := []) (st := [.int p2, .int p1, .ref (d.2.2 (102 + i))]) X hi rfl (t_J0_length_8abf5 l d L kd _ i hi ) mk_J0_505 mc_J0_length_8abf5 mz_J0 mi_J0_length_8abf5 ml_J0_length_8abf5 (na := 0) ⟨md_J0.1, md_J0.2, by decide +kernel⟩ rfl ⟨by decide, by decide⟩ (Nat.le_of_ble_eq_true rfl) dJ0_indexOf_7cf53_14 (fun v3 σ2 hq => ?_)
    obtain ⟨⟨hF, hv3⟩, rfl⟩ := hq
    replace E := zLet_s hF E
    refine zg_cSi (As := [.ref (d.2.2 (102 + i)), .int p1, .int p2, .int v3]) (st := []) X (t_J1_indexOf_4cfef l d L kd _ i hi p1 p2 v3 ) mk_J0_637 mc_J1_indexOf_4cfef mz_J1 ms_J1_indexOf_4cfef (na := 4) ⟨md_J1.1, md_J1.2, by decide +kernel⟩ rfl ⟨by decide, by decide⟩ (Nat.le_of_ble_eq_true rfl) dJ0_indexOf_7cf53_17 (fun v4 σ2 hq => ?_)
    obtain ⟨⟨hF, hv4⟩, rfl⟩ := hq
    replace E := zLet_s hF E
    refine zg_goto X 36 dJ0_indexOf_7cf53_20 (by decide) ?_
    exact ret _ _ _ _ dJ0_indexOf_7cf53_36 rfl ⟨⟨E.symm.trans hR, trivial⟩, rfl⟩
set_option maxHeartbeats 4000000 in
set_option maxRecDepth 100000 in
theorem t_J0_indexOf_0f7a4 (l : Launch) (d : zD2) (L : List Nat) (kd : Nat → Nat) (σ : zS) (i : Nat) (hi : i < 2) (p1 : Int32) : zMi l yJ0_indexOf_0f7a4 (Cond.code yJ0_indexOf_0f7a4 cJ0_indexOf_0f7a4 2 (some .int) :: zWL) 3 [.ref (d.2.2 (100 + i)), .int p1] d L kd σ (fun v σ2 => (v = F_J0_indexOf_0f7a4 i p1 ∧ (True)) ∧ σ = σ2) := by
  refine zMi.of (own := RJ0) (by decide +kernel) rfl rfl (Nat.le_of_ble_eq_true rfl) ?_
  intro p e s m args below meth c A Q X ret
  refine zg_lv (lv2 := [(0, .ref (d.2.2 (100 + i))), (1, .int p1)]) rfl ?_
  obtain ⟨R, hR⟩ : ∃ R, R = F_J0_indexOf_0f7a4 i p1 := ⟨_, rfl⟩
  have E := hR
  unfold F_J0_indexOf_0f7a4 at E
  refine zg_aload_n X 0 rfl dJ0_indexOf_0f7a4_0 ?_
  refine zg_iload_n X 1 rfl dJ0_indexOf_0f7a4_1 ?_
  refine zg_iconst X 0 dJ0_indexOf_0f7a4_2 (by decide) (fun v1 _ hv1 => ?_)
  replace E := zLet_s (zcst hv1 (by decide)) E
  refine zg_cKi (As := [.int p1, .int v1]) (st := []) X hi rfl (t_J0_indexOf_7cf53 l d L kd _ i hi p1 v1 ) mk_J0_633 mc_J0_indexOf_7cf53 mz_J0 mi_J0_indexOf_7cf53 ml_J0_indexOf_7cf53 (na := 2) ⟨md_J0.1, md_J0.2, by decide +kernel⟩ rfl ⟨by decide, by decide⟩ (Nat.le_of_ble_eq_true rfl) dJ0_indexOf_0f7a4_3 (fun v2 σ2 hq => ?_)
  obtain ⟨⟨hF, hv2⟩, rfl⟩ := hq
  replace E := zLet_s hF E
  exact ret _ _ _ _ dJ0_indexOf_0f7a4_6 rfl ⟨⟨E.symm.trans hR, trivial⟩, rfl⟩
set_option maxHeartbeats 4000000 in
set_option maxRecDepth 100000 in
theorem t_J3_checkIndex_8e157 (l : Launch) (d : zD2) (L : List Nat) (kd : Nat → Nat) (σ : zS) (p1 : Int32) (p2 : Int32) (p3 : Value) (hp3 : p3.category = 1) (hq0 : 0 ≤ p1.toInt) (hq1 : p1.toInt < p2.toInt) : zMi l yJ3_checkIndex_8e157 (Cond.code yJ3_checkIndex_8e157 cJ3_checkIndex_8e157 3 (some .int) :: zWL) 0 [.int p1, .int p2, p3] d L kd σ (fun v σ2 => (v = F_J3_checkIndex_8e157 p1 p2 ∧ (True)) ∧ σ = σ2) := by
  refine zMi.of (own := RJ3) (by decide +kernel) rfl rfl (by have e1 : ∀ q : Int32, (Value.int q).category = 1 := fun _ => rfl; simp [lg_sl, hp3, e1]) ?_
  intro p e s m args below meth c A Q X ret
  refine zg_lv (lv2 := [(0, .int p1), (1, .int p2), (2, p3)]) rfl ?_
  obtain ⟨R, hR⟩ : ∃ R, R = F_J3_checkIndex_8e157 p1 p2 := ⟨_, rfl⟩
  have E := hR
  unfold F_J3_checkIndex_8e157 at E
  refine zg_iload_n X 0 rfl dJ3_checkIndex_8e157_0 ?_
  refine zg_if_lt X 9 dJ3_checkIndex_8e157_1 (by decide) (fun c1 => ?_) (fun c1 => ?_)
  · omega
  · skip
    replace E := zIf_f (Int.not_lt.mpr c1) E
    refine zg_iload_n X 0 rfl dJ3_checkIndex_8e157_4 ?_
    refine zg_iload_n X 1 rfl dJ3_checkIndex_8e157_5 ?_
    have zp1_z2 := zb_rng p1
    have zp2_z3 := zb_rng p2
    refine zg_icmp_lt X 16 dJ3_checkIndex_8e157_6 (by decide) (fun c4 => ?_) (fun c4 => ?_)
    · skip
      replace E := zIf_t c4 E
      refine zg_iload_n X 0 rfl dJ3_checkIndex_8e157_16 ?_
      exact ret _ _ _ _ dJ3_checkIndex_8e157_17 rfl ⟨⟨E.symm.trans hR, trivial⟩, rfl⟩
    · omega
set_option maxHeartbeats 4000000 in
set_option maxRecDepth 100000 in
theorem t_J0_checkIndex_df160 (l : Launch) (d : zD2) (L : List Nat) (kd : Nat → Nat) (σ : zS) (p1 : Int32) (p2 : Int32) (hq0 : 0 ≤ p1.toInt) (hq1 : p1.toInt < p2.toInt) : zMv l yJ0_checkIndex_df160 (Cond.code yJ0_checkIndex_df160 cJ0_checkIndex_df160 2 none :: zWL) 1 [.int p1, .int p2] d L kd σ (fun σ2 => σ = σ2) := by
  refine zMv.of (own := RJ0) (by decide +kernel) rfl rfl (Nat.le_of_ble_eq_true rfl) ?_
  intro p e s m args below meth c A Q X ret
  refine zg_lv (lv2 := [(0, .int p1), (1, .int p2)]) rfl ?_
  refine zg_iload_n X 0 rfl dJ0_checkIndex_df160_0 ?_
  refine zg_iload_n X 1 rfl dJ0_checkIndex_df160_1 ?_
  refine zg_sio X zs_J0_1053 dJ0_checkIndex_df160_2 (fun o1 => ?_)
  refine zg_cSi (As := [.int p1, .int p2, va_rf o1]) (st := []) X (t_J3_checkIndex_8e157 l d L kd _ p1 p2 (va_rf o1) (by cases o1 <;> rfl) (by omega) (by omega)) mk_J0_1059 mc_J3_checkIndex_8e157 mz_J3 ms_J3_checkIndex_8e157 (na := 3) ⟨md_J3.1, md_J3.2, by decide +kernel⟩ rfl ⟨by decide, by decide⟩ (Nat.le_of_ble_eq_true rfl) dJ0_checkIndex_df160_5 (fun v2 σ2 hq => ?_)
  obtain ⟨⟨hF, hv2⟩, rfl⟩ := hq
  refine zg_pop X dJ0_checkIndex_df160_8 rfl ?_
  exact ret _ _ _ dJ0_checkIndex_df160_9 rfl
set_option maxHeartbeats 4000000 in
set_option maxRecDepth 100000 in
theorem t_J1_charAt_3b067 (l : Launch) (d : zD2) (L : List Nat) (kd : Nat → Nat) (σ : zS) (i : Nat) (hi : i < 2) (p2 : Int32) (hq0 : 0 ≤ p2.toInt) (hq1 : p2.toInt < zlen.getD i 0) : zMi l yJ1_charAt_3b067 (Cond.code yJ1_charAt_3b067 cJ1_charAt_3b067 2 (some .char) :: zWL) 2 [.ref (d.2.2 (102 + i)), .int p2] d L kd σ (fun v σ2 => (v = F_J1_charAt_3b067 i p2 ∧ (narrow .char (.int v) = .int v)) ∧ σ = σ2) := by
  refine zMi.of (own := RJ1) (by decide +kernel) rfl rfl (Nat.le_of_ble_eq_true rfl) ?_
  intro p e s m args below meth c A Q X ret
  refine zg_lv (lv2 := [(0, .ref (d.2.2 (102 + i))), (1, .int p2)]) rfl ?_
  have zl := zlen_lt hi
  obtain ⟨R, hR⟩ : ∃ R, R = F_J1_charAt_3b067 i p2 := ⟨_, rfl⟩
  have E := hR
  unfold F_J1_charAt_3b067 at E
  refine zg_iload_n X 1 rfl dJ1_charAt_3b067_0 ?_
  refine zg_aload_n X 0 rfl dJ1_charAt_3b067_1 ?_
  refine zg_slen X hi dJ1_charAt_3b067_2 (fun v1 hv1 => ?_)
  have zv1 := zlen_lt hi
  replace E := zLet_s (Int32.toInt_inj.mp (hv1.trans (nI_toInt (zlen_lt hi)).symm)) E
  refine zg_cSv (As := [.int p2, .int v1]) (st := []) X (t_J0_checkIndex_df160 l d L kd _ p2 v1 (by omega) (by omega)) mk_J1_9 mc_J0_checkIndex_df160 mz_J0 ms_J0_checkIndex_df160 (na := 2) ⟨md_J0.1, md_J0.2, by decide +kernel⟩ rfl ⟨by decide, by decide⟩ (Nat.le_of_ble_eq_true rfl) dJ1_charAt_3b067_3 (fun σ2 hq => ?_)
  subst hq
  refine zg_aload_n X 0 rfl dJ1_charAt_3b067_6 ?_
  refine zg_iload_n X 1 rfl dJ1_charAt_3b067_7 ?_
  refine zg_sby X hi (by omega) (by omega) dJ1_charAt_3b067_8 (fun v2 ev2 => ?_)
  replace E := zLet_s ev2 E
  refine zg_sipush X 255 dJ1_charAt_3b067_9 (by decide) (fun v3 _ hv3 => ?_)
  replace E := zLet_s (zcst hv3 (by decide)) E
  refine zg_iandW X dJ1_charAt_3b067_12 (fun v4 ev4 => ?_)
  replace E := zLet_s ev4 E
  refine zg_i2c X dJ1_charAt_3b067_13 (fun v5 ev5 => ?_)
  replace E := zLet_s ev5 E
  exact ret _ _ _ _ dJ1_charAt_3b067_14 (by rw [ev5]; exact pk_nc _) ⟨⟨E.symm.trans hR, by rw [ev5]; exact pk_nc _⟩, rfl⟩
set_option maxHeartbeats 4000000 in
set_option maxRecDepth 100000 in
theorem t_J0_charAt_5068e (l : Launch) (d : zD2) (L : List Nat) (kd : Nat → Nat) (σ : zS) (i : Nat) (hi : i < 2) (p1 : Int32) (hq0 : 0 ≤ p1.toInt) (hq1 : p1.toInt < zlen.getD i 0) : zMi l yJ0_charAt_5068e (Cond.code yJ0_charAt_5068e cJ0_charAt_5068e 2 (some .char) :: zWL) 3 [.ref (d.2.2 (100 + i)), .int p1] d L kd σ (fun v σ2 => (v = F_J0_charAt_5068e i p1 ∧ (narrow .char (.int v) = .int v)) ∧ σ = σ2) := by
  refine zMi.of (own := RJ0) (by decide +kernel) rfl rfl (Nat.le_of_ble_eq_true rfl) ?_
  intro p e s m args below meth c A Q X ret
  refine zg_lv (lv2 := [(0, .ref (d.2.2 (100 + i))), (1, .int p1)]) rfl ?_
  obtain ⟨R, hR⟩ : ∃ R, R = F_J0_charAt_5068e i p1 := ⟨_, rfl⟩
  have E := hR
  unfold F_J0_charAt_5068e at E
  refine zg_aload_n X 0 rfl dJ0_charAt_5068e_0 ?_
  refine zg_cKi (As := []) (st := []) X hi rfl (t_J0_isLatin1_aae02 l d L kd _ i hi ) mk_J0_492 mc_J0_isLatin1_aae02 mz_J0 mi_J0_isLatin1_aae02 ml_J0_isLatin1_aae02 (na := 0) ⟨md_J0.1, md_J0.2, by decide +kernel⟩ rfl ⟨by decide, by decide⟩ (Nat.le_of_ble_eq_true rfl) dJ0_charAt_5068e_1 (fun v1 σ2 hq => ?_)
  obtain ⟨⟨hF, hv1⟩, rfl⟩ := hq
  replace E := zLet_s hF E
  refine zg_if_eq X 16 dJ0_charAt_5068e_4 (by decide) (fun c2 => ?_) (fun c2 => ?_)
  · omega
  · skip
    replace E := zIf_f c2 E
    refine zg_aload_n X 0 rfl dJ0_charAt_5068e_7 ?_
    refine zg_sval X hi zs_J0_9 dJ0_charAt_5068e_8 ?_
    refine zg_iload_n X 1 rfl dJ0_charAt_5068e_11 ?_
    refine zg_cSi (As := [.ref (d.2.2 (102 + i)), .int p1]) (st := []) X (t_J1_charAt_3b067 l d L kd _ i hi p1 (by omega) (by omega)) mk_J0_495 mc_J1_charAt_3b067 mz_J1 ms_J1_charAt_3b067 (na := 2) ⟨md_J1.1, md_J1.2, by decide +kernel⟩ rfl ⟨by decide, by decide⟩ (Nat.le_of_ble_eq_true rfl) dJ0_charAt_5068e_12 (fun v3 σ2 hq => ?_)
    obtain ⟨⟨hF, hv3⟩, rfl⟩ := hq
    replace E := zLet_s hF E
    exact ret _ _ _ _ dJ0_charAt_5068e_15 hv3 ⟨⟨E.symm.trans hR, hv3⟩, rfl⟩
