-- 13.class3
section
set_option maxHeartbeats 4000000 in
set_option maxRecDepth 100000 in
theorem t_X10_fewestDams (l : Launch) (d : zD2) (L : List Nat) (kd : Nat → Nat) (κ : Int) (σ : zS) (hI : zI κ 1 L kd σ) (a0 : Nat) (ha0 : zT L kd a0 10) (p1 : Int32) : zMi l yX10_fewestDams (Cond.code yX10_fewestDams cX10_fewestDams 5 (some .int) :: zWL) 4 [.ref a0, .int p1] d L kd σ (fun v σ2 => (v, σ2) = F_X10_fewestDams a0 p1 σ ∧ zSm [20, 21, 31] [] L kd σ σ2 ∧ (zI κ 1 L kd σ2)) := by
  refine zMi.of (own := RX10) (by decide +kernel) rfl rfl (Nat.le_of_ble_eq_true rfl) ?_
  intro p e s m args below meth c A Q X ret
  refine zg_lv (lv2 := [(0, .ref a0), (1, .int p1)]) rfl ?_
  obtain ⟨R, hR⟩ : ∃ R, R = F_X10_fewestDams a0 p1 σ := ⟨_, rfl⟩
  have E := hR
  unfold F_X10_fewestDams at E
  have hS : zSm [20, 21, 31] [] L kd σ σ := zSm.rf
  refine zg_aload_n X 0 rfl dX10_fewestDams_0 ?_
  refine fg_X10_70 X hI ha0 dX10_fewestDams_1 (fun v1 ev1 hv1 => ?_)
  replace E := zLet_s (zgr ev1) E
  refine fg_X10_175 X hI hv1 dX10_fewestDams_4 (fun v2 ev2 hv2 => ?_)
  replace E := zLet_s ev2 E
  refine zg_cSi (As := [.int v2]) (st := []) X (t_X10_bit l d L kd _ v2 ) mk_X10_216 mc_X10_bit mz_X10 ms_X10_bit (na := 1) ⟨md_X10.1, md_X10.2, by decide +kernel⟩ rfl ⟨by decide, by decide⟩ (Nat.le_of_ble_eq_true rfl) dX10_fewestDams_7 (fun v3 σ2 hq => ?_)
  obtain ⟨⟨hF, hv3⟩, rfl⟩ := hq
  replace E := zLet_s hF E
  have hbit := hv3 (by omega) (by omega)
  refine zg_iconst X 1 dX10_fewestDams_10 (by decide) (fun v4 _ hv4 => ?_)
  replace E := zLet_s (zcst hv4 (by decide)) E
  refine zg_isub X dX10_fewestDams_11 (by omega) (by omega) (fun v5 ev5 hv5 => ?_)
  replace E := zLet_s ev5 E
  refine zg_aload_n X 0 rfl dX10_fewestDams_12 ?_
  refine fg_X10_52 X hI ha0 dX10_fewestDams_13 (fun v6 ev6 hv6 => ?_)
  replace E := zLet_s (zgr ev6) E
  refine fg_X10_128 X hI hv6 dX10_fewestDams_16 (fun v7 ev7 _ => ?_)
  replace E := zLet_s ev7 E
  refine zg_iconst X 0 dX10_fewestDams_19 (by decide) (fun v8 _ hv8 => ?_)
  replace E := zLet_s (zcst hv8 (by decide)) E
  refine zg_cSi (As := [.int v8]) (st := [.int v7, .int v5]) X (t_X10_bit l d L kd _ v8 ) mk_X10_216 mc_X10_bit mz_X10 ms_X10_bit (na := 1) ⟨md_X10.1, md_X10.2, by decide +kernel⟩ rfl ⟨by decide, by decide⟩ (Nat.le_of_ble_eq_true rfl) dX10_fewestDams_20 (fun v9 σ2 hq => ?_)
  obtain ⟨⟨hF, hv9⟩, rfl⟩ := hq
  replace E := zLet_s hF E
  refine zg_iorW X dX10_fewestDams_23 (fun v10 ev10 => ?_)
  replace E := zLet_s ev10 E
  refine zg_iconst X (-1) dX10_fewestDams_24 (by decide) (fun v11 _ hv11 => ?_)
  replace E := zLet_s (zcst hv11 (by decide)) E
  refine zg_ixorW X dX10_fewestDams_25 (fun v12 ev12 => ?_)
  replace E := zLet_s ev12 E
  have hand := zb_and v5 v12 (by omega)
  refine zg_iandW X dX10_fewestDams_26 (fun v13 ev13 => ?_)
  replace E := zLet_s ev13 E
  rw [← ev13] at hand
  refine zg_istore_n X [(2, .int v13), (0, .ref a0), (1, .int p1)] dX10_fewestDams_27 (by decide) rfl ?_
  refine zg_iconst X (-1) dX10_fewestDams_28 (by decide) (fun v14 _ hv14 => ?_)
  replace E := zLet_s (zcst hv14 (by decide)) E
  refine zg_istore_n X [(3, .int v14), (2, .int v13), (0, .ref a0), (1, .int p1)] dX10_fewestDams_29 (by decide) rfl ?_
  refine zg_iconst X 0 dX10_fewestDams_30 (by decide) (fun v15 _ hv15 => ?_)
  replace E := zLet_s (zcst hv15 (by decide)) E
  refine zg_istore X [(4, .int v15), (3, .int v14), (2, .int v13), (0, .ref a0), (1, .int p1)] dX10_fewestDams_31 (by decide) rfl ?_
  have Lp18 : ∀ (nLp18 : Nat) (τ18 : zS) (x16 : Int32) (x17 : Int32), zI κ 1 L kd τ18 → zSm [20, 21, 31] [] L kd σ τ18 → R = F_X10_fewestDams_33 v13 a0 p1  nLp18 x16 x17 τ18 → 0 ≤ x16.toInt ∧ x16.toInt ≤ 4096 → (2147483647) - x16.toInt + 1 < (nLp18 : Int) → zG d L kd A 5 p l e (k2_rm 4 (100 * 4)) s m args below meth c Q τ18 33 [(4, .int x16), (3, .int x17), (2, .int v13), (0, .ref a0), (1, .int p1)] [] := by
    intro nLp18
    induction nLp18 with
    | zero => intro τ18 x16 x17 hI hS E  hxLp18 hm ; exact absurd hm (by omega)
    | succ nLp18 ihLp18 =>
      intro τ18 x16 x17 hI hS E  hxLp18 hmLp18 
      rw [F_X10_fewestDams_33] at E
      refine zg_iload X 0 rfl dX10_fewestDams_33 ?_
      refine zg_iload_n X 2 rfl dX10_fewestDams_35 ?_
      have zv13_z19 := zb_rng v13
      refine zg_icmp_gt X 104 dX10_fewestDams_36 (by decide) (fun c20 => ?_) (fun c20 => ?_)
      · skip
        replace E := zIf_t c20 E
        refine zg_iload_n X 1 rfl dX10_fewestDams_104 ?_
        exact ret _ _ _ _ dX10_fewestDams_105 rfl ⟨E.symm.trans hR, hS, hI⟩
      · skip
        replace E := zIf_f (Int.not_lt.mpr c20) E
        refine zg_iload X 0 rfl dX10_fewestDams_39 ?_
        refine zg_iload_n X 2 rfl dX10_fewestDams_41 ?_
        refine zg_iconst X (-1) dX10_fewestDams_42 (by decide) (fun v21 _ hv21 => ?_)
        replace E := zLet_s (zcst hv21 (by decide)) E
        refine zg_ixorW X dX10_fewestDams_43 (fun v22 ev22 => ?_)
        replace E := zLet_s ev22 E
        refine zg_iandW X dX10_fewestDams_44 (fun v23 ev23 => ?_)
        replace E := zLet_s ev23 E
        refine zg_if_ne X 98 dX10_fewestDams_45 (by decide) (fun c24 => ?_) (fun c24 => ?_)
        · skip
          replace E := zIf_f c24 E
          refine zg_iinc X 1 (fun v25 => [(4, .int v25), (3, .int x17), (2, .int v13), (0, .ref a0), (1, .int p1)]) 0 dX10_fewestDams_98 rfl (by decide) (by decide) (by omega) (by omega) (fun _ => rfl) (fun v25 ev25 hv25 => ?_)
          replace E := zLet_s (zinc ev25 (by decide)) E
          refine zg_goto X 33 dX10_fewestDams_101 (by decide) ?_
          refine zg_sub [0, 1, 2, 3, 4] rfl ?_
          exact ihLp18 _ v25 x17 hI hS E  (by omega) (by omega) 
        · skip
          replace E := zIf_t c24 E
          refine zg_iload X 0 rfl dX10_fewestDams_48 ?_
          refine zg_cSi (As := [.int x16]) (st := []) X (t_J6_bitCount_0f7a4 l d L kd _ x16 ) mk_X10_198 mc_J6_bitCount_0f7a4 mz_J6 ms_J6_bitCount_0f7a4 (na := 1) ⟨md_J6.1, md_J6.2, by decide +kernel⟩ rfl ⟨by decide, by decide⟩ (Nat.le_of_ble_eq_true rfl) dX10_fewestDams_50 (fun v26 σ2 hq => ?_)
          obtain ⟨⟨hF, hv26⟩, rfl⟩ := hq
          replace E := zLet_s hF E
          refine zg_iconst X 3 dX10_fewestDams_53 (by decide) (fun v27 _ hv27 => ?_)
          replace E := zLet_s (zcst hv27 (by decide)) E
          have zv26_z28 := zb_rng v26
          refine zg_icmp_gt X 98 dX10_fewestDams_54 (by decide) (fun c29 => ?_) (fun c29 => ?_)
          · skip
            replace E := zIf_t c29 E
            refine zg_iinc X 1 (fun v30 => [(4, .int v30), (3, .int x17), (2, .int v13), (0, .ref a0), (1, .int p1)]) 0 dX10_fewestDams_98 rfl (by decide) (by decide) (by omega) (by omega) (fun _ => rfl) (fun v30 ev30 hv30 => ?_)
            replace E := zLet_s (zinc ev30 (by decide)) E
            refine zg_goto X 33 dX10_fewestDams_101 (by decide) ?_
            refine zg_sub [0, 1, 2, 3, 4] rfl ?_
            exact ihLp18 _ v30 x17 hI hS E  (by omega) (by omega) 
          · skip
            replace E := zIf_f (Int.not_lt.mpr c29) E
            refine zg_iload X 0 rfl dX10_fewestDams_57 ?_
            refine zg_iload_n X 1 rfl dX10_fewestDams_59 ?_
            refine zg_cSi (As := [.int x16, .int x17]) (st := []) X (t_X10_isAhead l d L kd _ x16 x17 ) mk_X10_287 mc_X10_isAhead mz_X10 ms_X10_isAhead (na := 2) ⟨md_X10.1, md_X10.2, by decide +kernel⟩ rfl ⟨by decide, by decide⟩ (Nat.le_of_ble_eq_true rfl) dX10_fewestDams_60 (fun v31 σ2 hq => ?_)
            obtain ⟨⟨hF, hv31⟩, rfl⟩ := hq
            replace E := zLet_s hF E
            refine zg_if_eq X 98 dX10_fewestDams_63 (by decide) (fun c32 => ?_) (fun c32 => ?_)
            · skip
              replace E := zIf_t c32 E
              refine zg_iinc X 1 (fun v33 => [(4, .int v33), (3, .int x17), (2, .int v13), (0, .ref a0), (1, .int p1)]) 0 dX10_fewestDams_98 rfl (by decide) (by decide) (by omega) (by omega) (fun _ => rfl) (fun v33 ev33 hv33 => ?_)
              replace E := zLet_s (zinc ev33 (by decide)) E
              refine zg_goto X 33 dX10_fewestDams_101 (by decide) ?_
              refine zg_sub [0, 1, 2, 3, 4] rfl ?_
              exact ihLp18 _ v33 x17 hI hS E  (by omega) (by omega) 
            · skip
              replace E := zIf_f c32 E
              refine zg_aload_n X 3 rfl dX10_fewestDams_66 ?_
              refine fg_X10_26 X hI ha0 dX10_fewestDams_67 (fun v34 ev34 hv34 => ?_)
              replace E := zLet_s (zgr ev34) E
              refine zg_aload_n X 3 rfl dX10_fewestDams_70 ?_
              refine fg_X10_52 X hI ha0 dX10_fewestDams_71 (fun v35 ev35 hv35 => ?_)
              replace E := zLet_s (zgr ev35) E
              refine fg_X10_128 X hI hv35 dX10_fewestDams_74 (fun v36 ev36 _ => ?_)
              replace E := zLet_s ev36 E
              refine zg_iload X 0 rfl dX10_fewestDams_77 ?_
              refine zg_iorW X dX10_fewestDams_79 (fun v37 ev37 => ?_)
              replace E := zLet_s ev37 E
              refine zg_cVv (As := [.int v37]) (st := []) X hv34 rfl (by decide) rfl (t_X5_run l d L kd κ _ hI v34 hv34 v37 ) mk_X10_274 mc_X5_run mz_X5 mi_X5_run ml_X5_run (na := 1) ⟨md_X5.1, md_X5.2, by decide +kernel⟩ rfl ⟨by decide, by decide⟩ (Nat.le_of_ble_eq_true rfl) dX10_fewestDams_80 (fun s38 hq => ?_)
              obtain ⟨hF, hS2, hI⟩ := hq
              replace E := zLet_s hF E
              have hS := hS.tr hS2 rfl rfl
              refine zg_aload_n X 3 rfl dX10_fewestDams_83 ?_
              refine zg_cVi (As := []) (st := []) X ha0 rfl (by decide) rfl (t_X10_mouthFlow l d L kd κ 1 _ hI a0 ha0 ) mk_X10_191 mc_X10_mouthFlow mz_X10 mi_X10_mouthFlow ml_X10_mouthFlow (na := 0) ⟨md_X10.1, md_X10.2, by decide +kernel⟩ rfl ⟨by decide, by decide⟩ (Nat.le_of_ble_eq_true rfl) dX10_fewestDams_84 (fun v39 s40 hq => ?_)
              obtain ⟨hF, hS2, hI⟩ := hq
              replace E := zLet2_s hF E
              have hS := hS.tr hS2 rfl rfl
              refine zg_iload_n X 4 rfl dX10_fewestDams_87 ?_
              have zv39_z41 := zb_rng v39
              have zp1_z42 := zb_rng p1
              refine zg_icmp_gt X 96 dX10_fewestDams_88 (by decide) (fun c43 => ?_) (fun c43 => ?_)
              · skip
                replace E := zIf_t c43 E
                refine zg_iload_n X 1 rfl dX10_fewestDams_96 ?_
                refine zg_istore_n X [(3, .int x17), (4, .int x16), (2, .int v13), (0, .ref a0), (1, .int p1)] dX10_fewestDams_97 (by decide) rfl ?_
                refine zg_iinc X 1 (fun v44 => [(4, .int v44), (3, .int x17), (2, .int v13), (0, .ref a0), (1, .int p1)]) 1 dX10_fewestDams_98 rfl (by decide) (by decide) (by omega) (by omega) (fun _ => rfl) (fun v44 ev44 hv44 => ?_)
                replace E := zLet_s (zinc ev44 (by decide)) E
                refine zg_goto X 33 dX10_fewestDams_101 (by decide) ?_
                refine zg_sub [0, 1, 2, 3, 4] rfl ?_
                exact ihLp18 _ v44 x17 hI hS E  (by omega) (by omega) 
              · skip
                replace E := zIf_f (Int.not_lt.mpr c43) E
                refine zg_iload X 0 rfl dX10_fewestDams_91 ?_
                refine zg_goto X 97 dX10_fewestDams_93 (by decide) ?_
                refine zg_istore_n X [(3, .int x16), (4, .int x16), (2, .int v13), (0, .ref a0), (1, .int p1)] dX10_fewestDams_97 (by decide) rfl ?_
                refine zg_iinc X 1 (fun v45 => [(4, .int v45), (3, .int x16), (2, .int v13), (0, .ref a0), (1, .int p1)]) 1 dX10_fewestDams_98 rfl (by decide) (by decide) (by omega) (by omega) (fun _ => rfl) (fun v45 ev45 hv45 => ?_)
                replace E := zLet_s (zinc ev45 (by decide)) E
                refine zg_goto X 33 dX10_fewestDams_101 (by decide) ?_
                refine zg_sub [0, 1, 2, 3, 4] rfl ?_
                exact ihLp18 _ v45 x16 hI hS E  (by omega) (by omega) 
  refine zg_sub [0, 1, 2, 3, 4] rfl ?_
  exact Lp18 4294967299 _ v15 v14 hI hS E  (by omega) (by omega) 
set_option maxHeartbeats 4000000 in
set_option maxRecDepth 100000 in
theorem t_X10_place (l : Launch) (d : zD2) (L : List Nat) (kd : Nat → Nat) (κ : Int) (σ : zS) (hI : zI κ 0 L kd σ) (a0 : Nat) (ha0 : zT L kd a0 10) : zMi l yX10_place (Cond.code yX10_place cX10_place 1 (some .int) :: zWL) 0 [.ref a0] d L kd σ (fun v σ2 => (v, σ2) = F_X10_place a0 σ ∧ zSm [] [] L kd σ σ2 ∧ (zI κ 0 L kd σ2)) := by
  refine zMi.of (own := RX10) (by decide +kernel) rfl rfl (Nat.le_of_ble_eq_true rfl) ?_
  intro p e s m args below meth c A Q X ret
  refine zg_lv (lv2 := [(0, .ref a0)]) rfl ?_
  obtain ⟨R, hR⟩ : ∃ R, R = F_X10_place a0 σ := ⟨_, rfl⟩
  have E := hR
  unfold F_X10_place at E
  have hS : zSm [] [] L kd σ σ := zSm.rf
  refine zg_aload_n X 0 rfl dX10_place_0 ?_
  refine fg_X10_81 X hI ha0 dX10_place_1 (fun v1 ev1 _ => ?_)
  replace E := zLet_s ev1 E
  exact ret _ _ _ _ dX10_place_4 rfl ⟨E.symm.trans hR, hS, hI⟩
set_option maxHeartbeats 4000000 in
set_option maxRecDepth 100000 in
theorem t_X10_spot (l : Launch) (d : zD2) (L : List Nat) (kd : Nat → Nat) (κ : Int) (σ : zS) (hI : zI κ 0 L kd σ) (a0 : Nat) (ha0 : zT L kd a0 10) (p1 : Int32) (p2 : Int32) : zMi l yX10_spot (Cond.code yX10_spot cX10_spot 3 (some .int) :: zWL) 7 [.ref a0, .int p1, .int p2] d L kd σ (fun v σ2 => (v, σ2) = F_X10_spot a0 p1 p2 σ ∧ zSm [6, 20, 21, 30, 31, 33, 34, 35, 36, 38] [5] L kd σ σ2 ∧ (zI κ 0 L kd σ2)) := by
  refine zMi.of (own := RX10) (by decide +kernel) rfl rfl (Nat.le_of_ble_eq_true rfl) ?_
  intro p e s m args below meth c A Q X ret
  refine zg_lv (lv2 := [(0, .ref a0), (1, .int p1), (2, .int p2)]) rfl ?_
  obtain ⟨R, hR⟩ : ∃ R, R = F_X10_spot a0 p1 p2 σ := ⟨_, rfl⟩
  have E := hR
  unfold F_X10_spot at E
  have hS : zSm [6, 20, 21, 30, 31, 33, 34, 35, 36, 38] [5] L kd σ σ := zSm.rf
  refine zg_aload_n X 0 rfl dX10_spot_0 ?_
  refine zg_iload_n X 1 rfl dX10_spot_1 ?_
  refine zg_cVi (As := [.int p1]) (st := []) X ha0 rfl (by decide) rfl (t_X10_isPlace l d L kd κ 0 _ hI a0 ha0 p1 ) mk_X10_109 mc_X10_isPlace mz_X10 mi_X10_isPlace ml_X10_isPlace (na := 1) ⟨md_X10.1, md_X10.2, by decide +kernel⟩ rfl ⟨by decide, by decide⟩ (Nat.le_of_ble_eq_true rfl) dX10_spot_2 (fun v1 s2 hq => ?_)
  obtain ⟨hF, hS2, hI⟩ := hq
  replace E := zLet2_s hF E
  have hS := hS.tr hS2 rfl rfl
  obtain ⟨hv1, hI⟩ := hI
  refine zg_if_eq X 18 dX10_spot_5 (by decide) (fun c3 => ?_) (fun c3 => ?_)
  · skip
    replace E := zIf_t c3 E
    refine zg_iconst X (-1) dX10_spot_18 (by decide) (fun v4 _ hv4 => ?_)
    replace E := zLet_s (zcst hv4 (by decide)) E
    exact ret _ _ _ _ dX10_spot_19 rfl ⟨E.symm.trans hR, hS, hI⟩
  · skip
    replace E := zIf_f c3 E
    refine zg_iload_n X 2 rfl dX10_spot_8 ?_
    refine zg_if_lt X 18 dX10_spot_9 (by decide) (fun c5 => ?_) (fun c5 => ?_)
    · skip
      replace E := zIf_t c5 E
      refine zg_iconst X (-1) dX10_spot_18 (by decide) (fun v6 _ hv6 => ?_)
      replace E := zLet_s (zcst hv6 (by decide)) E
      exact ret _ _ _ _ dX10_spot_19 rfl ⟨E.symm.trans hR, hS, hI⟩
    · skip
      replace E := zIf_f (Int.not_lt.mpr c5) E
      refine zg_iload_n X 2 rfl dX10_spot_12 ?_
      refine zg_bipush X 12 dX10_spot_13 (by decide) (fun v7 _ hv7 => ?_)
      replace E := zLet_s (zcst hv7 (by decide)) E
      have zp2_z8 := zb_rng p2
      refine zg_icmp_le X 20 dX10_spot_15 (by decide) (fun c9 => ?_) (fun c9 => ?_)
      · skip
        replace E := zIf_f (Int.not_lt.mpr c9) E
        refine zg_aload_n X 0 rfl dX10_spot_20 ?_
        refine zg_cVv (As := []) (st := []) X ha0 rfl (by decide) rfl (t_X10_look l d L kd κ 0 _ hI a0 ha0 ) mk_X10_113 mc_X10_look mz_X10 mi_X10_look ml_X10_look (na := 0) ⟨md_X10.1, md_X10.2, by decide +kernel⟩ rfl ⟨by decide, by decide⟩ (Nat.le_of_ble_eq_true rfl) dX10_spot_21 (fun s10 hq => ?_)
        obtain ⟨hF, hS2, hI⟩ := hq
        replace E := zLet_s hF E
        have hS := hS.tr hS2 rfl rfl
        refine zg_iload_n X 2 rfl dX10_spot_24 ?_
        by_cases q11 : p2.toInt = 0
        · refine zg_tabIn X 88 0 dX10_spot_25 q11 (by decide) (by decide) rfl (by decide) ?_
          replace E := zIf_t q11 E
          refine zg_iload_n X 1 rfl dX10_spot_88 ?_
          refine zg_if_ne X 97 dX10_spot_89 (by decide) (fun c12 => ?_) (fun c12 => ?_)
          · skip
            replace E := zIf_f c12 E
            refine zg_aload_n X 0 rfl dX10_spot_97 ?_
            refine fg_X10_52 X hI ha0 dX10_spot_98 (fun v13 ev13 hv13 => ?_)
            replace E := zLet_s (zgr ev13) E
            refine fg_X10_116 X hI hv13 dX10_spot_101 (fun v14 ev14 hv14 => ?_)
            replace E := zLet_s (zgr ev14) E
            refine zg_iload_n X 1 rfl dX10_spot_104 ?_
            refine ag_22 X hI hv14 (by omega) (by omega) dX10_spot_105 (fun v15 ev15 hv15 => ?_)
            replace E := zLet_s ev15 E
            exact ret _ _ _ _ dX10_spot_106 rfl ⟨E.symm.trans hR, hS, (zi_weak hI)⟩
          · skip
            replace E := zIf_t c12 E
            refine zg_bipush X (-2) dX10_spot_92 (by decide) (fun v16 _ hv16 => ?_)
            replace E := zLet_s (zcst hv16 (by decide)) E
            refine zg_goto X 106 dX10_spot_94 (by decide) ?_
            exact ret _ _ _ _ dX10_spot_106 rfl ⟨E.symm.trans hR, hS, (zi_weak hI)⟩
        · skip
          replace E := zIf_f q11 E
          by_cases q17 : p2.toInt = 1
          · refine zg_tabIn X 107 1 dX10_spot_25 q17 (by decide) (by decide) rfl (by decide) ?_
            replace E := zIf_t q17 E
            refine zg_aload_n X 0 rfl dX10_spot_107 ?_
            refine fg_X10_70 X hI ha0 dX10_spot_108 (fun v18 ev18 hv18 => ?_)
            replace E := zLet_s (zgr ev18) E
            refine fg_X10_119 X hI hv18 dX10_spot_111 (fun v19 ev19 hv19 => ?_)
            replace E := zLet_s (zgr ev19) E
            refine zg_iload_n X 1 rfl dX10_spot_114 ?_
            refine ag_46 X hI hv19 (by omega) (by omega) dX10_spot_115 (fun v20 ev20 _ => ?_)
            replace E := zLet_s ev20 E
            exact ret _ _ _ _ dX10_spot_116 rfl ⟨E.symm.trans hR, hS, (zi_weak hI)⟩
          · skip
            replace E := zIf_f q17 E
            by_cases q21 : p2.toInt = 2
            · refine zg_tabIn X 117 2 dX10_spot_25 q21 (by decide) (by decide) rfl (by decide) ?_
              replace E := zIf_t q21 E
              refine zg_aload_n X 0 rfl dX10_spot_117 ?_
              refine fg_X10_70 X hI ha0 dX10_spot_118 (fun v22 ev22 hv22 => ?_)
              replace E := zLet_s (zgr ev22) E
              refine fg_X10_122 X hI hv22 dX10_spot_121 (fun v23 ev23 hv23 => ?_)
              replace E := zLet_s (zgr ev23) E
              refine zg_iload_n X 1 rfl dX10_spot_124 ?_
              refine ag_47 X hI hv23 (by omega) (by omega) dX10_spot_125 (fun v24 ev24 _ => ?_)
              replace E := zLet_s ev24 E
              exact ret _ _ _ _ dX10_spot_126 rfl ⟨E.symm.trans hR, hS, (zi_weak hI)⟩
            · skip
              replace E := zIf_f q21 E
              by_cases q25 : p2.toInt = 3
              · refine zg_tabIn X 127 3 dX10_spot_25 q25 (by decide) (by decide) rfl (by decide) ?_
                replace E := zIf_t q25 E
                refine zg_aload_n X 0 rfl dX10_spot_127 ?_
                refine fg_X10_70 X hI ha0 dX10_spot_128 (fun v26 ev26 hv26 => ?_)
                replace E := zLet_s (zgr ev26) E
                refine fg_X10_125 X hI hv26 dX10_spot_131 (fun v27 ev27 hv27 => ?_)
                replace E := zLet_s (zgr ev27) E
                refine zg_iload_n X 1 rfl dX10_spot_134 ?_
                refine ag_48 X hI hv27 (by omega) (by omega) dX10_spot_135 (fun v28 ev28 _ => ?_)
                replace E := zLet_s ev28 E
                exact ret _ _ _ _ dX10_spot_136 rfl ⟨E.symm.trans hR, hS, (zi_weak hI)⟩
              · skip
                replace E := zIf_f q25 E
                by_cases q29 : p2.toInt = 4
                · refine zg_tabIn X 137 4 dX10_spot_25 q29 (by decide) (by decide) rfl (by decide) ?_
                  replace E := zIf_t q29 E
                  refine zg_aload_n X 0 rfl dX10_spot_137 ?_
                  refine fg_X10_52 X hI ha0 dX10_spot_138 (fun v30 ev30 hv30 => ?_)
                  replace E := zLet_s (zgr ev30) E
                  refine fg_X10_128 X hI hv30 dX10_spot_141 (fun v31 ev31 _ => ?_)
                  replace E := zLet_s ev31 E
                  refine zg_iload_n X 1 rfl dX10_spot_144 ?_
                  refine zg_cSi (As := [.int v31, .int p1]) (st := []) X (t_X10_has l d L kd _ v31 p1 ) mk_X10_131 mc_X10_has mz_X10 ms_X10_has (na := 2) ⟨md_X10.1, md_X10.2, by decide +kernel⟩ rfl ⟨by decide, by decide⟩ (Nat.le_of_ble_eq_true rfl) dX10_spot_145 (fun v32 σ2 hq => ?_)
                  obtain ⟨⟨hF, hv32⟩, rfl⟩ := hq
                  replace E := zLet_s hF E
                  refine zg_if_eq X 155 dX10_spot_148 (by decide) (fun c33 => ?_) (fun c33 => ?_)
                  · skip
                    replace E := zIf_t c33 E
                    refine zg_iconst X 0 dX10_spot_155 (by decide) (fun v34 _ hv34 => ?_)
                    replace E := zLet_s (zcst hv34 (by decide)) E
                    exact ret _ _ _ _ dX10_spot_156 rfl ⟨E.symm.trans hR, hS, (zi_weak hI)⟩
                  · skip
                    replace E := zIf_f c33 E
                    refine zg_iconst X 1 dX10_spot_151 (by decide) (fun v35 _ hv35 => ?_)
                    replace E := zLet_s (zcst hv35 (by decide)) E
                    refine zg_goto X 156 dX10_spot_152 (by decide) ?_
                    exact ret _ _ _ _ dX10_spot_156 rfl ⟨E.symm.trans hR, hS, (zi_weak hI)⟩
                · skip
                  replace E := zIf_f q29 E
                  by_cases q36 : p2.toInt = 5
                  · refine zg_tabIn X 157 5 dX10_spot_25 q36 (by decide) (by decide) rfl (by decide) ?_
                    replace E := zIf_t q36 E
                    refine zg_aload_n X 0 rfl dX10_spot_157 ?_
                    refine fg_X10_26 X hI ha0 dX10_spot_158 (fun v37 ev37 hv37 => ?_)
                    replace E := zLet_s (zgr ev37) E
                    refine fg_X10_135 X hI hv37 dX10_spot_161 (fun v38 ev38 hv38 => ?_)
                    replace E := zLet_s (zgr ev38) E
                    refine zg_iload_n X 1 rfl dX10_spot_164 ?_
                    refine ag_31 X hI hv38 (by omega) (by omega) dX10_spot_165 (fun v39 ev39 _ => ?_)
                    replace E := zLet_s ev39 E
                    exact ret _ _ _ _ dX10_spot_166 rfl ⟨E.symm.trans hR, hS, (zi_weak hI)⟩
                  · skip
                    replace E := zIf_f q36 E
                    by_cases q40 : p2.toInt = 6
                    · refine zg_tabIn X 167 6 dX10_spot_25 q40 (by decide) (by decide) rfl (by decide) ?_
                      replace E := zIf_t q40 E
                      refine zg_aload_n X 0 rfl dX10_spot_167 ?_
                      refine fg_X10_34 X hI ha0 dX10_spot_168 (fun v41 ev41 hv41 => ?_)
                      replace E := zLet_s (zgr ev41) E
                      refine fg_X10_138 X hI hv41 dX10_spot_171 (fun v42 ev42 hv42 => ?_)
                      replace E := zLet_s (zgr ev42) E
                      refine zg_iload_n X 1 rfl dX10_spot_174 ?_
                      refine ag_35 X hI hv42 (by omega) (by omega) dX10_spot_175 (fun v43 ev43 _ => ?_)
                      replace E := zLet_s ev43 E
                      exact ret _ _ _ _ dX10_spot_176 rfl ⟨E.symm.trans hR, hS, (zi_weak hI)⟩
                    · skip
                      replace E := zIf_f q40 E
                      by_cases q44 : p2.toInt = 7
                      · refine zg_tabIn X 177 7 dX10_spot_25 q44 (by decide) (by decide) rfl (by decide) ?_
                        replace E := zIf_t q44 E
                        refine zg_aload_n X 0 rfl dX10_spot_177 ?_
                        refine fg_X10_34 X hI ha0 dX10_spot_178 (fun v45 ev45 hv45 => ?_)
                        replace E := zLet_s (zgr ev45) E
                        refine fg_X10_143 X hI hv45 dX10_spot_181 (fun v46 ev46 hv46 => ?_)
                        replace E := zLet_s (zgr ev46) E
                        refine zg_iload_n X 1 rfl dX10_spot_184 ?_
                        refine ag_36 X hI hv46 (by omega) (by omega) dX10_spot_185 (fun v47 ev47 _ => ?_)
                        replace E := zLet_s ev47 E
                        exact ret _ _ _ _ dX10_spot_186 rfl ⟨E.symm.trans hR, hS, (zi_weak hI)⟩
                      · skip
                        replace E := zIf_f q44 E
                        by_cases q48 : p2.toInt = 8
                        · refine zg_tabIn X 187 8 dX10_spot_25 q48 (by decide) (by decide) rfl (by decide) ?_
                          replace E := zIf_t q48 E
                          refine zg_aload_n X 0 rfl dX10_spot_187 ?_
                          refine fg_X10_34 X hI ha0 dX10_spot_188 (fun v49 ev49 hv49 => ?_)
                          replace E := zLet_s (zgr ev49) E
                          refine zg_iload_n X 1 rfl dX10_spot_191 ?_
                          refine zg_cVi (As := [.int p1]) (st := []) X hv49 rfl (by decide) rfl (t_X6_isSource l d L kd κ 1 _ hI v49 hv49 p1 ) mk_X10_146 mc_X6_isSource mz_X6 mi_X6_isSource ml_X6_isSource (na := 1) ⟨md_X6.1, md_X6.2, by decide +kernel⟩ rfl ⟨by decide, by decide⟩ (Nat.le_of_ble_eq_true rfl) dX10_spot_192 (fun v50 s51 hq => ?_)
                          obtain ⟨hF, hS2, hI⟩ := hq
                          replace E := zLet2_s hF E
                          have hS := hS.tr hS2 rfl rfl
                          obtain ⟨hv50, hI⟩ := hI
                          refine zg_if_eq X 202 dX10_spot_195 (by decide) (fun c52 => ?_) (fun c52 => ?_)
                          · skip
                            replace E := zIf_t c52 E
                            refine zg_iconst X 0 dX10_spot_202 (by decide) (fun v53 _ hv53 => ?_)
                            replace E := zLet_s (zcst hv53 (by decide)) E
                            exact ret _ _ _ _ dX10_spot_203 rfl ⟨E.symm.trans hR, hS, (zi_weak hI)⟩
                          · skip
                            replace E := zIf_f c52 E
                            refine zg_iconst X 1 dX10_spot_198 (by decide) (fun v54 _ hv54 => ?_)
                            replace E := zLet_s (zcst hv54 (by decide)) E
                            refine zg_goto X 203 dX10_spot_199 (by decide) ?_
                            exact ret _ _ _ _ dX10_spot_203 rfl ⟨E.symm.trans hR, hS, (zi_weak hI)⟩
                        · skip
                          replace E := zIf_f q48 E
                          by_cases q55 : p2.toInt = 9
                          · refine zg_tabIn X 204 9 dX10_spot_25 q55 (by decide) (by decide) rfl (by decide) ?_
                            replace E := zIf_t q55 E
                            refine zg_aload_n X 0 rfl dX10_spot_204 ?_
                            refine fg_X10_52 X hI ha0 dX10_spot_205 (fun v56 ev56 hv56 => ?_)
                            replace E := zLet_s (zgr ev56) E
                            refine fg_X10_149 X hI hv56 dX10_spot_208 (fun v57 ev57 hv57 => ?_)
                            replace E := zLet_s (zgr ev57) E
                            refine zg_iload_n X 1 rfl dX10_spot_211 ?_
                            refine ag_23 X hI hv57 (by omega) (by omega) dX10_spot_212 (fun v58 ev58 _ => ?_)
                            replace E := zLet_s ev58 E
                            exact ret _ _ _ _ dX10_spot_213 rfl ⟨E.symm.trans hR, hS, (zi_weak hI)⟩
                          · skip
                            replace E := zIf_f q55 E
                            by_cases q59 : p2.toInt = 10
                            · refine zg_tabIn X 214 10 dX10_spot_25 q59 (by decide) (by decide) rfl (by decide) ?_
                              replace E := zIf_t q59 E
                              refine zg_aload_n X 0 rfl dX10_spot_214 ?_
                              refine fg_X10_52 X hI ha0 dX10_spot_215 (fun v60 ev60 hv60 => ?_)
                              replace E := zLet_s (zgr ev60) E
                              refine fg_X10_152 X hI hv60 dX10_spot_218 (fun v61 ev61 hv61 => ?_)
                              replace E := zLet_s (zgr ev61) E
                              refine zg_iload_n X 1 rfl dX10_spot_221 ?_
                              refine ag_24 X hI hv61 (by omega) (by omega) dX10_spot_222 (fun v62 ev62 _ => ?_)
                              replace E := zLet_s ev62 E
                              exact ret _ _ _ _ dX10_spot_223 rfl ⟨E.symm.trans hR, hS, (zi_weak hI)⟩
                            · skip
                              replace E := zIf_f q59 E
                              by_cases q63 : p2.toInt = 11
                              · refine zg_tabIn X 224 11 dX10_spot_25 q63 (by decide) (by decide) rfl (by decide) ?_
                                replace E := zIf_t q63 E
                                refine zg_aload_n X 0 rfl dX10_spot_224 ?_
                                refine fg_X10_26 X hI ha0 dX10_spot_225 (fun v64 ev64 hv64 => ?_)
                                replace E := zLet_s (zgr ev64) E
                                refine fg_X10_155 X hI hv64 dX10_spot_228 (fun v65 ev65 hv65 => ?_)
                                replace E := zLet_s (zgr ev65) E
                                refine zg_iload_n X 1 rfl dX10_spot_231 ?_
                                refine ag_30 X hI hv65 (by omega) (by omega) dX10_spot_232 (fun v66 ev66 _ => ?_)
                                replace E := zLet_s ev66 E
                                exact ret _ _ _ _ dX10_spot_233 rfl ⟨E.symm.trans hR, hS, (zi_weak hI)⟩
                              · skip
                                replace E := zIf_f q63 E
                                refine zg_tabOut X 234 dX10_spot_25 (by omega) (by decide) ?_
                                refine zg_aload_n X 0 rfl dX10_spot_234 ?_
                                refine fg_X10_26 X hI ha0 dX10_spot_235 (fun v67 ev67 hv67 => ?_)
                                replace E := zLet_s (zgr ev67) E
                                refine zg_iload_n X 1 rfl dX10_spot_238 ?_
                                refine zg_cVi (As := [.int p1]) (st := []) X hv67 rfl (by decide) rfl (t_X5_dried l d L kd κ _ hI v67 hv67 p1 (by omega)) mk_X10_158 mc_X5_dried mz_X5 mi_X5_dried ml_X5_dried (na := 1) ⟨md_X5.1, md_X5.2, by decide +kernel⟩ rfl ⟨by decide, by decide⟩ (Nat.le_of_ble_eq_true rfl) dX10_spot_239 (fun v68 s69 hq => ?_)
                                obtain ⟨hF, hS2, hI⟩ := hq
                                replace E := zLet2_s hF E
                                have hS := hS.tr hS2 rfl rfl
                                exact ret _ _ _ _ dX10_spot_242 rfl ⟨E.symm.trans hR, hS, (zi_weak hI)⟩
      · skip
        replace E := zIf_t c9 E
        refine zg_iconst X (-1) dX10_spot_18 (by decide) (fun v70 _ hv70 => ?_)
        replace E := zLet_s (zcst hv70 (by decide)) E
        exact ret _ _ _ _ dX10_spot_19 rfl ⟨E.symm.trans hR, hS, hI⟩
set_option maxHeartbeats 4000000 in
set_option maxRecDepth 100000 in
theorem t_X10_claim (l : Launch) (d : zD2) (L : List Nat) (kd : Nat → Nat) (κ : Int) (σ : zS) (hI : zI κ 0 L kd σ) (a0 : Nat) (ha0 : zT L kd a0 10) (p1 : Int32) (p2 : Int32) : zMi l yX10_claim (Cond.code yX10_claim cX10_claim 3 (some .int) :: zWL) 7 [.ref a0, .int p1, .int p2] d L kd σ (fun v σ2 => (v, σ2) = F_X10_claim a0 p1 p2 σ ∧ zSm [6, 20, 21, 30, 31, 33, 34, 35, 36, 38] [5] L kd σ σ2 ∧ (zI κ 0 L kd σ2)) := by
  refine zMi.of (own := RX10) (by decide +kernel) rfl rfl (Nat.le_of_ble_eq_true rfl) ?_
  intro p e s m args below meth c A Q X ret
  refine zg_lv (lv2 := [(0, .ref a0), (1, .int p1), (2, .int p2)]) rfl ?_
  obtain ⟨R, hR⟩ : ∃ R, R = F_X10_claim a0 p1 p2 σ := ⟨_, rfl⟩
  have E := hR
  unfold F_X10_claim at E
  have hS : zSm [6, 20, 21, 30, 31, 33, 34, 35, 36, 38] [5] L kd σ σ := zSm.rf
  refine zg_aload_n X 0 rfl dX10_claim_0 ?_
  refine zg_iload_n X 1 rfl dX10_claim_1 ?_
  refine zg_iload_n X 2 rfl dX10_claim_2 ?_
  refine zg_cVi (As := [.int p1, .int p2]) (st := []) X ha0 rfl (by decide) rfl (t_X10_isContest l d L kd κ 0 _ hI a0 ha0 p1 p2 ) mk_X10_162 mc_X10_isContest mz_X10 mi_X10_isContest ml_X10_isContest (na := 2) ⟨md_X10.1, md_X10.2, by decide +kernel⟩ rfl ⟨by decide, by decide⟩ (Nat.le_of_ble_eq_true rfl) dX10_claim_3 (fun v1 s2 hq => ?_)
  obtain ⟨hF, hS2, hI⟩ := hq
  replace E := zLet2_s hF E
  have hS := hS.tr hS2 rfl rfl
  obtain ⟨hv1, hI⟩ := hI
  refine zg_if_eq X 21 dX10_claim_6 (by decide) (fun c3 => ?_) (fun c3 => ?_)
  · skip
    replace E := zIf_t c3 E
    refine zg_iconst X (-1) dX10_claim_21 (by decide) (fun v4 _ hv4 => ?_)
    replace E := zLet_s (zcst hv4 (by decide)) E
    exact ret _ _ _ _ dX10_claim_22 rfl ⟨E.symm.trans hR, hS, (zi_weak hI)⟩
  · skip
    replace E := zIf_f c3 E
    refine zg_aload_n X 0 rfl dX10_claim_9 ?_
    refine fg_X10_26 X hI ha0 dX10_claim_10 (fun v5 ev5 hv5 => ?_)
    replace E := zLet_s (zgr ev5) E
    refine zg_iload_n X 1 rfl dX10_claim_13 ?_
    refine zg_iload_n X 2 rfl dX10_claim_14 ?_
    refine zg_cVi (As := [.int p1, .int p2]) (st := []) X hv5 rfl (by decide) rfl (t_X5_claimOf l d L kd κ _ hI v5 hv5 p1 p2 (by omega) (by omega)) mk_X10_165 mc_X5_claimOf mz_X5 mi_X5_claimOf ml_X5_claimOf (na := 2) ⟨md_X5.1, md_X5.2, by decide +kernel⟩ rfl ⟨by decide, by decide⟩ (Nat.le_of_ble_eq_true rfl) dX10_claim_15 (fun v6 s7 hq => ?_)
    obtain ⟨hF, hS2, hI⟩ := hq
    replace E := zLet2_s hF E
    have hS := hS.tr hS2 rfl rfl
    refine zg_goto X 22 dX10_claim_18 (by decide) ?_
    exact ret _ _ _ _ dX10_claim_22 rfl ⟨E.symm.trans hR, hS, (zi_weak hI)⟩
set_option maxHeartbeats 4000000 in
set_option maxRecDepth 100000 in
theorem t_X10_winner (l : Launch) (d : zD2) (L : List Nat) (kd : Nat → Nat) (κ : Int) (σ : zS) (hI : zI κ 0 L kd σ) (a0 : Nat) (ha0 : zT L kd a0 10) (p1 : Int32) : zMi l yX10_winner (Cond.code yX10_winner cX10_winner 2 (some .int) :: zWL) 7 [.ref a0, .int p1] d L kd σ (fun v σ2 => (v, σ2) = F_X10_winner a0 p1 σ ∧ zSm [6, 20, 21, 30, 31, 32, 33, 34, 35, 36, 38] [5] L kd σ σ2 ∧ (zI κ 0 L kd σ2)) := by
  refine zMi.of (own := RX10) (by decide +kernel) rfl rfl (Nat.le_of_ble_eq_true rfl) ?_
  intro p e s m args below meth c A Q X ret
  refine zg_lv (lv2 := [(0, .ref a0), (1, .int p1)]) rfl ?_
  obtain ⟨R, hR⟩ : ∃ R, R = F_X10_winner a0 p1 σ := ⟨_, rfl⟩
  have E := hR
  unfold F_X10_winner at E
  have hS : zSm [6, 20, 21, 30, 31, 32, 33, 34, 35, 36, 38] [5] L kd σ σ := zSm.rf
  refine zg_aload_n X 0 rfl dX10_winner_0 ?_
  refine zg_iload_n X 1 rfl dX10_winner_1 ?_
  refine zg_cVi (As := [.int p1]) (st := []) X ha0 rfl (by decide) rfl (t_X10_isLaw l d L kd κ 0 _ hI a0 ha0 p1 ) mk_X10_169 mc_X10_isLaw mz_X10 mi_X10_isLaw ml_X10_isLaw (na := 1) ⟨md_X10.1, md_X10.2, by decide +kernel⟩ rfl ⟨by decide, by decide⟩ (Nat.le_of_ble_eq_true rfl) dX10_winner_2 (fun v1 s2 hq => ?_)
  obtain ⟨hF, hS2, hI⟩ := hq
  replace E := zLet2_s hF E
  have hS := hS.tr hS2 rfl rfl
  obtain ⟨hv1, hI⟩ := hI
  refine zg_if_ne X 10 dX10_winner_5 (by decide) (fun c3 => ?_) (fun c3 => ?_)
  · skip
    replace E := zIf_f c3 E
    refine zg_aload_n X 0 rfl dX10_winner_10 ?_
    refine zg_cVv (As := []) (st := []) X ha0 rfl (by decide) rfl (t_X10_look l d L kd κ 0 _ hI a0 ha0 ) mk_X10_113 mc_X10_look mz_X10 mi_X10_look ml_X10_look (na := 0) ⟨md_X10.1, md_X10.2, by decide +kernel⟩ rfl ⟨by decide, by decide⟩ (Nat.le_of_ble_eq_true rfl) dX10_winner_11 (fun s4 hq => ?_)
    obtain ⟨hF, hS2, hI⟩ := hq
    replace E := zLet_s hF E
    have hS := hS.tr hS2 rfl rfl
    refine zg_aload_n X 0 rfl dX10_winner_14 ?_
    refine fg_X10_26 X hI ha0 dX10_winner_15 (fun v5 ev5 hv5 => ?_)
    replace E := zLet_s (zgr ev5) E
    refine zg_iload_n X 1 rfl dX10_winner_18 ?_
    refine zg_cVi (As := [.int p1]) (st := []) X hv5 rfl (by decide) rfl (t_X5_winnerBy l d L kd κ _ hI v5 hv5 p1 (by omega)) mk_X10_172 mc_X5_winnerBy mz_X5 mi_X5_winnerBy ml_X5_winnerBy (na := 1) ⟨md_X5.1, md_X5.2, by decide +kernel⟩ rfl ⟨by decide, by decide⟩ (Nat.le_of_ble_eq_true rfl) dX10_winner_19 (fun v6 s7 hq => ?_)
    obtain ⟨hF, hS2, hI⟩ := hq
    replace E := zLet2_s hF E
    have hS := hS.tr hS2 rfl rfl
    obtain ⟨hv6, hI⟩ := hI
    exact ret _ _ _ _ dX10_winner_22 rfl ⟨E.symm.trans hR, hS, (zi_weak hI)⟩
  · skip
    replace E := zIf_t c3 E
    refine zg_iconst X (-1) dX10_winner_8 (by decide) (fun v8 _ hv8 => ?_)
    replace E := zLet_s (zcst hv8 (by decide)) E
    exact ret _ _ _ _ dX10_winner_9 rfl ⟨E.symm.trans hR, hS, hI⟩
set_option maxHeartbeats 4000000 in
set_option maxRecDepth 100000 in
theorem t_X10_count (l : Launch) (d : zD2) (L : List Nat) (kd : Nat → Nat) (κ : Int) (σ : zS) (hI : zI κ 0 L kd σ) (a0 : Nat) (ha0 : zT L kd a0 10) (p1 : Int32) : zMi l yX10_count (Cond.code yX10_count cX10_count 2 (some .int) :: zWL) 7 [.ref a0, .int p1] d L kd σ (fun v σ2 => (v, σ2) = F_X10_count a0 p1 σ ∧ zSm [6, 20, 21, 30, 31, 33, 34, 35, 36, 38] [5] L kd σ σ2 ∧ (zI κ 0 L kd σ2)) := by
  refine zMi.of (own := RX10) (by decide +kernel) rfl rfl (Nat.le_of_ble_eq_true rfl) ?_
  intro p e s m args below meth c A Q X ret
  refine zg_lv (lv2 := [(0, .ref a0), (1, .int p1)]) rfl ?_
  obtain ⟨R, hR⟩ : ∃ R, R = F_X10_count a0 p1 σ := ⟨_, rfl⟩
  have E := hR
  unfold F_X10_count at E
  have hS : zSm [6, 20, 21, 30, 31, 33, 34, 35, 36, 38] [5] L kd σ σ := zSm.rf
  refine zg_aload_n X 0 rfl dX10_count_0 ?_
  refine zg_cVv (As := []) (st := []) X ha0 rfl (by decide) rfl (t_X10_look l d L kd κ 0 _ hI a0 ha0 ) mk_X10_113 mc_X10_look mz_X10 mi_X10_look ml_X10_look (na := 0) ⟨md_X10.1, md_X10.2, by decide +kernel⟩ rfl ⟨by decide, by decide⟩ (Nat.le_of_ble_eq_true rfl) dX10_count_1 (fun s1 hq => ?_)
  obtain ⟨hF, hS2, hI⟩ := hq
  replace E := zLet_s hF E
  have hS := hS.tr hS2 rfl rfl
  refine zg_iload_n X 1 rfl dX10_count_4 ?_
  by_cases q2 : p1.toInt = 0
  · refine zg_tabIn X 88 0 dX10_count_5 q2 (by decide) (by decide) rfl (by decide) ?_
    replace E := zIf_t q2 E
    refine zg_aload_n X 0 rfl dX10_count_88 ?_
    refine fg_X10_70 X hI ha0 dX10_count_89 (fun v3 ev3 hv3 => ?_)
    replace E := zLet_s (zgr ev3) E
    refine fg_X10_175 X hI hv3 dX10_count_92 (fun v4 ev4 hv4 => ?_)
    replace E := zLet_s ev4 E
    exact ret _ _ _ _ dX10_count_95 rfl ⟨E.symm.trans hR, hS, (zi_weak hI)⟩
  · skip
    replace E := zIf_f q2 E
    by_cases q5 : p1.toInt = 1
    · refine zg_tabIn X 96 1 dX10_count_5 q5 (by decide) (by decide) rfl (by decide) ?_
      replace E := zIf_t q5 E
      refine zg_aload_n X 0 rfl dX10_count_96 ?_
      refine fg_X10_52 X hI ha0 dX10_count_97 (fun v6 ev6 hv6 => ?_)
      replace E := zLet_s (zgr ev6) E
      refine fg_X10_178 X hI hv6 dX10_count_100 (fun v7 ev7 _ => ?_)
      replace E := zLet_s ev7 E
      exact ret _ _ _ _ dX10_count_103 rfl ⟨E.symm.trans hR, hS, (zi_weak hI)⟩
    · skip
      replace E := zIf_f q5 E
      by_cases q8 : p1.toInt = 2
      · refine zg_tabIn X 104 2 dX10_count_5 q8 (by decide) (by decide) rfl (by decide) ?_
        replace E := zIf_t q8 E
        refine zg_aload_n X 0 rfl dX10_count_104 ?_
        refine fg_X10_52 X hI ha0 dX10_count_105 (fun v9 ev9 hv9 => ?_)
        replace E := zLet_s (zgr ev9) E
        refine zg_cVi (As := []) (st := []) X hv9 rfl (by decide) rfl (t_X1_moon l d L kd κ 1 _ hI v9 hv9 ) mk_X10_181 mc_X1_moon mz_X1 mi_X1_moon ml_X1_moon (na := 0) ⟨md_X1.1, md_X1.2, by decide +kernel⟩ rfl ⟨by decide, by decide⟩ (Nat.le_of_ble_eq_true rfl) dX10_count_108 (fun v10 s11 hq => ?_)
        obtain ⟨hF, hS2, hI⟩ := hq
        replace E := zLet2_s hF E
        have hS := hS.tr hS2 rfl rfl
        exact ret _ _ _ _ dX10_count_111 rfl ⟨E.symm.trans hR, hS, (zi_weak hI)⟩
      · skip
        replace E := zIf_f q8 E
        by_cases q12 : p1.toInt = 3
        · refine zg_tabIn X 112 3 dX10_count_5 q12 (by decide) (by decide) rfl (by decide) ?_
          replace E := zIf_t q12 E
          refine zg_aload_n X 0 rfl dX10_count_112 ?_
          refine fg_X10_52 X hI ha0 dX10_count_113 (fun v13 ev13 hv13 => ?_)
          replace E := zLet_s (zgr ev13) E
          refine fg_X10_185 X hI hv13 dX10_count_116 (fun v14 ev14 hv14 => ?_)
          replace E := zLet_s ev14 E
          exact ret _ _ _ _ dX10_count_119 rfl ⟨E.symm.trans hR, hS, (zi_weak hI)⟩
        · skip
          replace E := zIf_f q12 E
          by_cases q15 : p1.toInt = 4
          · refine zg_tabIn X 120 4 dX10_count_5 q15 (by decide) (by decide) rfl (by decide) ?_
            replace E := zIf_t q15 E
            refine zg_aload_n X 0 rfl dX10_count_120 ?_
            refine fg_X10_34 X hI ha0 dX10_count_121 (fun v16 ev16 hv16 => ?_)
            replace E := zLet_s (zgr ev16) E
            refine zg_cVi (As := []) (st := []) X hv16 rfl (by decide) rfl (t_X6_sources l d L kd κ 1 _ hI v16 hv16 ) mk_X10_188 mc_X6_sources mz_X6 mi_X6_sources ml_X6_sources (na := 0) ⟨md_X6.1, md_X6.2, by decide +kernel⟩ rfl ⟨by decide, by decide⟩ (Nat.le_of_ble_eq_true rfl) dX10_count_124 (fun v17 s18 hq => ?_)
            obtain ⟨hF, hS2, hI⟩ := hq
            replace E := zLet2_s hF E
            have hS := hS.tr hS2 rfl rfl
            exact ret _ _ _ _ dX10_count_127 rfl ⟨E.symm.trans hR, hS, (zi_weak hI)⟩
          · skip
            replace E := zIf_f q15 E
            by_cases q19 : p1.toInt = 5
            · refine zg_tabIn X 128 5 dX10_count_5 q19 (by decide) (by decide) rfl (by decide) ?_
              replace E := zIf_t q19 E
              refine zg_aload_n X 0 rfl dX10_count_128 ?_
              refine fg_X10_52 X hI ha0 dX10_count_129 (fun v20 ev20 hv20 => ?_)
              replace E := zLet_s (zgr ev20) E
              refine fg_X10_128 X hI hv20 dX10_count_132 (fun v21 ev21 _ => ?_)
              replace E := zLet_s ev21 E
              exact ret _ _ _ _ dX10_count_135 rfl ⟨E.symm.trans hR, hS, (zi_weak hI)⟩
            · skip
              replace E := zIf_f q19 E
              by_cases q22 : p1.toInt = 6
              · refine zg_tabIn X 136 6 dX10_count_5 q22 (by decide) (by decide) rfl (by decide) ?_
                replace E := zIf_t q22 E
                refine zg_aload_n X 0 rfl dX10_count_136 ?_
                refine zg_cVi (As := []) (st := []) X ha0 rfl (by decide) rfl (t_X10_mouthFlow l d L kd κ 1 _ hI a0 ha0 ) mk_X10_191 mc_X10_mouthFlow mz_X10 mi_X10_mouthFlow ml_X10_mouthFlow (na := 0) ⟨md_X10.1, md_X10.2, by decide +kernel⟩ rfl ⟨by decide, by decide⟩ (Nat.le_of_ble_eq_true rfl) dX10_count_137 (fun v23 s24 hq => ?_)
                obtain ⟨hF, hS2, hI⟩ := hq
                replace E := zLet2_s hF E
                have hS := hS.tr hS2 rfl rfl
                exact ret _ _ _ _ dX10_count_140 rfl ⟨E.symm.trans hR, hS, (zi_weak hI)⟩
              · skip
                replace E := zIf_f q22 E
                by_cases q25 : p1.toInt = 7
                · refine zg_tabIn X 141 7 dX10_count_5 q25 (by decide) (by decide) rfl (by decide) ?_
                  replace E := zIf_t q25 E
                  refine zg_aload_n X 0 rfl dX10_count_141 ?_
                  refine zg_aload_n X 0 rfl dX10_count_142 ?_
                  refine fg_X10_52 X hI ha0 dX10_count_143 (fun v26 ev26 hv26 => ?_)
                  replace E := zLet_s (zgr ev26) E
                  refine fg_X10_152 X hI hv26 dX10_count_146 (fun v27 ev27 hv27 => ?_)
                  replace E := zLet_s (zgr ev27) E
                  refine zg_cVi (As := [.ref v27]) (st := []) X ha0 rfl (by decide) rfl (t_X10_sumOf l d L kd κ 1 _ hI a0 ha0 24 v27 hv27 rfl (by decide) ) mk_X10_194 mc_X10_sumOf mz_X10 mi_X10_sumOf ml_X10_sumOf (na := 1) ⟨md_X10.1, md_X10.2, by decide +kernel⟩ rfl ⟨by decide, by decide⟩ (Nat.le_of_ble_eq_true rfl) dX10_count_149 (fun v28 s29 hq => ?_)
                  obtain ⟨hF, hS2, hI⟩ := hq
                  replace E := zLet2_s hF E
                  have hS := hS.tr hS2 rfl rfl
                  exact ret _ _ _ _ dX10_count_152 rfl ⟨E.symm.trans hR, hS, (zi_weak hI)⟩
                · skip
                  replace E := zIf_f q25 E
                  by_cases q30 : p1.toInt = 8
                  · refine zg_tabIn X 153 8 dX10_count_5 q30 (by decide) (by decide) rfl (by decide) ?_
                    replace E := zIf_t q30 E
                    refine zg_aload_n X 0 rfl dX10_count_153 ?_
                    refine fg_X10_10 X hI ha0 dX10_count_154 (fun v31 ev31 hv31 => ?_)
                    replace E := zLet_s (zgr ev31) E
                    refine fg_X10_84 X hI hv31 dX10_count_157 (fun v32 ev32 hv32 => ?_)
                    replace E := zLet_s ev32 E
                    have hkv32 := hI.2.2.1
                    exact ret _ _ _ _ dX10_count_160 rfl ⟨E.symm.trans hR, hS, (zi_weak hI)⟩
                  · skip
                    replace E := zIf_f q30 E
                    by_cases q33 : p1.toInt = 9
                    · refine zg_tabIn X 161 9 dX10_count_5 q33 (by decide) (by decide) rfl (by decide) ?_
                      replace E := zIf_t q33 E
                      refine zg_aload_n X 0 rfl dX10_count_161 ?_
                      refine fg_X10_38 X hI ha0 dX10_count_162 (fun v34 ev34 hv34 => ?_)
                      replace E := zLet_s (zgr ev34) E
                      refine fg_X10_107 X hI hv34 dX10_count_165 (fun v35 ev35 hv35 => ?_)
                      replace E := zLet_s ev35 E
                      exact ret _ _ _ _ dX10_count_168 rfl ⟨E.symm.trans hR, hS, (zi_weak hI)⟩
                    · skip
                      replace E := zIf_f q33 E
                      by_cases q36 : p1.toInt = 10
                      · refine zg_tabIn X 169 10 dX10_count_5 q36 (by decide) (by decide) rfl (by decide) ?_
                        replace E := zIf_t q36 E
                        refine zg_aload_n X 0 rfl dX10_count_169 ?_
                        refine fg_X10_45 X hI ha0 dX10_count_170 (fun v37 ev37 hv37 => ?_)
                        replace E := zLet_s (zgr ev37) E
                        refine fg_X10_108 X hI hv37 dX10_count_173 (fun v38 ev38 hv38 => ?_)
                        replace E := zLet_s ev38 E
                        exact ret _ _ _ _ dX10_count_176 rfl ⟨E.symm.trans hR, hS, (zi_weak hI)⟩
                      · skip
                        replace E := zIf_f q36 E
                        by_cases q39 : p1.toInt = 11
                        · refine zg_tabIn X 177 11 dX10_count_5 q39 (by decide) (by decide) rfl (by decide) ?_
                          replace E := zIf_t q39 E
                          refine zg_aload_n X 0 rfl dX10_count_177 ?_
                          refine fg_X10_77 X hI ha0 dX10_count_178 (fun v40 ev40 _ => ?_)
                          replace E := zLet_s ev40 E
                          refine zg_cSi (As := [.int v40]) (st := []) X (t_J6_bitCount_0f7a4 l d L kd _ v40 ) mk_X10_198 mc_J6_bitCount_0f7a4 mz_J6 ms_J6_bitCount_0f7a4 (na := 1) ⟨md_J6.1, md_J6.2, by decide +kernel⟩ rfl ⟨by decide, by decide⟩ (Nat.le_of_ble_eq_true rfl) dX10_count_181 (fun v41 σ2 hq => ?_)
                          obtain ⟨⟨hF, hv41⟩, rfl⟩ := hq
                          replace E := zLet_s hF E
                          exact ret _ _ _ _ dX10_count_184 rfl ⟨E.symm.trans hR, hS, (zi_weak hI)⟩
                        · skip
                          replace E := zIf_f q39 E
                          by_cases q42 : p1.toInt = 12
                          · refine zg_tabIn X 185 12 dX10_count_5 q42 (by decide) (by decide) rfl (by decide) ?_
                            replace E := zIf_t q42 E
                            refine zg_aload_n X 0 rfl dX10_count_185 ?_
                            refine fg_X10_70 X hI ha0 dX10_count_186 (fun v43 ev43 hv43 => ?_)
                            replace E := zLet_s (zgr ev43) E
                            refine zg_aload_n X 0 rfl dX10_count_189 ?_
                            refine fg_X10_70 X hI ha0 dX10_count_190 (fun v44 ev44 hv44 => ?_)
                            replace E := zLet_s (zgr ev44) E
                            refine fg_X10_203 X hI hv44 dX10_count_193 (fun v45 ev45 _ => ?_)
                            replace E := zLet_s ev45 E
                            refine zg_aload_n X 0 rfl dX10_count_196 ?_
                            refine fg_X10_52 X hI ha0 dX10_count_197 (fun v46 ev46 hv46 => ?_)
                            replace E := zLet_s (zgr ev46) E
                            refine fg_X10_178 X hI hv46 dX10_count_200 (fun v47 ev47 _ => ?_)
                            replace E := zLet_s ev47 E
                            refine zg_cVi (As := [.int v45, .int v47]) (st := []) X hv43 rfl (by decide) rfl (t_X9_isStorm l d L kd κ 1 _ hI v43 hv43 v45 v47 ) mk_X10_206 mc_X9_isStorm mz_X9 mi_X9_isStorm ml_X9_isStorm (na := 2) ⟨md_X9.1, md_X9.2, by decide +kernel⟩ rfl ⟨by decide, by decide⟩ (Nat.le_of_ble_eq_true rfl) dX10_count_203 (fun v48 s49 hq => ?_)
                            obtain ⟨hF, hS2, hI⟩ := hq
                            replace E := zLet2_s hF E
                            have hS := hS.tr hS2 rfl rfl
                            obtain ⟨hv48, hI⟩ := hI
                            refine zg_if_eq X 213 dX10_count_206 (by decide) (fun c50 => ?_) (fun c50 => ?_)
                            · skip
                              replace E := zIf_t c50 E
                              refine zg_iconst X 0 dX10_count_213 (by decide) (fun v51 _ hv51 => ?_)
                              replace E := zLet_s (zcst hv51 (by decide)) E
                              exact ret _ _ _ _ dX10_count_214 rfl ⟨E.symm.trans hR, hS, (zi_weak hI)⟩
                            · skip
                              replace E := zIf_f c50 E
                              refine zg_iconst X 1 dX10_count_209 (by decide) (fun v52 _ hv52 => ?_)
                              replace E := zLet_s (zcst hv52 (by decide)) E
                              refine zg_goto X 214 dX10_count_210 (by decide) ?_
                              exact ret _ _ _ _ dX10_count_214 rfl ⟨E.symm.trans hR, hS, (zi_weak hI)⟩
                          · skip
                            replace E := zIf_f q42 E
                            by_cases q53 : p1.toInt = 13
                            · refine zg_tabIn X 215 13 dX10_count_5 q53 (by decide) (by decide) rfl (by decide) ?_
                              replace E := zIf_t q53 E
                              refine zg_aload_n X 0 rfl dX10_count_215 ?_
                              refine zg_aload_n X 0 rfl dX10_count_216 ?_
                              refine fg_X10_70 X hI ha0 dX10_count_217 (fun v54 ev54 hv54 => ?_)
                              replace E := zLet_s (zgr ev54) E
                              refine fg_X10_119 X hI hv54 dX10_count_220 (fun v55 ev55 hv55 => ?_)
                              replace E := zLet_s (zgr ev55) E
                              refine zg_cVi (As := [.ref v55]) (st := []) X ha0 rfl (by decide) rfl (t_X10_sumOf l d L kd κ 1 _ hI a0 ha0 46 v55 hv55 rfl (by decide) ) mk_X10_194 mc_X10_sumOf mz_X10 mi_X10_sumOf ml_X10_sumOf (na := 1) ⟨md_X10.1, md_X10.2, by decide +kernel⟩ rfl ⟨by decide, by decide⟩ (Nat.le_of_ble_eq_true rfl) dX10_count_223 (fun v56 s57 hq => ?_)
                              obtain ⟨hF, hS2, hI⟩ := hq
                              replace E := zLet2_s hF E
                              have hS := hS.tr hS2 rfl rfl
                              exact ret _ _ _ _ dX10_count_226 rfl ⟨E.symm.trans hR, hS, (zi_weak hI)⟩
                            · skip
                              replace E := zIf_f q53 E
                              by_cases q58 : p1.toInt = 14
                              · refine zg_tabIn X 227 14 dX10_count_5 q58 (by decide) (by decide) rfl (by decide) ?_
                                replace E := zIf_t q58 E
                                refine zg_aload_n X 0 rfl dX10_count_227 ?_
                                refine zg_cVi (As := []) (st := []) X ha0 rfl (by decide) rfl (t_X10_turnedPlaces l d L kd κ 1 _ hI a0 ha0 ) mk_X10_209 mc_X10_turnedPlaces mz_X10 mi_X10_turnedPlaces ml_X10_turnedPlaces (na := 0) ⟨md_X10.1, md_X10.2, by decide +kernel⟩ rfl ⟨by decide, by decide⟩ (Nat.le_of_ble_eq_true rfl) dX10_count_228 (fun v59 s60 hq => ?_)
                                obtain ⟨hF, hS2, hI⟩ := hq
                                replace E := zLet2_s hF E
                                have hS := hS.tr hS2 rfl rfl
                                exact ret _ _ _ _ dX10_count_231 rfl ⟨E.symm.trans hR, hS, (zi_weak hI)⟩
                              · skip
                                replace E := zIf_f q58 E
                                by_cases q61 : p1.toInt = 15
                                · refine zg_tabIn X 232 15 dX10_count_5 q61 (by decide) (by decide) rfl (by decide) ?_
                                  replace E := zIf_t q61 E
                                  refine zg_aload_n X 0 rfl dX10_count_232 ?_
                                  refine zg_aload_n X 0 rfl dX10_count_233 ?_
                                  refine fg_X10_70 X hI ha0 dX10_count_234 (fun v62 ev62 hv62 => ?_)
                                  replace E := zLet_s (zgr ev62) E
                                  refine fg_X10_122 X hI hv62 dX10_count_237 (fun v63 ev63 hv63 => ?_)
                                  replace E := zLet_s (zgr ev63) E
                                  refine zg_cVi (As := [.ref v63]) (st := []) X ha0 rfl (by decide) rfl (t_X10_sumOf l d L kd κ 1 _ hI a0 ha0 47 v63 hv63 rfl (by decide) ) mk_X10_194 mc_X10_sumOf mz_X10 mi_X10_sumOf ml_X10_sumOf (na := 1) ⟨md_X10.1, md_X10.2, by decide +kernel⟩ rfl ⟨by decide, by decide⟩ (Nat.le_of_ble_eq_true rfl) dX10_count_240 (fun v64 s65 hq => ?_)
                                  obtain ⟨hF, hS2, hI⟩ := hq
                                  replace E := zLet2_s hF E
                                  have hS := hS.tr hS2 rfl rfl
                                  exact ret _ _ _ _ dX10_count_243 rfl ⟨E.symm.trans hR, hS, (zi_weak hI)⟩
                                · skip
                                  replace E := zIf_f q61 E
                                  by_cases q66 : p1.toInt = 16
                                  · refine zg_tabIn X 244 16 dX10_count_5 q66 (by decide) (by decide) rfl (by decide) ?_
                                    replace E := zIf_t q66 E
                                    refine zg_aload_n X 0 rfl dX10_count_244 ?_
                                    refine fg_X10_34 X hI ha0 dX10_count_245 (fun v67 ev67 hv67 => ?_)
                                    replace E := zLet_s (zgr ev67) E
                                    refine zg_cVi (As := []) (st := []) X hv67 rfl (by decide) rfl (t_X6_greatestFar l d L kd κ 1 _ hI v67 hv67 ) mk_X10_212 mc_X6_greatestFar mz_X6 mi_X6_greatestFar ml_X6_greatestFar (na := 0) ⟨md_X6.1, md_X6.2, by decide +kernel⟩ rfl ⟨by decide, by decide⟩ (Nat.le_of_ble_eq_true rfl) dX10_count_248 (fun v68 s69 hq => ?_)
                                    obtain ⟨hF, hS2, hI⟩ := hq
                                    replace E := zLet2_s hF E
                                    have hS := hS.tr hS2 rfl rfl
                                    exact ret _ _ _ _ dX10_count_251 rfl ⟨E.symm.trans hR, hS, (zi_weak hI)⟩
                                  · skip
                                    replace E := zIf_f q66 E
                                    refine zg_tabOut X 252 dX10_count_5 (by omega) (by decide) ?_
                                    refine zg_iconst X (-1) dX10_count_252 (by decide) (fun v70 _ hv70 => ?_)
                                    replace E := zLet_s (zcst hv70 (by decide)) E
                                    exact ret _ _ _ _ dX10_count_253 rfl ⟨E.symm.trans hR, hS, (zi_weak hI)⟩
set_option maxHeartbeats 4000000 in
set_option maxRecDepth 100000 in
theorem t_X10_dam (l : Launch) (d : zD2) (L : List Nat) (kd : Nat → Nat) (κ : Int) (σ : zS) (hI : zI κ 0 L kd σ) (a0 : Nat) (ha0 : zT L kd a0 10) (p1 : Int32) (p2 : Int32) (hq0 : 0 ≤ p2.toInt ∧ p2.toInt ≤ 1) : zMi l yX10_dam (Cond.code yX10_dam cX10_dam 3 (some .boolean) :: zWL) 3 [.ref a0, .int p1, .int p2] d L kd σ (fun v σ2 => (v, σ2) = F_X10_dam a0 p1 p2 σ ∧ zSm [1, 4, 22, 23, 24] [] L kd σ σ2 ∧ ((0 ≤ v.toInt ∧ v.toInt ≤ 1) ∧ zI κ 0 L kd σ2)) := by
  refine zMi.of (own := RX10) (by decide +kernel) rfl rfl (Nat.le_of_ble_eq_true rfl) ?_
  intro p e s m args below meth c A Q X ret
  refine zg_lv (lv2 := [(0, .ref a0), (1, .int p1), (2, .int p2)]) rfl ?_
  obtain ⟨R, hR⟩ : ∃ R, R = F_X10_dam a0 p1 p2 σ := ⟨_, rfl⟩
  have E := hR
  unfold F_X10_dam at E
  have hS : zSm [1, 4, 22, 23, 24] [] L kd σ σ := zSm.rf
  refine zg_iload_n X 1 rfl dX10_dam_0 ?_
  refine zg_if_eq X 27 dX10_dam_1 (by decide) (fun c1 => ?_) (fun c1 => ?_)
  · skip
    replace E := zIf_t c1 E
    refine zg_iconst X 0 dX10_dam_27 (by decide) (fun v2 _ hv2 => ?_)
    replace E := zLet_s (zcst hv2 (by decide)) E
    exact ret _ _ _ _ dX10_dam_28 (zb_bool ⟨by omega, by omega⟩) ⟨E.symm.trans hR, hS, ⟨⟨by omega, by omega⟩, hI⟩⟩
  · skip
    replace E := zIf_f c1 E
    refine zg_aload_n X 0 rfl dX10_dam_4 ?_
    refine zg_iload_n X 1 rfl dX10_dam_5 ?_
    refine zg_cVi (As := [.int p1]) (st := []) X ha0 rfl (by decide) rfl (t_X10_isPlace l d L kd κ 0 _ hI a0 ha0 p1 ) mk_X10_109 mc_X10_isPlace mz_X10 mi_X10_isPlace ml_X10_isPlace (na := 1) ⟨md_X10.1, md_X10.2, by decide +kernel⟩ rfl ⟨by decide, by decide⟩ (Nat.le_of_ble_eq_true rfl) dX10_dam_6 (fun v3 s4 hq => ?_)
    obtain ⟨hF, hS2, hI⟩ := hq
    replace E := zLet2_s hF E
    have hS := hS.tr hS2 rfl rfl
    obtain ⟨hv3, hI⟩ := hI
    refine zg_if_eq X 27 dX10_dam_9 (by decide) (fun c5 => ?_) (fun c5 => ?_)
    · skip
      replace E := zIf_t c5 E
      refine zg_iconst X 0 dX10_dam_27 (by decide) (fun v6 _ hv6 => ?_)
      replace E := zLet_s (zcst hv6 (by decide)) E
      exact ret _ _ _ _ dX10_dam_28 (zb_bool ⟨by omega, by omega⟩) ⟨E.symm.trans hR, hS, ⟨⟨by omega, by omega⟩, hI⟩⟩
    · skip
      replace E := zIf_f c5 E
      refine zg_aload_n X 0 rfl dX10_dam_12 ?_
      refine fg_X10_52 X hI ha0 dX10_dam_13 (fun v7 ev7 hv7 => ?_)
      replace E := zLet_s (zgr ev7) E
      refine fg_X10_128 X hI hv7 dX10_dam_16 (fun v8 ev8 _ => ?_)
      replace E := zLet_s ev8 E
      refine zg_iload_n X 1 rfl dX10_dam_19 ?_
      refine zg_cSi (As := [.int v8, .int p1]) (st := []) X (t_X10_has l d L kd _ v8 p1 ) mk_X10_131 mc_X10_has mz_X10 ms_X10_has (na := 2) ⟨md_X10.1, md_X10.2, by decide +kernel⟩ rfl ⟨by decide, by decide⟩ (Nat.le_of_ble_eq_true rfl) dX10_dam_20 (fun v9 σ2 hq => ?_)
      obtain ⟨⟨hF, hv9⟩, rfl⟩ := hq
      replace E := zLet_s hF E
      refine zg_iload_n X 2 rfl dX10_dam_23 ?_
      refine zg_icmp_ne X 29 dX10_dam_24 (by decide) (fun c10 => ?_) (fun c10 => ?_)
      · skip
        replace E := zIf_f c10 E
        refine zg_aload_n X 0 rfl dX10_dam_29 ?_
        refine fg_X10_38 X hI ha0 dX10_dam_30 (fun v11 ev11 hv11 => ?_)
        replace E := zLet_s (zgr ev11) E
        refine zg_aload_n X 0 rfl dX10_dam_33 ?_
        refine fg_X10_52 X hI ha0 dX10_dam_34 (fun v12 ev12 hv12 => ?_)
        replace E := zLet_s (zgr ev12) E
        refine zg_cVv (As := [.ref v12]) (st := []) X hv11 rfl (by decide) rfl (t_X4_push l d L kd κ 0 _ hI v11 hv11 v12 hv12 ) mk_X10_219 mc_X4_push mz_X4 mi_X4_push ml_X4_push (na := 1) ⟨md_X4.1, md_X4.2, by decide +kernel⟩ rfl ⟨by decide, by decide⟩ (Nat.le_of_ble_eq_true rfl) dX10_dam_37 (fun s13 hq => ?_)
        obtain ⟨hF, hS2, hI⟩ := hq
        replace E := zLet_s hF E
        have hS := hS.tr hS2 rfl rfl
        refine zg_aload_n X 0 rfl dX10_dam_40 ?_
        refine fg_X10_52 X hI ha0 dX10_dam_41 (fun v14 ev14 hv14 => ?_)
        replace E := zLet_s (zgr ev14) E
        refine zg_dup X dX10_dam_44 rfl ?_
        refine fg_X10_128 X hI hv14 dX10_dam_45 (fun v15 ev15 _ => ?_)
        replace E := zLet_s ev15 E
        refine zg_iload_n X 1 rfl dX10_dam_48 ?_
        refine zg_cSi (As := [.int p1]) (st := [.int v15, .ref v14]) X (t_X10_bit l d L kd _ p1 ) mk_X10_216 mc_X10_bit mz_X10 ms_X10_bit (na := 1) ⟨md_X10.1, md_X10.2, by decide +kernel⟩ rfl ⟨by decide, by decide⟩ (Nat.le_of_ble_eq_true rfl) dX10_dam_49 (fun v16 σ2 hq => ?_)
        obtain ⟨⟨hF, hv16⟩, rfl⟩ := hq
        replace E := zLet_s hF E
        refine zg_ixorW X dX10_dam_52 (fun v17 ev17 => ?_)
        replace E := zLet_s ev17 E
        refine fp_X10_128 X hI hv14 (zb_rng _) dX10_dam_53 (fun s18 es18 hI => ?_)
        replace E := zLet_s es18 E
        have hS := hS.i hv14 es18 rfl
        have e20 : v17 = s18.1 v14 3 := by rw [es18]; exact zm_s
        refine zg_iconst X 1 dX10_dam_56 (by decide) (fun v21 _ hv21 => ?_)
        replace E := zLet_s (zcst hv21 (by decide)) E
        exact ret _ _ _ _ dX10_dam_57 (zb_bool ⟨by omega, by omega⟩) ⟨E.symm.trans hR, hS, ⟨⟨by omega, by omega⟩, hI⟩⟩
      · skip
        replace E := zIf_t c10 E
        refine zg_iconst X 0 dX10_dam_27 (by decide) (fun v22 _ hv22 => ?_)
        replace E := zLet_s (zcst hv22 (by decide)) E
        exact ret _ _ _ _ dX10_dam_28 (zb_bool ⟨by omega, by omega⟩) ⟨E.symm.trans hR, hS, ⟨⟨by omega, by omega⟩, hI⟩⟩
set_option maxHeartbeats 4000000 in
set_option maxRecDepth 100000 in
theorem t_X10_turn (l : Launch) (d : zD2) (L : List Nat) (kd : Nat → Nat) (κ : Int) (σ : zS) (hI : zI κ 0 L kd σ) (a0 : Nat) (ha0 : zT L kd a0 10) (p1 : Int32) (p2 : Int32) : zMi l yX10_turn (Cond.code yX10_turn cX10_turn 3 (some .boolean) :: zWL) 3 [.ref a0, .int p1, .int p2] d L kd σ (fun v σ2 => (v, σ2) = F_X10_turn a0 p1 p2 σ ∧ zSm [1, 4, 22, 23, 24] [] L kd σ σ2 ∧ ((0 ≤ v.toInt ∧ v.toInt ≤ 1) ∧ zI κ 0 L kd σ2)) := by
  refine zMi.of (own := RX10) (by decide +kernel) rfl rfl (Nat.le_of_ble_eq_true rfl) ?_
  intro p e s m args below meth c A Q X ret
  refine zg_lv (lv2 := [(0, .ref a0), (1, .int p1), (2, .int p2)]) rfl ?_
  obtain ⟨R, hR⟩ : ∃ R, R = F_X10_turn a0 p1 p2 σ := ⟨_, rfl⟩
  have E := hR
  unfold F_X10_turn at E
  have hS : zSm [1, 4, 22, 23, 24] [] L kd σ σ := zSm.rf
  refine zg_aload_n X 0 rfl dX10_turn_0 ?_
  refine zg_iload_n X 1 rfl dX10_turn_1 ?_
  refine zg_iload_n X 2 rfl dX10_turn_2 ?_
  refine zg_cVi (As := [.int p1, .int p2]) (st := []) X ha0 rfl (by decide) rfl (t_X10_isTurn l d L kd κ 0 _ hI a0 ha0 p1 p2 ) mk_X10_223 mc_X10_isTurn mz_X10 mi_X10_isTurn ml_X10_isTurn (na := 2) ⟨md_X10.1, md_X10.2, by decide +kernel⟩ rfl ⟨by decide, by decide⟩ (Nat.le_of_ble_eq_true rfl) dX10_turn_3 (fun v1 s2 hq => ?_)
  obtain ⟨hF, hS2, hI⟩ := hq
  replace E := zLet2_s hF E
  have hS := hS.tr hS2 rfl rfl
  obtain ⟨hv1, hI⟩ := hI
  refine zg_if_ne X 11 dX10_turn_6 (by decide) (fun c3 => ?_) (fun c3 => ?_)
  · skip
    replace E := zIf_f c3 E
    refine zg_aload_n X 0 rfl dX10_turn_11 ?_
    refine fg_X10_38 X hI ha0 dX10_turn_12 (fun v4 ev4 hv4 => ?_)
    replace E := zLet_s (zgr ev4) E
    refine zg_aload_n X 0 rfl dX10_turn_15 ?_
    refine fg_X10_52 X hI ha0 dX10_turn_16 (fun v5 ev5 hv5 => ?_)
    replace E := zLet_s (zgr ev5) E
    refine zg_cVv (As := [.ref v5]) (st := []) X hv4 rfl (by decide) rfl (t_X4_push l d L kd κ 0 _ hI v4 hv4 v5 hv5 ) mk_X10_219 mc_X4_push mz_X4 mi_X4_push ml_X4_push (na := 1) ⟨md_X4.1, md_X4.2, by decide +kernel⟩ rfl ⟨by decide, by decide⟩ (Nat.le_of_ble_eq_true rfl) dX10_turn_19 (fun s6 hq => ?_)
    obtain ⟨hF, hS2, hI⟩ := hq
    replace E := zLet_s hF E
    have hS := hS.tr hS2 rfl rfl
    refine zg_aload_n X 0 rfl dX10_turn_22 ?_
    refine fg_X10_52 X hI ha0 dX10_turn_23 (fun v7 ev7 hv7 => ?_)
    replace E := zLet_s (zgr ev7) E
    refine fg_X10_116 X hI hv7 dX10_turn_26 (fun v8 ev8 hv8 => ?_)
    replace E := zLet_s (zgr ev8) E
    refine zg_iload_n X 1 rfl dX10_turn_29 ?_
    refine zg_iload_n X 2 rfl dX10_turn_30 ?_
    refine as_22 X hI hv8 (by omega) (by omega) ⟨by omega, by omega⟩ dX10_turn_31 (fun s9 es9 hI => ?_)
    replace E := zLet_s es9 E
    have hS := hS.i hv8 es9 rfl
    refine zg_iconst X 1 dX10_turn_32 (by decide) (fun v10 _ hv10 => ?_)
    replace E := zLet_s (zcst hv10 (by decide)) E
    exact ret _ _ _ _ dX10_turn_33 (zb_bool ⟨by omega, by omega⟩) ⟨E.symm.trans hR, hS, ⟨⟨by omega, by omega⟩, hI⟩⟩
  · skip
    replace E := zIf_t c3 E
    refine zg_iconst X 0 dX10_turn_9 (by decide) (fun v11 _ hv11 => ?_)
    replace E := zLet_s (zcst hv11 (by decide)) E
    exact ret _ _ _ _ dX10_turn_10 (zb_bool ⟨by omega, by omega⟩) ⟨E.symm.trans hR, hS, ⟨⟨by omega, by omega⟩, hI⟩⟩
set_option maxHeartbeats 4000000 in
set_option maxRecDepth 100000 in
theorem t_X10_rule (l : Launch) (d : zD2) (L : List Nat) (kd : Nat → Nat) (κ : Int) (σ : zS) (hI : zI κ 0 L kd σ) (a0 : Nat) (ha0 : zT L kd a0 10) (p1 : Int32) : zMi l yX10_rule (Cond.code yX10_rule cX10_rule 2 (some .boolean) :: zWL) 3 [.ref a0, .int p1] d L kd σ (fun v σ2 => (v, σ2) = F_X10_rule a0 p1 σ ∧ zSm [1, 4, 22, 23, 24] [] L kd σ σ2 ∧ ((0 ≤ v.toInt ∧ v.toInt ≤ 1) ∧ zI κ 0 L kd σ2)) := by
  refine zMi.of (own := RX10) (by decide +kernel) rfl rfl (Nat.le_of_ble_eq_true rfl) ?_
  intro p e s m args below meth c A Q X ret
  refine zg_lv (lv2 := [(0, .ref a0), (1, .int p1)]) rfl ?_
  obtain ⟨R, hR⟩ : ∃ R, R = F_X10_rule a0 p1 σ := ⟨_, rfl⟩
  have E := hR
  unfold F_X10_rule at E
  have hS : zSm [1, 4, 22, 23, 24] [] L kd σ σ := zSm.rf
  refine zg_aload_n X 0 rfl dX10_rule_0 ?_
  refine zg_iload_n X 1 rfl dX10_rule_1 ?_
  refine zg_cVi (As := [.int p1]) (st := []) X ha0 rfl (by decide) rfl (t_X10_isLaw l d L kd κ 0 _ hI a0 ha0 p1 ) mk_X10_169 mc_X10_isLaw mz_X10 mi_X10_isLaw ml_X10_isLaw (na := 1) ⟨md_X10.1, md_X10.2, by decide +kernel⟩ rfl ⟨by decide, by decide⟩ (Nat.le_of_ble_eq_true rfl) dX10_rule_2 (fun v1 s2 hq => ?_)
  obtain ⟨hF, hS2, hI⟩ := hq
  replace E := zLet2_s hF E
  have hS := hS.tr hS2 rfl rfl
  obtain ⟨hv1, hI⟩ := hI
  refine zg_if_eq X 19 dX10_rule_5 (by decide) (fun c3 => ?_) (fun c3 => ?_)
  · skip
    replace E := zIf_t c3 E
    refine zg_iconst X 0 dX10_rule_19 (by decide) (fun v4 _ hv4 => ?_)
    replace E := zLet_s (zcst hv4 (by decide)) E
    exact ret _ _ _ _ dX10_rule_20 (zb_bool ⟨by omega, by omega⟩) ⟨E.symm.trans hR, hS, ⟨⟨by omega, by omega⟩, hI⟩⟩
  · skip
    replace E := zIf_f c3 E
    refine zg_aload_n X 0 rfl dX10_rule_8 ?_
    refine fg_X10_52 X hI ha0 dX10_rule_9 (fun v5 ev5 hv5 => ?_)
    replace E := zLet_s (zgr ev5) E
    refine fg_X10_185 X hI hv5 dX10_rule_12 (fun v6 ev6 hv6 => ?_)
    replace E := zLet_s ev6 E
    refine zg_iload_n X 1 rfl dX10_rule_15 ?_
    refine zg_icmp_ne X 21 dX10_rule_16 (by decide) (fun c7 => ?_) (fun c7 => ?_)
    · skip
      replace E := zIf_f c7 E
      refine zg_aload_n X 0 rfl dX10_rule_21 ?_
      refine fg_X10_38 X hI ha0 dX10_rule_22 (fun v8 ev8 hv8 => ?_)
      replace E := zLet_s (zgr ev8) E
      refine zg_aload_n X 0 rfl dX10_rule_25 ?_
      refine fg_X10_52 X hI ha0 dX10_rule_26 (fun v9 ev9 hv9 => ?_)
      replace E := zLet_s (zgr ev9) E
      refine zg_cVv (As := [.ref v9]) (st := []) X hv8 rfl (by decide) rfl (t_X4_push l d L kd κ 0 _ hI v8 hv8 v9 hv9 ) mk_X10_219 mc_X4_push mz_X4 mi_X4_push ml_X4_push (na := 1) ⟨md_X4.1, md_X4.2, by decide +kernel⟩ rfl ⟨by decide, by decide⟩ (Nat.le_of_ble_eq_true rfl) dX10_rule_29 (fun s10 hq => ?_)
      obtain ⟨hF, hS2, hI⟩ := hq
      replace E := zLet_s hF E
      have hS := hS.tr hS2 rfl rfl
      refine zg_aload_n X 0 rfl dX10_rule_32 ?_
      refine fg_X10_52 X hI ha0 dX10_rule_33 (fun v11 ev11 hv11 => ?_)
      replace E := zLet_s (zgr ev11) E
      refine zg_iload_n X 1 rfl dX10_rule_36 ?_
      refine fp_X10_185 X hI hv11 ⟨by omega, by omega⟩ dX10_rule_37 (fun s12 es12 hI => ?_)
      replace E := zLet_s es12 E
      have hS := hS.i hv11 es12 rfl
      refine zg_iconst X 1 dX10_rule_40 (by decide) (fun v13 _ hv13 => ?_)
      replace E := zLet_s (zcst hv13 (by decide)) E
      exact ret _ _ _ _ dX10_rule_41 (zb_bool ⟨by omega, by omega⟩) ⟨E.symm.trans hR, hS, ⟨⟨by omega, by omega⟩, hI⟩⟩
    · skip
      replace E := zIf_t c7 E
      refine zg_iconst X 0 dX10_rule_19 (by decide) (fun v14 _ hv14 => ?_)
      replace E := zLet_s (zcst hv14 (by decide)) E
      exact ret _ _ _ _ dX10_rule_20 (zb_bool ⟨by omega, by omega⟩) ⟨E.symm.trans hR, hS, ⟨⟨by omega, by omega⟩, hI⟩⟩
set_option maxHeartbeats 4000000 in
set_option maxRecDepth 100000 in
theorem t_X10_months (l : Launch) (d : zD2) (L : List Nat) (kd : Nat → Nat) (κ : Int) (σ : zS) (hI : zI κ 0 L kd σ) (a0 : Nat) (ha0 : zT L kd a0 10) (p1 : Int32) : zMi l yX10_months (Cond.code yX10_months cX10_months 2 (some .int) :: zWL) 7 [.ref a0, .int p1] d L kd σ (fun v σ2 => (v, σ2) = F_X10_months a0 p1 σ ∧ zSm [1, 4, 6, 20, 21, 22, 23, 24, 30, 31, 32, 33, 34, 35, 36, 38] [5] L kd σ σ2 ∧ (zI κ 0 L kd σ2)) := by
  refine zMi.of (own := RX10) (by decide +kernel) rfl rfl (Nat.le_of_ble_eq_true rfl) ?_
  intro p e s m args below meth c A Q X ret
  refine zg_lv (lv2 := [(0, .ref a0), (1, .int p1)]) rfl ?_
  obtain ⟨R, hR⟩ : ∃ R, R = F_X10_months a0 p1 σ := ⟨_, rfl⟩
  have E := hR
  unfold F_X10_months at E
  have hS : zSm [1, 4, 6, 20, 21, 22, 23, 24, 30, 31, 32, 33, 34, 35, 36, 38] [5] L kd σ σ := zSm.rf
  refine zg_iload_n X 1 rfl dX10_months_0 ?_
  refine zg_iconst X 0 dX10_months_1 (by decide) (fun v1 _ hv1 => ?_)
  replace E := zLet_s (zcst hv1 (by decide)) E
  refine zg_bipush X 60 dX10_months_2 (by decide) (fun v2 _ hv2 => ?_)
  replace E := zLet_s (zcst hv2 (by decide)) E
  refine zg_cSi (As := [.int p1, .int v1, .int v2]) (st := []) X (t_X10_isWithin l d L kd _ p1 v1 v2 ) mk_X10_229 mc_X10_isWithin mz_X10 ms_X10_isWithin (na := 3) ⟨md_X10.1, md_X10.2, by decide +kernel⟩ rfl ⟨by decide, by decide⟩ (Nat.le_of_ble_eq_true rfl) dX10_months_4 (fun v3 σ2 hq => ?_)
  obtain ⟨⟨hF, hv3⟩, rfl⟩ := hq
  replace E := zLet_s hF E
  refine zg_if_ne X 12 dX10_months_7 (by decide) (fun c4 => ?_) (fun c4 => ?_)
  · skip
    replace E := zIf_f c4 E
    refine zg_iload_n X 1 rfl dX10_months_12 ?_
    refine zg_if_le X 50 dX10_months_13 (by decide) (fun c5 => ?_) (fun c5 => ?_)
    · skip
      replace E := zIf_f (Int.not_lt.mpr c5) E
      refine zg_aload_n X 0 rfl dX10_months_50 ?_
      refine fg_X10_52 X hI ha0 dX10_months_51 (fun v6 ev6 hv6 => ?_)
      replace E := zLet_s (zgr ev6) E
      refine fg_X10_178 X hI hv6 dX10_months_54 (fun v7 ev7 _ => ?_)
      replace E := zLet_s ev7 E
      exact ret _ _ _ _ dX10_months_57 rfl ⟨E.symm.trans hR, hS, hI⟩
    · skip
      replace E := zIf_t c5 E
      refine zg_aload_n X 0 rfl dX10_months_16 ?_
      refine fg_X10_38 X hI ha0 dX10_months_17 (fun v8 ev8 hv8 => ?_)
      replace E := zLet_s (zgr ev8) E
      refine zg_aload_n X 0 rfl dX10_months_20 ?_
      refine fg_X10_52 X hI ha0 dX10_months_21 (fun v9 ev9 hv9 => ?_)
      replace E := zLet_s (zgr ev9) E
      refine zg_cVv (As := [.ref v9]) (st := []) X hv8 rfl (by decide) rfl (t_X4_push l d L kd κ 0 _ hI v8 hv8 v9 hv9 ) mk_X10_219 mc_X4_push mz_X4 mi_X4_push ml_X4_push (na := 1) ⟨md_X4.1, md_X4.2, by decide +kernel⟩ rfl ⟨by decide, by decide⟩ (Nat.le_of_ble_eq_true rfl) dX10_months_24 (fun s10 hq => ?_)
      obtain ⟨hF, hS2, hI⟩ := hq
      replace E := zLet_s hF E
      have hS := hS.tr hS2 rfl rfl
      refine zg_aload_n X 0 rfl dX10_months_27 ?_
      refine fg_X10_26 X hI ha0 dX10_months_28 (fun v11 ev11 hv11 => ?_)
      replace E := zLet_s (zgr ev11) E
      refine zg_aload_n X 0 rfl dX10_months_31 ?_
      refine fg_X10_70 X hI ha0 dX10_months_32 (fun v12 ev12 hv12 => ?_)
      replace E := zLet_s (zgr ev12) E
      refine zg_aload_n X 0 rfl dX10_months_35 ?_
      refine fg_X10_52 X hI ha0 dX10_months_36 (fun v13 ev13 hv13 => ?_)
      replace E := zLet_s (zgr ev13) E
      refine zg_iload_n X 1 rfl dX10_months_39 ?_
      refine zg_aload_n X 0 rfl dX10_months_40 ?_
      refine fg_X10_70 X hI ha0 dX10_months_41 (fun v14 ev14 hv14 => ?_)
      replace E := zLet_s (zgr ev14) E
      refine fg_X10_203 X hI hv14 dX10_months_44 (fun v15 ev15 _ => ?_)
      replace E := zLet_s ev15 E
      refine zg_cVv (As := [.ref v12, .ref v13, .int p1, .int v15]) (st := []) X hv11 rfl (by decide) rfl (t_X5_goThrough l d L kd κ 0 _ hI v11 hv11 v12 hv12 v13 hv13 p1 v15 (by omega)) mk_X10_233 mc_X5_goThrough mz_X5 mi_X5_goThrough ml_X5_goThrough (na := 4) ⟨md_X5.1, md_X5.2, by decide +kernel⟩ rfl ⟨by decide, by decide⟩ (Nat.le_of_ble_eq_true rfl) dX10_months_47 (fun s16 hq => ?_)
      obtain ⟨hF, hS2, hI⟩ := hq
      replace E := zLet_s hF E
      have hS := hS.tr hS2 rfl rfl
      refine zg_aload_n X 0 rfl dX10_months_50 ?_
      refine fg_X10_52 X hI ha0 dX10_months_51 (fun v17 ev17 hv17 => ?_)
      replace E := zLet_s (zgr ev17) E
      refine fg_X10_178 X hI hv17 dX10_months_54 (fun v18 ev18 _ => ?_)
      replace E := zLet_s ev18 E
      exact ret _ _ _ _ dX10_months_57 rfl ⟨E.symm.trans hR, hS, (zi_weak hI)⟩
  · skip
    replace E := zIf_t c4 E
    refine zg_iconst X (-1) dX10_months_10 (by decide) (fun v19 _ hv19 => ?_)
    replace E := zLet_s (zcst hv19 (by decide)) E
    exact ret _ _ _ _ dX10_months_11 rfl ⟨E.symm.trans hR, hS, hI⟩
set_option maxHeartbeats 4000000 in
set_option maxRecDepth 100000 in
theorem t_X10_undo (l : Launch) (d : zD2) (L : List Nat) (kd : Nat → Nat) (κ : Int) (σ : zS) (hI : zI κ 0 L kd σ) (a0 : Nat) (ha0 : zT L kd a0 10) : zMi l yX10_undo (Cond.code yX10_undo cX10_undo 1 (some .boolean) :: zWL) 3 [.ref a0] d L kd σ (fun v σ2 => (v, σ2) = F_X10_undo a0 σ ∧ zSm [1, 4, 22, 23, 24] [] L kd σ σ2 ∧ ((0 ≤ v.toInt ∧ v.toInt ≤ 1) ∧ zI κ 0 L kd σ2)) := by
  refine zMi.of (own := RX10) (by decide +kernel) rfl rfl (Nat.le_of_ble_eq_true rfl) ?_
  intro p e s m args below meth c A Q X ret
  refine zg_lv (lv2 := [(0, .ref a0)]) rfl ?_
  obtain ⟨R, hR⟩ : ∃ R, R = F_X10_undo a0 σ := ⟨_, rfl⟩
  have E := hR
  unfold F_X10_undo at E
  have hS : zSm [1, 4, 22, 23, 24] [] L kd σ σ := zSm.rf
  refine zg_aload_n X 0 rfl dX10_undo_0 ?_
  refine fg_X10_38 X hI ha0 dX10_undo_1 (fun v1 ev1 hv1 => ?_)
  replace E := zLet_s (zgr ev1) E
  refine zg_aload_n X 0 rfl dX10_undo_4 ?_
  refine fg_X10_52 X hI ha0 dX10_undo_5 (fun v2 ev2 hv2 => ?_)
  replace E := zLet_s (zgr ev2) E
  refine zg_cVi (As := [.ref v2]) (st := []) X hv1 rfl (by decide) rfl (t_X4_pop l d L kd κ 0 _ hI v1 hv1 v2 hv2 ) mk_X10_237 mc_X4_pop mz_X4 mi_X4_pop ml_X4_pop (na := 1) ⟨md_X4.1, md_X4.2, by decide +kernel⟩ rfl ⟨by decide, by decide⟩ (Nat.le_of_ble_eq_true rfl) dX10_undo_8 (fun v3 s4 hq => ?_)
  obtain ⟨hF, hS2, hI⟩ := hq
  replace E := zLet2_s hF E
  have hS := hS.tr hS2 rfl rfl
  obtain ⟨hv3, hI⟩ := hI
  exact ret _ _ _ _ dX10_undo_11 (zb_bool ⟨by omega, by omega⟩) ⟨E.symm.trans hR, hS, ⟨⟨by omega, by omega⟩, hI⟩⟩
set_option maxHeartbeats 4000000 in
set_option maxRecDepth 100000 in
theorem t_X10_hold (l : Launch) (d : zD2) (L : List Nat) (kd : Nat → Nat) (κ : Int) (σ : zS) (hI : zI κ 0 L kd σ) (a0 : Nat) (ha0 : zT L kd a0 10) (p1 : Int32) : zMi l yX10_hold (Cond.code yX10_hold cX10_hold 2 (some .boolean) :: zWL) 2 [.ref a0, .int p1] d L kd σ (fun v σ2 => (v, σ2) = F_X10_hold a0 p1 σ ∧ zSm [1, 10, 22, 23, 24] [] L kd σ σ2 ∧ (((v.toInt = 1 ∧ 0 ≤ p1.toInt ∧ p1.toInt ≤ 2) ∨ (v.toInt = 0 ∧ (p1.toInt < 0 ∨ 2 < p1.toInt))) ∧ zI κ 0 L kd σ2)) := by
  refine zMi.of (own := RX10) (by decide +kernel) rfl rfl (Nat.le_of_ble_eq_true rfl) ?_
  intro p e s m args below meth c A Q X ret
  refine zg_lv (lv2 := [(0, .ref a0), (1, .int p1)]) rfl ?_
  obtain ⟨R, hR⟩ : ∃ R, R = F_X10_hold a0 p1 σ := ⟨_, rfl⟩
  have E := hR
  unfold F_X10_hold at E
  have hS : zSm [1, 10, 22, 23, 24] [] L kd σ σ := zSm.rf
  refine zg_iload_n X 1 rfl dX10_hold_0 ?_
  refine zg_iconst X 0 dX10_hold_1 (by decide) (fun v1 _ hv1 => ?_)
  replace E := zLet_s (zcst hv1 (by decide)) E
  refine zg_iconst X 2 dX10_hold_2 (by decide) (fun v2 _ hv2 => ?_)
  replace E := zLet_s (zcst hv2 (by decide)) E
  refine zg_cSi (As := [.int p1, .int v1, .int v2]) (st := []) X (t_X10_isWithin l d L kd _ p1 v1 v2 ) mk_X10_229 mc_X10_isWithin mz_X10 ms_X10_isWithin (na := 3) ⟨md_X10.1, md_X10.2, by decide +kernel⟩ rfl ⟨by decide, by decide⟩ (Nat.le_of_ble_eq_true rfl) dX10_hold_3 (fun v3 σ2 hq => ?_)
  obtain ⟨⟨hF, hv3⟩, rfl⟩ := hq
  replace E := zLet_s hF E
  refine zg_if_ne X 11 dX10_hold_6 (by decide) (fun c4 => ?_) (fun c4 => ?_)
  · skip
    replace E := zIf_f c4 E
    refine zg_aload_n X 0 rfl dX10_hold_11 ?_
    refine fg_X10_59 X hI ha0 dX10_hold_12 (fun v5 ev5 hv5 => ?_)
    replace E := zLet_s (zgr ev5) E
    refine zg_iload_n X 1 rfl dX10_hold_15 ?_
    refine ag_52 X hI hv5 (by omega) (by omega) dX10_hold_16 (fun v6 ev6 hv6 => ?_)
    replace E := zLet_s (zgr ev6) E
    refine zg_aload_n X 0 rfl dX10_hold_17 ?_
    refine fg_X10_52 X hI ha0 dX10_hold_18 (fun v7 ev7 hv7 => ?_)
    replace E := zLet_s (zgr ev7) E
    refine zg_cVv (As := [.ref v7]) (st := []) X hv6 rfl (by decide) rfl (t_X1_copy l d L kd κ 0 _ hI v6 hv6 v7 hv7 ) mk_X10_241 mc_X1_copy mz_X1 mi_X1_copy ml_X1_copy (na := 1) ⟨md_X1.1, md_X1.2, by decide +kernel⟩ rfl ⟨by decide, by decide⟩ (Nat.le_of_ble_eq_true rfl) dX10_hold_21 (fun s8 hq => ?_)
    obtain ⟨hF, hS2, hI⟩ := hq
    replace E := zLet_s hF E
    have hS := hS.tr hS2 rfl rfl
    refine zg_aload_n X 0 rfl dX10_hold_24 ?_
    refine zg_dup X dX10_hold_25 rfl ?_
    refine fg_X10_77 X hI ha0 dX10_hold_26 (fun v9 ev9 _ => ?_)
    replace E := zLet_s ev9 E
    refine zg_iload_n X 1 rfl dX10_hold_29 ?_
    refine zg_cSi (As := [.int p1]) (st := [.int v9, .ref a0]) X (t_X10_bit l d L kd _ p1 ) mk_X10_216 mc_X10_bit mz_X10 ms_X10_bit (na := 1) ⟨md_X10.1, md_X10.2, by decide +kernel⟩ rfl ⟨by decide, by decide⟩ (Nat.le_of_ble_eq_true rfl) dX10_hold_30 (fun v10 σ2 hq => ?_)
    obtain ⟨⟨hF, hv10⟩, rfl⟩ := hq
    replace E := zLet_s hF E
    refine zg_iorW X dX10_hold_33 (fun v11 ev11 => ?_)
    replace E := zLet_s ev11 E
    refine fp_X10_77 X hI ha0 (zb_rng _) dX10_hold_34 (fun s12 es12 hI => ?_)
    replace E := zLet_s es12 E
    have hS := hS.i ha0 es12 rfl
    refine zg_iconst X 1 dX10_hold_37 (by decide) (fun v13 _ hv13 => ?_)
    replace E := zLet_s (zcst hv13 (by decide)) E
    exact ret _ _ _ _ dX10_hold_38 (zb_bool ⟨by omega, by omega⟩) ⟨E.symm.trans hR, hS, ⟨by omega, hI⟩⟩
  · skip
    replace E := zIf_t c4 E
    refine zg_iconst X 0 dX10_hold_9 (by decide) (fun v14 _ hv14 => ?_)
    replace E := zLet_s (zcst hv14 (by decide)) E
    exact ret _ _ _ _ dX10_hold_10 (zb_bool ⟨by omega, by omega⟩) ⟨E.symm.trans hR, hS, ⟨by omega, hI⟩⟩
set_option maxHeartbeats 4000000 in
set_option maxRecDepth 100000 in
theorem t_X10_restore (l : Launch) (d : zD2) (L : List Nat) (kd : Nat → Nat) (κ : Int) (σ : zS) (hI : zI κ 0 L kd σ) (a0 : Nat) (ha0 : zT L kd a0 10) (p1 : Int32) : zMi l yX10_restore (Cond.code yX10_restore cX10_restore 2 (some .boolean) :: zWL) 2 [.ref a0, .int p1] d L kd σ (fun v σ2 => (v, σ2) = F_X10_restore a0 p1 σ ∧ zSm [1, 4, 22, 23, 24] [] L kd σ σ2 ∧ ((0 ≤ v.toInt ∧ v.toInt ≤ 1) ∧ zI κ 0 L kd σ2)) := by
  refine zMi.of (own := RX10) (by decide +kernel) rfl rfl (Nat.le_of_ble_eq_true rfl) ?_
  intro p e s m args below meth c A Q X ret
  refine zg_lv (lv2 := [(0, .ref a0), (1, .int p1)]) rfl ?_
  obtain ⟨R, hR⟩ : ∃ R, R = F_X10_restore a0 p1 σ := ⟨_, rfl⟩
  have E := hR
  unfold F_X10_restore at E
  have hS : zSm [1, 4, 22, 23, 24] [] L kd σ σ := zSm.rf
  refine zg_iload_n X 1 rfl dX10_restore_0 ?_
  refine zg_iconst X 0 dX10_restore_1 (by decide) (fun v1 _ hv1 => ?_)
  replace E := zLet_s (zcst hv1 (by decide)) E
  refine zg_iconst X 2 dX10_restore_2 (by decide) (fun v2 _ hv2 => ?_)
  replace E := zLet_s (zcst hv2 (by decide)) E
  refine zg_cSi (As := [.int p1, .int v1, .int v2]) (st := []) X (t_X10_isWithin l d L kd _ p1 v1 v2 ) mk_X10_229 mc_X10_isWithin mz_X10 ms_X10_isWithin (na := 3) ⟨md_X10.1, md_X10.2, by decide +kernel⟩ rfl ⟨by decide, by decide⟩ (Nat.le_of_ble_eq_true rfl) dX10_restore_3 (fun v3 σ2 hq => ?_)
  obtain ⟨⟨hF, hv3⟩, rfl⟩ := hq
  replace E := zLet_s hF E
  refine zg_if_eq X 20 dX10_restore_6 (by decide) (fun c4 => ?_) (fun c4 => ?_)
  · skip
    replace E := zIf_t c4 E
    refine zg_iconst X 0 dX10_restore_20 (by decide) (fun v5 _ hv5 => ?_)
    replace E := zLet_s (zcst hv5 (by decide)) E
    exact ret _ _ _ _ dX10_restore_21 (zb_bool ⟨by omega, by omega⟩) ⟨E.symm.trans hR, hS, ⟨⟨by omega, by omega⟩, hI⟩⟩
  · skip
    replace E := zIf_f c4 E
    refine zg_aload_n X 0 rfl dX10_restore_9 ?_
    refine fg_X10_77 X hI ha0 dX10_restore_10 (fun v6 ev6 _ => ?_)
    replace E := zLet_s ev6 E
    refine zg_iload_n X 1 rfl dX10_restore_13 ?_
    refine zg_cSi (As := [.int v6, .int p1]) (st := []) X (t_X10_has l d L kd _ v6 p1 ) mk_X10_131 mc_X10_has mz_X10 ms_X10_has (na := 2) ⟨md_X10.1, md_X10.2, by decide +kernel⟩ rfl ⟨by decide, by decide⟩ (Nat.le_of_ble_eq_true rfl) dX10_restore_14 (fun v7 σ2 hq => ?_)
    obtain ⟨⟨hF, hv7⟩, rfl⟩ := hq
    replace E := zLet_s hF E
    refine zg_if_ne X 22 dX10_restore_17 (by decide) (fun c8 => ?_) (fun c8 => ?_)
    · skip
      replace E := zIf_f c8 E
      refine zg_aload_n X 0 rfl dX10_restore_22 ?_
      refine fg_X10_52 X hI ha0 dX10_restore_23 (fun v9 ev9 hv9 => ?_)
      replace E := zLet_s (zgr ev9) E
      refine zg_aload_n X 0 rfl dX10_restore_26 ?_
      refine fg_X10_59 X hI ha0 dX10_restore_27 (fun v10 ev10 hv10 => ?_)
      replace E := zLet_s (zgr ev10) E
      refine zg_iload_n X 1 rfl dX10_restore_30 ?_
      refine ag_52 X hI hv10 (by omega) (by omega) dX10_restore_31 (fun v11 ev11 hv11 => ?_)
      replace E := zLet_s (zgr ev11) E
      refine zg_cVv (As := [.ref v11]) (st := []) X hv9 rfl (by decide) rfl (t_X1_copy l d L kd κ 0 _ hI v9 hv9 v11 hv11 ) mk_X10_241 mc_X1_copy mz_X1 mi_X1_copy ml_X1_copy (na := 1) ⟨md_X1.1, md_X1.2, by decide +kernel⟩ rfl ⟨by decide, by decide⟩ (Nat.le_of_ble_eq_true rfl) dX10_restore_32 (fun s12 hq => ?_)
      obtain ⟨hF, hS2, hI⟩ := hq
      replace E := zLet_s hF E
      have hS := hS.tr hS2 rfl rfl
      refine zg_aload_n X 0 rfl dX10_restore_35 ?_
      refine fg_X10_38 X hI ha0 dX10_restore_36 (fun v13 ev13 hv13 => ?_)
      replace E := zLet_s (zgr ev13) E
      refine zg_iconst X 0 dX10_restore_39 (by decide) (fun v14 _ hv14 => ?_)
      replace E := zLet_s (zcst hv14 (by decide)) E
      refine fp_X10_107 X hI hv13 ⟨by omega, by omega⟩ dX10_restore_40 (fun s15 es15 hI => ?_)
      replace E := zLet_s es15 E
      have hS := hS.i hv13 es15 rfl
      refine zg_iconst X 1 dX10_restore_43 (by decide) (fun v16 _ hv16 => ?_)
      replace E := zLet_s (zcst hv16 (by decide)) E
      exact ret _ _ _ _ dX10_restore_44 (zb_bool ⟨by omega, by omega⟩) ⟨E.symm.trans hR, hS, ⟨⟨by omega, by omega⟩, hI⟩⟩
    · skip
      replace E := zIf_t c8 E
      refine zg_iconst X 0 dX10_restore_20 (by decide) (fun v17 _ hv17 => ?_)
      replace E := zLet_s (zcst hv17 (by decide)) E
      exact ret _ _ _ _ dX10_restore_21 (zb_bool ⟨by omega, by omega⟩) ⟨E.symm.trans hR, hS, ⟨⟨by omega, by omega⟩, hI⟩⟩
set_option maxHeartbeats 4000000 in
set_option maxRecDepth 100000 in
theorem t_X10_behind (l : Launch) (d : zD2) (L : List Nat) (kd : Nat → Nat) (κ : Int) (σ : zS) (hI : zI κ 0 L kd σ) (a0 : Nat) (ha0 : zT L kd a0 10) (p1 : Int32) (p2 : Int32) : zMi l yX10_behind (Cond.code yX10_behind cX10_behind 4 (some .int) :: zWL) 7 [.ref a0, .int p1, .int p2] d L kd σ (fun v σ2 => (v, σ2) = F_X10_behind a0 p1 p2 σ ∧ zSm [6, 20, 21, 30, 31, 32, 33, 34, 35, 36, 38] [5] L kd σ σ2 ∧ (zI κ 0 L kd σ2)) := by
  refine zMi.of (own := RX10) (by decide +kernel) rfl rfl (Nat.le_of_ble_eq_true rfl) ?_
  intro p e s m args below meth c A Q X ret
  refine zg_lv (lv2 := [(0, .ref a0), (1, .int p1), (2, .int p2)]) rfl ?_
  obtain ⟨R, hR⟩ : ∃ R, R = F_X10_behind a0 p1 p2 σ := ⟨_, rfl⟩
  have E := hR
  unfold F_X10_behind at E
  have hS : zSm [6, 20, 21, 30, 31, 32, 33, 34, 35, 36, 38] [5] L kd σ σ := zSm.rf
  refine zg_aload_n X 0 rfl dX10_behind_0 ?_
  refine zg_iload_n X 1 rfl dX10_behind_1 ?_
  refine zg_iload_n X 2 rfl dX10_behind_2 ?_
  refine zg_cVi (As := [.int p1, .int p2]) (st := []) X ha0 rfl (by decide) rfl (t_X10_isContest l d L kd κ 0 _ hI a0 ha0 p1 p2 ) mk_X10_162 mc_X10_isContest mz_X10 mi_X10_isContest ml_X10_isContest (na := 2) ⟨md_X10.1, md_X10.2, by decide +kernel⟩ rfl ⟨by decide, by decide⟩ (Nat.le_of_ble_eq_true rfl) dX10_behind_3 (fun v1 s2 hq => ?_)
  obtain ⟨hF, hS2, hI⟩ := hq
  replace E := zLet2_s hF E
  have hS := hS.tr hS2 rfl rfl
  obtain ⟨hv1, hI⟩ := hI
  refine zg_if_ne X 11 dX10_behind_6 (by decide) (fun c3 => ?_) (fun c3 => ?_)
  · skip
    replace E := zIf_f c3 E
    refine zg_aload_n X 0 rfl dX10_behind_11 ?_
    refine fg_X10_26 X hI ha0 dX10_behind_12 (fun v4 ev4 hv4 => ?_)
    replace E := zLet_s (zgr ev4) E
    refine zg_iload_n X 2 rfl dX10_behind_15 ?_
    refine zg_cVi (As := [.int p2]) (st := []) X hv4 rfl (by decide) rfl (t_X5_winnerBy l d L kd κ _ hI v4 hv4 p2 (by omega)) mk_X10_172 mc_X5_winnerBy mz_X5 mi_X5_winnerBy ml_X5_winnerBy (na := 1) ⟨md_X5.1, md_X5.2, by decide +kernel⟩ rfl ⟨by decide, by decide⟩ (Nat.le_of_ble_eq_true rfl) dX10_behind_16 (fun v5 s6 hq => ?_)
    obtain ⟨hF, hS2, hI⟩ := hq
    replace E := zLet2_s hF E
    have hS := hS.tr hS2 rfl rfl
    obtain ⟨hv5, hI⟩ := hI
    refine zg_istore_n X [(3, .int v5), (0, .ref a0), (1, .int p1), (2, .int p2)] dX10_behind_19 (by decide) rfl ?_
    refine zg_iload_n X 0 rfl dX10_behind_20 ?_
    refine zg_if_ge X 28 dX10_behind_21 (by decide) (fun c7 => ?_) (fun c7 => ?_)
    · skip
      replace E := zIf_f (Int.not_lt.mpr c7) E
      refine zg_aload_n X 1 rfl dX10_behind_28 ?_
      refine fg_X10_26 X hI ha0 dX10_behind_29 (fun v8 ev8 hv8 => ?_)
      replace E := zLet_s (zgr ev8) E
      refine fg_X10_244 X hI hv8 dX10_behind_32 (fun v9 ev9 hv9 => ?_)
      replace E := zLet_s (zgr ev9) E
      refine zg_iload_n X 0 rfl dX10_behind_35 ?_
      refine ag_32 X hI hv9 (by omega) (by omega) dX10_behind_36 (fun v10 ev10 _ => ?_)
      replace E := zLet_s ev10 E
      refine zg_aload_n X 1 rfl dX10_behind_37 ?_
      refine fg_X10_26 X hI ha0 dX10_behind_38 (fun v11 ev11 hv11 => ?_)
      replace E := zLet_s (zgr ev11) E
      refine fg_X10_244 X hI hv11 dX10_behind_41 (fun v12 ev12 hv12 => ?_)
      replace E := zLet_s (zgr ev12) E
      refine zg_iload_n X 2 rfl dX10_behind_44 ?_
      refine ag_32 X hI hv12 (by omega) (by omega) dX10_behind_45 (fun v13 ev13 _ => ?_)
      replace E := zLet_s ev13 E
      refine zg_isubW X dX10_behind_46 (fun v14 ev14 => ?_)
      replace E := zLet_s ev14 E
      exact ret _ _ _ _ dX10_behind_47 rfl ⟨E.symm.trans hR, hS, (zi_weak hI)⟩
    · skip
      replace E := zIf_t c7 E
      refine zg_iconst X (-1) dX10_behind_24 (by decide) (fun v15 _ hv15 => ?_)
      replace E := zLet_s (zcst hv15 (by decide)) E
      refine zg_goto X 47 dX10_behind_25 (by decide) ?_
      exact ret _ _ _ _ dX10_behind_47 rfl ⟨E.symm.trans hR, hS, (zi_weak hI)⟩
  · skip
    replace E := zIf_t c3 E
    refine zg_iconst X (-1) dX10_behind_9 (by decide) (fun v16 _ hv16 => ?_)
    replace E := zLet_s (zcst hv16 (by decide)) E
    exact ret _ _ _ _ dX10_behind_10 rfl ⟨E.symm.trans hR, hS, (zi_weak hI)⟩
set_option maxHeartbeats 4000000 in
set_option maxRecDepth 100000 in
theorem t_X10_margin (l : Launch) (d : zD2) (L : List Nat) (kd : Nat → Nat) (κ : Int) (σ : zS) (hI : zI κ 0 L kd σ) (a0 : Nat) (ha0 : zT L kd a0 10) (p1 : Int32) : zMi l yX10_margin (Cond.code yX10_margin cX10_margin 4 (some .int) :: zWL) 7 [.ref a0, .int p1] d L kd σ (fun v σ2 => (v, σ2) = F_X10_margin a0 p1 σ ∧ zSm [6, 20, 21, 30, 31, 32, 33, 34, 35, 36, 38] [5] L kd σ σ2 ∧ (zI κ 0 L kd σ2)) := by
  refine zMi.of (own := RX10) (by decide +kernel) rfl rfl (Nat.le_of_ble_eq_true rfl) ?_
  intro p e s m args below meth c A Q X ret
  refine zg_lv (lv2 := [(0, .ref a0), (1, .int p1)]) rfl ?_
  obtain ⟨R, hR⟩ : ∃ R, R = F_X10_margin a0 p1 σ := ⟨_, rfl⟩
  have E := hR
  unfold F_X10_margin at E
  have hS : zSm [6, 20, 21, 30, 31, 32, 33, 34, 35, 36, 38] [5] L kd σ σ := zSm.rf
  refine zg_aload_n X 0 rfl dX10_margin_0 ?_
  refine zg_iload_n X 1 rfl dX10_margin_1 ?_
  refine zg_cVi (As := [.int p1]) (st := []) X ha0 rfl (by decide) rfl (t_X10_isLaw l d L kd κ 0 _ hI a0 ha0 p1 ) mk_X10_169 mc_X10_isLaw mz_X10 mi_X10_isLaw ml_X10_isLaw (na := 1) ⟨md_X10.1, md_X10.2, by decide +kernel⟩ rfl ⟨by decide, by decide⟩ (Nat.le_of_ble_eq_true rfl) dX10_margin_2 (fun v1 s2 hq => ?_)
  obtain ⟨hF, hS2, hI⟩ := hq
  replace E := zLet2_s hF E
  have hS := hS.tr hS2 rfl rfl
  obtain ⟨hv1, hI⟩ := hI
  refine zg_if_ne X 10 dX10_margin_5 (by decide) (fun c3 => ?_) (fun c3 => ?_)
  · skip
    replace E := zIf_f c3 E
    refine zg_aload_n X 0 rfl dX10_margin_10 ?_
    refine zg_cVv (As := []) (st := []) X ha0 rfl (by decide) rfl (t_X10_look l d L kd κ 0 _ hI a0 ha0 ) mk_X10_113 mc_X10_look mz_X10 mi_X10_look ml_X10_look (na := 0) ⟨md_X10.1, md_X10.2, by decide +kernel⟩ rfl ⟨by decide, by decide⟩ (Nat.le_of_ble_eq_true rfl) dX10_margin_11 (fun s4 hq => ?_)
    obtain ⟨hF, hS2, hI⟩ := hq
    replace E := zLet_s hF E
    have hS := hS.tr hS2 rfl rfl
    refine zg_aload_n X 0 rfl dX10_margin_14 ?_
    refine fg_X10_26 X hI ha0 dX10_margin_15 (fun v5 ev5 hv5 => ?_)
    replace E := zLet_s (zgr ev5) E
    refine zg_iload_n X 1 rfl dX10_margin_18 ?_
    refine zg_cVv (As := [.int p1]) (st := []) X hv5 rfl (by decide) rfl (t_X5_weigh l d L kd κ _ hI v5 hv5 p1 (by omega)) mk_X10_247 mc_X5_weigh mz_X5 mi_X5_weigh ml_X5_weigh (na := 1) ⟨md_X5.1, md_X5.2, by decide +kernel⟩ rfl ⟨by decide, by decide⟩ (Nat.le_of_ble_eq_true rfl) dX10_margin_19 (fun s6 hq => ?_)
    obtain ⟨hF, hS2, hI⟩ := hq
    replace E := zLet_s hF E
    have hS := hS.tr hS2 rfl rfl
    refine zg_aload_n X 0 rfl dX10_margin_22 ?_
    refine fg_X10_26 X hI ha0 dX10_margin_23 (fun v7 ev7 hv7 => ?_)
    replace E := zLet_s (zgr ev7) E
    refine zg_iconst X (-1) dX10_margin_26 (by decide) (fun v8 _ hv8 => ?_)
    replace E := zLet_s (zcst hv8 (by decide)) E
    refine zg_cVi (As := [.int v8]) (st := []) X hv7 rfl (by decide) rfl (t_X5_greatestClaim l d L kd κ _ hI v7 hv7 v8 ) mk_X10_250 mc_X5_greatestClaim mz_X5 mi_X5_greatestClaim ml_X5_greatestClaim (na := 1) ⟨md_X5.1, md_X5.2, by decide +kernel⟩ rfl ⟨by decide, by decide⟩ (Nat.le_of_ble_eq_true rfl) dX10_margin_27 (fun v9 s10 hq => ?_)
    obtain ⟨hF, hS2, hI⟩ := hq
    replace E := zLet2_s hF E
    have hS := hS.tr hS2 rfl rfl
    obtain ⟨hv9, hI⟩ := hI
    refine zg_istore_n X [(2, .int v9), (0, .ref a0), (1, .int p1)] dX10_margin_30 (by decide) rfl ?_
    refine zg_aload_n X 1 rfl dX10_margin_31 ?_
    refine fg_X10_26 X hI ha0 dX10_margin_32 (fun v11 ev11 hv11 => ?_)
    replace E := zLet_s (zgr ev11) E
    refine zg_iload_n X 0 rfl dX10_margin_35 ?_
    refine zg_cVi (As := [.int v9]) (st := []) X hv11 rfl (by decide) rfl (t_X5_greatestClaim l d L kd κ _ hI v11 hv11 v9 ) mk_X10_250 mc_X5_greatestClaim mz_X5 mi_X5_greatestClaim ml_X5_greatestClaim (na := 1) ⟨md_X5.1, md_X5.2, by decide +kernel⟩ rfl ⟨by decide, by decide⟩ (Nat.le_of_ble_eq_true rfl) dX10_margin_36 (fun v12 s13 hq => ?_)
    obtain ⟨hF, hS2, hI⟩ := hq
    replace E := zLet2_s hF E
    have hS := hS.tr hS2 rfl rfl
    obtain ⟨hv12, hI⟩ := hI
    refine zg_istore_n X [(3, .int v12), (2, .int v9), (0, .ref a0), (1, .int p1)] dX10_margin_39 (by decide) rfl ?_
    refine zg_iload_n X 1 rfl dX10_margin_40 ?_
    refine zg_if_lt X 48 dX10_margin_41 (by decide) (fun c14 => ?_) (fun c14 => ?_)
    · skip
      replace E := zIf_t c14 E
      refine zg_bipush X (-2) dX10_margin_48 (by decide) (fun v15 _ hv15 => ?_)
      replace E := zLet_s (zcst hv15 (by decide)) E
      refine zg_goto X 72 dX10_margin_50 (by decide) ?_
      exact ret _ _ _ _ dX10_margin_72 rfl ⟨E.symm.trans hR, hS, (zi_weak hI)⟩
    · skip
      replace E := zIf_f (Int.not_lt.mpr c14) E
      refine zg_iload_n X 0 rfl dX10_margin_44 ?_
      refine zg_if_ge X 53 dX10_margin_45 (by decide) (fun c16 => ?_) (fun c16 => ?_)
      · skip
        replace E := zIf_f (Int.not_lt.mpr c16) E
        refine zg_aload_n X 2 rfl dX10_margin_53 ?_
        refine fg_X10_26 X hI ha0 dX10_margin_54 (fun v17 ev17 hv17 => ?_)
        replace E := zLet_s (zgr ev17) E
        refine fg_X10_244 X hI hv17 dX10_margin_57 (fun v18 ev18 hv18 => ?_)
        replace E := zLet_s (zgr ev18) E
        refine zg_iload_n X 1 rfl dX10_margin_60 ?_
        refine ag_32 X hI hv18 (by omega) (by omega) dX10_margin_61 (fun v19 ev19 _ => ?_)
        replace E := zLet_s ev19 E
        refine zg_aload_n X 2 rfl dX10_margin_62 ?_
        refine fg_X10_26 X hI ha0 dX10_margin_63 (fun v20 ev20 hv20 => ?_)
        replace E := zLet_s (zgr ev20) E
        refine fg_X10_244 X hI hv20 dX10_margin_66 (fun v21 ev21 hv21 => ?_)
        replace E := zLet_s (zgr ev21) E
        refine zg_iload_n X 0 rfl dX10_margin_69 ?_
        refine ag_32 X hI hv21 (by omega) (by omega) dX10_margin_70 (fun v22 ev22 _ => ?_)
        replace E := zLet_s ev22 E
        refine zg_isubW X dX10_margin_71 (fun v23 ev23 => ?_)
        replace E := zLet_s ev23 E
        exact ret _ _ _ _ dX10_margin_72 rfl ⟨E.symm.trans hR, hS, (zi_weak hI)⟩
      · skip
        replace E := zIf_t c16 E
        refine zg_bipush X (-2) dX10_margin_48 (by decide) (fun v24 _ hv24 => ?_)
        replace E := zLet_s (zcst hv24 (by decide)) E
        refine zg_goto X 72 dX10_margin_50 (by decide) ?_
        exact ret _ _ _ _ dX10_margin_72 rfl ⟨E.symm.trans hR, hS, (zi_weak hI)⟩
  · skip
    replace E := zIf_t c3 E
    refine zg_iconst X (-1) dX10_margin_8 (by decide) (fun v25 _ hv25 => ?_)
    replace E := zLet_s (zcst hv25 (by decide)) E
    exact ret _ _ _ _ dX10_margin_9 rfl ⟨E.symm.trans hR, hS, hI⟩
set_option maxHeartbeats 4000000 in
set_option maxRecDepth 100000 in
theorem t_X10_rank (l : Launch) (d : zD2) (L : List Nat) (kd : Nat → Nat) (κ : Int) (σ : zS) (hI : zI κ 0 L kd σ) (a0 : Nat) (ha0 : zT L kd a0 10) (p1 : Int32) (p2 : Int32) : zMi l yX10_rank (Cond.code yX10_rank cX10_rank 3 (some .int) :: zWL) 7 [.ref a0, .int p1, .int p2] d L kd σ (fun v σ2 => (v, σ2) = F_X10_rank a0 p1 p2 σ ∧ zSm [6, 20, 21, 30, 31, 32, 33, 34, 35, 36, 38] [5] L kd σ σ2 ∧ (zI κ 0 L kd σ2)) := by
  refine zMi.of (own := RX10) (by decide +kernel) rfl rfl (Nat.le_of_ble_eq_true rfl) ?_
  intro p e s m args below meth c A Q X ret
  refine zg_lv (lv2 := [(0, .ref a0), (1, .int p1), (2, .int p2)]) rfl ?_
  obtain ⟨R, hR⟩ : ∃ R, R = F_X10_rank a0 p1 p2 σ := ⟨_, rfl⟩
  have E := hR
  unfold F_X10_rank at E
  have hS : zSm [6, 20, 21, 30, 31, 32, 33, 34, 35, 36, 38] [5] L kd σ σ := zSm.rf
  refine zg_aload_n X 0 rfl dX10_rank_0 ?_
  refine zg_iload_n X 1 rfl dX10_rank_1 ?_
  refine zg_iload_n X 2 rfl dX10_rank_2 ?_
  refine zg_cVi (As := [.int p1, .int p2]) (st := []) X ha0 rfl (by decide) rfl (t_X10_isContest l d L kd κ 0 _ hI a0 ha0 p1 p2 ) mk_X10_162 mc_X10_isContest mz_X10 mi_X10_isContest ml_X10_isContest (na := 2) ⟨md_X10.1, md_X10.2, by decide +kernel⟩ rfl ⟨by decide, by decide⟩ (Nat.le_of_ble_eq_true rfl) dX10_rank_3 (fun v1 s2 hq => ?_)
  obtain ⟨hF, hS2, hI⟩ := hq
  replace E := zLet2_s hF E
  have hS := hS.tr hS2 rfl rfl
  obtain ⟨hv1, hI⟩ := hI
  refine zg_if_ne X 11 dX10_rank_6 (by decide) (fun c3 => ?_) (fun c3 => ?_)
  · skip
    replace E := zIf_f c3 E
    refine zg_aload_n X 0 rfl dX10_rank_11 ?_
    refine fg_X10_26 X hI ha0 dX10_rank_12 (fun v4 ev4 hv4 => ?_)
    replace E := zLet_s (zgr ev4) E
    refine zg_iload_n X 2 rfl dX10_rank_15 ?_
    refine zg_cVv (As := [.int p2]) (st := []) X hv4 rfl (by decide) rfl (t_X5_weigh l d L kd κ _ hI v4 hv4 p2 (by omega)) mk_X10_247 mc_X5_weigh mz_X5 mi_X5_weigh ml_X5_weigh (na := 1) ⟨md_X5.1, md_X5.2, by decide +kernel⟩ rfl ⟨by decide, by decide⟩ (Nat.le_of_ble_eq_true rfl) dX10_rank_16 (fun s5 hq => ?_)
    obtain ⟨hF, hS2, hI⟩ := hq
    replace E := zLet_s hF E
    have hS := hS.tr hS2 rfl rfl
    refine zg_aload_n X 0 rfl dX10_rank_19 ?_
    refine fg_X10_26 X hI ha0 dX10_rank_20 (fun v6 ev6 hv6 => ?_)
    replace E := zLet_s (zgr ev6) E
    refine zg_iload_n X 1 rfl dX10_rank_23 ?_
    refine zg_cVi (As := [.int p1]) (st := []) X hv6 rfl (by decide) rfl (t_X5_rankOf l d L kd κ _ hI v6 hv6 p1 (by omega)) mk_X10_253 mc_X5_rankOf mz_X5 mi_X5_rankOf ml_X5_rankOf (na := 1) ⟨md_X5.1, md_X5.2, by decide +kernel⟩ rfl ⟨by decide, by decide⟩ (Nat.le_of_ble_eq_true rfl) dX10_rank_24 (fun v7 s8 hq => ?_)
    obtain ⟨hF, hS2, hI⟩ := hq
    replace E := zLet2_s hF E
    have hS := hS.tr hS2 rfl rfl
    exact ret _ _ _ _ dX10_rank_27 rfl ⟨E.symm.trans hR, hS, (zi_weak hI)⟩
  · skip
    replace E := zIf_t c3 E
    refine zg_iconst X (-1) dX10_rank_9 (by decide) (fun v9 _ hv9 => ?_)
    replace E := zLet_s (zcst hv9 (by decide)) E
    exact ret _ _ _ _ dX10_rank_10 rfl ⟨E.symm.trans hR, hS, (zi_weak hI)⟩
set_option maxHeartbeats 4000000 in
set_option maxRecDepth 100000 in
theorem t_X10_vote (l : Launch) (d : zD2) (L : List Nat) (kd : Nat → Nat) (κ : Int) (σ : zS) (hI : zI κ 0 L kd σ) (a0 : Nat) (ha0 : zT L kd a0 10) (p1 : Int32) : zMi l yX10_vote (Cond.code yX10_vote cX10_vote 4 (some .int) :: zWL) 7 [.ref a0, .int p1] d L kd σ (fun v σ2 => (v, σ2) = F_X10_vote a0 p1 σ ∧ zSm [6, 20, 21, 30, 31, 32, 33, 34, 35, 36, 38, 53] [5] L kd σ σ2 ∧ (zI κ 0 L kd σ2)) := by
  refine zMi.of (own := RX10) (by decide +kernel) rfl rfl (Nat.le_of_ble_eq_true rfl) ?_
  intro p e s m args below meth c A Q X ret
  refine zg_lv (lv2 := [(0, .ref a0), (1, .int p1)]) rfl ?_
  obtain ⟨R, hR⟩ : ∃ R, R = F_X10_vote a0 p1 σ := ⟨_, rfl⟩
  have E := hR
  unfold F_X10_vote at E
  have hS : zSm [6, 20, 21, 30, 31, 32, 33, 34, 35, 36, 38, 53] [5] L kd σ σ := zSm.rf
  refine zg_iload_n X 1 rfl dX10_vote_0 ?_
  refine zg_iconst X 0 dX10_vote_1 (by decide) (fun v1 _ hv1 => ?_)
  replace E := zLet_s (zcst hv1 (by decide)) E
  refine zg_iconst X 1 dX10_vote_2 (by decide) (fun v2 _ hv2 => ?_)
  replace E := zLet_s (zcst hv2 (by decide)) E
  refine zg_cSi (As := [.int p1, .int v1, .int v2]) (st := []) X (t_X10_isWithin l d L kd _ p1 v1 v2 ) mk_X10_229 mc_X10_isWithin mz_X10 ms_X10_isWithin (na := 3) ⟨md_X10.1, md_X10.2, by decide +kernel⟩ rfl ⟨by decide, by decide⟩ (Nat.le_of_ble_eq_true rfl) dX10_vote_3 (fun v3 σ2 hq => ?_)
  obtain ⟨⟨hF, hv3⟩, rfl⟩ := hq
  replace E := zLet_s hF E
  refine zg_if_ne X 11 dX10_vote_6 (by decide) (fun c4 => ?_) (fun c4 => ?_)
  · skip
    replace E := zIf_f c4 E
    refine zg_aload_n X 0 rfl dX10_vote_11 ?_
    refine zg_cVv (As := []) (st := []) X ha0 rfl (by decide) rfl (t_X10_look l d L kd κ 0 _ hI a0 ha0 ) mk_X10_113 mc_X10_look mz_X10 mi_X10_look ml_X10_look (na := 0) ⟨md_X10.1, md_X10.2, by decide +kernel⟩ rfl ⟨by decide, by decide⟩ (Nat.le_of_ble_eq_true rfl) dX10_vote_12 (fun s5 hq => ?_)
    obtain ⟨hF, hS2, hI⟩ := hq
    replace E := zLet_s hF E
    have hS := hS.tr hS2 rfl rfl
    refine zg_aload_n X 0 rfl dX10_vote_15 ?_
    refine fg_X10_34 X hI ha0 dX10_vote_16 (fun v6 ev6 hv6 => ?_)
    replace E := zLet_s (zgr ev6) E
    refine zg_cVi (As := []) (st := []) X hv6 rfl (by decide) rfl (t_X6_sources l d L kd κ 1 _ hI v6 hv6 ) mk_X10_188 mc_X6_sources mz_X6 mi_X6_sources ml_X6_sources (na := 0) ⟨md_X6.1, md_X6.2, by decide +kernel⟩ rfl ⟨by decide, by decide⟩ (Nat.le_of_ble_eq_true rfl) dX10_vote_19 (fun v7 s8 hq => ?_)
    obtain ⟨hF, hS2, hI⟩ := hq
    replace E := zLet2_s hF E
    have hS := hS.tr hS2 rfl rfl
    refine zg_if_ne X 28 dX10_vote_22 (by decide) (fun c9 => ?_) (fun c9 => ?_)
    · skip
      replace E := zIf_f c9 E
      refine zg_aload_n X 0 rfl dX10_vote_28 ?_
      refine zg_cVv (As := []) (st := []) X ha0 rfl (by decide) rfl (t_X10_castVotes l d L kd κ _ hI a0 ha0 ) mk_X10_256 mc_X10_castVotes mz_X10 mi_X10_castVotes ml_X10_castVotes (na := 0) ⟨md_X10.1, md_X10.2, by decide +kernel⟩ rfl ⟨by decide, by decide⟩ (Nat.le_of_ble_eq_true rfl) dX10_vote_29 (fun s10 hq => ?_)
      obtain ⟨hF, hS2, hI⟩ := hq
      replace E := zLet_s hF E
      have hS := hS.tr hS2 rfl rfl
      refine zg_iconst X 0 dX10_vote_32 (by decide) (fun v11 _ hv11 => ?_)
      replace E := zLet_s (zcst hv11 (by decide)) E
      refine zg_istore_n X [(2, .int v11), (0, .ref a0), (1, .int p1)] dX10_vote_33 (by decide) rfl ?_
      refine zg_iconst X 1 dX10_vote_34 (by decide) (fun v12 _ hv12 => ?_)
      replace E := zLet_s (zcst hv12 (by decide)) E
      refine zg_istore_n X [(3, .int v12), (2, .int v11), (0, .ref a0), (1, .int p1)] dX10_vote_35 (by decide) rfl ?_
      have Lp15 : ∀ (nLp15 : Nat) (τ15 : zS) (x13 : Int32) (x14 : Int32), zI κ 1 L kd τ15 → zSm [6, 20, 21, 30, 31, 32, 33, 34, 35, 36, 38, 53] [5] L kd σ τ15 → R = F_X10_vote_36 a0 p1  nLp15 x13 x14 τ15 → 1 ≤ x13.toInt ∧ x13.toInt ≤ 3 → (3) - x13.toInt + 1 < (nLp15 : Int) → zG d L kd A 4 p l e (k2_rm 7 (100 * 7)) s m args below meth c Q τ15 36 [(3, .int x13), (2, .int x14), (0, .ref a0), (1, .int p1)] [] := by
        intro nLp15
        induction nLp15 with
        | zero => intro τ15 x13 x14 hI hS E  hxLp15 hm ; exact absurd hm (by omega)
        | succ nLp15 ihLp15 =>
          intro τ15 x13 x14 hI hS E  hxLp15 hmLp15 
          rw [F_X10_vote_36] at E
          refine zg_iload_n X 0 rfl dX10_vote_36 ?_
          refine zg_iconst X 3 dX10_vote_37 (by decide) (fun v16 _ hv16 => ?_)
          replace E := zLet_s (zcst hv16 (by decide)) E
          refine zg_icmp_ge X 62 dX10_vote_38 (by decide) (fun c17 => ?_) (fun c17 => ?_)
          · skip
            replace E := zIf_f (Int.not_lt.mpr c17) E
            refine zg_iload_n X 3 rfl dX10_vote_62 ?_
            refine zg_if_ne X 70 dX10_vote_63 (by decide) (fun c18 => ?_) (fun c18 => ?_)
            · skip
              replace E := zIf_f c18 E
              refine zg_aload_n X 2 rfl dX10_vote_70 ?_
              refine zg_iload_n X 1 rfl dX10_vote_71 ?_
              refine zg_cVi (As := [.int x14]) (st := []) X ha0 rfl (by decide) rfl (t_X10_votesFor l d L kd κ 1 _ hI a0 ha0 x14 ) mk_X10_259 mc_X10_votesFor mz_X10 mi_X10_votesFor ml_X10_votesFor (na := 1) ⟨md_X10.1, md_X10.2, by decide +kernel⟩ rfl ⟨by decide, by decide⟩ (Nat.le_of_ble_eq_true rfl) dX10_vote_72 (fun v19 s20 hq => ?_)
              obtain ⟨hF, hS2, hI⟩ := hq
              replace E := zLet2_s hF E
              have hS := hS.tr hS2 rfl rfl
              exact ret _ _ _ _ dX10_vote_75 rfl ⟨E.symm.trans hR, hS, (zi_weak hI)⟩
            · skip
              replace E := zIf_t c18 E
              refine zg_iload_n X 1 rfl dX10_vote_66 ?_
              refine zg_goto X 75 dX10_vote_67 (by decide) ?_
              exact ret _ _ _ _ dX10_vote_75 rfl ⟨E.symm.trans hR, hS, (zi_weak hI)⟩
          · skip
            replace E := zIf_t c17 E
            refine zg_aload_n X 2 rfl dX10_vote_41 ?_
            refine zg_iload_n X 0 rfl dX10_vote_42 ?_
            refine zg_cVi (As := [.int x13]) (st := []) X ha0 rfl (by decide) rfl (t_X10_votesFor l d L kd κ 1 _ hI a0 ha0 x13 ) mk_X10_259 mc_X10_votesFor mz_X10 mi_X10_votesFor ml_X10_votesFor (na := 1) ⟨md_X10.1, md_X10.2, by decide +kernel⟩ rfl ⟨by decide, by decide⟩ (Nat.le_of_ble_eq_true rfl) dX10_vote_43 (fun v21 s22 hq => ?_)
            obtain ⟨hF, hS2, hI⟩ := hq
            replace E := zLet2_s hF E
            have hS := hS.tr hS2 rfl rfl
            refine zg_aload_n X 2 rfl dX10_vote_46 ?_
            refine zg_iload_n X 1 rfl dX10_vote_47 ?_
            refine zg_cVi (As := [.int x14]) (st := [.int v21]) X ha0 rfl (by decide) rfl (t_X10_votesFor l d L kd κ 1 _ hI a0 ha0 x14 ) mk_X10_259 mc_X10_votesFor mz_X10 mi_X10_votesFor ml_X10_votesFor (na := 1) ⟨md_X10.1, md_X10.2, by decide +kernel⟩ rfl ⟨by decide, by decide⟩ (Nat.le_of_ble_eq_true rfl) dX10_vote_48 (fun v23 s24 hq => ?_)
            obtain ⟨hF, hS2, hI⟩ := hq
            replace E := zLet2_s hF E
            have hS := hS.tr hS2 rfl rfl
            have zv21_z25 := zb_rng v21
            have zv23_z26 := zb_rng v23
            refine zg_icmp_le X 56 dX10_vote_51 (by decide) (fun c27 => ?_) (fun c27 => ?_)
            · skip
              replace E := zIf_f (Int.not_lt.mpr c27) E
              refine zg_iinc X 1 (fun v28 => [(3, .int v28), (2, .int x14), (0, .ref a0), (1, .int p1)]) 0 dX10_vote_56 rfl (by decide) (by decide) (by omega) (by omega) (fun _ => rfl) (fun v28 ev28 hv28 => ?_)
              replace E := zLet_s (zinc ev28 (by decide)) E
              refine zg_goto X 36 dX10_vote_59 (by decide) ?_
              refine zg_sub [0, 1, 2, 3] rfl ?_
              exact ihLp15 _ v28 x14 hI hS E  (by omega) (by omega) 
            · skip
              replace E := zIf_t c27 E
              refine zg_iload_n X 0 rfl dX10_vote_54 ?_
              refine zg_istore_n X [(2, .int x13), (3, .int x13), (0, .ref a0), (1, .int p1)] dX10_vote_55 (by decide) rfl ?_
              refine zg_iinc X 1 (fun v29 => [(3, .int v29), (2, .int x13), (0, .ref a0), (1, .int p1)]) 1 dX10_vote_56 rfl (by decide) (by decide) (by omega) (by omega) (fun _ => rfl) (fun v29 ev29 hv29 => ?_)
              replace E := zLet_s (zinc ev29 (by decide)) E
              refine zg_goto X 36 dX10_vote_59 (by decide) ?_
              refine zg_sub [0, 1, 2, 3] rfl ?_
              exact ihLp15 _ v29 x13 hI hS E  (by omega) (by omega) 
      refine zg_sub [0, 1, 2, 3] rfl ?_
      exact Lp15 10000 _ v12 v11 hI hS E  (by omega) (by omega) 
    · skip
      replace E := zIf_t c9 E
      refine zg_bipush X (-2) dX10_vote_25 (by decide) (fun v30 _ hv30 => ?_)
      replace E := zLet_s (zcst hv30 (by decide)) E
      exact ret _ _ _ _ dX10_vote_27 rfl ⟨E.symm.trans hR, hS, (zi_weak hI)⟩
  · skip
    replace E := zIf_t c4 E
    refine zg_iconst X (-1) dX10_vote_9 (by decide) (fun v31 _ hv31 => ?_)
    replace E := zLet_s (zcst hv31 (by decide)) E
    exact ret _ _ _ _ dX10_vote_10 rfl ⟨E.symm.trans hR, hS, hI⟩
set_option maxHeartbeats 4000000 in
set_option maxRecDepth 100000 in
theorem t_X10_richest (l : Launch) (d : zD2) (L : List Nat) (kd : Nat → Nat) (κ : Int) (σ : zS) (hI : zI κ 0 L kd σ) (a0 : Nat) (ha0 : zT L kd a0 10) (p1 : Int32) : zMi l yX10_richest (Cond.code yX10_richest cX10_richest 4 (some .int) :: zWL) 1 [.ref a0, .int p1] d L kd σ (fun v σ2 => (v, σ2) = F_X10_richest a0 p1 σ ∧ zSm [] [] L kd σ σ2 ∧ (zI κ 0 L kd σ2)) := by
  refine zMi.of (own := RX10) (by decide +kernel) rfl rfl (Nat.le_of_ble_eq_true rfl) ?_
  intro p e s m args below meth c A Q X ret
  refine zg_lv (lv2 := [(0, .ref a0), (1, .int p1)]) rfl ?_
  obtain ⟨R, hR⟩ : ∃ R, R = F_X10_richest a0 p1 σ := ⟨_, rfl⟩
  have E := hR
  unfold F_X10_richest at E
  have hS : zSm [] [] L kd σ σ := zSm.rf
  refine zg_iload_n X 1 rfl dX10_richest_0 ?_
  refine zg_iconst X 0 dX10_richest_1 (by decide) (fun v1 _ hv1 => ?_)
  replace E := zLet_s (zcst hv1 (by decide)) E
  refine zg_iconst X 1 dX10_richest_2 (by decide) (fun v2 _ hv2 => ?_)
  replace E := zLet_s (zcst hv2 (by decide)) E
  refine zg_cSi (As := [.int p1, .int v1, .int v2]) (st := []) X (t_X10_isWithin l d L kd _ p1 v1 v2 ) mk_X10_229 mc_X10_isWithin mz_X10 ms_X10_isWithin (na := 3) ⟨md_X10.1, md_X10.2, by decide +kernel⟩ rfl ⟨by decide, by decide⟩ (Nat.le_of_ble_eq_true rfl) dX10_richest_3 (fun v3 σ2 hq => ?_)
  obtain ⟨⟨hF, hv3⟩, rfl⟩ := hq
  replace E := zLet_s hF E
  refine zg_if_ne X 11 dX10_richest_6 (by decide) (fun c4 => ?_) (fun c4 => ?_)
  · skip
    replace E := zIf_f c4 E
    refine zg_iconst X 0 dX10_richest_11 (by decide) (fun v5 _ hv5 => ?_)
    replace E := zLet_s (zcst hv5 (by decide)) E
    refine zg_istore_n X [(2, .int v5), (0, .ref a0), (1, .int p1)] dX10_richest_12 (by decide) rfl ?_
    refine zg_iconst X 1 dX10_richest_13 (by decide) (fun v6 _ hv6 => ?_)
    replace E := zLet_s (zcst hv6 (by decide)) E
    refine zg_istore_n X [(3, .int v6), (2, .int v5), (0, .ref a0), (1, .int p1)] dX10_richest_14 (by decide) rfl ?_
    have Lp9 : ∀ (nLp9 : Nat) (τ9 : zS) (x7 : Int32) (x8 : Int32), zI κ 0 L kd τ9 → zSm [] [] L kd σ τ9 → R = F_X10_richest_15 a0 p1  nLp9 x7 x8 τ9 → 0 ≤ x8.toInt ∧ x8.toInt ≤ 11 ∧ 1 ≤ x7.toInt ∧ x7.toInt ≤ 12 → (12) - x7.toInt + 1 < (nLp9 : Int) → zG d L kd A 4 p l e (k2_rm 1 (100 * 1)) s m args below meth c Q τ9 15 [(3, .int x7), (2, .int x8), (0, .ref a0), (1, .int p1)] [] := by
      intro nLp9
      induction nLp9 with
      | zero => intro τ9 x7 x8 hI hS E  hxLp9 hm ; exact absurd hm (by omega)
      | succ nLp9 ihLp9 =>
        intro τ9 x7 x8 hI hS E  hxLp9 hmLp9 
        rw [F_X10_richest_15] at E
        refine zg_iload_n X 0 rfl dX10_richest_15 ?_
        refine zg_aload_n X 2 rfl dX10_richest_16 ?_
        refine fg_X10_70 X hI ha0 dX10_richest_17 (fun v10 ev10 hv10 => ?_)
        replace E := zLet_s (zgr ev10) E
        refine fg_X10_175 X hI hv10 dX10_richest_20 (fun v11 ev11 hv11 => ?_)
        replace E := zLet_s ev11 E
        refine zg_icmp_ge X 55 dX10_richest_23 (by decide) (fun c12 => ?_) (fun c12 => ?_)
        · skip
          replace E := zIf_f (Int.not_lt.mpr c12) E
          refine zg_aload_n X 2 rfl dX10_richest_55 ?_
          refine fg_X10_52 X hI ha0 dX10_richest_56 (fun v13 ev13 hv13 => ?_)
          replace E := zLet_s (zgr ev13) E
          refine fg_X10_152 X hI hv13 dX10_richest_59 (fun v14 ev14 hv14 => ?_)
          replace E := zLet_s (zgr ev14) E
          refine zg_iload_n X 1 rfl dX10_richest_62 ?_
          refine ag_24 X hI hv14 (by omega) (by omega) dX10_richest_63 (fun v15 ev15 _ => ?_)
          replace E := zLet_s ev15 E
          refine zg_if_ne X 70 dX10_richest_64 (by decide) (fun c16 => ?_) (fun c16 => ?_)
          · skip
            replace E := zIf_f c16 E
            refine zg_iload_n X 3 rfl dX10_richest_70 ?_
            refine zg_if_ne X 78 dX10_richest_71 (by decide) (fun c17 => ?_) (fun c17 => ?_)
            · skip
              replace E := zIf_f c17 E
              refine zg_aload_n X 2 rfl dX10_richest_78 ?_
              refine fg_X10_52 X hI ha0 dX10_richest_79 (fun v18 ev18 hv18 => ?_)
              replace E := zLet_s (zgr ev18) E
              refine fg_X10_152 X hI hv18 dX10_richest_82 (fun v19 ev19 hv19 => ?_)
              replace E := zLet_s (zgr ev19) E
              refine zg_iload_n X 1 rfl dX10_richest_85 ?_
              refine ag_24 X hI hv19 (by omega) (by omega) dX10_richest_86 (fun v20 ev20 _ => ?_)
              replace E := zLet_s ev20 E
              exact ret _ _ _ _ dX10_richest_87 rfl ⟨E.symm.trans hR, hS, hI⟩
            · skip
              replace E := zIf_t c17 E
              refine zg_iload_n X 1 rfl dX10_richest_74 ?_
              refine zg_goto X 87 dX10_richest_75 (by decide) ?_
              exact ret _ _ _ _ dX10_richest_87 rfl ⟨E.symm.trans hR, hS, hI⟩
          · skip
            replace E := zIf_t c16 E
            refine zg_bipush X (-2) dX10_richest_67 (by decide) (fun v21 _ hv21 => ?_)
            replace E := zLet_s (zcst hv21 (by decide)) E
            exact ret _ _ _ _ dX10_richest_69 rfl ⟨E.symm.trans hR, hS, hI⟩
        · skip
          replace E := zIf_t c12 E
          refine zg_aload_n X 2 rfl dX10_richest_26 ?_
          refine fg_X10_52 X hI ha0 dX10_richest_27 (fun v22 ev22 hv22 => ?_)
          replace E := zLet_s (zgr ev22) E
          refine fg_X10_152 X hI hv22 dX10_richest_30 (fun v23 ev23 hv23 => ?_)
          replace E := zLet_s (zgr ev23) E
          refine zg_iload_n X 0 rfl dX10_richest_33 ?_
          refine ag_24 X hI hv23 (by omega) (by omega) dX10_richest_34 (fun v24 ev24 _ => ?_)
          replace E := zLet_s ev24 E
          refine zg_aload_n X 2 rfl dX10_richest_35 ?_
          refine fg_X10_52 X hI ha0 dX10_richest_36 (fun v25 ev25 hv25 => ?_)
          replace E := zLet_s (zgr ev25) E
          refine fg_X10_152 X hI hv25 dX10_richest_39 (fun v26 ev26 hv26 => ?_)
          replace E := zLet_s (zgr ev26) E
          refine zg_iload_n X 1 rfl dX10_richest_42 ?_
          refine ag_24 X hI hv26 (by omega) (by omega) dX10_richest_43 (fun v27 ev27 _ => ?_)
          replace E := zLet_s ev27 E
          have zv24_z28 := zb_rng v24
          have zv27_z29 := zb_rng v27
          refine zg_icmp_le X 49 dX10_richest_44 (by decide) (fun c30 => ?_) (fun c30 => ?_)
          · skip
            replace E := zIf_f (Int.not_lt.mpr c30) E
            refine zg_iinc X 1 (fun v31 => [(3, .int v31), (2, .int x8), (0, .ref a0), (1, .int p1)]) 0 dX10_richest_49 rfl (by decide) (by decide) (by omega) (by omega) (fun _ => rfl) (fun v31 ev31 hv31 => ?_)
            replace E := zLet_s (zinc ev31 (by decide)) E
            refine zg_goto X 15 dX10_richest_52 (by decide) ?_
            refine zg_sub [0, 1, 2, 3] rfl ?_
            exact ihLp9 _ v31 x8 hI hS E  (by omega) (by omega) 
          · skip
            replace E := zIf_t c30 E
            refine zg_iload_n X 0 rfl dX10_richest_47 ?_
            refine zg_istore_n X [(2, .int x7), (3, .int x7), (0, .ref a0), (1, .int p1)] dX10_richest_48 (by decide) rfl ?_
            refine zg_iinc X 1 (fun v32 => [(3, .int v32), (2, .int x7), (0, .ref a0), (1, .int p1)]) 1 dX10_richest_49 rfl (by decide) (by decide) (by omega) (by omega) (fun _ => rfl) (fun v32 ev32 hv32 => ?_)
            replace E := zLet_s (zinc ev32 (by decide)) E
            refine zg_goto X 15 dX10_richest_52 (by decide) ?_
            refine zg_sub [0, 1, 2, 3] rfl ?_
            exact ihLp9 _ v32 x7 hI hS E  (by omega) (by omega) 
    refine zg_sub [0, 1, 2, 3] rfl ?_
    exact Lp9 10000 _ v6 v5 hI hS E  (by omega) (by omega) 
  · skip
    replace E := zIf_t c4 E
    refine zg_iconst X (-1) dX10_richest_9 (by decide) (fun v33 _ hv33 => ?_)
    replace E := zLet_s (zcst hv33 (by decide)) E
    exact ret _ _ _ _ dX10_richest_10 rfl ⟨E.symm.trans hR, hS, hI⟩
set_option maxHeartbeats 4000000 in
set_option maxRecDepth 100000 in
theorem t_X10_turnFor (l : Launch) (d : zD2) (L : List Nat) (kd : Nat → Nat) (κ : Int) (σ : zS) (hI : zI κ 0 L kd σ) (a0 : Nat) (ha0 : zT L kd a0 10) (p1 : Int32) (p2 : Int32) : zMi l yX10_turnFor (Cond.code yX10_turnFor cX10_turnFor 5 (some .int) :: zWL) 7 [.ref a0, .int p1, .int p2] d L kd σ (fun v σ2 => (v, σ2) = F_X10_turnFor a0 p1 p2 σ ∧ zSm [1, 6, 20, 21, 22, 23, 24, 30, 31, 32, 33, 34, 35, 36, 38] [5] L kd σ σ2 ∧ (zI κ 0 L kd σ2)) := by
  refine zMi.of (own := RX10) (by decide +kernel) rfl rfl (Nat.le_of_ble_eq_true rfl) ?_
  intro p e s m args below meth c A Q X ret
  refine zg_lv (lv2 := [(0, .ref a0), (1, .int p1), (2, .int p2)]) rfl ?_
  obtain ⟨R, hR⟩ : ∃ R, R = F_X10_turnFor a0 p1 p2 σ := ⟨_, rfl⟩
  have E := hR
  unfold F_X10_turnFor at E
  have hS : zSm [1, 6, 20, 21, 22, 23, 24, 30, 31, 32, 33, 34, 35, 36, 38] [5] L kd σ σ := zSm.rf
  refine zg_aload_n X 0 rfl dX10_turnFor_0 ?_
  refine zg_iload_n X 1 rfl dX10_turnFor_1 ?_
  refine zg_iload_n X 2 rfl dX10_turnFor_2 ?_
  refine zg_cVi (As := [.int p1, .int p2]) (st := []) X ha0 rfl (by decide) rfl (t_X10_isContest l d L kd κ 0 _ hI a0 ha0 p1 p2 ) mk_X10_162 mc_X10_isContest mz_X10 mi_X10_isContest ml_X10_isContest (na := 2) ⟨md_X10.1, md_X10.2, by decide +kernel⟩ rfl ⟨by decide, by decide⟩ (Nat.le_of_ble_eq_true rfl) dX10_turnFor_3 (fun v1 s2 hq => ?_)
  obtain ⟨hF, hS2, hI⟩ := hq
  replace E := zLet2_s hF E
  have hS := hS.tr hS2 rfl rfl
  obtain ⟨hv1, hI⟩ := hI
  refine zg_if_ne X 11 dX10_turnFor_6 (by decide) (fun c3 => ?_) (fun c3 => ?_)
  · skip
    replace E := zIf_f c3 E
    refine zg_iconst X 1 dX10_turnFor_11 (by decide) (fun v4 _ hv4 => ?_)
    replace E := zLet_s (zcst hv4 (by decide)) E
    refine zg_istore_n X [(3, .int v4), (0, .ref a0), (1, .int p1), (2, .int p2)] dX10_turnFor_12 (by decide) rfl ?_
    have Lp6 : ∀ (nLp6 : Nat) (τ6 : zS) (x5 : Int32), zI κ 1 L kd τ6 → zSm [1, 6, 20, 21, 22, 23, 24, 30, 31, 32, 33, 34, 35, 36, 38] [5] L kd σ τ6 → R = F_X10_turnFor_13 a0 p1 p2  nLp6 x5 τ6 → 1 ≤ x5.toInt ∧ x5.toInt ≤ 12 → (12) - x5.toInt + 1 < (nLp6 : Int) → zG d L kd A 5 p l e (k2_rm 7 (100 * 7)) s m args below meth c Q τ6 13 [(3, .int x5), (0, .ref a0), (1, .int p1), (2, .int p2)] [] := by
      intro nLp6
      induction nLp6 with
      | zero => intro τ6 x5 hI hS E  hxLp6 hm ; exact absurd hm (by omega)
      | succ nLp6 ihLp6 =>
        intro τ6 x5 hI hS E  hxLp6 hmLp6 
        rw [F_X10_turnFor_13] at E
        refine zg_iload_n X 0 rfl dX10_turnFor_13 ?_
        refine zg_aload_n X 1 rfl dX10_turnFor_14 ?_
        refine fg_X10_70 X hI ha0 dX10_turnFor_15 (fun v7 ev7 hv7 => ?_)
        replace E := zLet_s (zgr ev7) E
        refine fg_X10_175 X hI hv7 dX10_turnFor_18 (fun v8 ev8 hv8 => ?_)
        replace E := zLet_s ev8 E
        refine zg_icmp_ge X 86 dX10_turnFor_21 (by decide) (fun c9 => ?_) (fun c9 => ?_)
        · skip
          replace E := zIf_f (Int.not_lt.mpr c9) E
          refine zg_bipush X (-2) dX10_turnFor_86 (by decide) (fun v10 _ hv10 => ?_)
          replace E := zLet_s (zcst hv10 (by decide)) E
          exact ret _ _ _ _ dX10_turnFor_88 rfl ⟨E.symm.trans hR, hS, (zi_weak hI)⟩
        · skip
          replace E := zIf_t c9 E
          refine zg_iconst X 0 dX10_turnFor_24 (by decide) (fun v11 _ hv11 => ?_)
          replace E := zLet_s (zcst hv11 (by decide)) E
          refine zg_istore X [(4, .int v11), (3, .int x5), (0, .ref a0), (1, .int p1), (2, .int p2)] dX10_turnFor_25 (by decide) rfl ?_
          have Lp13 : ∀ (nLp13 : Nat) (τ13 : zS) (x12 : Int32), zI κ 1 L kd τ13 → zSm [1, 6, 20, 21, 22, 23, 24, 30, 31, 32, 33, 34, 35, 36, 38] [5] L kd σ τ13 → R = F_X10_turnFor_27 x5 a0 p1 p2 (F_X10_turnFor_13 a0 p1 p2  nLp6) nLp13 x12 τ13 → 0 ≤ x12.toInt ∧ x12.toInt ≤ 12 → (12) - x12.toInt + 1 < (nLp13 : Int) → zG d L kd A 5 p l e (k2_rm 7 (100 * 7)) s m args below meth c Q τ13 27 [(4, .int x12), (3, .int x5), (0, .ref a0), (1, .int p1), (2, .int p2)] [] := by
            intro nLp13
            induction nLp13 with
            | zero => intro τ13 x12 hI hS E  hxLp13 hm ; exact absurd hm (by omega)
            | succ nLp13 ihLp13 =>
              intro τ13 x12 hI hS E  hxLp13 hmLp13 
              rw [F_X10_turnFor_27] at E
              refine zg_iload X 0 rfl dX10_turnFor_27 ?_
              refine zg_aload_n X 2 rfl dX10_turnFor_29 ?_
              refine fg_X10_70 X hI ha0 dX10_turnFor_30 (fun v14 ev14 hv14 => ?_)
              replace E := zLet_s (zgr ev14) E
              refine fg_X10_175 X hI hv14 dX10_turnFor_33 (fun v15 ev15 hv15 => ?_)
              replace E := zLet_s ev15 E
              refine zg_icmp_ge X 80 dX10_turnFor_36 (by decide) (fun c16 => ?_) (fun c16 => ?_)
              · skip
                replace E := zIf_f (Int.not_lt.mpr c16) E
                refine zg_iinc X 1 (fun v17 => [(3, .int v17), (4, .int x12), (0, .ref a0), (1, .int p1), (2, .int p2)]) 1 dX10_turnFor_80 rfl (by decide) (by decide) (by omega) (by omega) (fun _ => rfl) (fun v17 ev17 hv17 => ?_)
                replace E := zLet_s (zinc ev17 (by decide)) E
                refine zg_goto X 13 dX10_turnFor_83 (by decide) ?_
                refine zg_sub [0, 2, 3, 4] rfl ?_
                exact ihLp6 _ v17 hI hS E  (by omega) (by omega) 
              · skip
                replace E := zIf_t c16 E
                refine zg_iload_n X 1 rfl dX10_turnFor_39 ?_
                refine zg_iload_n X 3 rfl dX10_turnFor_40 ?_
                refine zg_icmp_eq X 74 dX10_turnFor_41 (by decide) (fun c18 => ?_) (fun c18 => ?_)
                · skip
                  replace E := zIf_t c18 E
                  refine zg_iinc X 1 (fun v19 => [(4, .int v19), (3, .int x5), (0, .ref a0), (1, .int p1), (2, .int p2)]) 0 dX10_turnFor_74 rfl (by decide) (by decide) (by omega) (by omega) (fun _ => rfl) (fun v19 ev19 hv19 => ?_)
                  replace E := zLet_s (zinc ev19 (by decide)) E
                  refine zg_goto X 27 dX10_turnFor_77 (by decide) ?_
                  refine zg_sub [0, 1, 2, 3, 4] rfl ?_
                  exact ihLp13 _ v19 hI hS E  (by omega) (by omega) 
                · skip
                  replace E := zIf_f c18 E
                  refine zg_aload_n X 2 rfl dX10_turnFor_44 ?_
                  refine zg_iload_n X 1 rfl dX10_turnFor_45 ?_
                  refine zg_iload X 0 rfl dX10_turnFor_46 ?_
                  refine zg_cVi (As := [.int x5, .int x12]) (st := []) X ha0 rfl (by decide) rfl (t_X10_isTurn l d L kd κ 1 _ hI a0 ha0 x5 x12 ) mk_X10_223 mc_X10_isTurn mz_X10 mi_X10_isTurn ml_X10_isTurn (na := 2) ⟨md_X10.1, md_X10.2, by decide +kernel⟩ rfl ⟨by decide, by decide⟩ (Nat.le_of_ble_eq_true rfl) dX10_turnFor_48 (fun v20 s21 hq => ?_)
                  obtain ⟨hF, hS2, hI⟩ := hq
                  replace E := zLet2_s hF E
                  have hS := hS.tr hS2 rfl rfl
                  obtain ⟨hv20, hI⟩ := hI
                  refine zg_if_eq X 74 dX10_turnFor_51 (by decide) (fun c22 => ?_) (fun c22 => ?_)
                  · skip
                    replace E := zIf_t c22 E
                    refine zg_iinc X 1 (fun v23 => [(4, .int v23), (3, .int x5), (0, .ref a0), (1, .int p1), (2, .int p2)]) 0 dX10_turnFor_74 rfl (by decide) (by decide) (by omega) (by omega) (fun _ => rfl) (fun v23 ev23 hv23 => ?_)
                    replace E := zLet_s (zinc ev23 (by decide)) E
                    refine zg_goto X 27 dX10_turnFor_77 (by decide) ?_
                    refine zg_sub [0, 1, 2, 3, 4] rfl ?_
                    exact ihLp13 _ v23 hI hS E  (by omega) (by omega) 
                  · skip
                    replace E := zIf_f c22 E
                    refine zg_aload_n X 2 rfl dX10_turnFor_54 ?_
                    refine zg_iload_n X 3 rfl dX10_turnFor_55 ?_
                    refine zg_iload_n X 4 rfl dX10_turnFor_56 ?_
                    refine zg_iload_n X 1 rfl dX10_turnFor_57 ?_
                    refine zg_iload X 0 rfl dX10_turnFor_58 ?_
                    refine zg_cVi (As := [.int p1, .int p2, .int x5, .int x12]) (st := []) X ha0 rfl (by decide) rfl (t_X10_winsTurned l d L kd κ 1 _ hI a0 ha0 p1 p2 x5 x12 (by omega) (by omega) (by omega)) mk_X10_267 mc_X10_winsTurned mz_X10 mi_X10_winsTurned ml_X10_winsTurned (na := 4) ⟨md_X10.1, md_X10.2, by decide +kernel⟩ rfl ⟨by decide, by decide⟩ (Nat.le_of_ble_eq_true rfl) dX10_turnFor_60 (fun v24 s25 hq => ?_)
                    obtain ⟨hF, hS2, hI⟩ := hq
                    replace E := zLet2_s hF E
                    have hS := hS.tr hS2 rfl rfl
                    obtain ⟨hv24, hI⟩ := hI
                    refine zg_if_eq X 74 dX10_turnFor_63 (by decide) (fun c26 => ?_) (fun c26 => ?_)
                    · skip
                      replace E := zIf_t c26 E
                      refine zg_iinc X 1 (fun v27 => [(4, .int v27), (3, .int x5), (0, .ref a0), (1, .int p1), (2, .int p2)]) 0 dX10_turnFor_74 rfl (by decide) (by decide) (by omega) (by omega) (fun _ => rfl) (fun v27 ev27 hv27 => ?_)
                      replace E := zLet_s (zinc ev27 (by decide)) E
                      refine zg_goto X 27 dX10_turnFor_77 (by decide) ?_
                      refine zg_sub [0, 1, 2, 3, 4] rfl ?_
                      exact ihLp13 _ v27 hI hS E  (by omega) (by omega) 
                    · skip
                      replace E := zIf_f c26 E
                      refine zg_bipush X 100 dX10_turnFor_66 (by decide) (fun v28 _ hv28 => ?_)
                      replace E := zLet_s (zcst hv28 (by decide)) E
                      refine zg_iload_n X 1 rfl dX10_turnFor_68 ?_
                      refine zg_imulW X dX10_turnFor_69 (fun v29 ev29 => ?_)
                      replace E := zLet_s ev29 E
                      refine zg_iload X 0 rfl dX10_turnFor_70 ?_
                      refine zg_iaddW X dX10_turnFor_72 (fun v30 ev30 => ?_)
                      replace E := zLet_s ev30 E
                      exact ret _ _ _ _ dX10_turnFor_73 rfl ⟨E.symm.trans hR, hS, (zi_weak hI)⟩
          refine zg_sub [0, 1, 2, 3, 4] rfl ?_
          exact Lp13 10000 _ v11 hI hS E  (by omega) (by omega) 
    refine zg_sub [0, 1, 2, 3] rfl ?_
    exact Lp6 10000 _ v4 hI hS E  (by omega) (by omega) 
  · skip
    replace E := zIf_t c3 E
    refine zg_iconst X (-1) dX10_turnFor_9 (by decide) (fun v31 _ hv31 => ?_)
    replace E := zLet_s (zcst hv31 (by decide)) E
    exact ret _ _ _ _ dX10_turnFor_10 rfl ⟨E.symm.trans hR, hS, (zi_weak hI)⟩
set_option maxHeartbeats 4000000 in
set_option maxRecDepth 100000 in
theorem t_X10_damFor (l : Launch) (d : zD2) (L : List Nat) (kd : Nat → Nat) (κ : Int) (σ : zS) (hI : zI κ 0 L kd σ) (a0 : Nat) (ha0 : zT L kd a0 10) (p1 : Int32) (p2 : Int32) : zMi l yX10_damFor (Cond.code yX10_damFor cX10_damFor 4 (some .int) :: zWL) 7 [.ref a0, .int p1, .int p2] d L kd σ (fun v σ2 => (v, σ2) = F_X10_damFor a0 p1 p2 σ ∧ zSm [6, 20, 21, 30, 31, 32, 33, 34, 35, 36, 38] [5] L kd σ σ2 ∧ (zI κ 0 L kd σ2)) := by
  refine zMi.of (own := RX10) (by decide +kernel) rfl rfl (Nat.le_of_ble_eq_true rfl) ?_
  intro p e s m args below meth c A Q X ret
  refine zg_lv (lv2 := [(0, .ref a0), (1, .int p1), (2, .int p2)]) rfl ?_
  obtain ⟨R, hR⟩ : ∃ R, R = F_X10_damFor a0 p1 p2 σ := ⟨_, rfl⟩
  have E := hR
  unfold F_X10_damFor at E
  have hS : zSm [6, 20, 21, 30, 31, 32, 33, 34, 35, 36, 38] [5] L kd σ σ := zSm.rf
  refine zg_aload_n X 0 rfl dX10_damFor_0 ?_
  refine zg_iload_n X 1 rfl dX10_damFor_1 ?_
  refine zg_iload_n X 2 rfl dX10_damFor_2 ?_
  refine zg_cVi (As := [.int p1, .int p2]) (st := []) X ha0 rfl (by decide) rfl (t_X10_isContest l d L kd κ 0 _ hI a0 ha0 p1 p2 ) mk_X10_162 mc_X10_isContest mz_X10 mi_X10_isContest ml_X10_isContest (na := 2) ⟨md_X10.1, md_X10.2, by decide +kernel⟩ rfl ⟨by decide, by decide⟩ (Nat.le_of_ble_eq_true rfl) dX10_damFor_3 (fun v1 s2 hq => ?_)
  obtain ⟨hF, hS2, hI⟩ := hq
  replace E := zLet2_s hF E
  have hS := hS.tr hS2 rfl rfl
  obtain ⟨hv1, hI⟩ := hI
  refine zg_if_ne X 11 dX10_damFor_6 (by decide) (fun c3 => ?_) (fun c3 => ?_)
  · skip
    replace E := zIf_f c3 E
    refine zg_iconst X 1 dX10_damFor_11 (by decide) (fun v4 _ hv4 => ?_)
    replace E := zLet_s (zcst hv4 (by decide)) E
    refine zg_istore_n X [(3, .int v4), (0, .ref a0), (1, .int p1), (2, .int p2)] dX10_damFor_12 (by decide) rfl ?_
    have Lp6 : ∀ (nLp6 : Nat) (τ6 : zS) (x5 : Int32), zI κ 1 L kd τ6 → zSm [6, 20, 21, 30, 31, 32, 33, 34, 35, 36, 38] [5] L kd σ τ6 → R = F_X10_damFor_13 a0 p1 p2  nLp6 x5 τ6 → 1 ≤ x5.toInt ∧ x5.toInt ≤ 12 → (12) - x5.toInt + 1 < (nLp6 : Int) → zG d L kd A 4 p l e (k2_rm 7 (100 * 7)) s m args below meth c Q τ6 13 [(3, .int x5), (0, .ref a0), (1, .int p1), (2, .int p2)] [] := by
      intro nLp6
      induction nLp6 with
      | zero => intro τ6 x5 hI hS E  hxLp6 hm ; exact absurd hm (by omega)
      | succ nLp6 ihLp6 =>
        intro τ6 x5 hI hS E  hxLp6 hmLp6 
        rw [F_X10_damFor_13] at E
        refine zg_iload_n X 0 rfl dX10_damFor_13 ?_
        refine zg_aload_n X 1 rfl dX10_damFor_14 ?_
        refine fg_X10_70 X hI ha0 dX10_damFor_15 (fun v7 ev7 hv7 => ?_)
        replace E := zLet_s (zgr ev7) E
        refine fg_X10_175 X hI hv7 dX10_damFor_18 (fun v8 ev8 hv8 => ?_)
        replace E := zLet_s ev8 E
        refine zg_icmp_ge X 77 dX10_damFor_21 (by decide) (fun c9 => ?_) (fun c9 => ?_)
        · skip
          replace E := zIf_f (Int.not_lt.mpr c9) E
          refine zg_bipush X (-2) dX10_damFor_77 (by decide) (fun v10 _ hv10 => ?_)
          replace E := zLet_s (zcst hv10 (by decide)) E
          exact ret _ _ _ _ dX10_damFor_79 rfl ⟨E.symm.trans hR, hS, (zi_weak hI)⟩
        · skip
          replace E := zIf_t c9 E
          refine zg_aload_n X 1 rfl dX10_damFor_24 ?_
          refine fg_X10_52 X hI ha0 dX10_damFor_25 (fun v11 ev11 hv11 => ?_)
          replace E := zLet_s (zgr ev11) E
          refine fg_X10_128 X hI hv11 dX10_damFor_28 (fun v12 ev12 _ => ?_)
          replace E := zLet_s ev12 E
          refine zg_iload_n X 0 rfl dX10_damFor_31 ?_
          refine zg_cSi (As := [.int v12, .int x5]) (st := []) X (t_X10_has l d L kd _ v12 x5 ) mk_X10_131 mc_X10_has mz_X10 ms_X10_has (na := 2) ⟨md_X10.1, md_X10.2, by decide +kernel⟩ rfl ⟨by decide, by decide⟩ (Nat.le_of_ble_eq_true rfl) dX10_damFor_32 (fun v13 σ2 hq => ?_)
          obtain ⟨⟨hF, hv13⟩, rfl⟩ := hq
          replace E := zLet_s hF E
          refine zg_if_ne X 71 dX10_damFor_35 (by decide) (fun c14 => ?_) (fun c14 => ?_)
          · skip
            replace E := zIf_f c14 E
            refine zg_iinc X 1 (fun v15 => [(3, .int v15), (0, .ref a0), (1, .int p1), (2, .int p2)]) 0 dX10_damFor_71 rfl (by decide) (by decide) (by omega) (by omega) (fun _ => rfl) (fun v15 ev15 hv15 => ?_)
            replace E := zLet_s (zinc ev15 (by decide)) E
            refine zg_goto X 13 dX10_damFor_74 (by decide) ?_
            refine zg_sub [0, 1, 2, 3] rfl ?_
            exact ihLp6 _ v15 hI hS E  (by omega) (by omega) 
          · skip
            replace E := zIf_t c14 E
            refine zg_aload_n X 1 rfl dX10_damFor_38 ?_
            refine fg_X10_26 X hI ha0 dX10_damFor_39 (fun v16 ev16 hv16 => ?_)
            replace E := zLet_s (zgr ev16) E
            refine zg_aload_n X 1 rfl dX10_damFor_42 ?_
            refine fg_X10_52 X hI ha0 dX10_damFor_43 (fun v17 ev17 hv17 => ?_)
            replace E := zLet_s (zgr ev17) E
            refine fg_X10_128 X hI hv17 dX10_damFor_46 (fun v18 ev18 _ => ?_)
            replace E := zLet_s ev18 E
            refine zg_iload_n X 0 rfl dX10_damFor_49 ?_
            refine zg_cSi (As := [.int x5]) (st := [.int v18, .ref v16]) X (t_X10_bit l d L kd _ x5 ) mk_X10_216 mc_X10_bit mz_X10 ms_X10_bit (na := 1) ⟨md_X10.1, md_X10.2, by decide +kernel⟩ rfl ⟨by decide, by decide⟩ (Nat.le_of_ble_eq_true rfl) dX10_damFor_50 (fun v19 σ2 hq => ?_)
            obtain ⟨⟨hF, hv19⟩, rfl⟩ := hq
            replace E := zLet_s hF E
            refine zg_iorW X dX10_damFor_53 (fun v20 ev20 => ?_)
            replace E := zLet_s ev20 E
            refine zg_cVv (As := [.int v20]) (st := []) X hv16 rfl (by decide) rfl (t_X5_run l d L kd κ _ hI v16 hv16 v20 ) mk_X10_274 mc_X5_run mz_X5 mi_X5_run ml_X5_run (na := 1) ⟨md_X5.1, md_X5.2, by decide +kernel⟩ rfl ⟨by decide, by decide⟩ (Nat.le_of_ble_eq_true rfl) dX10_damFor_54 (fun s21 hq => ?_)
            obtain ⟨hF, hS2, hI⟩ := hq
            replace E := zLet_s hF E
            have hS := hS.tr hS2 rfl rfl
            refine zg_aload_n X 1 rfl dX10_damFor_57 ?_
            refine fg_X10_26 X hI ha0 dX10_damFor_58 (fun v22 ev22 hv22 => ?_)
            replace E := zLet_s (zgr ev22) E
            refine zg_iload_n X 3 rfl dX10_damFor_61 ?_
            refine zg_cVi (As := [.int p2]) (st := []) X hv22 rfl (by decide) rfl (t_X5_winnerBy l d L kd κ _ hI v22 hv22 p2 (by omega)) mk_X10_172 mc_X5_winnerBy mz_X5 mi_X5_winnerBy ml_X5_winnerBy (na := 1) ⟨md_X5.1, md_X5.2, by decide +kernel⟩ rfl ⟨by decide, by decide⟩ (Nat.le_of_ble_eq_true rfl) dX10_damFor_62 (fun v23 s24 hq => ?_)
            obtain ⟨hF, hS2, hI⟩ := hq
            replace E := zLet2_s hF E
            have hS := hS.tr hS2 rfl rfl
            obtain ⟨hv23, hI⟩ := hI
            refine zg_iload_n X 2 rfl dX10_damFor_65 ?_
            refine zg_icmp_ne X 71 dX10_damFor_66 (by decide) (fun c25 => ?_) (fun c25 => ?_)
            · skip
              replace E := zIf_f c25 E
              refine zg_iinc X 1 (fun v26 => [(3, .int v26), (0, .ref a0), (1, .int p1), (2, .int p2)]) 0 dX10_damFor_71 rfl (by decide) (by decide) (by omega) (by omega) (fun _ => rfl) (fun v26 ev26 hv26 => ?_)
              replace E := zLet_s (zinc ev26 (by decide)) E
              refine zg_goto X 13 dX10_damFor_74 (by decide) ?_
              refine zg_sub [0, 1, 2, 3] rfl ?_
              exact ihLp6 _ v26 hI hS E  (by omega) (by omega) 
            · skip
              replace E := zIf_t c25 E
              refine zg_iload_n X 0 rfl dX10_damFor_69 ?_
              exact ret _ _ _ _ dX10_damFor_70 rfl ⟨E.symm.trans hR, hS, (zi_weak hI)⟩
    refine zg_sub [0, 1, 2, 3] rfl ?_
    exact Lp6 10000 _ v4 hI hS E  (by omega) (by omega) 
  · skip
    replace E := zIf_t c3 E
    refine zg_iconst X (-1) dX10_damFor_9 (by decide) (fun v27 _ hv27 => ?_)
    replace E := zLet_s (zcst hv27 (by decide)) E
    exact ret _ _ _ _ dX10_damFor_10 rfl ⟨E.symm.trans hR, hS, (zi_weak hI)⟩
set_option maxHeartbeats 4000000 in
set_option maxRecDepth 100000 in
theorem t_X10_loss (l : Launch) (d : zD2) (L : List Nat) (kd : Nat → Nat) (κ : Int) (σ : zS) (hI : zI κ 0 L kd σ) (a0 : Nat) (ha0 : zT L kd a0 10) (p1 : Int32) : zMi l yX10_loss (Cond.code yX10_loss cX10_loss 2 (some .int) :: zWL) 7 [.ref a0, .int p1] d L kd σ (fun v σ2 => (v, σ2) = F_X10_loss a0 p1 σ ∧ zSm [6, 20, 21, 30, 31, 33, 34, 35, 36, 38] [5] L kd σ σ2 ∧ (zI κ 0 L kd σ2)) := by
  refine zMi.of (own := RX10) (by decide +kernel) rfl rfl (Nat.le_of_ble_eq_true rfl) ?_
  intro p e s m args below meth c A Q X ret
  refine zg_lv (lv2 := [(0, .ref a0), (1, .int p1)]) rfl ?_
  obtain ⟨R, hR⟩ : ∃ R, R = F_X10_loss a0 p1 σ := ⟨_, rfl⟩
  have E := hR
  unfold F_X10_loss at E
  have hS : zSm [6, 20, 21, 30, 31, 33, 34, 35, 36, 38] [5] L kd σ σ := zSm.rf
  refine zg_iload_n X 1 rfl dX10_loss_0 ?_
  refine zg_if_eq X 12 dX10_loss_1 (by decide) (fun c1 => ?_) (fun c1 => ?_)
  · skip
    replace E := zIf_t c1 E
    refine zg_iconst X (-1) dX10_loss_12 (by decide) (fun v2 _ hv2 => ?_)
    replace E := zLet_s (zcst hv2 (by decide)) E
    exact ret _ _ _ _ dX10_loss_13 rfl ⟨E.symm.trans hR, hS, hI⟩
  · skip
    replace E := zIf_f c1 E
    refine zg_aload_n X 0 rfl dX10_loss_4 ?_
    refine zg_iload_n X 1 rfl dX10_loss_5 ?_
    refine zg_cVi (As := [.int p1]) (st := []) X ha0 rfl (by decide) rfl (t_X10_isPlace l d L kd κ 0 _ hI a0 ha0 p1 ) mk_X10_109 mc_X10_isPlace mz_X10 mi_X10_isPlace ml_X10_isPlace (na := 1) ⟨md_X10.1, md_X10.2, by decide +kernel⟩ rfl ⟨by decide, by decide⟩ (Nat.le_of_ble_eq_true rfl) dX10_loss_6 (fun v3 s4 hq => ?_)
    obtain ⟨hF, hS2, hI⟩ := hq
    replace E := zLet2_s hF E
    have hS := hS.tr hS2 rfl rfl
    obtain ⟨hv3, hI⟩ := hI
    refine zg_if_ne X 14 dX10_loss_9 (by decide) (fun c5 => ?_) (fun c5 => ?_)
    · skip
      replace E := zIf_f c5 E
      refine zg_aload_n X 0 rfl dX10_loss_14 ?_
      refine zg_cVv (As := []) (st := []) X ha0 rfl (by decide) rfl (t_X10_look l d L kd κ 0 _ hI a0 ha0 ) mk_X10_113 mc_X10_look mz_X10 mi_X10_look ml_X10_look (na := 0) ⟨md_X10.1, md_X10.2, by decide +kernel⟩ rfl ⟨by decide, by decide⟩ (Nat.le_of_ble_eq_true rfl) dX10_loss_15 (fun s6 hq => ?_)
      obtain ⟨hF, hS2, hI⟩ := hq
      replace E := zLet_s hF E
      have hS := hS.tr hS2 rfl rfl
      refine zg_aload_n X 0 rfl dX10_loss_18 ?_
      refine zg_iload_n X 1 rfl dX10_loss_19 ?_
      refine zg_cVi (As := [.int p1]) (st := []) X ha0 rfl (by decide) rfl (t_X10_lossOf l d L kd κ _ hI a0 ha0 p1 (by omega)) mk_X10_290 mc_X10_lossOf mz_X10 mi_X10_lossOf ml_X10_lossOf (na := 1) ⟨md_X10.1, md_X10.2, by decide +kernel⟩ rfl ⟨by decide, by decide⟩ (Nat.le_of_ble_eq_true rfl) dX10_loss_20 (fun v7 s8 hq => ?_)
      obtain ⟨hF, hS2, hI⟩ := hq
      replace E := zLet2_s hF E
      have hS := hS.tr hS2 rfl rfl
      exact ret _ _ _ _ dX10_loss_23 rfl ⟨E.symm.trans hR, hS, (zi_weak hI)⟩
    · skip
      replace E := zIf_t c5 E
      refine zg_iconst X (-1) dX10_loss_12 (by decide) (fun v9 _ hv9 => ?_)
      replace E := zLet_s (zcst hv9 (by decide)) E
      exact ret _ _ _ _ dX10_loss_13 rfl ⟨E.symm.trans hR, hS, hI⟩
set_option maxHeartbeats 4000000 in
set_option maxRecDepth 100000 in
theorem t_X10_part (l : Launch) (d : zD2) (L : List Nat) (kd : Nat → Nat) (κ : Int) (σ : zS) (hI : zI κ 0 L kd σ) (a0 : Nat) (ha0 : zT L kd a0 10) (p1 : Int32) : zMi l yX10_part (Cond.code yX10_part cX10_part 3 (some .int) :: zWL) 7 [.ref a0, .int p1] d L kd σ (fun v σ2 => (v, σ2) = F_X10_part a0 p1 σ ∧ zSm [6, 20, 21, 30, 31, 33, 34, 35, 36, 38] [5] L kd σ σ2 ∧ (zI κ 0 L kd σ2)) := by
  refine zMi.of (own := RX10) (by decide +kernel) rfl rfl (Nat.le_of_ble_eq_true rfl) ?_
  intro p e s m args below meth c A Q X ret
  refine zg_lv (lv2 := [(0, .ref a0), (1, .int p1)]) rfl ?_
  obtain ⟨R, hR⟩ : ∃ R, R = F_X10_part a0 p1 σ := ⟨_, rfl⟩
  have E := hR
  unfold F_X10_part at E
  have hS : zSm [6, 20, 21, 30, 31, 33, 34, 35, 36, 38] [5] L kd σ σ := zSm.rf
  refine zg_iload_n X 1 rfl dX10_part_0 ?_
  refine zg_if_eq X 12 dX10_part_1 (by decide) (fun c1 => ?_) (fun c1 => ?_)
  · skip
    replace E := zIf_t c1 E
    refine zg_iconst X (-1) dX10_part_12 (by decide) (fun v2 _ hv2 => ?_)
    replace E := zLet_s (zcst hv2 (by decide)) E
    exact ret _ _ _ _ dX10_part_13 rfl ⟨E.symm.trans hR, hS, hI⟩
  · skip
    replace E := zIf_f c1 E
    refine zg_aload_n X 0 rfl dX10_part_4 ?_
    refine zg_iload_n X 1 rfl dX10_part_5 ?_
    refine zg_cVi (As := [.int p1]) (st := []) X ha0 rfl (by decide) rfl (t_X10_isPlace l d L kd κ 0 _ hI a0 ha0 p1 ) mk_X10_109 mc_X10_isPlace mz_X10 mi_X10_isPlace ml_X10_isPlace (na := 1) ⟨md_X10.1, md_X10.2, by decide +kernel⟩ rfl ⟨by decide, by decide⟩ (Nat.le_of_ble_eq_true rfl) dX10_part_6 (fun v3 s4 hq => ?_)
    obtain ⟨hF, hS2, hI⟩ := hq
    replace E := zLet2_s hF E
    have hS := hS.tr hS2 rfl rfl
    obtain ⟨hv3, hI⟩ := hI
    refine zg_if_ne X 14 dX10_part_9 (by decide) (fun c5 => ?_) (fun c5 => ?_)
    · skip
      replace E := zIf_f c5 E
      refine zg_aload_n X 0 rfl dX10_part_14 ?_
      refine zg_cVv (As := []) (st := []) X ha0 rfl (by decide) rfl (t_X10_look l d L kd κ 0 _ hI a0 ha0 ) mk_X10_113 mc_X10_look mz_X10 mi_X10_look ml_X10_look (na := 0) ⟨md_X10.1, md_X10.2, by decide +kernel⟩ rfl ⟨by decide, by decide⟩ (Nat.le_of_ble_eq_true rfl) dX10_part_15 (fun s6 hq => ?_)
      obtain ⟨hF, hS2, hI⟩ := hq
      replace E := zLet_s hF E
      have hS := hS.tr hS2 rfl rfl
      refine zg_aload_n X 0 rfl dX10_part_18 ?_
      refine zg_cVi (As := []) (st := []) X ha0 rfl (by decide) rfl (t_X10_mouthFlow l d L kd κ 1 _ hI a0 ha0 ) mk_X10_191 mc_X10_mouthFlow mz_X10 mi_X10_mouthFlow ml_X10_mouthFlow (na := 0) ⟨md_X10.1, md_X10.2, by decide +kernel⟩ rfl ⟨by decide, by decide⟩ (Nat.le_of_ble_eq_true rfl) dX10_part_19 (fun v7 s8 hq => ?_)
      obtain ⟨hF, hS2, hI⟩ := hq
      replace E := zLet2_s hF E
      have hS := hS.tr hS2 rfl rfl
      refine zg_istore_n X [(2, .int v7), (0, .ref a0), (1, .int p1)] dX10_part_22 (by decide) rfl ?_
      refine zg_iload_n X 0 rfl dX10_part_23 ?_
      refine zg_if_ne X 31 dX10_part_24 (by decide) (fun c9 => ?_) (fun c9 => ?_)
      · skip
        replace E := zIf_f c9 E
        refine zg_aload_n X 1 rfl dX10_part_31 ?_
        refine zg_iload_n X 2 rfl dX10_part_32 ?_
        refine zg_cVi (As := [.int p1]) (st := []) X ha0 rfl (by decide) rfl (t_X10_lossOf l d L kd κ _ hI a0 ha0 p1 (by omega)) mk_X10_290 mc_X10_lossOf mz_X10 mi_X10_lossOf ml_X10_lossOf (na := 1) ⟨md_X10.1, md_X10.2, by decide +kernel⟩ rfl ⟨by decide, by decide⟩ (Nat.le_of_ble_eq_true rfl) dX10_part_33 (fun v10 s11 hq => ?_)
        obtain ⟨hF, hS2, hI⟩ := hq
        replace E := zLet2_s hF E
        have hS := hS.tr hS2 rfl rfl
        refine zg_sipush X 1000 dX10_part_36 (by decide) (fun v12 _ hv12 => ?_)
        replace E := zLet_s (zcst hv12 (by decide)) E
        refine zg_imulW X dX10_part_39 (fun v13 ev13 => ?_)
        replace E := zLet_s ev13 E
        refine zg_iload_n X 0 rfl dX10_part_40 ?_
        refine zg_idivW X dX10_part_41 (by omega) (fun v14 ev14 => ?_)
        replace E := zLet_s ev14 E
        exact ret _ _ _ _ dX10_part_42 rfl ⟨E.symm.trans hR, hS, (zi_weak hI)⟩
      · skip
        replace E := zIf_t c9 E
        refine zg_iconst X 0 dX10_part_27 (by decide) (fun v15 _ hv15 => ?_)
        replace E := zLet_s (zcst hv15 (by decide)) E
        refine zg_goto X 42 dX10_part_28 (by decide) ?_
        exact ret _ _ _ _ dX10_part_42 rfl ⟨E.symm.trans hR, hS, (zi_weak hI)⟩
    · skip
      replace E := zIf_t c5 E
      refine zg_iconst X (-1) dX10_part_12 (by decide) (fun v16 _ hv16 => ?_)
      replace E := zLet_s (zcst hv16 (by decide)) E
      exact ret _ _ _ _ dX10_part_13 rfl ⟨E.symm.trans hR, hS, hI⟩
set_option maxHeartbeats 4000000 in
set_option maxRecDepth 100000 in
theorem t_X10_main (l : Launch) (d : zD2) (L : List Nat) (kd : Nat → Nat) (κ : Int) (σ : zS) (hI : zI κ 0 L kd σ) (a0 : Nat) (ha0 : zT L kd a0 10) (p1 : Int32) : zMi l yX10_main (Cond.code yX10_main cX10_main 4 (some .int) :: zWL) 7 [.ref a0, .int p1] d L kd σ (fun v σ2 => (v, σ2) = F_X10_main a0 p1 σ ∧ zSm [6, 20, 21, 30, 31, 33, 34, 35, 36, 38] [5] L kd σ σ2 ∧ (zI κ 0 L kd σ2)) := by
  refine zMi.of (own := RX10) (by decide +kernel) rfl rfl (Nat.le_of_ble_eq_true rfl) ?_
  intro p e s m args below meth c A Q X ret
  refine zg_lv (lv2 := [(0, .ref a0), (1, .int p1)]) rfl ?_
  obtain ⟨R, hR⟩ : ∃ R, R = F_X10_main a0 p1 σ := ⟨_, rfl⟩
  have E := hR
  unfold F_X10_main at E
  have hS : zSm [6, 20, 21, 30, 31, 33, 34, 35, 36, 38] [5] L kd σ σ := zSm.rf
  refine zg_aload_n X 0 rfl dX10_main_0 ?_
  refine zg_cVi (As := []) (st := []) X ha0 rfl (by decide) rfl (t_X10_hasMouth l d L kd κ 0 _ hI a0 ha0 ) mk_X10_277 mc_X10_hasMouth mz_X10 mi_X10_hasMouth ml_X10_hasMouth (na := 0) ⟨md_X10.1, md_X10.2, by decide +kernel⟩ rfl ⟨by decide, by decide⟩ (Nat.le_of_ble_eq_true rfl) dX10_main_1 (fun v1 s2 hq => ?_)
  obtain ⟨hF, hS2, hI⟩ := hq
  replace E := zLet2_s hF E
  have hS := hS.tr hS2 rfl rfl
  obtain ⟨hv1, hI⟩ := hI
  refine zg_if_eq X 11 dX10_main_4 (by decide) (fun c3 => ?_) (fun c3 => ?_)
  · skip
    replace E := zIf_t c3 E
    refine zg_iconst X (-1) dX10_main_11 (by decide) (fun v4 _ hv4 => ?_)
    replace E := zLet_s (zcst hv4 (by decide)) E
    exact ret _ _ _ _ dX10_main_12 rfl ⟨E.symm.trans hR, hS, hI⟩
  · skip
    replace E := zIf_f c3 E
    refine zg_iload_n X 1 rfl dX10_main_7 ?_
    refine zg_if_ge X 13 dX10_main_8 (by decide) (fun c5 => ?_) (fun c5 => ?_)
    · skip
      replace E := zIf_f (Int.not_lt.mpr c5) E
      refine zg_aload_n X 0 rfl dX10_main_13 ?_
      refine zg_cVv (As := []) (st := []) X ha0 rfl (by decide) rfl (t_X10_look l d L kd κ 0 _ hI a0 ha0 ) mk_X10_113 mc_X10_look mz_X10 mi_X10_look ml_X10_look (na := 0) ⟨md_X10.1, md_X10.2, by decide +kernel⟩ rfl ⟨by decide, by decide⟩ (Nat.le_of_ble_eq_true rfl) dX10_main_14 (fun s6 hq => ?_)
      obtain ⟨hF, hS2, hI⟩ := hq
      replace E := zLet_s hF E
      have hS := hS.tr hS2 rfl rfl
      refine zg_iconst X 0 dX10_main_17 (by decide) (fun v7 _ hv7 => ?_)
      replace E := zLet_s (zcst hv7 (by decide)) E
      refine zg_istore_n X [(2, .int v7), (0, .ref a0), (1, .int p1)] dX10_main_18 (by decide) rfl ?_
      refine zg_iconst X 0 dX10_main_19 (by decide) (fun v8 _ hv8 => ?_)
      replace E := zLet_s (zcst hv8 (by decide)) E
      refine zg_istore_n X [(3, .int v8), (2, .int v7), (0, .ref a0), (1, .int p1)] dX10_main_20 (by decide) rfl ?_
      have Lp11 : ∀ (nLp11 : Nat) (τ11 : zS) (x9 : Int32) (x10 : Int32), zI κ 1 L kd τ11 → zSm [6, 20, 21, 30, 31, 33, 34, 35, 36, 38] [5] L kd σ τ11 → R = F_X10_main_21 a0 p1  nLp11 x9 x10 τ11 → (-1) ≤ x10.toInt ∧ x10.toInt ≤ 11 ∧ 0 ≤ x9.toInt ∧ x9.toInt ≤ 2147483647 → (2147483647) - x9.toInt + 1 < (nLp11 : Int) → zG d L kd A 4 p l e (k2_rm 7 (100 * 7)) s m args below meth c Q τ11 21 [(3, .int x9), (2, .int x10), (0, .ref a0), (1, .int p1)] [] := by
        intro nLp11
        induction nLp11 with
        | zero => intro τ11 x9 x10 hI hS E  hxLp11 hm ; exact absurd hm (by omega)
        | succ nLp11 ihLp11 =>
          intro τ11 x9 x10 hI hS E  hxLp11 hmLp11 
          rw [F_X10_main_21] at E
          refine zg_iload_n X 0 rfl dX10_main_21 ?_
          refine zg_iload_n X 3 rfl dX10_main_22 ?_
          have zx9_z12 := zb_rng x9
          have zp1_z13 := zb_rng p1
          refine zg_icmp_ge X 43 dX10_main_23 (by decide) (fun c14 => ?_) (fun c14 => ?_)
          · skip
            replace E := zIf_f (Int.not_lt.mpr c14) E
            refine zg_iload_n X 1 rfl dX10_main_43 ?_
            exact ret _ _ _ _ dX10_main_44 rfl ⟨E.symm.trans hR, hS, (zi_weak hI)⟩
          · skip
            replace E := zIf_t c14 E
            refine zg_iload_n X 1 rfl dX10_main_26 ?_
            refine zg_iconst X (-1) dX10_main_27 (by decide) (fun v15 _ hv15 => ?_)
            replace E := zLet_s (zcst hv15 (by decide)) E
            refine zg_icmp_eq X 43 dX10_main_28 (by decide) (fun c16 => ?_) (fun c16 => ?_)
            · skip
              replace E := zIf_t c16 E
              refine zg_iload_n X 1 rfl dX10_main_43 ?_
              exact ret _ _ _ _ dX10_main_44 rfl ⟨E.symm.trans hR, hS, (zi_weak hI)⟩
            · skip
              replace E := zIf_f c16 E
              refine zg_aload_n X 2 rfl dX10_main_31 ?_
              refine zg_iload_n X 1 rfl dX10_main_32 ?_
              refine zg_cVi (As := [.int x10]) (st := []) X ha0 rfl (by decide) rfl (t_X10_greatestInto l d L kd κ _ hI a0 ha0 x10 ) mk_X10_293 mc_X10_greatestInto mz_X10 mi_X10_greatestInto ml_X10_greatestInto (na := 1) ⟨md_X10.1, md_X10.2, by decide +kernel⟩ rfl ⟨by decide, by decide⟩ (Nat.le_of_ble_eq_true rfl) dX10_main_33 (fun v17 s18 hq => ?_)
              obtain ⟨hF, hS2, hI⟩ := hq
              replace E := zLet2_s hF E
              have hS := hS.tr hS2 rfl rfl
              obtain ⟨hv17, hI⟩ := hI
              refine zg_istore_n X [(2, .int v17), (3, .int x9), (0, .ref a0), (1, .int p1)] dX10_main_36 (by decide) rfl ?_
              refine zg_iinc X 1 (fun v19 => [(3, .int v19), (2, .int v17), (0, .ref a0), (1, .int p1)]) 1 dX10_main_37 rfl (by decide) (by decide) (by omega) (by omega) (fun _ => rfl) (fun v19 ev19 hv19 => ?_)
              replace E := zLet_s (zinc ev19 (by decide)) E
              refine zg_goto X 21 dX10_main_40 (by decide) ?_
              refine zg_sub [0, 1, 2, 3] rfl ?_
              exact ihLp11 _ v19 v17 hI hS E  (by omega) (by omega) 
      have zrLp11 := zb_rng v8
      refine zg_sub [0, 1, 2, 3] rfl ?_
      exact Lp11 4294967299 _ v8 v7 hI hS E  (by omega) (by omega) 
    · skip
      replace E := zIf_t c5 E
      refine zg_iconst X (-1) dX10_main_11 (by decide) (fun v20 _ hv20 => ?_)
      replace E := zLet_s (zcst hv20 (by decide)) E
      exact ret _ _ _ _ dX10_main_12 rfl ⟨E.symm.trans hR, hS, hI⟩
set_option maxHeartbeats 4000000 in
set_option maxRecDepth 100000 in
theorem t_X10_agree (l : Launch) (d : zD2) (L : List Nat) (kd : Nat → Nat) (κ : Int) (σ : zS) (hI : zI κ 0 L kd σ) (a0 : Nat) (ha0 : zT L kd a0 10) (p1 : Int32) : zMi l yX10_agree (Cond.code yX10_agree cX10_agree 5 (some .int) :: zWL) 7 [.ref a0, .int p1] d L kd σ (fun v σ2 => (v, σ2) = F_X10_agree a0 p1 σ ∧ zSm [1, 6, 20, 21, 22, 23, 24, 30, 31, 32, 33, 34, 35, 36, 38] [5] L kd σ σ2 ∧ (zI κ 0 L kd σ2)) := by
  refine zMi.of (own := RX10) (by decide +kernel) rfl rfl (Nat.le_of_ble_eq_true rfl) ?_
  intro p e s m args below meth c A Q X ret
  refine zg_lv (lv2 := [(0, .ref a0), (1, .int p1)]) rfl ?_
  obtain ⟨R, hR⟩ : ∃ R, R = F_X10_agree a0 p1 σ := ⟨_, rfl⟩
  have E := hR
  unfold F_X10_agree at E
  have hS : zSm [1, 6, 20, 21, 22, 23, 24, 30, 31, 32, 33, 34, 35, 36, 38] [5] L kd σ σ := zSm.rf
  refine zg_iload_n X 1 rfl dX10_agree_0 ?_
  refine zg_iconst X 1 dX10_agree_1 (by decide) (fun v1 _ hv1 => ?_)
  replace E := zLet_s (zcst hv1 (by decide)) E
  refine zg_bipush X 24 dX10_agree_2 (by decide) (fun v2 _ hv2 => ?_)
  replace E := zLet_s (zcst hv2 (by decide)) E
  refine zg_cSi (As := [.int p1, .int v1, .int v2]) (st := []) X (t_X10_isWithin l d L kd _ p1 v1 v2 ) mk_X10_229 mc_X10_isWithin mz_X10 ms_X10_isWithin (na := 3) ⟨md_X10.1, md_X10.2, by decide +kernel⟩ rfl ⟨by decide, by decide⟩ (Nat.le_of_ble_eq_true rfl) dX10_agree_4 (fun v3 σ2 hq => ?_)
  obtain ⟨⟨hF, hv3⟩, rfl⟩ := hq
  replace E := zLet_s hF E
  refine zg_if_ne X 12 dX10_agree_7 (by decide) (fun c4 => ?_) (fun c4 => ?_)
  · skip
    replace E := zIf_f c4 E
    refine zg_iconst X 0 dX10_agree_12 (by decide) (fun v5 _ hv5 => ?_)
    replace E := zLet_s (zcst hv5 (by decide)) E
    refine zg_istore_n X [(2, .int v5), (0, .ref a0), (1, .int p1)] dX10_agree_13 (by decide) rfl ?_
    refine zg_aload_n X 1 rfl dX10_agree_14 ?_
    refine zg_cVv (As := []) (st := []) X ha0 rfl (by decide) rfl (t_X10_tryFromNow l d L kd κ 0 _ hI a0 ha0 ) mk_X10_296 mc_X10_tryFromNow mz_X10 mi_X10_tryFromNow ml_X10_tryFromNow (na := 0) ⟨md_X10.1, md_X10.2, by decide +kernel⟩ rfl ⟨by decide, by decide⟩ (Nat.le_of_ble_eq_true rfl) dX10_agree_15 (fun s6 hq => ?_)
    obtain ⟨hF, hS2, hI⟩ := hq
    replace E := zLet_s hF E
    have hS := hS.tr hS2 rfl rfl
    refine zg_iconst X 0 dX10_agree_18 (by decide) (fun v7 _ hv7 => ?_)
    replace E := zLet_s (zcst hv7 (by decide)) E
    refine zg_istore_n X [(3, .int v7), (2, .int v5), (0, .ref a0), (1, .int p1)] dX10_agree_19 (by decide) rfl ?_
    have Lp10 : ∀ (nLp10 : Nat) (τ10 : zS) (x8 : Int32) (x9 : Int32), zI κ 1 L kd τ10 → zSm [1, 6, 20, 21, 22, 23, 24, 30, 31, 32, 33, 34, 35, 36, 38] [5] L kd σ τ10 → R = F_X10_agree_20 a0 p1  nLp10 x8 x9 τ10 → 0 ≤ x8.toInt ∧ x8.toInt ≤ 2147483647 → (2147483647) - x8.toInt + 1 < (nLp10 : Int) → zG d L kd A 5 p l e (k2_rm 7 (100 * 7)) s m args below meth c Q τ10 20 [(3, .int x8), (2, .int x9), (0, .ref a0), (1, .int p1)] [] := by
      intro nLp10
      induction nLp10 with
      | zero => intro τ10 x8 x9 hI hS E  hxLp10 hm ; exact absurd hm (by omega)
      | succ nLp10 ihLp10 =>
        intro τ10 x8 x9 hI hS E  hxLp10 hmLp10 
        rw [F_X10_agree_20] at E
        refine zg_iload_n X 0 rfl dX10_agree_20 ?_
        refine zg_iload_n X 3 rfl dX10_agree_21 ?_
        have zx8_z11 := zb_rng x8
        have zp1_z12 := zb_rng p1
        refine zg_icmp_ge X 82 dX10_agree_22 (by decide) (fun c13 => ?_) (fun c13 => ?_)
        · skip
          replace E := zIf_f (Int.not_lt.mpr c13) E
          refine zg_iload_n X 1 rfl dX10_agree_82 ?_
          exact ret _ _ _ _ dX10_agree_83 rfl ⟨E.symm.trans hR, hS, (zi_weak hI)⟩
        · skip
          replace E := zIf_t c13 E
          refine zg_aload_n X 2 rfl dX10_agree_25 ?_
          refine fg_X10_26 X hI ha0 dX10_agree_26 (fun v14 ev14 hv14 => ?_)
          replace E := zLet_s (zgr ev14) E
          refine zg_iconst X 0 dX10_agree_29 (by decide) (fun v15 _ hv15 => ?_)
          replace E := zLet_s (zcst hv15 (by decide)) E
          refine zg_cVi (As := [.int v15]) (st := []) X hv14 rfl (by decide) rfl (t_X5_winnerBy l d L kd κ _ hI v14 hv14 v15 (by omega)) mk_X10_172 mc_X5_winnerBy mz_X5 mi_X5_winnerBy ml_X5_winnerBy (na := 1) ⟨md_X5.1, md_X5.2, by decide +kernel⟩ rfl ⟨by decide, by decide⟩ (Nat.le_of_ble_eq_true rfl) dX10_agree_30 (fun v16 s17 hq => ?_)
          obtain ⟨hF, hS2, hI⟩ := hq
          replace E := zLet2_s hF E
          have hS := hS.tr hS2 rfl rfl
          obtain ⟨hv16, hI⟩ := hI
          refine zg_istore X [(4, .int v16), (3, .int x8), (2, .int x9), (0, .ref a0), (1, .int p1)] dX10_agree_33 (by decide) rfl ?_
          refine zg_iload X 0 rfl dX10_agree_35 ?_
          refine zg_if_le X 69 dX10_agree_37 (by decide) (fun c18 => ?_) (fun c18 => ?_)
          · skip
            replace E := zIf_f (Int.not_lt.mpr c18) E
            refine zg_aload_n X 3 rfl dX10_agree_69 ?_
            refine fg_X10_26 X hI ha0 dX10_agree_70 (fun v19 ev19 hv19 => ?_)
            replace E := zLet_s (zgr ev19) E
            refine zg_cVv (As := []) (st := []) X hv19 rfl (by decide) rfl (t_X5_goOn l d L kd κ _ hI v19 hv19 ) mk_X10_299 mc_X5_goOn mz_X5 mi_X5_goOn ml_X5_goOn (na := 0) ⟨md_X5.1, md_X5.2, by decide +kernel⟩ rfl ⟨by decide, by decide⟩ (Nat.le_of_ble_eq_true rfl) dX10_agree_73 (fun s20 hq => ?_)
            obtain ⟨hF, hS2, hI⟩ := hq
            replace E := zLet_s hF E
            have hS := hS.tr hS2 rfl rfl
            refine zg_iinc X 1 (fun v21 => [(3, .int v21), (4, .int v16), (2, .int x9), (0, .ref a0), (1, .int p1)]) 1 dX10_agree_76 rfl (by decide) (by decide) (by omega) (by omega) (fun _ => rfl) (fun v21 ev21 hv21 => ?_)
            replace E := zLet_s (zinc ev21 (by decide)) E
            refine zg_goto X 20 dX10_agree_79 (by decide) ?_
            refine zg_sub [0, 2, 3, 4] rfl ?_
            exact ihLp10 _ v21 x9 hI hS E  (by omega) (by omega) 
          · skip
            replace E := zIf_t c18 E
            refine zg_iload X 0 rfl dX10_agree_40 ?_
            refine zg_aload_n X 3 rfl dX10_agree_42 ?_
            refine fg_X10_26 X hI ha0 dX10_agree_43 (fun v22 ev22 hv22 => ?_)
            replace E := zLet_s (zgr ev22) E
            refine zg_iconst X 1 dX10_agree_46 (by decide) (fun v23 _ hv23 => ?_)
            replace E := zLet_s (zcst hv23 (by decide)) E
            refine zg_cVi (As := [.int v23]) (st := [.int v16]) X hv22 rfl (by decide) rfl (t_X5_winnerBy l d L kd κ _ hI v22 hv22 v23 (by omega)) mk_X10_172 mc_X5_winnerBy mz_X5 mi_X5_winnerBy ml_X5_winnerBy (na := 1) ⟨md_X5.1, md_X5.2, by decide +kernel⟩ rfl ⟨by decide, by decide⟩ (Nat.le_of_ble_eq_true rfl) dX10_agree_47 (fun v24 s25 hq => ?_)
            obtain ⟨hF, hS2, hI⟩ := hq
            replace E := zLet2_s hF E
            have hS := hS.tr hS2 rfl rfl
            obtain ⟨hv24, hI⟩ := hI
            refine zg_icmp_ne X 69 dX10_agree_50 (by decide) (fun c26 => ?_) (fun c26 => ?_)
            · skip
              replace E := zIf_f c26 E
              refine zg_aload_n X 3 rfl dX10_agree_69 ?_
              refine fg_X10_26 X hI ha0 dX10_agree_70 (fun v27 ev27 hv27 => ?_)
              replace E := zLet_s (zgr ev27) E
              refine zg_cVv (As := []) (st := []) X hv27 rfl (by decide) rfl (t_X5_goOn l d L kd κ _ hI v27 hv27 ) mk_X10_299 mc_X5_goOn mz_X5 mi_X5_goOn ml_X5_goOn (na := 0) ⟨md_X5.1, md_X5.2, by decide +kernel⟩ rfl ⟨by decide, by decide⟩ (Nat.le_of_ble_eq_true rfl) dX10_agree_73 (fun s28 hq => ?_)
              obtain ⟨hF, hS2, hI⟩ := hq
              replace E := zLet_s hF E
              have hS := hS.tr hS2 rfl rfl
              refine zg_iinc X 1 (fun v29 => [(3, .int v29), (4, .int v16), (2, .int x9), (0, .ref a0), (1, .int p1)]) 1 dX10_agree_76 rfl (by decide) (by decide) (by omega) (by omega) (fun _ => rfl) (fun v29 ev29 hv29 => ?_)
              replace E := zLet_s (zinc ev29 (by decide)) E
              refine zg_goto X 20 dX10_agree_79 (by decide) ?_
              refine zg_sub [0, 2, 3, 4] rfl ?_
              exact ihLp10 _ v29 x9 hI hS E  (by omega) (by omega) 
            · skip
              replace E := zIf_t c26 E
              refine zg_iload X 0 rfl dX10_agree_53 ?_
              refine zg_aload_n X 3 rfl dX10_agree_55 ?_
              refine fg_X10_26 X hI ha0 dX10_agree_56 (fun v30 ev30 hv30 => ?_)
              replace E := zLet_s (zgr ev30) E
              refine zg_iconst X 2 dX10_agree_59 (by decide) (fun v31 _ hv31 => ?_)
              replace E := zLet_s (zcst hv31 (by decide)) E
              refine zg_cVi (As := [.int v31]) (st := [.int v16]) X hv30 rfl (by decide) rfl (t_X5_winnerBy l d L kd κ _ hI v30 hv30 v31 (by omega)) mk_X10_172 mc_X5_winnerBy mz_X5 mi_X5_winnerBy ml_X5_winnerBy (na := 1) ⟨md_X5.1, md_X5.2, by decide +kernel⟩ rfl ⟨by decide, by decide⟩ (Nat.le_of_ble_eq_true rfl) dX10_agree_60 (fun v32 s33 hq => ?_)
              obtain ⟨hF, hS2, hI⟩ := hq
              replace E := zLet2_s hF E
              have hS := hS.tr hS2 rfl rfl
              obtain ⟨hv32, hI⟩ := hI
              refine zg_icmp_ne X 69 dX10_agree_63 (by decide) (fun c34 => ?_) (fun c34 => ?_)
              · skip
                replace E := zIf_f c34 E
                refine zg_aload_n X 3 rfl dX10_agree_69 ?_
                refine fg_X10_26 X hI ha0 dX10_agree_70 (fun v35 ev35 hv35 => ?_)
                replace E := zLet_s (zgr ev35) E
                refine zg_cVv (As := []) (st := []) X hv35 rfl (by decide) rfl (t_X5_goOn l d L kd κ _ hI v35 hv35 ) mk_X10_299 mc_X5_goOn mz_X5 mi_X5_goOn ml_X5_goOn (na := 0) ⟨md_X5.1, md_X5.2, by decide +kernel⟩ rfl ⟨by decide, by decide⟩ (Nat.le_of_ble_eq_true rfl) dX10_agree_73 (fun s36 hq => ?_)
                obtain ⟨hF, hS2, hI⟩ := hq
                replace E := zLet_s hF E
                have hS := hS.tr hS2 rfl rfl
                refine zg_iinc X 1 (fun v37 => [(3, .int v37), (4, .int v16), (2, .int x9), (0, .ref a0), (1, .int p1)]) 1 dX10_agree_76 rfl (by decide) (by decide) (by omega) (by omega) (fun _ => rfl) (fun v37 ev37 hv37 => ?_)
                replace E := zLet_s (zinc ev37 (by decide)) E
                refine zg_goto X 20 dX10_agree_79 (by decide) ?_
                refine zg_sub [0, 2, 3, 4] rfl ?_
                exact ihLp10 _ v37 x9 hI hS E  (by omega) (by omega) 
              · skip
                replace E := zIf_t c34 E
                refine zg_iincW X (fun v38 => [(2, .int v38), (4, .int v16), (3, .int x8), (0, .ref a0), (1, .int p1)]) 2 dX10_agree_66 rfl (by decide) (fun _ => rfl) (fun v38 ev38 => ?_)
                replace E := zLet_s (zinc ev38 (by decide)) E
                refine zg_aload_n X 3 rfl dX10_agree_69 ?_
                refine fg_X10_26 X hI ha0 dX10_agree_70 (fun v39 ev39 hv39 => ?_)
                replace E := zLet_s (zgr ev39) E
                refine zg_cVv (As := []) (st := []) X hv39 rfl (by decide) rfl (t_X5_goOn l d L kd κ _ hI v39 hv39 ) mk_X10_299 mc_X5_goOn mz_X5 mi_X5_goOn ml_X5_goOn (na := 0) ⟨md_X5.1, md_X5.2, by decide +kernel⟩ rfl ⟨by decide, by decide⟩ (Nat.le_of_ble_eq_true rfl) dX10_agree_73 (fun s40 hq => ?_)
                obtain ⟨hF, hS2, hI⟩ := hq
                replace E := zLet_s hF E
                have hS := hS.tr hS2 rfl rfl
                refine zg_iinc X 1 (fun v41 => [(3, .int v41), (2, .int v38), (4, .int v16), (0, .ref a0), (1, .int p1)]) 2 dX10_agree_76 rfl (by decide) (by decide) (by omega) (by omega) (fun _ => rfl) (fun v41 ev41 hv41 => ?_)
                replace E := zLet_s (zinc ev41 (by decide)) E
                refine zg_goto X 20 dX10_agree_79 (by decide) ?_
                refine zg_sub [0, 1, 3, 4] rfl ?_
                exact ihLp10 _ v41 v38 hI hS E  (by omega) (by omega) 
    have zrLp10 := zb_rng v7
    refine zg_sub [0, 1, 2, 3] rfl ?_
    exact Lp10 4294967299 _ v7 v5 hI hS E  (by omega) (by omega) 
  · skip
    replace E := zIf_t c4 E
    refine zg_iconst X (-1) dX10_agree_10 (by decide) (fun v42 _ hv42 => ?_)
    replace E := zLet_s (zcst hv42 (by decide)) E
    exact ret _ _ _ _ dX10_agree_11 rfl ⟨E.symm.trans hR, hS, hI⟩
set_option maxHeartbeats 4000000 in
set_option maxRecDepth 100000 in
theorem t_X10_driest (l : Launch) (d : zD2) (L : List Nat) (kd : Nat → Nat) (κ : Int) (σ : zS) (hI : zI κ 0 L kd σ) (a0 : Nat) (ha0 : zT L kd a0 10) (p1 : Int32) (p2 : Int32) : zMi l yX10_driest (Cond.code yX10_driest cX10_driest 6 (some .int) :: zWL) 7 [.ref a0, .int p1, .int p2] d L kd σ (fun v σ2 => (v, σ2) = F_X10_driest a0 p1 p2 σ ∧ zSm [1, 6, 20, 21, 22, 23, 24, 30, 31, 32, 33, 34, 35, 36, 38] [5] L kd σ σ2 ∧ (zI κ 0 L kd σ2)) := by
  refine zMi.of (own := RX10) (by decide +kernel) rfl rfl (Nat.le_of_ble_eq_true rfl) ?_
  intro p e s m args below meth c A Q X ret
  refine zg_lv (lv2 := [(0, .ref a0), (1, .int p1), (2, .int p2)]) rfl ?_
  obtain ⟨R, hR⟩ : ∃ R, R = F_X10_driest a0 p1 p2 σ := ⟨_, rfl⟩
  have E := hR
  unfold F_X10_driest at E
  have hS : zSm [1, 6, 20, 21, 22, 23, 24, 30, 31, 32, 33, 34, 35, 36, 38] [5] L kd σ σ := zSm.rf
  refine zg_aload_n X 0 rfl dX10_driest_0 ?_
  refine zg_cVi (As := []) (st := []) X ha0 rfl (by decide) rfl (t_X10_hasMouth l d L kd κ 0 _ hI a0 ha0 ) mk_X10_277 mc_X10_hasMouth mz_X10 mi_X10_hasMouth ml_X10_hasMouth (na := 0) ⟨md_X10.1, md_X10.2, by decide +kernel⟩ rfl ⟨by decide, by decide⟩ (Nat.le_of_ble_eq_true rfl) dX10_driest_1 (fun v1 s2 hq => ?_)
  obtain ⟨hF, hS2, hI⟩ := hq
  replace E := zLet2_s hF E
  have hS := hS.tr hS2 rfl rfl
  obtain ⟨hv1, hI⟩ := hI
  refine zg_if_eq X 26 dX10_driest_4 (by decide) (fun c3 => ?_) (fun c3 => ?_)
  · skip
    replace E := zIf_t c3 E
    refine zg_iconst X (-1) dX10_driest_26 (by decide) (fun v4 _ hv4 => ?_)
    replace E := zLet_s (zcst hv4 (by decide)) E
    exact ret _ _ _ _ dX10_driest_27 rfl ⟨E.symm.trans hR, hS, hI⟩
  · skip
    replace E := zIf_f c3 E
    refine zg_iload_n X 1 rfl dX10_driest_7 ?_
    refine zg_iconst X 1 dX10_driest_8 (by decide) (fun v5 _ hv5 => ?_)
    replace E := zLet_s (zcst hv5 (by decide)) E
    refine zg_bipush X 24 dX10_driest_9 (by decide) (fun v6 _ hv6 => ?_)
    replace E := zLet_s (zcst hv6 (by decide)) E
    refine zg_cSi (As := [.int p1, .int v5, .int v6]) (st := []) X (t_X10_isWithin l d L kd _ p1 v5 v6 ) mk_X10_229 mc_X10_isWithin mz_X10 ms_X10_isWithin (na := 3) ⟨md_X10.1, md_X10.2, by decide +kernel⟩ rfl ⟨by decide, by decide⟩ (Nat.le_of_ble_eq_true rfl) dX10_driest_11 (fun v7 σ2 hq => ?_)
    obtain ⟨⟨hF, hv7⟩, rfl⟩ := hq
    replace E := zLet_s hF E
    refine zg_if_eq X 26 dX10_driest_14 (by decide) (fun c8 => ?_) (fun c8 => ?_)
    · skip
      replace E := zIf_t c8 E
      refine zg_iconst X (-1) dX10_driest_26 (by decide) (fun v9 _ hv9 => ?_)
      replace E := zLet_s (zcst hv9 (by decide)) E
      exact ret _ _ _ _ dX10_driest_27 rfl ⟨E.symm.trans hR, hS, hI⟩
    · skip
      replace E := zIf_f c8 E
      refine zg_iload_n X 2 rfl dX10_driest_17 ?_
      refine zg_iconst X 0 dX10_driest_18 (by decide) (fun v10 _ hv10 => ?_)
      replace E := zLet_s (zcst hv10 (by decide)) E
      refine zg_iconst X 1 dX10_driest_19 (by decide) (fun v11 _ hv11 => ?_)
      replace E := zLet_s (zcst hv11 (by decide)) E
      refine zg_cSi (As := [.int p2, .int v10, .int v11]) (st := []) X (t_X10_isWithin l d L kd _ p2 v10 v11 ) mk_X10_229 mc_X10_isWithin mz_X10 ms_X10_isWithin (na := 3) ⟨md_X10.1, md_X10.2, by decide +kernel⟩ rfl ⟨by decide, by decide⟩ (Nat.le_of_ble_eq_true rfl) dX10_driest_20 (fun v12 σ2 hq => ?_)
      obtain ⟨⟨hF, hv12⟩, rfl⟩ := hq
      replace E := zLet_s hF E
      refine zg_if_ne X 28 dX10_driest_23 (by decide) (fun c13 => ?_) (fun c13 => ?_)
      · skip
        replace E := zIf_f c13 E
        refine zg_iconst X 0 dX10_driest_28 (by decide) (fun v14 _ hv14 => ?_)
        replace E := zLet_s (zcst hv14 (by decide)) E
        refine zg_istore_n X [(3, .int v14), (0, .ref a0), (1, .int p1), (2, .int p2)] dX10_driest_29 (by decide) rfl ?_
        refine zg_aload_n X 1 rfl dX10_driest_30 ?_
        refine zg_cVv (As := []) (st := []) X ha0 rfl (by decide) rfl (t_X10_tryFromNow l d L kd κ 0 _ hI a0 ha0 ) mk_X10_296 mc_X10_tryFromNow mz_X10 mi_X10_tryFromNow ml_X10_tryFromNow (na := 0) ⟨md_X10.1, md_X10.2, by decide +kernel⟩ rfl ⟨by decide, by decide⟩ (Nat.le_of_ble_eq_true rfl) dX10_driest_31 (fun s15 hq => ?_)
        obtain ⟨hF, hS2, hI⟩ := hq
        replace E := zLet_s hF E
        have hS := hS.tr hS2 rfl rfl
        refine zg_aload_n X 1 rfl dX10_driest_34 ?_
        refine zg_cVi (As := []) (st := []) X ha0 rfl (by decide) rfl (t_X10_mouthFlow l d L kd κ 1 _ hI a0 ha0 ) mk_X10_191 mc_X10_mouthFlow mz_X10 mi_X10_mouthFlow ml_X10_mouthFlow (na := 0) ⟨md_X10.1, md_X10.2, by decide +kernel⟩ rfl ⟨by decide, by decide⟩ (Nat.le_of_ble_eq_true rfl) dX10_driest_35 (fun v16 s17 hq => ?_)
        obtain ⟨hF, hS2, hI⟩ := hq
        replace E := zLet2_s hF E
        have hS := hS.tr hS2 rfl rfl
        refine zg_istore X [(4, .int v16), (3, .int v14), (0, .ref a0), (1, .int p1), (2, .int p2)] dX10_driest_38 (by decide) rfl ?_
        refine zg_iconst X 1 dX10_driest_40 (by decide) (fun v18 _ hv18 => ?_)
        replace E := zLet_s (zcst hv18 (by decide)) E
        refine zg_istore X [(5, .int v18), (4, .int v16), (3, .int v14), (0, .ref a0), (1, .int p1), (2, .int p2)] dX10_driest_41 (by decide) rfl ?_
        have Lp22 : ∀ (nLp22 : Nat) (τ22 : zS) (x19 : Int32) (x20 : Int32) (x21 : Int32), zI κ 1 L kd τ22 → zSm [1, 6, 20, 21, 22, 23, 24, 30, 31, 32, 33, 34, 35, 36, 38] [5] L kd σ τ22 → R = F_X10_driest_43 a0 p1 p2  nLp22 x19 x20 x21 τ22 → 1 ≤ x19.toInt ∧ x19.toInt ≤ 2147483647 → (2147483647) - x19.toInt + 1 < (nLp22 : Int) → zG d L kd A 6 p l e (k2_rm 7 (100 * 7)) s m args below meth c Q τ22 43 [(5, .int x19), (4, .int x20), (3, .int x21), (0, .ref a0), (1, .int p1), (2, .int p2)] [] := by
          intro nLp22
          induction nLp22 with
          | zero => intro τ22 x19 x20 x21 hI hS E  hxLp22 hm ; exact absurd hm (by omega)
          | succ nLp22 ihLp22 =>
            intro τ22 x19 x20 x21 hI hS E  hxLp22 hmLp22 
            rw [F_X10_driest_43] at E
            refine zg_iload X 0 rfl dX10_driest_43 ?_
            refine zg_iload_n X 4 rfl dX10_driest_45 ?_
            have zx19_z23 := zb_rng x19
            have zp1_z24 := zb_rng p1
            refine zg_icmp_ge X 80 dX10_driest_46 (by decide) (fun c25 => ?_) (fun c25 => ?_)
            · skip
              replace E := zIf_f (Int.not_lt.mpr c25) E
              refine zg_iload_n X 5 rfl dX10_driest_80 ?_
              refine zg_if_ne X 88 dX10_driest_81 (by decide) (fun c26 => ?_) (fun c26 => ?_)
              · skip
                replace E := zIf_f c26 E
                refine zg_iload X 1 rfl dX10_driest_88 ?_
                exact ret _ _ _ _ dX10_driest_90 rfl ⟨E.symm.trans hR, hS, (zi_weak hI)⟩
              · skip
                replace E := zIf_t c26 E
                refine zg_iload_n X 2 rfl dX10_driest_84 ?_
                refine zg_goto X 90 dX10_driest_85 (by decide) ?_
                exact ret _ _ _ _ dX10_driest_90 rfl ⟨E.symm.trans hR, hS, (zi_weak hI)⟩
            · skip
              replace E := zIf_t c25 E
              refine zg_aload_n X 3 rfl dX10_driest_49 ?_
              refine fg_X10_26 X hI ha0 dX10_driest_50 (fun v27 ev27 hv27 => ?_)
              replace E := zLet_s (zgr ev27) E
              refine zg_cVv (As := []) (st := []) X hv27 rfl (by decide) rfl (t_X5_goOn l d L kd κ _ hI v27 hv27 ) mk_X10_299 mc_X5_goOn mz_X5 mi_X5_goOn ml_X5_goOn (na := 0) ⟨md_X5.1, md_X5.2, by decide +kernel⟩ rfl ⟨by decide, by decide⟩ (Nat.le_of_ble_eq_true rfl) dX10_driest_53 (fun s28 hq => ?_)
              obtain ⟨hF, hS2, hI⟩ := hq
              replace E := zLet_s hF E
              have hS := hS.tr hS2 rfl rfl
              refine zg_aload_n X 3 rfl dX10_driest_56 ?_
              refine zg_cVi (As := []) (st := []) X ha0 rfl (by decide) rfl (t_X10_mouthFlow l d L kd κ 1 _ hI a0 ha0 ) mk_X10_191 mc_X10_mouthFlow mz_X10 mi_X10_mouthFlow ml_X10_mouthFlow (na := 0) ⟨md_X10.1, md_X10.2, by decide +kernel⟩ rfl ⟨by decide, by decide⟩ (Nat.le_of_ble_eq_true rfl) dX10_driest_57 (fun v29 s30 hq => ?_)
              obtain ⟨hF, hS2, hI⟩ := hq
              replace E := zLet2_s hF E
              have hS := hS.tr hS2 rfl rfl
              refine zg_iload X 1 rfl dX10_driest_60 ?_
              have zv29_z31 := zb_rng v29
              have zx20_z32 := zb_rng x20
              refine zg_icmp_ge X 74 dX10_driest_62 (by decide) (fun c33 => ?_) (fun c33 => ?_)
              · skip
                replace E := zIf_f (Int.not_lt.mpr c33) E
                refine zg_iinc X 1 (fun v34 => [(5, .int v34), (4, .int x20), (3, .int x21), (0, .ref a0), (1, .int p1), (2, .int p2)]) 0 dX10_driest_74 rfl (by decide) (by decide) (by omega) (by omega) (fun _ => rfl) (fun v34 ev34 hv34 => ?_)
                replace E := zLet_s (zinc ev34 (by decide)) E
                refine zg_goto X 43 dX10_driest_77 (by decide) ?_
                refine zg_sub [0, 1, 2, 3, 4, 5] rfl ?_
                exact ihLp22 _ v34 x20 x21 hI hS E  (by omega) (by omega) 
              · skip
                replace E := zIf_t c33 E
                refine zg_aload_n X 3 rfl dX10_driest_65 ?_
                refine zg_cVi (As := []) (st := []) X ha0 rfl (by decide) rfl (t_X10_mouthFlow l d L kd κ 1 _ hI a0 ha0 ) mk_X10_191 mc_X10_mouthFlow mz_X10 mi_X10_mouthFlow ml_X10_mouthFlow (na := 0) ⟨md_X10.1, md_X10.2, by decide +kernel⟩ rfl ⟨by decide, by decide⟩ (Nat.le_of_ble_eq_true rfl) dX10_driest_66 (fun v35 s36 hq => ?_)
                obtain ⟨hF, hS2, hI⟩ := hq
                replace E := zLet2_s hF E
                have hS := hS.tr hS2 rfl rfl
                refine zg_istore X [(4, .int v35), (5, .int x19), (3, .int x21), (0, .ref a0), (1, .int p1), (2, .int p2)] dX10_driest_69 (by decide) rfl ?_
                refine zg_iload X 1 rfl dX10_driest_71 ?_
                refine zg_istore_n X [(3, .int x19), (4, .int v35), (5, .int x19), (0, .ref a0), (1, .int p1), (2, .int p2)] dX10_driest_73 (by decide) rfl ?_
                refine zg_iinc X 1 (fun v37 => [(5, .int v37), (3, .int x19), (4, .int v35), (0, .ref a0), (1, .int p1), (2, .int p2)]) 2 dX10_driest_74 rfl (by decide) (by decide) (by omega) (by omega) (fun _ => rfl) (fun v37 ev37 hv37 => ?_)
                replace E := zLet_s (zinc ev37 (by decide)) E
                refine zg_goto X 43 dX10_driest_77 (by decide) ?_
                refine zg_sub [0, 2, 1, 3, 4, 5] rfl ?_
                exact ihLp22 _ v37 v35 x19 hI hS E  (by omega) (by omega) 
        have zrLp22 := zb_rng v18
        refine zg_sub [0, 1, 2, 3, 4, 5] rfl ?_
        exact Lp22 4294967299 _ v18 v16 v14 hI hS E  (by omega) (by omega) 
      · skip
        replace E := zIf_t c13 E
        refine zg_iconst X (-1) dX10_driest_26 (by decide) (fun v38 _ hv38 => ?_)
        replace E := zLet_s (zcst hv38 (by decide)) E
        exact ret _ _ _ _ dX10_driest_27 rfl ⟨E.symm.trans hR, hS, hI⟩
set_option maxHeartbeats 4000000 in
set_option maxRecDepth 100000 in
theorem t_X10_reign (l : Launch) (d : zD2) (L : List Nat) (kd : Nat → Nat) (κ : Int) (σ : zS) (hI : zI κ 0 L kd σ) (a0 : Nat) (ha0 : zT L kd a0 10) (p1 : Int32) (p2 : Int32) (p3 : Int32) : zMi l yX10_reign (Cond.code yX10_reign cX10_reign 6 (some .int) :: zWL) 7 [.ref a0, .int p1, .int p2, .int p3] d L kd σ (fun v σ2 => (v, σ2) = F_X10_reign a0 p1 p2 p3 σ ∧ zSm [1, 6, 20, 21, 22, 23, 24, 30, 31, 32, 33, 34, 35, 36, 38, 53] [5] L kd σ σ2 ∧ (zI κ 0 L kd σ2)) := by
  refine zMi.of (own := RX10) (by decide +kernel) rfl rfl (Nat.le_of_ble_eq_true rfl) ?_
  intro p e s m args below meth c A Q X ret
  refine zg_lv (lv2 := [(0, .ref a0), (1, .int p1), (2, .int p2), (3, .int p3)]) rfl ?_
  obtain ⟨R, hR⟩ : ∃ R, R = F_X10_reign a0 p1 p2 p3 σ := ⟨_, rfl⟩
  have E := hR
  unfold F_X10_reign at E
  have hS : zSm [1, 6, 20, 21, 22, 23, 24, 30, 31, 32, 33, 34, 35, 36, 38, 53] [5] L kd σ σ := zSm.rf
  refine zg_aload_n X 0 rfl dX10_reign_0 ?_
  refine zg_iload_n X 1 rfl dX10_reign_1 ?_
  refine zg_cVi (As := [.int p1]) (st := []) X ha0 rfl (by decide) rfl (t_X10_isLaw l d L kd κ 0 _ hI a0 ha0 p1 ) mk_X10_169 mc_X10_isLaw mz_X10 mi_X10_isLaw ml_X10_isLaw (na := 1) ⟨md_X10.1, md_X10.2, by decide +kernel⟩ rfl ⟨by decide, by decide⟩ (Nat.le_of_ble_eq_true rfl) dX10_reign_2 (fun v1 s2 hq => ?_)
  obtain ⟨hF, hS2, hI⟩ := hq
  replace E := zLet2_s hF E
  have hS := hS.tr hS2 rfl rfl
  obtain ⟨hv1, hI⟩ := hI
  refine zg_if_eq X 27 dX10_reign_5 (by decide) (fun c3 => ?_) (fun c3 => ?_)
  · skip
    replace E := zIf_t c3 E
    refine zg_iconst X (-1) dX10_reign_27 (by decide) (fun v4 _ hv4 => ?_)
    replace E := zLet_s (zcst hv4 (by decide)) E
    exact ret _ _ _ _ dX10_reign_28 rfl ⟨E.symm.trans hR, hS, hI⟩
  · skip
    replace E := zIf_f c3 E
    refine zg_iload_n X 2 rfl dX10_reign_8 ?_
    refine zg_iconst X 1 dX10_reign_9 (by decide) (fun v5 _ hv5 => ?_)
    replace E := zLet_s (zcst hv5 (by decide)) E
    refine zg_bipush X 24 dX10_reign_10 (by decide) (fun v6 _ hv6 => ?_)
    replace E := zLet_s (zcst hv6 (by decide)) E
    refine zg_cSi (As := [.int p2, .int v5, .int v6]) (st := []) X (t_X10_isWithin l d L kd _ p2 v5 v6 ) mk_X10_229 mc_X10_isWithin mz_X10 ms_X10_isWithin (na := 3) ⟨md_X10.1, md_X10.2, by decide +kernel⟩ rfl ⟨by decide, by decide⟩ (Nat.le_of_ble_eq_true rfl) dX10_reign_12 (fun v7 σ2 hq => ?_)
    obtain ⟨⟨hF, hv7⟩, rfl⟩ := hq
    replace E := zLet_s hF E
    refine zg_if_eq X 27 dX10_reign_15 (by decide) (fun c8 => ?_) (fun c8 => ?_)
    · skip
      replace E := zIf_t c8 E
      refine zg_iconst X (-1) dX10_reign_27 (by decide) (fun v9 _ hv9 => ?_)
      replace E := zLet_s (zcst hv9 (by decide)) E
      exact ret _ _ _ _ dX10_reign_28 rfl ⟨E.symm.trans hR, hS, hI⟩
    · skip
      replace E := zIf_f c8 E
      refine zg_iload_n X 3 rfl dX10_reign_18 ?_
      refine zg_iconst X 0 dX10_reign_19 (by decide) (fun v10 _ hv10 => ?_)
      replace E := zLet_s (zcst hv10 (by decide)) E
      refine zg_iconst X 1 dX10_reign_20 (by decide) (fun v11 _ hv11 => ?_)
      replace E := zLet_s (zcst hv11 (by decide)) E
      refine zg_cSi (As := [.int p3, .int v10, .int v11]) (st := []) X (t_X10_isWithin l d L kd _ p3 v10 v11 ) mk_X10_229 mc_X10_isWithin mz_X10 ms_X10_isWithin (na := 3) ⟨md_X10.1, md_X10.2, by decide +kernel⟩ rfl ⟨by decide, by decide⟩ (Nat.le_of_ble_eq_true rfl) dX10_reign_21 (fun v12 σ2 hq => ?_)
      obtain ⟨⟨hF, hv12⟩, rfl⟩ := hq
      replace E := zLet_s hF E
      refine zg_if_ne X 29 dX10_reign_24 (by decide) (fun c13 => ?_) (fun c13 => ?_)
      · skip
        replace E := zIf_f c13 E
        refine zg_aload_n X 0 rfl dX10_reign_29 ?_
        refine fg_X10_63 X hI ha0 dX10_reign_30 (fun v14 ev14 hv14 => ?_)
        replace E := zLet_s (zgr ev14) E
        refine zg_iconst X 0 dX10_reign_33 (by decide) (fun v15 _ hv15 => ?_)
        replace E := zLet_s (zcst hv15 (by decide)) E
        refine zg_cSv (As := [.ref v14, .int v15]) (st := []) X (t_fill l d L kd κ 0 _ hI 53 v14 hv14 v15 rfl (fun _ => rfl) (by decide)) mk_X10_302 mc_J7_fill_53178 mz_J7 ms_J7_fill_53178 (na := 2) ⟨md_J7.1, md_J7.2, by decide +kernel⟩ rfl ⟨by decide, by decide⟩ (Nat.le_of_ble_eq_true rfl) dX10_reign_34 (fun s16 hq => ?_)
        obtain ⟨hF, hI⟩ := hq
        replace E := zLet_s hF E
        have hS := hS.fil hv14 hF rfl
        refine zg_aload_n X 0 rfl dX10_reign_37 ?_
        refine zg_cVv (As := []) (st := []) X ha0 rfl (by decide) rfl (t_X10_tryFromNow l d L kd κ 0 _ hI a0 ha0 ) mk_X10_296 mc_X10_tryFromNow mz_X10 mi_X10_tryFromNow ml_X10_tryFromNow (na := 0) ⟨md_X10.1, md_X10.2, by decide +kernel⟩ rfl ⟨by decide, by decide⟩ (Nat.le_of_ble_eq_true rfl) dX10_reign_38 (fun s17 hq => ?_)
        obtain ⟨hF, hS2, hI⟩ := hq
        replace E := zLet_s hF E
        have hS := hS.tr hS2 rfl rfl
        refine zg_iconst X 0 dX10_reign_41 (by decide) (fun v18 _ hv18 => ?_)
        replace E := zLet_s (zcst hv18 (by decide)) E
        refine zg_istore X [(4, .int v18), (0, .ref a0), (1, .int p1), (2, .int p2), (3, .int p3)] dX10_reign_42 (by decide) rfl ?_
        have Lp20 : ∀ (nLp20 : Nat) (τ20 : zS) (x19 : Int32), zI κ 1 L kd τ20 → zSm [1, 6, 20, 21, 22, 23, 24, 30, 31, 32, 33, 34, 35, 36, 38, 53] [5] L kd σ τ20 → R = F_X10_reign_44 a0 p1 p2 p3  nLp20 x19 τ20 → 0 ≤ x19.toInt ∧ x19.toInt ≤ 2147483647 → (2147483647) - x19.toInt + 1 < (nLp20 : Int) → zG d L kd A 6 p l e (k2_rm 7 (100 * 7)) s m args below meth c Q τ20 44 [(4, .int x19), (0, .ref a0), (1, .int p1), (2, .int p2), (3, .int p3)] [] := by
          intro nLp20
          induction nLp20 with
          | zero => intro τ20 x19 hI hS E  hxLp20 hm ; exact absurd hm (by omega)
          | succ nLp20 ihLp20 =>
            intro τ20 x19 hI hS E  hxLp20 hmLp20 
            rw [F_X10_reign_44] at E
            refine zg_iload X 0 rfl dX10_reign_44 ?_
            refine zg_iload_n X 3 rfl dX10_reign_46 ?_
            have zx19_z21 := zb_rng x19
            have zp2_z22 := zb_rng p2
            refine zg_icmp_ge X 89 dX10_reign_47 (by decide) (fun c23 => ?_) (fun c23 => ?_)
            · skip
              replace E := zIf_f (Int.not_lt.mpr c23) E
              refine zg_iload_n X 4 rfl dX10_reign_89 ?_
              refine zg_if_ne X 100 dX10_reign_90 (by decide) (fun c24 => ?_) (fun c24 => ?_)
              · skip
                replace E := zIf_f c24 E
                refine zg_aload_n X 1 rfl dX10_reign_100 ?_
                refine zg_cVi (As := []) (st := []) X ha0 rfl (by decide) rfl (t_X10_mostTallied l d L kd κ 1 _ hI a0 ha0 ) mk_X10_311 mc_X10_mostTallied mz_X10 mi_X10_mostTallied ml_X10_mostTallied (na := 0) ⟨md_X10.1, md_X10.2, by decide +kernel⟩ rfl ⟨by decide, by decide⟩ (Nat.le_of_ble_eq_true rfl) dX10_reign_101 (fun v25 s26 hq => ?_)
                obtain ⟨hF, hS2, hI⟩ := hq
                replace E := zLet2_s hF E
                have hS := hS.tr hS2 rfl rfl
                obtain ⟨hv25, hI⟩ := hI
                exact ret _ _ _ _ dX10_reign_104 rfl ⟨E.symm.trans hR, hS, (zi_weak hI)⟩
              · skip
                replace E := zIf_t c24 E
                refine zg_aload_n X 1 rfl dX10_reign_93 ?_
                refine zg_cVi (As := []) (st := []) X ha0 rfl (by decide) rfl (t_X10_tallied l d L kd κ 1 _ hI a0 ha0 ) mk_X10_308 mc_X10_tallied mz_X10 mi_X10_tallied ml_X10_tallied (na := 0) ⟨md_X10.1, md_X10.2, by decide +kernel⟩ rfl ⟨by decide, by decide⟩ (Nat.le_of_ble_eq_true rfl) dX10_reign_94 (fun v27 s28 hq => ?_)
                obtain ⟨hF, hS2, hI⟩ := hq
                replace E := zLet2_s hF E
                have hS := hS.tr hS2 rfl rfl
                refine zg_goto X 104 dX10_reign_97 (by decide) ?_
                exact ret _ _ _ _ dX10_reign_104 rfl ⟨E.symm.trans hR, hS, (zi_weak hI)⟩
            · skip
              replace E := zIf_t c23 E
              refine zg_aload_n X 1 rfl dX10_reign_50 ?_
              refine fg_X10_26 X hI ha0 dX10_reign_51 (fun v29 ev29 hv29 => ?_)
              replace E := zLet_s (zgr ev29) E
              refine zg_iload_n X 2 rfl dX10_reign_54 ?_
              refine zg_cVi (As := [.int p1]) (st := []) X hv29 rfl (by decide) rfl (t_X5_winnerBy l d L kd κ _ hI v29 hv29 p1 (by omega)) mk_X10_172 mc_X5_winnerBy mz_X5 mi_X5_winnerBy ml_X5_winnerBy (na := 1) ⟨md_X5.1, md_X5.2, by decide +kernel⟩ rfl ⟨by decide, by decide⟩ (Nat.le_of_ble_eq_true rfl) dX10_reign_55 (fun v30 s31 hq => ?_)
              obtain ⟨hF, hS2, hI⟩ := hq
              replace E := zLet2_s hF E
              have hS := hS.tr hS2 rfl rfl
              obtain ⟨hv30, hI⟩ := hI
              refine zg_istore X [(5, .int v30), (4, .int x19), (0, .ref a0), (1, .int p1), (2, .int p2), (3, .int p3)] dX10_reign_58 (by decide) rfl ?_
              refine zg_iload X 0 rfl dX10_reign_60 ?_
              refine zg_if_le X 76 dX10_reign_62 (by decide) (fun c32 => ?_) (fun c32 => ?_)
              · skip
                replace E := zIf_f (Int.not_lt.mpr c32) E
                refine zg_aload_n X 2 rfl dX10_reign_76 ?_
                refine fg_X10_26 X hI ha0 dX10_reign_77 (fun v33 ev33 hv33 => ?_)
                replace E := zLet_s (zgr ev33) E
                refine zg_cVv (As := []) (st := []) X hv33 rfl (by decide) rfl (t_X5_goOn l d L kd κ _ hI v33 hv33 ) mk_X10_299 mc_X5_goOn mz_X5 mi_X5_goOn ml_X5_goOn (na := 0) ⟨md_X5.1, md_X5.2, by decide +kernel⟩ rfl ⟨by decide, by decide⟩ (Nat.le_of_ble_eq_true rfl) dX10_reign_80 (fun s34 hq => ?_)
                obtain ⟨hF, hS2, hI⟩ := hq
                replace E := zLet_s hF E
                have hS := hS.tr hS2 rfl rfl
                refine zg_iinc X 1 (fun v35 => [(4, .int v35), (5, .int v30), (0, .ref a0), (1, .int p1), (2, .int p2), (3, .int p3)]) 1 dX10_reign_83 rfl (by decide) (by decide) (by omega) (by omega) (fun _ => rfl) (fun v35 ev35 hv35 => ?_)
                replace E := zLet_s (zinc ev35 (by decide)) E
                refine zg_goto X 44 dX10_reign_86 (by decide) ?_
                refine zg_sub [0, 2, 3, 4, 5] rfl ?_
                exact ihLp20 _ v35 hI hS E  (by omega) (by omega) 
              · skip
                replace E := zIf_t c32 E
                refine zg_aload_n X 2 rfl dX10_reign_65 ?_
                refine fg_X10_63 X hI ha0 dX10_reign_66 (fun v36 ev36 hv36 => ?_)
                replace E := zLet_s (zgr ev36) E
                refine zg_iload X 0 rfl dX10_reign_69 ?_
                refine zg_dup2 X dX10_reign_71 rfl rfl ?_
                refine ag_53 X hI hv36 (by omega) (by omega) dX10_reign_72 (fun v37 ev37 _ => ?_)
                replace E := zLet_s ev37 E
                refine zg_iconst X 1 dX10_reign_73 (by decide) (fun v38 _ hv38 => ?_)
                replace E := zLet_s (zcst hv38 (by decide)) E
                refine zg_iaddW X dX10_reign_74 (fun v39 ev39 => ?_)
                replace E := zLet_s ev39 E
                refine as_53 X hI hv36 (by omega) (by omega) dX10_reign_75 (fun s40 es40 hI => ?_)
                replace E := zLet_s es40 E
                have hS := hS.i hv36 es40 rfl
                refine zg_aload_n X 2 rfl dX10_reign_76 ?_
                refine fg_X10_26 X hI ha0 dX10_reign_77 (fun v41 ev41 hv41 => ?_)
                replace E := zLet_s (zgr ev41) E
                refine zg_cVv (As := []) (st := []) X hv41 rfl (by decide) rfl (t_X5_goOn l d L kd κ _ hI v41 hv41 ) mk_X10_299 mc_X5_goOn mz_X5 mi_X5_goOn ml_X5_goOn (na := 0) ⟨md_X5.1, md_X5.2, by decide +kernel⟩ rfl ⟨by decide, by decide⟩ (Nat.le_of_ble_eq_true rfl) dX10_reign_80 (fun s42 hq => ?_)
                obtain ⟨hF, hS2, hI⟩ := hq
                replace E := zLet_s hF E
                have hS := hS.tr hS2 rfl rfl
                refine zg_iinc X 1 (fun v43 => [(4, .int v43), (5, .int v30), (0, .ref a0), (1, .int p1), (2, .int p2), (3, .int p3)]) 1 dX10_reign_83 rfl (by decide) (by decide) (by omega) (by omega) (fun _ => rfl) (fun v43 ev43 hv43 => ?_)
                replace E := zLet_s (zinc ev43 (by decide)) E
                refine zg_goto X 44 dX10_reign_86 (by decide) ?_
                refine zg_sub [0, 2, 3, 4, 5] rfl ?_
                exact ihLp20 _ v43 hI hS E  (by omega) (by omega) 
        have zrLp20 := zb_rng v18
        refine zg_sub [0, 1, 2, 3, 4] rfl ?_
        exact Lp20 4294967299 _ v18 hI hS E  (by omega) (by omega) 
      · skip
        replace E := zIf_t c13 E
        refine zg_iconst X (-1) dX10_reign_27 (by decide) (fun v44 _ hv44 => ?_)
        replace E := zLet_s (zcst hv44 (by decide)) E
        exact ret _ _ _ _ dX10_reign_28 rfl ⟨E.symm.trans hR, hS, hI⟩
set_option maxHeartbeats 4000000 in
set_option maxRecDepth 100000 in
theorem t_X10_when (l : Launch) (d : zD2) (L : List Nat) (kd : Nat → Nat) (κ : Int) (σ : zS) (hI : zI κ 0 L kd σ) (a0 : Nat) (ha0 : zT L kd a0 10) (p1 : Int32) : zMi l yX10_when (Cond.code yX10_when cX10_when 3 (some .int) :: zWL) 7 [.ref a0, .int p1] d L kd σ (fun v σ2 => (v, σ2) = F_X10_when a0 p1 σ ∧ zSm [1, 6, 20, 21, 22, 23, 24, 30, 31, 32, 33, 34, 35, 36, 38] [5] L kd σ σ2 ∧ (zI κ 0 L kd σ2)) := by
  refine zMi.of (own := RX10) (by decide +kernel) rfl rfl (Nat.le_of_ble_eq_true rfl) ?_
  intro p e s m args below meth c A Q X ret
  refine zg_lv (lv2 := [(0, .ref a0), (1, .int p1)]) rfl ?_
  obtain ⟨R, hR⟩ : ∃ R, R = F_X10_when a0 p1 σ := ⟨_, rfl⟩
  have E := hR
  unfold F_X10_when at E
  have hS : zSm [1, 6, 20, 21, 22, 23, 24, 30, 31, 32, 33, 34, 35, 36, 38] [5] L kd σ σ := zSm.rf
  refine zg_aload_n X 0 rfl dX10_when_0 ?_
  refine zg_cVv (As := []) (st := []) X ha0 rfl (by decide) rfl (t_X10_look l d L kd κ 0 _ hI a0 ha0 ) mk_X10_113 mc_X10_look mz_X10 mi_X10_look ml_X10_look (na := 0) ⟨md_X10.1, md_X10.2, by decide +kernel⟩ rfl ⟨by decide, by decide⟩ (Nat.le_of_ble_eq_true rfl) dX10_when_1 (fun s1 hq => ?_)
  obtain ⟨hF, hS2, hI⟩ := hq
  replace E := zLet_s hF E
  have hS := hS.tr hS2 rfl rfl
  refine zg_aload_n X 0 rfl dX10_when_4 ?_
  refine fg_X10_34 X hI ha0 dX10_when_5 (fun v2 ev2 hv2 => ?_)
  replace E := zLet_s (zgr ev2) E
  refine zg_iload_n X 1 rfl dX10_when_8 ?_
  refine zg_cVi (As := [.int p1]) (st := []) X hv2 rfl (by decide) rfl (t_X6_isSource l d L kd κ 1 _ hI v2 hv2 p1 ) mk_X10_146 mc_X6_isSource mz_X6 mi_X6_isSource ml_X6_isSource (na := 1) ⟨md_X6.1, md_X6.2, by decide +kernel⟩ rfl ⟨by decide, by decide⟩ (Nat.le_of_ble_eq_true rfl) dX10_when_9 (fun v3 s4 hq => ?_)
  obtain ⟨hF, hS2, hI⟩ := hq
  replace E := zLet2_s hF E
  have hS := hS.tr hS2 rfl rfl
  obtain ⟨hv3, hI⟩ := hI
  refine zg_if_ne X 17 dX10_when_12 (by decide) (fun c5 => ?_) (fun c5 => ?_)
  · skip
    replace E := zIf_f c5 E
    refine zg_aload_n X 0 rfl dX10_when_17 ?_
    refine zg_cVv (As := []) (st := []) X ha0 rfl (by decide) rfl (t_X10_tryFromNow l d L kd κ 1 _ hI a0 ha0 ) mk_X10_296 mc_X10_tryFromNow mz_X10 mi_X10_tryFromNow ml_X10_tryFromNow (na := 0) ⟨md_X10.1, md_X10.2, by decide +kernel⟩ rfl ⟨by decide, by decide⟩ (Nat.le_of_ble_eq_true rfl) dX10_when_18 (fun s6 hq => ?_)
    obtain ⟨hF, hS2, hI⟩ := hq
    replace E := zLet_s hF E
    have hS := hS.tr hS2 rfl rfl
    refine zg_iconst X 1 dX10_when_21 (by decide) (fun v7 _ hv7 => ?_)
    replace E := zLet_s (zcst hv7 (by decide)) E
    refine zg_istore_n X [(2, .int v7), (0, .ref a0), (1, .int p1)] dX10_when_22 (by decide) rfl ?_
    have Lp9 : ∀ (nLp9 : Nat) (τ9 : zS) (x8 : Int32), zI κ 1 L kd τ9 → zSm [1, 6, 20, 21, 22, 23, 24, 30, 31, 32, 33, 34, 35, 36, 38] [5] L kd σ τ9 → R = F_X10_when_23 a0 p1  nLp9 x8 τ9 → 1 ≤ x8.toInt ∧ x8.toInt ≤ 61 → (61) - x8.toInt + 1 < (nLp9 : Int) → zG d L kd A 3 p l e (k2_rm 7 (100 * 7)) s m args below meth c Q τ9 23 [(2, .int x8), (0, .ref a0), (1, .int p1)] [] := by
      intro nLp9
      induction nLp9 with
      | zero => intro τ9 x8 hI hS E  hxLp9 hm ; exact absurd hm (by omega)
      | succ nLp9 ihLp9 =>
        intro τ9 x8 hI hS E  hxLp9 hmLp9 
        rw [F_X10_when_23] at E
        refine zg_iload_n X 0 rfl dX10_when_23 ?_
        refine zg_bipush X 60 dX10_when_24 (by decide) (fun v10 _ hv10 => ?_)
        replace E := zLet_s (zcst hv10 (by decide)) E
        refine zg_icmp_gt X 65 dX10_when_26 (by decide) (fun c11 => ?_) (fun c11 => ?_)
        · skip
          replace E := zIf_t c11 E
          refine zg_bipush X (-2) dX10_when_65 (by decide) (fun v12 _ hv12 => ?_)
          replace E := zLet_s (zcst hv12 (by decide)) E
          exact ret _ _ _ _ dX10_when_67 rfl ⟨E.symm.trans hR, hS, (zi_weak hI)⟩
        · skip
          replace E := zIf_f (Int.not_lt.mpr c11) E
          refine zg_aload_n X 1 rfl dX10_when_29 ?_
          refine fg_X10_26 X hI ha0 dX10_when_30 (fun v13 ev13 hv13 => ?_)
          replace E := zLet_s (zgr ev13) E
          refine zg_cVv (As := []) (st := []) X hv13 rfl (by decide) rfl (t_X5_goOn l d L kd κ _ hI v13 hv13 ) mk_X10_299 mc_X5_goOn mz_X5 mi_X5_goOn ml_X5_goOn (na := 0) ⟨md_X5.1, md_X5.2, by decide +kernel⟩ rfl ⟨by decide, by decide⟩ (Nat.le_of_ble_eq_true rfl) dX10_when_33 (fun s14 hq => ?_)
          obtain ⟨hF, hS2, hI⟩ := hq
          replace E := zLet_s hF E
          have hS := hS.tr hS2 rfl rfl
          refine zg_aload_n X 1 rfl dX10_when_36 ?_
          refine fg_X10_56 X hI ha0 dX10_when_37 (fun v15 ev15 hv15 => ?_)
          replace E := zLet_s (zgr ev15) E
          refine fg_X10_149 X hI hv15 dX10_when_40 (fun v16 ev16 hv16 => ?_)
          replace E := zLet_s (zgr ev16) E
          refine zg_iload_n X 2 rfl dX10_when_43 ?_
          refine ag_23 X hI hv16 (by omega) (by omega) dX10_when_44 (fun v17 ev17 _ => ?_)
          replace E := zLet_s ev17 E
          refine zg_aload_n X 1 rfl dX10_when_45 ?_
          refine fg_X10_52 X hI ha0 dX10_when_46 (fun v18 ev18 hv18 => ?_)
          replace E := zLet_s (zgr ev18) E
          refine fg_X10_149 X hI hv18 dX10_when_49 (fun v19 ev19 hv19 => ?_)
          replace E := zLet_s (zgr ev19) E
          refine zg_iload_n X 2 rfl dX10_when_52 ?_
          refine ag_23 X hI hv19 (by omega) (by omega) dX10_when_53 (fun v20 ev20 _ => ?_)
          replace E := zLet_s ev20 E
          have zv17_z21 := zb_rng v17
          have zv20_z22 := zb_rng v20
          refine zg_icmp_le X 59 dX10_when_54 (by decide) (fun c23 => ?_) (fun c23 => ?_)
          · skip
            replace E := zIf_f (Int.not_lt.mpr c23) E
            refine zg_iinc X 1 (fun v24 => [(2, .int v24), (0, .ref a0), (1, .int p1)]) 0 dX10_when_59 rfl (by decide) (by decide) (by omega) (by omega) (fun _ => rfl) (fun v24 ev24 hv24 => ?_)
            replace E := zLet_s (zinc ev24 (by decide)) E
            refine zg_goto X 23 dX10_when_62 (by decide) ?_
            refine zg_sub [0, 1, 2] rfl ?_
            exact ihLp9 _ v24 hI hS E  (by omega) (by omega) 
          · skip
            replace E := zIf_t c23 E
            refine zg_iload_n X 0 rfl dX10_when_57 ?_
            exact ret _ _ _ _ dX10_when_58 rfl ⟨E.symm.trans hR, hS, (zi_weak hI)⟩
    refine zg_sub [0, 1, 2] rfl ?_
    exact Lp9 10000 _ v7 hI hS E  (by omega) (by omega) 
  · skip
    replace E := zIf_t c5 E
    refine zg_iconst X (-1) dX10_when_15 (by decide) (fun v25 _ hv25 => ?_)
    replace E := zLet_s (zcst hv25 (by decide)) E
    exact ret _ _ _ _ dX10_when_16 rfl ⟨E.symm.trans hR, hS, (zi_weak hI)⟩
set_option maxHeartbeats 4000000 in
set_option maxRecDepth 100000 in
theorem t_X10_then (l : Launch) (d : zD2) (L : List Nat) (kd : Nat → Nat) (κ : Int) (σ : zS) (hI : zI κ 0 L kd σ) (a0 : Nat) (ha0 : zT L kd a0 10) (p1 : Int32) (p2 : Int32) (p3 : Int32) : zMi l yX10_then (Cond.code yX10_then cX10_then 4 (some .int) :: zWL) 7 [.ref a0, .int p1, .int p2, .int p3] d L kd σ (fun v σ2 => (v, σ2) = F_X10_then a0 p1 p2 p3 σ ∧ zSm [1, 6, 20, 21, 22, 23, 24, 30, 31, 32, 33, 34, 35, 36, 38] [5] L kd σ σ2 ∧ (zI κ 0 L kd σ2)) := by
  refine zMi.of (own := RX10) (by decide +kernel) rfl rfl (Nat.le_of_ble_eq_true rfl) ?_
  intro p e s m args below meth c A Q X ret
  refine zg_lv (lv2 := [(0, .ref a0), (1, .int p1), (2, .int p2), (3, .int p3)]) rfl ?_
  obtain ⟨R, hR⟩ : ∃ R, R = F_X10_then a0 p1 p2 p3 σ := ⟨_, rfl⟩
  have E := hR
  unfold F_X10_then at E
  have hS : zSm [1, 6, 20, 21, 22, 23, 24, 30, 31, 32, 33, 34, 35, 36, 38] [5] L kd σ σ := zSm.rf
  refine zg_aload_n X 0 rfl dX10_then_0 ?_
  refine zg_cVv (As := []) (st := []) X ha0 rfl (by decide) rfl (t_X10_look l d L kd κ 0 _ hI a0 ha0 ) mk_X10_113 mc_X10_look mz_X10 mi_X10_look ml_X10_look (na := 0) ⟨md_X10.1, md_X10.2, by decide +kernel⟩ rfl ⟨by decide, by decide⟩ (Nat.le_of_ble_eq_true rfl) dX10_then_1 (fun s1 hq => ?_)
  obtain ⟨hF, hS2, hI⟩ := hq
  replace E := zLet_s hF E
  have hS := hS.tr hS2 rfl rfl
  refine zg_aload_n X 0 rfl dX10_then_4 ?_
  refine fg_X10_34 X hI ha0 dX10_then_5 (fun v2 ev2 hv2 => ?_)
  replace E := zLet_s (zgr ev2) E
  refine zg_iload_n X 1 rfl dX10_then_8 ?_
  refine zg_cVi (As := [.int p1]) (st := []) X hv2 rfl (by decide) rfl (t_X6_isSource l d L kd κ 1 _ hI v2 hv2 p1 ) mk_X10_146 mc_X6_isSource mz_X6 mi_X6_isSource ml_X6_isSource (na := 1) ⟨md_X6.1, md_X6.2, by decide +kernel⟩ rfl ⟨by decide, by decide⟩ (Nat.le_of_ble_eq_true rfl) dX10_then_9 (fun v3 s4 hq => ?_)
  obtain ⟨hF, hS2, hI⟩ := hq
  replace E := zLet2_s hF E
  have hS := hS.tr hS2 rfl rfl
  obtain ⟨hv3, hI⟩ := hI
  refine zg_if_eq X 34 dX10_then_12 (by decide) (fun c5 => ?_) (fun c5 => ?_)
  · skip
    replace E := zIf_t c5 E
    refine zg_iconst X (-1) dX10_then_34 (by decide) (fun v6 _ hv6 => ?_)
    replace E := zLet_s (zcst hv6 (by decide)) E
    exact ret _ _ _ _ dX10_then_35 rfl ⟨E.symm.trans hR, hS, (zi_weak hI)⟩
  · skip
    replace E := zIf_f c5 E
    refine zg_iload_n X 2 rfl dX10_then_15 ?_
    refine zg_iconst X 0 dX10_then_16 (by decide) (fun v7 _ hv7 => ?_)
    replace E := zLet_s (zcst hv7 (by decide)) E
    refine zg_bipush X 60 dX10_then_17 (by decide) (fun v8 _ hv8 => ?_)
    replace E := zLet_s (zcst hv8 (by decide)) E
    refine zg_cSi (As := [.int p2, .int v7, .int v8]) (st := []) X (t_X10_isWithin l d L kd _ p2 v7 v8 ) mk_X10_229 mc_X10_isWithin mz_X10 ms_X10_isWithin (na := 3) ⟨md_X10.1, md_X10.2, by decide +kernel⟩ rfl ⟨by decide, by decide⟩ (Nat.le_of_ble_eq_true rfl) dX10_then_19 (fun v9 σ2 hq => ?_)
    obtain ⟨⟨hF, hv9⟩, rfl⟩ := hq
    replace E := zLet_s hF E
    refine zg_if_eq X 34 dX10_then_22 (by decide) (fun c10 => ?_) (fun c10 => ?_)
    · skip
      replace E := zIf_t c10 E
      refine zg_iconst X (-1) dX10_then_34 (by decide) (fun v11 _ hv11 => ?_)
      replace E := zLet_s (zcst hv11 (by decide)) E
      exact ret _ _ _ _ dX10_then_35 rfl ⟨E.symm.trans hR, hS, (zi_weak hI)⟩
    · skip
      replace E := zIf_f c10 E
      refine zg_iload_n X 3 rfl dX10_then_25 ?_
      refine zg_iconst X 0 dX10_then_26 (by decide) (fun v12 _ hv12 => ?_)
      replace E := zLet_s (zcst hv12 (by decide)) E
      refine zg_iconst X 1 dX10_then_27 (by decide) (fun v13 _ hv13 => ?_)
      replace E := zLet_s (zcst hv13 (by decide)) E
      refine zg_cSi (As := [.int p3, .int v12, .int v13]) (st := []) X (t_X10_isWithin l d L kd _ p3 v12 v13 ) mk_X10_229 mc_X10_isWithin mz_X10 ms_X10_isWithin (na := 3) ⟨md_X10.1, md_X10.2, by decide +kernel⟩ rfl ⟨by decide, by decide⟩ (Nat.le_of_ble_eq_true rfl) dX10_then_28 (fun v14 σ2 hq => ?_)
      obtain ⟨⟨hF, hv14⟩, rfl⟩ := hq
      replace E := zLet_s hF E
      refine zg_if_ne X 36 dX10_then_31 (by decide) (fun c15 => ?_) (fun c15 => ?_)
      · skip
        replace E := zIf_f c15 E
        refine zg_aload_n X 0 rfl dX10_then_36 ?_
        refine fg_X10_56 X hI ha0 dX10_then_37 (fun v16 ev16 hv16 => ?_)
        replace E := zLet_s (zgr ev16) E
        refine zg_aload_n X 0 rfl dX10_then_40 ?_
        refine fg_X10_52 X hI ha0 dX10_then_41 (fun v17 ev17 hv17 => ?_)
        replace E := zLet_s (zgr ev17) E
        refine zg_cVv (As := [.ref v17]) (st := []) X hv16 rfl (by decide) rfl (t_X1_copy l d L kd κ 1 _ hI v16 hv16 v17 hv17 ) mk_X10_241 mc_X1_copy mz_X1 mi_X1_copy ml_X1_copy (na := 1) ⟨md_X1.1, md_X1.2, by decide +kernel⟩ rfl ⟨by decide, by decide⟩ (Nat.le_of_ble_eq_true rfl) dX10_then_44 (fun s18 hq => ?_)
        obtain ⟨hF, hS2, hI⟩ := hq
        replace E := zLet_s hF E
        have hS := hS.tr hS2 rfl rfl
        refine zg_aload_n X 0 rfl dX10_then_47 ?_
        refine fg_X10_26 X hI ha0 dX10_then_48 (fun v19 ev19 hv19 => ?_)
        replace E := zLet_s (zgr ev19) E
        refine zg_aload_n X 0 rfl dX10_then_51 ?_
        refine fg_X10_70 X hI ha0 dX10_then_52 (fun v20 ev20 hv20 => ?_)
        replace E := zLet_s (zgr ev20) E
        refine zg_aload_n X 0 rfl dX10_then_55 ?_
        refine fg_X10_56 X hI ha0 dX10_then_56 (fun v21 ev21 hv21 => ?_)
        replace E := zLet_s (zgr ev21) E
        refine zg_iload_n X 2 rfl dX10_then_59 ?_
        refine zg_aload_n X 0 rfl dX10_then_60 ?_
        refine fg_X10_70 X hI ha0 dX10_then_61 (fun v22 ev22 hv22 => ?_)
        replace E := zLet_s (zgr ev22) E
        refine fg_X10_203 X hI hv22 dX10_then_64 (fun v23 ev23 _ => ?_)
        replace E := zLet_s ev23 E
        refine zg_cVv (As := [.ref v20, .ref v21, .int p2, .int v23]) (st := []) X hv19 rfl (by decide) rfl (t_X5_goThrough l d L kd κ 1 _ hI v19 hv19 v20 hv20 v21 hv21 p2 v23 (by omega)) mk_X10_233 mc_X5_goThrough mz_X5 mi_X5_goThrough ml_X5_goThrough (na := 4) ⟨md_X5.1, md_X5.2, by decide +kernel⟩ rfl ⟨by decide, by decide⟩ (Nat.le_of_ble_eq_true rfl) dX10_then_67 (fun s24 hq => ?_)
        obtain ⟨hF, hS2, hI⟩ := hq
        replace E := zLet_s hF E
        have hS := hS.tr hS2 rfl rfl
        refine zg_iload_n X 3 rfl dX10_then_70 ?_
        refine zg_if_ne X 86 dX10_then_71 (by decide) (fun c25 => ?_) (fun c25 => ?_)
        · skip
          replace E := zIf_f c25 E
          refine zg_aload_n X 0 rfl dX10_then_86 ?_
          refine fg_X10_56 X hI ha0 dX10_then_87 (fun v26 ev26 hv26 => ?_)
          replace E := zLet_s (zgr ev26) E
          refine fg_X10_152 X hI hv26 dX10_then_90 (fun v27 ev27 hv27 => ?_)
          replace E := zLet_s (zgr ev27) E
          refine zg_iload_n X 1 rfl dX10_then_93 ?_
          refine ag_24 X hI hv27 (by omega) (by omega) dX10_then_94 (fun v28 ev28 _ => ?_)
          replace E := zLet_s ev28 E
          exact ret _ _ _ _ dX10_then_95 rfl ⟨E.symm.trans hR, hS, (zi_weak hI)⟩
        · skip
          replace E := zIf_t c25 E
          refine zg_aload_n X 0 rfl dX10_then_74 ?_
          refine fg_X10_56 X hI ha0 dX10_then_75 (fun v29 ev29 hv29 => ?_)
          replace E := zLet_s (zgr ev29) E
          refine fg_X10_149 X hI hv29 dX10_then_78 (fun v30 ev30 hv30 => ?_)
          replace E := zLet_s (zgr ev30) E
          refine zg_iload_n X 1 rfl dX10_then_81 ?_
          refine ag_23 X hI hv30 (by omega) (by omega) dX10_then_82 (fun v31 ev31 _ => ?_)
          replace E := zLet_s ev31 E
          refine zg_goto X 95 dX10_then_83 (by decide) ?_
          exact ret _ _ _ _ dX10_then_95 rfl ⟨E.symm.trans hR, hS, (zi_weak hI)⟩
      · skip
        replace E := zIf_t c15 E
        refine zg_iconst X (-1) dX10_then_34 (by decide) (fun v32 _ hv32 => ?_)
        replace E := zLet_s (zcst hv32 (by decide)) E
        exact ret _ _ _ _ dX10_then_35 rfl ⟨E.symm.trans hR, hS, (zi_weak hI)⟩
set_option maxHeartbeats 4000000 in
set_option maxRecDepth 100000 in
theorem t_X10_flowIn (l : Launch) (d : zD2) (L : List Nat) (kd : Nat → Nat) (κ : Int) (σ : zS) (hI : zI κ 0 L kd σ) (a0 : Nat) (ha0 : zT L kd a0 10) (p1 : Int32) : zMi l yX10_flowIn (Cond.code yX10_flowIn cX10_flowIn 2 (some .int) :: zWL) 7 [.ref a0, .int p1] d L kd σ (fun v σ2 => (v, σ2) = F_X10_flowIn a0 p1 σ ∧ zSm [1, 6, 20, 21, 22, 23, 24, 30, 31, 32, 33, 34, 35, 36, 38] [5] L kd σ σ2 ∧ (zI κ 0 L kd σ2)) := by
  refine zMi.of (own := RX10) (by decide +kernel) rfl rfl (Nat.le_of_ble_eq_true rfl) ?_
  intro p e s m args below meth c A Q X ret
  refine zg_lv (lv2 := [(0, .ref a0), (1, .int p1)]) rfl ?_
  obtain ⟨R, hR⟩ : ∃ R, R = F_X10_flowIn a0 p1 σ := ⟨_, rfl⟩
  have E := hR
  unfold F_X10_flowIn at E
  have hS : zSm [1, 6, 20, 21, 22, 23, 24, 30, 31, 32, 33, 34, 35, 36, 38] [5] L kd σ σ := zSm.rf
  refine zg_aload_n X 0 rfl dX10_flowIn_0 ?_
  refine zg_cVi (As := []) (st := []) X ha0 rfl (by decide) rfl (t_X10_hasMouth l d L kd κ 0 _ hI a0 ha0 ) mk_X10_277 mc_X10_hasMouth mz_X10 mi_X10_hasMouth ml_X10_hasMouth (na := 0) ⟨md_X10.1, md_X10.2, by decide +kernel⟩ rfl ⟨by decide, by decide⟩ (Nat.le_of_ble_eq_true rfl) dX10_flowIn_1 (fun v1 s2 hq => ?_)
  obtain ⟨hF, hS2, hI⟩ := hq
  replace E := zLet2_s hF E
  have hS := hS.tr hS2 rfl rfl
  obtain ⟨hv1, hI⟩ := hI
  refine zg_if_eq X 17 dX10_flowIn_4 (by decide) (fun c3 => ?_) (fun c3 => ?_)
  · skip
    replace E := zIf_t c3 E
    refine zg_iconst X (-1) dX10_flowIn_17 (by decide) (fun v4 _ hv4 => ?_)
    replace E := zLet_s (zcst hv4 (by decide)) E
    exact ret _ _ _ _ dX10_flowIn_18 rfl ⟨E.symm.trans hR, hS, hI⟩
  · skip
    replace E := zIf_f c3 E
    refine zg_iload_n X 1 rfl dX10_flowIn_7 ?_
    refine zg_iconst X 0 dX10_flowIn_8 (by decide) (fun v5 _ hv5 => ?_)
    replace E := zLet_s (zcst hv5 (by decide)) E
    refine zg_bipush X 60 dX10_flowIn_9 (by decide) (fun v6 _ hv6 => ?_)
    replace E := zLet_s (zcst hv6 (by decide)) E
    refine zg_cSi (As := [.int p1, .int v5, .int v6]) (st := []) X (t_X10_isWithin l d L kd _ p1 v5 v6 ) mk_X10_229 mc_X10_isWithin mz_X10 ms_X10_isWithin (na := 3) ⟨md_X10.1, md_X10.2, by decide +kernel⟩ rfl ⟨by decide, by decide⟩ (Nat.le_of_ble_eq_true rfl) dX10_flowIn_11 (fun v7 σ2 hq => ?_)
    obtain ⟨⟨hF, hv7⟩, rfl⟩ := hq
    replace E := zLet_s hF E
    refine zg_if_ne X 19 dX10_flowIn_14 (by decide) (fun c8 => ?_) (fun c8 => ?_)
    · skip
      replace E := zIf_f c8 E
      refine zg_aload_n X 0 rfl dX10_flowIn_19 ?_
      refine fg_X10_56 X hI ha0 dX10_flowIn_20 (fun v9 ev9 hv9 => ?_)
      replace E := zLet_s (zgr ev9) E
      refine zg_aload_n X 0 rfl dX10_flowIn_23 ?_
      refine fg_X10_52 X hI ha0 dX10_flowIn_24 (fun v10 ev10 hv10 => ?_)
      replace E := zLet_s (zgr ev10) E
      refine zg_cVv (As := [.ref v10]) (st := []) X hv9 rfl (by decide) rfl (t_X1_copy l d L kd κ 0 _ hI v9 hv9 v10 hv10 ) mk_X10_241 mc_X1_copy mz_X1 mi_X1_copy ml_X1_copy (na := 1) ⟨md_X1.1, md_X1.2, by decide +kernel⟩ rfl ⟨by decide, by decide⟩ (Nat.le_of_ble_eq_true rfl) dX10_flowIn_27 (fun s11 hq => ?_)
      obtain ⟨hF, hS2, hI⟩ := hq
      replace E := zLet_s hF E
      have hS := hS.tr hS2 rfl rfl
      refine zg_aload_n X 0 rfl dX10_flowIn_30 ?_
      refine fg_X10_26 X hI ha0 dX10_flowIn_31 (fun v12 ev12 hv12 => ?_)
      replace E := zLet_s (zgr ev12) E
      refine zg_aload_n X 0 rfl dX10_flowIn_34 ?_
      refine fg_X10_70 X hI ha0 dX10_flowIn_35 (fun v13 ev13 hv13 => ?_)
      replace E := zLet_s (zgr ev13) E
      refine zg_aload_n X 0 rfl dX10_flowIn_38 ?_
      refine fg_X10_56 X hI ha0 dX10_flowIn_39 (fun v14 ev14 hv14 => ?_)
      replace E := zLet_s (zgr ev14) E
      refine zg_iload_n X 1 rfl dX10_flowIn_42 ?_
      refine zg_aload_n X 0 rfl dX10_flowIn_43 ?_
      refine fg_X10_70 X hI ha0 dX10_flowIn_44 (fun v15 ev15 hv15 => ?_)
      replace E := zLet_s (zgr ev15) E
      refine fg_X10_203 X hI hv15 dX10_flowIn_47 (fun v16 ev16 _ => ?_)
      replace E := zLet_s ev16 E
      refine zg_cVv (As := [.ref v13, .ref v14, .int p1, .int v16]) (st := []) X hv12 rfl (by decide) rfl (t_X5_goThrough l d L kd κ 0 _ hI v12 hv12 v13 hv13 v14 hv14 p1 v16 (by omega)) mk_X10_233 mc_X5_goThrough mz_X5 mi_X5_goThrough ml_X5_goThrough (na := 4) ⟨md_X5.1, md_X5.2, by decide +kernel⟩ rfl ⟨by decide, by decide⟩ (Nat.le_of_ble_eq_true rfl) dX10_flowIn_50 (fun s17 hq => ?_)
      obtain ⟨hF, hS2, hI⟩ := hq
      replace E := zLet_s hF E
      have hS := hS.tr hS2 rfl rfl
      refine zg_aload_n X 0 rfl dX10_flowIn_53 ?_
      refine fg_X10_26 X hI ha0 dX10_flowIn_54 (fun v18 ev18 hv18 => ?_)
      replace E := zLet_s (zgr ev18) E
      refine zg_aload_n X 0 rfl dX10_flowIn_57 ?_
      refine fg_X10_70 X hI ha0 dX10_flowIn_58 (fun v19 ev19 hv19 => ?_)
      replace E := zLet_s (zgr ev19) E
      refine zg_aload_n X 0 rfl dX10_flowIn_61 ?_
      refine fg_X10_56 X hI ha0 dX10_flowIn_62 (fun v20 ev20 hv20 => ?_)
      replace E := zLet_s (zgr ev20) E
      refine zg_cVv (As := [.ref v19, .ref v20]) (st := []) X hv18 rfl (by decide) rfl (t_X5_look l d L kd κ 1 _ hI v18 hv18 v19 hv19 v20 hv20 ) mk_X10_271 mc_X5_look mz_X5 mi_X5_look ml_X5_look (na := 2) ⟨md_X5.1, md_X5.2, by decide +kernel⟩ rfl ⟨by decide, by decide⟩ (Nat.le_of_ble_eq_true rfl) dX10_flowIn_65 (fun s21 hq => ?_)
      obtain ⟨hF, hS2, hI⟩ := hq
      replace E := zLet_s hF E
      have hS := hS.tr hS2 rfl rfl
      refine zg_aload_n X 0 rfl dX10_flowIn_68 ?_
      refine zg_cVi (As := []) (st := []) X ha0 rfl (by decide) rfl (t_X10_mouthFlow l d L kd κ 1 _ hI a0 ha0 ) mk_X10_191 mc_X10_mouthFlow mz_X10 mi_X10_mouthFlow ml_X10_mouthFlow (na := 0) ⟨md_X10.1, md_X10.2, by decide +kernel⟩ rfl ⟨by decide, by decide⟩ (Nat.le_of_ble_eq_true rfl) dX10_flowIn_69 (fun v22 s23 hq => ?_)
      obtain ⟨hF, hS2, hI⟩ := hq
      replace E := zLet2_s hF E
      have hS := hS.tr hS2 rfl rfl
      exact ret _ _ _ _ dX10_flowIn_72 rfl ⟨E.symm.trans hR, hS, (zi_weak hI)⟩
    · skip
      replace E := zIf_t c8 E
      refine zg_iconst X (-1) dX10_flowIn_17 (by decide) (fun v24 _ hv24 => ?_)
      replace E := zLet_s (zcst hv24 (by decide)) E
      exact ret _ _ _ _ dX10_flowIn_18 rfl ⟨E.symm.trans hR, hS, hI⟩
set_option maxHeartbeats 4000000 in
set_option maxRecDepth 100000 in
theorem t_X10_year (l : Launch) (d : zD2) (L : List Nat) (kd : Nat → Nat) (κ : Int) (σ : zS) (hI : zI κ 0 L kd σ) (a0 : Nat) (ha0 : zT L kd a0 10) (p1 : Int32) (p2 : Int32) (p3 : Int32) : zMi l yX10_year (Cond.code yX10_year cX10_year 6 (some .int) :: zWL) 7 [.ref a0, .int p1, .int p2, .int p3] d L kd σ (fun v σ2 => (v, σ2) = F_X10_year a0 p1 p2 p3 σ ∧ zSm [1, 6, 20, 21, 22, 23, 24, 30, 31, 32, 33, 34, 35, 36, 38] [5] L kd σ σ2 ∧ (zI κ 0 L kd σ2)) := by
  refine zMi.of (own := RX10) (by decide +kernel) rfl rfl (Nat.le_of_ble_eq_true rfl) ?_
  intro p e s m args below meth c A Q X ret
  refine zg_lv (lv2 := [(0, .ref a0), (1, .int p1), (2, .int p2), (3, .int p3)]) rfl ?_
  obtain ⟨R, hR⟩ : ∃ R, R = F_X10_year a0 p1 p2 p3 σ := ⟨_, rfl⟩
  have E := hR
  unfold F_X10_year at E
  have hS : zSm [1, 6, 20, 21, 22, 23, 24, 30, 31, 32, 33, 34, 35, 36, 38] [5] L kd σ σ := zSm.rf
  refine zg_aload_n X 0 rfl dX10_year_0 ?_
  refine zg_cVv (As := []) (st := []) X ha0 rfl (by decide) rfl (t_X10_look l d L kd κ 0 _ hI a0 ha0 ) mk_X10_113 mc_X10_look mz_X10 mi_X10_look ml_X10_look (na := 0) ⟨md_X10.1, md_X10.2, by decide +kernel⟩ rfl ⟨by decide, by decide⟩ (Nat.le_of_ble_eq_true rfl) dX10_year_1 (fun s1 hq => ?_)
  obtain ⟨hF, hS2, hI⟩ := hq
  replace E := zLet_s hF E
  have hS := hS.tr hS2 rfl rfl
  refine zg_aload_n X 0 rfl dX10_year_4 ?_
  refine fg_X10_34 X hI ha0 dX10_year_5 (fun v2 ev2 hv2 => ?_)
  replace E := zLet_s (zgr ev2) E
  refine zg_iload_n X 1 rfl dX10_year_8 ?_
  refine zg_cVi (As := [.int p1]) (st := []) X hv2 rfl (by decide) rfl (t_X6_isSource l d L kd κ 1 _ hI v2 hv2 p1 ) mk_X10_146 mc_X6_isSource mz_X6 mi_X6_isSource ml_X6_isSource (na := 1) ⟨md_X6.1, md_X6.2, by decide +kernel⟩ rfl ⟨by decide, by decide⟩ (Nat.le_of_ble_eq_true rfl) dX10_year_9 (fun v3 s4 hq => ?_)
  obtain ⟨hF, hS2, hI⟩ := hq
  replace E := zLet2_s hF E
  have hS := hS.tr hS2 rfl rfl
  obtain ⟨hv3, hI⟩ := hI
  refine zg_if_eq X 35 dX10_year_12 (by decide) (fun c5 => ?_) (fun c5 => ?_)
  · skip
    replace E := zIf_t c5 E
    refine zg_iconst X (-1) dX10_year_35 (by decide) (fun v6 _ hv6 => ?_)
    replace E := zLet_s (zcst hv6 (by decide)) E
    exact ret _ _ _ _ dX10_year_36 rfl ⟨E.symm.trans hR, hS, (zi_weak hI)⟩
  · skip
    replace E := zIf_f c5 E
    refine zg_iload_n X 2 rfl dX10_year_15 ?_
    refine zg_iconst X 0 dX10_year_16 (by decide) (fun v7 _ hv7 => ?_)
    replace E := zLet_s (zcst hv7 (by decide)) E
    refine zg_bipush X 60 dX10_year_17 (by decide) (fun v8 _ hv8 => ?_)
    replace E := zLet_s (zcst hv8 (by decide)) E
    refine zg_cSi (As := [.int p2, .int v7, .int v8]) (st := []) X (t_X10_isWithin l d L kd _ p2 v7 v8 ) mk_X10_229 mc_X10_isWithin mz_X10 ms_X10_isWithin (na := 3) ⟨md_X10.1, md_X10.2, by decide +kernel⟩ rfl ⟨by decide, by decide⟩ (Nat.le_of_ble_eq_true rfl) dX10_year_19 (fun v9 σ2 hq => ?_)
    obtain ⟨⟨hF, hv9⟩, rfl⟩ := hq
    replace E := zLet_s hF E
    refine zg_if_eq X 35 dX10_year_22 (by decide) (fun c10 => ?_) (fun c10 => ?_)
    · skip
      replace E := zIf_t c10 E
      refine zg_iconst X (-1) dX10_year_35 (by decide) (fun v11 _ hv11 => ?_)
      replace E := zLet_s (zcst hv11 (by decide)) E
      exact ret _ _ _ _ dX10_year_36 rfl ⟨E.symm.trans hR, hS, (zi_weak hI)⟩
    · skip
      replace E := zIf_f c10 E
      refine zg_iload_n X 3 rfl dX10_year_25 ?_
      refine zg_iconst X 1 dX10_year_26 (by decide) (fun v12 _ hv12 => ?_)
      replace E := zLet_s (zcst hv12 (by decide)) E
      refine zg_bipush X 20 dX10_year_27 (by decide) (fun v13 _ hv13 => ?_)
      replace E := zLet_s (zcst hv13 (by decide)) E
      refine zg_cSi (As := [.int p3, .int v12, .int v13]) (st := []) X (t_X10_isWithin l d L kd _ p3 v12 v13 ) mk_X10_229 mc_X10_isWithin mz_X10 ms_X10_isWithin (na := 3) ⟨md_X10.1, md_X10.2, by decide +kernel⟩ rfl ⟨by decide, by decide⟩ (Nat.le_of_ble_eq_true rfl) dX10_year_29 (fun v14 σ2 hq => ?_)
      obtain ⟨⟨hF, hv14⟩, rfl⟩ := hq
      replace E := zLet_s hF E
      refine zg_if_ne X 37 dX10_year_32 (by decide) (fun c15 => ?_) (fun c15 => ?_)
      · skip
        replace E := zIf_f c15 E
        refine zg_iconst X 0 dX10_year_37 (by decide) (fun v16 _ hv16 => ?_)
        replace E := zLet_s (zcst hv16 (by decide)) E
        refine zg_istore X [(4, .int v16), (0, .ref a0), (1, .int p1), (2, .int p2), (3, .int p3)] dX10_year_38 (by decide) rfl ?_
        refine zg_iconst X 0 dX10_year_40 (by decide) (fun v17 _ hv17 => ?_)
        replace E := zLet_s (zcst hv17 (by decide)) E
        refine zg_istore X [(5, .int v17), (4, .int v16), (0, .ref a0), (1, .int p1), (2, .int p2), (3, .int p3)] dX10_year_41 (by decide) rfl ?_
        have Lp20 : ∀ (nLp20 : Nat) (τ20 : zS) (x18 : Int32) (x19 : Int32), zI κ 1 L kd τ20 → zSm [1, 6, 20, 21, 22, 23, 24, 30, 31, 32, 33, 34, 35, 36, 38] [5] L kd σ τ20 → R = F_X10_year_43 a0 p1 p2 p3  nLp20 x18 x19 τ20 → 0 ≤ x18.toInt ∧ x18.toInt ≤ 2147483647 → (2147483647) - x18.toInt + 1 < (nLp20 : Int) → zG d L kd A 6 p l e (k2_rm 7 (100 * 7)) s m args below meth c Q τ20 43 [(5, .int x18), (4, .int x19), (0, .ref a0), (1, .int p1), (2, .int p2), (3, .int p3)] [] := by
          intro nLp20
          induction nLp20 with
          | zero => intro τ20 x18 x19 hI hS E  hxLp20 hm ; exact absurd hm (by omega)
          | succ nLp20 ihLp20 =>
            intro τ20 x18 x19 hI hS E  hxLp20 hmLp20 
            rw [F_X10_year_43] at E
            refine zg_iload X 0 rfl dX10_year_43 ?_
            refine zg_iload_n X 5 rfl dX10_year_45 ?_
            have zx18_z21 := zb_rng x18
            have zp3_z22 := zb_rng p3
            refine zg_icmp_ge X 103 dX10_year_46 (by decide) (fun c23 => ?_) (fun c23 => ?_)
            · skip
              replace E := zIf_f (Int.not_lt.mpr c23) E
              refine zg_iload X 1 rfl dX10_year_103 ?_
              exact ret _ _ _ _ dX10_year_105 rfl ⟨E.symm.trans hR, hS, (zi_weak hI)⟩
            · skip
              replace E := zIf_t c23 E
              refine zg_aload_n X 2 rfl dX10_year_49 ?_
              refine fg_X10_56 X hI ha0 dX10_year_50 (fun v24 ev24 hv24 => ?_)
              replace E := zLet_s (zgr ev24) E
              refine zg_aload_n X 2 rfl dX10_year_53 ?_
              refine fg_X10_52 X hI ha0 dX10_year_54 (fun v25 ev25 hv25 => ?_)
              replace E := zLet_s (zgr ev25) E
              refine zg_cVv (As := [.ref v25]) (st := []) X hv24 rfl (by decide) rfl (t_X1_copy l d L kd κ 1 _ hI v24 hv24 v25 hv25 ) mk_X10_241 mc_X1_copy mz_X1 mi_X1_copy ml_X1_copy (na := 1) ⟨md_X1.1, md_X1.2, by decide +kernel⟩ rfl ⟨by decide, by decide⟩ (Nat.le_of_ble_eq_true rfl) dX10_year_57 (fun s26 hq => ?_)
              obtain ⟨hF, hS2, hI⟩ := hq
              replace E := zLet_s hF E
              have hS := hS.tr hS2 rfl rfl
              refine zg_aload_n X 2 rfl dX10_year_60 ?_
              refine fg_X10_26 X hI ha0 dX10_year_61 (fun v27 ev27 hv27 => ?_)
              replace E := zLet_s (zgr ev27) E
              refine zg_aload_n X 2 rfl dX10_year_64 ?_
              refine fg_X10_70 X hI ha0 dX10_year_65 (fun v28 ev28 hv28 => ?_)
              replace E := zLet_s (zgr ev28) E
              refine zg_aload_n X 2 rfl dX10_year_68 ?_
              refine fg_X10_56 X hI ha0 dX10_year_69 (fun v29 ev29 hv29 => ?_)
              replace E := zLet_s (zgr ev29) E
              refine zg_iload_n X 4 rfl dX10_year_72 ?_
              refine zg_aload_n X 2 rfl dX10_year_73 ?_
              refine fg_X10_70 X hI ha0 dX10_year_74 (fun v30 ev30 hv30 => ?_)
              replace E := zLet_s (zgr ev30) E
              refine fg_X10_203 X hI hv30 dX10_year_77 (fun v31 ev31 _ => ?_)
              replace E := zLet_s ev31 E
              refine zg_iload X 0 rfl dX10_year_80 ?_
              refine zg_iaddW X dX10_year_82 (fun v32 ev32 => ?_)
              replace E := zLet_s ev32 E
              refine zg_cVv (As := [.ref v28, .ref v29, .int p2, .int v32]) (st := []) X hv27 rfl (by decide) rfl (t_X5_goThrough l d L kd κ 1 _ hI v27 hv27 v28 hv28 v29 hv29 p2 v32 (by omega)) mk_X10_233 mc_X5_goThrough mz_X5 mi_X5_goThrough ml_X5_goThrough (na := 4) ⟨md_X5.1, md_X5.2, by decide +kernel⟩ rfl ⟨by decide, by decide⟩ (Nat.le_of_ble_eq_true rfl) dX10_year_83 (fun s33 hq => ?_)
              obtain ⟨hF, hS2, hI⟩ := hq
              replace E := zLet_s hF E
              have hS := hS.tr hS2 rfl rfl
              refine zg_aload_n X 2 rfl dX10_year_86 ?_
              refine zg_iload_n X 3 rfl dX10_year_87 ?_
              refine zg_cVi (As := [.int p1]) (st := []) X ha0 rfl (by decide) rfl (t_X10_hasWonMost l d L kd κ 1 _ hI a0 ha0 p1 (by omega)) mk_X10_314 mc_X10_hasWonMost mz_X10 mi_X10_hasWonMost ml_X10_hasWonMost (na := 1) ⟨md_X10.1, md_X10.2, by decide +kernel⟩ rfl ⟨by decide, by decide⟩ (Nat.le_of_ble_eq_true rfl) dX10_year_88 (fun v34 s35 hq => ?_)
              obtain ⟨hF, hS2, hI⟩ := hq
              replace E := zLet2_s hF E
              have hS := hS.tr hS2 rfl rfl
              obtain ⟨hv34, hI⟩ := hI
              refine zg_if_eq X 97 dX10_year_91 (by decide) (fun c36 => ?_) (fun c36 => ?_)
              · skip
                replace E := zIf_t c36 E
                refine zg_iinc X 1 (fun v37 => [(5, .int v37), (4, .int x19), (0, .ref a0), (1, .int p1), (2, .int p2), (3, .int p3)]) 0 dX10_year_97 rfl (by decide) (by decide) (by omega) (by omega) (fun _ => rfl) (fun v37 ev37 hv37 => ?_)
                replace E := zLet_s (zinc ev37 (by decide)) E
                refine zg_goto X 43 dX10_year_100 (by decide) ?_
                refine zg_sub [0, 1, 2, 3, 4, 5] rfl ?_
                exact ihLp20 _ v37 x19 hI hS E  (by omega) (by omega) 
              · skip
                replace E := zIf_f c36 E
                refine zg_iincW X (fun v38 => [(4, .int v38), (5, .int x18), (0, .ref a0), (1, .int p1), (2, .int p2), (3, .int p3)]) 1 dX10_year_94 rfl (by decide) (fun _ => rfl) (fun v38 ev38 => ?_)
                replace E := zLet_s (zinc ev38 (by decide)) E
                refine zg_iinc X 1 (fun v39 => [(5, .int v39), (4, .int v38), (0, .ref a0), (1, .int p1), (2, .int p2), (3, .int p3)]) 1 dX10_year_97 rfl (by decide) (by decide) (by omega) (by omega) (fun _ => rfl) (fun v39 ev39 hv39 => ?_)
                replace E := zLet_s (zinc ev39 (by decide)) E
                refine zg_goto X 43 dX10_year_100 (by decide) ?_
                refine zg_sub [0, 1, 2, 3, 4, 5] rfl ?_
                exact ihLp20 _ v39 v38 hI hS E  (by omega) (by omega) 
        have zrLp20 := zb_rng v17
        refine zg_sub [0, 1, 2, 3, 4, 5] rfl ?_
        exact Lp20 4294967299 _ v17 v16 hI hS E  (by omega) (by omega) 
      · skip
        replace E := zIf_t c15 E
        refine zg_iconst X (-1) dX10_year_35 (by decide) (fun v40 _ hv40 => ?_)
        replace E := zLet_s (zcst hv40 (by decide)) E
        exact ret _ _ _ _ dX10_year_36 rfl ⟨E.symm.trans hR, hS, (zi_weak hI)⟩
set_option maxHeartbeats 4000000 in
set_option maxRecDepth 100000 in
theorem t_X10_depth (l : Launch) (d : zD2) (L : List Nat) (kd : Nat → Nat) (κ : Int) (σ : zS) (hI : zI κ 0 L kd σ) (a0 : Nat) (ha0 : zT L kd a0 10) : zMi l yX10_depth (Cond.code yX10_depth cX10_depth 1 (some .int) :: zWL) 7 [.ref a0] d L kd σ (fun v σ2 => (v, σ2) = F_X10_depth a0 σ ∧ zSm [6, 20, 21, 30, 31, 33, 34, 35, 36, 38] [5] L kd σ σ2 ∧ (zI κ 0 L kd σ2)) := by
  refine zMi.of (own := RX10) (by decide +kernel) rfl rfl (Nat.le_of_ble_eq_true rfl) ?_
  intro p e s m args below meth c A Q X ret
  refine zg_lv (lv2 := [(0, .ref a0)]) rfl ?_
  obtain ⟨R, hR⟩ : ∃ R, R = F_X10_depth a0 σ := ⟨_, rfl⟩
  have E := hR
  unfold F_X10_depth at E
  have hS : zSm [6, 20, 21, 30, 31, 33, 34, 35, 36, 38] [5] L kd σ σ := zSm.rf
  refine zg_aload_n X 0 rfl dX10_depth_0 ?_
  refine zg_cVv (As := []) (st := []) X ha0 rfl (by decide) rfl (t_X10_look l d L kd κ 0 _ hI a0 ha0 ) mk_X10_113 mc_X10_look mz_X10 mi_X10_look ml_X10_look (na := 0) ⟨md_X10.1, md_X10.2, by decide +kernel⟩ rfl ⟨by decide, by decide⟩ (Nat.le_of_ble_eq_true rfl) dX10_depth_1 (fun s1 hq => ?_)
  obtain ⟨hF, hS2, hI⟩ := hq
  replace E := zLet_s hF E
  have hS := hS.tr hS2 rfl rfl
  refine zg_aload_n X 0 rfl dX10_depth_4 ?_
  refine fg_X10_34 X hI ha0 dX10_depth_5 (fun v2 ev2 hv2 => ?_)
  replace E := zLet_s (zgr ev2) E
  refine zg_cVi (As := []) (st := []) X hv2 rfl (by decide) rfl (t_X6_deepest l d L kd κ 1 _ hI v2 hv2 ) mk_X10_317 mc_X6_deepest mz_X6 mi_X6_deepest ml_X6_deepest (na := 0) ⟨md_X6.1, md_X6.2, by decide +kernel⟩ rfl ⟨by decide, by decide⟩ (Nat.le_of_ble_eq_true rfl) dX10_depth_8 (fun v3 s4 hq => ?_)
  obtain ⟨hF, hS2, hI⟩ := hq
  replace E := zLet2_s hF E
  have hS := hS.tr hS2 rfl rfl
  exact ret _ _ _ _ dX10_depth_11 rfl ⟨E.symm.trans hR, hS, (zi_weak hI)⟩
set_option maxHeartbeats 4000000 in
set_option maxRecDepth 100000 in
theorem t_X10_order (l : Launch) (d : zD2) (L : List Nat) (kd : Nat → Nat) (κ : Int) (σ : zS) (hI : zI κ 0 L kd σ) (a0 : Nat) (ha0 : zT L kd a0 10) (p1 : Int32) : zMi l yX10_order (Cond.code yX10_order cX10_order 2 (some .int) :: zWL) 7 [.ref a0, .int p1] d L kd σ (fun v σ2 => (v, σ2) = F_X10_order a0 p1 σ ∧ zSm [6, 20, 21, 30, 31, 33, 34, 35, 36, 37, 38] [5] L kd σ σ2 ∧ (zI κ 0 L kd σ2)) := by
  refine zMi.of (own := RX10) (by decide +kernel) rfl rfl (Nat.le_of_ble_eq_true rfl) ?_
  intro p e s m args below meth c A Q X ret
  refine zg_lv (lv2 := [(0, .ref a0), (1, .int p1)]) rfl ?_
  obtain ⟨R, hR⟩ : ∃ R, R = F_X10_order a0 p1 σ := ⟨_, rfl⟩
  have E := hR
  unfold F_X10_order at E
  have hS : zSm [6, 20, 21, 30, 31, 33, 34, 35, 36, 37, 38] [5] L kd σ σ := zSm.rf
  refine zg_aload_n X 0 rfl dX10_order_0 ?_
  refine zg_iload_n X 1 rfl dX10_order_1 ?_
  refine zg_cVi (As := [.int p1]) (st := []) X ha0 rfl (by decide) rfl (t_X10_isPlace l d L kd κ 0 _ hI a0 ha0 p1 ) mk_X10_109 mc_X10_isPlace mz_X10 mi_X10_isPlace ml_X10_isPlace (na := 1) ⟨md_X10.1, md_X10.2, by decide +kernel⟩ rfl ⟨by decide, by decide⟩ (Nat.le_of_ble_eq_true rfl) dX10_order_2 (fun v1 s2 hq => ?_)
  obtain ⟨hF, hS2, hI⟩ := hq
  replace E := zLet2_s hF E
  have hS := hS.tr hS2 rfl rfl
  obtain ⟨hv1, hI⟩ := hI
  refine zg_if_ne X 10 dX10_order_5 (by decide) (fun c3 => ?_) (fun c3 => ?_)
  · skip
    replace E := zIf_f c3 E
    refine zg_aload_n X 0 rfl dX10_order_10 ?_
    refine zg_cVv (As := []) (st := []) X ha0 rfl (by decide) rfl (t_X10_look l d L kd κ 0 _ hI a0 ha0 ) mk_X10_113 mc_X10_look mz_X10 mi_X10_look ml_X10_look (na := 0) ⟨md_X10.1, md_X10.2, by decide +kernel⟩ rfl ⟨by decide, by decide⟩ (Nat.le_of_ble_eq_true rfl) dX10_order_11 (fun s4 hq => ?_)
    obtain ⟨hF, hS2, hI⟩ := hq
    replace E := zLet_s hF E
    have hS := hS.tr hS2 rfl rfl
    refine zg_aload_n X 0 rfl dX10_order_14 ?_
    refine fg_X10_34 X hI ha0 dX10_order_15 (fun v5 ev5 hv5 => ?_)
    replace E := zLet_s (zgr ev5) E
    refine zg_aload_n X 0 rfl dX10_order_18 ?_
    refine fg_X10_52 X hI ha0 dX10_order_19 (fun v6 ev6 hv6 => ?_)
    replace E := zLet_s (zgr ev6) E
    refine zg_iload_n X 1 rfl dX10_order_22 ?_
    refine zg_cVi (As := [.ref v6, .int p1]) (st := []) X hv5 rfl (by decide) rfl (t_X6_orderOf l d L kd κ 1 _ hI v5 hv5 v6 hv6 p1 (by omega)) mk_X10_320 mc_X6_orderOf mz_X6 mi_X6_orderOf ml_X6_orderOf (na := 2) ⟨md_X6.1, md_X6.2, by decide +kernel⟩ rfl ⟨by decide, by decide⟩ (Nat.le_of_ble_eq_true rfl) dX10_order_23 (fun v7 s8 hq => ?_)
    obtain ⟨hF, hS2, hI⟩ := hq
    replace E := zLet2_s hF E
    have hS := hS.tr hS2 rfl rfl
    exact ret _ _ _ _ dX10_order_26 rfl ⟨E.symm.trans hR, hS, (zi_weak hI)⟩
  · skip
    replace E := zIf_t c3 E
    refine zg_iconst X (-1) dX10_order_8 (by decide) (fun v9 _ hv9 => ?_)
    replace E := zLet_s (zcst hv9 (by decide)) E
    exact ret _ _ _ _ dX10_order_9 rfl ⟨E.symm.trans hR, hS, hI⟩
set_option maxHeartbeats 4000000 in
set_option maxRecDepth 100000 in
theorem t_X10_basin (l : Launch) (d : zD2) (L : List Nat) (kd : Nat → Nat) (κ : Int) (σ : zS) (hI : zI κ 0 L kd σ) (a0 : Nat) (ha0 : zT L kd a0 10) (p1 : Int32) (p2 : Int32) : zMi l yX10_basin (Cond.code yX10_basin cX10_basin 4 (some .int) :: zWL) 7 [.ref a0, .int p1, .int p2] d L kd σ (fun v σ2 => (v, σ2) = F_X10_basin a0 p1 p2 σ ∧ zSm [6, 20, 21, 30, 31, 33, 34, 35, 36, 38] [5] L kd σ σ2 ∧ (zI κ 0 L kd σ2)) := by
  refine zMi.of (own := RX10) (by decide +kernel) rfl rfl (Nat.le_of_ble_eq_true rfl) ?_
  intro p e s m args below meth c A Q X ret
  refine zg_lv (lv2 := [(0, .ref a0), (1, .int p1), (2, .int p2)]) rfl ?_
  obtain ⟨R, hR⟩ : ∃ R, R = F_X10_basin a0 p1 p2 σ := ⟨_, rfl⟩
  have E := hR
  unfold F_X10_basin at E
  have hS : zSm [6, 20, 21, 30, 31, 33, 34, 35, 36, 38] [5] L kd σ σ := zSm.rf
  refine zg_aload_n X 0 rfl dX10_basin_0 ?_
  refine zg_iload_n X 1 rfl dX10_basin_1 ?_
  refine zg_cVi (As := [.int p1]) (st := []) X ha0 rfl (by decide) rfl (t_X10_isPlace l d L kd κ 0 _ hI a0 ha0 p1 ) mk_X10_109 mc_X10_isPlace mz_X10 mi_X10_isPlace ml_X10_isPlace (na := 1) ⟨md_X10.1, md_X10.2, by decide +kernel⟩ rfl ⟨by decide, by decide⟩ (Nat.le_of_ble_eq_true rfl) dX10_basin_2 (fun v1 s2 hq => ?_)
  obtain ⟨hF, hS2, hI⟩ := hq
  replace E := zLet2_s hF E
  have hS := hS.tr hS2 rfl rfl
  obtain ⟨hv1, hI⟩ := hI
  refine zg_if_eq X 17 dX10_basin_5 (by decide) (fun c3 => ?_) (fun c3 => ?_)
  · skip
    replace E := zIf_t c3 E
    refine zg_iconst X (-1) dX10_basin_17 (by decide) (fun v4 _ hv4 => ?_)
    replace E := zLet_s (zcst hv4 (by decide)) E
    exact ret _ _ _ _ dX10_basin_18 rfl ⟨E.symm.trans hR, hS, hI⟩
  · skip
    replace E := zIf_f c3 E
    refine zg_iload_n X 2 rfl dX10_basin_8 ?_
    refine zg_iconst X 0 dX10_basin_9 (by decide) (fun v5 _ hv5 => ?_)
    replace E := zLet_s (zcst hv5 (by decide)) E
    refine zg_iconst X 1 dX10_basin_10 (by decide) (fun v6 _ hv6 => ?_)
    replace E := zLet_s (zcst hv6 (by decide)) E
    refine zg_cSi (As := [.int p2, .int v5, .int v6]) (st := []) X (t_X10_isWithin l d L kd _ p2 v5 v6 ) mk_X10_229 mc_X10_isWithin mz_X10 ms_X10_isWithin (na := 3) ⟨md_X10.1, md_X10.2, by decide +kernel⟩ rfl ⟨by decide, by decide⟩ (Nat.le_of_ble_eq_true rfl) dX10_basin_11 (fun v7 σ2 hq => ?_)
    obtain ⟨⟨hF, hv7⟩, rfl⟩ := hq
    replace E := zLet_s hF E
    refine zg_if_ne X 19 dX10_basin_14 (by decide) (fun c8 => ?_) (fun c8 => ?_)
    · skip
      replace E := zIf_f c8 E
      refine zg_aload_n X 0 rfl dX10_basin_19 ?_
      refine zg_cVv (As := []) (st := []) X ha0 rfl (by decide) rfl (t_X10_look l d L kd κ 0 _ hI a0 ha0 ) mk_X10_113 mc_X10_look mz_X10 mi_X10_look ml_X10_look (na := 0) ⟨md_X10.1, md_X10.2, by decide +kernel⟩ rfl ⟨by decide, by decide⟩ (Nat.le_of_ble_eq_true rfl) dX10_basin_20 (fun s9 hq => ?_)
      obtain ⟨hF, hS2, hI⟩ := hq
      replace E := zLet_s hF E
      have hS := hS.tr hS2 rfl rfl
      refine zg_aload_n X 0 rfl dX10_basin_23 ?_
      refine fg_X10_34 X hI ha0 dX10_basin_24 (fun v10 ev10 hv10 => ?_)
      replace E := zLet_s (zgr ev10) E
      refine zg_iload_n X 1 rfl dX10_basin_27 ?_
      refine zg_cVi (As := [.int p1]) (st := []) X hv10 rfl (by decide) rfl (t_X6_comingBy l d L kd κ 1 _ hI v10 hv10 p1 ) mk_X10_324 mc_X6_comingBy mz_X6 mi_X6_comingBy ml_X6_comingBy (na := 1) ⟨md_X6.1, md_X6.2, by decide +kernel⟩ rfl ⟨by decide, by decide⟩ (Nat.le_of_ble_eq_true rfl) dX10_basin_28 (fun v11 s12 hq => ?_)
      obtain ⟨hF, hS2, hI⟩ := hq
      replace E := zLet2_s hF E
      have hS := hS.tr hS2 rfl rfl
      refine zg_istore_n X [(3, .int v11), (0, .ref a0), (1, .int p1), (2, .int p2)] dX10_basin_31 (by decide) rfl ?_
      refine zg_iload_n X 3 rfl dX10_basin_32 ?_
      refine zg_if_ne X 40 dX10_basin_33 (by decide) (fun c13 => ?_) (fun c13 => ?_)
      · skip
        replace E := zIf_f c13 E
        refine zg_aload_n X 1 rfl dX10_basin_40 ?_
        refine fg_X10_26 X hI ha0 dX10_basin_41 (fun v14 ev14 hv14 => ?_)
        replace E := zLet_s (zgr ev14) E
        refine zg_iload_n X 0 rfl dX10_basin_44 ?_
        refine zg_cVi (As := [.int v11]) (st := []) X hv14 rfl (by decide) rfl (t_X5_rainsOf l d L kd κ _ hI v14 hv14 v11 ) mk_X10_327 mc_X5_rainsOf mz_X5 mi_X5_rainsOf ml_X5_rainsOf (na := 1) ⟨md_X5.1, md_X5.2, by decide +kernel⟩ rfl ⟨by decide, by decide⟩ (Nat.le_of_ble_eq_true rfl) dX10_basin_45 (fun v15 s16 hq => ?_)
        obtain ⟨hF, hS2, hI⟩ := hq
        replace E := zLet2_s hF E
        have hS := hS.tr hS2 rfl rfl
        exact ret _ _ _ _ dX10_basin_48 rfl ⟨E.symm.trans hR, hS, (zi_weak hI)⟩
      · skip
        replace E := zIf_t c13 E
        refine zg_iload_n X 0 rfl dX10_basin_36 ?_
        refine zg_goto X 48 dX10_basin_37 (by decide) ?_
        exact ret _ _ _ _ dX10_basin_48 rfl ⟨E.symm.trans hR, hS, (zi_weak hI)⟩
    · skip
      replace E := zIf_t c8 E
      refine zg_iconst X (-1) dX10_basin_17 (by decide) (fun v17 _ hv17 => ?_)
      replace E := zLet_s (zcst hv17 (by decide)) E
      exact ret _ _ _ _ dX10_basin_18 rfl ⟨E.symm.trans hR, hS, hI⟩
set_option maxHeartbeats 4000000 in
set_option maxRecDepth 100000 in
theorem t_X10_tour (l : Launch) (d : zD2) (L : List Nat) (kd : Nat → Nat) (κ : Int) (σ : zS) (hI : zI κ 0 L kd σ) (a0 : Nat) (ha0 : zT L kd a0 10) : zMi l yX10_tour (Cond.code yX10_tour cX10_tour 1 (some .int) :: zWL) 7 [.ref a0] d L kd σ (fun v σ2 => (v, σ2) = F_X10_tour a0 σ ∧ zSm [6, 20, 21, 30, 31, 33, 34, 35, 36, 38] [5] L kd σ σ2 ∧ (zI κ 0 L kd σ2)) := by
  refine zMi.of (own := RX10) (by decide +kernel) rfl rfl (Nat.le_of_ble_eq_true rfl) ?_
  intro p e s m args below meth c A Q X ret
  refine zg_lv (lv2 := [(0, .ref a0)]) rfl ?_
  obtain ⟨R, hR⟩ : ∃ R, R = F_X10_tour a0 σ := ⟨_, rfl⟩
  have E := hR
  unfold F_X10_tour at E
  have hS : zSm [6, 20, 21, 30, 31, 33, 34, 35, 36, 38] [5] L kd σ σ := zSm.rf
  refine zg_aload_n X 0 rfl dX10_tour_0 ?_
  refine zg_cVv (As := []) (st := []) X ha0 rfl (by decide) rfl (t_X10_look l d L kd κ 0 _ hI a0 ha0 ) mk_X10_113 mc_X10_look mz_X10 mi_X10_look ml_X10_look (na := 0) ⟨md_X10.1, md_X10.2, by decide +kernel⟩ rfl ⟨by decide, by decide⟩ (Nat.le_of_ble_eq_true rfl) dX10_tour_1 (fun s1 hq => ?_)
  obtain ⟨hF, hS2, hI⟩ := hq
  replace E := zLet_s hF E
  have hS := hS.tr hS2 rfl rfl
  refine zg_aload_n X 0 rfl dX10_tour_4 ?_
  refine fg_X10_34 X hI ha0 dX10_tour_5 (fun v2 ev2 hv2 => ?_)
  replace E := zLet_s (zgr ev2) E
  refine zg_aload_n X 0 rfl dX10_tour_8 ?_
  refine fg_X10_34 X hI ha0 dX10_tour_9 (fun v3 ev3 hv3 => ?_)
  replace E := zLet_s (zgr ev3) E
  refine zg_cVi (As := []) (st := [.ref v2]) X hv3 rfl (by decide) rfl (t_X6_sources l d L kd κ 1 _ hI v3 hv3 ) mk_X10_188 mc_X6_sources mz_X6 mi_X6_sources ml_X6_sources (na := 0) ⟨md_X6.1, md_X6.2, by decide +kernel⟩ rfl ⟨by decide, by decide⟩ (Nat.le_of_ble_eq_true rfl) dX10_tour_12 (fun v4 s5 hq => ?_)
  obtain ⟨hF, hS2, hI⟩ := hq
  replace E := zLet2_s hF E
  have hS := hS.tr hS2 rfl rfl
  refine zg_cVi (As := [.int v4]) (st := []) X hv2 rfl (by decide) rfl (t_X6_tourOf l d L kd κ 1 _ hI v2 hv2 v4 ) mk_X10_330 mc_X6_tourOf mz_X6 mi_X6_tourOf ml_X6_tourOf (na := 1) ⟨md_X6.1, md_X6.2, by decide +kernel⟩ rfl ⟨by decide, by decide⟩ (Nat.le_of_ble_eq_true rfl) dX10_tour_15 (fun v6 s7 hq => ?_)
  obtain ⟨hF, hS2, hI⟩ := hq
  replace E := zLet2_s hF E
  have hS := hS.tr hS2 rfl rfl
  exact ret _ _ _ _ dX10_tour_18 rfl ⟨E.symm.trans hR, hS, (zi_weak hI)⟩
set_option maxHeartbeats 4000000 in
set_option maxRecDepth 100000 in
theorem t_X10_parted (l : Launch) (d : zD2) (L : List Nat) (kd : Nat → Nat) (κ : Int) (σ : zS) (hI : zI κ 0 L kd σ) (a0 : Nat) (ha0 : zT L kd a0 10) : zMi l yX10_parted (Cond.code yX10_parted cX10_parted 4 (some .int) :: zWL) 7 [.ref a0] d L kd σ (fun v σ2 => (v, σ2) = F_X10_parted a0 σ ∧ zSm [6, 20, 21, 30, 31, 33, 34, 35, 36, 38] [5] L kd σ σ2 ∧ (zI κ 0 L kd σ2)) := by
  refine zMi.of (own := RX10) (by decide +kernel) rfl rfl (Nat.le_of_ble_eq_true rfl) ?_
  intro p e s m args below meth c A Q X ret
  refine zg_lv (lv2 := [(0, .ref a0)]) rfl ?_
  obtain ⟨R, hR⟩ : ∃ R, R = F_X10_parted a0 σ := ⟨_, rfl⟩
  have E := hR
  unfold F_X10_parted at E
  have hS : zSm [6, 20, 21, 30, 31, 33, 34, 35, 36, 38] [5] L kd σ σ := zSm.rf
  refine zg_aload_n X 0 rfl dX10_parted_0 ?_
  refine zg_cVv (As := []) (st := []) X ha0 rfl (by decide) rfl (t_X10_look l d L kd κ 0 _ hI a0 ha0 ) mk_X10_113 mc_X10_look mz_X10 mi_X10_look ml_X10_look (na := 0) ⟨md_X10.1, md_X10.2, by decide +kernel⟩ rfl ⟨by decide, by decide⟩ (Nat.le_of_ble_eq_true rfl) dX10_parted_1 (fun s1 hq => ?_)
  obtain ⟨hF, hS2, hI⟩ := hq
  replace E := zLet_s hF E
  have hS := hS.tr hS2 rfl rfl
  refine zg_aload_n X 0 rfl dX10_parted_4 ?_
  refine fg_X10_34 X hI ha0 dX10_parted_5 (fun v2 ev2 hv2 => ?_)
  replace E := zLet_s (zgr ev2) E
  refine zg_cVi (As := []) (st := []) X hv2 rfl (by decide) rfl (t_X6_sources l d L kd κ 1 _ hI v2 hv2 ) mk_X10_188 mc_X6_sources mz_X6 mi_X6_sources ml_X6_sources (na := 0) ⟨md_X6.1, md_X6.2, by decide +kernel⟩ rfl ⟨by decide, by decide⟩ (Nat.le_of_ble_eq_true rfl) dX10_parted_8 (fun v3 s4 hq => ?_)
  obtain ⟨hF, hS2, hI⟩ := hq
  replace E := zLet2_s hF E
  have hS := hS.tr hS2 rfl rfl
  refine zg_istore_n X [(1, .int v3), (0, .ref a0)] dX10_parted_11 (by decide) rfl ?_
  refine zg_aload_n X 1 rfl dX10_parted_12 ?_
  refine fg_X10_34 X hI ha0 dX10_parted_13 (fun v5 ev5 hv5 => ?_)
  replace E := zLet_s (zgr ev5) E
  refine zg_iload_n X 0 rfl dX10_parted_16 ?_
  refine zg_cVi (As := [.int v3]) (st := []) X hv5 rfl (by decide) rfl (t_X6_tourOf l d L kd κ 1 _ hI v5 hv5 v3 ) mk_X10_330 mc_X6_tourOf mz_X6 mi_X6_tourOf ml_X6_tourOf (na := 1) ⟨md_X6.1, md_X6.2, by decide +kernel⟩ rfl ⟨by decide, by decide⟩ (Nat.le_of_ble_eq_true rfl) dX10_parted_17 (fun v6 s7 hq => ?_)
  obtain ⟨hF, hS2, hI⟩ := hq
  replace E := zLet2_s hF E
  have hS := hS.tr hS2 rfl rfl
  refine zg_istore_n X [(2, .int v6), (1, .int v3), (0, .ref a0)] dX10_parted_20 (by decide) rfl ?_
  refine zg_iconst X 0 dX10_parted_21 (by decide) (fun v8 _ hv8 => ?_)
  replace E := zLet_s (zcst hv8 (by decide)) E
  refine zg_istore_n X [(3, .int v8), (2, .int v6), (1, .int v3), (0, .ref a0)] dX10_parted_22 (by decide) rfl ?_
  have Lp11 : ∀ (nLp11 : Nat) (τ11 : zS) (x9 : Int32) (x10 : Int32), zI κ 1 L kd τ11 → zSm [6, 20, 21, 30, 31, 33, 34, 35, 36, 38] [5] L kd σ τ11 → R = F_X10_parted_23 v3 a0  nLp11 x9 x10 τ11 → 0 ≤ x9.toInt ∧ x9.toInt ≤ 2147483647 → (2147483647) - x9.toInt + 1 < (nLp11 : Int) → zG d L kd A 4 p l e (k2_rm 7 (100 * 7)) s m args below meth c Q τ11 23 [(3, .int x9), (2, .int x10), (1, .int v3), (0, .ref a0)] [] := by
    intro nLp11
    induction nLp11 with
    | zero => intro τ11 x9 x10 hI hS E  hxLp11 hm ; exact absurd hm (by omega)
    | succ nLp11 ihLp11 =>
      intro τ11 x9 x10 hI hS E  hxLp11 hmLp11 
      rw [F_X10_parted_23] at E
      refine zg_iload_n X 0 rfl dX10_parted_23 ?_
      refine zg_iload_n X 2 rfl dX10_parted_24 ?_
      have zx9_z12 := zb_rng x9
      have zv3_z13 := zb_rng v3
      refine zg_icmp_ge X 69 dX10_parted_25 (by decide) (fun c14 => ?_) (fun c14 => ?_)
      · skip
        replace E := zIf_f (Int.not_lt.mpr c14) E
        refine zg_iload_n X 1 rfl dX10_parted_69 ?_
        exact ret _ _ _ _ dX10_parted_70 rfl ⟨E.symm.trans hR, hS, (zi_weak hI)⟩
      · skip
        replace E := zIf_t c14 E
        refine zg_iload_n X 0 rfl dX10_parted_28 ?_
        refine zg_iload_n X 2 rfl dX10_parted_29 ?_
        refine zg_iandW X dX10_parted_30 (fun v15 ev15 => ?_)
        replace E := zLet_s ev15 E
        refine zg_iload_n X 0 rfl dX10_parted_31 ?_
        refine zg_icmp_ne X 63 dX10_parted_32 (by decide) (fun c16 => ?_) (fun c16 => ?_)
        · skip
          replace E := zIf_f c16 E
          refine zg_iinc X 1 (fun v17 => [(3, .int v17), (2, .int x10), (1, .int v3), (0, .ref a0)]) 0 dX10_parted_63 rfl (by decide) (by decide) (by omega) (by omega) (fun _ => rfl) (fun v17 ev17 hv17 => ?_)
          replace E := zLet_s (zinc ev17 (by decide)) E
          refine zg_goto X 23 dX10_parted_66 (by decide) ?_
          refine zg_sub [0, 1, 2, 3] rfl ?_
          exact ihLp11 _ v17 x10 hI hS E  (by omega) (by omega) 
        · skip
          replace E := zIf_t c16 E
          refine zg_iload_n X 1 rfl dX10_parted_35 ?_
          refine zg_aload_n X 3 rfl dX10_parted_36 ?_
          refine fg_X10_34 X hI ha0 dX10_parted_37 (fun v18 ev18 hv18 => ?_)
          replace E := zLet_s (zgr ev18) E
          refine zg_iload_n X 0 rfl dX10_parted_40 ?_
          refine zg_cVi (As := [.int x9]) (st := [.int x10]) X hv18 rfl (by decide) rfl (t_X6_tourOf l d L kd κ 1 _ hI v18 hv18 x9 ) mk_X10_330 mc_X6_tourOf mz_X6 mi_X6_tourOf ml_X6_tourOf (na := 1) ⟨md_X6.1, md_X6.2, by decide +kernel⟩ rfl ⟨by decide, by decide⟩ (Nat.le_of_ble_eq_true rfl) dX10_parted_41 (fun v19 s20 hq => ?_)
          obtain ⟨hF, hS2, hI⟩ := hq
          replace E := zLet2_s hF E
          have hS := hS.tr hS2 rfl rfl
          refine zg_aload_n X 3 rfl dX10_parted_44 ?_
          refine fg_X10_34 X hI ha0 dX10_parted_45 (fun v21 ev21 hv21 => ?_)
          replace E := zLet_s (zgr ev21) E
          refine zg_iload_n X 2 rfl dX10_parted_48 ?_
          refine zg_iload_n X 0 rfl dX10_parted_49 ?_
          refine zg_iconst X (-1) dX10_parted_50 (by decide) (fun v22 _ hv22 => ?_)
          replace E := zLet_s (zcst hv22 (by decide)) E
          refine zg_ixorW X dX10_parted_51 (fun v23 ev23 => ?_)
          replace E := zLet_s ev23 E
          refine zg_iandW X dX10_parted_52 (fun v24 ev24 => ?_)
          replace E := zLet_s ev24 E
          refine zg_cVi (As := [.int v24]) (st := [.int v19, .int x10]) X hv21 rfl (by decide) rfl (t_X6_tourOf l d L kd κ 1 _ hI v21 hv21 v24 ) mk_X10_330 mc_X6_tourOf mz_X6 mi_X6_tourOf ml_X6_tourOf (na := 1) ⟨md_X6.1, md_X6.2, by decide +kernel⟩ rfl ⟨by decide, by decide⟩ (Nat.le_of_ble_eq_true rfl) dX10_parted_53 (fun v25 s26 hq => ?_)
          obtain ⟨hF, hS2, hI⟩ := hq
          replace E := zLet2_s hF E
          have hS := hS.tr hS2 rfl rfl
          refine zg_max X wj_X10_333 ⟨by decide, Nat.le_of_ble_eq_true rfl⟩ dX10_parted_56 (fun v27 hv27 => ?_)
          replace E := zLet_s (zmax_e hv27) E
          refine zg_min X wj_X10_262 ⟨by decide, Nat.le_of_ble_eq_true rfl⟩ dX10_parted_59 (fun v28 hv28 => ?_)
          replace E := zLet_s (zmin_e hv28) E
          refine zg_istore_n X [(2, .int v28), (3, .int x9), (1, .int v3), (0, .ref a0)] dX10_parted_62 (by decide) rfl ?_
          refine zg_iinc X 1 (fun v29 => [(3, .int v29), (2, .int v28), (1, .int v3), (0, .ref a0)]) 1 dX10_parted_63 rfl (by decide) (by decide) (by omega) (by omega) (fun _ => rfl) (fun v29 ev29 hv29 => ?_)
          replace E := zLet_s (zinc ev29 (by decide)) E
          refine zg_goto X 23 dX10_parted_66 (by decide) ?_
          refine zg_sub [0, 1, 2, 3] rfl ?_
          exact ihLp11 _ v29 v28 hI hS E  (by omega) (by omega) 
  have zrLp11 := zb_rng v8
  refine zg_sub [0, 1, 2, 3] rfl ?_
  exact Lp11 4294967299 _ v8 v6 hI hS E  (by omega) (by omega) 
set_option maxHeartbeats 4000000 in
set_option maxRecDepth 100000 in
theorem t_X10_meet (l : Launch) (d : zD2) (L : List Nat) (kd : Nat → Nat) (κ : Int) (σ : zS) (hI : zI κ 0 L kd σ) (a0 : Nat) (ha0 : zT L kd a0 10) (p1 : Int32) (p2 : Int32) (p3 : Int32) : zMi l yX10_meet (Cond.code yX10_meet cX10_meet 5 (some .int) :: zWL) 7 [.ref a0, .int p1, .int p2, .int p3] d L kd σ (fun v σ2 => (v, σ2) = F_X10_meet a0 p1 p2 p3 σ ∧ zSm [6, 20, 21, 30, 31, 33, 34, 35, 36, 38] [5] L kd σ σ2 ∧ (zI κ 0 L kd σ2)) := by
  refine zMi.of (own := RX10) (by decide +kernel) rfl rfl (Nat.le_of_ble_eq_true rfl) ?_
  intro p e s m args below meth c A Q X ret
  refine zg_lv (lv2 := [(0, .ref a0), (1, .int p1), (2, .int p2), (3, .int p3)]) rfl ?_
  obtain ⟨R, hR⟩ : ∃ R, R = F_X10_meet a0 p1 p2 p3 σ := ⟨_, rfl⟩
  have E := hR
  unfold F_X10_meet at E
  have hS : zSm [6, 20, 21, 30, 31, 33, 34, 35, 36, 38] [5] L kd σ σ := zSm.rf
  refine zg_aload_n X 0 rfl dX10_meet_0 ?_
  refine zg_iload_n X 1 rfl dX10_meet_1 ?_
  refine zg_cVi (As := [.int p1]) (st := []) X ha0 rfl (by decide) rfl (t_X10_isPlace l d L kd κ 0 _ hI a0 ha0 p1 ) mk_X10_109 mc_X10_isPlace mz_X10 mi_X10_isPlace ml_X10_isPlace (na := 1) ⟨md_X10.1, md_X10.2, by decide +kernel⟩ rfl ⟨by decide, by decide⟩ (Nat.le_of_ble_eq_true rfl) dX10_meet_2 (fun v1 s2 hq => ?_)
  obtain ⟨hF, hS2, hI⟩ := hq
  replace E := zLet2_s hF E
  have hS := hS.tr hS2 rfl rfl
  obtain ⟨hv1, hI⟩ := hI
  refine zg_if_eq X 25 dX10_meet_5 (by decide) (fun c3 => ?_) (fun c3 => ?_)
  · skip
    replace E := zIf_t c3 E
    refine zg_iconst X (-1) dX10_meet_25 (by decide) (fun v4 _ hv4 => ?_)
    replace E := zLet_s (zcst hv4 (by decide)) E
    exact ret _ _ _ _ dX10_meet_26 rfl ⟨E.symm.trans hR, hS, hI⟩
  · skip
    replace E := zIf_f c3 E
    refine zg_aload_n X 0 rfl dX10_meet_8 ?_
    refine zg_iload_n X 2 rfl dX10_meet_9 ?_
    refine zg_cVi (As := [.int p2]) (st := []) X ha0 rfl (by decide) rfl (t_X10_isPlace l d L kd κ 0 _ hI a0 ha0 p2 ) mk_X10_109 mc_X10_isPlace mz_X10 mi_X10_isPlace ml_X10_isPlace (na := 1) ⟨md_X10.1, md_X10.2, by decide +kernel⟩ rfl ⟨by decide, by decide⟩ (Nat.le_of_ble_eq_true rfl) dX10_meet_10 (fun v5 s6 hq => ?_)
    obtain ⟨hF, hS2, hI⟩ := hq
    replace E := zLet2_s hF E
    have hS := hS.tr hS2 rfl rfl
    obtain ⟨hv5, hI⟩ := hI
    refine zg_if_eq X 25 dX10_meet_13 (by decide) (fun c7 => ?_) (fun c7 => ?_)
    · skip
      replace E := zIf_t c7 E
      refine zg_iconst X (-1) dX10_meet_25 (by decide) (fun v8 _ hv8 => ?_)
      replace E := zLet_s (zcst hv8 (by decide)) E
      exact ret _ _ _ _ dX10_meet_26 rfl ⟨E.symm.trans hR, hS, hI⟩
    · skip
      replace E := zIf_f c7 E
      refine zg_iload_n X 3 rfl dX10_meet_16 ?_
      refine zg_iconst X 0 dX10_meet_17 (by decide) (fun v9 _ hv9 => ?_)
      replace E := zLet_s (zcst hv9 (by decide)) E
      refine zg_iconst X 1 dX10_meet_18 (by decide) (fun v10 _ hv10 => ?_)
      replace E := zLet_s (zcst hv10 (by decide)) E
      refine zg_cSi (As := [.int p3, .int v9, .int v10]) (st := []) X (t_X10_isWithin l d L kd _ p3 v9 v10 ) mk_X10_229 mc_X10_isWithin mz_X10 ms_X10_isWithin (na := 3) ⟨md_X10.1, md_X10.2, by decide +kernel⟩ rfl ⟨by decide, by decide⟩ (Nat.le_of_ble_eq_true rfl) dX10_meet_19 (fun v11 σ2 hq => ?_)
      obtain ⟨⟨hF, hv11⟩, rfl⟩ := hq
      replace E := zLet_s hF E
      refine zg_if_ne X 27 dX10_meet_22 (by decide) (fun c12 => ?_) (fun c12 => ?_)
      · skip
        replace E := zIf_f c12 E
        refine zg_aload_n X 0 rfl dX10_meet_27 ?_
        refine zg_cVv (As := []) (st := []) X ha0 rfl (by decide) rfl (t_X10_look l d L kd κ 0 _ hI a0 ha0 ) mk_X10_113 mc_X10_look mz_X10 mi_X10_look ml_X10_look (na := 0) ⟨md_X10.1, md_X10.2, by decide +kernel⟩ rfl ⟨by decide, by decide⟩ (Nat.le_of_ble_eq_true rfl) dX10_meet_28 (fun s13 hq => ?_)
        obtain ⟨hF, hS2, hI⟩ := hq
        replace E := zLet_s hF E
        have hS := hS.tr hS2 rfl rfl
        refine zg_aload_n X 0 rfl dX10_meet_31 ?_
        refine fg_X10_34 X hI ha0 dX10_meet_32 (fun v14 ev14 hv14 => ?_)
        replace E := zLet_s (zgr ev14) E
        refine zg_iload_n X 1 rfl dX10_meet_35 ?_
        refine zg_iload_n X 2 rfl dX10_meet_36 ?_
        refine zg_cVi (As := [.int p1, .int p2]) (st := []) X hv14 rfl (by decide) rfl (t_X6_meeting l d L kd κ 1 _ hI v14 hv14 p1 p2 (by omega) (by omega)) mk_X10_336 mc_X6_meeting mz_X6 mi_X6_meeting ml_X6_meeting (na := 2) ⟨md_X6.1, md_X6.2, by decide +kernel⟩ rfl ⟨by decide, by decide⟩ (Nat.le_of_ble_eq_true rfl) dX10_meet_37 (fun v15 s16 hq => ?_)
        obtain ⟨hF, hS2, hI⟩ := hq
        replace E := zLet2_s hF E
        have hS := hS.tr hS2 rfl rfl
        obtain ⟨hv15, hI⟩ := hI
        refine zg_istore X [(4, .int v15), (0, .ref a0), (1, .int p1), (2, .int p2), (3, .int p3)] dX10_meet_40 (by decide) rfl ?_
        refine zg_iload_n X 4 rfl dX10_meet_42 ?_
        refine zg_if_ne X 51 dX10_meet_43 (by decide) (fun c17 => ?_) (fun c17 => ?_)
        · skip
          replace E := zIf_f c17 E
          refine zg_aload_n X 1 rfl dX10_meet_51 ?_
          refine fg_X10_34 X hI ha0 dX10_meet_52 (fun v18 ev18 hv18 => ?_)
          replace E := zLet_s (zgr ev18) E
          refine fg_X10_138 X hI hv18 dX10_meet_55 (fun v19 ev19 hv19 => ?_)
          replace E := zLet_s (zgr ev19) E
          refine zg_iload_n X 2 rfl dX10_meet_58 ?_
          refine ag_35 X hI hv19 (by omega) (by omega) dX10_meet_59 (fun v20 ev20 _ => ?_)
          replace E := zLet_s ev20 E
          refine zg_aload_n X 1 rfl dX10_meet_60 ?_
          refine fg_X10_34 X hI ha0 dX10_meet_61 (fun v21 ev21 hv21 => ?_)
          replace E := zLet_s (zgr ev21) E
          refine fg_X10_138 X hI hv21 dX10_meet_64 (fun v22 ev22 hv22 => ?_)
          replace E := zLet_s (zgr ev22) E
          refine zg_iload_n X 3 rfl dX10_meet_67 ?_
          refine ag_35 X hI hv22 (by omega) (by omega) dX10_meet_68 (fun v23 ev23 _ => ?_)
          replace E := zLet_s ev23 E
          refine zg_iaddW X dX10_meet_69 (fun v24 ev24 => ?_)
          replace E := zLet_s ev24 E
          refine zg_iconst X 2 dX10_meet_70 (by decide) (fun v25 _ hv25 => ?_)
          replace E := zLet_s (zcst hv25 (by decide)) E
          refine zg_aload_n X 1 rfl dX10_meet_71 ?_
          refine fg_X10_34 X hI ha0 dX10_meet_72 (fun v26 ev26 hv26 => ?_)
          replace E := zLet_s (zgr ev26) E
          refine fg_X10_138 X hI hv26 dX10_meet_75 (fun v27 ev27 hv27 => ?_)
          replace E := zLet_s (zgr ev27) E
          refine zg_iload X 0 rfl dX10_meet_78 ?_
          refine ag_35 X hI hv27 (by omega) (by omega) dX10_meet_80 (fun v28 ev28 _ => ?_)
          replace E := zLet_s ev28 E
          refine zg_imulW X dX10_meet_81 (fun v29 ev29 => ?_)
          replace E := zLet_s ev29 E
          refine zg_isubW X dX10_meet_82 (fun v30 ev30 => ?_)
          replace E := zLet_s ev30 E
          exact ret _ _ _ _ dX10_meet_83 rfl ⟨E.symm.trans hR, hS, (zi_weak hI)⟩
        · skip
          replace E := zIf_t c17 E
          refine zg_iload X 0 rfl dX10_meet_46 ?_
          refine zg_goto X 83 dX10_meet_48 (by decide) ?_
          exact ret _ _ _ _ dX10_meet_83 rfl ⟨E.symm.trans hR, hS, (zi_weak hI)⟩
      · skip
        replace E := zIf_t c12 E
        refine zg_iconst X (-1) dX10_meet_25 (by decide) (fun v31 _ hv31 => ?_)
        replace E := zLet_s (zcst hv31 (by decide)) E
        exact ret _ _ _ _ dX10_meet_26 rfl ⟨E.symm.trans hR, hS, hI⟩
set_option maxHeartbeats 4000000 in
set_option maxRecDepth 100000 in
theorem t_X10_tell (l : Launch) (d : zD2) (L : List Nat) (kd : Nat → Nat) (κ : Int) (σ : zS) (hI : zI κ 0 L kd σ) (a0 : Nat) (ha0 : zT L kd a0 10) (p1 : Int32) (p2 : Int32) (p3 : Int32) (p4 : Int32) (hq0 : 0 ≤ p4.toInt ∧ p4.toInt ≤ 1) : zMi l yX10_tell (Cond.code yX10_tell cX10_tell 5 (some .int) :: zWL) 2 [.ref a0, .int p1, .int p2, .int p3, .int p4] d L kd σ (fun v σ2 => (v, σ2) = F_X10_tell a0 p1 p2 p3 p4 σ ∧ zSm [2, 25, 26, 27, 28] [] L kd σ σ2 ∧ (zI κ 0 L kd σ2)) := by
  refine zMi.of (own := RX10) (by decide +kernel) rfl rfl (Nat.le_of_ble_eq_true rfl) ?_
  intro p e s m args below meth c A Q X ret
  refine zg_lv (lv2 := [(0, .ref a0), (1, .int p1), (2, .int p2), (3, .int p3), (4, .int p4)]) rfl ?_
  obtain ⟨R, hR⟩ : ∃ R, R = F_X10_tell a0 p1 p2 p3 p4 σ := ⟨_, rfl⟩
  have E := hR
  unfold F_X10_tell at E
  have hS : zSm [2, 25, 26, 27, 28] [] L kd σ σ := zSm.rf
  refine zg_aload_n X 0 rfl dX10_tell_0 ?_
  refine zg_iload_n X 1 rfl dX10_tell_1 ?_
  refine zg_cVi (As := [.int p1]) (st := []) X ha0 rfl (by decide) rfl (t_X10_isPlace l d L kd κ 0 _ hI a0 ha0 p1 ) mk_X10_109 mc_X10_isPlace mz_X10 mi_X10_isPlace ml_X10_isPlace (na := 1) ⟨md_X10.1, md_X10.2, by decide +kernel⟩ rfl ⟨by decide, by decide⟩ (Nat.le_of_ble_eq_true rfl) dX10_tell_2 (fun v1 s2 hq => ?_)
  obtain ⟨hF, hS2, hI⟩ := hq
  replace E := zLet2_s hF E
  have hS := hS.tr hS2 rfl rfl
  obtain ⟨hv1, hI⟩ := hI
  refine zg_if_eq X 30 dX10_tell_5 (by decide) (fun c3 => ?_) (fun c3 => ?_)
  · skip
    replace E := zIf_t c3 E
    refine zg_iconst X (-1) dX10_tell_30 (by decide) (fun v4 _ hv4 => ?_)
    replace E := zLet_s (zcst hv4 (by decide)) E
    exact ret _ _ _ _ dX10_tell_31 rfl ⟨E.symm.trans hR, hS, hI⟩
  · skip
    replace E := zIf_f c3 E
    refine zg_iload_n X 2 rfl dX10_tell_8 ?_
    refine zg_iconst X 0 dX10_tell_9 (by decide) (fun v5 _ hv5 => ?_)
    replace E := zLet_s (zcst hv5 (by decide)) E
    refine zg_sipush X 9999 dX10_tell_10 (by decide) (fun v6 _ hv6 => ?_)
    replace E := zLet_s (zcst hv6 (by decide)) E
    refine zg_cSi (As := [.int p2, .int v5, .int v6]) (st := []) X (t_X10_isWithin l d L kd _ p2 v5 v6 ) mk_X10_229 mc_X10_isWithin mz_X10 ms_X10_isWithin (na := 3) ⟨md_X10.1, md_X10.2, by decide +kernel⟩ rfl ⟨by decide, by decide⟩ (Nat.le_of_ble_eq_true rfl) dX10_tell_13 (fun v7 σ2 hq => ?_)
    obtain ⟨⟨hF, hv7⟩, rfl⟩ := hq
    replace E := zLet_s hF E
    refine zg_if_eq X 30 dX10_tell_16 (by decide) (fun c8 => ?_) (fun c8 => ?_)
    · skip
      replace E := zIf_t c8 E
      refine zg_iconst X (-1) dX10_tell_30 (by decide) (fun v9 _ hv9 => ?_)
      replace E := zLet_s (zcst hv9 (by decide)) E
      exact ret _ _ _ _ dX10_tell_31 rfl ⟨E.symm.trans hR, hS, hI⟩
    · skip
      replace E := zIf_f c8 E
      refine zg_iload_n X 3 rfl dX10_tell_19 ?_
      refine zg_iload_n X 2 rfl dX10_tell_20 ?_
      refine zg_sipush X 9999 dX10_tell_21 (by decide) (fun v10 _ hv10 => ?_)
      replace E := zLet_s (zcst hv10 (by decide)) E
      refine zg_cSi (As := [.int p3, .int p2, .int v10]) (st := []) X (t_X10_isWithin l d L kd _ p3 p2 v10 ) mk_X10_229 mc_X10_isWithin mz_X10 ms_X10_isWithin (na := 3) ⟨md_X10.1, md_X10.2, by decide +kernel⟩ rfl ⟨by decide, by decide⟩ (Nat.le_of_ble_eq_true rfl) dX10_tell_24 (fun v11 σ2 hq => ?_)
      obtain ⟨⟨hF, hv11⟩, rfl⟩ := hq
      replace E := zLet_s hF E
      refine zg_if_ne X 32 dX10_tell_27 (by decide) (fun c12 => ?_) (fun c12 => ?_)
      · skip
        replace E := zIf_f c12 E
        refine zg_aload_n X 0 rfl dX10_tell_32 ?_
        refine fg_X10_45 X hI ha0 dX10_tell_33 (fun v13 ev13 hv13 => ?_)
        replace E := zLet_s (zgr ev13) E
        refine zg_iload_n X 1 rfl dX10_tell_36 ?_
        refine zg_iload_n X 2 rfl dX10_tell_37 ?_
        refine zg_iload_n X 3 rfl dX10_tell_38 ?_
        refine zg_iload X 4 rfl dX10_tell_39 ?_
        refine zg_cVi (As := [.int p1, .int p2, .int p3, .int p4]) (st := []) X hv13 rfl (by decide) rfl (t_X2_add l d L kd κ 0 _ hI v13 hv13 p1 p2 p3 p4 (by omega) (by omega)) mk_X10_339 mc_X2_add mz_X2 mi_X2_add ml_X2_add (na := 4) ⟨md_X2.1, md_X2.2, by decide +kernel⟩ rfl ⟨by decide, by decide⟩ (Nat.le_of_ble_eq_true rfl) dX10_tell_41 (fun v14 s15 hq => ?_)
        obtain ⟨hF, hS2, hI⟩ := hq
        replace E := zLet2_s hF E
        have hS := hS.tr hS2 rfl rfl
        exact ret _ _ _ _ dX10_tell_44 rfl ⟨E.symm.trans hR, hS, hI⟩
      · skip
        replace E := zIf_t c12 E
        refine zg_iconst X (-1) dX10_tell_30 (by decide) (fun v16 _ hv16 => ?_)
        replace E := zLet_s (zcst hv16 (by decide)) E
        exact ret _ _ _ _ dX10_tell_31 rfl ⟨E.symm.trans hR, hS, hI⟩
set_option maxHeartbeats 4000000 in
set_option maxRecDepth 100000 in
theorem t_X10_forget (l : Launch) (d : zD2) (L : List Nat) (kd : Nat → Nat) (κ : Int) (σ : zS) (hI : zI κ 0 L kd σ) (a0 : Nat) (ha0 : zT L kd a0 10) : zMi l yX10_forget (Cond.code yX10_forget cX10_forget 2 (some .int) :: zWL) 0 [.ref a0] d L kd σ (fun v σ2 => (v, σ2) = F_X10_forget a0 σ ∧ zSm [2] [] L kd σ σ2 ∧ (zI κ 0 L kd σ2)) := by
  refine zMi.of (own := RX10) (by decide +kernel) rfl rfl (Nat.le_of_ble_eq_true rfl) ?_
  intro p e s m args below meth c A Q X ret
  refine zg_lv (lv2 := [(0, .ref a0)]) rfl ?_
  obtain ⟨R, hR⟩ : ∃ R, R = F_X10_forget a0 σ := ⟨_, rfl⟩
  have E := hR
  unfold F_X10_forget at E
  have hS : zSm [2] [] L kd σ σ := zSm.rf
  refine zg_aload_n X 0 rfl dX10_forget_0 ?_
  refine fg_X10_45 X hI ha0 dX10_forget_1 (fun v1 ev1 hv1 => ?_)
  replace E := zLet_s (zgr ev1) E
  refine fg_X10_108 X hI hv1 dX10_forget_4 (fun v2 ev2 hv2 => ?_)
  replace E := zLet_s ev2 E
  refine zg_istore_n X [(1, .int v2), (0, .ref a0)] dX10_forget_7 (by decide) rfl ?_
  refine zg_aload_n X 1 rfl dX10_forget_8 ?_
  refine fg_X10_45 X hI ha0 dX10_forget_9 (fun v3 ev3 hv3 => ?_)
  replace E := zLet_s (zgr ev3) E
  refine zg_iconst X 0 dX10_forget_12 (by decide) (fun v4 _ hv4 => ?_)
  replace E := zLet_s (zcst hv4 (by decide)) E
  refine fp_X10_108 X hI hv3 ⟨by omega, by omega⟩ dX10_forget_13 (fun s5 es5 hI => ?_)
  replace E := zLet_s es5 E
  have hS := hS.i hv3 es5 rfl
  refine zg_iload_n X 0 rfl dX10_forget_16 ?_
  exact ret _ _ _ _ dX10_forget_17 rfl ⟨E.symm.trans hR, hS, hI⟩
set_option maxHeartbeats 4000000 in
set_option maxRecDepth 100000 in
theorem t_X10_dyed (l : Launch) (d : zD2) (L : List Nat) (kd : Nat → Nat) (κ : Int) (σ : zS) (hI : zI κ 0 L kd σ) (a0 : Nat) (ha0 : zT L kd a0 10) (p1 : Int32) (p2 : Int32) : zMi l yX10_dyed (Cond.code yX10_dyed cX10_dyed 4 (some .int) :: zWL) 7 [.ref a0, .int p1, .int p2] d L kd σ (fun v σ2 => (v, σ2) = F_X10_dyed a0 p1 p2 σ ∧ zSm [6, 20, 21, 30, 31, 33, 34, 35, 36, 38] [5] L kd σ σ2 ∧ (zI κ 0 L kd σ2)) := by
  refine zMi.of (own := RX10) (by decide +kernel) rfl rfl (Nat.le_of_ble_eq_true rfl) ?_
  intro p e s m args below meth c A Q X ret
  refine zg_lv (lv2 := [(0, .ref a0), (1, .int p1), (2, .int p2)]) rfl ?_
  obtain ⟨R, hR⟩ : ∃ R, R = F_X10_dyed a0 p1 p2 σ := ⟨_, rfl⟩
  have E := hR
  unfold F_X10_dyed at E
  have hS : zSm [6, 20, 21, 30, 31, 33, 34, 35, 36, 38] [5] L kd σ σ := zSm.rf
  refine zg_iload_n X 1 rfl dX10_dyed_0 ?_
  refine zg_iconst X 0 dX10_dyed_1 (by decide) (fun v1 _ hv1 => ?_)
  replace E := zLet_s (zcst hv1 (by decide)) E
  refine zg_aload_n X 0 rfl dX10_dyed_2 ?_
  refine fg_X10_45 X hI ha0 dX10_dyed_3 (fun v2 ev2 hv2 => ?_)
  replace E := zLet_s (zgr ev2) E
  refine fg_X10_108 X hI hv2 dX10_dyed_6 (fun v3 ev3 hv3 => ?_)
  replace E := zLet_s ev3 E
  refine zg_cSi (As := [.int p1, .int v1, .int v3]) (st := []) X (t_X10_isWithin l d L kd _ p1 v1 v3 ) mk_X10_229 mc_X10_isWithin mz_X10 ms_X10_isWithin (na := 3) ⟨md_X10.1, md_X10.2, by decide +kernel⟩ rfl ⟨by decide, by decide⟩ (Nat.le_of_ble_eq_true rfl) dX10_dyed_9 (fun v4 σ2 hq => ?_)
  obtain ⟨⟨hF, hv4⟩, rfl⟩ := hq
  replace E := zLet_s hF E
  refine zg_if_eq X 24 dX10_dyed_12 (by decide) (fun c5 => ?_) (fun c5 => ?_)
  · skip
    replace E := zIf_t c5 E
    refine zg_iconst X (-1) dX10_dyed_24 (by decide) (fun v6 _ hv6 => ?_)
    replace E := zLet_s (zcst hv6 (by decide)) E
    exact ret _ _ _ _ dX10_dyed_25 rfl ⟨E.symm.trans hR, hS, hI⟩
  · skip
    replace E := zIf_f c5 E
    refine zg_iload_n X 2 rfl dX10_dyed_15 ?_
    refine zg_iconst X 0 dX10_dyed_16 (by decide) (fun v7 _ hv7 => ?_)
    replace E := zLet_s (zcst hv7 (by decide)) E
    refine zg_iconst X 1 dX10_dyed_17 (by decide) (fun v8 _ hv8 => ?_)
    replace E := zLet_s (zcst hv8 (by decide)) E
    refine zg_cSi (As := [.int p2, .int v7, .int v8]) (st := []) X (t_X10_isWithin l d L kd _ p2 v7 v8 ) mk_X10_229 mc_X10_isWithin mz_X10 ms_X10_isWithin (na := 3) ⟨md_X10.1, md_X10.2, by decide +kernel⟩ rfl ⟨by decide, by decide⟩ (Nat.le_of_ble_eq_true rfl) dX10_dyed_18 (fun v9 σ2 hq => ?_)
    obtain ⟨⟨hF, hv9⟩, rfl⟩ := hq
    replace E := zLet_s hF E
    refine zg_if_ne X 26 dX10_dyed_21 (by decide) (fun c10 => ?_) (fun c10 => ?_)
    · skip
      replace E := zIf_f c10 E
      refine zg_aload_n X 0 rfl dX10_dyed_26 ?_
      refine zg_cVv (As := []) (st := []) X ha0 rfl (by decide) rfl (t_X10_look l d L kd κ 0 _ hI a0 ha0 ) mk_X10_113 mc_X10_look mz_X10 mi_X10_look ml_X10_look (na := 0) ⟨md_X10.1, md_X10.2, by decide +kernel⟩ rfl ⟨by decide, by decide⟩ (Nat.le_of_ble_eq_true rfl) dX10_dyed_27 (fun s11 hq => ?_)
      obtain ⟨hF, hS2, hI⟩ := hq
      replace E := zLet_s hF E
      have hS := hS.tr hS2 rfl rfl
      refine zg_aload_n X 0 rfl dX10_dyed_30 ?_
      refine fg_X10_45 X hI ha0 dX10_dyed_31 (fun v12 ev12 hv12 => ?_)
      replace E := zLet_s (zgr ev12) E
      refine zg_aload_n X 0 rfl dX10_dyed_34 ?_
      refine fg_X10_34 X hI ha0 dX10_dyed_35 (fun v13 ev13 hv13 => ?_)
      replace E := zLet_s (zgr ev13) E
      refine zg_iload_n X 1 rfl dX10_dyed_38 ?_
      refine zg_cVi (As := [.ref v13, .int p1]) (st := []) X hv12 rfl (by decide) rfl (t_X2_left l d L kd κ 1 _ hI v12 hv12 v13 hv13 p1 ) mk_X10_343 mc_X2_left mz_X2 mi_X2_left ml_X2_left (na := 2) ⟨md_X2.1, md_X2.2, by decide +kernel⟩ rfl ⟨by decide, by decide⟩ (Nat.le_of_ble_eq_true rfl) dX10_dyed_39 (fun v14 s15 hq => ?_)
      obtain ⟨hF, hS2, hI⟩ := hq
      replace E := zLet2_s hF E
      have hS := hS.tr hS2 rfl rfl
      refine zg_istore_n X [(3, .int v14), (0, .ref a0), (1, .int p1), (2, .int p2)] dX10_dyed_42 (by decide) rfl ?_
      refine zg_iload_n X 3 rfl dX10_dyed_43 ?_
      refine zg_if_ne X 54 dX10_dyed_44 (by decide) (fun c16 => ?_) (fun c16 => ?_)
      · skip
        replace E := zIf_f c16 E
        refine zg_iload_n X 0 rfl dX10_dyed_54 ?_
        exact ret _ _ _ _ dX10_dyed_55 rfl ⟨E.symm.trans hR, hS, (zi_weak hI)⟩
      · skip
        replace E := zIf_t c16 E
        refine zg_iload_n X 0 rfl dX10_dyed_47 ?_
        refine zg_cSi (As := [.int v14]) (st := []) X (t_J6_bitCount_0f7a4 l d L kd _ v14 ) mk_X10_198 mc_J6_bitCount_0f7a4 mz_J6 ms_J6_bitCount_0f7a4 (na := 1) ⟨md_J6.1, md_J6.2, by decide +kernel⟩ rfl ⟨by decide, by decide⟩ (Nat.le_of_ble_eq_true rfl) dX10_dyed_48 (fun v17 σ2 hq => ?_)
        obtain ⟨⟨hF, hv17⟩, rfl⟩ := hq
        replace E := zLet_s hF E
        refine zg_goto X 55 dX10_dyed_51 (by decide) ?_
        exact ret _ _ _ _ dX10_dyed_55 rfl ⟨E.symm.trans hR, hS, (zi_weak hI)⟩
    · skip
      replace E := zIf_t c10 E
      refine zg_iconst X (-1) dX10_dyed_24 (by decide) (fun v18 _ hv18 => ?_)
      replace E := zLet_s (zcst hv18 (by decide)) E
      exact ret _ _ _ _ dX10_dyed_25 rfl ⟨E.symm.trans hR, hS, hI⟩
set_option maxHeartbeats 4000000 in
set_option maxRecDepth 100000 in
theorem t_X10_watch (l : Launch) (d : zD2) (L : List Nat) (kd : Nat → Nat) (κ : Int) (σ : zS) (hI : zI κ 0 L kd σ) (a0 : Nat) (ha0 : zT L kd a0 10) (p1 : Int32) : zMi l yX10_watch (Cond.code yX10_watch cX10_watch 5 (some .int) :: zWL) 7 [.ref a0, .int p1] d L kd σ (fun v σ2 => (v, σ2) = F_X10_watch a0 p1 σ ∧ zSm [6, 20, 21, 30, 31, 33, 34, 35, 36, 38] [5] L kd σ σ2 ∧ (zI κ 0 L kd σ2)) := by
  refine zMi.of (own := RX10) (by decide +kernel) rfl rfl (Nat.le_of_ble_eq_true rfl) ?_
  intro p e s m args below meth c A Q X ret
  refine zg_lv (lv2 := [(0, .ref a0), (1, .int p1)]) rfl ?_
  obtain ⟨R, hR⟩ : ∃ R, R = F_X10_watch a0 p1 σ := ⟨_, rfl⟩
  have E := hR
  unfold F_X10_watch at E
  have hS : zSm [6, 20, 21, 30, 31, 33, 34, 35, 36, 38] [5] L kd σ σ := zSm.rf
  refine zg_iload_n X 1 rfl dX10_watch_0 ?_
  refine zg_iconst X 0 dX10_watch_1 (by decide) (fun v1 _ hv1 => ?_)
  replace E := zLet_s (zcst hv1 (by decide)) E
  refine zg_aload_n X 0 rfl dX10_watch_2 ?_
  refine fg_X10_45 X hI ha0 dX10_watch_3 (fun v2 ev2 hv2 => ?_)
  replace E := zLet_s (zgr ev2) E
  refine fg_X10_108 X hI hv2 dX10_watch_6 (fun v3 ev3 hv3 => ?_)
  replace E := zLet_s ev3 E
  refine zg_cSi (As := [.int p1, .int v1, .int v3]) (st := []) X (t_X10_isWithin l d L kd _ p1 v1 v3 ) mk_X10_229 mc_X10_isWithin mz_X10 ms_X10_isWithin (na := 3) ⟨md_X10.1, md_X10.2, by decide +kernel⟩ rfl ⟨by decide, by decide⟩ (Nat.le_of_ble_eq_true rfl) dX10_watch_9 (fun v4 σ2 hq => ?_)
  obtain ⟨⟨hF, hv4⟩, rfl⟩ := hq
  replace E := zLet_s hF E
  refine zg_if_ne X 17 dX10_watch_12 (by decide) (fun c5 => ?_) (fun c5 => ?_)
  · skip
    replace E := zIf_f c5 E
    refine zg_aload_n X 0 rfl dX10_watch_17 ?_
    refine zg_cVv (As := []) (st := []) X ha0 rfl (by decide) rfl (t_X10_look l d L kd κ 0 _ hI a0 ha0 ) mk_X10_113 mc_X10_look mz_X10 mi_X10_look ml_X10_look (na := 0) ⟨md_X10.1, md_X10.2, by decide +kernel⟩ rfl ⟨by decide, by decide⟩ (Nat.le_of_ble_eq_true rfl) dX10_watch_18 (fun s6 hq => ?_)
    obtain ⟨hF, hS2, hI⟩ := hq
    replace E := zLet_s hF E
    have hS := hS.tr hS2 rfl rfl
    refine zg_aload_n X 0 rfl dX10_watch_21 ?_
    refine fg_X10_45 X hI ha0 dX10_watch_22 (fun v7 ev7 hv7 => ?_)
    replace E := zLet_s (zgr ev7) E
    refine zg_aload_n X 0 rfl dX10_watch_25 ?_
    refine fg_X10_34 X hI ha0 dX10_watch_26 (fun v8 ev8 hv8 => ?_)
    replace E := zLet_s (zgr ev8) E
    refine zg_iload_n X 1 rfl dX10_watch_29 ?_
    refine zg_cVi (As := [.ref v8, .int p1]) (st := []) X hv7 rfl (by decide) rfl (t_X2_left l d L kd κ 1 _ hI v7 hv7 v8 hv8 p1 ) mk_X10_343 mc_X2_left mz_X2 mi_X2_left ml_X2_left (na := 2) ⟨md_X2.1, md_X2.2, by decide +kernel⟩ rfl ⟨by decide, by decide⟩ (Nat.le_of_ble_eq_true rfl) dX10_watch_30 (fun v9 s10 hq => ?_)
    obtain ⟨hF, hS2, hI⟩ := hq
    replace E := zLet2_s hF E
    have hS := hS.tr hS2 rfl rfl
    refine zg_istore_n X [(2, .int v9), (0, .ref a0), (1, .int p1)] dX10_watch_33 (by decide) rfl ?_
    refine zg_iload_n X 0 rfl dX10_watch_34 ?_
    refine zg_if_ne X 41 dX10_watch_35 (by decide) (fun c11 => ?_) (fun c11 => ?_)
    · skip
      replace E := zIf_f c11 E
      refine zg_iconst X 0 dX10_watch_41 (by decide) (fun v12 _ hv12 => ?_)
      replace E := zLet_s (zcst hv12 (by decide)) E
      refine zg_istore_n X [(3, .int v12), (2, .int v9), (0, .ref a0), (1, .int p1)] dX10_watch_42 (by decide) rfl ?_
      refine zg_iconst X 1 dX10_watch_43 (by decide) (fun v13 _ hv13 => ?_)
      replace E := zLet_s (zcst hv13 (by decide)) E
      refine zg_istore X [(4, .int v13), (3, .int v12), (2, .int v9), (0, .ref a0), (1, .int p1)] dX10_watch_44 (by decide) rfl ?_
      have Lp16 : ∀ (nLp16 : Nat) (τ16 : zS) (x14 : Int32) (x15 : Int32), zI κ 1 L kd τ16 → zSm [6, 20, 21, 30, 31, 33, 34, 35, 36, 38] [5] L kd σ τ16 → R = F_X10_watch_46 v9 a0 p1  nLp16 x14 x15 τ16 → 0 ≤ x15.toInt ∧ x15.toInt ≤ 11 ∧ 1 ≤ x14.toInt ∧ x14.toInt ≤ 12 → (12) - x14.toInt + 1 < (nLp16 : Int) → zG d L kd A 5 p l e (k2_rm 7 (100 * 7)) s m args below meth c Q τ16 46 [(4, .int x14), (3, .int x15), (2, .int v9), (0, .ref a0), (1, .int p1)] [] := by
        intro nLp16
        induction nLp16 with
        | zero => intro τ16 x14 x15 hI hS E  hxLp16 hm ; exact absurd hm (by omega)
        | succ nLp16 ihLp16 =>
          intro τ16 x14 x15 hI hS E  hxLp16 hmLp16 
          rw [F_X10_watch_46] at E
          refine zg_iload X 0 rfl dX10_watch_46 ?_
          refine zg_aload_n X 3 rfl dX10_watch_48 ?_
          refine fg_X10_70 X hI ha0 dX10_watch_49 (fun v17 ev17 hv17 => ?_)
          replace E := zLet_s (zgr ev17) E
          refine fg_X10_175 X hI hv17 dX10_watch_52 (fun v18 ev18 hv18 => ?_)
          replace E := zLet_s ev18 E
          refine zg_icmp_ge X 83 dX10_watch_55 (by decide) (fun c19 => ?_) (fun c19 => ?_)
          · skip
            replace E := zIf_f (Int.not_lt.mpr c19) E
            refine zg_iload_n X 1 rfl dX10_watch_83 ?_
            exact ret _ _ _ _ dX10_watch_84 rfl ⟨E.symm.trans hR, hS, (zi_weak hI)⟩
          · skip
            replace E := zIf_t c19 E
            refine zg_aload_n X 3 rfl dX10_watch_58 ?_
            refine zg_iload_n X 2 rfl dX10_watch_59 ?_
            refine zg_iload X 0 rfl dX10_watch_60 ?_
            refine zg_cVi (As := [.int v9, .int x14]) (st := []) X ha0 rfl (by decide) rfl (t_X10_leftAtWorst l d L kd κ 1 _ hI a0 ha0 v9 x14 ) mk_X10_347 mc_X10_leftAtWorst mz_X10 mi_X10_leftAtWorst ml_X10_leftAtWorst (na := 2) ⟨md_X10.1, md_X10.2, by decide +kernel⟩ rfl ⟨by decide, by decide⟩ (Nat.le_of_ble_eq_true rfl) dX10_watch_62 (fun v20 s21 hq => ?_)
            obtain ⟨hF, hS2, hI⟩ := hq
            replace E := zLet2_s hF E
            have hS := hS.tr hS2 rfl rfl
            refine zg_aload_n X 3 rfl dX10_watch_65 ?_
            refine zg_iload_n X 2 rfl dX10_watch_66 ?_
            refine zg_iload_n X 1 rfl dX10_watch_67 ?_
            refine zg_cVi (As := [.int v9, .int x15]) (st := [.int v20]) X ha0 rfl (by decide) rfl (t_X10_leftAtWorst l d L kd κ 1 _ hI a0 ha0 v9 x15 ) mk_X10_347 mc_X10_leftAtWorst mz_X10 mi_X10_leftAtWorst ml_X10_leftAtWorst (na := 2) ⟨md_X10.1, md_X10.2, by decide +kernel⟩ rfl ⟨by decide, by decide⟩ (Nat.le_of_ble_eq_true rfl) dX10_watch_68 (fun v22 s23 hq => ?_)
            obtain ⟨hF, hS2, hI⟩ := hq
            replace E := zLet2_s hF E
            have hS := hS.tr hS2 rfl rfl
            have zv20_z24 := zb_rng v20
            have zv22_z25 := zb_rng v22
            refine zg_icmp_ge X 77 dX10_watch_71 (by decide) (fun c26 => ?_) (fun c26 => ?_)
            · skip
              replace E := zIf_f (Int.not_lt.mpr c26) E
              refine zg_iinc X 1 (fun v27 => [(4, .int v27), (3, .int x15), (2, .int v9), (0, .ref a0), (1, .int p1)]) 0 dX10_watch_77 rfl (by decide) (by decide) (by omega) (by omega) (fun _ => rfl) (fun v27 ev27 hv27 => ?_)
              replace E := zLet_s (zinc ev27 (by decide)) E
              refine zg_goto X 46 dX10_watch_80 (by decide) ?_
              refine zg_sub [0, 1, 2, 3, 4] rfl ?_
              exact ihLp16 _ v27 x15 hI hS E  (by omega) (by omega) 
            · skip
              replace E := zIf_t c26 E
              refine zg_iload X 0 rfl dX10_watch_74 ?_
              refine zg_istore_n X [(3, .int x14), (4, .int x14), (2, .int v9), (0, .ref a0), (1, .int p1)] dX10_watch_76 (by decide) rfl ?_
              refine zg_iinc X 1 (fun v28 => [(4, .int v28), (3, .int x14), (2, .int v9), (0, .ref a0), (1, .int p1)]) 1 dX10_watch_77 rfl (by decide) (by decide) (by omega) (by omega) (fun _ => rfl) (fun v28 ev28 hv28 => ?_)
              replace E := zLet_s (zinc ev28 (by decide)) E
              refine zg_goto X 46 dX10_watch_80 (by decide) ?_
              refine zg_sub [0, 1, 2, 3, 4] rfl ?_
              exact ihLp16 _ v28 x14 hI hS E  (by omega) (by omega) 
      refine zg_sub [0, 1, 2, 3, 4] rfl ?_
      exact Lp16 10000 _ v13 v12 hI hS E  (by omega) (by omega) 
    · skip
      replace E := zIf_t c11 E
      refine zg_bipush X (-2) dX10_watch_38 (by decide) (fun v29 _ hv29 => ?_)
      replace E := zLet_s (zcst hv29 (by decide)) E
      exact ret _ _ _ _ dX10_watch_40 rfl ⟨E.symm.trans hR, hS, (zi_weak hI)⟩
  · skip
    replace E := zIf_t c5 E
    refine zg_iconst X (-1) dX10_watch_15 (by decide) (fun v30 _ hv30 => ?_)
    replace E := zLet_s (zcst hv30 (by decide)) E
    exact ret _ _ _ _ dX10_watch_16 rfl ⟨E.symm.trans hR, hS, hI⟩
set_option maxHeartbeats 4000000 in
set_option maxRecDepth 100000 in
theorem t_X10_dams (l : Launch) (d : zD2) (L : List Nat) (kd : Nat → Nat) (κ : Int) (σ : zS) (hI : zI κ 0 L kd σ) (a0 : Nat) (ha0 : zT L kd a0 10) (p1 : Int32) (p2 : Int32) : zMi l yX10_dams (Cond.code yX10_dams cX10_dams 4 (some .int) :: zWL) 7 [.ref a0, .int p1, .int p2] d L kd σ (fun v σ2 => (v, σ2) = F_X10_dams a0 p1 p2 σ ∧ zSm [6, 20, 21, 30, 31, 33, 34, 35, 36, 38] [5] L kd σ σ2 ∧ (zI κ 0 L kd σ2)) := by
  refine zMi.of (own := RX10) (by decide +kernel) rfl rfl (Nat.le_of_ble_eq_true rfl) ?_
  intro p e s m args below meth c A Q X ret
  refine zg_lv (lv2 := [(0, .ref a0), (1, .int p1), (2, .int p2)]) rfl ?_
  obtain ⟨R, hR⟩ : ∃ R, R = F_X10_dams a0 p1 p2 σ := ⟨_, rfl⟩
  have E := hR
  unfold F_X10_dams at E
  have hS : zSm [6, 20, 21, 30, 31, 33, 34, 35, 36, 38] [5] L kd σ σ := zSm.rf
  refine zg_aload_n X 0 rfl dX10_dams_0 ?_
  refine zg_cVi (As := []) (st := []) X ha0 rfl (by decide) rfl (t_X10_hasMouth l d L kd κ 0 _ hI a0 ha0 ) mk_X10_277 mc_X10_hasMouth mz_X10 mi_X10_hasMouth ml_X10_hasMouth (na := 0) ⟨md_X10.1, md_X10.2, by decide +kernel⟩ rfl ⟨by decide, by decide⟩ (Nat.le_of_ble_eq_true rfl) dX10_dams_1 (fun v1 s2 hq => ?_)
  obtain ⟨hF, hS2, hI⟩ := hq
  replace E := zLet2_s hF E
  have hS := hS.tr hS2 rfl rfl
  obtain ⟨hv1, hI⟩ := hI
  refine zg_if_eq X 27 dX10_dams_4 (by decide) (fun c3 => ?_) (fun c3 => ?_)
  · skip
    replace E := zIf_t c3 E
    refine zg_iconst X (-1) dX10_dams_27 (by decide) (fun v4 _ hv4 => ?_)
    replace E := zLet_s (zcst hv4 (by decide)) E
    exact ret _ _ _ _ dX10_dams_28 rfl ⟨E.symm.trans hR, hS, hI⟩
  · skip
    replace E := zIf_f c3 E
    refine zg_iload_n X 1 rfl dX10_dams_7 ?_
    refine zg_iconst X 0 dX10_dams_8 (by decide) (fun v5 _ hv5 => ?_)
    replace E := zLet_s (zcst hv5 (by decide)) E
    refine zg_sipush X 9999 dX10_dams_9 (by decide) (fun v6 _ hv6 => ?_)
    replace E := zLet_s (zcst hv6 (by decide)) E
    refine zg_cSi (As := [.int p1, .int v5, .int v6]) (st := []) X (t_X10_isWithin l d L kd _ p1 v5 v6 ) mk_X10_229 mc_X10_isWithin mz_X10 ms_X10_isWithin (na := 3) ⟨md_X10.1, md_X10.2, by decide +kernel⟩ rfl ⟨by decide, by decide⟩ (Nat.le_of_ble_eq_true rfl) dX10_dams_12 (fun v7 σ2 hq => ?_)
    obtain ⟨⟨hF, hv7⟩, rfl⟩ := hq
    replace E := zLet_s hF E
    refine zg_if_eq X 27 dX10_dams_15 (by decide) (fun c8 => ?_) (fun c8 => ?_)
    · skip
      replace E := zIf_t c8 E
      refine zg_iconst X (-1) dX10_dams_27 (by decide) (fun v9 _ hv9 => ?_)
      replace E := zLet_s (zcst hv9 (by decide)) E
      exact ret _ _ _ _ dX10_dams_28 rfl ⟨E.symm.trans hR, hS, hI⟩
    · skip
      replace E := zIf_f c8 E
      refine zg_iload_n X 2 rfl dX10_dams_18 ?_
      refine zg_iconst X (-1) dX10_dams_19 (by decide) (fun v10 _ hv10 => ?_)
      replace E := zLet_s (zcst hv10 (by decide)) E
      refine zg_iconst X 2 dX10_dams_20 (by decide) (fun v11 _ hv11 => ?_)
      replace E := zLet_s (zcst hv11 (by decide)) E
      refine zg_cSi (As := [.int p2, .int v10, .int v11]) (st := []) X (t_X10_isWithin l d L kd _ p2 v10 v11 ) mk_X10_229 mc_X10_isWithin mz_X10 ms_X10_isWithin (na := 3) ⟨md_X10.1, md_X10.2, by decide +kernel⟩ rfl ⟨by decide, by decide⟩ (Nat.le_of_ble_eq_true rfl) dX10_dams_21 (fun v12 σ2 hq => ?_)
      obtain ⟨⟨hF, hv12⟩, rfl⟩ := hq
      replace E := zLet_s hF E
      refine zg_if_ne X 29 dX10_dams_24 (by decide) (fun c13 => ?_) (fun c13 => ?_)
      · skip
        replace E := zIf_f c13 E
        refine zg_aload_n X 0 rfl dX10_dams_29 ?_
        refine zg_cVv (As := []) (st := []) X ha0 rfl (by decide) rfl (t_X10_look l d L kd κ 0 _ hI a0 ha0 ) mk_X10_113 mc_X10_look mz_X10 mi_X10_look ml_X10_look (na := 0) ⟨md_X10.1, md_X10.2, by decide +kernel⟩ rfl ⟨by decide, by decide⟩ (Nat.le_of_ble_eq_true rfl) dX10_dams_30 (fun s14 hq => ?_)
        obtain ⟨hF, hS2, hI⟩ := hq
        replace E := zLet_s hF E
        have hS := hS.tr hS2 rfl rfl
        refine zg_aload_n X 0 rfl dX10_dams_33 ?_
        refine zg_iload_n X 1 rfl dX10_dams_34 ?_
        refine zg_cVi (As := [.int p1]) (st := []) X ha0 rfl (by decide) rfl (t_X10_fewestDams l d L kd κ _ hI a0 ha0 p1 ) mk_X10_281 mc_X10_fewestDams mz_X10 mi_X10_fewestDams ml_X10_fewestDams (na := 1) ⟨md_X10.1, md_X10.2, by decide +kernel⟩ rfl ⟨by decide, by decide⟩ (Nat.le_of_ble_eq_true rfl) dX10_dams_35 (fun v15 s16 hq => ?_)
        obtain ⟨hF, hS2, hI⟩ := hq
        replace E := zLet2_s hF E
        have hS := hS.tr hS2 rfl rfl
        refine zg_istore_n X [(3, .int v15), (0, .ref a0), (1, .int p1), (2, .int p2)] dX10_dams_38 (by decide) rfl ?_
        refine zg_iload_n X 0 rfl dX10_dams_39 ?_
        refine zg_iconst X (-1) dX10_dams_40 (by decide) (fun v17 _ hv17 => ?_)
        replace E := zLet_s (zcst hv17 (by decide)) E
        refine zg_icmp_ne X 47 dX10_dams_41 (by decide) (fun c18 => ?_) (fun c18 => ?_)
        · skip
          replace E := zIf_f c18 E
          refine zg_iload_n X 3 rfl dX10_dams_47 ?_
          refine zg_iconst X (-1) dX10_dams_48 (by decide) (fun v19 _ hv19 => ?_)
          replace E := zLet_s (zcst hv19 (by decide)) E
          refine zg_icmp_ne X 59 dX10_dams_49 (by decide) (fun c20 => ?_) (fun c20 => ?_)
          · skip
            replace E := zIf_f c20 E
            refine zg_iload_n X 0 rfl dX10_dams_59 ?_
            refine zg_iload_n X 3 rfl dX10_dams_60 ?_
            refine zg_cSi (As := [.int v15, .int p2]) (st := []) X (t_X10_bitAt l d L kd _ v15 p2 ) mk_X10_284 mc_X10_bitAt mz_X10 ms_X10_bitAt (na := 2) ⟨md_X10.1, md_X10.2, by decide +kernel⟩ rfl ⟨by decide, by decide⟩ (Nat.le_of_ble_eq_true rfl) dX10_dams_61 (fun v21 σ2 hq => ?_)
            obtain ⟨⟨hF, hv21⟩, rfl⟩ := hq
            replace E := zLet_s hF E
            exact ret _ _ _ _ dX10_dams_64 rfl ⟨E.symm.trans hR, hS, (zi_weak hI)⟩
          · skip
            replace E := zIf_t c20 E
            refine zg_iload_n X 0 rfl dX10_dams_52 ?_
            refine zg_cSi (As := [.int v15]) (st := []) X (t_J6_bitCount_0f7a4 l d L kd _ v15 ) mk_X10_198 mc_J6_bitCount_0f7a4 mz_J6 ms_J6_bitCount_0f7a4 (na := 1) ⟨md_J6.1, md_J6.2, by decide +kernel⟩ rfl ⟨by decide, by decide⟩ (Nat.le_of_ble_eq_true rfl) dX10_dams_53 (fun v22 σ2 hq => ?_)
            obtain ⟨⟨hF, hv22⟩, rfl⟩ := hq
            replace E := zLet_s hF E
            refine zg_goto X 64 dX10_dams_56 (by decide) ?_
            exact ret _ _ _ _ dX10_dams_64 rfl ⟨E.symm.trans hR, hS, (zi_weak hI)⟩
        · skip
          replace E := zIf_t c18 E
          refine zg_bipush X (-2) dX10_dams_44 (by decide) (fun v23 _ hv23 => ?_)
          replace E := zLet_s (zcst hv23 (by decide)) E
          exact ret _ _ _ _ dX10_dams_46 rfl ⟨E.symm.trans hR, hS, (zi_weak hI)⟩
      · skip
        replace E := zIf_t c13 E
        refine zg_iconst X (-1) dX10_dams_27 (by decide) (fun v24 _ hv24 => ?_)
        replace E := zLet_s (zcst hv24 (by decide)) E
        exact ret _ _ _ _ dX10_dams_28 rfl ⟨E.symm.trans hR, hS, hI⟩
set_option maxHeartbeats 4000000 in
set_option maxRecDepth 100000 in
theorem t_X10_back (l : Launch) (d : zD2) (L : List Nat) (kd : Nat → Nat) (κ : Int) (σ : zS) (hI : zI κ 0 L kd σ) (a0 : Nat) (ha0 : zT L kd a0 10) (p1 : Int32) : zMi l yX10_back (Cond.code yX10_back cX10_back 2 (some .int) :: zWL) 0 [.ref a0, .int p1] d L kd σ (fun v σ2 => (v, σ2) = F_X10_back a0 p1 σ ∧ zSm [7] [] L kd σ σ2 ∧ ((v.toInt = -1 ∧ (p1.toInt < 0 ∨ κ < p1.toInt) ∧ zI κ 0 L kd σ2) ∨ (v.toInt = κ - p1.toInt ∧ 0 ≤ p1.toInt ∧ p1.toInt ≤ κ ∧ zI (κ - p1.toInt) 0 L kd σ2))) := by
  refine zMi.of (own := RX10) (by decide +kernel) rfl rfl (Nat.le_of_ble_eq_true rfl) ?_
  intro p e s m args below meth c A Q X ret
  refine zg_lv (lv2 := [(0, .ref a0), (1, .int p1)]) rfl ?_
  obtain ⟨R, hR⟩ : ∃ R, R = F_X10_back a0 p1 σ := ⟨_, rfl⟩
  have E := hR
  unfold F_X10_back at E
  have hS : zSm [7] [] L kd σ σ := zSm.rf
  refine zg_iload_n X 1 rfl dX10_back_0 ?_
  refine zg_if_lt X 15 dX10_back_1 (by decide) (fun c1 => ?_) (fun c1 => ?_)
  · skip
    replace E := zIf_t c1 E
    refine zg_iconst X (-1) dX10_back_15 (by decide) (fun v2 _ hv2 => ?_)
    replace E := zLet_s (zcst hv2 (by decide)) E
    exact ret _ _ _ _ dX10_back_16 rfl ⟨E.symm.trans hR, hS, (Or.inl ⟨by omega, by omega, hI⟩)⟩
  · skip
    replace E := zIf_f (Int.not_lt.mpr c1) E
    refine zg_iload_n X 1 rfl dX10_back_4 ?_
    refine zg_aload_n X 0 rfl dX10_back_5 ?_
    refine fg_X10_10 X hI ha0 dX10_back_6 (fun v3 ev3 hv3 => ?_)
    replace E := zLet_s (zgr ev3) E
    refine fg_X10_84 X hI hv3 dX10_back_9 (fun v4 ev4 hv4 => ?_)
    replace E := zLet_s ev4 E
    have hkv4 := hI.2.2.1
    have zp1_z5 := zb_rng p1
    refine zg_icmp_le X 17 dX10_back_12 (by decide) (fun c6 => ?_) (fun c6 => ?_)
    · skip
      replace E := zIf_f (Int.not_lt.mpr c6) E
      refine zg_aload_n X 0 rfl dX10_back_17 ?_
      refine fg_X10_10 X hI ha0 dX10_back_18 (fun v7 ev7 hv7 => ?_)
      replace E := zLet_s (zgr ev7) E
      refine zg_dup X dX10_back_21 rfl ?_
      refine fg_X10_84 X hI hv7 dX10_back_22 (fun v8 ev8 hv8 => ?_)
      replace E := zLet_s ev8 E
      have hkv8 := hI.2.2.1
      refine zg_iload_n X 1 rfl dX10_back_25 ?_
      refine zg_isub X dX10_back_26 (by omega) (by omega) (fun v9 ev9 hv9 => ?_)
      replace E := zLet_s ev9 E
      refine fq_X10_84 X hv7 dX10_back_27 (fun s10 es10 => ?_)
      replace E := zLet_s es10 E
      have hS := hS.i hv7 es10 rfl
      have hI : zI v9.toInt 0 L kd s10 := by rw [es10]; exact zi_tape hI hv7 (by omega) (by omega)
      refine zg_aload_n X 0 rfl dX10_back_30 ?_
      refine fg_X10_10 X hI ha0 dX10_back_31 (fun v11 ev11 hv11 => ?_)
      replace E := zLet_s (zgr ev11) E
      refine fg_X10_84 X hI hv11 dX10_back_34 (fun v12 ev12 hv12 => ?_)
      replace E := zLet_s ev12 E
      have hkv12 := hI.2.2.1
      exact ret _ _ _ _ dX10_back_37 rfl ⟨E.symm.trans hR, hS, (Or.inr ⟨by omega, by omega, by omega, zi_eq (by omega) hI⟩)⟩
    · skip
      replace E := zIf_t c6 E
      refine zg_iconst X (-1) dX10_back_15 (by decide) (fun v13 _ hv13 => ?_)
      replace E := zLet_s (zcst hv13 (by decide)) E
      exact ret _ _ _ _ dX10_back_16 rfl ⟨E.symm.trans hR, hS, (Or.inl ⟨by omega, by omega, hI⟩)⟩
set_option maxHeartbeats 4000000 in
set_option maxRecDepth 100000 in
theorem t_X10_feed (l : Launch) (d : zD2) (L : List Nat) (kd : Nat → Nat) (κ : Int) (σ : zS) (hI : zI κ 0 L kd σ) (a0 : Nat) (ha0 : zT L kd a0 10) (p1 : Int32) (p2 : Int32) (p3 : Int32) (p4 : Int32) (p5 : Int32) : zMi l yX10_feed (Cond.code yX10_feed cX10_feed 6 (some .int) :: zWL) 1 [.ref a0, .int p1, .int p2, .int p3, .int p4, .int p5] d L kd σ (fun v σ2 => (v, σ2) = F_X10_feed a0 p1 p2 p3 p4 p5 σ ∧ zSm [7, 39] [] L kd σ σ2 ∧ ((v.toInt = -1 ∧ 2000 < κ + 20 ∧ zI κ 0 L kd σ2) ∨ (v.toInt = κ + 20 ∧ κ + 20 ≤ 2000 ∧ zI (κ + 20) 0 L kd σ2))) := by
  refine zMi.of (own := RX10) (by decide +kernel) rfl rfl (Nat.le_of_ble_eq_true rfl) ?_
  intro p e s m args below meth c A Q X ret
  refine zg_lv (lv2 := [(0, .ref a0), (1, .int p1), (2, .int p2), (3, .int p3), (4, .int p4), (5, .int p5)]) rfl ?_
  obtain ⟨R, hR⟩ : ∃ R, R = F_X10_feed a0 p1 p2 p3 p4 p5 σ := ⟨_, rfl⟩
  have E := hR
  unfold F_X10_feed at E
  have hS : zSm [7, 39] [] L kd σ σ := zSm.rf
  refine zg_aload_n X 0 rfl dX10_feed_0 ?_
  refine fg_X10_10 X hI ha0 dX10_feed_1 (fun v1 ev1 hv1 => ?_)
  replace E := zLet_s (zgr ev1) E
  refine fg_X10_84 X hI hv1 dX10_feed_4 (fun v2 ev2 hv2 => ?_)
  replace E := zLet_s ev2 E
  have hkv2 := hI.2.2.1
  refine zg_bipush X 20 dX10_feed_7 (by decide) (fun v3 _ hv3 => ?_)
  replace E := zLet_s (zcst hv3 (by decide)) E
  refine zg_iadd X dX10_feed_9 (by omega) (by omega) (fun v4 ev4 hv4 => ?_)
  replace E := zLet_s ev4 E
  refine zg_sipush X 2000 dX10_feed_10 (by decide) (fun v5 _ hv5 => ?_)
  replace E := zLet_s (zcst hv5 (by decide)) E
  refine zg_icmp_le X 18 dX10_feed_13 (by decide) (fun c6 => ?_) (fun c6 => ?_)
  · skip
    replace E := zIf_f (Int.not_lt.mpr c6) E
    refine zg_aload_n X 0 rfl dX10_feed_18 ?_
    refine fg_X10_10 X hI ha0 dX10_feed_19 (fun v7 ev7 hv7 => ?_)
    replace E := zLet_s (zgr ev7) E
    refine zg_iload_n X 1 rfl dX10_feed_22 ?_
    refine zg_cVv (As := [.int p1]) (st := []) X hv7 rfl (by decide) rfl (t_X7_append l d L kd κ 0 _ hI v7 hv7 p1 (by omega)) mk_X10_87 mc_X7_append mz_X7 mi_X7_append ml_X7_append (na := 1) ⟨md_X7.1, md_X7.2, by decide +kernel⟩ rfl ⟨by decide, by decide⟩ (Nat.le_of_ble_eq_true rfl) dX10_feed_23 (fun s8 hq => ?_)
    obtain ⟨hF, hS2, hI⟩ := hq
    replace E := zLet_s hF E
    have hS := hS.tr hS2 rfl rfl
    refine zg_aload_n X 0 rfl dX10_feed_26 ?_
    refine fg_X10_10 X hI ha0 dX10_feed_27 (fun v9 ev9 hv9 => ?_)
    replace E := zLet_s (zgr ev9) E
    refine zg_iload_n X 2 rfl dX10_feed_30 ?_
    refine zg_cVv (As := [.int p2]) (st := []) X hv9 rfl (by decide) rfl (t_X7_append l d L kd (κ + 4) 0 _ hI v9 hv9 p2 (by omega)) mk_X10_87 mc_X7_append mz_X7 mi_X7_append ml_X7_append (na := 1) ⟨md_X7.1, md_X7.2, by decide +kernel⟩ rfl ⟨by decide, by decide⟩ (Nat.le_of_ble_eq_true rfl) dX10_feed_31 (fun s10 hq => ?_)
    obtain ⟨hF, hS2, hI⟩ := hq
    replace E := zLet_s hF E
    have hS := hS.tr hS2 rfl rfl
    refine zg_aload_n X 0 rfl dX10_feed_34 ?_
    refine fg_X10_10 X hI ha0 dX10_feed_35 (fun v11 ev11 hv11 => ?_)
    replace E := zLet_s (zgr ev11) E
    refine zg_iload_n X 3 rfl dX10_feed_38 ?_
    refine zg_cVv (As := [.int p3]) (st := []) X hv11 rfl (by decide) rfl (t_X7_append l d L kd ((κ + 4) + 4) 0 _ hI v11 hv11 p3 (by omega)) mk_X10_87 mc_X7_append mz_X7 mi_X7_append ml_X7_append (na := 1) ⟨md_X7.1, md_X7.2, by decide +kernel⟩ rfl ⟨by decide, by decide⟩ (Nat.le_of_ble_eq_true rfl) dX10_feed_39 (fun s12 hq => ?_)
    obtain ⟨hF, hS2, hI⟩ := hq
    replace E := zLet_s hF E
    have hS := hS.tr hS2 rfl rfl
    refine zg_aload_n X 0 rfl dX10_feed_42 ?_
    refine fg_X10_10 X hI ha0 dX10_feed_43 (fun v13 ev13 hv13 => ?_)
    replace E := zLet_s (zgr ev13) E
    refine zg_iload X 4 rfl dX10_feed_46 ?_
    refine zg_cVv (As := [.int p4]) (st := []) X hv13 rfl (by decide) rfl (t_X7_append l d L kd (((κ + 4) + 4) + 4) 0 _ hI v13 hv13 p4 (by omega)) mk_X10_87 mc_X7_append mz_X7 mi_X7_append ml_X7_append (na := 1) ⟨md_X7.1, md_X7.2, by decide +kernel⟩ rfl ⟨by decide, by decide⟩ (Nat.le_of_ble_eq_true rfl) dX10_feed_48 (fun s14 hq => ?_)
    obtain ⟨hF, hS2, hI⟩ := hq
    replace E := zLet_s hF E
    have hS := hS.tr hS2 rfl rfl
    refine zg_aload_n X 0 rfl dX10_feed_51 ?_
    refine fg_X10_10 X hI ha0 dX10_feed_52 (fun v15 ev15 hv15 => ?_)
    replace E := zLet_s (zgr ev15) E
    refine zg_iload X 5 rfl dX10_feed_55 ?_
    refine zg_cVv (As := [.int p5]) (st := []) X hv15 rfl (by decide) rfl (t_X7_append l d L kd ((((κ + 4) + 4) + 4) + 4) 0 _ hI v15 hv15 p5 (by omega)) mk_X10_87 mc_X7_append mz_X7 mi_X7_append ml_X7_append (na := 1) ⟨md_X7.1, md_X7.2, by decide +kernel⟩ rfl ⟨by decide, by decide⟩ (Nat.le_of_ble_eq_true rfl) dX10_feed_57 (fun s16 hq => ?_)
    obtain ⟨hF, hS2, hI⟩ := hq
    replace E := zLet_s hF E
    have hS := hS.tr hS2 rfl rfl
    refine zg_aload_n X 0 rfl dX10_feed_60 ?_
    refine fg_X10_10 X hI ha0 dX10_feed_61 (fun v17 ev17 hv17 => ?_)
    replace E := zLet_s (zgr ev17) E
    refine fg_X10_84 X hI hv17 dX10_feed_64 (fun v18 ev18 hv18 => ?_)
    replace E := zLet_s ev18 E
    have hkv18 := hI.2.2.1
    exact ret _ _ _ _ dX10_feed_67 rfl ⟨E.symm.trans hR, hS, (Or.inr ⟨by omega, by omega, zi_eq (by omega) hI⟩)⟩
  · skip
    replace E := zIf_t c6 E
    refine zg_iconst X (-1) dX10_feed_16 (by decide) (fun v19 _ hv19 => ?_)
    replace E := zLet_s (zcst hv19 (by decide)) E
    exact ret _ _ _ _ dX10_feed_17 rfl ⟨E.symm.trans hR, hS, (Or.inl ⟨by omega, by omega, hI⟩)⟩
end
-- 14.texts
section
set_option maxHeartbeats 4000000 in
set_option maxRecDepth 100000 in
theorem t_J0_coder_7d493 (l : Launch) (d : zD2) (L : List Nat) (kd : Nat → Nat) (σ : zS) (i : Nat) (hi : i < 2) : zMi l yJ0_coder_7d493 (Cond.code yJ0_coder_7d493 cJ0_coder_7d493 1 (some .byte) :: zWL) 0 [.ref (d.2.2 (100 + i))] d L kd σ (fun v σ2 => (v = F_J0_coder_7d493 i ∧ (v.toInt = 0)) ∧ σ = σ2) := by
  refine zMi.of (own := RJ0) (by decide +kernel) rfl rfl (Nat.le_of_ble_eq_true rfl) ?_
  intro p e s m args below meth c A Q X ret
  refine zg_lv (lv2 := [(0, .ref (d.2.2 (100 + i)))]) rfl ?_
  obtain ⟨R, hR⟩ : ∃ R, R = F_J0_coder_7d493 i := ⟨_, rfl⟩
  have E := hR
  unfold F_J0_coder_7d493 at E
  refine zg_scs X zs_J0_38 dJ0_coder_7d493_0 (fun v1 hv1 => ?_)
  replace E := zLet_s (zcst hv1 (by decide)) E
  refine zg_if_eq X 13 dJ0_coder_7d493_3 (by decide) (fun c2 => ?_) (fun c2 => ?_)
  · omega
  · skip
    replace E := zIf_f c2 E
    refine zg_aload_n X 0 rfl dJ0_coder_7d493_6 ?_
    refine zg_scod X hi zs_J0_15 dJ0_coder_7d493_7 (fun v3 hv3 => ?_)
    replace E := zLet_s (zcst hv3 (by decide)) E
    refine zg_goto X 14 dJ0_coder_7d493_10 (by decide) ?_
    exact ret _ _ _ _ dJ0_coder_7d493_14 (by rw [zb_z0 (v := v3) (by omega)]; rfl) ⟨⟨E.symm.trans hR, by omega⟩, rfl⟩
set_option maxHeartbeats 4000000 in
set_option maxRecDepth 100000 in
theorem t_J0_isLatin1_aae02 (l : Launch) (d : zD2) (L : List Nat) (kd : Nat → Nat) (σ : zS) (i : Nat) (hi : i < 2) : zMi l yJ0_isLatin1_aae02 (Cond.code yJ0_isLatin1_aae02 cJ0_isLatin1_aae02 1 (some .boolean) :: zWL) 0 [.ref (d.2.2 (100 + i))] d L kd σ (fun v σ2 => (v = F_J0_isLatin1_aae02 i ∧ (v.toInt = 1)) ∧ σ = σ2) := by
  refine zMi.of (own := RJ0) (by decide +kernel) rfl rfl (Nat.le_of_ble_eq_true rfl) ?_
  intro p e s m args below meth c A Q X ret
  refine zg_lv (lv2 := [(0, .ref (d.2.2 (100 + i)))]) rfl ?_
  obtain ⟨R, hR⟩ : ∃ R, R = F_J0_isLatin1_aae02 i := ⟨_, rfl⟩
  have E := hR
  unfold F_J0_isLatin1_aae02 at E
  refine zg_scs X zs_J0_38 dJ0_isLatin1_aae02_0 (fun v1 hv1 => ?_)
  replace E := zLet_s (zcst hv1 (by decide)) E
  refine zg_if_eq X 17 dJ0_isLatin1_aae02_3 (by decide) (fun c2 => ?_) (fun c2 => ?_)
  · omega
  · skip
    replace E := zIf_f c2 E
    refine zg_aload_n X 0 rfl dJ0_isLatin1_aae02_6 ?_
    refine zg_scod X hi zs_J0_15 dJ0_isLatin1_aae02_7 (fun v3 hv3 => ?_)
    replace E := zLet_s (zcst hv3 (by decide)) E
    refine zg_if_ne X 17 dJ0_isLatin1_aae02_10 (by decide) (fun c4 => ?_) (fun c4 => ?_)
    · omega
    · skip
      replace E := zIf_t c4 E
      refine zg_iconst X 1 dJ0_isLatin1_aae02_13 (by decide) (fun v5 _ hv5 => ?_)
      replace E := zLet_s (zcst hv5 (by decide)) E
      refine zg_goto X 18 dJ0_isLatin1_aae02_14 (by decide) ?_
      exact ret _ _ _ _ dJ0_isLatin1_aae02_18 (zb_bool ⟨by omega, by omega⟩) ⟨⟨E.symm.trans hR, by omega⟩, rfl⟩
set_option maxHeartbeats 4000000 in
set_option maxRecDepth 100000 in
theorem t_J0_length_8abf5 (l : Launch) (d : zD2) (L : List Nat) (kd : Nat → Nat) (σ : zS) (i : Nat) (hi : i < 2) : zMi l yJ0_length_8abf5 (Cond.code yJ0_length_8abf5 cJ0_length_8abf5 1 (some .int) :: zWL) 1 [.ref (d.2.2 (100 + i))] d L kd σ (fun v σ2 => (v = F_J0_length_8abf5 i ∧ (v.toInt = zlen.getD i 0)) ∧ σ = σ2) := by
  refine zMi.of (own := RJ0) (by decide +kernel) rfl rfl (Nat.le_of_ble_eq_true rfl) ?_
  intro p e s m args below meth c A Q X ret
  refine zg_lv (lv2 := [(0, .ref (d.2.2 (100 + i)))]) rfl ?_
  obtain ⟨R, hR⟩ : ∃ R, R = F_J0_length_8abf5 i := ⟨_, rfl⟩
  have E := hR
  unfold F_J0_length_8abf5 at E
  refine zg_aload_n X 0 rfl dJ0_length_8abf5_0 ?_
  refine zg_sval X hi zs_J0_9 dJ0_length_8abf5_1 ?_
  refine zg_slen X hi dJ0_length_8abf5_4 (fun v1 hv1 => ?_)
  have zv1 := zlen_lt hi
  replace E := zLet_s (Int32.toInt_inj.mp (hv1.trans (nI_toInt (zlen_lt hi)).symm)) E
  refine zg_aload_n X 0 rfl dJ0_length_8abf5_5 ?_
  refine zg_cKi (As := []) (st := [.int v1]) X hi rfl (t_J0_coder_7d493 l d L kd _ i hi ) mk_J0_335 mc_J0_coder_7d493 mz_J0 mi_J0_coder_7d493 ml_J0_coder_7d493 (na := 0) ⟨md_J0.1, md_J0.2, by decide +kernel⟩ rfl ⟨by decide, by decide⟩ (Nat.le_of_ble_eq_true rfl) dJ0_length_8abf5_6 (fun v2 σ2 hq => ?_)
  obtain ⟨⟨hF, hv2⟩, rfl⟩ := hq
  replace E := zLet_s hF E
  refine zg_ishrW X dJ0_length_8abf5_9 (fun v3 ev3 => ?_)
  replace E := zLet_s ev3 E
  exact ret _ _ _ _ dJ0_length_8abf5_10 rfl ⟨⟨E.symm.trans hR, by rw [ev3, zb_z0 (v := v2) (by omega), sb_shr0]; exact hv1⟩, rfl⟩
set_option maxHeartbeats 4000000 in
set_option maxRecDepth 100000 in
theorem t_J1_canEncode_9a6ad (l : Launch) (d : zD2) (L : List Nat) (kd : Nat → Nat) (σ : zS) (p1 : Int32) : zMi l yJ1_canEncode_9a6ad (Cond.code yJ1_canEncode_9a6ad cJ1_canEncode_9a6ad 1 (some .boolean) :: zWL) 0 [.int p1] d L kd σ (fun v σ2 => (v = F_J1_canEncode_9a6ad p1 ∧ ((0 ≤ v.toInt ∧ v.toInt ≤ 1))) ∧ σ = σ2) := by
  refine zMi.of (own := RJ1) (by decide +kernel) rfl rfl (Nat.le_of_ble_eq_true rfl) ?_
  intro p e s m args below meth c A Q X ret
  refine zg_lv (lv2 := [(0, .int p1)]) rfl ?_
  obtain ⟨R, hR⟩ : ∃ R, R = F_J1_canEncode_9a6ad p1 := ⟨_, rfl⟩
  have E := hR
  unfold F_J1_canEncode_9a6ad at E
  refine zg_iload_n X 0 rfl dJ1_canEncode_9a6ad_0 ?_
  refine zg_if_lt X 15 dJ1_canEncode_9a6ad_1 (by decide) (fun c1 => ?_) (fun c1 => ?_)
  · skip
    replace E := zIf_t c1 E
    refine zg_iconst X 0 dJ1_canEncode_9a6ad_15 (by decide) (fun v2 _ hv2 => ?_)
    replace E := zLet_s (zcst hv2 (by decide)) E
    exact ret _ _ _ _ dJ1_canEncode_9a6ad_16 (zb_bool ⟨by omega, by omega⟩) ⟨⟨E.symm.trans hR, ⟨by omega, by omega⟩⟩, rfl⟩
  · skip
    replace E := zIf_f (Int.not_lt.mpr c1) E
    refine zg_iload_n X 0 rfl dJ1_canEncode_9a6ad_4 ?_
    refine zg_sipush X 255 dJ1_canEncode_9a6ad_5 (by decide) (fun v3 _ hv3 => ?_)
    replace E := zLet_s (zcst hv3 (by decide)) E
    have zp1_z4 := zb_rng p1
    refine zg_icmp_gt X 15 dJ1_canEncode_9a6ad_8 (by decide) (fun c5 => ?_) (fun c5 => ?_)
    · skip
      replace E := zIf_t c5 E
      refine zg_iconst X 0 dJ1_canEncode_9a6ad_15 (by decide) (fun v6 _ hv6 => ?_)
      replace E := zLet_s (zcst hv6 (by decide)) E
      exact ret _ _ _ _ dJ1_canEncode_9a6ad_16 (zb_bool ⟨by omega, by omega⟩) ⟨⟨E.symm.trans hR, ⟨by omega, by omega⟩⟩, rfl⟩
    · skip
      replace E := zIf_f (Int.not_lt.mpr c5) E
      refine zg_iconst X 1 dJ1_canEncode_9a6ad_11 (by decide) (fun v7 _ hv7 => ?_)
      replace E := zLet_s (zcst hv7 (by decide)) E
      refine zg_goto X 16 dJ1_canEncode_9a6ad_12 (by decide) ?_
      exact ret _ _ _ _ dJ1_canEncode_9a6ad_16 (zb_bool ⟨by omega, by omega⟩) ⟨⟨E.symm.trans hR, ⟨by omega, by omega⟩⟩, rfl⟩
set_option maxHeartbeats 4000000 in
set_option maxRecDepth 100000 in
theorem t_J1_indexOfChar_4cfef (l : Launch) (d : zD2) (L : List Nat) (kd : Nat → Nat) (σ : zS) (i : Nat) (hi : i < 2) (p2 : Int32) (p3 : Int32) (p4 : Int32) (hq0 : 0 ≤ p3.toInt) (hq1 : p4.toInt ≤ zlen.getD i 0) : zMi l yJ1_indexOfChar_4cfef (Cond.code yJ1_indexOfChar_4cfef cJ1_indexOfChar_4cfef 6 (some .int) :: zWL) 0 [.ref (d.2.2 (102 + i)), .int p2, .int p3, .int p4] d L kd σ (fun v σ2 => (v = F_J1_indexOfChar_4cfef i p2 p3 p4 ∧ (True)) ∧ σ = σ2) := by
  refine zMi.of (own := RJ1) (by decide +kernel) rfl rfl (Nat.le_of_ble_eq_true rfl) ?_
  intro p e s m args below meth c A Q X ret
  refine zg_lv (lv2 := [(0, .ref (d.2.2 (102 + i))), (1, .int p2), (2, .int p3), (3, .int p4)]) rfl ?_
  have zl := zlen_lt hi
  obtain ⟨R, hR⟩ : ∃ R, R = F_J1_indexOfChar_4cfef i p2 p3 p4 := ⟨_, rfl⟩
  have E := hR
  unfold F_J1_indexOfChar_4cfef at E
  refine zg_iload_n X 1 rfl dJ1_indexOfChar_4cfef_0 ?_
  refine zg_i2b X dJ1_indexOfChar_4cfef_1 (fun v1 ev1 => ?_)
  replace E := zLet_s ev1 E
  refine zg_istore X [(4, .int v1), (0, .ref (d.2.2 (102 + i))), (1, .int p2), (2, .int p3), (3, .int p4)] dJ1_indexOfChar_4cfef_2 (by decide) rfl ?_
  refine zg_iload_n X 3 rfl dJ1_indexOfChar_4cfef_4 ?_
  refine zg_istore X [(5, .int p3), (4, .int v1), (0, .ref (d.2.2 (102 + i))), (1, .int p2), (2, .int p3), (3, .int p4)] dJ1_indexOfChar_4cfef_5 (by decide) rfl ?_
  have Lp3 : ∀ (nLp3 : Nat) (x2 : Int32), R = F_J1_indexOfChar_4cfef_7 v1 i p2 p3 p4  nLp3 x2 → 0 ≤ x2.toInt ∧ x2.toInt ≤ 2147483647 → (2147483647) - x2.toInt + 1 < (nLp3 : Int) → zG d L kd A 6 p l e (k2_rm 0 (100 * 0)) s m args below meth c Q σ 7 [(5, .int x2), (4, .int v1), (0, .ref (d.2.2 (102 + i))), (1, .int p2), (2, .int p3), (3, .int p4)] [] := by
    intro nLp3
    induction nLp3 with
    | zero => intro x2  E  hxLp3 hm ; exact absurd hm (by omega)
    | succ nLp3 ihLp3 =>
      intro x2  E  hxLp3 hmLp3 
      rw [F_J1_indexOfChar_4cfef_7] at E
      refine zg_iload X 0 rfl dJ1_indexOfChar_4cfef_7 ?_
      refine zg_iload_n X 5 rfl dJ1_indexOfChar_4cfef_9 ?_
      have zx2_z4 := zb_rng x2
      have zp4_z5 := zb_rng p4
      refine zg_icmp_ge X 31 dJ1_indexOfChar_4cfef_10 (by decide) (fun c6 => ?_) (fun c6 => ?_)
      · skip
        replace E := zIf_f (Int.not_lt.mpr c6) E
        refine zg_iconst X (-1) dJ1_indexOfChar_4cfef_31 (by decide) (fun v7 _ hv7 => ?_)
        replace E := zLet_s (zcst hv7 (by decide)) E
        exact ret _ _ _ _ dJ1_indexOfChar_4cfef_32 rfl ⟨⟨E.symm.trans hR, trivial⟩, rfl⟩
      · skip
        replace E := zIf_t c6 E
        refine zg_aload_n X 2 rfl dJ1_indexOfChar_4cfef_13 ?_
        refine zg_iload X 0 rfl dJ1_indexOfChar_4cfef_14 ?_
        refine zg_sby X hi (by omega) (by omega) dJ1_indexOfChar_4cfef_16 (fun v8 ev8 => ?_)
        replace E := zLet_s ev8 E
        refine zg_iload X 1 rfl dJ1_indexOfChar_4cfef_17 ?_
        refine zg_icmp_ne X 25 dJ1_indexOfChar_4cfef_19 (by decide) (fun c9 => ?_) (fun c9 => ?_)
        · skip
          replace E := zIf_f c9 E
          refine zg_iinc X 1 (fun v10 => [(5, .int v10), (4, .int v1), (0, .ref (d.2.2 (102 + i))), (1, .int p2), (2, .int p3), (3, .int p4)]) 0 dJ1_indexOfChar_4cfef_25 rfl (by decide) (by decide) (by omega) (by omega) (fun _ => rfl) (fun v10 ev10 hv10 => ?_)
          replace E := zLet_s (zinc ev10 (by decide)) E
          refine zg_goto X 7 dJ1_indexOfChar_4cfef_28 (by decide) ?_
          refine zg_sub [0, 1, 2, 3, 4, 5] rfl ?_
          exact ihLp3 v10   E  (by omega) (by omega) 
        · skip
          replace E := zIf_t c9 E
          refine zg_iload X 0 rfl dJ1_indexOfChar_4cfef_22 ?_
          exact ret _ _ _ _ dJ1_indexOfChar_4cfef_24 rfl ⟨⟨E.symm.trans hR, trivial⟩, rfl⟩
  have zrLp3 := zb_rng p3
  refine zg_sub [0, 1, 2, 3, 4, 5] rfl ?_
  exact Lp3 4294967299 p3   E  (by omega) (by omega) 
set_option maxHeartbeats 4000000 in
set_option maxRecDepth 100000 in
theorem t_J1_indexOf_4cfef (l : Launch) (d : zD2) (L : List Nat) (kd : Nat → Nat) (σ : zS) (i : Nat) (hi : i < 2) (p2 : Int32) (p3 : Int32) (p4 : Int32) : zMi l yJ1_indexOf_4cfef (Cond.code yJ1_indexOf_4cfef cJ1_indexOf_4cfef 4 (some .int) :: zWL) 1 [.ref (d.2.2 (102 + i)), .int p2, .int p3, .int p4] d L kd σ (fun v σ2 => (v = F_J1_indexOf_4cfef i p2 p3 p4 ∧ (True)) ∧ σ = σ2) := by
  refine zMi.of (own := RJ1) (by decide +kernel) rfl rfl (Nat.le_of_ble_eq_true rfl) ?_
  intro p e s m args below meth c A Q X ret
  refine zg_lv (lv2 := [(0, .ref (d.2.2 (102 + i))), (1, .int p2), (2, .int p3), (3, .int p4)]) rfl ?_
  obtain ⟨R, hR⟩ : ∃ R, R = F_J1_indexOf_4cfef i p2 p3 p4 := ⟨_, rfl⟩
  have E := hR
  unfold F_J1_indexOf_4cfef at E
  refine zg_iload_n X 1 rfl dJ1_indexOf_4cfef_0 ?_
  refine zg_cSi (As := [.int p2]) (st := []) X (t_J1_canEncode_9a6ad l d L kd _ p2 ) mk_J1_88 mc_J1_canEncode_9a6ad mz_J1 ms_J1_canEncode_9a6ad (na := 1) ⟨md_J1.1, md_J1.2, by decide +kernel⟩ rfl ⟨by decide, by decide⟩ (Nat.le_of_ble_eq_true rfl) dJ1_indexOf_4cfef_1 (fun v1 σ2 hq => ?_)
  obtain ⟨⟨hF, hv1⟩, rfl⟩ := hq
  replace E := zLet_s hF E
  refine zg_if_ne X 9 dJ1_indexOf_4cfef_4 (by decide) (fun c2 => ?_) (fun c2 => ?_)
  · skip
    replace E := zIf_f c2 E
    refine zg_iload_n X 2 rfl dJ1_indexOf_4cfef_9 ?_
    refine zg_iconst X 0 dJ1_indexOf_4cfef_10 (by decide) (fun v3 _ hv3 => ?_)
    replace E := zLet_s (zcst hv3 (by decide)) E
    refine zg_max X wj_J1_92 ⟨by decide, Nat.le_of_ble_eq_true rfl⟩ dJ1_indexOf_4cfef_11 (fun v4 hv4 => ?_)
    replace E := zLet_s (zmax_e hv4) E
    refine zg_istore_n X [(2, .int v4), (0, .ref (d.2.2 (102 + i))), (1, .int p2), (3, .int p4)] dJ1_indexOf_4cfef_14 (by decide) rfl ?_
    refine zg_iload_n X 3 rfl dJ1_indexOf_4cfef_15 ?_
    refine zg_aload_n X 1 rfl dJ1_indexOf_4cfef_16 ?_
    refine zg_slen X hi dJ1_indexOf_4cfef_17 (fun v5 hv5 => ?_)
    have zv5 := zlen_lt hi
    replace E := zLet_s (Int32.toInt_inj.mp (hv5.trans (nI_toInt (zlen_lt hi)).symm)) E
    refine zg_min X wj_J1_38 ⟨by decide, Nat.le_of_ble_eq_true rfl⟩ dJ1_indexOf_4cfef_18 (fun v6 hv6 => ?_)
    replace E := zLet_s (zmin_e hv6) E
    refine zg_istore_n X [(3, .int v6), (2, .int v4), (0, .ref (d.2.2 (102 + i))), (1, .int p2)] dJ1_indexOf_4cfef_21 (by decide) rfl ?_
    refine zg_iload_n X 1 rfl dJ1_indexOf_4cfef_22 ?_
    refine zg_iload_n X 0 rfl dJ1_indexOf_4cfef_23 ?_
    have zv4_z7 := zb_rng v4
    have zv6_z8 := zb_rng v6
    refine zg_icmp_lt X 29 dJ1_indexOf_4cfef_24 (by decide) (fun c9 => ?_) (fun c9 => ?_)
    · skip
      replace E := zIf_t c9 E
      refine zg_aload_n X 2 rfl dJ1_indexOf_4cfef_29 ?_
      refine zg_iload_n X 3 rfl dJ1_indexOf_4cfef_30 ?_
      refine zg_iload_n X 1 rfl dJ1_indexOf_4cfef_31 ?_
      refine zg_iload_n X 0 rfl dJ1_indexOf_4cfef_32 ?_
      refine zg_cSi (As := [.ref (d.2.2 (102 + i)), .int p2, .int v4, .int v6]) (st := []) X (t_J1_indexOfChar_4cfef l d L kd _ i hi p2 v4 v6 (by omega) (by omega)) mk_J1_95 mc_J1_indexOfChar_4cfef mz_J1 ms_J1_indexOfChar_4cfef (na := 4) ⟨md_J1.1, md_J1.2, by decide +kernel⟩ rfl ⟨by decide, by decide⟩ (Nat.le_of_ble_eq_true rfl) dJ1_indexOf_4cfef_33 (fun v10 σ2 hq => ?_)
      obtain ⟨⟨hF, hv10⟩, rfl⟩ := hq
      replace E := zLet_s hF E
      exact ret _ _ _ _ dJ1_indexOf_4cfef_36 rfl ⟨⟨E.symm.trans hR, trivial⟩, rfl⟩
    · skip
      replace E := zIf_f (Int.not_lt.mpr c9) E
      refine zg_iconst X (-1) dJ1_indexOf_4cfef_27 (by decide) (fun v11 _ hv11 => ?_)
      replace E := zLet_s (zcst hv11 (by decide)) E
      exact ret _ _ _ _ dJ1_indexOf_4cfef_28 rfl ⟨⟨E.symm.trans hR, trivial⟩, rfl⟩
  · skip
    replace E := zIf_t c2 E
    refine zg_iconst X (-1) dJ1_indexOf_4cfef_7 (by decide) (fun v12 _ hv12 => ?_)
    replace E := zLet_s (zcst hv12 (by decide)) E
    exact ret _ _ _ _ dJ1_indexOf_4cfef_8 rfl ⟨⟨E.symm.trans hR, trivial⟩, rfl⟩
set_option maxHeartbeats 4000000 in
set_option maxRecDepth 100000 in
theorem t_J0_indexOf_7cf53 (l : Launch) (d : zD2) (L : List Nat) (kd : Nat → Nat) (σ : zS) (i : Nat) (hi : i < 2) (p1 : Int32) (p2 : Int32) : zMi l yJ0_indexOf_7cf53 (Cond.code yJ0_indexOf_7cf53 cJ0_indexOf_7cf53 3 (some .int) :: zWL) 2 [.ref (d.2.2 (100 + i)), .int p1, .int p2] d L kd σ (fun v σ2 => (v = F_J0_indexOf_7cf53 i p1 p2 ∧ (True)) ∧ σ = σ2) := by
  refine zMi.of (own := RJ0) (by decide +kernel) rfl rfl (Nat.le_of_ble_eq_true rfl) ?_
  intro p e s m args below meth c A Q X ret
  refine zg_lv (lv2 := [(0, .ref (d.2.2 (100 + i))), (1, .int p1), (2, .int p2)]) rfl ?_
  obtain ⟨R, hR⟩ : ∃ R, R = F_J0_indexOf_7cf53 i p1 p2 := ⟨_, rfl⟩
  have E := hR
  unfold F_J0_indexOf_7cf53 at E
  refine zg_aload_n X 0 rfl dJ0_indexOf_7cf53_0 ?_
  refine zg_cKi (As := []) (st := []) X hi rfl (t_J0_isLatin1_aae02 l d L kd _ i hi ) mk_J0_492 mc_J0_isLatin1_aae02 mz_J0 mi_J0_isLatin1_aae02 ml_J0_isLatin1_aae02 (na := 0) ⟨md_J0.1, md_J0.2, by decide +kernel⟩ rfl ⟨by decide, by decide⟩ (Nat.le_of_ble_eq_true rfl) dJ0_indexOf_7cf53_1 (fun v1 σ2 hq => ?_)
  obtain ⟨⟨hF, hv1⟩, rfl⟩ := hq
  replace E := zLet_s hF E
  refine zg_if_eq X 23 dJ0_indexOf_7cf53_4 (by decide) (fun c2 => ?_) (fun c2 => ?_)
  · omega
  · skip
    replace E := zIf_f c2 E
    refine zg_aload_n X 0 rfl dJ0_indexOf_7cf53_7 ?_
    refine zg_sval X hi zs_J0_9 dJ0_indexOf_7cf53_8 ?_
    refine zg_iload_n X 1 rfl dJ0_indexOf_7cf53_11 ?_
    refine zg_iload_n X 2 rfl dJ0_indexOf_7cf53_12 ?_
    refine zg_aload_n X 0 rfl dJ0_indexOf_7cf53_13 ?_
    refine zg_cKi (As := []) (st := [.int p2, .int p1, .ref (d.2.2 (102 + i))]) X hi rfl (t_J0_length_8abf5 l d L kd _ i hi ) mk_J0_505 mc_J0_length_8abf5 mz_J0 mi_J0_length_8abf5 ml_J0_length_8abf5 (na := 0) ⟨md_J0.1, md_J0.2, by decide +kernel⟩ rfl ⟨by decide, by decide⟩ (Nat.le_of_ble_eq_true rfl) dJ0_indexOf_7cf53_14 (fun v3 σ2 hq => ?_)
    obtain ⟨⟨hF, hv3⟩, rfl⟩ := hq
    replace E := zLet_s hF E
    refine zg_cSi (As := [.ref (d.2.2 (102 + i)), .int p1, .int p2, .int v3]) (st := []) X (t_J1_indexOf_4cfef l d L kd _ i hi p1 p2 v3 ) mk_J0_637 mc_J1_indexOf_4cfef mz_J1 ms_J1_indexOf_4cfef (na := 4) ⟨md_J1.1, md_J1.2, by decide +kernel⟩ rfl ⟨by decide, by decide⟩ (Nat.le_of_ble_eq_true rfl) dJ0_indexOf_7cf53_17 (fun v4 σ2 hq => ?_)
    obtain ⟨⟨hF, hv4⟩, rfl⟩ := hq
    replace E := zLet_s hF E
    refine zg_goto X 36 dJ0_indexOf_7cf53_20 (by decide) ?_
    exact ret _ _ _ _ dJ0_indexOf_7cf53_36 rfl ⟨⟨E.symm.trans hR, trivial⟩, rfl⟩
set_option maxHeartbeats 4000000 in
set_option maxRecDepth 100000 in
theorem t_J0_indexOf_0f7a4 (l : Launch) (d : zD2) (L : List Nat) (kd : Nat → Nat) (σ : zS) (i : Nat) (hi : i < 2) (p1 : Int32) : zMi l yJ0_indexOf_0f7a4 (Cond.code yJ0_indexOf_0f7a4 cJ0_indexOf_0f7a4 2 (some .int) :: zWL) 3 [.ref (d.2.2 (100 + i)), .int p1] d L kd σ (fun v σ2 => (v = F_J0_indexOf_0f7a4 i p1 ∧ (True)) ∧ σ = σ2) := by
  refine zMi.of (own := RJ0) (by decide +kernel) rfl rfl (Nat.le_of_ble_eq_true rfl) ?_
  intro p e s m args below meth c A Q X ret
  refine zg_lv (lv2 := [(0, .ref (d.2.2 (100 + i))), (1, .int p1)]) rfl ?_
  obtain ⟨R, hR⟩ : ∃ R, R = F_J0_indexOf_0f7a4 i p1 := ⟨_, rfl⟩
  have E := hR
  unfold F_J0_indexOf_0f7a4 at E
  refine zg_aload_n X 0 rfl dJ0_indexOf_0f7a4_0 ?_
  refine zg_iload_n X 1 rfl dJ0_indexOf_0f7a4_1 ?_
  refine zg_iconst X 0 dJ0_indexOf_0f7a4_2 (by decide) (fun v1 _ hv1 => ?_)
  replace E := zLet_s (zcst hv1 (by decide)) E
  refine zg_cKi (As := [.int p1, .int v1]) (st := []) X hi rfl (t_J0_indexOf_7cf53 l d L kd _ i hi p1 v1 ) mk_J0_633 mc_J0_indexOf_7cf53 mz_J0 mi_J0_indexOf_7cf53 ml_J0_indexOf_7cf53 (na := 2) ⟨md_J0.1, md_J0.2, by decide +kernel⟩ rfl ⟨by decide, by decide⟩ (Nat.le_of_ble_eq_true rfl) dJ0_indexOf_0f7a4_3 (fun v2 σ2 hq => ?_)
  obtain ⟨⟨hF, hv2⟩, rfl⟩ := hq
  replace E := zLet_s hF E
  exact ret _ _ _ _ dJ0_indexOf_0f7a4_6 rfl ⟨⟨E.symm.trans hR, trivial⟩, rfl⟩
set_option maxHeartbeats 4000000 in
set_option maxRecDepth 100000 in
theorem t_J3_checkIndex_8e157 (l : Launch) (d : zD2) (L : List Nat) (kd : Nat → Nat) (σ : zS) (p1 : Int32) (p2 : Int32) (p3 : Value) (hp3 : p3.category = 1) (hq0 : 0 ≤ p1.toInt) (hq1 : p1.toInt < p2.toInt) : zMi l yJ3_checkIndex_8e157 (Cond.code yJ3_checkIndex_8e157 cJ3_checkIndex_8e157 3 (some .int) :: zWL) 0 [.int p1, .int p2, p3] d L kd σ (fun v σ2 => (v = F_J3_checkIndex_8e157 p1 p2 ∧ (True)) ∧ σ = σ2) := by
  refine zMi.of (own := RJ3) (by decide +kernel) rfl rfl (by have e1 : ∀ q : Int32, (Value.int q).category = 1 := fun _ => rfl; simp [lg_sl, hp3, e1]) ?_
  intro p e s m args below meth c A Q X ret
  refine zg_lv (lv2 := [(0, .int p1), (1, .int p2), (2, p3)]) rfl ?_
  obtain ⟨R, hR⟩ : ∃ R, R = F_J3_checkIndex_8e157 p1 p2 := ⟨_, rfl⟩
  have E := hR
  unfold F_J3_checkIndex_8e157 at E
  refine zg_iload_n X 0 rfl dJ3_checkIndex_8e157_0 ?_
  refine zg_if_lt X 9 dJ3_checkIndex_8e157_1 (by decide) (fun c1 => ?_) (fun c1 => ?_)
  · omega
  · skip
    replace E := zIf_f (Int.not_lt.mpr c1) E
    refine zg_iload_n X 0 rfl dJ3_checkIndex_8e157_4 ?_
    refine zg_iload_n X 1 rfl dJ3_checkIndex_8e157_5 ?_
    have zp1_z2 := zb_rng p1
    have zp2_z3 := zb_rng p2
    refine zg_icmp_lt X 16 dJ3_checkIndex_8e157_6 (by decide) (fun c4 => ?_) (fun c4 => ?_)
    · skip
      replace E := zIf_t c4 E
      refine zg_iload_n X 0 rfl dJ3_checkIndex_8e157_16 ?_
      exact ret _ _ _ _ dJ3_checkIndex_8e157_17 rfl ⟨⟨E.symm.trans hR, trivial⟩, rfl⟩
    · omega
set_option maxHeartbeats 4000000 in
set_option maxRecDepth 100000 in
theorem t_J0_checkIndex_df160 (l : Launch) (d : zD2) (L : List Nat) (kd : Nat → Nat) (σ : zS) (p1 : Int32) (p2 : Int32) (hq0 : 0 ≤ p1.toInt) (hq1 : p1.toInt < p2.toInt) : zMv l yJ0_checkIndex_df160 (Cond.code yJ0_checkIndex_df160 cJ0_checkIndex_df160 2 none :: zWL) 1 [.int p1, .int p2] d L kd σ (fun σ2 => σ = σ2) := by
  refine zMv.of (own := RJ0) (by decide +kernel) rfl rfl (Nat.le_of_ble_eq_true rfl) ?_
  intro p e s m args below meth c A Q X ret
  refine zg_lv (lv2 := [(0, .int p1), (1, .int p2)]) rfl ?_
  refine zg_iload_n X 0 rfl dJ0_checkIndex_df160_0 ?_
  refine zg_iload_n X 1 rfl dJ0_checkIndex_df160_1 ?_
  refine zg_sio X zs_J0_1053 dJ0_checkIndex_df160_2 (fun o1 => ?_)
  refine zg_cSi (As := [.int p1, .int p2, va_rf o1]) (st := []) X (t_J3_checkIndex_8e157 l d L kd _ p1 p2 (va_rf o1) (by cases o1 <;> rfl) (by omega) (by omega)) mk_J0_1059 mc_J3_checkIndex_8e157 mz_J3 ms_J3_checkIndex_8e157 (na := 3) ⟨md_J3.1, md_J3.2, by decide +kernel⟩ rfl ⟨by decide, by decide⟩ (Nat.le_of_ble_eq_true rfl) dJ0_checkIndex_df160_5 (fun v2 σ2 hq => ?_)
  obtain ⟨⟨hF, hv2⟩, rfl⟩ := hq
  refine zg_pop X dJ0_checkIndex_df160_8 rfl ?_
  exact ret _ _ _ dJ0_checkIndex_df160_9 rfl
set_option maxHeartbeats 4000000 in
set_option maxRecDepth 100000 in
theorem t_J1_charAt_3b067 (l : Launch) (d : zD2) (L : List Nat) (kd : Nat → Nat) (σ : zS) (i : Nat) (hi : i < 2) (p2 : Int32) (hq0 : 0 ≤ p2.toInt) (hq1 : p2.toInt < zlen.getD i 0) : zMi l yJ1_charAt_3b067 (Cond.code yJ1_charAt_3b067 cJ1_charAt_3b067 2 (some .char) :: zWL) 2 [.ref (d.2.2 (102 + i)), .int p2] d L kd σ (fun v σ2 => (v = F_J1_charAt_3b067 i p2 ∧ (narrow .char (.int v) = .int v)) ∧ σ = σ2) := by
  refine zMi.of (own := RJ1) (by decide +kernel) rfl rfl (Nat.le_of_ble_eq_true rfl) ?_
  intro p e s m args below meth c A Q X ret
  refine zg_lv (lv2 := [(0, .ref (d.2.2 (102 + i))), (1, .int p2)]) rfl ?_
  have zl := zlen_lt hi
  obtain ⟨R, hR⟩ : ∃ R, R = F_J1_charAt_3b067 i p2 := ⟨_, rfl⟩
  have E := hR
  unfold F_J1_charAt_3b067 at E
  refine zg_iload_n X 1 rfl dJ1_charAt_3b067_0 ?_
  refine zg_aload_n X 0 rfl dJ1_charAt_3b067_1 ?_
  refine zg_slen X hi dJ1_charAt_3b067_2 (fun v1 hv1 => ?_)
  have zv1 := zlen_lt hi
  replace E := zLet_s (Int32.toInt_inj.mp (hv1.trans (nI_toInt (zlen_lt hi)).symm)) E
  refine zg_cSv (As := [.int p2, .int v1]) (st := []) X (t_J0_checkIndex_df160 l d L kd _ p2 v1 (by omega) (by omega)) mk_J1_9 mc_J0_checkIndex_df160 mz_J0 ms_J0_checkIndex_df160 (na := 2) ⟨md_J0.1, md_J0.2, by decide +kernel⟩ rfl ⟨by decide, by decide⟩ (Nat.le_of_ble_eq_true rfl) dJ1_charAt_3b067_3 (fun σ2 hq => ?_)
  subst hq
  refine zg_aload_n X 0 rfl dJ1_charAt_3b067_6 ?_
  refine zg_iload_n X 1 rfl dJ1_charAt_3b067_7 ?_
  refine zg_sby X hi (by omega) (by omega) dJ1_charAt_3b067_8 (fun v2 ev2 => ?_)
  replace E := zLet_s ev2 E
  refine zg_sipush X 255 dJ1_charAt_3b067_9 (by decide) (fun v3 _ hv3 => ?_)
  replace E := zLet_s (zcst hv3 (by decide)) E
  refine zg_iandW X dJ1_charAt_3b067_12 (fun v4 ev4 => ?_)
  replace E := zLet_s ev4 E
  refine zg_i2c X dJ1_charAt_3b067_13 (fun v5 ev5 => ?_)
  replace E := zLet_s ev5 E
  exact ret _ _ _ _ dJ1_charAt_3b067_14 (by rw [ev5]; exact pk_nc _) ⟨⟨E.symm.trans hR, by rw [ev5]; exact pk_nc _⟩, rfl⟩
set_option maxHeartbeats 4000000 in
set_option maxRecDepth 100000 in
theorem t_J0_charAt_5068e (l : Launch) (d : zD2) (L : List Nat) (kd : Nat → Nat) (σ : zS) (i : Nat) (hi : i < 2) (p1 : Int32) (hq0 : 0 ≤ p1.toInt) (hq1 : p1.toInt < zlen.getD i 0) : zMi l yJ0_charAt_5068e (Cond.code yJ0_charAt_5068e cJ0_charAt_5068e 2 (some .char) :: zWL) 3 [.ref (d.2.2 (100 + i)), .int p1] d L kd σ (fun v σ2 => (v = F_J0_charAt_5068e i p1 ∧ (narrow .char (.int v) = .int v)) ∧ σ = σ2) := by
  refine zMi.of (own := RJ0) (by decide +kernel) rfl rfl (Nat.le_of_ble_eq_true rfl) ?_
  intro p e s m args below meth c A Q X ret
  refine zg_lv (lv2 := [(0, .ref (d.2.2 (100 + i))), (1, .int p1)]) rfl ?_
  obtain ⟨R, hR⟩ : ∃ R, R = F_J0_charAt_5068e i p1 := ⟨_, rfl⟩
  have E := hR
  unfold F_J0_charAt_5068e at E
  refine zg_aload_n X 0 rfl dJ0_charAt_5068e_0 ?_
  refine zg_cKi (As := []) (st := []) X hi rfl (t_J0_isLatin1_aae02 l d L kd _ i hi ) mk_J0_492 mc_J0_isLatin1_aae02 mz_J0 mi_J0_isLatin1_aae02 ml_J0_isLatin1_aae02 (na := 0) ⟨md_J0.1, md_J0.2, by decide +kernel⟩ rfl ⟨by decide, by decide⟩ (Nat.le_of_ble_eq_true rfl) dJ0_charAt_5068e_1 (fun v1 σ2 hq => ?_)
  obtain ⟨⟨hF, hv1⟩, rfl⟩ := hq
  replace E := zLet_s hF E
  refine zg_if_eq X 16 dJ0_charAt_5068e_4 (by decide) (fun c2 => ?_) (fun c2 => ?_)
  · omega
  · skip
    replace E := zIf_f c2 E
    refine zg_aload_n X 0 rfl dJ0_charAt_5068e_7 ?_
    refine zg_sval X hi zs_J0_9 dJ0_charAt_5068e_8 ?_
    refine zg_iload_n X 1 rfl dJ0_charAt_5068e_11 ?_
    refine zg_cSi (As := [.ref (d.2.2 (102 + i)), .int p1]) (st := []) X (t_J1_charAt_3b067 l d L kd _ i hi p1 (by omega) (by omega)) mk_J0_495 mc_J1_charAt_3b067 mz_J1 ms_J1_charAt_3b067 (na := 2) ⟨md_J1.1, md_J1.2, by decide +kernel⟩ rfl ⟨by decide, by decide⟩ (Nat.le_of_ble_eq_true rfl) dJ0_charAt_5068e_12 (fun v3 σ2 hq => ?_)
    obtain ⟨⟨hF, hv3⟩, rfl⟩ := hq
    replace E := zLet_s hF E
    exact ret _ _ _ _ dJ0_charAt_5068e_15 hv3 ⟨⟨E.symm.trans hR, hv3⟩, rfl⟩
end
-- 15.reading
section
set_option maxHeartbeats 4000000 in
set_option maxRecDepth 100000 in
theorem t_X8_isLetter (l : Launch) (d : zD2) (L : List Nat) (kd : Nat → Nat) (σ : zS) (p1 : Int32) : zMi l yX8_isLetter (Cond.code yX8_isLetter cX8_isLetter 1 (some .boolean) :: zWL) 0 [.int p1] d L kd σ (fun v σ2 => (v = F_X8_isLetter p1 ∧ ((0 ≤ v.toInt ∧ v.toInt ≤ 1))) ∧ σ = σ2) := by
  refine zMi.of (own := RX8) (by decide +kernel) rfl rfl (Nat.le_of_ble_eq_true rfl) ?_
  intro p e s m args below meth c A Q X ret
  refine zg_lv (lv2 := [(0, .int p1)]) rfl ?_
  obtain ⟨R, hR⟩ : ∃ R, R = F_X8_isLetter p1 := ⟨_, rfl⟩
  have E := hR
  unfold F_X8_isLetter at E
  refine zg_iload_n X 0 rfl dX8_isLetter_0 ?_
  refine zg_bipush X 97 dX8_isLetter_1 (by decide) (fun v1 _ hv1 => ?_)
  replace E := zLet_s (zcst hv1 (by decide)) E
  have zp1_z2 := zb_rng p1
  refine zg_icmp_lt X 16 dX8_isLetter_3 (by decide) (fun c3 => ?_) (fun c3 => ?_)
  · skip
    replace E := zIf_t c3 E
    refine zg_iconst X 0 dX8_isLetter_16 (by decide) (fun v4 _ hv4 => ?_)
    replace E := zLet_s (zcst hv4 (by decide)) E
    exact ret _ _ _ _ dX8_isLetter_17 (zb_bool ⟨by omega, by omega⟩) ⟨⟨E.symm.trans hR, ⟨by omega, by omega⟩⟩, rfl⟩
  · skip
    replace E := zIf_f (Int.not_lt.mpr c3) E
    refine zg_iload_n X 0 rfl dX8_isLetter_6 ?_
    refine zg_bipush X 122 dX8_isLetter_7 (by decide) (fun v5 _ hv5 => ?_)
    replace E := zLet_s (zcst hv5 (by decide)) E
    have zp1_z6 := zb_rng p1
    refine zg_icmp_gt X 16 dX8_isLetter_9 (by decide) (fun c7 => ?_) (fun c7 => ?_)
    · skip
      replace E := zIf_t c7 E
      refine zg_iconst X 0 dX8_isLetter_16 (by decide) (fun v8 _ hv8 => ?_)
      replace E := zLet_s (zcst hv8 (by decide)) E
      exact ret _ _ _ _ dX8_isLetter_17 (zb_bool ⟨by omega, by omega⟩) ⟨⟨E.symm.trans hR, ⟨by omega, by omega⟩⟩, rfl⟩
    · skip
      replace E := zIf_f (Int.not_lt.mpr c7) E
      refine zg_iconst X 1 dX8_isLetter_12 (by decide) (fun v9 _ hv9 => ?_)
      replace E := zLet_s (zcst hv9 (by decide)) E
      refine zg_goto X 17 dX8_isLetter_13 (by decide) ?_
      exact ret _ _ _ _ dX8_isLetter_17 (zb_bool ⟨by omega, by omega⟩) ⟨⟨E.symm.trans hR, ⟨by omega, by omega⟩⟩, rfl⟩
set_option maxHeartbeats 4000000 in
set_option maxRecDepth 100000 in
theorem t_X8_isDigit (l : Launch) (d : zD2) (L : List Nat) (kd : Nat → Nat) (σ : zS) (p1 : Int32) : zMi l yX8_isDigit (Cond.code yX8_isDigit cX8_isDigit 1 (some .boolean) :: zWL) 0 [.int p1] d L kd σ (fun v σ2 => (v = F_X8_isDigit p1 ∧ ((0 ≤ v.toInt ∧ v.toInt ≤ 1))) ∧ σ = σ2) := by
  refine zMi.of (own := RX8) (by decide +kernel) rfl rfl (Nat.le_of_ble_eq_true rfl) ?_
  intro p e s m args below meth c A Q X ret
  refine zg_lv (lv2 := [(0, .int p1)]) rfl ?_
  obtain ⟨R, hR⟩ : ∃ R, R = F_X8_isDigit p1 := ⟨_, rfl⟩
  have E := hR
  unfold F_X8_isDigit at E
  refine zg_iload_n X 0 rfl dX8_isDigit_0 ?_
  refine zg_bipush X 48 dX8_isDigit_1 (by decide) (fun v1 _ hv1 => ?_)
  replace E := zLet_s (zcst hv1 (by decide)) E
  have zp1_z2 := zb_rng p1
  refine zg_icmp_lt X 16 dX8_isDigit_3 (by decide) (fun c3 => ?_) (fun c3 => ?_)
  · skip
    replace E := zIf_t c3 E
    refine zg_iconst X 0 dX8_isDigit_16 (by decide) (fun v4 _ hv4 => ?_)
    replace E := zLet_s (zcst hv4 (by decide)) E
    exact ret _ _ _ _ dX8_isDigit_17 (zb_bool ⟨by omega, by omega⟩) ⟨⟨E.symm.trans hR, ⟨by omega, by omega⟩⟩, rfl⟩
  · skip
    replace E := zIf_f (Int.not_lt.mpr c3) E
    refine zg_iload_n X 0 rfl dX8_isDigit_6 ?_
    refine zg_bipush X 57 dX8_isDigit_7 (by decide) (fun v5 _ hv5 => ?_)
    replace E := zLet_s (zcst hv5 (by decide)) E
    have zp1_z6 := zb_rng p1
    refine zg_icmp_gt X 16 dX8_isDigit_9 (by decide) (fun c7 => ?_) (fun c7 => ?_)
    · skip
      replace E := zIf_t c7 E
      refine zg_iconst X 0 dX8_isDigit_16 (by decide) (fun v8 _ hv8 => ?_)
      replace E := zLet_s (zcst hv8 (by decide)) E
      exact ret _ _ _ _ dX8_isDigit_17 (zb_bool ⟨by omega, by omega⟩) ⟨⟨E.symm.trans hR, ⟨by omega, by omega⟩⟩, rfl⟩
    · skip
      replace E := zIf_f (Int.not_lt.mpr c7) E
      refine zg_iconst X 1 dX8_isDigit_12 (by decide) (fun v9 _ hv9 => ?_)
      replace E := zLet_s (zcst hv9 (by decide)) E
      refine zg_goto X 17 dX8_isDigit_13 (by decide) ?_
      exact ret _ _ _ _ dX8_isDigit_17 (zb_bool ⟨by omega, by omega⟩) ⟨⟨E.symm.trans hR, ⟨by omega, by omega⟩⟩, rfl⟩
set_option maxHeartbeats 4000000 in
set_option maxRecDepth 100000 in
theorem t_X8_withLetter (l : Launch) (d : zD2) (L : List Nat) (kd : Nat → Nat) (σ : zS) (p1 : Int64) (p2 : Int32) : zMl l yX8_withLetter (Cond.code yX8_withLetter cX8_withLetter 3 (some .long) :: zWL) 0 [.long p1, .int p2] d L kd σ (fun v σ2 => (v = F_X8_withLetter p1 p2 ∧ (True)) ∧ σ = σ2) := by
  refine zMl.of (own := RX8) (by decide +kernel) rfl rfl (Nat.le_of_ble_eq_true rfl) ?_
  intro p e s m args below meth c A Q X ret
  refine zg_lv (lv2 := [(0, .long p1), (2, .int p2)]) rfl ?_
  obtain ⟨R, hR⟩ : ∃ R, R = F_X8_withLetter p1 p2 := ⟨_, rfl⟩
  have E := hR
  unfold F_X8_withLetter at E
  refine zg_lload_n X 0 rfl dX8_withLetter_0 ?_
  refine zg_ldc2 X wk_X8_43 dX8_withLetter_1 (fun v1 ev1 => ?_)
  replace E := zLet_s ev1 E
  refine zg_lmul X dX8_withLetter_4 (fun v2 ev2 => ?_)
  replace E := zLet_s ev2 E
  refine zg_iload_n X 1 rfl dX8_withLetter_5 ?_
  refine zg_bipush X 97 dX8_withLetter_6 (by decide) (fun v3 _ hv3 => ?_)
  replace E := zLet_s (zcst hv3 (by decide)) E
  refine zg_isubW X dX8_withLetter_8 (fun v4 ev4 => ?_)
  replace E := zLet_s ev4 E
  refine zg_iconst X 1 dX8_withLetter_9 (by decide) (fun v5 _ hv5 => ?_)
  replace E := zLet_s (zcst hv5 (by decide)) E
  refine zg_iaddW X dX8_withLetter_10 (fun v6 ev6 => ?_)
  replace E := zLet_s ev6 E
  refine zg_i2l X dX8_withLetter_11 (fun v7 ev7 => ?_)
  replace E := zLet_s ev7 E
  refine zg_ladd X dX8_withLetter_12 (fun v8 ev8 => ?_)
  replace E := zLet_s ev8 E
  exact ret _ _ _ _ dX8_withLetter_13 ⟨⟨E.symm.trans hR, trivial⟩, rfl⟩
set_option maxHeartbeats 4000000 in
set_option maxRecDepth 100000 in
theorem t_X8_add (l : Launch) (d : zD2) (L : List Nat) (kd : Nat → Nat) (κ : Int) (b : Nat) (σ : zS) (hI : zI κ b L kd σ) (a0 : Nat) (ha0 : zT L kd a0 8) (p1 : Int32) (p2 : Int64) (p3 : Int32) : zMv l yX8_add (Cond.code yX8_add cX8_add 5 none :: zWL) 0 [.ref a0, .int p1, .long p2, .int p3] d L kd σ (fun σ2 => σ2 = F_X8_add a0 p1 p2 p3 σ ∧ zSm [8, 41, 42, 43] [] L kd σ σ2 ∧ (zI κ b L kd σ2)) := by
  refine zMv.of (own := RX8) (by decide +kernel) rfl rfl (Nat.le_of_ble_eq_true rfl) ?_
  intro p e s m args below meth c A Q X ret
  refine zg_lv (lv2 := [(0, .ref a0), (1, .int p1), (2, .long p2), (4, .int p3)]) rfl ?_
  obtain ⟨R, hR⟩ : ∃ R, R = F_X8_add a0 p1 p2 p3 σ := ⟨_, rfl⟩
  have E := hR
  unfold F_X8_add at E
  have hS : zSm [8, 41, 42, 43] [] L kd σ σ := zSm.rf
  refine zg_aload_n X 0 rfl dX8_add_0 ?_
  refine fg_X8_23 X hI ha0 dX8_add_1 (fun v1 ev1 hv1 => ?_)
  replace E := zLet_s ev1 E
  refine zg_aload_n X 0 rfl dX8_add_4 ?_
  refine fg_X8_13 X hI ha0 dX8_add_5 (fun v2 ev2 hv2 => ?_)
  replace E := zLet_s (zgr ev2) E
  refine zg_alen13 X hv2 rfl (by decide) dX8_add_8 (fun v3 hv3 => ?_)
  have hv3 : v3.toInt = 402 := hv3
  replace E := zLet_s (zcst hv3 (by decide)) E
  refine zg_icmp_ge X 53 dX8_add_9 (by decide) (fun c4 => ?_) (fun c4 => ?_)
  · skip
    replace E := zIf_f (Int.not_lt.mpr c4) E
    exact ret _ _ _ dX8_add_53 ⟨E.symm.trans hR, hS, hI⟩
  · skip
    replace E := zIf_t c4 E
    refine zg_aload_n X 0 rfl dX8_add_12 ?_
    refine fg_X8_13 X hI ha0 dX8_add_13 (fun v5 ev5 hv5 => ?_)
    replace E := zLet_s (zgr ev5) E
    refine zg_aload_n X 0 rfl dX8_add_16 ?_
    refine fg_X8_23 X hI ha0 dX8_add_17 (fun v6 ev6 hv6 => ?_)
    replace E := zLet_s ev6 E
    have mv6 : v6.toInt = v1.toInt := by rw [ev6, ← ev1]
    refine zg_iload_n X 1 rfl dX8_add_20 ?_
    refine as_41 X hI hv5 (by omega) (by omega) dX8_add_21 (fun s7 es7 hI => ?_)
    replace E := zLet_s es7 E
    have hS := hS.i hv5 es7 rfl
    have e8 : v6 = s7.1 a0 4 := by rw [es7]; exact zm_k hv5 ha0 (by decide) ev6
    refine zg_aload_n X 0 rfl dX8_add_22 ?_
    refine fg_X8_17 X hI ha0 dX8_add_23 (fun v9 ev9 hv9 => ?_)
    replace E := zLet_s (zgr ev9) E
    refine zg_aload_n X 0 rfl dX8_add_26 ?_
    refine fg_X8_23 X hI ha0 dX8_add_27 (fun v10 ev10 hv10 => ?_)
    replace E := zLet_s ev10 E
    have mv10 : v10.toInt = v6.toInt := by rw [ev10, ← e8]
    refine zg_lload_n X 2 rfl dX8_add_30 ?_
    refine as_42 X hI hv9 (by omega) (by omega) dX8_add_31 (fun s11 es11 hI => ?_)
    replace E := zLet_s es11 E
    have hS := hS.l hv9 es11 rfl
    have e12 : v10 = s11.1 a0 4 := by rw [es11]; exact ev10
    refine zg_aload_n X 0 rfl dX8_add_32 ?_
    refine fg_X8_20 X hI ha0 dX8_add_33 (fun v13 ev13 hv13 => ?_)
    replace E := zLet_s (zgr ev13) E
    refine zg_aload_n X 0 rfl dX8_add_36 ?_
    refine fg_X8_23 X hI ha0 dX8_add_37 (fun v14 ev14 hv14 => ?_)
    replace E := zLet_s ev14 E
    have mv14 : v14.toInt = v10.toInt := by rw [ev14, ← e12]
    refine zg_iload X 3 rfl dX8_add_40 ?_
    refine as_43 X hI hv13 (by omega) (by omega) dX8_add_42 (fun s15 es15 hI => ?_)
    replace E := zLet_s es15 E
    have hS := hS.i hv13 es15 rfl
    have e16 : v14 = s15.1 a0 4 := by rw [es15]; exact zm_k hv13 ha0 (by decide) ev14
    refine zg_aload_n X 0 rfl dX8_add_43 ?_
    refine zg_dup X dX8_add_44 rfl ?_
    refine fg_X8_23 X hI ha0 dX8_add_45 (fun v17 ev17 hv17 => ?_)
    replace E := zLet_s ev17 E
    have mv17 : v17.toInt = v14.toInt := by rw [ev17, ← e16]
    refine zg_iconst X 1 dX8_add_48 (by decide) (fun v18 _ hv18 => ?_)
    replace E := zLet_s (zcst hv18 (by decide)) E
    refine zg_iadd X dX8_add_49 (by omega) (by omega) (fun v19 ev19 hv19 => ?_)
    replace E := zLet_s ev19 E
    refine fp_X8_23 X hI ha0 ⟨by omega, by omega⟩ dX8_add_50 (fun s20 es20 hI => ?_)
    replace E := zLet_s es20 E
    have hS := hS.i ha0 es20 rfl
    have e22 : v19 = s20.1 a0 4 := by rw [es20]; exact zm_s
    exact ret _ _ _ dX8_add_53 ⟨E.symm.trans hR, hS, hI⟩
set_option maxHeartbeats 4000000 in
set_option maxRecDepth 100000 in
theorem t_X8_kindOf (l : Launch) (d : zD2) (L : List Nat) (kd : Nat → Nat) (κ : Int) (b : Nat) (σ : zS) (hI : zI κ b L kd σ) (a0 : Nat) (ha0 : zT L kd a0 8) (p1 : Int64) : zMi l yX8_kindOf (Cond.code yX8_kindOf cX8_kindOf 5 (some .int) :: zWL) 0 [.ref a0, .long p1] d L kd σ (fun v σ2 => (v, σ2) = F_X8_kindOf a0 p1 σ ∧ zSm [] [] L kd σ σ2 ∧ (zI κ b L kd σ2)) := by
  refine zMi.of (own := RX8) (by decide +kernel) rfl rfl (Nat.le_of_ble_eq_true rfl) ?_
  intro p e s m args below meth c A Q X ret
  refine zg_lv (lv2 := [(0, .ref a0), (1, .long p1)]) rfl ?_
  obtain ⟨R, hR⟩ : ∃ R, R = F_X8_kindOf a0 p1 σ := ⟨_, rfl⟩
  have E := hR
  unfold F_X8_kindOf at E
  have hS : zSm [] [] L kd σ σ := zSm.rf
  refine zg_bipush X 22 dX8_kindOf_0 (by decide) (fun v1 _ hv1 => ?_)
  replace E := zLet_s (zcst hv1 (by decide)) E
  refine zg_istore_n X [(3, .int v1), (0, .ref a0), (1, .long p1)] dX8_kindOf_2 (by decide) rfl ?_
  refine zg_iconst X 0 dX8_kindOf_3 (by decide) (fun v2 _ hv2 => ?_)
  replace E := zLet_s (zcst hv2 (by decide)) E
  refine zg_istore X [(4, .int v2), (3, .int v1), (0, .ref a0), (1, .long p1)] dX8_kindOf_4 (by decide) rfl ?_
  have Lp5 : ∀ (nLp5 : Nat) (τ5 : zS) (x3 : Int32) (x4 : Int32), zI κ b L kd τ5 → zSm [] [] L kd σ τ5 → R = F_X8_kindOf_6 a0 p1  nLp5 x3 x4 τ5 → 0 ≤ x3.toInt ∧ x3.toInt ≤ 22 → (22) - x3.toInt + 1 < (nLp5 : Int) → zG d L kd A 5 p l e (k2_rm 0 (100 * 0)) s m args below meth c Q τ5 6 [(4, .int x3), (3, .int x4), (0, .ref a0), (1, .long p1)] [] := by
    intro nLp5
    induction nLp5 with
    | zero => intro τ5 x3 x4 hI hS E  hxLp5 hm ; exact absurd hm (by omega)
    | succ nLp5 ihLp5 =>
      intro τ5 x3 x4 hI hS E  hxLp5 hmLp5 
      rw [F_X8_kindOf_6] at E
      refine zg_iload X 0 rfl dX8_kindOf_6 ?_
      refine zg_bipush X 22 dX8_kindOf_8 (by decide) (fun v6 _ hv6 => ?_)
      replace E := zLet_s (zcst hv6 (by decide)) E
      refine zg_icmp_ge X 34 dX8_kindOf_10 (by decide) (fun c7 => ?_) (fun c7 => ?_)
      · skip
        replace E := zIf_f (Int.not_lt.mpr c7) E
        refine zg_iload_n X 1 rfl dX8_kindOf_34 ?_
        exact ret _ _ _ _ dX8_kindOf_35 rfl ⟨E.symm.trans hR, hS, hI⟩
      · skip
        replace E := zIf_t c7 E
        refine zg_aload_n X 2 rfl dX8_kindOf_13 ?_
        refine fg_X8_9 X hI ha0 dX8_kindOf_14 (fun v8 ev8 hv8 => ?_)
        replace E := zLet_s (zgr ev8) E
        refine zg_iload X 0 rfl dX8_kindOf_17 ?_
        refine ag_40 X hv8 (by omega) (by omega) dX8_kindOf_19 (fun v9 ev9 => ?_)
        replace E := zLet_s ev9 E
        refine zg_lload_n X 3 rfl dX8_kindOf_20 ?_
        refine zg_lcmp X dX8_kindOf_21 (fun v10 ev10 => ?_)
        replace E := zLet_s ev10 E
        refine zg_if_ne X 28 dX8_kindOf_22 (by decide) (fun c11 => ?_) (fun c11 => ?_)
        · skip
          replace E := zIf_f c11 E
          refine zg_iinc X 1 (fun v12 => [(4, .int v12), (3, .int x4), (0, .ref a0), (1, .long p1)]) 0 dX8_kindOf_28 rfl (by decide) (by decide) (by omega) (by omega) (fun _ => rfl) (fun v12 ev12 hv12 => ?_)
          replace E := zLet_s (zinc ev12 (by decide)) E
          refine zg_goto X 6 dX8_kindOf_31 (by decide) ?_
          refine zg_sub [0, 1, 2, 3] rfl ?_
          exact ihLp5 _ v12 x4 hI hS E  (by omega) (by omega) 
        · skip
          replace E := zIf_t c11 E
          refine zg_iload X 0 rfl dX8_kindOf_25 ?_
          refine zg_istore_n X [(3, .int x3), (4, .int x3), (0, .ref a0), (1, .long p1)] dX8_kindOf_27 (by decide) rfl ?_
          refine zg_iinc X 1 (fun v13 => [(4, .int v13), (3, .int x3), (0, .ref a0), (1, .long p1)]) 1 dX8_kindOf_28 rfl (by decide) (by decide) (by omega) (by omega) (fun _ => rfl) (fun v13 ev13 hv13 => ?_)
          replace E := zLet_s (zinc ev13 (by decide)) E
          refine zg_goto X 6 dX8_kindOf_31 (by decide) ?_
          refine zg_sub [0, 1, 2, 3] rfl ?_
          exact ihLp5 _ v13 x3 hI hS E  (by omega) (by omega) 
  refine zg_sub [0, 1, 2, 3] rfl ?_
  exact Lp5 10000 _ v2 v1 hI hS E  (by omega) (by omega) 
set_option maxHeartbeats 4000000 in
set_option maxRecDepth 100000 in
theorem t_X8_pastBlanks (l : Launch) (d : zD2) (L : List Nat) (kd : Nat → Nat) (κ : Int) (b : Nat) (σ : zS) (hI : zI κ b L kd σ) (p1 : Nat) (hp1 : zT L kd p1 39) (p2 : Int32) (p3 : Int32) (hq0 : p2.toInt ≤ 2000) (hq1 : 0 ≤ p3.toInt ∧ p3.toInt ≤ 2000) : zMi l yX8_pastBlanks (Cond.code yX8_pastBlanks cX8_pastBlanks 4 (some .int) :: zWL) 0 [.ref p1, .int p2, .int p3] d L kd σ (fun v σ2 => (v, σ2) = F_X8_pastBlanks p1 p2 p3 σ ∧ zSm [] [] L kd σ σ2 ∧ ((0 ≤ v.toInt ∧ v.toInt ≤ 2000) ∧ zI κ b L kd σ2)) := by
  refine zMi.of (own := RX8) (by decide +kernel) rfl rfl (Nat.le_of_ble_eq_true rfl) ?_
  intro p e s m args below meth c A Q X ret
  refine zg_lv (lv2 := [(0, .ref p1), (1, .int p2), (2, .int p3)]) rfl ?_
  obtain ⟨R, hR⟩ : ∃ R, R = F_X8_pastBlanks p1 p2 p3 σ := ⟨_, rfl⟩
  have E := hR
  unfold F_X8_pastBlanks at E
  have hS : zSm [] [] L kd σ σ := zSm.rf
  refine zg_iload_n X 2 rfl dX8_pastBlanks_0 ?_
  refine zg_istore_n X [(3, .int p3), (0, .ref p1), (1, .int p2), (2, .int p3)] dX8_pastBlanks_1 (by decide) rfl ?_
  have Lp2 : ∀ (nLp2 : Nat) (τ2 : zS) (x1 : Int32), zI κ b L kd τ2 → zSm [] [] L kd σ τ2 → R = F_X8_pastBlanks_2 p1 p2 p3  nLp2 x1 τ2 → 0 ≤ x1.toInt ∧ x1.toInt ≤ 2000 → 2000 - x1.toInt + 1 < (nLp2 : Int) → zG d L kd A 4 p l e (k2_rm 0 (100 * 0)) s m args below meth c Q τ2 2 [(3, .int x1), (0, .ref p1), (1, .int p2), (2, .int p3)] [] := by
    intro nLp2
    induction nLp2 with
    | zero => intro τ2 x1 hI hS E  hxLp2 hm ; exact absurd hm (by omega)
    | succ nLp2 ihLp2 =>
      intro τ2 x1 hI hS E  hxLp2 hmLp2 
      rw [F_X8_pastBlanks_2] at E
      refine zg_iload_n X 0 rfl dX8_pastBlanks_2 ?_
      refine zg_iload_n X 2 rfl dX8_pastBlanks_3 ?_
      have zp2_z3 := zb_rng p2
      refine zg_icmp_ge X 45 dX8_pastBlanks_4 (by decide) (fun c4 => ?_) (fun c4 => ?_)
      · skip
        replace E := zIf_f (Int.not_lt.mpr c4) E
        refine zg_iload_n X 0 rfl dX8_pastBlanks_45 ?_
        exact ret _ _ _ _ dX8_pastBlanks_46 rfl ⟨E.symm.trans hR, hS, ⟨⟨by omega, by omega⟩, hI⟩⟩
      · skip
        replace E := zIf_t c4 E
        refine zg_aload_n X 1 rfl dX8_pastBlanks_7 ?_
        refine zg_iload_n X 0 rfl dX8_pastBlanks_8 ?_
        refine ag_39 X hI hp1 (by omega) (by omega) dX8_pastBlanks_9 (fun v5 ev5 hv5 => ?_)
        replace E := zLet_s ev5 E
        refine zg_bipush X 32 dX8_pastBlanks_10 (by decide) (fun v6 _ hv6 => ?_)
        replace E := zLet_s (zcst hv6 (by decide)) E
        refine zg_icmp_eq X 39 dX8_pastBlanks_12 (by decide) (fun c7 => ?_) (fun c7 => ?_)
        · skip
          replace E := zIf_t c7 E
          refine zg_iinc X 1 (fun v8 => [(3, .int v8), (0, .ref p1), (1, .int p2), (2, .int p3)]) 0 dX8_pastBlanks_39 rfl (by decide) (by decide) (by omega) (by omega) (fun _ => rfl) (fun v8 ev8 hv8 => ?_)
          replace E := zLet_s (zinc ev8 (by decide)) E
          refine zg_goto X 2 dX8_pastBlanks_42 (by decide) ?_
          refine zg_sub [0, 1, 2, 3] rfl ?_
          exact ihLp2 _ v8 hI hS E  (by omega) (by omega) 
        · skip
          replace E := zIf_f c7 E
          refine zg_aload_n X 1 rfl dX8_pastBlanks_15 ?_
          refine zg_iload_n X 0 rfl dX8_pastBlanks_16 ?_
          refine ag_39 X hI hp1 (by omega) (by omega) dX8_pastBlanks_17 (fun v9 ev9 hv9 => ?_)
          replace E := zLet_s ev9 E
          refine zg_bipush X 9 dX8_pastBlanks_18 (by decide) (fun v10 _ hv10 => ?_)
          replace E := zLet_s (zcst hv10 (by decide)) E
          refine zg_icmp_eq X 39 dX8_pastBlanks_20 (by decide) (fun c11 => ?_) (fun c11 => ?_)
          · skip
            replace E := zIf_t c11 E
            refine zg_iinc X 1 (fun v12 => [(3, .int v12), (0, .ref p1), (1, .int p2), (2, .int p3)]) 0 dX8_pastBlanks_39 rfl (by decide) (by decide) (by omega) (by omega) (fun _ => rfl) (fun v12 ev12 hv12 => ?_)
            replace E := zLet_s (zinc ev12 (by decide)) E
            refine zg_goto X 2 dX8_pastBlanks_42 (by decide) ?_
            refine zg_sub [0, 1, 2, 3] rfl ?_
            exact ihLp2 _ v12 hI hS E  (by omega) (by omega) 
          · skip
            replace E := zIf_f c11 E
            refine zg_aload_n X 1 rfl dX8_pastBlanks_23 ?_
            refine zg_iload_n X 0 rfl dX8_pastBlanks_24 ?_
            refine ag_39 X hI hp1 (by omega) (by omega) dX8_pastBlanks_25 (fun v13 ev13 hv13 => ?_)
            replace E := zLet_s ev13 E
            refine zg_bipush X 10 dX8_pastBlanks_26 (by decide) (fun v14 _ hv14 => ?_)
            replace E := zLet_s (zcst hv14 (by decide)) E
            refine zg_icmp_eq X 39 dX8_pastBlanks_28 (by decide) (fun c15 => ?_) (fun c15 => ?_)
            · skip
              replace E := zIf_t c15 E
              refine zg_iinc X 1 (fun v16 => [(3, .int v16), (0, .ref p1), (1, .int p2), (2, .int p3)]) 0 dX8_pastBlanks_39 rfl (by decide) (by decide) (by omega) (by omega) (fun _ => rfl) (fun v16 ev16 hv16 => ?_)
              replace E := zLet_s (zinc ev16 (by decide)) E
              refine zg_goto X 2 dX8_pastBlanks_42 (by decide) ?_
              refine zg_sub [0, 1, 2, 3] rfl ?_
              exact ihLp2 _ v16 hI hS E  (by omega) (by omega) 
            · skip
              replace E := zIf_f c15 E
              refine zg_aload_n X 1 rfl dX8_pastBlanks_31 ?_
              refine zg_iload_n X 0 rfl dX8_pastBlanks_32 ?_
              refine ag_39 X hI hp1 (by omega) (by omega) dX8_pastBlanks_33 (fun v17 ev17 hv17 => ?_)
              replace E := zLet_s ev17 E
              refine zg_bipush X 13 dX8_pastBlanks_34 (by decide) (fun v18 _ hv18 => ?_)
              replace E := zLet_s (zcst hv18 (by decide)) E
              refine zg_icmp_ne X 45 dX8_pastBlanks_36 (by decide) (fun c19 => ?_) (fun c19 => ?_)
              · skip
                replace E := zIf_f c19 E
                refine zg_iload_n X 0 rfl dX8_pastBlanks_45 ?_
                exact ret _ _ _ _ dX8_pastBlanks_46 rfl ⟨E.symm.trans hR, hS, ⟨⟨by omega, by omega⟩, hI⟩⟩
              · skip
                replace E := zIf_t c19 E
                refine zg_iinc X 1 (fun v20 => [(3, .int v20), (0, .ref p1), (1, .int p2), (2, .int p3)]) 0 dX8_pastBlanks_39 rfl (by decide) (by decide) (by omega) (by omega) (fun _ => rfl) (fun v20 ev20 hv20 => ?_)
                replace E := zLet_s (zinc ev20 (by decide)) E
                refine zg_goto X 2 dX8_pastBlanks_42 (by decide) ?_
                refine zg_sub [0, 1, 2, 3] rfl ?_
                exact ihLp2 _ v20 hI hS E  (by omega) (by omega) 
  refine zg_sub [0, 1, 2, 3] rfl ?_
  exact Lp2 10000 _ p3 hI hS E  (by omega) (by omega) 
set_option maxHeartbeats 4000000 in
set_option maxRecDepth 100000 in
theorem t_X8_addLetters (l : Launch) (d : zD2) (L : List Nat) (kd : Nat → Nat) (κ : Int) (b : Nat) (σ : zS) (hI : zI κ b L kd σ) (a0 : Nat) (ha0 : zT L kd a0 8) (p1 : Nat) (hp1 : zT L kd p1 39) (p2 : Int32) (p3 : Int32) (hq0 : p2.toInt ≤ 2000) (hq1 : 0 ≤ p3.toInt ∧ p3.toInt ≤ 2000) : zMi l yX8_addLetters (Cond.code yX8_addLetters cX8_addLetters 7 (some .int) :: zWL) 1 [.ref a0, .ref p1, .int p2, .int p3] d L kd σ (fun v σ2 => (v, σ2) = F_X8_addLetters a0 p1 p2 p3 σ ∧ zSm [8, 41, 42, 43] [] L kd σ σ2 ∧ ((0 ≤ v.toInt ∧ v.toInt ≤ 2000) ∧ zI κ b L kd σ2)) := by
  refine zMi.of (own := RX8) (by decide +kernel) rfl rfl (Nat.le_of_ble_eq_true rfl) ?_
  intro p e s m args below meth c A Q X ret
  refine zg_lv (lv2 := [(0, .ref a0), (1, .ref p1), (2, .int p2), (3, .int p3)]) rfl ?_
  obtain ⟨R, hR⟩ : ∃ R, R = F_X8_addLetters a0 p1 p2 p3 σ := ⟨_, rfl⟩
  have E := hR
  unfold F_X8_addLetters at E
  have hS : zSm [8, 41, 42, 43] [] L kd σ σ := zSm.rf
  refine zg_lconst X dX8_addLetters_0 (fun v1 ev1 => ?_)
  replace E := zLet_s ev1 E
  refine zg_lstore X [(4, .long v1), (0, .ref a0), (1, .ref p1), (2, .int p2), (3, .int p3)] dX8_addLetters_1 (by decide) rfl ?_
  refine zg_iload_n X 4 rfl dX8_addLetters_3 ?_
  refine zg_istore X [(6, .int p3), (4, .long v1), (0, .ref a0), (1, .ref p1), (2, .int p2), (3, .int p3)] dX8_addLetters_4 (by decide) rfl ?_
  have Lp4 : ∀ (nLp4 : Nat) (τ4 : zS) (x2 : Int32) (x3 : Int64), zI κ b L kd τ4 → zSm [8, 41, 42, 43] [] L kd σ τ4 → R = F_X8_addLetters_6 a0 p1 p2 p3  nLp4 x2 x3 τ4 → 0 ≤ x2.toInt ∧ x2.toInt ≤ 2000 → 2000 - x2.toInt + 1 < (nLp4 : Int) → zG d L kd A 7 p l e (k2_rm 1 (100 * 1)) s m args below meth c Q τ4 6 [(6, .int x2), (4, .long x3), (0, .ref a0), (1, .ref p1), (2, .int p2), (3, .int p3)] [] := by
    intro nLp4
    induction nLp4 with
    | zero => intro τ4 x2 x3 hI hS E  hxLp4 hm ; exact absurd hm (by omega)
    | succ nLp4 ihLp4 =>
      intro τ4 x2 x3 hI hS E  hxLp4 hmLp4 
      rw [F_X8_addLetters_6] at E
      refine zg_iload X 0 rfl dX8_addLetters_6 ?_
      refine zg_iload_n X 4 rfl dX8_addLetters_8 ?_
      have zp2_z5 := zb_rng p2
      refine zg_icmp_ge X 52 dX8_addLetters_9 (by decide) (fun c6 => ?_) (fun c6 => ?_)
      · skip
        replace E := zIf_f (Int.not_lt.mpr c6) E
        refine zg_aload_n X 2 rfl dX8_addLetters_52 ?_
        refine zg_iload X 0 rfl dX8_addLetters_53 ?_
        refine zg_iload_n X 5 rfl dX8_addLetters_55 ?_
        refine zg_isub X dX8_addLetters_56 (by omega) (by omega) (fun v7 ev7 hv7 => ?_)
        replace E := zLet_s ev7 E
        refine zg_bipush X 8 dX8_addLetters_57 (by decide) (fun v8 _ hv8 => ?_)
        replace E := zLet_s (zcst hv8 (by decide)) E
        refine zg_icmp_le X 67 dX8_addLetters_59 (by decide) (fun c9 => ?_) (fun c9 => ?_)
        · skip
          replace E := zIf_f (Int.not_lt.mpr c9) E
          refine zg_aload_n X 2 rfl dX8_addLetters_67 ?_
          refine zg_lload X 1 rfl dX8_addLetters_68 ?_
          refine zg_cVi (As := [.long x3]) (st := [.ref a0]) X ha0 rfl (by decide) rfl (t_X8_kindOf l d L kd κ b _ hI a0 ha0 x3 ) mk_X8_72 mc_X8_kindOf mz_X8 mi_X8_kindOf ml_X8_kindOf (na := 1) ⟨md_X8.1, md_X8.2, by decide +kernel⟩ rfl ⟨by decide, by decide⟩ (Nat.le_of_ble_eq_true rfl) dX8_addLetters_70 (fun v10 s11 hq => ?_)
          obtain ⟨hF, hS2, hI⟩ := hq
          replace E := zLet2_s hF E
          have hS := hS.tr hS2 rfl rfl
          refine zg_lload X 1 rfl dX8_addLetters_73 ?_
          refine zg_iload_n X 5 rfl dX8_addLetters_75 ?_
          refine zg_cVv (As := [.int v10, .long x3, .int p3]) (st := []) X ha0 rfl (by decide) rfl (t_X8_add l d L kd κ b _ hI a0 ha0 v10 x3 p3 ) mk_X8_49 mc_X8_add mz_X8 mi_X8_add ml_X8_add (na := 3) ⟨md_X8.1, md_X8.2, by decide +kernel⟩ rfl ⟨by decide, by decide⟩ (Nat.le_of_ble_eq_true rfl) dX8_addLetters_76 (fun s12 hq => ?_)
          obtain ⟨hF, hS2, hI⟩ := hq
          replace E := zLet_s hF E
          have hS := hS.tr hS2 rfl rfl
          refine zg_iload X 0 rfl dX8_addLetters_79 ?_
          exact ret _ _ _ _ dX8_addLetters_81 rfl ⟨E.symm.trans hR, hS, ⟨⟨by omega, by omega⟩, hI⟩⟩
        · skip
          replace E := zIf_t c9 E
          refine zg_bipush X 34 dX8_addLetters_62 (by decide) (fun v13 _ hv13 => ?_)
          replace E := zLet_s (zcst hv13 (by decide)) E
          refine zg_goto X 73 dX8_addLetters_64 (by decide) ?_
          refine zg_lload X 1 rfl dX8_addLetters_73 ?_
          refine zg_iload_n X 5 rfl dX8_addLetters_75 ?_
          refine zg_cVv (As := [.int v13, .long x3, .int p3]) (st := []) X ha0 rfl (by decide) rfl (t_X8_add l d L kd κ b _ hI a0 ha0 v13 x3 p3 ) mk_X8_49 mc_X8_add mz_X8 mi_X8_add ml_X8_add (na := 3) ⟨md_X8.1, md_X8.2, by decide +kernel⟩ rfl ⟨by decide, by decide⟩ (Nat.le_of_ble_eq_true rfl) dX8_addLetters_76 (fun s14 hq => ?_)
          obtain ⟨hF, hS2, hI⟩ := hq
          replace E := zLet_s hF E
          have hS := hS.tr hS2 rfl rfl
          refine zg_iload X 0 rfl dX8_addLetters_79 ?_
          exact ret _ _ _ _ dX8_addLetters_81 rfl ⟨E.symm.trans hR, hS, ⟨⟨by omega, by omega⟩, hI⟩⟩
      · skip
        replace E := zIf_t c6 E
        refine zg_aload_n X 3 rfl dX8_addLetters_12 ?_
        refine zg_iload X 0 rfl dX8_addLetters_13 ?_
        refine ag_39 X hI hp1 (by omega) (by omega) dX8_addLetters_15 (fun v15 ev15 hv15 => ?_)
        replace E := zLet_s ev15 E
        refine zg_cSi (As := [.int v15]) (st := []) X (t_X8_isLetter l d L kd _ v15 ) mk_X8_53 mc_X8_isLetter mz_X8 ms_X8_isLetter (na := 1) ⟨md_X8.1, md_X8.2, by decide +kernel⟩ rfl ⟨by decide, by decide⟩ (Nat.le_of_ble_eq_true rfl) dX8_addLetters_16 (fun v16 σ2 hq => ?_)
        obtain ⟨⟨hF, hv16⟩, rfl⟩ := hq
        replace E := zLet_s hF E
        refine zg_if_eq X 52 dX8_addLetters_19 (by decide) (fun c17 => ?_) (fun c17 => ?_)
        · skip
          replace E := zIf_t c17 E
          refine zg_aload_n X 2 rfl dX8_addLetters_52 ?_
          refine zg_iload X 0 rfl dX8_addLetters_53 ?_
          refine zg_iload_n X 5 rfl dX8_addLetters_55 ?_
          refine zg_isub X dX8_addLetters_56 (by omega) (by omega) (fun v18 ev18 hv18 => ?_)
          replace E := zLet_s ev18 E
          refine zg_bipush X 8 dX8_addLetters_57 (by decide) (fun v19 _ hv19 => ?_)
          replace E := zLet_s (zcst hv19 (by decide)) E
          refine zg_icmp_le X 67 dX8_addLetters_59 (by decide) (fun c20 => ?_) (fun c20 => ?_)
          · skip
            replace E := zIf_f (Int.not_lt.mpr c20) E
            refine zg_aload_n X 2 rfl dX8_addLetters_67 ?_
            refine zg_lload X 1 rfl dX8_addLetters_68 ?_
            refine zg_cVi (As := [.long x3]) (st := [.ref a0]) X ha0 rfl (by decide) rfl (t_X8_kindOf l d L kd κ b _ hI a0 ha0 x3 ) mk_X8_72 mc_X8_kindOf mz_X8 mi_X8_kindOf ml_X8_kindOf (na := 1) ⟨md_X8.1, md_X8.2, by decide +kernel⟩ rfl ⟨by decide, by decide⟩ (Nat.le_of_ble_eq_true rfl) dX8_addLetters_70 (fun v21 s22 hq => ?_)
            obtain ⟨hF, hS2, hI⟩ := hq
            replace E := zLet2_s hF E
            have hS := hS.tr hS2 rfl rfl
            refine zg_lload X 1 rfl dX8_addLetters_73 ?_
            refine zg_iload_n X 5 rfl dX8_addLetters_75 ?_
            refine zg_cVv (As := [.int v21, .long x3, .int p3]) (st := []) X ha0 rfl (by decide) rfl (t_X8_add l d L kd κ b _ hI a0 ha0 v21 x3 p3 ) mk_X8_49 mc_X8_add mz_X8 mi_X8_add ml_X8_add (na := 3) ⟨md_X8.1, md_X8.2, by decide +kernel⟩ rfl ⟨by decide, by decide⟩ (Nat.le_of_ble_eq_true rfl) dX8_addLetters_76 (fun s23 hq => ?_)
            obtain ⟨hF, hS2, hI⟩ := hq
            replace E := zLet_s hF E
            have hS := hS.tr hS2 rfl rfl
            refine zg_iload X 0 rfl dX8_addLetters_79 ?_
            exact ret _ _ _ _ dX8_addLetters_81 rfl ⟨E.symm.trans hR, hS, ⟨⟨by omega, by omega⟩, hI⟩⟩
          · skip
            replace E := zIf_t c20 E
            refine zg_bipush X 34 dX8_addLetters_62 (by decide) (fun v24 _ hv24 => ?_)
            replace E := zLet_s (zcst hv24 (by decide)) E
            refine zg_goto X 73 dX8_addLetters_64 (by decide) ?_
            refine zg_lload X 1 rfl dX8_addLetters_73 ?_
            refine zg_iload_n X 5 rfl dX8_addLetters_75 ?_
            refine zg_cVv (As := [.int v24, .long x3, .int p3]) (st := []) X ha0 rfl (by decide) rfl (t_X8_add l d L kd κ b _ hI a0 ha0 v24 x3 p3 ) mk_X8_49 mc_X8_add mz_X8 mi_X8_add ml_X8_add (na := 3) ⟨md_X8.1, md_X8.2, by decide +kernel⟩ rfl ⟨by decide, by decide⟩ (Nat.le_of_ble_eq_true rfl) dX8_addLetters_76 (fun s25 hq => ?_)
            obtain ⟨hF, hS2, hI⟩ := hq
            replace E := zLet_s hF E
            have hS := hS.tr hS2 rfl rfl
            refine zg_iload X 0 rfl dX8_addLetters_79 ?_
            exact ret _ _ _ _ dX8_addLetters_81 rfl ⟨E.symm.trans hR, hS, ⟨⟨by omega, by omega⟩, hI⟩⟩
        · skip
          replace E := zIf_f c17 E
          refine zg_iload X 0 rfl dX8_addLetters_22 ?_
          refine zg_iload_n X 5 rfl dX8_addLetters_24 ?_
          refine zg_isub X dX8_addLetters_25 (by omega) (by omega) (fun v26 ev26 hv26 => ?_)
          replace E := zLet_s ev26 E
          refine zg_bipush X 8 dX8_addLetters_26 (by decide) (fun v27 _ hv27 => ?_)
          replace E := zLet_s (zcst hv27 (by decide)) E
          refine zg_icmp_ge X 43 dX8_addLetters_28 (by decide) (fun c28 => ?_) (fun c28 => ?_)
          · skip
            replace E := zIf_f (Int.not_lt.mpr c28) E
            refine zg_lconst X dX8_addLetters_43 (fun v29 ev29 => ?_)
            replace E := zLet_s ev29 E
            refine zg_lstore X [(4, .long v29), (6, .int x2), (0, .ref a0), (1, .ref p1), (2, .int p2), (3, .int p3)] dX8_addLetters_44 (by decide) rfl ?_
            refine zg_iinc X 1 (fun v30 => [(6, .int v30), (4, .long v29), (0, .ref a0), (1, .ref p1), (2, .int p2), (3, .int p3)]) 1 dX8_addLetters_46 rfl (by decide) (by decide) (by omega) (by omega) (fun _ => rfl) (fun v30 ev30 hv30 => ?_)
            replace E := zLet_s (zinc ev30 (by decide)) E
            refine zg_goto X 6 dX8_addLetters_49 (by decide) ?_
            refine zg_sub [0, 1, 2, 3, 4, 5] rfl ?_
            exact ihLp4 _ v30 v29 hI hS E  (by omega) (by omega) 
          · skip
            replace E := zIf_t c28 E
            refine zg_lload X 1 rfl dX8_addLetters_31 ?_
            refine zg_aload_n X 3 rfl dX8_addLetters_33 ?_
            refine zg_iload X 0 rfl dX8_addLetters_34 ?_
            refine ag_39 X hI hp1 (by omega) (by omega) dX8_addLetters_36 (fun v31 ev31 hv31 => ?_)
            replace E := zLet_s ev31 E
            refine zg_cSl (As := [.long x3, .int v31]) (st := []) X (t_X8_withLetter l d L kd _ x3 v31 ) mk_X8_39 mc_X8_withLetter mz_X8 ms_X8_withLetter (na := 2) ⟨md_X8.1, md_X8.2, by decide +kernel⟩ rfl ⟨by decide, by decide⟩ (Nat.le_of_ble_eq_true rfl) dX8_addLetters_37 (fun v32 σ2 hq => ?_)
            obtain ⟨⟨hF, hv32⟩, rfl⟩ := hq
            replace E := zLet_s hF E
            refine zg_goto X 44 dX8_addLetters_40 (by decide) ?_
            refine zg_lstore X [(4, .long v32), (6, .int x2), (0, .ref a0), (1, .ref p1), (2, .int p2), (3, .int p3)] dX8_addLetters_44 (by decide) rfl ?_
            refine zg_iinc X 1 (fun v33 => [(6, .int v33), (4, .long v32), (0, .ref a0), (1, .ref p1), (2, .int p2), (3, .int p3)]) 1 dX8_addLetters_46 rfl (by decide) (by decide) (by omega) (by omega) (fun _ => rfl) (fun v33 ev33 hv33 => ?_)
            replace E := zLet_s (zinc ev33 (by decide)) E
            refine zg_goto X 6 dX8_addLetters_49 (by decide) ?_
            refine zg_sub [0, 1, 2, 3, 4, 5] rfl ?_
            exact ihLp4 _ v33 v32 hI hS E  (by omega) (by omega) 
  refine zg_sub [0, 1, 2, 3, 4, 5] rfl ?_
  exact Lp4 10000 _ p3 v1 hI hS E  (by omega) (by omega) 
set_option maxHeartbeats 4000000 in
set_option maxRecDepth 100000 in
theorem t_X8_addDigits (l : Launch) (d : zD2) (L : List Nat) (kd : Nat → Nat) (κ : Int) (b : Nat) (σ : zS) (hI : zI κ b L kd σ) (a0 : Nat) (ha0 : zT L kd a0 8) (p1 : Nat) (hp1 : zT L kd p1 39) (p2 : Int32) (p3 : Int32) (hq0 : p2.toInt ≤ 2000) (hq1 : 0 ≤ p3.toInt ∧ p3.toInt ≤ 2000) : zMi l yX8_addDigits (Cond.code yX8_addDigits cX8_addDigits 6 (some .int) :: zWL) 1 [.ref a0, .ref p1, .int p2, .int p3] d L kd σ (fun v σ2 => (v, σ2) = F_X8_addDigits a0 p1 p2 p3 σ ∧ zSm [8, 41, 42, 43] [] L kd σ σ2 ∧ ((0 ≤ v.toInt ∧ v.toInt ≤ 2000) ∧ zI κ b L kd σ2)) := by
  refine zMi.of (own := RX8) (by decide +kernel) rfl rfl (Nat.le_of_ble_eq_true rfl) ?_
  intro p e s m args below meth c A Q X ret
  refine zg_lv (lv2 := [(0, .ref a0), (1, .ref p1), (2, .int p2), (3, .int p3)]) rfl ?_
  obtain ⟨R, hR⟩ : ∃ R, R = F_X8_addDigits a0 p1 p2 p3 σ := ⟨_, rfl⟩
  have E := hR
  unfold F_X8_addDigits at E
  have hS : zSm [8, 41, 42, 43] [] L kd σ σ := zSm.rf
  refine zg_iconst X 0 dX8_addDigits_0 (by decide) (fun v1 _ hv1 => ?_)
  replace E := zLet_s (zcst hv1 (by decide)) E
  refine zg_istore X [(4, .int v1), (0, .ref a0), (1, .ref p1), (2, .int p2), (3, .int p3)] dX8_addDigits_1 (by decide) rfl ?_
  refine zg_iload_n X 4 rfl dX8_addDigits_3 ?_
  refine zg_istore X [(5, .int p3), (4, .int v1), (0, .ref a0), (1, .ref p1), (2, .int p2), (3, .int p3)] dX8_addDigits_4 (by decide) rfl ?_
  have Lp4 : ∀ (nLp4 : Nat) (τ4 : zS) (x2 : Int32) (x3 : Int32), zI κ b L kd τ4 → zSm [8, 41, 42, 43] [] L kd σ τ4 → R = F_X8_addDigits_6 a0 p1 p2 p3  nLp4 x2 x3 τ4 → 0 ≤ x2.toInt ∧ x2.toInt ≤ 2000 → 2000 - x2.toInt + 1 < (nLp4 : Int) → zG d L kd A 6 p l e (k2_rm 1 (100 * 1)) s m args below meth c Q τ4 6 [(5, .int x2), (4, .int x3), (0, .ref a0), (1, .ref p1), (2, .int p2), (3, .int p3)] [] := by
    intro nLp4
    induction nLp4 with
    | zero => intro τ4 x2 x3 hI hS E  hxLp4 hm ; exact absurd hm (by omega)
    | succ nLp4 ihLp4 =>
      intro τ4 x2 x3 hI hS E  hxLp4 hmLp4 
      rw [F_X8_addDigits_6] at E
      refine zg_iload X 0 rfl dX8_addDigits_6 ?_
      refine zg_iload_n X 4 rfl dX8_addDigits_8 ?_
      have zp2_z5 := zb_rng p2
      refine zg_icmp_ge X 55 dX8_addDigits_9 (by decide) (fun c6 => ?_) (fun c6 => ?_)
      · skip
        replace E := zIf_f (Int.not_lt.mpr c6) E
        refine zg_aload_n X 2 rfl dX8_addDigits_55 ?_
        refine zg_iload X 0 rfl dX8_addDigits_56 ?_
        refine zg_iload_n X 5 rfl dX8_addDigits_58 ?_
        refine zg_isub X dX8_addDigits_59 (by omega) (by omega) (fun v7 ev7 hv7 => ?_)
        replace E := zLet_s ev7 E
        refine zg_iconst X 4 dX8_addDigits_60 (by decide) (fun v8 _ hv8 => ?_)
        replace E := zLet_s (zcst hv8 (by decide)) E
        refine zg_icmp_le X 69 dX8_addDigits_61 (by decide) (fun c9 => ?_) (fun c9 => ?_)
        · skip
          replace E := zIf_f (Int.not_lt.mpr c9) E
          refine zg_bipush X 23 dX8_addDigits_69 (by decide) (fun v10 _ hv10 => ?_)
          replace E := zLet_s (zcst hv10 (by decide)) E
          refine zg_iload X 1 rfl dX8_addDigits_71 ?_
          refine zg_i2l X dX8_addDigits_73 (fun v11 ev11 => ?_)
          replace E := zLet_s ev11 E
          refine zg_iload_n X 5 rfl dX8_addDigits_74 ?_
          refine zg_cVv (As := [.int v10, .long v11, .int p3]) (st := []) X ha0 rfl (by decide) rfl (t_X8_add l d L kd κ b _ hI a0 ha0 v10 v11 p3 ) mk_X8_49 mc_X8_add mz_X8 mi_X8_add ml_X8_add (na := 3) ⟨md_X8.1, md_X8.2, by decide +kernel⟩ rfl ⟨by decide, by decide⟩ (Nat.le_of_ble_eq_true rfl) dX8_addDigits_75 (fun s12 hq => ?_)
          obtain ⟨hF, hS2, hI⟩ := hq
          replace E := zLet_s hF E
          have hS := hS.tr hS2 rfl rfl
          refine zg_iload X 0 rfl dX8_addDigits_78 ?_
          exact ret _ _ _ _ dX8_addDigits_80 rfl ⟨E.symm.trans hR, hS, ⟨⟨by omega, by omega⟩, hI⟩⟩
        · skip
          replace E := zIf_t c9 E
          refine zg_bipush X 34 dX8_addDigits_64 (by decide) (fun v13 _ hv13 => ?_)
          replace E := zLet_s (zcst hv13 (by decide)) E
          refine zg_goto X 71 dX8_addDigits_66 (by decide) ?_
          refine zg_iload X 1 rfl dX8_addDigits_71 ?_
          refine zg_i2l X dX8_addDigits_73 (fun v14 ev14 => ?_)
          replace E := zLet_s ev14 E
          refine zg_iload_n X 5 rfl dX8_addDigits_74 ?_
          refine zg_cVv (As := [.int v13, .long v14, .int p3]) (st := []) X ha0 rfl (by decide) rfl (t_X8_add l d L kd κ b _ hI a0 ha0 v13 v14 p3 ) mk_X8_49 mc_X8_add mz_X8 mi_X8_add ml_X8_add (na := 3) ⟨md_X8.1, md_X8.2, by decide +kernel⟩ rfl ⟨by decide, by decide⟩ (Nat.le_of_ble_eq_true rfl) dX8_addDigits_75 (fun s15 hq => ?_)
          obtain ⟨hF, hS2, hI⟩ := hq
          replace E := zLet_s hF E
          have hS := hS.tr hS2 rfl rfl
          refine zg_iload X 0 rfl dX8_addDigits_78 ?_
          exact ret _ _ _ _ dX8_addDigits_80 rfl ⟨E.symm.trans hR, hS, ⟨⟨by omega, by omega⟩, hI⟩⟩
      · skip
        replace E := zIf_t c6 E
        refine zg_aload_n X 3 rfl dX8_addDigits_12 ?_
        refine zg_iload X 0 rfl dX8_addDigits_13 ?_
        refine ag_39 X hI hp1 (by omega) (by omega) dX8_addDigits_15 (fun v16 ev16 hv16 => ?_)
        replace E := zLet_s ev16 E
        refine zg_cSi (As := [.int v16]) (st := []) X (t_X8_isDigit l d L kd _ v16 ) mk_X8_60 mc_X8_isDigit mz_X8 ms_X8_isDigit (na := 1) ⟨md_X8.1, md_X8.2, by decide +kernel⟩ rfl ⟨by decide, by decide⟩ (Nat.le_of_ble_eq_true rfl) dX8_addDigits_16 (fun v17 σ2 hq => ?_)
        obtain ⟨⟨hF, hv17⟩, rfl⟩ := hq
        replace E := zLet_s hF E
        refine zg_if_eq X 55 dX8_addDigits_19 (by decide) (fun c18 => ?_) (fun c18 => ?_)
        · skip
          replace E := zIf_t c18 E
          refine zg_aload_n X 2 rfl dX8_addDigits_55 ?_
          refine zg_iload X 0 rfl dX8_addDigits_56 ?_
          refine zg_iload_n X 5 rfl dX8_addDigits_58 ?_
          refine zg_isub X dX8_addDigits_59 (by omega) (by omega) (fun v19 ev19 hv19 => ?_)
          replace E := zLet_s ev19 E
          refine zg_iconst X 4 dX8_addDigits_60 (by decide) (fun v20 _ hv20 => ?_)
          replace E := zLet_s (zcst hv20 (by decide)) E
          refine zg_icmp_le X 69 dX8_addDigits_61 (by decide) (fun c21 => ?_) (fun c21 => ?_)
          · skip
            replace E := zIf_f (Int.not_lt.mpr c21) E
            refine zg_bipush X 23 dX8_addDigits_69 (by decide) (fun v22 _ hv22 => ?_)
            replace E := zLet_s (zcst hv22 (by decide)) E
            refine zg_iload X 1 rfl dX8_addDigits_71 ?_
            refine zg_i2l X dX8_addDigits_73 (fun v23 ev23 => ?_)
            replace E := zLet_s ev23 E
            refine zg_iload_n X 5 rfl dX8_addDigits_74 ?_
            refine zg_cVv (As := [.int v22, .long v23, .int p3]) (st := []) X ha0 rfl (by decide) rfl (t_X8_add l d L kd κ b _ hI a0 ha0 v22 v23 p3 ) mk_X8_49 mc_X8_add mz_X8 mi_X8_add ml_X8_add (na := 3) ⟨md_X8.1, md_X8.2, by decide +kernel⟩ rfl ⟨by decide, by decide⟩ (Nat.le_of_ble_eq_true rfl) dX8_addDigits_75 (fun s24 hq => ?_)
            obtain ⟨hF, hS2, hI⟩ := hq
            replace E := zLet_s hF E
            have hS := hS.tr hS2 rfl rfl
            refine zg_iload X 0 rfl dX8_addDigits_78 ?_
            exact ret _ _ _ _ dX8_addDigits_80 rfl ⟨E.symm.trans hR, hS, ⟨⟨by omega, by omega⟩, hI⟩⟩
          · skip
            replace E := zIf_t c21 E
            refine zg_bipush X 34 dX8_addDigits_64 (by decide) (fun v25 _ hv25 => ?_)
            replace E := zLet_s (zcst hv25 (by decide)) E
            refine zg_goto X 71 dX8_addDigits_66 (by decide) ?_
            refine zg_iload X 1 rfl dX8_addDigits_71 ?_
            refine zg_i2l X dX8_addDigits_73 (fun v26 ev26 => ?_)
            replace E := zLet_s ev26 E
            refine zg_iload_n X 5 rfl dX8_addDigits_74 ?_
            refine zg_cVv (As := [.int v25, .long v26, .int p3]) (st := []) X ha0 rfl (by decide) rfl (t_X8_add l d L kd κ b _ hI a0 ha0 v25 v26 p3 ) mk_X8_49 mc_X8_add mz_X8 mi_X8_add ml_X8_add (na := 3) ⟨md_X8.1, md_X8.2, by decide +kernel⟩ rfl ⟨by decide, by decide⟩ (Nat.le_of_ble_eq_true rfl) dX8_addDigits_75 (fun s27 hq => ?_)
            obtain ⟨hF, hS2, hI⟩ := hq
            replace E := zLet_s hF E
            have hS := hS.tr hS2 rfl rfl
            refine zg_iload X 0 rfl dX8_addDigits_78 ?_
            exact ret _ _ _ _ dX8_addDigits_80 rfl ⟨E.symm.trans hR, hS, ⟨⟨by omega, by omega⟩, hI⟩⟩
        · skip
          replace E := zIf_f c18 E
          refine zg_iload X 0 rfl dX8_addDigits_22 ?_
          refine zg_iload_n X 5 rfl dX8_addDigits_24 ?_
          refine zg_isub X dX8_addDigits_25 (by omega) (by omega) (fun v28 ev28 hv28 => ?_)
          replace E := zLet_s ev28 E
          refine zg_iconst X 4 dX8_addDigits_26 (by decide) (fun v29 _ hv29 => ?_)
          replace E := zLet_s (zcst hv29 (by decide)) E
          refine zg_icmp_ge X 46 dX8_addDigits_27 (by decide) (fun c30 => ?_) (fun c30 => ?_)
          · skip
            replace E := zIf_f (Int.not_lt.mpr c30) E
            refine zg_iconst X 0 dX8_addDigits_46 (by decide) (fun v31 _ hv31 => ?_)
            replace E := zLet_s (zcst hv31 (by decide)) E
            refine zg_istore X [(4, .int v31), (5, .int x2), (0, .ref a0), (1, .ref p1), (2, .int p2), (3, .int p3)] dX8_addDigits_47 (by decide) rfl ?_
            refine zg_iinc X 1 (fun v32 => [(5, .int v32), (4, .int v31), (0, .ref a0), (1, .ref p1), (2, .int p2), (3, .int p3)]) 1 dX8_addDigits_49 rfl (by decide) (by decide) (by omega) (by omega) (fun _ => rfl) (fun v32 ev32 hv32 => ?_)
            replace E := zLet_s (zinc ev32 (by decide)) E
            refine zg_goto X 6 dX8_addDigits_52 (by decide) ?_
            refine zg_sub [0, 1, 2, 3, 4, 5] rfl ?_
            exact ihLp4 _ v32 v31 hI hS E  (by omega) (by omega) 
          · skip
            replace E := zIf_t c30 E
            refine zg_iload X 1 rfl dX8_addDigits_30 ?_
            refine zg_bipush X 10 dX8_addDigits_32 (by decide) (fun v33 _ hv33 => ?_)
            replace E := zLet_s (zcst hv33 (by decide)) E
            refine zg_imulW X dX8_addDigits_34 (fun v34 ev34 => ?_)
            replace E := zLet_s ev34 E
            refine zg_aload_n X 3 rfl dX8_addDigits_35 ?_
            refine zg_iload X 0 rfl dX8_addDigits_36 ?_
            refine ag_39 X hI hp1 (by omega) (by omega) dX8_addDigits_38 (fun v35 ev35 hv35 => ?_)
            replace E := zLet_s ev35 E
            refine zg_bipush X 48 dX8_addDigits_39 (by decide) (fun v36 _ hv36 => ?_)
            replace E := zLet_s (zcst hv36 (by decide)) E
            refine zg_isub X dX8_addDigits_41 (by omega) (by omega) (fun v37 ev37 hv37 => ?_)
            replace E := zLet_s ev37 E
            refine zg_iaddW X dX8_addDigits_42 (fun v38 ev38 => ?_)
            replace E := zLet_s ev38 E
            refine zg_goto X 47 dX8_addDigits_43 (by decide) ?_
            refine zg_istore X [(4, .int v38), (5, .int x2), (0, .ref a0), (1, .ref p1), (2, .int p2), (3, .int p3)] dX8_addDigits_47 (by decide) rfl ?_
            refine zg_iinc X 1 (fun v39 => [(5, .int v39), (4, .int v38), (0, .ref a0), (1, .ref p1), (2, .int p2), (3, .int p3)]) 1 dX8_addDigits_49 rfl (by decide) (by decide) (by omega) (by omega) (fun _ => rfl) (fun v39 ev39 hv39 => ?_)
            replace E := zLet_s (zinc ev39 (by decide)) E
            refine zg_goto X 6 dX8_addDigits_52 (by decide) ?_
            refine zg_sub [0, 1, 2, 3, 4, 5] rfl ?_
            exact ihLp4 _ v39 v38 hI hS E  (by omega) (by omega) 
  refine zg_sub [0, 1, 2, 3, 4, 5] rfl ?_
  exact Lp4 10000 _ p3 v1 hI hS E  (by omega) (by omega) 
set_option maxHeartbeats 4000000 in
set_option maxRecDepth 100000 in
theorem t_X8_scan (l : Launch) (d : zD2) (L : List Nat) (kd : Nat → Nat) (κ : Int) (b : Nat) (σ : zS) (hI : zI κ b L kd σ) (a0 : Nat) (ha0 : zT L kd a0 8) (p1 : Nat) (hp1 : zT L kd p1 39) (p2 : Int32) (hq0 : p2.toInt ≤ 2000) : zMv l yX8_scan (Cond.code yX8_scan cX8_scan 8 none :: zWL) 4 [.ref a0, .ref p1, .int p2] d L kd σ (fun σ2 => σ2 = F_X8_scan a0 p1 p2 σ ∧ zSm [8, 41, 42, 43] [] L kd σ σ2 ∧ (zI κ b L kd σ2)) := by
  refine zMv.of (own := RX8) (by decide +kernel) rfl rfl (Nat.le_of_ble_eq_true rfl) ?_
  intro p e s m args below meth c A Q X ret
  refine zg_lv (lv2 := [(0, .ref a0), (1, .ref p1), (2, .int p2)]) rfl ?_
  obtain ⟨R, hR⟩ : ∃ R, R = F_X8_scan a0 p1 p2 σ := ⟨_, rfl⟩
  have E := hR
  unfold F_X8_scan at E
  have hS : zSm [8, 41, 42, 43] [] L kd σ σ := zSm.rf
  refine zg_aload_n X 0 rfl dX8_scan_0 ?_
  refine zg_iconst X 0 dX8_scan_1 (by decide) (fun v1 _ hv1 => ?_)
  replace E := zLet_s (zcst hv1 (by decide)) E
  refine fp_X8_23 X hI ha0 ⟨by omega, by omega⟩ dX8_scan_2 (fun s2 es2 hI => ?_)
  replace E := zLet_s es2 E
  have hS := hS.i ha0 es2 rfl
  have e3 : v1 = s2.1 a0 4 := by rw [es2]; exact zm_s
  refine zg_iconst X 0 dX8_scan_5 (by decide) (fun v4 _ hv4 => ?_)
  replace E := zLet_s (zcst hv4 (by decide)) E
  refine zg_istore_n X [(3, .int v4), (0, .ref a0), (1, .ref p1), (2, .int p2)] dX8_scan_6 (by decide) rfl ?_
  refine zg_iconst X 1 dX8_scan_7 (by decide) (fun v5 _ hv5 => ?_)
  replace E := zLet_s (zcst hv5 (by decide)) E
  refine zg_istore X [(4, .int v5), (3, .int v4), (0, .ref a0), (1, .ref p1), (2, .int p2)] dX8_scan_8 (by decide) rfl ?_
  refine zg_iconst X 0 dX8_scan_10 (by decide) (fun v6 _ hv6 => ?_)
  replace E := zLet_s (zcst hv6 (by decide)) E
  refine zg_istore X [(5, .int v6), (4, .int v5), (3, .int v4), (0, .ref a0), (1, .ref p1), (2, .int p2)] dX8_scan_11 (by decide) rfl ?_
  have Lp10 : ∀ (nLp10 : Nat) (τ10 : zS) (x7 : Int32) (x8 : Int32) (x9 : Int32), zI κ b L kd τ10 → zSm [8, 41, 42, 43] [] L kd σ τ10 → R = F_X8_scan_13 a0 p1 p2  nLp10 x7 x8 x9 τ10 → 0 ≤ x9.toInt ∧ x9.toInt ≤ 2000 ∧ 0 ≤ x8.toInt ∧ x8.toInt ≤ 1 ∧ 0 ≤ x7.toInt ∧ x7.toInt ≤ 401 → (401) - x7.toInt + 1 < (nLp10 : Int) → zG d L kd A 8 p l e (k2_rm 4 (100 * 4)) s m args below meth c Q τ10 13 [(5, .int x7), (4, .int x8), (3, .int x9), (0, .ref a0), (1, .ref p1), (2, .int p2)] [] := by
    intro nLp10
    induction nLp10 with
    | zero => intro τ10 x7 x8 x9 hI hS E  hxLp10 hm ; exact absurd hm (by omega)
    | succ nLp10 ihLp10 =>
      intro τ10 x7 x8 x9 hI hS E  hxLp10 hmLp10 
      rw [F_X8_scan_13] at E
      refine zg_iload X 0 rfl dX8_scan_13 ?_
      refine zg_sipush X 400 dX8_scan_15 (by decide) (fun v11 _ hv11 => ?_)
      replace E := zLet_s (zcst hv11 (by decide)) E
      refine zg_icmp_gt X 180 dX8_scan_18 (by decide) (fun c12 => ?_) (fun c12 => ?_)
      · skip
        replace E := zIf_t c12 E
        exact ret _ _ _ dX8_scan_180 ⟨E.symm.trans hR, hS, hI⟩
      · skip
        replace E := zIf_f (Int.not_lt.mpr c12) E
        refine zg_iload X 1 rfl dX8_scan_21 ?_
        refine zg_if_eq X 180 dX8_scan_23 (by decide) (fun c13 => ?_) (fun c13 => ?_)
        · skip
          replace E := zIf_t c13 E
          exact ret _ _ _ dX8_scan_180 ⟨E.symm.trans hR, hS, hI⟩
        · skip
          replace E := zIf_f c13 E
          refine zg_aload_n X 4 rfl dX8_scan_26 ?_
          refine zg_iload_n X 5 rfl dX8_scan_27 ?_
          refine zg_iload_n X 2 rfl dX8_scan_28 ?_
          refine zg_cSi (As := [.ref p1, .int p2, .int x9]) (st := []) X (t_X8_pastBlanks l d L kd κ b _ hI p1 hp1 p2 x9 (by omega) (by omega)) mk_X8_45 mc_X8_pastBlanks mz_X8 ms_X8_pastBlanks (na := 3) ⟨md_X8.1, md_X8.2, by decide +kernel⟩ rfl ⟨by decide, by decide⟩ (Nat.le_of_ble_eq_true rfl) dX8_scan_29 (fun v14 s15 hq => ?_)
          obtain ⟨hF, hS2, hI⟩ := hq
          replace E := zLet2_s hF E
          have hS := hS.tr hS2 rfl rfl
          obtain ⟨hv14, hI⟩ := hI
          refine zg_istore_n X [(3, .int v14), (5, .int x7), (4, .int x8), (0, .ref a0), (1, .ref p1), (2, .int p2)] dX8_scan_32 (by decide) rfl ?_
          refine zg_iload_n X 0 rfl dX8_scan_33 ?_
          refine zg_iload_n X 5 rfl dX8_scan_34 ?_
          have zp2_z16 := zb_rng p2
          refine zg_icmp_ge X 44 dX8_scan_35 (by decide) (fun c17 => ?_) (fun c17 => ?_)
          · skip
            replace E := zIf_f (Int.not_lt.mpr c17) E
            refine zg_iconst X 0 dX8_scan_44 (by decide) (fun v18 _ hv18 => ?_)
            replace E := zLet_s (zcst hv18 (by decide)) E
            refine zg_istore X [(6, .int v18), (3, .int v14), (5, .int x7), (4, .int x8), (0, .ref a0), (1, .ref p1), (2, .int p2)] dX8_scan_45 (by decide) rfl ?_
            refine zg_iload_n X 1 rfl dX8_scan_47 ?_
            refine zg_iload_n X 6 rfl dX8_scan_48 ?_
            have zp2_z19 := zb_rng p2
            refine zg_icmp_lt X 63 dX8_scan_49 (by decide) (fun c20 => ?_) (fun c20 => ?_)
            · skip
              replace E := zIf_t c20 E
              refine zg_iload X 0 rfl dX8_scan_63 ?_
              refine zg_cSi (As := [.int v18]) (st := []) X (t_X8_isLetter l d L kd _ v18 ) mk_X8_53 mc_X8_isLetter mz_X8 ms_X8_isLetter (na := 1) ⟨md_X8.1, md_X8.2, by decide +kernel⟩ rfl ⟨by decide, by decide⟩ (Nat.le_of_ble_eq_true rfl) dX8_scan_65 (fun v21 σ2 hq => ?_)
              obtain ⟨⟨hF, hv21⟩, rfl⟩ := hq
              replace E := zLet_s hF E
              refine zg_if_eq X 82 dX8_scan_68 (by decide) (fun c22 => ?_) (fun c22 => ?_)
              · skip
                replace E := zIf_t c22 E
                refine zg_iload X 0 rfl dX8_scan_82 ?_
                refine zg_cSi (As := [.int v18]) (st := []) X (t_X8_isDigit l d L kd _ v18 ) mk_X8_60 mc_X8_isDigit mz_X8 ms_X8_isDigit (na := 1) ⟨md_X8.1, md_X8.2, by decide +kernel⟩ rfl ⟨by decide, by decide⟩ (Nat.le_of_ble_eq_true rfl) dX8_scan_84 (fun v23 σ2 hq => ?_)
                obtain ⟨⟨hF, hv23⟩, rfl⟩ := hq
                replace E := zLet_s hF E
                refine zg_if_eq X 101 dX8_scan_87 (by decide) (fun c24 => ?_) (fun c24 => ?_)
                · skip
                  replace E := zIf_t c24 E
                  refine zg_iload X 0 rfl dX8_scan_101 ?_
                  refine zg_if_le X 117 dX8_scan_103 (by decide) (fun c25 => ?_) (fun c25 => ?_)
                  · skip
                    replace E := zIf_f (Int.not_lt.mpr c25) E
                    refine zg_iconst X (-1) dX8_scan_117 (by decide) (fun v26 _ hv26 => ?_)
                    replace E := zLet_s (zcst hv26 (by decide)) E
                    refine zg_istore X [(7, .int v26), (6, .int v18), (3, .int v14), (5, .int x7), (4, .int x8), (0, .ref a0), (1, .ref p1), (2, .int p2)] dX8_scan_118 (by decide) rfl ?_
                    refine zg_aload_n X 5 rfl dX8_scan_120 ?_
                    refine zg_iload X 0 rfl dX8_scan_121 ?_
                    refine zg_if_ge X 131 dX8_scan_123 (by decide) (fun c27 => ?_) (fun c27 => ?_)
                    · omega
                    · skip
                      replace E := zIf_t c27 E
                      refine zg_bipush X 34 dX8_scan_126 (by decide) (fun v28 _ hv28 => ?_)
                      replace E := zLet_s (zcst hv28 (by decide)) E
                      refine zg_goto X 136 dX8_scan_128 (by decide) ?_
                      refine zg_lconst X dX8_scan_136 (fun v29 ev29 => ?_)
                      replace E := zLet_s ev29 E
                      refine zg_iload_n X 2 rfl dX8_scan_137 ?_
                      refine zg_cVv (As := [.int v28, .long v29, .int v14]) (st := []) X ha0 rfl (by decide) rfl (t_X8_add l d L kd κ b _ hI a0 ha0 v28 v29 v14 ) mk_X8_49 mc_X8_add mz_X8 mi_X8_add ml_X8_add (na := 3) ⟨md_X8.1, md_X8.2, by decide +kernel⟩ rfl ⟨by decide, by decide⟩ (Nat.le_of_ble_eq_true rfl) dX8_scan_138 (fun s30 hq => ?_)
                      obtain ⟨hF, hS2, hI⟩ := hq
                      replace E := zLet_s hF E
                      have hS := hS.tr hS2 rfl rfl
                      refine zg_iinc X 1 (fun v31 => [(3, .int v31), (7, .int v26), (6, .int v18), (5, .int x7), (4, .int x8), (0, .ref a0), (1, .ref p1), (2, .int p2)]) 2 dX8_scan_141 rfl (by decide) (by decide) (by omega) (by omega) (fun _ => rfl) (fun v31 ev31 hv31 => ?_)
                      replace E := zLet_s (zinc ev31 (by decide)) E
                      refine zg_aload_n X 5 rfl dX8_scan_144 ?_
                      refine fg_X8_23 X hI ha0 dX8_scan_145 (fun v32 ev32 hv32 => ?_)
                      replace E := zLet_s ev32 E
                      refine zg_if_le X 171 dX8_scan_148 (by decide) (fun c33 => ?_) (fun c33 => ?_)
                      · skip
                        replace E := zIf_f (Int.not_lt.mpr c33) E
                        refine zg_iconst X 0 dX8_scan_171 (by decide) (fun v34 _ hv34 => ?_)
                        replace E := zLet_s (zcst hv34 (by decide)) E
                        refine zg_istore X [(4, .int v34), (3, .int v31), (7, .int v26), (6, .int v18), (5, .int x7), (0, .ref a0), (1, .ref p1), (2, .int p2)] dX8_scan_172 (by decide) rfl ?_
                        refine zg_iinc X 1 (fun v35 => [(5, .int v35), (4, .int v34), (3, .int v31), (7, .int v26), (6, .int v18), (0, .ref a0), (1, .ref p1), (2, .int p2)]) 4 dX8_scan_174 rfl (by decide) (by decide) (by omega) (by omega) (fun _ => rfl) (fun v35 ev35 hv35 => ?_)
                        replace E := zLet_s (zinc ev35 (by decide)) E
                        refine zg_goto X 13 dX8_scan_177 (by decide) ?_
                        refine zg_sub [0, 1, 2, 5, 6, 7] rfl ?_
                        exact ihLp10 _ v35 v34 v31 hI hS E  (by omega) (by omega) 
                      · skip
                        replace E := zIf_t c33 E
                        refine zg_aload_n X 5 rfl dX8_scan_151 ?_
                        refine fg_X8_13 X hI ha0 dX8_scan_152 (fun v36 ev36 hv36 => ?_)
                        replace E := zLet_s (zgr ev36) E
                        refine zg_aload_n X 5 rfl dX8_scan_155 ?_
                        refine fg_X8_23 X hI ha0 dX8_scan_156 (fun v37 ev37 hv37 => ?_)
                        replace E := zLet_s ev37 E
                        have mv37 : v37.toInt = v32.toInt := by rw [ev37, ← ev32]
                        refine zg_iconst X 1 dX8_scan_159 (by decide) (fun v38 _ hv38 => ?_)
                        replace E := zLet_s (zcst hv38 (by decide)) E
                        refine zg_isub X dX8_scan_160 (by omega) (by omega) (fun v39 ev39 hv39 => ?_)
                        replace E := zLet_s ev39 E
                        refine ag_41 X hI hv36 (by omega) (by omega) dX8_scan_161 (fun v40 ev40 _ => ?_)
                        replace E := zLet_s ev40 E
                        refine zg_bipush X 33 dX8_scan_162 (by decide) (fun v41 _ hv41 => ?_)
                        replace E := zLet_s (zcst hv41 (by decide)) E
                        have zv40_z42 := zb_rng v40
                        refine zg_icmp_ge X 171 dX8_scan_164 (by decide) (fun c43 => ?_) (fun c43 => ?_)
                        · skip
                          replace E := zIf_f (Int.not_lt.mpr c43) E
                          refine zg_iconst X 0 dX8_scan_171 (by decide) (fun v44 _ hv44 => ?_)
                          replace E := zLet_s (zcst hv44 (by decide)) E
                          refine zg_istore X [(4, .int v44), (3, .int v31), (7, .int v26), (6, .int v18), (5, .int x7), (0, .ref a0), (1, .ref p1), (2, .int p2)] dX8_scan_172 (by decide) rfl ?_
                          refine zg_iinc X 1 (fun v45 => [(5, .int v45), (4, .int v44), (3, .int v31), (7, .int v26), (6, .int v18), (0, .ref a0), (1, .ref p1), (2, .int p2)]) 4 dX8_scan_174 rfl (by decide) (by decide) (by omega) (by omega) (fun _ => rfl) (fun v45 ev45 hv45 => ?_)
                          replace E := zLet_s (zinc ev45 (by decide)) E
                          refine zg_goto X 13 dX8_scan_177 (by decide) ?_
                          refine zg_sub [0, 1, 2, 5, 6, 7] rfl ?_
                          exact ihLp10 _ v45 v44 v31 hI hS E  (by omega) (by omega) 
                        · skip
                          replace E := zIf_t c43 E
                          refine zg_iconst X 1 dX8_scan_167 (by decide) (fun v46 _ hv46 => ?_)
                          replace E := zLet_s (zcst hv46 (by decide)) E
                          refine zg_goto X 172 dX8_scan_168 (by decide) ?_
                          refine zg_istore X [(4, .int v46), (3, .int v31), (7, .int v26), (6, .int v18), (5, .int x7), (0, .ref a0), (1, .ref p1), (2, .int p2)] dX8_scan_172 (by decide) rfl ?_
                          refine zg_iinc X 1 (fun v47 => [(5, .int v47), (4, .int v46), (3, .int v31), (7, .int v26), (6, .int v18), (0, .ref a0), (1, .ref p1), (2, .int p2)]) 4 dX8_scan_174 rfl (by decide) (by decide) (by omega) (by omega) (fun _ => rfl) (fun v47 ev47 hv47 => ?_)
                          replace E := zLet_s (zinc ev47 (by decide)) E
                          refine zg_goto X 13 dX8_scan_177 (by decide) ?_
                          refine zg_sub [0, 1, 2, 5, 6, 7] rfl ?_
                          exact ihLp10 _ v47 v46 v31 hI hS E  (by omega) (by omega) 
                  · omega
                · skip
                  replace E := zIf_f c24 E
                  refine zg_aload_n X 4 rfl dX8_scan_90 ?_
                  refine zg_aload_n X 5 rfl dX8_scan_91 ?_
                  refine zg_iload_n X 6 rfl dX8_scan_92 ?_
                  refine zg_iload_n X 1 rfl dX8_scan_93 ?_
                  refine zg_cVi (As := [.ref p1, .int p2, .int v14]) (st := []) X ha0 rfl (by decide) rfl (t_X8_addDigits l d L kd κ b _ hI a0 ha0 p1 hp1 p2 v14 (by omega) (by omega)) mk_X8_63 mc_X8_addDigits mz_X8 mi_X8_addDigits ml_X8_addDigits (na := 3) ⟨md_X8.1, md_X8.2, by decide +kernel⟩ rfl ⟨by decide, by decide⟩ (Nat.le_of_ble_eq_true rfl) dX8_scan_94 (fun v48 s49 hq => ?_)
                  obtain ⟨hF, hS2, hI⟩ := hq
                  replace E := zLet2_s hF E
                  have hS := hS.tr hS2 rfl rfl
                  obtain ⟨hv48, hI⟩ := hI
                  refine zg_istore_n X [(3, .int v48), (6, .int v18), (5, .int x7), (4, .int x8), (0, .ref a0), (1, .ref p1), (2, .int p2)] dX8_scan_97 (by decide) rfl ?_
                  refine zg_goto X 144 dX8_scan_98 (by decide) ?_
                  refine zg_aload_n X 4 rfl dX8_scan_144 ?_
                  refine fg_X8_23 X hI ha0 dX8_scan_145 (fun v50 ev50 hv50 => ?_)
                  replace E := zLet_s ev50 E
                  refine zg_if_le X 171 dX8_scan_148 (by decide) (fun c51 => ?_) (fun c51 => ?_)
                  · skip
                    replace E := zIf_f (Int.not_lt.mpr c51) E
                    refine zg_iconst X 0 dX8_scan_171 (by decide) (fun v52 _ hv52 => ?_)
                    replace E := zLet_s (zcst hv52 (by decide)) E
                    refine zg_istore X [(4, .int v52), (3, .int v48), (6, .int v18), (5, .int x7), (0, .ref a0), (1, .ref p1), (2, .int p2)] dX8_scan_172 (by decide) rfl ?_
                    refine zg_iinc X 1 (fun v53 => [(5, .int v53), (4, .int v52), (3, .int v48), (6, .int v18), (0, .ref a0), (1, .ref p1), (2, .int p2)]) 3 dX8_scan_174 rfl (by decide) (by decide) (by omega) (by omega) (fun _ => rfl) (fun v53 ev53 hv53 => ?_)
                    replace E := zLet_s (zinc ev53 (by decide)) E
                    refine zg_goto X 13 dX8_scan_177 (by decide) ?_
                    refine zg_sub [0, 1, 2, 4, 5, 6] rfl ?_
                    exact ihLp10 _ v53 v52 v48 hI hS E  (by omega) (by omega) 
                  · skip
                    replace E := zIf_t c51 E
                    refine zg_aload_n X 4 rfl dX8_scan_151 ?_
                    refine fg_X8_13 X hI ha0 dX8_scan_152 (fun v54 ev54 hv54 => ?_)
                    replace E := zLet_s (zgr ev54) E
                    refine zg_aload_n X 4 rfl dX8_scan_155 ?_
                    refine fg_X8_23 X hI ha0 dX8_scan_156 (fun v55 ev55 hv55 => ?_)
                    replace E := zLet_s ev55 E
                    have mv55 : v55.toInt = v50.toInt := by rw [ev55, ← ev50]
                    refine zg_iconst X 1 dX8_scan_159 (by decide) (fun v56 _ hv56 => ?_)
                    replace E := zLet_s (zcst hv56 (by decide)) E
                    refine zg_isub X dX8_scan_160 (by omega) (by omega) (fun v57 ev57 hv57 => ?_)
                    replace E := zLet_s ev57 E
                    refine ag_41 X hI hv54 (by omega) (by omega) dX8_scan_161 (fun v58 ev58 _ => ?_)
                    replace E := zLet_s ev58 E
                    refine zg_bipush X 33 dX8_scan_162 (by decide) (fun v59 _ hv59 => ?_)
                    replace E := zLet_s (zcst hv59 (by decide)) E
                    have zv58_z60 := zb_rng v58
                    refine zg_icmp_ge X 171 dX8_scan_164 (by decide) (fun c61 => ?_) (fun c61 => ?_)
                    · skip
                      replace E := zIf_f (Int.not_lt.mpr c61) E
                      refine zg_iconst X 0 dX8_scan_171 (by decide) (fun v62 _ hv62 => ?_)
                      replace E := zLet_s (zcst hv62 (by decide)) E
                      refine zg_istore X [(4, .int v62), (3, .int v48), (6, .int v18), (5, .int x7), (0, .ref a0), (1, .ref p1), (2, .int p2)] dX8_scan_172 (by decide) rfl ?_
                      refine zg_iinc X 1 (fun v63 => [(5, .int v63), (4, .int v62), (3, .int v48), (6, .int v18), (0, .ref a0), (1, .ref p1), (2, .int p2)]) 3 dX8_scan_174 rfl (by decide) (by decide) (by omega) (by omega) (fun _ => rfl) (fun v63 ev63 hv63 => ?_)
                      replace E := zLet_s (zinc ev63 (by decide)) E
                      refine zg_goto X 13 dX8_scan_177 (by decide) ?_
                      refine zg_sub [0, 1, 2, 4, 5, 6] rfl ?_
                      exact ihLp10 _ v63 v62 v48 hI hS E  (by omega) (by omega) 
                    · skip
                      replace E := zIf_t c61 E
                      refine zg_iconst X 1 dX8_scan_167 (by decide) (fun v64 _ hv64 => ?_)
                      replace E := zLet_s (zcst hv64 (by decide)) E
                      refine zg_goto X 172 dX8_scan_168 (by decide) ?_
                      refine zg_istore X [(4, .int v64), (3, .int v48), (6, .int v18), (5, .int x7), (0, .ref a0), (1, .ref p1), (2, .int p2)] dX8_scan_172 (by decide) rfl ?_
                      refine zg_iinc X 1 (fun v65 => [(5, .int v65), (4, .int v64), (3, .int v48), (6, .int v18), (0, .ref a0), (1, .ref p1), (2, .int p2)]) 3 dX8_scan_174 rfl (by decide) (by decide) (by omega) (by omega) (fun _ => rfl) (fun v65 ev65 hv65 => ?_)
                      replace E := zLet_s (zinc ev65 (by decide)) E
                      refine zg_goto X 13 dX8_scan_177 (by decide) ?_
                      refine zg_sub [0, 1, 2, 4, 5, 6] rfl ?_
                      exact ihLp10 _ v65 v64 v48 hI hS E  (by omega) (by omega) 
              · skip
                replace E := zIf_f c22 E
                refine zg_aload_n X 4 rfl dX8_scan_71 ?_
                refine zg_aload_n X 5 rfl dX8_scan_72 ?_
                refine zg_iload_n X 6 rfl dX8_scan_73 ?_
                refine zg_iload_n X 1 rfl dX8_scan_74 ?_
                refine zg_cVi (As := [.ref p1, .int p2, .int v14]) (st := []) X ha0 rfl (by decide) rfl (t_X8_addLetters l d L kd κ b _ hI a0 ha0 p1 hp1 p2 v14 (by omega) (by omega)) mk_X8_57 mc_X8_addLetters mz_X8 mi_X8_addLetters ml_X8_addLetters (na := 3) ⟨md_X8.1, md_X8.2, by decide +kernel⟩ rfl ⟨by decide, by decide⟩ (Nat.le_of_ble_eq_true rfl) dX8_scan_75 (fun v66 s67 hq => ?_)
                obtain ⟨hF, hS2, hI⟩ := hq
                replace E := zLet2_s hF E
                have hS := hS.tr hS2 rfl rfl
                obtain ⟨hv66, hI⟩ := hI
                refine zg_istore_n X [(3, .int v66), (6, .int v18), (5, .int x7), (4, .int x8), (0, .ref a0), (1, .ref p1), (2, .int p2)] dX8_scan_78 (by decide) rfl ?_
                refine zg_goto X 144 dX8_scan_79 (by decide) ?_
                refine zg_aload_n X 4 rfl dX8_scan_144 ?_
                refine fg_X8_23 X hI ha0 dX8_scan_145 (fun v68 ev68 hv68 => ?_)
                replace E := zLet_s ev68 E
                refine zg_if_le X 171 dX8_scan_148 (by decide) (fun c69 => ?_) (fun c69 => ?_)
                · skip
                  replace E := zIf_f (Int.not_lt.mpr c69) E
                  refine zg_iconst X 0 dX8_scan_171 (by decide) (fun v70 _ hv70 => ?_)
                  replace E := zLet_s (zcst hv70 (by decide)) E
                  refine zg_istore X [(4, .int v70), (3, .int v66), (6, .int v18), (5, .int x7), (0, .ref a0), (1, .ref p1), (2, .int p2)] dX8_scan_172 (by decide) rfl ?_
                  refine zg_iinc X 1 (fun v71 => [(5, .int v71), (4, .int v70), (3, .int v66), (6, .int v18), (0, .ref a0), (1, .ref p1), (2, .int p2)]) 3 dX8_scan_174 rfl (by decide) (by decide) (by omega) (by omega) (fun _ => rfl) (fun v71 ev71 hv71 => ?_)
                  replace E := zLet_s (zinc ev71 (by decide)) E
                  refine zg_goto X 13 dX8_scan_177 (by decide) ?_
                  refine zg_sub [0, 1, 2, 4, 5, 6] rfl ?_
                  exact ihLp10 _ v71 v70 v66 hI hS E  (by omega) (by omega) 
                · skip
                  replace E := zIf_t c69 E
                  refine zg_aload_n X 4 rfl dX8_scan_151 ?_
                  refine fg_X8_13 X hI ha0 dX8_scan_152 (fun v72 ev72 hv72 => ?_)
                  replace E := zLet_s (zgr ev72) E
                  refine zg_aload_n X 4 rfl dX8_scan_155 ?_
                  refine fg_X8_23 X hI ha0 dX8_scan_156 (fun v73 ev73 hv73 => ?_)
                  replace E := zLet_s ev73 E
                  have mv73 : v73.toInt = v68.toInt := by rw [ev73, ← ev68]
                  refine zg_iconst X 1 dX8_scan_159 (by decide) (fun v74 _ hv74 => ?_)
                  replace E := zLet_s (zcst hv74 (by decide)) E
                  refine zg_isub X dX8_scan_160 (by omega) (by omega) (fun v75 ev75 hv75 => ?_)
                  replace E := zLet_s ev75 E
                  refine ag_41 X hI hv72 (by omega) (by omega) dX8_scan_161 (fun v76 ev76 _ => ?_)
                  replace E := zLet_s ev76 E
                  refine zg_bipush X 33 dX8_scan_162 (by decide) (fun v77 _ hv77 => ?_)
                  replace E := zLet_s (zcst hv77 (by decide)) E
                  have zv76_z78 := zb_rng v76
                  refine zg_icmp_ge X 171 dX8_scan_164 (by decide) (fun c79 => ?_) (fun c79 => ?_)
                  · skip
                    replace E := zIf_f (Int.not_lt.mpr c79) E
                    refine zg_iconst X 0 dX8_scan_171 (by decide) (fun v80 _ hv80 => ?_)
                    replace E := zLet_s (zcst hv80 (by decide)) E
                    refine zg_istore X [(4, .int v80), (3, .int v66), (6, .int v18), (5, .int x7), (0, .ref a0), (1, .ref p1), (2, .int p2)] dX8_scan_172 (by decide) rfl ?_
                    refine zg_iinc X 1 (fun v81 => [(5, .int v81), (4, .int v80), (3, .int v66), (6, .int v18), (0, .ref a0), (1, .ref p1), (2, .int p2)]) 3 dX8_scan_174 rfl (by decide) (by decide) (by omega) (by omega) (fun _ => rfl) (fun v81 ev81 hv81 => ?_)
                    replace E := zLet_s (zinc ev81 (by decide)) E
                    refine zg_goto X 13 dX8_scan_177 (by decide) ?_
                    refine zg_sub [0, 1, 2, 4, 5, 6] rfl ?_
                    exact ihLp10 _ v81 v80 v66 hI hS E  (by omega) (by omega) 
                  · skip
                    replace E := zIf_t c79 E
                    refine zg_iconst X 1 dX8_scan_167 (by decide) (fun v82 _ hv82 => ?_)
                    replace E := zLet_s (zcst hv82 (by decide)) E
                    refine zg_goto X 172 dX8_scan_168 (by decide) ?_
                    refine zg_istore X [(4, .int v82), (3, .int v66), (6, .int v18), (5, .int x7), (0, .ref a0), (1, .ref p1), (2, .int p2)] dX8_scan_172 (by decide) rfl ?_
                    refine zg_iinc X 1 (fun v83 => [(5, .int v83), (4, .int v82), (3, .int v66), (6, .int v18), (0, .ref a0), (1, .ref p1), (2, .int p2)]) 3 dX8_scan_174 rfl (by decide) (by decide) (by omega) (by omega) (fun _ => rfl) (fun v83 ev83 hv83 => ?_)
                    replace E := zLet_s (zinc ev83 (by decide)) E
                    refine zg_goto X 13 dX8_scan_177 (by decide) ?_
                    refine zg_sub [0, 1, 2, 4, 5, 6] rfl ?_
                    exact ihLp10 _ v83 v82 v66 hI hS E  (by omega) (by omega) 
            · skip
              replace E := zIf_f (Int.not_lt.mpr c20) E
              refine zg_aload_n X 4 rfl dX8_scan_52 ?_
              refine zg_bipush X 33 dX8_scan_53 (by decide) (fun v84 _ hv84 => ?_)
              replace E := zLet_s (zcst hv84 (by decide)) E
              refine zg_lconst X dX8_scan_55 (fun v85 ev85 => ?_)
              replace E := zLet_s ev85 E
              refine zg_iload_n X 6 rfl dX8_scan_56 ?_
              refine zg_cVv (As := [.int v84, .long v85, .int p2]) (st := []) X ha0 rfl (by decide) rfl (t_X8_add l d L kd κ b _ hI a0 ha0 v84 v85 p2 ) mk_X8_49 mc_X8_add mz_X8 mi_X8_add ml_X8_add (na := 3) ⟨md_X8.1, md_X8.2, by decide +kernel⟩ rfl ⟨by decide, by decide⟩ (Nat.le_of_ble_eq_true rfl) dX8_scan_57 (fun s86 hq => ?_)
              obtain ⟨hF, hS2, hI⟩ := hq
              replace E := zLet_s hF E
              have hS := hS.tr hS2 rfl rfl
              refine zg_goto X 144 dX8_scan_60 (by decide) ?_
              refine zg_aload_n X 4 rfl dX8_scan_144 ?_
              refine fg_X8_23 X hI ha0 dX8_scan_145 (fun v87 ev87 hv87 => ?_)
              replace E := zLet_s ev87 E
              refine zg_if_le X 171 dX8_scan_148 (by decide) (fun c88 => ?_) (fun c88 => ?_)
              · skip
                replace E := zIf_f (Int.not_lt.mpr c88) E
                refine zg_iconst X 0 dX8_scan_171 (by decide) (fun v89 _ hv89 => ?_)
                replace E := zLet_s (zcst hv89 (by decide)) E
                refine zg_istore X [(4, .int v89), (6, .int v18), (3, .int v14), (5, .int x7), (0, .ref a0), (1, .ref p1), (2, .int p2)] dX8_scan_172 (by decide) rfl ?_
                refine zg_iinc X 1 (fun v90 => [(5, .int v90), (4, .int v89), (6, .int v18), (3, .int v14), (0, .ref a0), (1, .ref p1), (2, .int p2)]) 3 dX8_scan_174 rfl (by decide) (by decide) (by omega) (by omega) (fun _ => rfl) (fun v90 ev90 hv90 => ?_)
                replace E := zLet_s (zinc ev90 (by decide)) E
                refine zg_goto X 13 dX8_scan_177 (by decide) ?_
                refine zg_sub [0, 1, 3, 4, 5, 6] rfl ?_
                exact ihLp10 _ v90 v89 v14 hI hS E  (by omega) (by omega) 
              · skip
                replace E := zIf_t c88 E
                refine zg_aload_n X 4 rfl dX8_scan_151 ?_
                refine fg_X8_13 X hI ha0 dX8_scan_152 (fun v91 ev91 hv91 => ?_)
                replace E := zLet_s (zgr ev91) E
                refine zg_aload_n X 4 rfl dX8_scan_155 ?_
                refine fg_X8_23 X hI ha0 dX8_scan_156 (fun v92 ev92 hv92 => ?_)
                replace E := zLet_s ev92 E
                have mv92 : v92.toInt = v87.toInt := by rw [ev92, ← ev87]
                refine zg_iconst X 1 dX8_scan_159 (by decide) (fun v93 _ hv93 => ?_)
                replace E := zLet_s (zcst hv93 (by decide)) E
                refine zg_isub X dX8_scan_160 (by omega) (by omega) (fun v94 ev94 hv94 => ?_)
                replace E := zLet_s ev94 E
                refine ag_41 X hI hv91 (by omega) (by omega) dX8_scan_161 (fun v95 ev95 _ => ?_)
                replace E := zLet_s ev95 E
                refine zg_bipush X 33 dX8_scan_162 (by decide) (fun v96 _ hv96 => ?_)
                replace E := zLet_s (zcst hv96 (by decide)) E
                have zv95_z97 := zb_rng v95
                refine zg_icmp_ge X 171 dX8_scan_164 (by decide) (fun c98 => ?_) (fun c98 => ?_)
                · skip
                  replace E := zIf_f (Int.not_lt.mpr c98) E
                  refine zg_iconst X 0 dX8_scan_171 (by decide) (fun v99 _ hv99 => ?_)
                  replace E := zLet_s (zcst hv99 (by decide)) E
                  refine zg_istore X [(4, .int v99), (6, .int v18), (3, .int v14), (5, .int x7), (0, .ref a0), (1, .ref p1), (2, .int p2)] dX8_scan_172 (by decide) rfl ?_
                  refine zg_iinc X 1 (fun v100 => [(5, .int v100), (4, .int v99), (6, .int v18), (3, .int v14), (0, .ref a0), (1, .ref p1), (2, .int p2)]) 3 dX8_scan_174 rfl (by decide) (by decide) (by omega) (by omega) (fun _ => rfl) (fun v100 ev100 hv100 => ?_)
                  replace E := zLet_s (zinc ev100 (by decide)) E
                  refine zg_goto X 13 dX8_scan_177 (by decide) ?_
                  refine zg_sub [0, 1, 3, 4, 5, 6] rfl ?_
                  exact ihLp10 _ v100 v99 v14 hI hS E  (by omega) (by omega) 
                · skip
                  replace E := zIf_t c98 E
                  refine zg_iconst X 1 dX8_scan_167 (by decide) (fun v101 _ hv101 => ?_)
                  replace E := zLet_s (zcst hv101 (by decide)) E
                  refine zg_goto X 172 dX8_scan_168 (by decide) ?_
                  refine zg_istore X [(4, .int v101), (6, .int v18), (3, .int v14), (5, .int x7), (0, .ref a0), (1, .ref p1), (2, .int p2)] dX8_scan_172 (by decide) rfl ?_
                  refine zg_iinc X 1 (fun v102 => [(5, .int v102), (4, .int v101), (6, .int v18), (3, .int v14), (0, .ref a0), (1, .ref p1), (2, .int p2)]) 3 dX8_scan_174 rfl (by decide) (by decide) (by omega) (by omega) (fun _ => rfl) (fun v102 ev102 hv102 => ?_)
                  replace E := zLet_s (zinc ev102 (by decide)) E
                  refine zg_goto X 13 dX8_scan_177 (by decide) ?_
                  refine zg_sub [0, 1, 3, 4, 5, 6] rfl ?_
                  exact ihLp10 _ v102 v101 v14 hI hS E  (by omega) (by omega) 
          · skip
            replace E := zIf_t c17 E
            refine zg_aload_n X 4 rfl dX8_scan_38 ?_
            refine zg_iload_n X 0 rfl dX8_scan_39 ?_
            refine ag_39 X hI hp1 (by omega) (by omega) dX8_scan_40 (fun v103 ev103 hv103 => ?_)
            replace E := zLet_s ev103 E
            refine zg_goto X 45 dX8_scan_41 (by decide) ?_
            refine zg_istore X [(6, .int v103), (3, .int v14), (5, .int x7), (4, .int x8), (0, .ref a0), (1, .ref p1), (2, .int p2)] dX8_scan_45 (by decide) rfl ?_
            refine zg_iload_n X 1 rfl dX8_scan_47 ?_
            refine zg_iload_n X 6 rfl dX8_scan_48 ?_
            refine zg_icmp_lt X 63 dX8_scan_49 (by decide) (fun c104 => ?_) (fun c104 => ?_)
            · skip
              replace E := zIf_t c104 E
              refine zg_iload X 0 rfl dX8_scan_63 ?_
              refine zg_cSi (As := [.int v103]) (st := []) X (t_X8_isLetter l d L kd _ v103 ) mk_X8_53 mc_X8_isLetter mz_X8 ms_X8_isLetter (na := 1) ⟨md_X8.1, md_X8.2, by decide +kernel⟩ rfl ⟨by decide, by decide⟩ (Nat.le_of_ble_eq_true rfl) dX8_scan_65 (fun v105 σ2 hq => ?_)
              obtain ⟨⟨hF, hv105⟩, rfl⟩ := hq
              replace E := zLet_s hF E
              refine zg_if_eq X 82 dX8_scan_68 (by decide) (fun c106 => ?_) (fun c106 => ?_)
              · skip
                replace E := zIf_t c106 E
                refine zg_iload X 0 rfl dX8_scan_82 ?_
                refine zg_cSi (As := [.int v103]) (st := []) X (t_X8_isDigit l d L kd _ v103 ) mk_X8_60 mc_X8_isDigit mz_X8 ms_X8_isDigit (na := 1) ⟨md_X8.1, md_X8.2, by decide +kernel⟩ rfl ⟨by decide, by decide⟩ (Nat.le_of_ble_eq_true rfl) dX8_scan_84 (fun v107 σ2 hq => ?_)
                obtain ⟨⟨hF, hv107⟩, rfl⟩ := hq
                replace E := zLet_s hF E
                refine zg_if_eq X 101 dX8_scan_87 (by decide) (fun c108 => ?_) (fun c108 => ?_)
                · skip
                  replace E := zIf_t c108 E
                  refine zg_iload X 0 rfl dX8_scan_101 ?_
                  refine zg_if_le X 117 dX8_scan_103 (by decide) (fun c109 => ?_) (fun c109 => ?_)
                  · skip
                    replace E := zIf_f (Int.not_lt.mpr c109) E
                    refine zg_iconst X (-1) dX8_scan_117 (by decide) (fun v110 _ hv110 => ?_)
                    replace E := zLet_s (zcst hv110 (by decide)) E
                    refine zg_istore X [(7, .int v110), (6, .int v103), (3, .int v14), (5, .int x7), (4, .int x8), (0, .ref a0), (1, .ref p1), (2, .int p2)] dX8_scan_118 (by decide) rfl ?_
                    refine zg_aload_n X 5 rfl dX8_scan_120 ?_
                    refine zg_iload X 0 rfl dX8_scan_121 ?_
                    refine zg_if_ge X 131 dX8_scan_123 (by decide) (fun c111 => ?_) (fun c111 => ?_)
                    · omega
                    · skip
                      replace E := zIf_t c111 E
                      refine zg_bipush X 34 dX8_scan_126 (by decide) (fun v112 _ hv112 => ?_)
                      replace E := zLet_s (zcst hv112 (by decide)) E
                      refine zg_goto X 136 dX8_scan_128 (by decide) ?_
                      refine zg_lconst X dX8_scan_136 (fun v113 ev113 => ?_)
                      replace E := zLet_s ev113 E
                      refine zg_iload_n X 2 rfl dX8_scan_137 ?_
                      refine zg_cVv (As := [.int v112, .long v113, .int v14]) (st := []) X ha0 rfl (by decide) rfl (t_X8_add l d L kd κ b _ hI a0 ha0 v112 v113 v14 ) mk_X8_49 mc_X8_add mz_X8 mi_X8_add ml_X8_add (na := 3) ⟨md_X8.1, md_X8.2, by decide +kernel⟩ rfl ⟨by decide, by decide⟩ (Nat.le_of_ble_eq_true rfl) dX8_scan_138 (fun s114 hq => ?_)
                      obtain ⟨hF, hS2, hI⟩ := hq
                      replace E := zLet_s hF E
                      have hS := hS.tr hS2 rfl rfl
                      refine zg_iinc X 1 (fun v115 => [(3, .int v115), (7, .int v110), (6, .int v103), (5, .int x7), (4, .int x8), (0, .ref a0), (1, .ref p1), (2, .int p2)]) 2 dX8_scan_141 rfl (by decide) (by decide) (by omega) (by omega) (fun _ => rfl) (fun v115 ev115 hv115 => ?_)
                      replace E := zLet_s (zinc ev115 (by decide)) E
                      refine zg_aload_n X 5 rfl dX8_scan_144 ?_
                      refine fg_X8_23 X hI ha0 dX8_scan_145 (fun v116 ev116 hv116 => ?_)
                      replace E := zLet_s ev116 E
                      refine zg_if_le X 171 dX8_scan_148 (by decide) (fun c117 => ?_) (fun c117 => ?_)
                      · skip
                        replace E := zIf_f (Int.not_lt.mpr c117) E
                        refine zg_iconst X 0 dX8_scan_171 (by decide) (fun v118 _ hv118 => ?_)
                        replace E := zLet_s (zcst hv118 (by decide)) E
                        refine zg_istore X [(4, .int v118), (3, .int v115), (7, .int v110), (6, .int v103), (5, .int x7), (0, .ref a0), (1, .ref p1), (2, .int p2)] dX8_scan_172 (by decide) rfl ?_
                        refine zg_iinc X 1 (fun v119 => [(5, .int v119), (4, .int v118), (3, .int v115), (7, .int v110), (6, .int v103), (0, .ref a0), (1, .ref p1), (2, .int p2)]) 4 dX8_scan_174 rfl (by decide) (by decide) (by omega) (by omega) (fun _ => rfl) (fun v119 ev119 hv119 => ?_)
                        replace E := zLet_s (zinc ev119 (by decide)) E
                        refine zg_goto X 13 dX8_scan_177 (by decide) ?_
                        refine zg_sub [0, 1, 2, 5, 6, 7] rfl ?_
                        exact ihLp10 _ v119 v118 v115 hI hS E  (by omega) (by omega) 
                      · skip
                        replace E := zIf_t c117 E
                        refine zg_aload_n X 5 rfl dX8_scan_151 ?_
                        refine fg_X8_13 X hI ha0 dX8_scan_152 (fun v120 ev120 hv120 => ?_)
                        replace E := zLet_s (zgr ev120) E
                        refine zg_aload_n X 5 rfl dX8_scan_155 ?_
                        refine fg_X8_23 X hI ha0 dX8_scan_156 (fun v121 ev121 hv121 => ?_)
                        replace E := zLet_s ev121 E
                        have mv121 : v121.toInt = v116.toInt := by rw [ev121, ← ev116]
                        refine zg_iconst X 1 dX8_scan_159 (by decide) (fun v122 _ hv122 => ?_)
                        replace E := zLet_s (zcst hv122 (by decide)) E
                        refine zg_isub X dX8_scan_160 (by omega) (by omega) (fun v123 ev123 hv123 => ?_)
                        replace E := zLet_s ev123 E
                        refine ag_41 X hI hv120 (by omega) (by omega) dX8_scan_161 (fun v124 ev124 _ => ?_)
                        replace E := zLet_s ev124 E
                        refine zg_bipush X 33 dX8_scan_162 (by decide) (fun v125 _ hv125 => ?_)
                        replace E := zLet_s (zcst hv125 (by decide)) E
                        have zv124_z126 := zb_rng v124
                        refine zg_icmp_ge X 171 dX8_scan_164 (by decide) (fun c127 => ?_) (fun c127 => ?_)
                        · skip
                          replace E := zIf_f (Int.not_lt.mpr c127) E
                          refine zg_iconst X 0 dX8_scan_171 (by decide) (fun v128 _ hv128 => ?_)
                          replace E := zLet_s (zcst hv128 (by decide)) E
                          refine zg_istore X [(4, .int v128), (3, .int v115), (7, .int v110), (6, .int v103), (5, .int x7), (0, .ref a0), (1, .ref p1), (2, .int p2)] dX8_scan_172 (by decide) rfl ?_
                          refine zg_iinc X 1 (fun v129 => [(5, .int v129), (4, .int v128), (3, .int v115), (7, .int v110), (6, .int v103), (0, .ref a0), (1, .ref p1), (2, .int p2)]) 4 dX8_scan_174 rfl (by decide) (by decide) (by omega) (by omega) (fun _ => rfl) (fun v129 ev129 hv129 => ?_)
                          replace E := zLet_s (zinc ev129 (by decide)) E
                          refine zg_goto X 13 dX8_scan_177 (by decide) ?_
                          refine zg_sub [0, 1, 2, 5, 6, 7] rfl ?_
                          exact ihLp10 _ v129 v128 v115 hI hS E  (by omega) (by omega) 
                        · skip
                          replace E := zIf_t c127 E
                          refine zg_iconst X 1 dX8_scan_167 (by decide) (fun v130 _ hv130 => ?_)
                          replace E := zLet_s (zcst hv130 (by decide)) E
                          refine zg_goto X 172 dX8_scan_168 (by decide) ?_
                          refine zg_istore X [(4, .int v130), (3, .int v115), (7, .int v110), (6, .int v103), (5, .int x7), (0, .ref a0), (1, .ref p1), (2, .int p2)] dX8_scan_172 (by decide) rfl ?_
                          refine zg_iinc X 1 (fun v131 => [(5, .int v131), (4, .int v130), (3, .int v115), (7, .int v110), (6, .int v103), (0, .ref a0), (1, .ref p1), (2, .int p2)]) 4 dX8_scan_174 rfl (by decide) (by decide) (by omega) (by omega) (fun _ => rfl) (fun v131 ev131 hv131 => ?_)
                          replace E := zLet_s (zinc ev131 (by decide)) E
                          refine zg_goto X 13 dX8_scan_177 (by decide) ?_
                          refine zg_sub [0, 1, 2, 5, 6, 7] rfl ?_
                          exact ihLp10 _ v131 v130 v115 hI hS E  (by omega) (by omega) 
                  · skip
                    replace E := zIf_t c109 E
                    refine zg_sldc (i := 1) X (by decide) rfl dX8_scan_106 ?_
                    refine zg_iload X 0 rfl dX8_scan_108 ?_
                    refine zg_i2c X dX8_scan_110 (fun v132 ev132 => ?_)
                    replace E := zLet_s ev132 E
                    refine zg_cKi (As := [.int v132]) (st := []) X (by decide) rfl (t_J0_indexOf_0f7a4 l d L kd _ 1 (by decide) v132 ) mk_X8_68 mc_J0_indexOf_0f7a4 mz_J0 mi_J0_indexOf_0f7a4 ml_J0_indexOf_0f7a4 (na := 1) ⟨md_J0.1, md_J0.2, by decide +kernel⟩ rfl ⟨by decide, by decide⟩ (Nat.le_of_ble_eq_true rfl) dX8_scan_111 (fun v133 σ2 hq => ?_)
                    obtain ⟨⟨hF, hv133⟩, rfl⟩ := hq
                    replace E := zLet_s hF E
                    refine zg_goto X 118 dX8_scan_114 (by decide) ?_
                    refine zg_istore X [(7, .int v133), (6, .int v103), (3, .int v14), (5, .int x7), (4, .int x8), (0, .ref a0), (1, .ref p1), (2, .int p2)] dX8_scan_118 (by decide) rfl ?_
                    refine zg_aload_n X 5 rfl dX8_scan_120 ?_
                    refine zg_iload X 0 rfl dX8_scan_121 ?_
                    refine zg_if_ge X 131 dX8_scan_123 (by decide) (fun c134 => ?_) (fun c134 => ?_)
                    · skip
                      replace E := zIf_f (Int.not_lt.mpr c134) E
                      refine zg_bipush X 24 dX8_scan_131 (by decide) (fun v135 _ hv135 => ?_)
                      replace E := zLet_s (zcst hv135 (by decide)) E
                      refine zg_iload X 0 rfl dX8_scan_133 ?_
                      refine zg_iaddW X dX8_scan_135 (fun v136 ev136 => ?_)
                      replace E := zLet_s ev136 E
                      refine zg_lconst X dX8_scan_136 (fun v137 ev137 => ?_)
                      replace E := zLet_s ev137 E
                      refine zg_iload_n X 2 rfl dX8_scan_137 ?_
                      refine zg_cVv (As := [.int v136, .long v137, .int v14]) (st := []) X ha0 rfl (by decide) rfl (t_X8_add l d L kd κ b _ hI a0 ha0 v136 v137 v14 ) mk_X8_49 mc_X8_add mz_X8 mi_X8_add ml_X8_add (na := 3) ⟨md_X8.1, md_X8.2, by decide +kernel⟩ rfl ⟨by decide, by decide⟩ (Nat.le_of_ble_eq_true rfl) dX8_scan_138 (fun s138 hq => ?_)
                      obtain ⟨hF, hS2, hI⟩ := hq
                      replace E := zLet_s hF E
                      have hS := hS.tr hS2 rfl rfl
                      refine zg_iinc X 1 (fun v139 => [(3, .int v139), (7, .int v133), (6, .int v103), (5, .int x7), (4, .int x8), (0, .ref a0), (1, .ref p1), (2, .int p2)]) 2 dX8_scan_141 rfl (by decide) (by decide) (by omega) (by omega) (fun _ => rfl) (fun v139 ev139 hv139 => ?_)
                      replace E := zLet_s (zinc ev139 (by decide)) E
                      refine zg_aload_n X 5 rfl dX8_scan_144 ?_
                      refine fg_X8_23 X hI ha0 dX8_scan_145 (fun v140 ev140 hv140 => ?_)
                      replace E := zLet_s ev140 E
                      refine zg_if_le X 171 dX8_scan_148 (by decide) (fun c141 => ?_) (fun c141 => ?_)
                      · skip
                        replace E := zIf_f (Int.not_lt.mpr c141) E
                        refine zg_iconst X 0 dX8_scan_171 (by decide) (fun v142 _ hv142 => ?_)
                        replace E := zLet_s (zcst hv142 (by decide)) E
                        refine zg_istore X [(4, .int v142), (3, .int v139), (7, .int v133), (6, .int v103), (5, .int x7), (0, .ref a0), (1, .ref p1), (2, .int p2)] dX8_scan_172 (by decide) rfl ?_
                        refine zg_iinc X 1 (fun v143 => [(5, .int v143), (4, .int v142), (3, .int v139), (7, .int v133), (6, .int v103), (0, .ref a0), (1, .ref p1), (2, .int p2)]) 4 dX8_scan_174 rfl (by decide) (by decide) (by omega) (by omega) (fun _ => rfl) (fun v143 ev143 hv143 => ?_)
                        replace E := zLet_s (zinc ev143 (by decide)) E
                        refine zg_goto X 13 dX8_scan_177 (by decide) ?_
                        refine zg_sub [0, 1, 2, 5, 6, 7] rfl ?_
                        exact ihLp10 _ v143 v142 v139 hI hS E  (by omega) (by omega) 
                      · skip
                        replace E := zIf_t c141 E
                        refine zg_aload_n X 5 rfl dX8_scan_151 ?_
                        refine fg_X8_13 X hI ha0 dX8_scan_152 (fun v144 ev144 hv144 => ?_)
                        replace E := zLet_s (zgr ev144) E
                        refine zg_aload_n X 5 rfl dX8_scan_155 ?_
                        refine fg_X8_23 X hI ha0 dX8_scan_156 (fun v145 ev145 hv145 => ?_)
                        replace E := zLet_s ev145 E
                        have mv145 : v145.toInt = v140.toInt := by rw [ev145, ← ev140]
                        refine zg_iconst X 1 dX8_scan_159 (by decide) (fun v146 _ hv146 => ?_)
                        replace E := zLet_s (zcst hv146 (by decide)) E
                        refine zg_isub X dX8_scan_160 (by omega) (by omega) (fun v147 ev147 hv147 => ?_)
                        replace E := zLet_s ev147 E
                        refine ag_41 X hI hv144 (by omega) (by omega) dX8_scan_161 (fun v148 ev148 _ => ?_)
                        replace E := zLet_s ev148 E
                        refine zg_bipush X 33 dX8_scan_162 (by decide) (fun v149 _ hv149 => ?_)
                        replace E := zLet_s (zcst hv149 (by decide)) E
                        have zv148_z150 := zb_rng v148
                        refine zg_icmp_ge X 171 dX8_scan_164 (by decide) (fun c151 => ?_) (fun c151 => ?_)
                        · skip
                          replace E := zIf_f (Int.not_lt.mpr c151) E
                          refine zg_iconst X 0 dX8_scan_171 (by decide) (fun v152 _ hv152 => ?_)
                          replace E := zLet_s (zcst hv152 (by decide)) E
                          refine zg_istore X [(4, .int v152), (3, .int v139), (7, .int v133), (6, .int v103), (5, .int x7), (0, .ref a0), (1, .ref p1), (2, .int p2)] dX8_scan_172 (by decide) rfl ?_
                          refine zg_iinc X 1 (fun v153 => [(5, .int v153), (4, .int v152), (3, .int v139), (7, .int v133), (6, .int v103), (0, .ref a0), (1, .ref p1), (2, .int p2)]) 4 dX8_scan_174 rfl (by decide) (by decide) (by omega) (by omega) (fun _ => rfl) (fun v153 ev153 hv153 => ?_)
                          replace E := zLet_s (zinc ev153 (by decide)) E
                          refine zg_goto X 13 dX8_scan_177 (by decide) ?_
                          refine zg_sub [0, 1, 2, 5, 6, 7] rfl ?_
                          exact ihLp10 _ v153 v152 v139 hI hS E  (by omega) (by omega) 
                        · skip
                          replace E := zIf_t c151 E
                          refine zg_iconst X 1 dX8_scan_167 (by decide) (fun v154 _ hv154 => ?_)
                          replace E := zLet_s (zcst hv154 (by decide)) E
                          refine zg_goto X 172 dX8_scan_168 (by decide) ?_
                          refine zg_istore X [(4, .int v154), (3, .int v139), (7, .int v133), (6, .int v103), (5, .int x7), (0, .ref a0), (1, .ref p1), (2, .int p2)] dX8_scan_172 (by decide) rfl ?_
                          refine zg_iinc X 1 (fun v155 => [(5, .int v155), (4, .int v154), (3, .int v139), (7, .int v133), (6, .int v103), (0, .ref a0), (1, .ref p1), (2, .int p2)]) 4 dX8_scan_174 rfl (by decide) (by decide) (by omega) (by omega) (fun _ => rfl) (fun v155 ev155 hv155 => ?_)
                          replace E := zLet_s (zinc ev155 (by decide)) E
                          refine zg_goto X 13 dX8_scan_177 (by decide) ?_
                          refine zg_sub [0, 1, 2, 5, 6, 7] rfl ?_
                          exact ihLp10 _ v155 v154 v139 hI hS E  (by omega) (by omega) 
                    · skip
                      replace E := zIf_t c134 E
                      refine zg_bipush X 34 dX8_scan_126 (by decide) (fun v156 _ hv156 => ?_)
                      replace E := zLet_s (zcst hv156 (by decide)) E
                      refine zg_goto X 136 dX8_scan_128 (by decide) ?_
                      refine zg_lconst X dX8_scan_136 (fun v157 ev157 => ?_)
                      replace E := zLet_s ev157 E
                      refine zg_iload_n X 2 rfl dX8_scan_137 ?_
                      refine zg_cVv (As := [.int v156, .long v157, .int v14]) (st := []) X ha0 rfl (by decide) rfl (t_X8_add l d L kd κ b _ hI a0 ha0 v156 v157 v14 ) mk_X8_49 mc_X8_add mz_X8 mi_X8_add ml_X8_add (na := 3) ⟨md_X8.1, md_X8.2, by decide +kernel⟩ rfl ⟨by decide, by decide⟩ (Nat.le_of_ble_eq_true rfl) dX8_scan_138 (fun s158 hq => ?_)
                      obtain ⟨hF, hS2, hI⟩ := hq
                      replace E := zLet_s hF E
                      have hS := hS.tr hS2 rfl rfl
                      refine zg_iinc X 1 (fun v159 => [(3, .int v159), (7, .int v133), (6, .int v103), (5, .int x7), (4, .int x8), (0, .ref a0), (1, .ref p1), (2, .int p2)]) 2 dX8_scan_141 rfl (by decide) (by decide) (by omega) (by omega) (fun _ => rfl) (fun v159 ev159 hv159 => ?_)
                      replace E := zLet_s (zinc ev159 (by decide)) E
                      refine zg_aload_n X 5 rfl dX8_scan_144 ?_
                      refine fg_X8_23 X hI ha0 dX8_scan_145 (fun v160 ev160 hv160 => ?_)
                      replace E := zLet_s ev160 E
                      refine zg_if_le X 171 dX8_scan_148 (by decide) (fun c161 => ?_) (fun c161 => ?_)
                      · skip
                        replace E := zIf_f (Int.not_lt.mpr c161) E
                        refine zg_iconst X 0 dX8_scan_171 (by decide) (fun v162 _ hv162 => ?_)
                        replace E := zLet_s (zcst hv162 (by decide)) E
                        refine zg_istore X [(4, .int v162), (3, .int v159), (7, .int v133), (6, .int v103), (5, .int x7), (0, .ref a0), (1, .ref p1), (2, .int p2)] dX8_scan_172 (by decide) rfl ?_
                        refine zg_iinc X 1 (fun v163 => [(5, .int v163), (4, .int v162), (3, .int v159), (7, .int v133), (6, .int v103), (0, .ref a0), (1, .ref p1), (2, .int p2)]) 4 dX8_scan_174 rfl (by decide) (by decide) (by omega) (by omega) (fun _ => rfl) (fun v163 ev163 hv163 => ?_)
                        replace E := zLet_s (zinc ev163 (by decide)) E
                        refine zg_goto X 13 dX8_scan_177 (by decide) ?_
                        refine zg_sub [0, 1, 2, 5, 6, 7] rfl ?_
                        exact ihLp10 _ v163 v162 v159 hI hS E  (by omega) (by omega) 
                      · skip
                        replace E := zIf_t c161 E
                        refine zg_aload_n X 5 rfl dX8_scan_151 ?_
                        refine fg_X8_13 X hI ha0 dX8_scan_152 (fun v164 ev164 hv164 => ?_)
                        replace E := zLet_s (zgr ev164) E
                        refine zg_aload_n X 5 rfl dX8_scan_155 ?_
                        refine fg_X8_23 X hI ha0 dX8_scan_156 (fun v165 ev165 hv165 => ?_)
                        replace E := zLet_s ev165 E
                        have mv165 : v165.toInt = v160.toInt := by rw [ev165, ← ev160]
                        refine zg_iconst X 1 dX8_scan_159 (by decide) (fun v166 _ hv166 => ?_)
                        replace E := zLet_s (zcst hv166 (by decide)) E
                        refine zg_isub X dX8_scan_160 (by omega) (by omega) (fun v167 ev167 hv167 => ?_)
                        replace E := zLet_s ev167 E
                        refine ag_41 X hI hv164 (by omega) (by omega) dX8_scan_161 (fun v168 ev168 _ => ?_)
                        replace E := zLet_s ev168 E
                        refine zg_bipush X 33 dX8_scan_162 (by decide) (fun v169 _ hv169 => ?_)
                        replace E := zLet_s (zcst hv169 (by decide)) E
                        have zv168_z170 := zb_rng v168
                        refine zg_icmp_ge X 171 dX8_scan_164 (by decide) (fun c171 => ?_) (fun c171 => ?_)
                        · skip
                          replace E := zIf_f (Int.not_lt.mpr c171) E
                          refine zg_iconst X 0 dX8_scan_171 (by decide) (fun v172 _ hv172 => ?_)
                          replace E := zLet_s (zcst hv172 (by decide)) E
                          refine zg_istore X [(4, .int v172), (3, .int v159), (7, .int v133), (6, .int v103), (5, .int x7), (0, .ref a0), (1, .ref p1), (2, .int p2)] dX8_scan_172 (by decide) rfl ?_
                          refine zg_iinc X 1 (fun v173 => [(5, .int v173), (4, .int v172), (3, .int v159), (7, .int v133), (6, .int v103), (0, .ref a0), (1, .ref p1), (2, .int p2)]) 4 dX8_scan_174 rfl (by decide) (by decide) (by omega) (by omega) (fun _ => rfl) (fun v173 ev173 hv173 => ?_)
                          replace E := zLet_s (zinc ev173 (by decide)) E
                          refine zg_goto X 13 dX8_scan_177 (by decide) ?_
                          refine zg_sub [0, 1, 2, 5, 6, 7] rfl ?_
                          exact ihLp10 _ v173 v172 v159 hI hS E  (by omega) (by omega) 
                        · skip
                          replace E := zIf_t c171 E
                          refine zg_iconst X 1 dX8_scan_167 (by decide) (fun v174 _ hv174 => ?_)
                          replace E := zLet_s (zcst hv174 (by decide)) E
                          refine zg_goto X 172 dX8_scan_168 (by decide) ?_
                          refine zg_istore X [(4, .int v174), (3, .int v159), (7, .int v133), (6, .int v103), (5, .int x7), (0, .ref a0), (1, .ref p1), (2, .int p2)] dX8_scan_172 (by decide) rfl ?_
                          refine zg_iinc X 1 (fun v175 => [(5, .int v175), (4, .int v174), (3, .int v159), (7, .int v133), (6, .int v103), (0, .ref a0), (1, .ref p1), (2, .int p2)]) 4 dX8_scan_174 rfl (by decide) (by decide) (by omega) (by omega) (fun _ => rfl) (fun v175 ev175 hv175 => ?_)
                          replace E := zLet_s (zinc ev175 (by decide)) E
                          refine zg_goto X 13 dX8_scan_177 (by decide) ?_
                          refine zg_sub [0, 1, 2, 5, 6, 7] rfl ?_
                          exact ihLp10 _ v175 v174 v159 hI hS E  (by omega) (by omega) 
                · skip
                  replace E := zIf_f c108 E
                  refine zg_aload_n X 4 rfl dX8_scan_90 ?_
                  refine zg_aload_n X 5 rfl dX8_scan_91 ?_
                  refine zg_iload_n X 6 rfl dX8_scan_92 ?_
                  refine zg_iload_n X 1 rfl dX8_scan_93 ?_
                  refine zg_cVi (As := [.ref p1, .int p2, .int v14]) (st := []) X ha0 rfl (by decide) rfl (t_X8_addDigits l d L kd κ b _ hI a0 ha0 p1 hp1 p2 v14 (by omega) (by omega)) mk_X8_63 mc_X8_addDigits mz_X8 mi_X8_addDigits ml_X8_addDigits (na := 3) ⟨md_X8.1, md_X8.2, by decide +kernel⟩ rfl ⟨by decide, by decide⟩ (Nat.le_of_ble_eq_true rfl) dX8_scan_94 (fun v176 s177 hq => ?_)
                  obtain ⟨hF, hS2, hI⟩ := hq
                  replace E := zLet2_s hF E
                  have hS := hS.tr hS2 rfl rfl
                  obtain ⟨hv176, hI⟩ := hI
                  refine zg_istore_n X [(3, .int v176), (6, .int v103), (5, .int x7), (4, .int x8), (0, .ref a0), (1, .ref p1), (2, .int p2)] dX8_scan_97 (by decide) rfl ?_
                  refine zg_goto X 144 dX8_scan_98 (by decide) ?_
                  refine zg_aload_n X 4 rfl dX8_scan_144 ?_
                  refine fg_X8_23 X hI ha0 dX8_scan_145 (fun v178 ev178 hv178 => ?_)
                  replace E := zLet_s ev178 E
                  refine zg_if_le X 171 dX8_scan_148 (by decide) (fun c179 => ?_) (fun c179 => ?_)
                  · skip
                    replace E := zIf_f (Int.not_lt.mpr c179) E
                    refine zg_iconst X 0 dX8_scan_171 (by decide) (fun v180 _ hv180 => ?_)
                    replace E := zLet_s (zcst hv180 (by decide)) E
                    refine zg_istore X [(4, .int v180), (3, .int v176), (6, .int v103), (5, .int x7), (0, .ref a0), (1, .ref p1), (2, .int p2)] dX8_scan_172 (by decide) rfl ?_
                    refine zg_iinc X 1 (fun v181 => [(5, .int v181), (4, .int v180), (3, .int v176), (6, .int v103), (0, .ref a0), (1, .ref p1), (2, .int p2)]) 3 dX8_scan_174 rfl (by decide) (by decide) (by omega) (by omega) (fun _ => rfl) (fun v181 ev181 hv181 => ?_)
                    replace E := zLet_s (zinc ev181 (by decide)) E
                    refine zg_goto X 13 dX8_scan_177 (by decide) ?_
                    refine zg_sub [0, 1, 2, 4, 5, 6] rfl ?_
                    exact ihLp10 _ v181 v180 v176 hI hS E  (by omega) (by omega) 
                  · skip
                    replace E := zIf_t c179 E
                    refine zg_aload_n X 4 rfl dX8_scan_151 ?_
                    refine fg_X8_13 X hI ha0 dX8_scan_152 (fun v182 ev182 hv182 => ?_)
                    replace E := zLet_s (zgr ev182) E
                    refine zg_aload_n X 4 rfl dX8_scan_155 ?_
                    refine fg_X8_23 X hI ha0 dX8_scan_156 (fun v183 ev183 hv183 => ?_)
                    replace E := zLet_s ev183 E
                    have mv183 : v183.toInt = v178.toInt := by rw [ev183, ← ev178]
                    refine zg_iconst X 1 dX8_scan_159 (by decide) (fun v184 _ hv184 => ?_)
                    replace E := zLet_s (zcst hv184 (by decide)) E
                    refine zg_isub X dX8_scan_160 (by omega) (by omega) (fun v185 ev185 hv185 => ?_)
                    replace E := zLet_s ev185 E
                    refine ag_41 X hI hv182 (by omega) (by omega) dX8_scan_161 (fun v186 ev186 _ => ?_)
                    replace E := zLet_s ev186 E
                    refine zg_bipush X 33 dX8_scan_162 (by decide) (fun v187 _ hv187 => ?_)
                    replace E := zLet_s (zcst hv187 (by decide)) E
                    have zv186_z188 := zb_rng v186
                    refine zg_icmp_ge X 171 dX8_scan_164 (by decide) (fun c189 => ?_) (fun c189 => ?_)
                    · skip
                      replace E := zIf_f (Int.not_lt.mpr c189) E
                      refine zg_iconst X 0 dX8_scan_171 (by decide) (fun v190 _ hv190 => ?_)
                      replace E := zLet_s (zcst hv190 (by decide)) E
                      refine zg_istore X [(4, .int v190), (3, .int v176), (6, .int v103), (5, .int x7), (0, .ref a0), (1, .ref p1), (2, .int p2)] dX8_scan_172 (by decide) rfl ?_
                      refine zg_iinc X 1 (fun v191 => [(5, .int v191), (4, .int v190), (3, .int v176), (6, .int v103), (0, .ref a0), (1, .ref p1), (2, .int p2)]) 3 dX8_scan_174 rfl (by decide) (by decide) (by omega) (by omega) (fun _ => rfl) (fun v191 ev191 hv191 => ?_)
                      replace E := zLet_s (zinc ev191 (by decide)) E
                      refine zg_goto X 13 dX8_scan_177 (by decide) ?_
                      refine zg_sub [0, 1, 2, 4, 5, 6] rfl ?_
                      exact ihLp10 _ v191 v190 v176 hI hS E  (by omega) (by omega) 
                    · skip
                      replace E := zIf_t c189 E
                      refine zg_iconst X 1 dX8_scan_167 (by decide) (fun v192 _ hv192 => ?_)
                      replace E := zLet_s (zcst hv192 (by decide)) E
                      refine zg_goto X 172 dX8_scan_168 (by decide) ?_
                      refine zg_istore X [(4, .int v192), (3, .int v176), (6, .int v103), (5, .int x7), (0, .ref a0), (1, .ref p1), (2, .int p2)] dX8_scan_172 (by decide) rfl ?_
                      refine zg_iinc X 1 (fun v193 => [(5, .int v193), (4, .int v192), (3, .int v176), (6, .int v103), (0, .ref a0), (1, .ref p1), (2, .int p2)]) 3 dX8_scan_174 rfl (by decide) (by decide) (by omega) (by omega) (fun _ => rfl) (fun v193 ev193 hv193 => ?_)
                      replace E := zLet_s (zinc ev193 (by decide)) E
                      refine zg_goto X 13 dX8_scan_177 (by decide) ?_
                      refine zg_sub [0, 1, 2, 4, 5, 6] rfl ?_
                      exact ihLp10 _ v193 v192 v176 hI hS E  (by omega) (by omega) 
              · skip
                replace E := zIf_f c106 E
                refine zg_aload_n X 4 rfl dX8_scan_71 ?_
                refine zg_aload_n X 5 rfl dX8_scan_72 ?_
                refine zg_iload_n X 6 rfl dX8_scan_73 ?_
                refine zg_iload_n X 1 rfl dX8_scan_74 ?_
                refine zg_cVi (As := [.ref p1, .int p2, .int v14]) (st := []) X ha0 rfl (by decide) rfl (t_X8_addLetters l d L kd κ b _ hI a0 ha0 p1 hp1 p2 v14 (by omega) (by omega)) mk_X8_57 mc_X8_addLetters mz_X8 mi_X8_addLetters ml_X8_addLetters (na := 3) ⟨md_X8.1, md_X8.2, by decide +kernel⟩ rfl ⟨by decide, by decide⟩ (Nat.le_of_ble_eq_true rfl) dX8_scan_75 (fun v194 s195 hq => ?_)
                obtain ⟨hF, hS2, hI⟩ := hq
                replace E := zLet2_s hF E
                have hS := hS.tr hS2 rfl rfl
                obtain ⟨hv194, hI⟩ := hI
                refine zg_istore_n X [(3, .int v194), (6, .int v103), (5, .int x7), (4, .int x8), (0, .ref a0), (1, .ref p1), (2, .int p2)] dX8_scan_78 (by decide) rfl ?_
                refine zg_goto X 144 dX8_scan_79 (by decide) ?_
                refine zg_aload_n X 4 rfl dX8_scan_144 ?_
                refine fg_X8_23 X hI ha0 dX8_scan_145 (fun v196 ev196 hv196 => ?_)
                replace E := zLet_s ev196 E
                refine zg_if_le X 171 dX8_scan_148 (by decide) (fun c197 => ?_) (fun c197 => ?_)
                · skip
                  replace E := zIf_f (Int.not_lt.mpr c197) E
                  refine zg_iconst X 0 dX8_scan_171 (by decide) (fun v198 _ hv198 => ?_)
                  replace E := zLet_s (zcst hv198 (by decide)) E
                  refine zg_istore X [(4, .int v198), (3, .int v194), (6, .int v103), (5, .int x7), (0, .ref a0), (1, .ref p1), (2, .int p2)] dX8_scan_172 (by decide) rfl ?_
                  refine zg_iinc X 1 (fun v199 => [(5, .int v199), (4, .int v198), (3, .int v194), (6, .int v103), (0, .ref a0), (1, .ref p1), (2, .int p2)]) 3 dX8_scan_174 rfl (by decide) (by decide) (by omega) (by omega) (fun _ => rfl) (fun v199 ev199 hv199 => ?_)
                  replace E := zLet_s (zinc ev199 (by decide)) E
                  refine zg_goto X 13 dX8_scan_177 (by decide) ?_
                  refine zg_sub [0, 1, 2, 4, 5, 6] rfl ?_
                  exact ihLp10 _ v199 v198 v194 hI hS E  (by omega) (by omega) 
                · skip
                  replace E := zIf_t c197 E
                  refine zg_aload_n X 4 rfl dX8_scan_151 ?_
                  refine fg_X8_13 X hI ha0 dX8_scan_152 (fun v200 ev200 hv200 => ?_)
                  replace E := zLet_s (zgr ev200) E
                  refine zg_aload_n X 4 rfl dX8_scan_155 ?_
                  refine fg_X8_23 X hI ha0 dX8_scan_156 (fun v201 ev201 hv201 => ?_)
                  replace E := zLet_s ev201 E
                  have mv201 : v201.toInt = v196.toInt := by rw [ev201, ← ev196]
                  refine zg_iconst X 1 dX8_scan_159 (by decide) (fun v202 _ hv202 => ?_)
                  replace E := zLet_s (zcst hv202 (by decide)) E
                  refine zg_isub X dX8_scan_160 (by omega) (by omega) (fun v203 ev203 hv203 => ?_)
                  replace E := zLet_s ev203 E
                  refine ag_41 X hI hv200 (by omega) (by omega) dX8_scan_161 (fun v204 ev204 _ => ?_)
                  replace E := zLet_s ev204 E
                  refine zg_bipush X 33 dX8_scan_162 (by decide) (fun v205 _ hv205 => ?_)
                  replace E := zLet_s (zcst hv205 (by decide)) E
                  have zv204_z206 := zb_rng v204
                  refine zg_icmp_ge X 171 dX8_scan_164 (by decide) (fun c207 => ?_) (fun c207 => ?_)
                  · skip
                    replace E := zIf_f (Int.not_lt.mpr c207) E
                    refine zg_iconst X 0 dX8_scan_171 (by decide) (fun v208 _ hv208 => ?_)
                    replace E := zLet_s (zcst hv208 (by decide)) E
                    refine zg_istore X [(4, .int v208), (3, .int v194), (6, .int v103), (5, .int x7), (0, .ref a0), (1, .ref p1), (2, .int p2)] dX8_scan_172 (by decide) rfl ?_
                    refine zg_iinc X 1 (fun v209 => [(5, .int v209), (4, .int v208), (3, .int v194), (6, .int v103), (0, .ref a0), (1, .ref p1), (2, .int p2)]) 3 dX8_scan_174 rfl (by decide) (by decide) (by omega) (by omega) (fun _ => rfl) (fun v209 ev209 hv209 => ?_)
                    replace E := zLet_s (zinc ev209 (by decide)) E
                    refine zg_goto X 13 dX8_scan_177 (by decide) ?_
                    refine zg_sub [0, 1, 2, 4, 5, 6] rfl ?_
                    exact ihLp10 _ v209 v208 v194 hI hS E  (by omega) (by omega) 
                  · skip
                    replace E := zIf_t c207 E
                    refine zg_iconst X 1 dX8_scan_167 (by decide) (fun v210 _ hv210 => ?_)
                    replace E := zLet_s (zcst hv210 (by decide)) E
                    refine zg_goto X 172 dX8_scan_168 (by decide) ?_
                    refine zg_istore X [(4, .int v210), (3, .int v194), (6, .int v103), (5, .int x7), (0, .ref a0), (1, .ref p1), (2, .int p2)] dX8_scan_172 (by decide) rfl ?_
                    refine zg_iinc X 1 (fun v211 => [(5, .int v211), (4, .int v210), (3, .int v194), (6, .int v103), (0, .ref a0), (1, .ref p1), (2, .int p2)]) 3 dX8_scan_174 rfl (by decide) (by decide) (by omega) (by omega) (fun _ => rfl) (fun v211 ev211 hv211 => ?_)
                    replace E := zLet_s (zinc ev211 (by decide)) E
                    refine zg_goto X 13 dX8_scan_177 (by decide) ?_
                    refine zg_sub [0, 1, 2, 4, 5, 6] rfl ?_
                    exact ihLp10 _ v211 v210 v194 hI hS E  (by omega) (by omega) 
            · skip
              replace E := zIf_f (Int.not_lt.mpr c104) E
              refine zg_aload_n X 4 rfl dX8_scan_52 ?_
              refine zg_bipush X 33 dX8_scan_53 (by decide) (fun v212 _ hv212 => ?_)
              replace E := zLet_s (zcst hv212 (by decide)) E
              refine zg_lconst X dX8_scan_55 (fun v213 ev213 => ?_)
              replace E := zLet_s ev213 E
              refine zg_iload_n X 6 rfl dX8_scan_56 ?_
              refine zg_cVv (As := [.int v212, .long v213, .int p2]) (st := []) X ha0 rfl (by decide) rfl (t_X8_add l d L kd κ b _ hI a0 ha0 v212 v213 p2 ) mk_X8_49 mc_X8_add mz_X8 mi_X8_add ml_X8_add (na := 3) ⟨md_X8.1, md_X8.2, by decide +kernel⟩ rfl ⟨by decide, by decide⟩ (Nat.le_of_ble_eq_true rfl) dX8_scan_57 (fun s214 hq => ?_)
              obtain ⟨hF, hS2, hI⟩ := hq
              replace E := zLet_s hF E
              have hS := hS.tr hS2 rfl rfl
              refine zg_goto X 144 dX8_scan_60 (by decide) ?_
              refine zg_aload_n X 4 rfl dX8_scan_144 ?_
              refine fg_X8_23 X hI ha0 dX8_scan_145 (fun v215 ev215 hv215 => ?_)
              replace E := zLet_s ev215 E
              refine zg_if_le X 171 dX8_scan_148 (by decide) (fun c216 => ?_) (fun c216 => ?_)
              · skip
                replace E := zIf_f (Int.not_lt.mpr c216) E
                refine zg_iconst X 0 dX8_scan_171 (by decide) (fun v217 _ hv217 => ?_)
                replace E := zLet_s (zcst hv217 (by decide)) E
                refine zg_istore X [(4, .int v217), (6, .int v103), (3, .int v14), (5, .int x7), (0, .ref a0), (1, .ref p1), (2, .int p2)] dX8_scan_172 (by decide) rfl ?_
                refine zg_iinc X 1 (fun v218 => [(5, .int v218), (4, .int v217), (6, .int v103), (3, .int v14), (0, .ref a0), (1, .ref p1), (2, .int p2)]) 3 dX8_scan_174 rfl (by decide) (by decide) (by omega) (by omega) (fun _ => rfl) (fun v218 ev218 hv218 => ?_)
                replace E := zLet_s (zinc ev218 (by decide)) E
                refine zg_goto X 13 dX8_scan_177 (by decide) ?_
                refine zg_sub [0, 1, 3, 4, 5, 6] rfl ?_
                exact ihLp10 _ v218 v217 v14 hI hS E  (by omega) (by omega) 
              · skip
                replace E := zIf_t c216 E
                refine zg_aload_n X 4 rfl dX8_scan_151 ?_
                refine fg_X8_13 X hI ha0 dX8_scan_152 (fun v219 ev219 hv219 => ?_)
                replace E := zLet_s (zgr ev219) E
                refine zg_aload_n X 4 rfl dX8_scan_155 ?_
                refine fg_X8_23 X hI ha0 dX8_scan_156 (fun v220 ev220 hv220 => ?_)
                replace E := zLet_s ev220 E
                have mv220 : v220.toInt = v215.toInt := by rw [ev220, ← ev215]
                refine zg_iconst X 1 dX8_scan_159 (by decide) (fun v221 _ hv221 => ?_)
                replace E := zLet_s (zcst hv221 (by decide)) E
                refine zg_isub X dX8_scan_160 (by omega) (by omega) (fun v222 ev222 hv222 => ?_)
                replace E := zLet_s ev222 E
                refine ag_41 X hI hv219 (by omega) (by omega) dX8_scan_161 (fun v223 ev223 _ => ?_)
                replace E := zLet_s ev223 E
                refine zg_bipush X 33 dX8_scan_162 (by decide) (fun v224 _ hv224 => ?_)
                replace E := zLet_s (zcst hv224 (by decide)) E
                have zv223_z225 := zb_rng v223
                refine zg_icmp_ge X 171 dX8_scan_164 (by decide) (fun c226 => ?_) (fun c226 => ?_)
                · skip
                  replace E := zIf_f (Int.not_lt.mpr c226) E
                  refine zg_iconst X 0 dX8_scan_171 (by decide) (fun v227 _ hv227 => ?_)
                  replace E := zLet_s (zcst hv227 (by decide)) E
                  refine zg_istore X [(4, .int v227), (6, .int v103), (3, .int v14), (5, .int x7), (0, .ref a0), (1, .ref p1), (2, .int p2)] dX8_scan_172 (by decide) rfl ?_
                  refine zg_iinc X 1 (fun v228 => [(5, .int v228), (4, .int v227), (6, .int v103), (3, .int v14), (0, .ref a0), (1, .ref p1), (2, .int p2)]) 3 dX8_scan_174 rfl (by decide) (by decide) (by omega) (by omega) (fun _ => rfl) (fun v228 ev228 hv228 => ?_)
                  replace E := zLet_s (zinc ev228 (by decide)) E
                  refine zg_goto X 13 dX8_scan_177 (by decide) ?_
                  refine zg_sub [0, 1, 3, 4, 5, 6] rfl ?_
                  exact ihLp10 _ v228 v227 v14 hI hS E  (by omega) (by omega) 
                · skip
                  replace E := zIf_t c226 E
                  refine zg_iconst X 1 dX8_scan_167 (by decide) (fun v229 _ hv229 => ?_)
                  replace E := zLet_s (zcst hv229 (by decide)) E
                  refine zg_goto X 172 dX8_scan_168 (by decide) ?_
                  refine zg_istore X [(4, .int v229), (6, .int v103), (3, .int v14), (5, .int x7), (0, .ref a0), (1, .ref p1), (2, .int p2)] dX8_scan_172 (by decide) rfl ?_
                  refine zg_iinc X 1 (fun v230 => [(5, .int v230), (4, .int v229), (6, .int v103), (3, .int v14), (0, .ref a0), (1, .ref p1), (2, .int p2)]) 3 dX8_scan_174 rfl (by decide) (by decide) (by omega) (by omega) (fun _ => rfl) (fun v230 ev230 hv230 => ?_)
                  replace E := zLet_s (zinc ev230 (by decide)) E
                  refine zg_goto X 13 dX8_scan_177 (by decide) ?_
                  refine zg_sub [0, 1, 3, 4, 5, 6] rfl ?_
                  exact ihLp10 _ v230 v229 v14 hI hS E  (by omega) (by omega) 
  refine zg_sub [0, 1, 2, 3, 4, 5] rfl ?_
  exact Lp10 10000 _ v6 v5 v4 hI hS E  (by omega) (by omega) 
set_option maxHeartbeats 4000000 in
set_option maxRecDepth 100000 in
theorem t_X3_goTo (l : Launch) (d : zD2) (L : List Nat) (kd : Nat → Nat) (κ : Int) (b : Nat) (σ : zS) (hI : zI κ b L kd σ) (a0 : Nat) (ha0 : zT L kd a0 3) (p1 : Int32) : zMv l yX3_goTo (Cond.code yX3_goTo cX3_goTo 3 none :: zWL) 0 [.ref a0, .int p1] d L kd σ (fun σ2 => σ2 = F_X3_goTo a0 p1 σ ∧ zSm [3] [] L kd σ σ2 ∧ (zI κ b L kd σ2)) := by
  refine zMv.of (own := RX3) (by decide +kernel) rfl rfl (Nat.le_of_ble_eq_true rfl) ?_
  intro p e s m args below meth c A Q X ret
  refine zg_lv (lv2 := [(0, .ref a0), (1, .int p1)]) rfl ?_
  obtain ⟨R, hR⟩ : ∃ R, R = F_X3_goTo a0 p1 σ := ⟨_, rfl⟩
  have E := hR
  unfold F_X3_goTo at E
  have hS : zSm [3] [] L kd σ σ := zSm.rf
  refine zg_iload_n X 1 rfl dX3_goTo_0 ?_
  refine zg_if_lt X 19 dX3_goTo_1 (by decide) (fun c1 => ?_) (fun c1 => ?_)
  · skip
    replace E := zIf_t c1 E
    refine zg_iconst X 0 dX3_goTo_19 (by decide) (fun v2 _ hv2 => ?_)
    replace E := zLet_s (zcst hv2 (by decide)) E
    refine zg_istore_n X [(2, .int v2), (0, .ref a0), (1, .int p1)] dX3_goTo_20 (by decide) rfl ?_
    refine zg_aload_n X 1 rfl dX3_goTo_21 ?_
    refine zg_iload_n X 2 rfl dX3_goTo_22 ?_
    refine fp_X3_22 X hI ha0 (zb_rng _) dX3_goTo_23 (fun s3 es3 hI => ?_)
    replace E := zLet_s es3 E
    have hS := hS.i ha0 es3 rfl
    refine zg_aload_n X 1 rfl dX3_goTo_26 ?_
    refine zg_iload_n X 0 rfl dX3_goTo_27 ?_
    refine zg_if_eq X 43 dX3_goTo_28 (by decide) (fun c4 => ?_) (fun c4 => ?_)
    · skip
      replace E := zIf_t c4 E
      refine zg_bipush X 34 dX3_goTo_43 (by decide) (fun v5 _ hv5 => ?_)
      replace E := zLet_s (zcst hv5 (by decide)) E
      refine fp_X3_26 X hI ha0 (zb_rng _) dX3_goTo_45 (fun s6 es6 hI => ?_)
      replace E := zLet_s es6 E
      have hS := hS.i ha0 es6 rfl
      refine zg_aload_n X 1 rfl dX3_goTo_48 ?_
      refine zg_iload_n X 0 rfl dX3_goTo_49 ?_
      refine zg_if_eq X 65 dX3_goTo_50 (by decide) (fun c7 => ?_) (fun c7 => ?_)
      · skip
        replace E := zIf_t c7 E
        refine zg_lconst X dX3_goTo_65 (fun v8 ev8 => ?_)
        replace E := zLet_s ev8 E
        refine fp_X3_29 X hI ha0 dX3_goTo_66 (fun s9 es9 hI => ?_)
        replace E := zLet_s es9 E
        have hS := hS.l ha0 es9 rfl
        refine zg_aload_n X 1 rfl dX3_goTo_69 ?_
        refine zg_iload_n X 0 rfl dX3_goTo_70 ?_
        refine zg_if_eq X 86 dX3_goTo_71 (by decide) (fun c10 => ?_) (fun c10 => ?_)
        · skip
          replace E := zIf_t c10 E
          refine zg_iconst X (-1) dX3_goTo_86 (by decide) (fun v11 _ hv11 => ?_)
          replace E := zLet_s (zcst hv11 (by decide)) E
          refine fp_X3_33 X hI ha0 (zb_rng _) dX3_goTo_87 (fun s12 es12 hI => ?_)
          replace E := zLet_s es12 E
          have hS := hS.i ha0 es12 rfl
          exact ret _ _ _ dX3_goTo_90 ⟨E.symm.trans hR, hS, hI⟩
        · omega
      · omega
    · omega
  · skip
    replace E := zIf_f (Int.not_lt.mpr c1) E
    refine zg_iload_n X 1 rfl dX3_goTo_4 ?_
    refine zg_aload_n X 0 rfl dX3_goTo_5 ?_
    refine fg_X3_12 X hI ha0 dX3_goTo_6 (fun v13 ev13 hv13 => ?_)
    replace E := zLet_s (zgr ev13) E
    refine fg_X3_162 X hI hv13 dX3_goTo_9 (fun v14 ev14 hv14 => ?_)
    replace E := zLet_s ev14 E
    have zp1_z15 := zb_rng p1
    refine zg_icmp_ge X 19 dX3_goTo_12 (by decide) (fun c16 => ?_) (fun c16 => ?_)
    · skip
      replace E := zIf_f (Int.not_lt.mpr c16) E
      refine zg_iconst X 0 dX3_goTo_19 (by decide) (fun v17 _ hv17 => ?_)
      replace E := zLet_s (zcst hv17 (by decide)) E
      refine zg_istore_n X [(2, .int v17), (0, .ref a0), (1, .int p1)] dX3_goTo_20 (by decide) rfl ?_
      refine zg_aload_n X 1 rfl dX3_goTo_21 ?_
      refine zg_iload_n X 2 rfl dX3_goTo_22 ?_
      refine fp_X3_22 X hI ha0 (zb_rng _) dX3_goTo_23 (fun s18 es18 hI => ?_)
      replace E := zLet_s es18 E
      have hS := hS.i ha0 es18 rfl
      refine zg_aload_n X 1 rfl dX3_goTo_26 ?_
      refine zg_iload_n X 0 rfl dX3_goTo_27 ?_
      refine zg_if_eq X 43 dX3_goTo_28 (by decide) (fun c19 => ?_) (fun c19 => ?_)
      · skip
        replace E := zIf_t c19 E
        refine zg_bipush X 34 dX3_goTo_43 (by decide) (fun v20 _ hv20 => ?_)
        replace E := zLet_s (zcst hv20 (by decide)) E
        refine fp_X3_26 X hI ha0 (zb_rng _) dX3_goTo_45 (fun s21 es21 hI => ?_)
        replace E := zLet_s es21 E
        have hS := hS.i ha0 es21 rfl
        refine zg_aload_n X 1 rfl dX3_goTo_48 ?_
        refine zg_iload_n X 0 rfl dX3_goTo_49 ?_
        refine zg_if_eq X 65 dX3_goTo_50 (by decide) (fun c22 => ?_) (fun c22 => ?_)
        · skip
          replace E := zIf_t c22 E
          refine zg_lconst X dX3_goTo_65 (fun v23 ev23 => ?_)
          replace E := zLet_s ev23 E
          refine fp_X3_29 X hI ha0 dX3_goTo_66 (fun s24 es24 hI => ?_)
          replace E := zLet_s es24 E
          have hS := hS.l ha0 es24 rfl
          refine zg_aload_n X 1 rfl dX3_goTo_69 ?_
          refine zg_iload_n X 0 rfl dX3_goTo_70 ?_
          refine zg_if_eq X 86 dX3_goTo_71 (by decide) (fun c25 => ?_) (fun c25 => ?_)
          · skip
            replace E := zIf_t c25 E
            refine zg_iconst X (-1) dX3_goTo_86 (by decide) (fun v26 _ hv26 => ?_)
            replace E := zLet_s (zcst hv26 (by decide)) E
            refine fp_X3_33 X hI ha0 (zb_rng _) dX3_goTo_87 (fun s27 es27 hI => ?_)
            replace E := zLet_s es27 E
            have hS := hS.i ha0 es27 rfl
            exact ret _ _ _ dX3_goTo_90 ⟨E.symm.trans hR, hS, hI⟩
          · omega
        · omega
      · omega
    · skip
      replace E := zIf_t c16 E
      refine zg_iconst X 1 dX3_goTo_15 (by decide) (fun v28 _ hv28 => ?_)
      replace E := zLet_s (zcst hv28 (by decide)) E
      refine zg_goto X 20 dX3_goTo_16 (by decide) ?_
      refine zg_istore_n X [(2, .int v28), (0, .ref a0), (1, .int p1)] dX3_goTo_20 (by decide) rfl ?_
      refine zg_aload_n X 1 rfl dX3_goTo_21 ?_
      refine zg_iload_n X 2 rfl dX3_goTo_22 ?_
      refine fp_X3_22 X hI ha0 (zb_rng _) dX3_goTo_23 (fun s29 es29 hI => ?_)
      replace E := zLet_s es29 E
      have hS := hS.i ha0 es29 rfl
      refine zg_aload_n X 1 rfl dX3_goTo_26 ?_
      refine zg_iload_n X 0 rfl dX3_goTo_27 ?_
      refine zg_if_eq X 43 dX3_goTo_28 (by decide) (fun c30 => ?_) (fun c30 => ?_)
      · omega
      · skip
        replace E := zIf_f c30 E
        refine zg_aload_n X 1 rfl dX3_goTo_31 ?_
        refine fg_X3_12 X hI ha0 dX3_goTo_32 (fun v31 ev31 hv31 => ?_)
        replace E := zLet_s (zgr ev31) E
        refine fg_X3_163 X hI hv31 dX3_goTo_35 (fun v32 ev32 hv32 => ?_)
        replace E := zLet_s (zgr ev32) E
        refine zg_iload_n X 2 rfl dX3_goTo_38 ?_
        refine ag_41 X hI hv32 (by omega) (by omega) dX3_goTo_39 (fun v33 ev33 _ => ?_)
        replace E := zLet_s ev33 E
        refine zg_goto X 45 dX3_goTo_40 (by decide) ?_
        refine fp_X3_26 X hI ha0 (zb_rng _) dX3_goTo_45 (fun s34 es34 hI => ?_)
        replace E := zLet_s es34 E
        have hS := hS.i ha0 es34 rfl
        refine zg_aload_n X 1 rfl dX3_goTo_48 ?_
        refine zg_iload_n X 0 rfl dX3_goTo_49 ?_
        refine zg_if_eq X 65 dX3_goTo_50 (by decide) (fun c35 => ?_) (fun c35 => ?_)
        · omega
        · skip
          replace E := zIf_f c35 E
          refine zg_aload_n X 1 rfl dX3_goTo_53 ?_
          refine fg_X3_12 X hI ha0 dX3_goTo_54 (fun v36 ev36 hv36 => ?_)
          replace E := zLet_s (zgr ev36) E
          refine fg_X3_166 X hI hv36 dX3_goTo_57 (fun v37 ev37 hv37 => ?_)
          replace E := zLet_s (zgr ev37) E
          refine zg_iload_n X 2 rfl dX3_goTo_60 ?_
          refine ag_42 X hv37 (by omega) (by omega) dX3_goTo_61 (fun v38 ev38 => ?_)
          replace E := zLet_s ev38 E
          refine zg_goto X 66 dX3_goTo_62 (by decide) ?_
          refine fp_X3_29 X hI ha0 dX3_goTo_66 (fun s39 es39 hI => ?_)
          replace E := zLet_s es39 E
          have hS := hS.l ha0 es39 rfl
          refine zg_aload_n X 1 rfl dX3_goTo_69 ?_
          refine zg_iload_n X 0 rfl dX3_goTo_70 ?_
          refine zg_if_eq X 86 dX3_goTo_71 (by decide) (fun c40 => ?_) (fun c40 => ?_)
          · omega
          · skip
            replace E := zIf_f c40 E
            refine zg_aload_n X 1 rfl dX3_goTo_74 ?_
            refine fg_X3_12 X hI ha0 dX3_goTo_75 (fun v41 ev41 hv41 => ?_)
            replace E := zLet_s (zgr ev41) E
            refine fg_X3_169 X hI hv41 dX3_goTo_78 (fun v42 ev42 hv42 => ?_)
            replace E := zLet_s (zgr ev42) E
            refine zg_iload_n X 2 rfl dX3_goTo_81 ?_
            refine ag_43 X hI hv42 (by omega) (by omega) dX3_goTo_82 (fun v43 ev43 _ => ?_)
            replace E := zLet_s ev43 E
            refine zg_goto X 87 dX3_goTo_83 (by decide) ?_
            refine fp_X3_33 X hI ha0 (zb_rng _) dX3_goTo_87 (fun s44 es44 hI => ?_)
            replace E := zLet_s es44 E
            have hS := hS.i ha0 es44 rfl
            exact ret _ _ _ dX3_goTo_90 ⟨E.symm.trans hR, hS, hI⟩
set_option maxHeartbeats 4000000 in
set_option maxRecDepth 100000 in
theorem t_X3_fail (l : Launch) (d : zD2) (L : List Nat) (kd : Nat → Nat) (κ : Int) (b : Nat) (σ : zS) (hI : zI κ b L kd σ) (a0 : Nat) (ha0 : zT L kd a0 3) (p1 : Int32) : zMv l yX3_fail (Cond.code yX3_fail cX3_fail 2 none :: zWL) 0 [.ref a0, .int p1] d L kd σ (fun σ2 => σ2 = F_X3_fail a0 p1 σ ∧ zSm [3] [] L kd σ σ2 ∧ (zI κ b L kd σ2)) := by
  refine zMv.of (own := RX3) (by decide +kernel) rfl rfl (Nat.le_of_ble_eq_true rfl) ?_
  intro p e s m args below meth c A Q X ret
  refine zg_lv (lv2 := [(0, .ref a0), (1, .int p1)]) rfl ?_
  obtain ⟨R, hR⟩ : ∃ R, R = F_X3_fail a0 p1 σ := ⟨_, rfl⟩
  have E := hR
  unfold F_X3_fail at E
  have hS : zSm [3] [] L kd σ σ := zSm.rf
  refine zg_aload_n X 0 rfl dX3_fail_0 ?_
  refine fg_X3_43 X hI ha0 dX3_fail_1 (fun v1 ev1 _ => ?_)
  replace E := zLet_s ev1 E
  refine zg_if_ne X 26 dX3_fail_4 (by decide) (fun c2 => ?_) (fun c2 => ?_)
  · skip
    replace E := zIf_f c2 E
    exact ret _ _ _ dX3_fail_26 ⟨E.symm.trans hR, hS, hI⟩
  · skip
    replace E := zIf_t c2 E
    refine zg_aload_n X 0 rfl dX3_fail_7 ?_
    refine zg_iload_n X 1 rfl dX3_fail_8 ?_
    refine fp_X3_43 X hI ha0 (zb_rng _) dX3_fail_9 (fun s3 es3 hI => ?_)
    replace E := zLet_s es3 E
    have hS := hS.i ha0 es3 rfl
    refine zg_aload_n X 0 rfl dX3_fail_12 ?_
    refine zg_aload_n X 0 rfl dX3_fail_13 ?_
    refine fg_X3_33 X hI ha0 dX3_fail_14 (fun v4 ev4 _ => ?_)
    replace E := zLet_s ev4 E
    refine fp_X3_46 X hI ha0 (zb_rng _) dX3_fail_17 (fun s5 es5 hI => ?_)
    replace E := zLet_s es5 E
    have hS := hS.i ha0 es5 rfl
    refine zg_aload_n X 0 rfl dX3_fail_20 ?_
    refine zg_bipush X 34 dX3_fail_21 (by decide) (fun v6 _ hv6 => ?_)
    replace E := zLet_s (zcst hv6 (by decide)) E
    refine fp_X3_26 X hI ha0 (zb_rng _) dX3_fail_23 (fun s7 es7 hI => ?_)
    replace E := zLet_s es7 E
    have hS := hS.i ha0 es7 rfl
    exact ret _ _ _ dX3_fail_26 ⟨E.symm.trans hR, hS, hI⟩
set_option maxHeartbeats 4000000 in
set_option maxRecDepth 100000 in
theorem t_X3_failLate (l : Launch) (d : zD2) (L : List Nat) (kd : Nat → Nat) (κ : Int) (b : Nat) (σ : zS) (hI : zI κ b L kd σ) (a0 : Nat) (ha0 : zT L kd a0 3) (p1 : Int32) : zMv l yX3_failLate (Cond.code yX3_failLate cX3_failLate 2 none :: zWL) 0 [.ref a0, .int p1] d L kd σ (fun σ2 => σ2 = F_X3_failLate a0 p1 σ ∧ zSm [3] [] L kd σ σ2 ∧ (zI κ b L kd σ2)) := by
  refine zMv.of (own := RX3) (by decide +kernel) rfl rfl (Nat.le_of_ble_eq_true rfl) ?_
  intro p e s m args below meth c A Q X ret
  refine zg_lv (lv2 := [(0, .ref a0), (1, .int p1)]) rfl ?_
  obtain ⟨R, hR⟩ : ∃ R, R = F_X3_failLate a0 p1 σ := ⟨_, rfl⟩
  have E := hR
  unfold F_X3_failLate at E
  have hS : zSm [3] [] L kd σ σ := zSm.rf
  refine zg_aload_n X 0 rfl dX3_failLate_0 ?_
  refine fg_X3_49 X hI ha0 dX3_failLate_1 (fun v1 ev1 _ => ?_)
  replace E := zLet_s ev1 E
  refine zg_if_ne X 20 dX3_failLate_4 (by decide) (fun c2 => ?_) (fun c2 => ?_)
  · skip
    replace E := zIf_f c2 E
    exact ret _ _ _ dX3_failLate_20 ⟨E.symm.trans hR, hS, hI⟩
  · skip
    replace E := zIf_t c2 E
    refine zg_aload_n X 0 rfl dX3_failLate_7 ?_
    refine zg_iload_n X 1 rfl dX3_failLate_8 ?_
    refine fp_X3_49 X hI ha0 (zb_rng _) dX3_failLate_9 (fun s3 es3 hI => ?_)
    replace E := zLet_s es3 E
    have hS := hS.i ha0 es3 rfl
    refine zg_aload_n X 0 rfl dX3_failLate_12 ?_
    refine zg_aload_n X 0 rfl dX3_failLate_13 ?_
    refine fg_X3_33 X hI ha0 dX3_failLate_14 (fun v4 ev4 _ => ?_)
    replace E := zLet_s ev4 E
    refine fp_X3_52 X hI ha0 (zb_rng _) dX3_failLate_17 (fun s5 es5 hI => ?_)
    replace E := zLet_s es5 E
    have hS := hS.i ha0 es5 rfl
    exact ret _ _ _ dX3_failLate_20 ⟨E.symm.trans hR, hS, hI⟩
set_option maxHeartbeats 4000000 in
set_option maxRecDepth 100000 in
theorem t_X3_take (l : Launch) (d : zD2) (L : List Nat) (kd : Nat → Nat) (κ : Int) (b : Nat) (σ : zS) (hI : zI κ b L kd σ) (a0 : Nat) (ha0 : zT L kd a0 3) (p1 : Int32) : zMv l yX3_take (Cond.code yX3_take cX3_take 2 none :: zWL) 1 [.ref a0, .int p1] d L kd σ (fun σ2 => σ2 = F_X3_take a0 p1 σ ∧ zSm [3] [] L kd σ σ2 ∧ (zI κ b L kd σ2)) := by
  refine zMv.of (own := RX3) (by decide +kernel) rfl rfl (Nat.le_of_ble_eq_true rfl) ?_
  intro p e s m args below meth c A Q X ret
  refine zg_lv (lv2 := [(0, .ref a0), (1, .int p1)]) rfl ?_
  obtain ⟨R, hR⟩ : ∃ R, R = F_X3_take a0 p1 σ := ⟨_, rfl⟩
  have E := hR
  unfold F_X3_take at E
  have hS : zSm [3] [] L kd σ σ := zSm.rf
  refine zg_aload_n X 0 rfl dX3_take_0 ?_
  refine fg_X3_26 X hI ha0 dX3_take_1 (fun v1 ev1 _ => ?_)
  replace E := zLet_s ev1 E
  refine zg_iload_n X 1 rfl dX3_take_4 ?_
  refine zg_icmp_eq X 16 dX3_take_5 (by decide) (fun c2 => ?_) (fun c2 => ?_)
  · skip
    replace E := zIf_t c2 E
    refine zg_aload_n X 0 rfl dX3_take_16 ?_
    refine fg_X3_22 X hI ha0 dX3_take_17 (fun v3 ev3 _ => ?_)
    replace E := zLet_s ev3 E
    refine zg_sipush X 400 dX3_take_20 (by decide) (fun v4 _ hv4 => ?_)
    replace E := zLet_s (zcst hv4 (by decide)) E
    have zv3_z5 := zb_rng v3
    refine zg_icmp_lt X 34 dX3_take_23 (by decide) (fun c6 => ?_) (fun c6 => ?_)
    · skip
      replace E := zIf_t c6 E
      refine zg_aload_n X 0 rfl dX3_take_34 ?_
      refine zg_aload_n X 0 rfl dX3_take_35 ?_
      refine fg_X3_22 X hI ha0 dX3_take_36 (fun v7 ev7 _ => ?_)
      replace E := zLet_s ev7 E
      have mv7 : v7.toInt = v3.toInt := by rw [ev7, ← ev3]
      refine zg_iconst X 1 dX3_take_39 (by decide) (fun v8 _ hv8 => ?_)
      replace E := zLet_s (zcst hv8 (by decide)) E
      refine zg_iadd X dX3_take_40 (by omega) (by omega) (fun v9 ev9 hv9 => ?_)
      replace E := zLet_s ev9 E
      refine zg_cVv (As := [.int v9]) (st := []) X ha0 rfl (by decide) rfl (t_X3_goTo l d L kd κ b _ hI a0 ha0 v9 ) mk_X3_64 mc_X3_goTo mz_X3 mi_X3_goTo ml_X3_goTo (na := 1) ⟨md_X3.1, md_X3.2, by decide +kernel⟩ rfl ⟨by decide, by decide⟩ (Nat.le_of_ble_eq_true rfl) dX3_take_41 (fun s10 hq => ?_)
      obtain ⟨hF, hS2, hI⟩ := hq
      replace E := zLet_s hF E
      have hS := hS.tr hS2 rfl rfl
      exact ret _ _ _ dX3_take_44 ⟨E.symm.trans hR, hS, hI⟩
    · skip
      replace E := zIf_f (Int.not_lt.mpr c6) E
      refine zg_aload_n X 0 rfl dX3_take_26 ?_
      refine zg_iconst X 2 dX3_take_27 (by decide) (fun v11 _ hv11 => ?_)
      replace E := zLet_s (zcst hv11 (by decide)) E
      refine zg_cVv (As := [.int v11]) (st := []) X ha0 rfl (by decide) rfl (t_X3_fail l d L kd κ b _ hI a0 ha0 v11 ) mk_X3_106 mc_X3_fail mz_X3 mi_X3_fail ml_X3_fail (na := 1) ⟨md_X3.1, md_X3.2, by decide +kernel⟩ rfl ⟨by decide, by decide⟩ (Nat.le_of_ble_eq_true rfl) dX3_take_28 (fun s12 hq => ?_)
      obtain ⟨hF, hS2, hI⟩ := hq
      replace E := zLet_s hF E
      have hS := hS.tr hS2 rfl rfl
      refine zg_goto X 44 dX3_take_31 (by decide) ?_
      exact ret _ _ _ dX3_take_44 ⟨E.symm.trans hR, hS, hI⟩
  · skip
    replace E := zIf_f c2 E
    refine zg_aload_n X 0 rfl dX3_take_8 ?_
    refine zg_iconst X 1 dX3_take_9 (by decide) (fun v13 _ hv13 => ?_)
    replace E := zLet_s (zcst hv13 (by decide)) E
    refine zg_cVv (As := [.int v13]) (st := []) X ha0 rfl (by decide) rfl (t_X3_fail l d L kd κ b _ hI a0 ha0 v13 ) mk_X3_106 mc_X3_fail mz_X3 mi_X3_fail ml_X3_fail (na := 1) ⟨md_X3.1, md_X3.2, by decide +kernel⟩ rfl ⟨by decide, by decide⟩ (Nat.le_of_ble_eq_true rfl) dX3_take_10 (fun s14 hq => ?_)
    obtain ⟨hF, hS2, hI⟩ := hq
    replace E := zLet_s hF E
    have hS := hS.tr hS2 rfl rfl
    refine zg_goto X 44 dX3_take_13 (by decide) ?_
    exact ret _ _ _ dX3_take_44 ⟨E.symm.trans hR, hS, hI⟩
set_option maxHeartbeats 4000000 in
set_option maxRecDepth 100000 in
theorem t_X3_placeNamed (l : Launch) (d : zD2) (L : List Nat) (kd : Nat → Nat) (κ : Int) (σ : zS) (hI : zI κ 2 L kd σ) (a0 : Nat) (ha0 : zT L kd a0 3) (p1 : Int64) : zMi l yX3_placeNamed (Cond.code yX3_placeNamed cX3_placeNamed 4 (some .int) :: zWL) 0 [.ref a0, .long p1] d L kd σ (fun v σ2 => (v, σ2) = F_X3_placeNamed a0 p1 σ ∧ zSm [] [] L kd σ σ2 ∧ (((-1) ≤ v.toInt ∧ v.toInt ≤ 11) ∧ zI κ 2 L kd σ2)) := by
  refine zMi.of (own := RX3) (by decide +kernel) rfl rfl (Nat.le_of_ble_eq_true rfl) ?_
  intro p e s m args below meth c A Q X ret
  refine zg_lv (lv2 := [(0, .ref a0), (1, .long p1)]) rfl ?_
  obtain ⟨R, hR⟩ : ∃ R, R = F_X3_placeNamed a0 p1 σ := ⟨_, rfl⟩
  have E := hR
  unfold F_X3_placeNamed at E
  have hS : zSm [] [] L kd σ σ := zSm.rf
  refine zg_aload_n X 0 rfl dX3_placeNamed_0 ?_
  refine fg_X3_36 X hI ha0 dX3_placeNamed_1 (fun v1 ev1 hv1 => ?_)
  replace E := zLet_s ev1 E
  refine zg_if_eq X 11 dX3_placeNamed_4 (by decide) (fun c2 => ?_) (fun c2 => ?_)
  · skip
    replace E := zIf_t c2 E
    refine zg_iconst X 1 dX3_placeNamed_11 (by decide) (fun v3 _ hv3 => ?_)
    replace E := zLet_s (zcst hv3 (by decide)) E
    refine zg_istore_n X [(3, .int v3), (0, .ref a0), (1, .long p1)] dX3_placeNamed_12 (by decide) rfl ?_
    have Lp5 : ∀ (nLp5 : Nat) (τ5 : zS) (x4 : Int32), zI κ 2 L kd τ5 → zSm [] [] L kd σ τ5 → R = F_X3_placeNamed_13 a0 p1  nLp5 x4 τ5 → 1 ≤ x4.toInt ∧ x4.toInt ≤ 12 → (12) - x4.toInt + 1 < (nLp5 : Int) → zG d L kd A 4 p l e (k2_rm 0 (100 * 0)) s m args below meth c Q τ5 13 [(3, .int x4), (0, .ref a0), (1, .long p1)] [] := by
      intro nLp5
      induction nLp5 with
      | zero => intro τ5 x4 hI hS E  hxLp5 hm ; exact absurd hm (by omega)
      | succ nLp5 ihLp5 =>
        intro τ5 x4 hI hS E  hxLp5 hmLp5 
        rw [F_X3_placeNamed_13] at E
        refine zg_iload_n X 0 rfl dX3_placeNamed_13 ?_
        refine zg_aload_n X 1 rfl dX3_placeNamed_14 ?_
        refine fg_X3_40 X hI ha0 dX3_placeNamed_15 (fun v6 ev6 hv6 => ?_)
        replace E := zLet_s ev6 E
        refine zg_icmp_gt X 49 dX3_placeNamed_18 (by decide) (fun c7 => ?_) (fun c7 => ?_)
        · skip
          replace E := zIf_t c7 E
          refine zg_iconst X (-1) dX3_placeNamed_49 (by decide) (fun v8 _ hv8 => ?_)
          replace E := zLet_s (zcst hv8 (by decide)) E
          exact ret _ _ _ _ dX3_placeNamed_50 rfl ⟨E.symm.trans hR, hS, ⟨⟨by omega, by omega⟩, hI⟩⟩
        · skip
          replace E := zIf_f (Int.not_lt.mpr c7) E
          refine zg_iload_n X 0 rfl dX3_placeNamed_21 ?_
          refine zg_bipush X 12 dX3_placeNamed_22 (by decide) (fun v9 _ hv9 => ?_)
          replace E := zLet_s (zcst hv9 (by decide)) E
          refine zg_icmp_ge X 49 dX3_placeNamed_24 (by decide) (fun c10 => ?_) (fun c10 => ?_)
          · omega
          · skip
            replace E := zIf_t c10 E
            refine zg_aload_n X 1 rfl dX3_placeNamed_27 ?_
            refine fg_X3_18 X hI ha0 dX3_placeNamed_28 (fun v11 ev11 hv11 => ?_)
            replace E := zLet_s (zgr ev11) E
            refine fg_X3_113 X hI hv11 dX3_placeNamed_31 (fun v12 ev12 hv12 => ?_)
            replace E := zLet_s (zgr ev12) E
            refine zg_iload_n X 0 rfl dX3_placeNamed_34 ?_
            refine ag_44 X hv12 (by omega) (by omega) dX3_placeNamed_35 (fun v13 ev13 => ?_)
            replace E := zLet_s ev13 E
            refine zg_lload_n X 2 rfl dX3_placeNamed_36 ?_
            refine zg_lcmp X dX3_placeNamed_37 (fun v14 ev14 => ?_)
            replace E := zLet_s ev14 E
            refine zg_if_ne X 43 dX3_placeNamed_38 (by decide) (fun c15 => ?_) (fun c15 => ?_)
            · skip
              replace E := zIf_f c15 E
              refine zg_iinc X 1 (fun v16 => [(3, .int v16), (0, .ref a0), (1, .long p1)]) 0 dX3_placeNamed_43 rfl (by decide) (by decide) (by omega) (by omega) (fun _ => rfl) (fun v16 ev16 hv16 => ?_)
              replace E := zLet_s (zinc ev16 (by decide)) E
              refine zg_goto X 13 dX3_placeNamed_46 (by decide) ?_
              refine zg_sub [0, 1, 2] rfl ?_
              exact ihLp5 _ v16 hI hS E  (by omega) (by omega) 
            · skip
              replace E := zIf_t c15 E
              refine zg_iload_n X 0 rfl dX3_placeNamed_41 ?_
              exact ret _ _ _ _ dX3_placeNamed_42 rfl ⟨E.symm.trans hR, hS, ⟨⟨by omega, by omega⟩, hI⟩⟩
    refine zg_sub [0, 1, 2] rfl ?_
    exact Lp5 10000 _ v3 hI hS E  (by omega) (by omega) 
  · skip
    replace E := zIf_f c2 E
    refine zg_iconst X 0 dX3_placeNamed_7 (by decide) (fun v17 _ hv17 => ?_)
    replace E := zLet_s (zcst hv17 (by decide)) E
    refine zg_goto X 12 dX3_placeNamed_8 (by decide) ?_
    refine zg_istore_n X [(3, .int v17), (0, .ref a0), (1, .long p1)] dX3_placeNamed_12 (by decide) rfl ?_
    have Lp19 : ∀ (nLp19 : Nat) (τ19 : zS) (x18 : Int32), zI κ 2 L kd τ19 → zSm [] [] L kd σ τ19 → R = F_X3_placeNamed_13_1 a0 p1  nLp19 x18 τ19 → 0 ≤ x18.toInt ∧ x18.toInt ≤ 12 → (12) - x18.toInt + 1 < (nLp19 : Int) → zG d L kd A 4 p l e (k2_rm 0 (100 * 0)) s m args below meth c Q τ19 13 [(3, .int x18), (0, .ref a0), (1, .long p1)] [] := by
      intro nLp19
      induction nLp19 with
      | zero => intro τ19 x18 hI hS E  hxLp19 hm ; exact absurd hm (by omega)
      | succ nLp19 ihLp19 =>
        intro τ19 x18 hI hS E  hxLp19 hmLp19 
        rw [F_X3_placeNamed_13_1] at E
        refine zg_iload_n X 0 rfl dX3_placeNamed_13 ?_
        refine zg_aload_n X 1 rfl dX3_placeNamed_14 ?_
        refine fg_X3_40 X hI ha0 dX3_placeNamed_15 (fun v20 ev20 hv20 => ?_)
        replace E := zLet_s ev20 E
        refine zg_icmp_gt X 49 dX3_placeNamed_18 (by decide) (fun c21 => ?_) (fun c21 => ?_)
        · skip
          replace E := zIf_t c21 E
          refine zg_iconst X (-1) dX3_placeNamed_49 (by decide) (fun v22 _ hv22 => ?_)
          replace E := zLet_s (zcst hv22 (by decide)) E
          exact ret _ _ _ _ dX3_placeNamed_50 rfl ⟨E.symm.trans hR, hS, ⟨⟨by omega, by omega⟩, hI⟩⟩
        · skip
          replace E := zIf_f (Int.not_lt.mpr c21) E
          refine zg_iload_n X 0 rfl dX3_placeNamed_21 ?_
          refine zg_bipush X 12 dX3_placeNamed_22 (by decide) (fun v23 _ hv23 => ?_)
          replace E := zLet_s (zcst hv23 (by decide)) E
          refine zg_icmp_ge X 49 dX3_placeNamed_24 (by decide) (fun c24 => ?_) (fun c24 => ?_)
          · omega
          · skip
            replace E := zIf_t c24 E
            refine zg_aload_n X 1 rfl dX3_placeNamed_27 ?_
            refine fg_X3_18 X hI ha0 dX3_placeNamed_28 (fun v25 ev25 hv25 => ?_)
            replace E := zLet_s (zgr ev25) E
            refine fg_X3_113 X hI hv25 dX3_placeNamed_31 (fun v26 ev26 hv26 => ?_)
            replace E := zLet_s (zgr ev26) E
            refine zg_iload_n X 0 rfl dX3_placeNamed_34 ?_
            refine ag_44 X hv26 (by omega) (by omega) dX3_placeNamed_35 (fun v27 ev27 => ?_)
            replace E := zLet_s ev27 E
            refine zg_lload_n X 2 rfl dX3_placeNamed_36 ?_
            refine zg_lcmp X dX3_placeNamed_37 (fun v28 ev28 => ?_)
            replace E := zLet_s ev28 E
            refine zg_if_ne X 43 dX3_placeNamed_38 (by decide) (fun c29 => ?_) (fun c29 => ?_)
            · skip
              replace E := zIf_f c29 E
              refine zg_iinc X 1 (fun v30 => [(3, .int v30), (0, .ref a0), (1, .long p1)]) 0 dX3_placeNamed_43 rfl (by decide) (by decide) (by omega) (by omega) (fun _ => rfl) (fun v30 ev30 hv30 => ?_)
              replace E := zLet_s (zinc ev30 (by decide)) E
              refine zg_goto X 13 dX3_placeNamed_46 (by decide) ?_
              refine zg_sub [0, 1, 2] rfl ?_
              exact ihLp19 _ v30 hI hS E  (by omega) (by omega) 
            · skip
              replace E := zIf_t c29 E
              refine zg_iload_n X 0 rfl dX3_placeNamed_41 ?_
              exact ret _ _ _ _ dX3_placeNamed_42 rfl ⟨E.symm.trans hR, hS, ⟨⟨by omega, by omega⟩, hI⟩⟩
    refine zg_sub [0, 1, 2] rfl ?_
    exact Lp19 10000 _ v17 hI hS E  (by omega) (by omega) 
set_option maxHeartbeats 4000000 in
set_option maxRecDepth 100000 in
theorem t_X3_newName (l : Launch) (d : zD2) (L : List Nat) (kd : Nat → Nat) (κ : Int) (σ : zS) (hI : zI κ 2 L kd σ) (a0 : Nat) (ha0 : zT L kd a0 3) : zMl l yX3_newName (Cond.code yX3_newName cX3_newName 3 (some .long) :: zWL) 2 [.ref a0] d L kd σ (fun v σ2 => (v, σ2) = F_X3_newName a0 σ ∧ zSm [3] [] L kd σ σ2 ∧ (zI κ 2 L kd σ2)) := by
  refine zMl.of (own := RX3) (by decide +kernel) rfl rfl (Nat.le_of_ble_eq_true rfl) ?_
  intro p e s m args below meth c A Q X ret
  refine zg_lv (lv2 := [(0, .ref a0)]) rfl ?_
  obtain ⟨R, hR⟩ : ∃ R, R = F_X3_newName a0 σ := ⟨_, rfl⟩
  have E := hR
  unfold F_X3_newName at E
  have hS : zSm [3] [] L kd σ σ := zSm.rf
  refine zg_aload_n X 0 rfl dX3_newName_0 ?_
  refine fg_X3_29 X ha0 dX3_newName_1 (fun v1 ev1 => ?_)
  replace E := zLet_s ev1 E
  refine zg_lstore_n X [(1, .long v1), (0, .ref a0)] dX3_newName_4 (by decide) rfl ?_
  refine zg_aload_n X 1 rfl dX3_newName_5 ?_
  refine fg_X3_26 X hI ha0 dX3_newName_6 (fun v2 ev2 _ => ?_)
  replace E := zLet_s ev2 E
  refine zg_bipush X 22 dX3_newName_9 (by decide) (fun v3 _ hv3 => ?_)
  replace E := zLet_s (zcst hv3 (by decide)) E
  refine zg_icmp_ne X 28 dX3_newName_11 (by decide) (fun c4 => ?_) (fun c4 => ?_)
  · skip
    replace E := zIf_f c4 E
    refine zg_aload_n X 1 rfl dX3_newName_28 ?_
    refine zg_bipush X 22 dX3_newName_29 (by decide) (fun v5 _ hv5 => ?_)
    replace E := zLet_s (zcst hv5 (by decide)) E
    refine zg_cVv (As := [.int v5]) (st := []) X ha0 rfl (by decide) rfl (t_X3_take l d L kd κ 2 _ hI a0 ha0 v5 ) mk_X3_87 mc_X3_take mz_X3 mi_X3_take ml_X3_take (na := 1) ⟨md_X3.1, md_X3.2, by decide +kernel⟩ rfl ⟨by decide, by decide⟩ (Nat.le_of_ble_eq_true rfl) dX3_newName_31 (fun s6 hq => ?_)
    obtain ⟨hF, hS2, hI⟩ := hq
    replace E := zLet_s hF E
    have hS := hS.tr hS2 rfl rfl
    refine zg_lload_n X 0 rfl dX3_newName_34 ?_
    exact ret _ _ _ _ dX3_newName_35 ⟨E.symm.trans hR, hS, hI⟩
  · skip
    replace E := zIf_t c4 E
    refine zg_aload_n X 1 rfl dX3_newName_14 ?_
    refine zg_lload_n X 0 rfl dX3_newName_15 ?_
    refine zg_cVi (As := [.long v1]) (st := []) X ha0 rfl (by decide) rfl (t_X3_placeNamed l d L kd κ _ hI a0 ha0 v1 ) mk_X3_125 mc_X3_placeNamed mz_X3 mi_X3_placeNamed ml_X3_placeNamed (na := 1) ⟨md_X3.1, md_X3.2, by decide +kernel⟩ rfl ⟨by decide, by decide⟩ (Nat.le_of_ble_eq_true rfl) dX3_newName_16 (fun v7 s8 hq => ?_)
    obtain ⟨hF, hS2, hI⟩ := hq
    replace E := zLet2_s hF E
    have hS := hS.tr hS2 rfl rfl
    obtain ⟨hv7, hI⟩ := hI
    refine zg_iconst X (-1) dX3_newName_19 (by decide) (fun v9 _ hv9 => ?_)
    replace E := zLet_s (zcst hv9 (by decide)) E
    refine zg_icmp_eq X 28 dX3_newName_20 (by decide) (fun c10 => ?_) (fun c10 => ?_)
    · skip
      replace E := zIf_t c10 E
      refine zg_aload_n X 1 rfl dX3_newName_28 ?_
      refine zg_bipush X 22 dX3_newName_29 (by decide) (fun v11 _ hv11 => ?_)
      replace E := zLet_s (zcst hv11 (by decide)) E
      refine zg_cVv (As := [.int v11]) (st := []) X ha0 rfl (by decide) rfl (t_X3_take l d L kd κ 2 _ hI a0 ha0 v11 ) mk_X3_87 mc_X3_take mz_X3 mi_X3_take ml_X3_take (na := 1) ⟨md_X3.1, md_X3.2, by decide +kernel⟩ rfl ⟨by decide, by decide⟩ (Nat.le_of_ble_eq_true rfl) dX3_newName_31 (fun s12 hq => ?_)
      obtain ⟨hF, hS2, hI⟩ := hq
      replace E := zLet_s hF E
      have hS := hS.tr hS2 rfl rfl
      refine zg_lload_n X 0 rfl dX3_newName_34 ?_
      exact ret _ _ _ _ dX3_newName_35 ⟨E.symm.trans hR, hS, hI⟩
    · skip
      replace E := zIf_f c10 E
      refine zg_aload_n X 1 rfl dX3_newName_23 ?_
      refine zg_iconst X 3 dX3_newName_24 (by decide) (fun v13 _ hv13 => ?_)
      replace E := zLet_s (zcst hv13 (by decide)) E
      refine zg_cVv (As := [.int v13]) (st := []) X ha0 rfl (by decide) rfl (t_X3_failLate l d L kd κ 2 _ hI a0 ha0 v13 ) mk_X3_129 mc_X3_failLate mz_X3 mi_X3_failLate ml_X3_failLate (na := 1) ⟨md_X3.1, md_X3.2, by decide +kernel⟩ rfl ⟨by decide, by decide⟩ (Nat.le_of_ble_eq_true rfl) dX3_newName_25 (fun s14 hq => ?_)
      obtain ⟨hF, hS2, hI⟩ := hq
      replace E := zLet_s hF E
      have hS := hS.tr hS2 rfl rfl
      refine zg_aload_n X 1 rfl dX3_newName_28 ?_
      refine zg_bipush X 22 dX3_newName_29 (by decide) (fun v15 _ hv15 => ?_)
      replace E := zLet_s (zcst hv15 (by decide)) E
      refine zg_cVv (As := [.int v15]) (st := []) X ha0 rfl (by decide) rfl (t_X3_take l d L kd κ 2 _ hI a0 ha0 v15 ) mk_X3_87 mc_X3_take mz_X3 mi_X3_take ml_X3_take (na := 1) ⟨md_X3.1, md_X3.2, by decide +kernel⟩ rfl ⟨by decide, by decide⟩ (Nat.le_of_ble_eq_true rfl) dX3_newName_31 (fun s16 hq => ?_)
      obtain ⟨hF, hS2, hI⟩ := hq
      replace E := zLet_s hF E
      have hS := hS.tr hS2 rfl rfl
      refine zg_lload_n X 0 rfl dX3_newName_34 ?_
      exact ret _ _ _ _ dX3_newName_35 ⟨E.symm.trans hR, hS, hI⟩
set_option maxHeartbeats 4000000 in
set_option maxRecDepth 100000 in
theorem t_X3_knownName (l : Launch) (d : zD2) (L : List Nat) (kd : Nat → Nat) (κ : Int) (σ : zS) (hI : zI κ 2 L kd σ) (a0 : Nat) (ha0 : zT L kd a0 3) : zMi l yX3_knownName (Cond.code yX3_knownName cX3_knownName 2 (some .int) :: zWL) 2 [.ref a0] d L kd σ (fun v σ2 => (v, σ2) = F_X3_knownName a0 σ ∧ zSm [3] [] L kd σ σ2 ∧ ((0 ≤ v.toInt ∧ v.toInt ≤ 11) ∧ zI κ 2 L kd σ2)) := by
  refine zMi.of (own := RX3) (by decide +kernel) rfl rfl (Nat.le_of_ble_eq_true rfl) ?_
  intro p e s m args below meth c A Q X ret
  refine zg_lv (lv2 := [(0, .ref a0)]) rfl ?_
  obtain ⟨R, hR⟩ : ∃ R, R = F_X3_knownName a0 σ := ⟨_, rfl⟩
  have E := hR
  unfold F_X3_knownName at E
  have hS : zSm [3] [] L kd σ σ := zSm.rf
  refine zg_aload_n X 0 rfl dX3_knownName_0 ?_
  refine zg_aload_n X 0 rfl dX3_knownName_1 ?_
  refine fg_X3_29 X ha0 dX3_knownName_2 (fun v1 ev1 => ?_)
  replace E := zLet_s ev1 E
  refine zg_cVi (As := [.long v1]) (st := []) X ha0 rfl (by decide) rfl (t_X3_placeNamed l d L kd κ _ hI a0 ha0 v1 ) mk_X3_125 mc_X3_placeNamed mz_X3 mi_X3_placeNamed ml_X3_placeNamed (na := 1) ⟨md_X3.1, md_X3.2, by decide +kernel⟩ rfl ⟨by decide, by decide⟩ (Nat.le_of_ble_eq_true rfl) dX3_knownName_5 (fun v2 s3 hq => ?_)
  obtain ⟨hF, hS2, hI⟩ := hq
  replace E := zLet2_s hF E
  have hS := hS.tr hS2 rfl rfl
  obtain ⟨hv2, hI⟩ := hI
  refine zg_istore_n X [(1, .int v2), (0, .ref a0)] dX3_knownName_8 (by decide) rfl ?_
  refine zg_aload_n X 1 rfl dX3_knownName_9 ?_
  refine fg_X3_26 X hI ha0 dX3_knownName_10 (fun v4 ev4 _ => ?_)
  replace E := zLet_s ev4 E
  refine zg_bipush X 22 dX3_knownName_13 (by decide) (fun v5 _ hv5 => ?_)
  replace E := zLet_s (zcst hv5 (by decide)) E
  refine zg_icmp_ne X 28 dX3_knownName_15 (by decide) (fun c6 => ?_) (fun c6 => ?_)
  · skip
    replace E := zIf_f c6 E
    refine zg_aload_n X 1 rfl dX3_knownName_28 ?_
    refine zg_bipush X 22 dX3_knownName_29 (by decide) (fun v7 _ hv7 => ?_)
    replace E := zLet_s (zcst hv7 (by decide)) E
    refine zg_cVv (As := [.int v7]) (st := []) X ha0 rfl (by decide) rfl (t_X3_take l d L kd κ 2 _ hI a0 ha0 v7 ) mk_X3_87 mc_X3_take mz_X3 mi_X3_take ml_X3_take (na := 1) ⟨md_X3.1, md_X3.2, by decide +kernel⟩ rfl ⟨by decide, by decide⟩ (Nat.le_of_ble_eq_true rfl) dX3_knownName_31 (fun s8 hq => ?_)
    obtain ⟨hF, hS2, hI⟩ := hq
    replace E := zLet_s hF E
    have hS := hS.tr hS2 rfl rfl
    refine zg_iconst X 0 dX3_knownName_34 (by decide) (fun v9 _ hv9 => ?_)
    replace E := zLet_s (zcst hv9 (by decide)) E
    refine zg_iload_n X 0 rfl dX3_knownName_35 ?_
    refine zg_max X wj_X3_132 ⟨by decide, Nat.le_of_ble_eq_true rfl⟩ dX3_knownName_36 (fun v10 hv10 => ?_)
    replace E := zLet_s (zmax_e hv10) E
    exact ret _ _ _ _ dX3_knownName_39 rfl ⟨E.symm.trans hR, hS, ⟨⟨by omega, by omega⟩, hI⟩⟩
  · skip
    replace E := zIf_t c6 E
    refine zg_iload_n X 0 rfl dX3_knownName_18 ?_
    refine zg_iconst X (-1) dX3_knownName_19 (by decide) (fun v11 _ hv11 => ?_)
    replace E := zLet_s (zcst hv11 (by decide)) E
    refine zg_icmp_ne X 28 dX3_knownName_20 (by decide) (fun c12 => ?_) (fun c12 => ?_)
    · skip
      replace E := zIf_f c12 E
      refine zg_aload_n X 1 rfl dX3_knownName_28 ?_
      refine zg_bipush X 22 dX3_knownName_29 (by decide) (fun v13 _ hv13 => ?_)
      replace E := zLet_s (zcst hv13 (by decide)) E
      refine zg_cVv (As := [.int v13]) (st := []) X ha0 rfl (by decide) rfl (t_X3_take l d L kd κ 2 _ hI a0 ha0 v13 ) mk_X3_87 mc_X3_take mz_X3 mi_X3_take ml_X3_take (na := 1) ⟨md_X3.1, md_X3.2, by decide +kernel⟩ rfl ⟨by decide, by decide⟩ (Nat.le_of_ble_eq_true rfl) dX3_knownName_31 (fun s14 hq => ?_)
      obtain ⟨hF, hS2, hI⟩ := hq
      replace E := zLet_s hF E
      have hS := hS.tr hS2 rfl rfl
      refine zg_iconst X 0 dX3_knownName_34 (by decide) (fun v15 _ hv15 => ?_)
      replace E := zLet_s (zcst hv15 (by decide)) E
      refine zg_iload_n X 0 rfl dX3_knownName_35 ?_
      refine zg_max X wj_X3_132 ⟨by decide, Nat.le_of_ble_eq_true rfl⟩ dX3_knownName_36 (fun v16 hv16 => ?_)
      replace E := zLet_s (zmax_e hv16) E
      exact ret _ _ _ _ dX3_knownName_39 rfl ⟨E.symm.trans hR, hS, ⟨⟨by omega, by omega⟩, hI⟩⟩
    · skip
      replace E := zIf_t c12 E
      refine zg_aload_n X 1 rfl dX3_knownName_23 ?_
      refine zg_iconst X 4 dX3_knownName_24 (by decide) (fun v17 _ hv17 => ?_)
      replace E := zLet_s (zcst hv17 (by decide)) E
      refine zg_cVv (As := [.int v17]) (st := []) X ha0 rfl (by decide) rfl (t_X3_failLate l d L kd κ 2 _ hI a0 ha0 v17 ) mk_X3_129 mc_X3_failLate mz_X3 mi_X3_failLate ml_X3_failLate (na := 1) ⟨md_X3.1, md_X3.2, by decide +kernel⟩ rfl ⟨by decide, by decide⟩ (Nat.le_of_ble_eq_true rfl) dX3_knownName_25 (fun s18 hq => ?_)
      obtain ⟨hF, hS2, hI⟩ := hq
      replace E := zLet_s hF E
      have hS := hS.tr hS2 rfl rfl
      refine zg_aload_n X 1 rfl dX3_knownName_28 ?_
      refine zg_bipush X 22 dX3_knownName_29 (by decide) (fun v19 _ hv19 => ?_)
      replace E := zLet_s (zcst hv19 (by decide)) E
      refine zg_cVv (As := [.int v19]) (st := []) X ha0 rfl (by decide) rfl (t_X3_take l d L kd κ 2 _ hI a0 ha0 v19 ) mk_X3_87 mc_X3_take mz_X3 mi_X3_take ml_X3_take (na := 1) ⟨md_X3.1, md_X3.2, by decide +kernel⟩ rfl ⟨by decide, by decide⟩ (Nat.le_of_ble_eq_true rfl) dX3_knownName_31 (fun s20 hq => ?_)
      obtain ⟨hF, hS2, hI⟩ := hq
      replace E := zLet_s hF E
      have hS := hS.tr hS2 rfl rfl
      refine zg_iconst X 0 dX3_knownName_34 (by decide) (fun v21 _ hv21 => ?_)
      replace E := zLet_s (zcst hv21 (by decide)) E
      refine zg_iload_n X 0 rfl dX3_knownName_35 ?_
      refine zg_max X wj_X3_132 ⟨by decide, Nat.le_of_ble_eq_true rfl⟩ dX3_knownName_36 (fun v22 hv22 => ?_)
      replace E := zLet_s (zmax_e hv22) E
      exact ret _ _ _ _ dX3_knownName_39 rfl ⟨E.symm.trans hR, hS, ⟨⟨by omega, by omega⟩, hI⟩⟩
set_option maxHeartbeats 4000000 in
set_option maxRecDepth 100000 in
theorem t_X3_number (l : Launch) (d : zD2) (L : List Nat) (kd : Nat → Nat) (κ : Int) (b : Nat) (σ : zS) (hI : zI κ b L kd σ) (a0 : Nat) (ha0 : zT L kd a0 3) (p1 : Int32) (p2 : Int32) : zMi l yX3_number (Cond.code yX3_number cX3_number 4 (some .int) :: zWL) 2 [.ref a0, .int p1, .int p2] d L kd σ (fun v σ2 => (v, σ2) = F_X3_number a0 p1 p2 σ ∧ zSm [3] [] L kd σ σ2 ∧ (zI κ b L kd σ2)) := by
  refine zMi.of (own := RX3) (by decide +kernel) rfl rfl (Nat.le_of_ble_eq_true rfl) ?_
  intro p e s m args below meth c A Q X ret
  refine zg_lv (lv2 := [(0, .ref a0), (1, .int p1), (2, .int p2)]) rfl ?_
  obtain ⟨R, hR⟩ : ∃ R, R = F_X3_number a0 p1 p2 σ := ⟨_, rfl⟩
  have E := hR
  unfold F_X3_number at E
  have hS : zSm [3] [] L kd σ σ := zSm.rf
  refine zg_aload_n X 0 rfl dX3_number_0 ?_
  refine fg_X3_29 X ha0 dX3_number_1 (fun v1 ev1 => ?_)
  replace E := zLet_s ev1 E
  refine zg_l2i X dX3_number_4 (fun v2 ev2 => ?_)
  replace E := zLet_s ev2 E
  refine zg_istore_n X [(3, .int v2), (0, .ref a0), (1, .int p1), (2, .int p2)] dX3_number_5 (by decide) rfl ?_
  refine zg_aload_n X 1 rfl dX3_number_6 ?_
  refine fg_X3_26 X hI ha0 dX3_number_7 (fun v3 ev3 _ => ?_)
  replace E := zLet_s ev3 E
  refine zg_bipush X 23 dX3_number_10 (by decide) (fun v4 _ hv4 => ?_)
  replace E := zLet_s (zcst hv4 (by decide)) E
  refine zg_icmp_ne X 29 dX3_number_12 (by decide) (fun c5 => ?_) (fun c5 => ?_)
  · skip
    replace E := zIf_f c5 E
    refine zg_aload_n X 1 rfl dX3_number_29 ?_
    refine zg_bipush X 23 dX3_number_30 (by decide) (fun v6 _ hv6 => ?_)
    replace E := zLet_s (zcst hv6 (by decide)) E
    refine zg_cVv (As := [.int v6]) (st := []) X ha0 rfl (by decide) rfl (t_X3_take l d L kd κ b _ hI a0 ha0 v6 ) mk_X3_87 mc_X3_take mz_X3 mi_X3_take ml_X3_take (na := 1) ⟨md_X3.1, md_X3.2, by decide +kernel⟩ rfl ⟨by decide, by decide⟩ (Nat.le_of_ble_eq_true rfl) dX3_number_32 (fun s7 hq => ?_)
    obtain ⟨hF, hS2, hI⟩ := hq
    replace E := zLet_s hF E
    have hS := hS.tr hS2 rfl rfl
    refine zg_iload_n X 0 rfl dX3_number_35 ?_
    exact ret _ _ _ _ dX3_number_36 rfl ⟨E.symm.trans hR, hS, hI⟩
  · skip
    replace E := zIf_t c5 E
    refine zg_iload_n X 0 rfl dX3_number_15 ?_
    refine zg_iload_n X 2 rfl dX3_number_16 ?_
    refine zg_iload_n X 3 rfl dX3_number_17 ?_
    refine zg_cSNi (As := [.int v2, .int p1, .int p2]) (st := []) X (t_X10_isWithin l d L kd _ v2 p1 p2 ) mk_X3_80 mc_X10_isWithin mz_X10 ms_X10_isWithin (na := 3) ⟨md_X10.1, md_X10.2, by decide +kernel⟩ rfl ⟨by decide, by decide⟩ (Nat.le_of_ble_eq_true rfl) dX3_number_18 (fun v8 σ2 hq => ?_)
    obtain ⟨⟨hF, hv8⟩, rfl⟩ := hq
    replace E := zLet_s hF E
    refine zg_if_ne X 29 dX3_number_21 (by decide) (fun c9 => ?_) (fun c9 => ?_)
    · skip
      replace E := zIf_f c9 E
      refine zg_aload_n X 1 rfl dX3_number_29 ?_
      refine zg_bipush X 23 dX3_number_30 (by decide) (fun v10 _ hv10 => ?_)
      replace E := zLet_s (zcst hv10 (by decide)) E
      refine zg_cVv (As := [.int v10]) (st := []) X ha0 rfl (by decide) rfl (t_X3_take l d L kd κ b _ hI a0 ha0 v10 ) mk_X3_87 mc_X3_take mz_X3 mi_X3_take ml_X3_take (na := 1) ⟨md_X3.1, md_X3.2, by decide +kernel⟩ rfl ⟨by decide, by decide⟩ (Nat.le_of_ble_eq_true rfl) dX3_number_32 (fun s11 hq => ?_)
      obtain ⟨hF, hS2, hI⟩ := hq
      replace E := zLet_s hF E
      have hS := hS.tr hS2 rfl rfl
      refine zg_iload_n X 0 rfl dX3_number_35 ?_
      exact ret _ _ _ _ dX3_number_36 rfl ⟨E.symm.trans hR, hS, hI⟩
    · skip
      replace E := zIf_t c9 E
      refine zg_aload_n X 1 rfl dX3_number_24 ?_
      refine zg_iconst X 5 dX3_number_25 (by decide) (fun v12 _ hv12 => ?_)
      replace E := zLet_s (zcst hv12 (by decide)) E
      refine zg_cVv (As := [.int v12]) (st := []) X ha0 rfl (by decide) rfl (t_X3_failLate l d L kd κ b _ hI a0 ha0 v12 ) mk_X3_129 mc_X3_failLate mz_X3 mi_X3_failLate ml_X3_failLate (na := 1) ⟨md_X3.1, md_X3.2, by decide +kernel⟩ rfl ⟨by decide, by decide⟩ (Nat.le_of_ble_eq_true rfl) dX3_number_26 (fun s13 hq => ?_)
      obtain ⟨hF, hS2, hI⟩ := hq
      replace E := zLet_s hF E
      have hS := hS.tr hS2 rfl rfl
      refine zg_aload_n X 1 rfl dX3_number_29 ?_
      refine zg_bipush X 23 dX3_number_30 (by decide) (fun v14 _ hv14 => ?_)
      replace E := zLet_s (zcst hv14 (by decide)) E
      refine zg_cVv (As := [.int v14]) (st := []) X ha0 rfl (by decide) rfl (t_X3_take l d L kd κ b _ hI a0 ha0 v14 ) mk_X3_87 mc_X3_take mz_X3 mi_X3_take ml_X3_take (na := 1) ⟨md_X3.1, md_X3.2, by decide +kernel⟩ rfl ⟨by decide, by decide⟩ (Nat.le_of_ble_eq_true rfl) dX3_number_32 (fun s15 hq => ?_)
      obtain ⟨hF, hS2, hI⟩ := hq
      replace E := zLet_s hF E
      have hS := hS.tr hS2 rfl rfl
      refine zg_iload_n X 0 rfl dX3_number_35 ?_
      exact ret _ _ _ _ dX3_number_36 rfl ⟨E.symm.trans hR, hS, hI⟩
set_option maxHeartbeats 4000000 in
set_option maxRecDepth 100000 in
theorem t_X3_mouth (l : Launch) (d : zD2) (L : List Nat) (kd : Nat → Nat) (κ : Int) (σ : zS) (hI : zI κ 2 L kd σ) (a0 : Nat) (ha0 : zT L kd a0 3) : zMv l yX3_mouth (Cond.code yX3_mouth cX3_mouth 3 none :: zWL) 3 [.ref a0] d L kd σ (fun σ2 => σ2 = F_X3_mouth a0 σ ∧ zSm [3, 44, 45, 46, 47, 48] [] L kd σ σ2 ∧ (zI κ 2 L kd σ2)) := by
  refine zMv.of (own := RX3) (by decide +kernel) rfl rfl (Nat.le_of_ble_eq_true rfl) ?_
  intro p e s m args below meth c A Q X ret
  refine zg_lv (lv2 := [(0, .ref a0)]) rfl ?_
  obtain ⟨R, hR⟩ : ∃ R, R = F_X3_mouth a0 σ := ⟨_, rfl⟩
  have E := hR
  unfold F_X3_mouth at E
  have hS : zSm [3, 44, 45, 46, 47, 48] [] L kd σ σ := zSm.rf
  refine zg_aload_n X 0 rfl dX3_mouth_0 ?_
  refine fg_X3_36 X hI ha0 dX3_mouth_1 (fun v1 ev1 hv1 => ?_)
  replace E := zLet_s ev1 E
  refine zg_if_eq X 12 dX3_mouth_4 (by decide) (fun c2 => ?_) (fun c2 => ?_)
  · skip
    replace E := zIf_t c2 E
    refine zg_aload_n X 0 rfl dX3_mouth_12 ?_
    refine zg_iconst X 0 dX3_mouth_13 (by decide) (fun v3 _ hv3 => ?_)
    replace E := zLet_s (zcst hv3 (by decide)) E
    refine zg_cVv (As := [.int v3]) (st := []) X ha0 rfl (by decide) rfl (t_X3_take l d L kd κ 2 _ hI a0 ha0 v3 ) mk_X3_87 mc_X3_take mz_X3 mi_X3_take ml_X3_take (na := 1) ⟨md_X3.1, md_X3.2, by decide +kernel⟩ rfl ⟨by decide, by decide⟩ (Nat.le_of_ble_eq_true rfl) dX3_mouth_14 (fun s4 hq => ?_)
    obtain ⟨hF, hS2, hI⟩ := hq
    replace E := zLet_s hF E
    have hS := hS.tr hS2 rfl rfl
    refine zg_aload_n X 0 rfl dX3_mouth_17 ?_
    refine zg_cVl (As := []) (st := []) X ha0 rfl (by decide) rfl (t_X3_newName l d L kd κ _ hI a0 ha0 ) mk_X3_109 mc_X3_newName mz_X3 mi_X3_newName ml_X3_newName (na := 0) ⟨md_X3.1, md_X3.2, by decide +kernel⟩ rfl ⟨by decide, by decide⟩ (Nat.le_of_ble_eq_true rfl) dX3_mouth_18 (fun v5 s6 hq => ?_)
    obtain ⟨hF, hS2, hI⟩ := hq
    replace E := zLet2_s hF E
    have hS := hS.tr hS2 rfl rfl
    refine zg_lstore_n X [(1, .long v5), (0, .ref a0)] dX3_mouth_21 (by decide) rfl ?_
    refine zg_aload_n X 1 rfl dX3_mouth_22 ?_
    refine fg_X3_43 X hI ha0 dX3_mouth_23 (fun v7 ev7 _ => ?_)
    replace E := zLet_s ev7 E
    refine zg_if_ne X 56 dX3_mouth_26 (by decide) (fun c8 => ?_) (fun c8 => ?_)
    · skip
      replace E := zIf_f c8 E
      exact ret _ _ _ dX3_mouth_56 ⟨E.symm.trans hR, hS, hI⟩
    · skip
      replace E := zIf_t c8 E
      refine zg_aload_n X 1 rfl dX3_mouth_29 ?_
      refine zg_iconst X 1 dX3_mouth_30 (by decide) (fun v9 _ hv9 => ?_)
      replace E := zLet_s (zcst hv9 (by decide)) E
      refine fp_X3_36 X hI ha0 ⟨by omega, by omega⟩ dX3_mouth_31 (fun s10 es10 hI => ?_)
      replace E := zLet_s es10 E
      have hS := hS.i ha0 es10 rfl
      refine zg_aload_n X 1 rfl dX3_mouth_34 ?_
      refine fg_X3_18 X hI ha0 dX3_mouth_35 (fun v11 ev11 hv11 => ?_)
      replace E := zLet_s (zgr ev11) E
      refine fg_X3_113 X hI hv11 dX3_mouth_38 (fun v12 ev12 hv12 => ?_)
      replace E := zLet_s (zgr ev12) E
      refine zg_iconst X 0 dX3_mouth_41 (by decide) (fun v13 _ hv13 => ?_)
      replace E := zLet_s (zcst hv13 (by decide)) E
      refine zg_lload_n X 0 rfl dX3_mouth_42 ?_
      refine as_44 X hI hv12 (by omega) (by omega) dX3_mouth_43 (fun s14 es14 hI => ?_)
      replace E := zLet_s es14 E
      have hS := hS.l hv12 es14 rfl
      refine zg_aload_n X 1 rfl dX3_mouth_44 ?_
      refine fg_X3_18 X hI ha0 dX3_mouth_45 (fun v15 ev15 hv15 => ?_)
      replace E := zLet_s (zgr ev15) E
      refine zg_iconst X 0 dX3_mouth_48 (by decide) (fun v16 _ hv16 => ?_)
      replace E := zLet_s (zcst hv16 (by decide)) E
      refine zg_iconst X 0 dX3_mouth_49 (by decide) (fun v17 _ hv17 => ?_)
      replace E := zLet_s (zcst hv17 (by decide)) E
      refine zg_iconst X 0 dX3_mouth_50 (by decide) (fun v18 _ hv18 => ?_)
      replace E := zLet_s (zcst hv18 (by decide)) E
      refine zg_iconst X 0 dX3_mouth_51 (by decide) (fun v19 _ hv19 => ?_)
      replace E := zLet_s (zcst hv19 (by decide)) E
      refine zg_iconst X 0 dX3_mouth_52 (by decide) (fun v20 _ hv20 => ?_)
      replace E := zLet_s (zcst hv20 (by decide)) E
      refine zg_cVv (As := [.int v16, .int v17, .int v18, .int v19, .int v20]) (st := []) X hv15 rfl (by decide) rfl (t_X9_setPlace l d L kd κ 2 _ hI v15 hv15 v16 v17 v18 v19 v20 (by omega)) mk_X3_117 mc_X9_setPlace mz_X9 mi_X9_setPlace ml_X9_setPlace (na := 5) ⟨md_X9.1, md_X9.2, by decide +kernel⟩ rfl ⟨by decide, by decide⟩ (Nat.le_of_ble_eq_true rfl) dX3_mouth_53 (fun s21 hq => ?_)
      obtain ⟨hF, hS2, hI⟩ := hq
      replace E := zLet_s hF E
      have hS := hS.tr hS2 rfl rfl
      exact ret _ _ _ dX3_mouth_56 ⟨E.symm.trans hR, hS, hI⟩
  · skip
    replace E := zIf_f c2 E
    refine zg_aload_n X 0 rfl dX3_mouth_7 ?_
    refine zg_iconst X 2 dX3_mouth_8 (by decide) (fun v22 _ hv22 => ?_)
    replace E := zLet_s (zcst hv22 (by decide)) E
    refine zg_cVv (As := [.int v22]) (st := []) X ha0 rfl (by decide) rfl (t_X3_fail l d L kd κ 2 _ hI a0 ha0 v22 ) mk_X3_106 mc_X3_fail mz_X3 mi_X3_fail ml_X3_fail (na := 1) ⟨md_X3.1, md_X3.2, by decide +kernel⟩ rfl ⟨by decide, by decide⟩ (Nat.le_of_ble_eq_true rfl) dX3_mouth_9 (fun s23 hq => ?_)
    obtain ⟨hF, hS2, hI⟩ := hq
    replace E := zLet_s hF E
    have hS := hS.tr hS2 rfl rfl
    refine zg_aload_n X 0 rfl dX3_mouth_12 ?_
    refine zg_iconst X 0 dX3_mouth_13 (by decide) (fun v24 _ hv24 => ?_)
    replace E := zLet_s (zcst hv24 (by decide)) E
    refine zg_cVv (As := [.int v24]) (st := []) X ha0 rfl (by decide) rfl (t_X3_take l d L kd κ 2 _ hI a0 ha0 v24 ) mk_X3_87 mc_X3_take mz_X3 mi_X3_take ml_X3_take (na := 1) ⟨md_X3.1, md_X3.2, by decide +kernel⟩ rfl ⟨by decide, by decide⟩ (Nat.le_of_ble_eq_true rfl) dX3_mouth_14 (fun s25 hq => ?_)
    obtain ⟨hF, hS2, hI⟩ := hq
    replace E := zLet_s hF E
    have hS := hS.tr hS2 rfl rfl
    refine zg_aload_n X 0 rfl dX3_mouth_17 ?_
    refine zg_cVl (As := []) (st := []) X ha0 rfl (by decide) rfl (t_X3_newName l d L kd κ _ hI a0 ha0 ) mk_X3_109 mc_X3_newName mz_X3 mi_X3_newName ml_X3_newName (na := 0) ⟨md_X3.1, md_X3.2, by decide +kernel⟩ rfl ⟨by decide, by decide⟩ (Nat.le_of_ble_eq_true rfl) dX3_mouth_18 (fun v26 s27 hq => ?_)
    obtain ⟨hF, hS2, hI⟩ := hq
    replace E := zLet2_s hF E
    have hS := hS.tr hS2 rfl rfl
    refine zg_lstore_n X [(1, .long v26), (0, .ref a0)] dX3_mouth_21 (by decide) rfl ?_
    refine zg_aload_n X 1 rfl dX3_mouth_22 ?_
    refine fg_X3_43 X hI ha0 dX3_mouth_23 (fun v28 ev28 _ => ?_)
    replace E := zLet_s ev28 E
    refine zg_if_ne X 56 dX3_mouth_26 (by decide) (fun c29 => ?_) (fun c29 => ?_)
    · skip
      replace E := zIf_f c29 E
      exact ret _ _ _ dX3_mouth_56 ⟨E.symm.trans hR, hS, hI⟩
    · skip
      replace E := zIf_t c29 E
      refine zg_aload_n X 1 rfl dX3_mouth_29 ?_
      refine zg_iconst X 1 dX3_mouth_30 (by decide) (fun v30 _ hv30 => ?_)
      replace E := zLet_s (zcst hv30 (by decide)) E
      refine fp_X3_36 X hI ha0 ⟨by omega, by omega⟩ dX3_mouth_31 (fun s31 es31 hI => ?_)
      replace E := zLet_s es31 E
      have hS := hS.i ha0 es31 rfl
      refine zg_aload_n X 1 rfl dX3_mouth_34 ?_
      refine fg_X3_18 X hI ha0 dX3_mouth_35 (fun v32 ev32 hv32 => ?_)
      replace E := zLet_s (zgr ev32) E
      refine fg_X3_113 X hI hv32 dX3_mouth_38 (fun v33 ev33 hv33 => ?_)
      replace E := zLet_s (zgr ev33) E
      refine zg_iconst X 0 dX3_mouth_41 (by decide) (fun v34 _ hv34 => ?_)
      replace E := zLet_s (zcst hv34 (by decide)) E
      refine zg_lload_n X 0 rfl dX3_mouth_42 ?_
      refine as_44 X hI hv33 (by omega) (by omega) dX3_mouth_43 (fun s35 es35 hI => ?_)
      replace E := zLet_s es35 E
      have hS := hS.l hv33 es35 rfl
      refine zg_aload_n X 1 rfl dX3_mouth_44 ?_
      refine fg_X3_18 X hI ha0 dX3_mouth_45 (fun v36 ev36 hv36 => ?_)
      replace E := zLet_s (zgr ev36) E
      refine zg_iconst X 0 dX3_mouth_48 (by decide) (fun v37 _ hv37 => ?_)
      replace E := zLet_s (zcst hv37 (by decide)) E
      refine zg_iconst X 0 dX3_mouth_49 (by decide) (fun v38 _ hv38 => ?_)
      replace E := zLet_s (zcst hv38 (by decide)) E
      refine zg_iconst X 0 dX3_mouth_50 (by decide) (fun v39 _ hv39 => ?_)
      replace E := zLet_s (zcst hv39 (by decide)) E
      refine zg_iconst X 0 dX3_mouth_51 (by decide) (fun v40 _ hv40 => ?_)
      replace E := zLet_s (zcst hv40 (by decide)) E
      refine zg_iconst X 0 dX3_mouth_52 (by decide) (fun v41 _ hv41 => ?_)
      replace E := zLet_s (zcst hv41 (by decide)) E
      refine zg_cVv (As := [.int v37, .int v38, .int v39, .int v40, .int v41]) (st := []) X hv36 rfl (by decide) rfl (t_X9_setPlace l d L kd κ 2 _ hI v36 hv36 v37 v38 v39 v40 v41 (by omega)) mk_X3_117 mc_X9_setPlace mz_X9 mi_X9_setPlace ml_X9_setPlace (na := 5) ⟨md_X9.1, md_X9.2, by decide +kernel⟩ rfl ⟨by decide, by decide⟩ (Nat.le_of_ble_eq_true rfl) dX3_mouth_53 (fun s42 hq => ?_)
      obtain ⟨hF, hS2, hI⟩ := hq
      replace E := zLet_s hF E
      have hS := hS.tr hS2 rfl rfl
      exact ret _ _ _ dX3_mouth_56 ⟨E.symm.trans hR, hS, hI⟩
set_option maxHeartbeats 4000000 in
set_option maxRecDepth 100000 in
theorem t_X3_newPlace (l : Launch) (d : zD2) (L : List Nat) (kd : Nat → Nat) (κ : Int) (σ : zS) (hI : zI κ 2 L kd σ) (a0 : Nat) (ha0 : zT L kd a0 3) : zMv l yX3_newPlace (Cond.code yX3_newPlace cX3_newPlace 7 none :: zWL) 3 [.ref a0] d L kd σ (fun σ2 => σ2 = F_X3_newPlace a0 σ ∧ zSm [3, 44, 45, 46, 47, 48] [] L kd σ σ2 ∧ (zI κ 2 L kd σ2)) := by
  refine zMv.of (own := RX3) (by decide +kernel) rfl rfl (Nat.le_of_ble_eq_true rfl) ?_
  intro p e s m args below meth c A Q X ret
  refine zg_lv (lv2 := [(0, .ref a0)]) rfl ?_
  obtain ⟨R, hR⟩ : ∃ R, R = F_X3_newPlace a0 σ := ⟨_, rfl⟩
  have E := hR
  unfold F_X3_newPlace at E
  have hS : zSm [3, 44, 45, 46, 47, 48] [] L kd σ σ := zSm.rf
  refine zg_aload_n X 0 rfl dX3_newPlace_0 ?_
  refine fg_X3_40 X hI ha0 dX3_newPlace_1 (fun v1 ev1 hv1 => ?_)
  replace E := zLet_s ev1 E
  refine zg_bipush X 11 dX3_newPlace_4 (by decide) (fun v2 _ hv2 => ?_)
  replace E := zLet_s (zcst hv2 (by decide)) E
  refine zg_icmp_lt X 14 dX3_newPlace_6 (by decide) (fun c3 => ?_) (fun c3 => ?_)
  · skip
    replace E := zIf_t c3 E
    refine zg_aload_n X 0 rfl dX3_newPlace_14 ?_
    refine zg_iconst X 1 dX3_newPlace_15 (by decide) (fun v4 _ hv4 => ?_)
    replace E := zLet_s (zcst hv4 (by decide)) E
    refine zg_cVv (As := [.int v4]) (st := []) X ha0 rfl (by decide) rfl (t_X3_take l d L kd κ 2 _ hI a0 ha0 v4 ) mk_X3_87 mc_X3_take mz_X3 mi_X3_take ml_X3_take (na := 1) ⟨md_X3.1, md_X3.2, by decide +kernel⟩ rfl ⟨by decide, by decide⟩ (Nat.le_of_ble_eq_true rfl) dX3_newPlace_16 (fun s5 hq => ?_)
    obtain ⟨hF, hS2, hI⟩ := hq
    replace E := zLet_s hF E
    have hS := hS.tr hS2 rfl rfl
    refine zg_aload_n X 0 rfl dX3_newPlace_19 ?_
    refine zg_cVl (As := []) (st := []) X ha0 rfl (by decide) rfl (t_X3_newName l d L kd κ _ hI a0 ha0 ) mk_X3_109 mc_X3_newName mz_X3 mi_X3_newName ml_X3_newName (na := 0) ⟨md_X3.1, md_X3.2, by decide +kernel⟩ rfl ⟨by decide, by decide⟩ (Nat.le_of_ble_eq_true rfl) dX3_newPlace_20 (fun v6 s7 hq => ?_)
    obtain ⟨hF, hS2, hI⟩ := hq
    replace E := zLet2_s hF E
    have hS := hS.tr hS2 rfl rfl
    refine zg_lstore_n X [(1, .long v6), (0, .ref a0)] dX3_newPlace_23 (by decide) rfl ?_
    refine zg_aload_n X 1 rfl dX3_newPlace_24 ?_
    refine zg_cVi (As := []) (st := []) X ha0 rfl (by decide) rfl (t_X3_knownName l d L kd κ _ hI a0 ha0 ) mk_X3_121 mc_X3_knownName mz_X3 mi_X3_knownName ml_X3_knownName (na := 0) ⟨md_X3.1, md_X3.2, by decide +kernel⟩ rfl ⟨by decide, by decide⟩ (Nat.le_of_ble_eq_true rfl) dX3_newPlace_25 (fun v8 s9 hq => ?_)
    obtain ⟨hF, hS2, hI⟩ := hq
    replace E := zLet2_s hF E
    have hS := hS.tr hS2 rfl rfl
    obtain ⟨hv8, hI⟩ := hI
    refine zg_istore_n X [(3, .int v8), (1, .long v6), (0, .ref a0)] dX3_newPlace_28 (by decide) rfl ?_
    refine zg_aload_n X 2 rfl dX3_newPlace_29 ?_
    refine zg_iconst X 1 dX3_newPlace_30 (by decide) (fun v10 _ hv10 => ?_)
    replace E := zLet_s (zcst hv10 (by decide)) E
    refine zg_bipush X 99 dX3_newPlace_31 (by decide) (fun v11 _ hv11 => ?_)
    replace E := zLet_s (zcst hv11 (by decide)) E
    refine zg_cVi (As := [.int v10, .int v11]) (st := []) X ha0 rfl (by decide) rfl (t_X3_number l d L kd κ 2 _ hI a0 ha0 v10 v11 ) mk_X3_90 mc_X3_number mz_X3 mi_X3_number ml_X3_number (na := 2) ⟨md_X3.1, md_X3.2, by decide +kernel⟩ rfl ⟨by decide, by decide⟩ (Nat.le_of_ble_eq_true rfl) dX3_newPlace_33 (fun v12 s13 hq => ?_)
    obtain ⟨hF, hS2, hI⟩ := hq
    replace E := zLet2_s hF E
    have hS := hS.tr hS2 rfl rfl
    refine zg_istore X [(4, .int v12), (3, .int v8), (1, .long v6), (0, .ref a0)] dX3_newPlace_36 (by decide) rfl ?_
    refine zg_aload_n X 3 rfl dX3_newPlace_38 ?_
    refine zg_iconst X 0 dX3_newPlace_39 (by decide) (fun v14 _ hv14 => ?_)
    replace E := zLet_s (zcst hv14 (by decide)) E
    refine zg_bipush X 99 dX3_newPlace_40 (by decide) (fun v15 _ hv15 => ?_)
    replace E := zLet_s (zcst hv15 (by decide)) E
    refine zg_cVi (As := [.int v14, .int v15]) (st := []) X ha0 rfl (by decide) rfl (t_X3_number l d L kd κ 2 _ hI a0 ha0 v14 v15 ) mk_X3_90 mc_X3_number mz_X3 mi_X3_number ml_X3_number (na := 2) ⟨md_X3.1, md_X3.2, by decide +kernel⟩ rfl ⟨by decide, by decide⟩ (Nat.le_of_ble_eq_true rfl) dX3_newPlace_42 (fun v16 s17 hq => ?_)
    obtain ⟨hF, hS2, hI⟩ := hq
    replace E := zLet2_s hF E
    have hS := hS.tr hS2 rfl rfl
    refine zg_istore X [(5, .int v16), (4, .int v12), (3, .int v8), (1, .long v6), (0, .ref a0)] dX3_newPlace_45 (by decide) rfl ?_
    refine zg_aload_n X 4 rfl dX3_newPlace_47 ?_
    refine zg_iconst X 0 dX3_newPlace_48 (by decide) (fun v18 _ hv18 => ?_)
    replace E := zLet_s (zcst hv18 (by decide)) E
    refine zg_bipush X 99 dX3_newPlace_49 (by decide) (fun v19 _ hv19 => ?_)
    replace E := zLet_s (zcst hv19 (by decide)) E
    refine zg_cVi (As := [.int v18, .int v19]) (st := []) X ha0 rfl (by decide) rfl (t_X3_number l d L kd κ 2 _ hI a0 ha0 v18 v19 ) mk_X3_90 mc_X3_number mz_X3 mi_X3_number ml_X3_number (na := 2) ⟨md_X3.1, md_X3.2, by decide +kernel⟩ rfl ⟨by decide, by decide⟩ (Nat.le_of_ble_eq_true rfl) dX3_newPlace_51 (fun v20 s21 hq => ?_)
    obtain ⟨hF, hS2, hI⟩ := hq
    replace E := zLet2_s hF E
    have hS := hS.tr hS2 rfl rfl
    refine zg_istore X [(6, .int v20), (5, .int v16), (4, .int v12), (3, .int v8), (1, .long v6), (0, .ref a0)] dX3_newPlace_54 (by decide) rfl ?_
    refine zg_aload_n X 5 rfl dX3_newPlace_56 ?_
    refine fg_X3_43 X hI ha0 dX3_newPlace_57 (fun v22 ev22 _ => ?_)
    replace E := zLet_s ev22 E
    refine zg_if_ne X 113 dX3_newPlace_60 (by decide) (fun c23 => ?_) (fun c23 => ?_)
    · skip
      replace E := zIf_f c23 E
      exact ret _ _ _ dX3_newPlace_113 ⟨E.symm.trans hR, hS, hI⟩
    · skip
      replace E := zIf_t c23 E
      refine zg_aload_n X 5 rfl dX3_newPlace_63 ?_
      refine fg_X3_40 X hI ha0 dX3_newPlace_64 (fun v24 ev24 hv24 => ?_)
      replace E := zLet_s ev24 E
      refine zg_bipush X 11 dX3_newPlace_67 (by decide) (fun v25 _ hv25 => ?_)
      replace E := zLet_s (zcst hv25 (by decide)) E
      refine zg_icmp_ge X 113 dX3_newPlace_69 (by decide) (fun c26 => ?_) (fun c26 => ?_)
      · skip
        replace E := zIf_f (Int.not_lt.mpr c26) E
        exact ret _ _ _ dX3_newPlace_113 ⟨E.symm.trans hR, hS, hI⟩
      · skip
        replace E := zIf_t c26 E
        refine zg_aload_n X 5 rfl dX3_newPlace_72 ?_
        refine zg_dup X dX3_newPlace_73 rfl ?_
        refine fg_X3_40 X hI ha0 dX3_newPlace_74 (fun v27 ev27 hv27 => ?_)
        replace E := zLet_s ev27 E
        have mv27 : v27.toInt = v24.toInt := by rw [ev27, ← ev24]
        refine zg_iconst X 1 dX3_newPlace_77 (by decide) (fun v28 _ hv28 => ?_)
        replace E := zLet_s (zcst hv28 (by decide)) E
        refine zg_iadd X dX3_newPlace_78 (by omega) (by omega) (fun v29 ev29 hv29 => ?_)
        replace E := zLet_s ev29 E
        refine fp_X3_40 X hI ha0 ⟨by omega, by omega⟩ dX3_newPlace_79 (fun s30 es30 hI => ?_)
        replace E := zLet_s es30 E
        have hS := hS.i ha0 es30 rfl
        have e32 : v29 = s30.1 a0 7 := by rw [es30]; exact zm_s
        refine zg_aload_n X 5 rfl dX3_newPlace_82 ?_
        refine fg_X3_18 X hI ha0 dX3_newPlace_83 (fun v33 ev33 hv33 => ?_)
        replace E := zLet_s (zgr ev33) E
        refine fg_X3_113 X hI hv33 dX3_newPlace_86 (fun v34 ev34 hv34 => ?_)
        replace E := zLet_s (zgr ev34) E
        refine zg_aload_n X 5 rfl dX3_newPlace_89 ?_
        refine fg_X3_40 X hI ha0 dX3_newPlace_90 (fun v35 ev35 hv35 => ?_)
        replace E := zLet_s ev35 E
        have mv35 : v35.toInt = v29.toInt := by rw [ev35, ← e32]
        refine zg_lload_n X 4 rfl dX3_newPlace_93 ?_
        refine as_44 X hI hv34 (by omega) (by omega) dX3_newPlace_94 (fun s36 es36 hI => ?_)
        replace E := zLet_s es36 E
        have hS := hS.l hv34 es36 rfl
        have e37 : v35 = s36.1 a0 7 := by rw [es36]; exact ev35
        refine zg_aload_n X 5 rfl dX3_newPlace_95 ?_
        refine fg_X3_18 X hI ha0 dX3_newPlace_96 (fun v38 ev38 hv38 => ?_)
        replace E := zLet_s (zgr ev38) E
        refine zg_aload_n X 5 rfl dX3_newPlace_99 ?_
        refine fg_X3_40 X hI ha0 dX3_newPlace_100 (fun v39 ev39 hv39 => ?_)
        replace E := zLet_s ev39 E
        have mv39 : v39.toInt = v35.toInt := by rw [ev39, ← e37]
        refine zg_iload_n X 3 rfl dX3_newPlace_103 ?_
        refine zg_iload X 2 rfl dX3_newPlace_104 ?_
        refine zg_iload X 1 rfl dX3_newPlace_106 ?_
        refine zg_iload X 0 rfl dX3_newPlace_108 ?_
        refine zg_cVv (As := [.int v39, .int v8, .int v12, .int v16, .int v20]) (st := []) X hv38 rfl (by decide) rfl (t_X9_setPlace l d L kd κ 2 _ hI v38 hv38 v39 v8 v12 v16 v20 (by omega)) mk_X3_117 mc_X9_setPlace mz_X9 mi_X9_setPlace ml_X9_setPlace (na := 5) ⟨md_X9.1, md_X9.2, by decide +kernel⟩ rfl ⟨by decide, by decide⟩ (Nat.le_of_ble_eq_true rfl) dX3_newPlace_110 (fun s40 hq => ?_)
        obtain ⟨hF, hS2, hI⟩ := hq
        replace E := zLet_s hF E
        have hS := hS.tr hS2 rfl rfl
        exact ret _ _ _ dX3_newPlace_113 ⟨E.symm.trans hR, hS, hI⟩
  · skip
    replace E := zIf_f (Int.not_lt.mpr c3) E
    refine zg_aload_n X 0 rfl dX3_newPlace_9 ?_
    refine zg_iconst X 2 dX3_newPlace_10 (by decide) (fun v41 _ hv41 => ?_)
    replace E := zLet_s (zcst hv41 (by decide)) E
    refine zg_cVv (As := [.int v41]) (st := []) X ha0 rfl (by decide) rfl (t_X3_fail l d L kd κ 2 _ hI a0 ha0 v41 ) mk_X3_106 mc_X3_fail mz_X3 mi_X3_fail ml_X3_fail (na := 1) ⟨md_X3.1, md_X3.2, by decide +kernel⟩ rfl ⟨by decide, by decide⟩ (Nat.le_of_ble_eq_true rfl) dX3_newPlace_11 (fun s42 hq => ?_)
    obtain ⟨hF, hS2, hI⟩ := hq
    replace E := zLet_s hF E
    have hS := hS.tr hS2 rfl rfl
    refine zg_aload_n X 0 rfl dX3_newPlace_14 ?_
    refine zg_iconst X 1 dX3_newPlace_15 (by decide) (fun v43 _ hv43 => ?_)
    replace E := zLet_s (zcst hv43 (by decide)) E
    refine zg_cVv (As := [.int v43]) (st := []) X ha0 rfl (by decide) rfl (t_X3_take l d L kd κ 2 _ hI a0 ha0 v43 ) mk_X3_87 mc_X3_take mz_X3 mi_X3_take ml_X3_take (na := 1) ⟨md_X3.1, md_X3.2, by decide +kernel⟩ rfl ⟨by decide, by decide⟩ (Nat.le_of_ble_eq_true rfl) dX3_newPlace_16 (fun s44 hq => ?_)
    obtain ⟨hF, hS2, hI⟩ := hq
    replace E := zLet_s hF E
    have hS := hS.tr hS2 rfl rfl
    refine zg_aload_n X 0 rfl dX3_newPlace_19 ?_
    refine zg_cVl (As := []) (st := []) X ha0 rfl (by decide) rfl (t_X3_newName l d L kd κ _ hI a0 ha0 ) mk_X3_109 mc_X3_newName mz_X3 mi_X3_newName ml_X3_newName (na := 0) ⟨md_X3.1, md_X3.2, by decide +kernel⟩ rfl ⟨by decide, by decide⟩ (Nat.le_of_ble_eq_true rfl) dX3_newPlace_20 (fun v45 s46 hq => ?_)
    obtain ⟨hF, hS2, hI⟩ := hq
    replace E := zLet2_s hF E
    have hS := hS.tr hS2 rfl rfl
    refine zg_lstore_n X [(1, .long v45), (0, .ref a0)] dX3_newPlace_23 (by decide) rfl ?_
    refine zg_aload_n X 1 rfl dX3_newPlace_24 ?_
    refine zg_cVi (As := []) (st := []) X ha0 rfl (by decide) rfl (t_X3_knownName l d L kd κ _ hI a0 ha0 ) mk_X3_121 mc_X3_knownName mz_X3 mi_X3_knownName ml_X3_knownName (na := 0) ⟨md_X3.1, md_X3.2, by decide +kernel⟩ rfl ⟨by decide, by decide⟩ (Nat.le_of_ble_eq_true rfl) dX3_newPlace_25 (fun v47 s48 hq => ?_)
    obtain ⟨hF, hS2, hI⟩ := hq
    replace E := zLet2_s hF E
    have hS := hS.tr hS2 rfl rfl
    obtain ⟨hv47, hI⟩ := hI
    refine zg_istore_n X [(3, .int v47), (1, .long v45), (0, .ref a0)] dX3_newPlace_28 (by decide) rfl ?_
    refine zg_aload_n X 2 rfl dX3_newPlace_29 ?_
    refine zg_iconst X 1 dX3_newPlace_30 (by decide) (fun v49 _ hv49 => ?_)
    replace E := zLet_s (zcst hv49 (by decide)) E
    refine zg_bipush X 99 dX3_newPlace_31 (by decide) (fun v50 _ hv50 => ?_)
    replace E := zLet_s (zcst hv50 (by decide)) E
    refine zg_cVi (As := [.int v49, .int v50]) (st := []) X ha0 rfl (by decide) rfl (t_X3_number l d L kd κ 2 _ hI a0 ha0 v49 v50 ) mk_X3_90 mc_X3_number mz_X3 mi_X3_number ml_X3_number (na := 2) ⟨md_X3.1, md_X3.2, by decide +kernel⟩ rfl ⟨by decide, by decide⟩ (Nat.le_of_ble_eq_true rfl) dX3_newPlace_33 (fun v51 s52 hq => ?_)
    obtain ⟨hF, hS2, hI⟩ := hq
    replace E := zLet2_s hF E
    have hS := hS.tr hS2 rfl rfl
    refine zg_istore X [(4, .int v51), (3, .int v47), (1, .long v45), (0, .ref a0)] dX3_newPlace_36 (by decide) rfl ?_
    refine zg_aload_n X 3 rfl dX3_newPlace_38 ?_
    refine zg_iconst X 0 dX3_newPlace_39 (by decide) (fun v53 _ hv53 => ?_)
    replace E := zLet_s (zcst hv53 (by decide)) E
    refine zg_bipush X 99 dX3_newPlace_40 (by decide) (fun v54 _ hv54 => ?_)
    replace E := zLet_s (zcst hv54 (by decide)) E
    refine zg_cVi (As := [.int v53, .int v54]) (st := []) X ha0 rfl (by decide) rfl (t_X3_number l d L kd κ 2 _ hI a0 ha0 v53 v54 ) mk_X3_90 mc_X3_number mz_X3 mi_X3_number ml_X3_number (na := 2) ⟨md_X3.1, md_X3.2, by decide +kernel⟩ rfl ⟨by decide, by decide⟩ (Nat.le_of_ble_eq_true rfl) dX3_newPlace_42 (fun v55 s56 hq => ?_)
    obtain ⟨hF, hS2, hI⟩ := hq
    replace E := zLet2_s hF E
    have hS := hS.tr hS2 rfl rfl
    refine zg_istore X [(5, .int v55), (4, .int v51), (3, .int v47), (1, .long v45), (0, .ref a0)] dX3_newPlace_45 (by decide) rfl ?_
    refine zg_aload_n X 4 rfl dX3_newPlace_47 ?_
    refine zg_iconst X 0 dX3_newPlace_48 (by decide) (fun v57 _ hv57 => ?_)
    replace E := zLet_s (zcst hv57 (by decide)) E
    refine zg_bipush X 99 dX3_newPlace_49 (by decide) (fun v58 _ hv58 => ?_)
    replace E := zLet_s (zcst hv58 (by decide)) E
    refine zg_cVi (As := [.int v57, .int v58]) (st := []) X ha0 rfl (by decide) rfl (t_X3_number l d L kd κ 2 _ hI a0 ha0 v57 v58 ) mk_X3_90 mc_X3_number mz_X3 mi_X3_number ml_X3_number (na := 2) ⟨md_X3.1, md_X3.2, by decide +kernel⟩ rfl ⟨by decide, by decide⟩ (Nat.le_of_ble_eq_true rfl) dX3_newPlace_51 (fun v59 s60 hq => ?_)
    obtain ⟨hF, hS2, hI⟩ := hq
    replace E := zLet2_s hF E
    have hS := hS.tr hS2 rfl rfl
    refine zg_istore X [(6, .int v59), (5, .int v55), (4, .int v51), (3, .int v47), (1, .long v45), (0, .ref a0)] dX3_newPlace_54 (by decide) rfl ?_
    refine zg_aload_n X 5 rfl dX3_newPlace_56 ?_
    refine fg_X3_43 X hI ha0 dX3_newPlace_57 (fun v61 ev61 _ => ?_)
    replace E := zLet_s ev61 E
    refine zg_if_ne X 113 dX3_newPlace_60 (by decide) (fun c62 => ?_) (fun c62 => ?_)
    · skip
      replace E := zIf_f c62 E
      exact ret _ _ _ dX3_newPlace_113 ⟨E.symm.trans hR, hS, hI⟩
    · skip
      replace E := zIf_t c62 E
      refine zg_aload_n X 5 rfl dX3_newPlace_63 ?_
      refine fg_X3_40 X hI ha0 dX3_newPlace_64 (fun v63 ev63 hv63 => ?_)
      replace E := zLet_s ev63 E
      refine zg_bipush X 11 dX3_newPlace_67 (by decide) (fun v64 _ hv64 => ?_)
      replace E := zLet_s (zcst hv64 (by decide)) E
      refine zg_icmp_ge X 113 dX3_newPlace_69 (by decide) (fun c65 => ?_) (fun c65 => ?_)
      · skip
        replace E := zIf_f (Int.not_lt.mpr c65) E
        exact ret _ _ _ dX3_newPlace_113 ⟨E.symm.trans hR, hS, hI⟩
      · skip
        replace E := zIf_t c65 E
        refine zg_aload_n X 5 rfl dX3_newPlace_72 ?_
        refine zg_dup X dX3_newPlace_73 rfl ?_
        refine fg_X3_40 X hI ha0 dX3_newPlace_74 (fun v66 ev66 hv66 => ?_)
        replace E := zLet_s ev66 E
        have mv66 : v66.toInt = v63.toInt := by rw [ev66, ← ev63]
        refine zg_iconst X 1 dX3_newPlace_77 (by decide) (fun v67 _ hv67 => ?_)
        replace E := zLet_s (zcst hv67 (by decide)) E
        refine zg_iadd X dX3_newPlace_78 (by omega) (by omega) (fun v68 ev68 hv68 => ?_)
        replace E := zLet_s ev68 E
        refine fp_X3_40 X hI ha0 ⟨by omega, by omega⟩ dX3_newPlace_79 (fun s69 es69 hI => ?_)
        replace E := zLet_s es69 E
        have hS := hS.i ha0 es69 rfl
        have e71 : v68 = s69.1 a0 7 := by rw [es69]; exact zm_s
        refine zg_aload_n X 5 rfl dX3_newPlace_82 ?_
        refine fg_X3_18 X hI ha0 dX3_newPlace_83 (fun v72 ev72 hv72 => ?_)
        replace E := zLet_s (zgr ev72) E
        refine fg_X3_113 X hI hv72 dX3_newPlace_86 (fun v73 ev73 hv73 => ?_)
        replace E := zLet_s (zgr ev73) E
        refine zg_aload_n X 5 rfl dX3_newPlace_89 ?_
        refine fg_X3_40 X hI ha0 dX3_newPlace_90 (fun v74 ev74 hv74 => ?_)
        replace E := zLet_s ev74 E
        have mv74 : v74.toInt = v68.toInt := by rw [ev74, ← e71]
        refine zg_lload_n X 4 rfl dX3_newPlace_93 ?_
        refine as_44 X hI hv73 (by omega) (by omega) dX3_newPlace_94 (fun s75 es75 hI => ?_)
        replace E := zLet_s es75 E
        have hS := hS.l hv73 es75 rfl
        have e76 : v74 = s75.1 a0 7 := by rw [es75]; exact ev74
        refine zg_aload_n X 5 rfl dX3_newPlace_95 ?_
        refine fg_X3_18 X hI ha0 dX3_newPlace_96 (fun v77 ev77 hv77 => ?_)
        replace E := zLet_s (zgr ev77) E
        refine zg_aload_n X 5 rfl dX3_newPlace_99 ?_
        refine fg_X3_40 X hI ha0 dX3_newPlace_100 (fun v78 ev78 hv78 => ?_)
        replace E := zLet_s ev78 E
        have mv78 : v78.toInt = v74.toInt := by rw [ev78, ← e76]
        refine zg_iload_n X 3 rfl dX3_newPlace_103 ?_
        refine zg_iload X 2 rfl dX3_newPlace_104 ?_
        refine zg_iload X 1 rfl dX3_newPlace_106 ?_
        refine zg_iload X 0 rfl dX3_newPlace_108 ?_
        refine zg_cVv (As := [.int v78, .int v47, .int v51, .int v55, .int v59]) (st := []) X hv77 rfl (by decide) rfl (t_X9_setPlace l d L kd κ 2 _ hI v77 hv77 v78 v47 v51 v55 v59 (by omega)) mk_X3_117 mc_X9_setPlace mz_X9 mi_X9_setPlace ml_X9_setPlace (na := 5) ⟨md_X9.1, md_X9.2, by decide +kernel⟩ rfl ⟨by decide, by decide⟩ (Nat.le_of_ble_eq_true rfl) dX3_newPlace_110 (fun s79 hq => ?_)
        obtain ⟨hF, hS2, hI⟩ := hq
        replace E := zLet_s hF E
        have hS := hS.tr hS2 rfl rfl
        exact ret _ _ _ dX3_newPlace_113 ⟨E.symm.trans hR, hS, hI⟩
set_option maxHeartbeats 4000000 in
set_option maxRecDepth 100000 in
theorem t_X3_unit_o6 (l : Launch) (d : zD2) (L : List Nat) (kd : Nat → Nat) (κ : Int) (σ : zS) (hI : zI κ 2 L kd σ) (a0 : Nat) (ha0 : zT L kd a0 3) (p1 : Int32) (hq0 : p1.toInt = 6) : zMv l yX3_unit (Cond.code yX3_unit cX3_unit 2 none :: zWL) 2 [.ref a0, .int p1] d L kd σ (fun σ2 => σ2 = F_X3_unit_o6 a0 p1 σ ∧ zSm [3, 9, 49, 50] [] L kd σ σ2 ∧ (zI κ 2 L kd σ2)) := by
  refine zMv.of (own := RX3) (by decide +kernel) rfl rfl (Nat.le_of_ble_eq_true rfl) ?_
  intro p e s m args below meth c A Q X ret
  refine zg_lv (lv2 := [(0, .ref a0), (1, .int p1)]) rfl ?_
  obtain ⟨R, hR⟩ : ∃ R, R = F_X3_unit_o6 a0 p1 σ := ⟨_, rfl⟩
  have E := hR
  unfold F_X3_unit_o6 at E
  have hS : zSm [3, 9, 49, 50] [] L kd σ σ := zSm.rf
  refine zg_aload_n X 0 rfl dX3_unit_0 ?_
  refine fg_X3_26 X hI ha0 dX3_unit_1 (fun v1 ev1 _ => ?_)
  replace E := zLet_s ev1 E
  refine zg_bipush X 23 dX3_unit_4 (by decide) (fun v2 _ hv2 => ?_)
  replace E := zLet_s (zcst hv2 (by decide)) E
  refine zg_icmp_ne X 33 dX3_unit_6 (by decide) (fun c3 => ?_) (fun c3 => ?_)
  · skip
    replace E := zIf_f c3 E
    refine zg_aload_n X 0 rfl dX3_unit_33 ?_
    refine fg_X3_26 X hI ha0 dX3_unit_34 (fun v4 ev4 _ => ?_)
    replace E := zLet_s ev4 E
    have mv4 : v4.toInt = v1.toInt := by rw [ev4, ← ev1]
    refine zg_bipush X 13 dX3_unit_37 (by decide) (fun v5 _ hv5 => ?_)
    replace E := zLet_s (zcst hv5 (by decide)) E
    have zv4_z6 := zb_rng v4
    refine zg_icmp_lt X 77 dX3_unit_39 (by decide) (fun c7 => ?_) (fun c7 => ?_)
    · skip
      replace E := zIf_t c7 E
      refine zg_aload_n X 0 rfl dX3_unit_77 ?_
      refine fg_X3_26 X hI ha0 dX3_unit_78 (fun v8 ev8 _ => ?_)
      replace E := zLet_s ev8 E
      have mv8 : v8.toInt = v4.toInt := by rw [ev8, ← ev4]
      refine zg_bipush X 31 dX3_unit_81 (by decide) (fun v9 _ hv9 => ?_)
      replace E := zLet_s (zcst hv9 (by decide)) E
      refine zg_icmp_ne X 116 dX3_unit_83 (by decide) (fun c10 => ?_) (fun c10 => ?_)
      · skip
        replace E := zIf_f c10 E
        refine zg_aload_n X 0 rfl dX3_unit_116 ?_
        refine zg_aload_n X 0 rfl dX3_unit_117 ?_
        refine fg_X3_26 X hI ha0 dX3_unit_118 (fun v11 ev11 _ => ?_)
        replace E := zLet_s ev11 E
        have mv11 : v11.toInt = v8.toInt := by rw [ev11, ← ev8]
        refine zg_bipush X 31 dX3_unit_121 (by decide) (fun v12 _ hv12 => ?_)
        replace E := zLet_s (zcst hv12 (by decide)) E
        refine zg_icmp_ne X 130 dX3_unit_123 (by decide) (fun c13 => ?_) (fun c13 => ?_)
        · skip
          replace E := zIf_f c13 E
          refine zg_iconst X 1 dX3_unit_130 (by decide) (fun v14 _ hv14 => ?_)
          replace E := zLet_s (zcst hv14 (by decide)) E
          refine zg_cVv (As := [.int v14]) (st := []) X ha0 rfl (by decide) rfl (t_X3_fail l d L kd κ 2 _ hI a0 ha0 v14 ) mk_X3_106 mc_X3_fail mz_X3 mi_X3_fail ml_X3_fail (na := 1) ⟨md_X3.1, md_X3.2, by decide +kernel⟩ rfl ⟨by decide, by decide⟩ (Nat.le_of_ble_eq_true rfl) dX3_unit_131 (fun s15 hq => ?_)
          obtain ⟨hF, hS2, hI⟩ := hq
          replace E := zLet_s hF E
          have hS := hS.tr hS2 rfl rfl
          exact ret _ _ _ dX3_unit_134 ⟨E.symm.trans hR, hS, hI⟩
        · omega
      · omega
    · skip
      replace E := zIf_f (Int.not_lt.mpr c7) E
      refine zg_aload_n X 0 rfl dX3_unit_42 ?_
      refine fg_X3_26 X hI ha0 dX3_unit_43 (fun v16 ev16 _ => ?_)
      replace E := zLet_s ev16 E
      have mv16 : v16.toInt = v4.toInt := by rw [ev16, ← ev4]
      refine zg_bipush X 22 dX3_unit_46 (by decide) (fun v17 _ hv17 => ?_)
      replace E := zLet_s (zcst hv17 (by decide)) E
      have zv16_z18 := zb_rng v16
      refine zg_icmp_ge X 77 dX3_unit_48 (by decide) (fun c19 => ?_) (fun c19 => ?_)
      · skip
        replace E := zIf_f (Int.not_lt.mpr c19) E
        refine zg_aload_n X 0 rfl dX3_unit_77 ?_
        refine fg_X3_26 X hI ha0 dX3_unit_78 (fun v20 ev20 _ => ?_)
        replace E := zLet_s ev20 E
        have mv20 : v20.toInt = v16.toInt := by rw [ev20, ← ev16]
        refine zg_bipush X 31 dX3_unit_81 (by decide) (fun v21 _ hv21 => ?_)
        replace E := zLet_s (zcst hv21 (by decide)) E
        refine zg_icmp_ne X 116 dX3_unit_83 (by decide) (fun c22 => ?_) (fun c22 => ?_)
        · skip
          replace E := zIf_f c22 E
          refine zg_aload_n X 0 rfl dX3_unit_116 ?_
          refine zg_aload_n X 0 rfl dX3_unit_117 ?_
          refine fg_X3_26 X hI ha0 dX3_unit_118 (fun v23 ev23 _ => ?_)
          replace E := zLet_s ev23 E
          have mv23 : v23.toInt = v20.toInt := by rw [ev23, ← ev20]
          refine zg_bipush X 31 dX3_unit_121 (by decide) (fun v24 _ hv24 => ?_)
          replace E := zLet_s (zcst hv24 (by decide)) E
          refine zg_icmp_ne X 130 dX3_unit_123 (by decide) (fun c25 => ?_) (fun c25 => ?_)
          · skip
            replace E := zIf_f c25 E
            refine zg_iconst X 1 dX3_unit_130 (by decide) (fun v26 _ hv26 => ?_)
            replace E := zLet_s (zcst hv26 (by decide)) E
            refine zg_cVv (As := [.int v26]) (st := []) X ha0 rfl (by decide) rfl (t_X3_fail l d L kd κ 2 _ hI a0 ha0 v26 ) mk_X3_106 mc_X3_fail mz_X3 mi_X3_fail ml_X3_fail (na := 1) ⟨md_X3.1, md_X3.2, by decide +kernel⟩ rfl ⟨by decide, by decide⟩ (Nat.le_of_ble_eq_true rfl) dX3_unit_131 (fun s27 hq => ?_)
            obtain ⟨hF, hS2, hI⟩ := hq
            replace E := zLet_s hF E
            have hS := hS.tr hS2 rfl rfl
            exact ret _ _ _ dX3_unit_134 ⟨E.symm.trans hR, hS, hI⟩
          · skip
            replace E := zIf_t c25 E
            refine zg_iconst X 2 dX3_unit_126 (by decide) (fun v28 _ hv28 => ?_)
            replace E := zLet_s (zcst hv28 (by decide)) E
            refine zg_goto X 131 dX3_unit_127 (by decide) ?_
            refine zg_cVv (As := [.int v28]) (st := []) X ha0 rfl (by decide) rfl (t_X3_fail l d L kd κ 2 _ hI a0 ha0 v28 ) mk_X3_106 mc_X3_fail mz_X3 mi_X3_fail ml_X3_fail (na := 1) ⟨md_X3.1, md_X3.2, by decide +kernel⟩ rfl ⟨by decide, by decide⟩ (Nat.le_of_ble_eq_true rfl) dX3_unit_131 (fun s29 hq => ?_)
            obtain ⟨hF, hS2, hI⟩ := hq
            replace E := zLet_s hF E
            have hS := hS.tr hS2 rfl rfl
            exact ret _ _ _ dX3_unit_134 ⟨E.symm.trans hR, hS, hI⟩
        · skip
          replace E := zIf_t c22 E
          refine zg_iload_n X 1 rfl dX3_unit_86 ?_
          refine zg_bipush X 6 dX3_unit_87 (by decide) (fun v30 _ hv30 => ?_)
          replace E := zLet_s (zcst hv30 (by decide)) E
          refine zg_icmp_ge X 116 dX3_unit_89 (by decide) (fun c31 => ?_) (fun c31 => ?_)
          · skip
            replace E := zIf_f (Int.not_lt.mpr c31) E
            refine zg_aload_n X 0 rfl dX3_unit_116 ?_
            refine zg_aload_n X 0 rfl dX3_unit_117 ?_
            refine fg_X3_26 X hI ha0 dX3_unit_118 (fun v32 ev32 _ => ?_)
            replace E := zLet_s ev32 E
            have mv32 : v32.toInt = v20.toInt := by rw [ev32, ← ev20]
            refine zg_bipush X 31 dX3_unit_121 (by decide) (fun v33 _ hv33 => ?_)
            replace E := zLet_s (zcst hv33 (by decide)) E
            refine zg_icmp_ne X 130 dX3_unit_123 (by decide) (fun c34 => ?_) (fun c34 => ?_)
            · omega
            · skip
              replace E := zIf_t c34 E
              refine zg_iconst X 2 dX3_unit_126 (by decide) (fun v35 _ hv35 => ?_)
              replace E := zLet_s (zcst hv35 (by decide)) E
              refine zg_goto X 131 dX3_unit_127 (by decide) ?_
              refine zg_cVv (As := [.int v35]) (st := []) X ha0 rfl (by decide) rfl (t_X3_fail l d L kd κ 2 _ hI a0 ha0 v35 ) mk_X3_106 mc_X3_fail mz_X3 mi_X3_fail ml_X3_fail (na := 1) ⟨md_X3.1, md_X3.2, by decide +kernel⟩ rfl ⟨by decide, by decide⟩ (Nat.le_of_ble_eq_true rfl) dX3_unit_131 (fun s36 hq => ?_)
              obtain ⟨hF, hS2, hI⟩ := hq
              replace E := zLet_s hF E
              have hS := hS.tr hS2 rfl rfl
              exact ret _ _ _ dX3_unit_134 ⟨E.symm.trans hR, hS, hI⟩
          · omega
      · skip
        replace E := zIf_t c19 E
        refine zg_aload_n X 0 rfl dX3_unit_51 ?_
        refine fg_X3_18 X hI ha0 dX3_unit_52 (fun v37 ev37 hv37 => ?_)
        replace E := zLet_s (zgr ev37) E
        refine zg_iconst X 1 dX3_unit_55 (by decide) (fun v38 _ hv38 => ?_)
        replace E := zLet_s (zcst hv38 (by decide)) E
        refine zg_aload_n X 0 rfl dX3_unit_56 ?_
        refine fg_X3_26 X hI ha0 dX3_unit_57 (fun v39 ev39 _ => ?_)
        replace E := zLet_s ev39 E
        have mv39 : v39.toInt = v16.toInt := by rw [ev39, ← ev16]
        refine zg_bipush X 13 dX3_unit_60 (by decide) (fun v40 _ hv40 => ?_)
        replace E := zLet_s (zcst hv40 (by decide)) E
        refine zg_isub X dX3_unit_62 (by omega) (by omega) (fun v41 ev41 hv41 => ?_)
        replace E := zLet_s ev41 E
        refine zg_cVv (As := [.int v38, .int v41]) (st := []) X hv37 rfl (by decide) rfl (t_X9_addStep l d L kd κ 2 _ hI v37 hv37 v38 v41 ) mk_X3_145 mc_X9_addStep mz_X9 mi_X9_addStep ml_X9_addStep (na := 2) ⟨md_X9.1, md_X9.2, by decide +kernel⟩ rfl ⟨by decide, by decide⟩ (Nat.le_of_ble_eq_true rfl) dX3_unit_63 (fun s42 hq => ?_)
        obtain ⟨hF, hS2, hI⟩ := hq
        replace E := zLet_s hF E
        have hS := hS.tr hS2 rfl rfl
        refine zg_aload_n X 0 rfl dX3_unit_66 ?_
        refine zg_aload_n X 0 rfl dX3_unit_67 ?_
        refine fg_X3_26 X hI ha0 dX3_unit_68 (fun v43 ev43 _ => ?_)
        replace E := zLet_s ev43 E
        refine zg_cVv (As := [.int v43]) (st := []) X ha0 rfl (by decide) rfl (t_X3_take l d L kd κ 2 _ hI a0 ha0 v43 ) mk_X3_87 mc_X3_take mz_X3 mi_X3_take ml_X3_take (na := 1) ⟨md_X3.1, md_X3.2, by decide +kernel⟩ rfl ⟨by decide, by decide⟩ (Nat.le_of_ble_eq_true rfl) dX3_unit_71 (fun s44 hq => ?_)
        obtain ⟨hF, hS2, hI⟩ := hq
        replace E := zLet_s hF E
        have hS := hS.tr hS2 rfl rfl
        refine zg_goto X 134 dX3_unit_74 (by decide) ?_
        exact ret _ _ _ dX3_unit_134 ⟨E.symm.trans hR, hS, hI⟩
  · skip
    replace E := zIf_t c3 E
    refine zg_aload_n X 0 rfl dX3_unit_9 ?_
    refine fg_X3_18 X hI ha0 dX3_unit_10 (fun v45 ev45 hv45 => ?_)
    replace E := zLet_s (zgr ev45) E
    refine zg_iconst X 0 dX3_unit_13 (by decide) (fun v46 _ hv46 => ?_)
    replace E := zLet_s (zcst hv46 (by decide)) E
    refine zg_aload_n X 0 rfl dX3_unit_14 ?_
    refine fg_X3_29 X ha0 dX3_unit_15 (fun v47 ev47 => ?_)
    replace E := zLet_s ev47 E
    refine zg_l2i X dX3_unit_18 (fun v48 ev48 => ?_)
    replace E := zLet_s ev48 E
    refine zg_cVv (As := [.int v46, .int v48]) (st := []) X hv45 rfl (by decide) rfl (t_X9_addStep l d L kd κ 2 _ hI v45 hv45 v46 v48 ) mk_X3_145 mc_X9_addStep mz_X9 mi_X9_addStep ml_X9_addStep (na := 2) ⟨md_X9.1, md_X9.2, by decide +kernel⟩ rfl ⟨by decide, by decide⟩ (Nat.le_of_ble_eq_true rfl) dX3_unit_19 (fun s49 hq => ?_)
    obtain ⟨hF, hS2, hI⟩ := hq
    replace E := zLet_s hF E
    have hS := hS.tr hS2 rfl rfl
    refine zg_aload_n X 0 rfl dX3_unit_22 ?_
    refine zg_aload_n X 0 rfl dX3_unit_23 ?_
    refine fg_X3_26 X hI ha0 dX3_unit_24 (fun v50 ev50 _ => ?_)
    replace E := zLet_s ev50 E
    refine zg_cVv (As := [.int v50]) (st := []) X ha0 rfl (by decide) rfl (t_X3_take l d L kd κ 2 _ hI a0 ha0 v50 ) mk_X3_87 mc_X3_take mz_X3 mi_X3_take ml_X3_take (na := 1) ⟨md_X3.1, md_X3.2, by decide +kernel⟩ rfl ⟨by decide, by decide⟩ (Nat.le_of_ble_eq_true rfl) dX3_unit_27 (fun s51 hq => ?_)
    obtain ⟨hF, hS2, hI⟩ := hq
    replace E := zLet_s hF E
    have hS := hS.tr hS2 rfl rfl
    refine zg_goto X 134 dX3_unit_30 (by decide) ?_
    exact ret _ _ _ dX3_unit_134 ⟨E.symm.trans hR, hS, hI⟩
set_option maxHeartbeats 4000000 in
set_option maxRecDepth 100000 in
theorem t_X3_product_o6 (l : Launch) (d : zD2) (L : List Nat) (kd : Nat → Nat) (κ : Int) (σ : zS) (hI : zI κ 2 L kd σ) (a0 : Nat) (ha0 : zT L kd a0 3) (p1 : Int32) (hq0 : p1.toInt = 6) : zMv l yX3_product (Cond.code yX3_product cX3_product 4 none :: zWL) 3 [.ref a0, .int p1] d L kd σ (fun σ2 => σ2 = F_X3_product_o6 a0 p1 σ ∧ zSm [3, 9, 49, 50] [] L kd σ σ2 ∧ (zI κ 2 L kd σ2)) := by
  refine zMv.of (own := RX3) (by decide +kernel) rfl rfl (Nat.le_of_ble_eq_true rfl) ?_
  intro p e s m args below meth c A Q X ret
  refine zg_lv (lv2 := [(0, .ref a0), (1, .int p1)]) rfl ?_
  obtain ⟨R, hR⟩ : ∃ R, R = F_X3_product_o6 a0 p1 σ := ⟨_, rfl⟩
  have E := hR
  unfold F_X3_product_o6 at E
  have hS : zSm [3, 9, 49, 50] [] L kd σ σ := zSm.rf
  refine zg_aload_n X 0 rfl dX3_product_0 ?_
  refine zg_iload_n X 1 rfl dX3_product_1 ?_
  refine zg_cVv (As := [.int p1]) (st := []) X ha0 rfl (by decide) rfl (t_X3_unit_o6 l d L kd κ _ hI a0 ha0 p1 (by omega)) mk_X3_159 mc_X3_unit mz_X3 mi_X3_unit ml_X3_unit (na := 1) ⟨md_X3.1, md_X3.2, by decide +kernel⟩ rfl ⟨by decide, by decide⟩ (Nat.le_of_ble_eq_true rfl) dX3_product_2 (fun s1 hq => ?_)
  obtain ⟨hF, hS2, hI⟩ := hq
  replace E := zLet_s hF E
  have hS := hS.tr hS2 rfl rfl
  refine zg_iconst X 0 dX3_product_5 (by decide) (fun v2 _ hv2 => ?_)
  replace E := zLet_s (zcst hv2 (by decide)) E
  refine zg_istore_n X [(2, .int v2), (0, .ref a0), (1, .int p1)] dX3_product_6 (by decide) rfl ?_
  have Lp4 : ∀ (nLp4 : Nat) (τ4 : zS) (x3 : Int32), zI κ 2 L kd τ4 → zSm [3, 9, 49, 50] [] L kd σ τ4 → R = F_X3_product_o6_7 a0 p1  nLp4 x3 τ4 → 0 ≤ x3.toInt ∧ x3.toInt ≤ 401 → (401) - x3.toInt + 1 < (nLp4 : Int) → zG d L kd A 4 p l e (k2_rm 3 (100 * 3)) s m args below meth c Q τ4 7 [(2, .int x3), (0, .ref a0), (1, .int p1)] [] := by
    intro nLp4
    induction nLp4 with
    | zero => intro τ4 x3 hI hS E  hxLp4 hm ; exact absurd hm (by omega)
    | succ nLp4 ihLp4 =>
      intro τ4 x3 hI hS E  hxLp4 hmLp4 
      rw [F_X3_product_o6_7] at E
      refine zg_iload_n X 0 rfl dX3_product_7 ?_
      refine zg_sipush X 400 dX3_product_8 (by decide) (fun v5 _ hv5 => ?_)
      replace E := zLet_s (zcst hv5 (by decide)) E
      refine zg_icmp_gt X 68 dX3_product_11 (by decide) (fun c6 => ?_) (fun c6 => ?_)
      · skip
        replace E := zIf_t c6 E
        exact ret _ _ _ dX3_product_68 ⟨E.symm.trans hR, hS, hI⟩
      · skip
        replace E := zIf_f (Int.not_lt.mpr c6) E
        refine zg_aload_n X 1 rfl dX3_product_14 ?_
        refine fg_X3_26 X hI ha0 dX3_product_15 (fun v7 ev7 _ => ?_)
        replace E := zLet_s ev7 E
        refine zg_bipush X 28 dX3_product_18 (by decide) (fun v8 _ hv8 => ?_)
        replace E := zLet_s (zcst hv8 (by decide)) E
        refine zg_bipush X 29 dX3_product_20 (by decide) (fun v9 _ hv9 => ?_)
        replace E := zLet_s (zcst hv9 (by decide)) E
        refine zg_cSNi (As := [.int v7, .int v8, .int v9]) (st := []) X (t_X10_isWithin l d L kd _ v7 v8 v9 ) mk_X3_80 mc_X10_isWithin mz_X10 ms_X10_isWithin (na := 3) ⟨md_X10.1, md_X10.2, by decide +kernel⟩ rfl ⟨by decide, by decide⟩ (Nat.le_of_ble_eq_true rfl) dX3_product_22 (fun v10 σ2 hq => ?_)
        obtain ⟨⟨hF, hv10⟩, rfl⟩ := hq
        replace E := zLet_s hF E
        refine zg_if_eq X 68 dX3_product_25 (by decide) (fun c11 => ?_) (fun c11 => ?_)
        · skip
          replace E := zIf_t c11 E
          exact ret _ _ _ dX3_product_68 ⟨E.symm.trans hR, hS, hI⟩
        · skip
          replace E := zIf_f c11 E
          refine zg_aload_n X 1 rfl dX3_product_28 ?_
          refine fg_X3_26 X hI ha0 dX3_product_29 (fun v12 ev12 _ => ?_)
          replace E := zLet_s ev12 E
          have mv12 : v12.toInt = v7.toInt := by rw [ev12, ← ev7]
          refine zg_istore_n X [(3, .int v12), (2, .int x3), (0, .ref a0), (1, .int p1)] dX3_product_32 (by decide) rfl ?_
          refine zg_aload_n X 2 rfl dX3_product_33 ?_
          refine zg_iload_n X 0 rfl dX3_product_34 ?_
          refine zg_cVv (As := [.int v12]) (st := []) X ha0 rfl (by decide) rfl (t_X3_take l d L kd κ 2 _ hI a0 ha0 v12 ) mk_X3_87 mc_X3_take mz_X3 mi_X3_take ml_X3_take (na := 1) ⟨md_X3.1, md_X3.2, by decide +kernel⟩ rfl ⟨by decide, by decide⟩ (Nat.le_of_ble_eq_true rfl) dX3_product_35 (fun s13 hq => ?_)
          obtain ⟨hF, hS2, hI⟩ := hq
          replace E := zLet_s hF E
          have hS := hS.tr hS2 rfl rfl
          refine zg_aload_n X 2 rfl dX3_product_38 ?_
          refine zg_iload_n X 3 rfl dX3_product_39 ?_
          refine zg_cVv (As := [.int p1]) (st := []) X ha0 rfl (by decide) rfl (t_X3_unit_o6 l d L kd κ _ hI a0 ha0 p1 (by omega)) mk_X3_159 mc_X3_unit mz_X3 mi_X3_unit ml_X3_unit (na := 1) ⟨md_X3.1, md_X3.2, by decide +kernel⟩ rfl ⟨by decide, by decide⟩ (Nat.le_of_ble_eq_true rfl) dX3_product_40 (fun s14 hq => ?_)
          obtain ⟨hF, hS2, hI⟩ := hq
          replace E := zLet_s hF E
          have hS := hS.tr hS2 rfl rfl
          refine zg_aload_n X 2 rfl dX3_product_43 ?_
          refine fg_X3_18 X hI ha0 dX3_product_44 (fun v15 ev15 hv15 => ?_)
          replace E := zLet_s (zgr ev15) E
          refine zg_iload_n X 0 rfl dX3_product_47 ?_
          refine zg_bipush X 28 dX3_product_48 (by decide) (fun v16 _ hv16 => ?_)
          replace E := zLet_s (zcst hv16 (by decide)) E
          refine zg_icmp_ne X 57 dX3_product_50 (by decide) (fun c17 => ?_) (fun c17 => ?_)
          · skip
            replace E := zIf_f c17 E
            refine zg_iconst X 5 dX3_product_57 (by decide) (fun v18 _ hv18 => ?_)
            replace E := zLet_s (zcst hv18 (by decide)) E
            refine zg_iconst X 0 dX3_product_58 (by decide) (fun v19 _ hv19 => ?_)
            replace E := zLet_s (zcst hv19 (by decide)) E
            refine zg_cVv (As := [.int v18, .int v19]) (st := []) X hv15 rfl (by decide) rfl (t_X9_addStep l d L kd κ 2 _ hI v15 hv15 v18 v19 ) mk_X3_145 mc_X9_addStep mz_X9 mi_X9_addStep ml_X9_addStep (na := 2) ⟨md_X9.1, md_X9.2, by decide +kernel⟩ rfl ⟨by decide, by decide⟩ (Nat.le_of_ble_eq_true rfl) dX3_product_59 (fun s20 hq => ?_)
            obtain ⟨hF, hS2, hI⟩ := hq
            replace E := zLet_s hF E
            have hS := hS.tr hS2 rfl rfl
            refine zg_iinc X 1 (fun v21 => [(2, .int v21), (3, .int v12), (0, .ref a0), (1, .int p1)]) 1 dX3_product_62 rfl (by decide) (by decide) (by omega) (by omega) (fun _ => rfl) (fun v21 ev21 hv21 => ?_)
            replace E := zLet_s (zinc ev21 (by decide)) E
            refine zg_goto X 7 dX3_product_65 (by decide) ?_
            refine zg_sub [0, 2, 3] rfl ?_
            exact ihLp4 _ v21 hI hS E  (by omega) (by omega) 
          · skip
            replace E := zIf_t c17 E
            refine zg_iconst X 4 dX3_product_53 (by decide) (fun v22 _ hv22 => ?_)
            replace E := zLet_s (zcst hv22 (by decide)) E
            refine zg_goto X 58 dX3_product_54 (by decide) ?_
            refine zg_iconst X 0 dX3_product_58 (by decide) (fun v23 _ hv23 => ?_)
            replace E := zLet_s (zcst hv23 (by decide)) E
            refine zg_cVv (As := [.int v22, .int v23]) (st := []) X hv15 rfl (by decide) rfl (t_X9_addStep l d L kd κ 2 _ hI v15 hv15 v22 v23 ) mk_X3_145 mc_X9_addStep mz_X9 mi_X9_addStep ml_X9_addStep (na := 2) ⟨md_X9.1, md_X9.2, by decide +kernel⟩ rfl ⟨by decide, by decide⟩ (Nat.le_of_ble_eq_true rfl) dX3_product_59 (fun s24 hq => ?_)
            obtain ⟨hF, hS2, hI⟩ := hq
            replace E := zLet_s hF E
            have hS := hS.tr hS2 rfl rfl
            refine zg_iinc X 1 (fun v25 => [(2, .int v25), (3, .int v12), (0, .ref a0), (1, .int p1)]) 1 dX3_product_62 rfl (by decide) (by decide) (by omega) (by omega) (fun _ => rfl) (fun v25 ev25 hv25 => ?_)
            replace E := zLet_s (zinc ev25 (by decide)) E
            refine zg_goto X 7 dX3_product_65 (by decide) ?_
            refine zg_sub [0, 2, 3] rfl ?_
            exact ihLp4 _ v25 hI hS E  (by omega) (by omega) 
  refine zg_sub [0, 1, 2] rfl ?_
  exact Lp4 10000 _ v2 hI hS E  (by omega) (by omega) 
set_option maxHeartbeats 4000000 in
set_option maxRecDepth 100000 in
theorem t_X3_sum_o6 (l : Launch) (d : zD2) (L : List Nat) (kd : Nat → Nat) (κ : Int) (σ : zS) (hI : zI κ 2 L kd σ) (a0 : Nat) (ha0 : zT L kd a0 3) (p1 : Int32) (hq0 : p1.toInt = 6) : zMv l yX3_sum (Cond.code yX3_sum cX3_sum 4 none :: zWL) 4 [.ref a0, .int p1] d L kd σ (fun σ2 => σ2 = F_X3_sum_o6 a0 p1 σ ∧ zSm [3, 9, 49, 50] [] L kd σ σ2 ∧ (zI κ 2 L kd σ2)) := by
  refine zMv.of (own := RX3) (by decide +kernel) rfl rfl (Nat.le_of_ble_eq_true rfl) ?_
  intro p e s m args below meth c A Q X ret
  refine zg_lv (lv2 := [(0, .ref a0), (1, .int p1)]) rfl ?_
  obtain ⟨R, hR⟩ : ∃ R, R = F_X3_sum_o6 a0 p1 σ := ⟨_, rfl⟩
  have E := hR
  unfold F_X3_sum_o6 at E
  have hS : zSm [3, 9, 49, 50] [] L kd σ σ := zSm.rf
  refine zg_aload_n X 0 rfl dX3_sum_0 ?_
  refine zg_iload_n X 1 rfl dX3_sum_1 ?_
  refine zg_cVv (As := [.int p1]) (st := []) X ha0 rfl (by decide) rfl (t_X3_product_o6 l d L kd κ _ hI a0 ha0 p1 (by omega)) mk_X3_156 mc_X3_product mz_X3 mi_X3_product ml_X3_product (na := 1) ⟨md_X3.1, md_X3.2, by decide +kernel⟩ rfl ⟨by decide, by decide⟩ (Nat.le_of_ble_eq_true rfl) dX3_sum_2 (fun s1 hq => ?_)
  obtain ⟨hF, hS2, hI⟩ := hq
  replace E := zLet_s hF E
  have hS := hS.tr hS2 rfl rfl
  refine zg_iconst X 0 dX3_sum_5 (by decide) (fun v2 _ hv2 => ?_)
  replace E := zLet_s (zcst hv2 (by decide)) E
  refine zg_istore_n X [(2, .int v2), (0, .ref a0), (1, .int p1)] dX3_sum_6 (by decide) rfl ?_
  have Lp4 : ∀ (nLp4 : Nat) (τ4 : zS) (x3 : Int32), zI κ 2 L kd τ4 → zSm [3, 9, 49, 50] [] L kd σ τ4 → R = F_X3_sum_o6_7 a0 p1  nLp4 x3 τ4 → 0 ≤ x3.toInt ∧ x3.toInt ≤ 401 → (401) - x3.toInt + 1 < (nLp4 : Int) → zG d L kd A 4 p l e (k2_rm 4 (100 * 4)) s m args below meth c Q τ4 7 [(2, .int x3), (0, .ref a0), (1, .int p1)] [] := by
    intro nLp4
    induction nLp4 with
    | zero => intro τ4 x3 hI hS E  hxLp4 hm ; exact absurd hm (by omega)
    | succ nLp4 ihLp4 =>
      intro τ4 x3 hI hS E  hxLp4 hmLp4 
      rw [F_X3_sum_o6_7] at E
      refine zg_iload_n X 0 rfl dX3_sum_7 ?_
      refine zg_sipush X 400 dX3_sum_8 (by decide) (fun v5 _ hv5 => ?_)
      replace E := zLet_s (zcst hv5 (by decide)) E
      refine zg_icmp_gt X 68 dX3_sum_11 (by decide) (fun c6 => ?_) (fun c6 => ?_)
      · skip
        replace E := zIf_t c6 E
        exact ret _ _ _ dX3_sum_68 ⟨E.symm.trans hR, hS, hI⟩
      · skip
        replace E := zIf_f (Int.not_lt.mpr c6) E
        refine zg_aload_n X 1 rfl dX3_sum_14 ?_
        refine fg_X3_26 X hI ha0 dX3_sum_15 (fun v7 ev7 _ => ?_)
        replace E := zLet_s ev7 E
        refine zg_bipush X 26 dX3_sum_18 (by decide) (fun v8 _ hv8 => ?_)
        replace E := zLet_s (zcst hv8 (by decide)) E
        refine zg_bipush X 27 dX3_sum_20 (by decide) (fun v9 _ hv9 => ?_)
        replace E := zLet_s (zcst hv9 (by decide)) E
        refine zg_cSNi (As := [.int v7, .int v8, .int v9]) (st := []) X (t_X10_isWithin l d L kd _ v7 v8 v9 ) mk_X3_80 mc_X10_isWithin mz_X10 ms_X10_isWithin (na := 3) ⟨md_X10.1, md_X10.2, by decide +kernel⟩ rfl ⟨by decide, by decide⟩ (Nat.le_of_ble_eq_true rfl) dX3_sum_22 (fun v10 σ2 hq => ?_)
        obtain ⟨⟨hF, hv10⟩, rfl⟩ := hq
        replace E := zLet_s hF E
        refine zg_if_eq X 68 dX3_sum_25 (by decide) (fun c11 => ?_) (fun c11 => ?_)
        · skip
          replace E := zIf_t c11 E
          exact ret _ _ _ dX3_sum_68 ⟨E.symm.trans hR, hS, hI⟩
        · skip
          replace E := zIf_f c11 E
          refine zg_aload_n X 1 rfl dX3_sum_28 ?_
          refine fg_X3_26 X hI ha0 dX3_sum_29 (fun v12 ev12 _ => ?_)
          replace E := zLet_s ev12 E
          have mv12 : v12.toInt = v7.toInt := by rw [ev12, ← ev7]
          refine zg_istore_n X [(3, .int v12), (2, .int x3), (0, .ref a0), (1, .int p1)] dX3_sum_32 (by decide) rfl ?_
          refine zg_aload_n X 2 rfl dX3_sum_33 ?_
          refine zg_iload_n X 0 rfl dX3_sum_34 ?_
          refine zg_cVv (As := [.int v12]) (st := []) X ha0 rfl (by decide) rfl (t_X3_take l d L kd κ 2 _ hI a0 ha0 v12 ) mk_X3_87 mc_X3_take mz_X3 mi_X3_take ml_X3_take (na := 1) ⟨md_X3.1, md_X3.2, by decide +kernel⟩ rfl ⟨by decide, by decide⟩ (Nat.le_of_ble_eq_true rfl) dX3_sum_35 (fun s13 hq => ?_)
          obtain ⟨hF, hS2, hI⟩ := hq
          replace E := zLet_s hF E
          have hS := hS.tr hS2 rfl rfl
          refine zg_aload_n X 2 rfl dX3_sum_38 ?_
          refine zg_iload_n X 3 rfl dX3_sum_39 ?_
          refine zg_cVv (As := [.int p1]) (st := []) X ha0 rfl (by decide) rfl (t_X3_product_o6 l d L kd κ _ hI a0 ha0 p1 (by omega)) mk_X3_156 mc_X3_product mz_X3 mi_X3_product ml_X3_product (na := 1) ⟨md_X3.1, md_X3.2, by decide +kernel⟩ rfl ⟨by decide, by decide⟩ (Nat.le_of_ble_eq_true rfl) dX3_sum_40 (fun s14 hq => ?_)
          obtain ⟨hF, hS2, hI⟩ := hq
          replace E := zLet_s hF E
          have hS := hS.tr hS2 rfl rfl
          refine zg_aload_n X 2 rfl dX3_sum_43 ?_
          refine fg_X3_18 X hI ha0 dX3_sum_44 (fun v15 ev15 hv15 => ?_)
          replace E := zLet_s (zgr ev15) E
          refine zg_iload_n X 0 rfl dX3_sum_47 ?_
          refine zg_bipush X 26 dX3_sum_48 (by decide) (fun v16 _ hv16 => ?_)
          replace E := zLet_s (zcst hv16 (by decide)) E
          refine zg_icmp_ne X 57 dX3_sum_50 (by decide) (fun c17 => ?_) (fun c17 => ?_)
          · skip
            replace E := zIf_f c17 E
            refine zg_iconst X 3 dX3_sum_57 (by decide) (fun v18 _ hv18 => ?_)
            replace E := zLet_s (zcst hv18 (by decide)) E
            refine zg_iconst X 0 dX3_sum_58 (by decide) (fun v19 _ hv19 => ?_)
            replace E := zLet_s (zcst hv19 (by decide)) E
            refine zg_cVv (As := [.int v18, .int v19]) (st := []) X hv15 rfl (by decide) rfl (t_X9_addStep l d L kd κ 2 _ hI v15 hv15 v18 v19 ) mk_X3_145 mc_X9_addStep mz_X9 mi_X9_addStep ml_X9_addStep (na := 2) ⟨md_X9.1, md_X9.2, by decide +kernel⟩ rfl ⟨by decide, by decide⟩ (Nat.le_of_ble_eq_true rfl) dX3_sum_59 (fun s20 hq => ?_)
            obtain ⟨hF, hS2, hI⟩ := hq
            replace E := zLet_s hF E
            have hS := hS.tr hS2 rfl rfl
            refine zg_iinc X 1 (fun v21 => [(2, .int v21), (3, .int v12), (0, .ref a0), (1, .int p1)]) 1 dX3_sum_62 rfl (by decide) (by decide) (by omega) (by omega) (fun _ => rfl) (fun v21 ev21 hv21 => ?_)
            replace E := zLet_s (zinc ev21 (by decide)) E
            refine zg_goto X 7 dX3_sum_65 (by decide) ?_
            refine zg_sub [0, 2, 3] rfl ?_
            exact ihLp4 _ v21 hI hS E  (by omega) (by omega) 
          · skip
            replace E := zIf_t c17 E
            refine zg_iconst X 2 dX3_sum_53 (by decide) (fun v22 _ hv22 => ?_)
            replace E := zLet_s (zcst hv22 (by decide)) E
            refine zg_goto X 58 dX3_sum_54 (by decide) ?_
            refine zg_iconst X 0 dX3_sum_58 (by decide) (fun v23 _ hv23 => ?_)
            replace E := zLet_s (zcst hv23 (by decide)) E
            refine zg_cVv (As := [.int v22, .int v23]) (st := []) X hv15 rfl (by decide) rfl (t_X9_addStep l d L kd κ 2 _ hI v15 hv15 v22 v23 ) mk_X3_145 mc_X9_addStep mz_X9 mi_X9_addStep ml_X9_addStep (na := 2) ⟨md_X9.1, md_X9.2, by decide +kernel⟩ rfl ⟨by decide, by decide⟩ (Nat.le_of_ble_eq_true rfl) dX3_sum_59 (fun s24 hq => ?_)
            obtain ⟨hF, hS2, hI⟩ := hq
            replace E := zLet_s hF E
            have hS := hS.tr hS2 rfl rfl
            refine zg_iinc X 1 (fun v25 => [(2, .int v25), (3, .int v12), (0, .ref a0), (1, .int p1)]) 1 dX3_sum_62 rfl (by decide) (by decide) (by omega) (by omega) (fun _ => rfl) (fun v25 ev25 hv25 => ?_)
            replace E := zLet_s (zinc ev25 (by decide)) E
            refine zg_goto X 7 dX3_sum_65 (by decide) ?_
            refine zg_sub [0, 2, 3] rfl ?_
            exact ihLp4 _ v25 hI hS E  (by omega) (by omega) 
  refine zg_sub [0, 1, 2] rfl ?_
  exact Lp4 10000 _ v2 hI hS E  (by omega) (by omega) 
set_option maxHeartbeats 4000000 in
set_option maxRecDepth 100000 in
theorem t_X3_unit_o5 (l : Launch) (d : zD2) (L : List Nat) (kd : Nat → Nat) (κ : Int) (σ : zS) (hI : zI κ 2 L kd σ) (a0 : Nat) (ha0 : zT L kd a0 3) (p1 : Int32) (hq0 : p1.toInt = 5) : zMv l yX3_unit (Cond.code yX3_unit cX3_unit 2 none :: zWL) 5 [.ref a0, .int p1] d L kd σ (fun σ2 => σ2 = F_X3_unit_o5 a0 p1 σ ∧ zSm [3, 9, 49, 50] [] L kd σ σ2 ∧ (zI κ 2 L kd σ2)) := by
  refine zMv.of (own := RX3) (by decide +kernel) rfl rfl (Nat.le_of_ble_eq_true rfl) ?_
  intro p e s m args below meth c A Q X ret
  refine zg_lv (lv2 := [(0, .ref a0), (1, .int p1)]) rfl ?_
  obtain ⟨R, hR⟩ : ∃ R, R = F_X3_unit_o5 a0 p1 σ := ⟨_, rfl⟩
  have E := hR
  unfold F_X3_unit_o5 at E
  have hS : zSm [3, 9, 49, 50] [] L kd σ σ := zSm.rf
  refine zg_aload_n X 0 rfl dX3_unit_0 ?_
  refine fg_X3_26 X hI ha0 dX3_unit_1 (fun v1 ev1 _ => ?_)
  replace E := zLet_s ev1 E
  refine zg_bipush X 23 dX3_unit_4 (by decide) (fun v2 _ hv2 => ?_)
  replace E := zLet_s (zcst hv2 (by decide)) E
  refine zg_icmp_ne X 33 dX3_unit_6 (by decide) (fun c3 => ?_) (fun c3 => ?_)
  · skip
    replace E := zIf_f c3 E
    refine zg_aload_n X 0 rfl dX3_unit_33 ?_
    refine fg_X3_26 X hI ha0 dX3_unit_34 (fun v4 ev4 _ => ?_)
    replace E := zLet_s ev4 E
    have mv4 : v4.toInt = v1.toInt := by rw [ev4, ← ev1]
    refine zg_bipush X 13 dX3_unit_37 (by decide) (fun v5 _ hv5 => ?_)
    replace E := zLet_s (zcst hv5 (by decide)) E
    have zv4_z6 := zb_rng v4
    refine zg_icmp_lt X 77 dX3_unit_39 (by decide) (fun c7 => ?_) (fun c7 => ?_)
    · skip
      replace E := zIf_t c7 E
      refine zg_aload_n X 0 rfl dX3_unit_77 ?_
      refine fg_X3_26 X hI ha0 dX3_unit_78 (fun v8 ev8 _ => ?_)
      replace E := zLet_s ev8 E
      have mv8 : v8.toInt = v4.toInt := by rw [ev8, ← ev4]
      refine zg_bipush X 31 dX3_unit_81 (by decide) (fun v9 _ hv9 => ?_)
      replace E := zLet_s (zcst hv9 (by decide)) E
      refine zg_icmp_ne X 116 dX3_unit_83 (by decide) (fun c10 => ?_) (fun c10 => ?_)
      · skip
        replace E := zIf_f c10 E
        refine zg_aload_n X 0 rfl dX3_unit_116 ?_
        refine zg_aload_n X 0 rfl dX3_unit_117 ?_
        refine fg_X3_26 X hI ha0 dX3_unit_118 (fun v11 ev11 _ => ?_)
        replace E := zLet_s ev11 E
        have mv11 : v11.toInt = v8.toInt := by rw [ev11, ← ev8]
        refine zg_bipush X 31 dX3_unit_121 (by decide) (fun v12 _ hv12 => ?_)
        replace E := zLet_s (zcst hv12 (by decide)) E
        refine zg_icmp_ne X 130 dX3_unit_123 (by decide) (fun c13 => ?_) (fun c13 => ?_)
        · skip
          replace E := zIf_f c13 E
          refine zg_iconst X 1 dX3_unit_130 (by decide) (fun v14 _ hv14 => ?_)
          replace E := zLet_s (zcst hv14 (by decide)) E
          refine zg_cVv (As := [.int v14]) (st := []) X ha0 rfl (by decide) rfl (t_X3_fail l d L kd κ 2 _ hI a0 ha0 v14 ) mk_X3_106 mc_X3_fail mz_X3 mi_X3_fail ml_X3_fail (na := 1) ⟨md_X3.1, md_X3.2, by decide +kernel⟩ rfl ⟨by decide, by decide⟩ (Nat.le_of_ble_eq_true rfl) dX3_unit_131 (fun s15 hq => ?_)
          obtain ⟨hF, hS2, hI⟩ := hq
          replace E := zLet_s hF E
          have hS := hS.tr hS2 rfl rfl
          exact ret _ _ _ dX3_unit_134 ⟨E.symm.trans hR, hS, hI⟩
        · omega
      · omega
    · skip
      replace E := zIf_f (Int.not_lt.mpr c7) E
      refine zg_aload_n X 0 rfl dX3_unit_42 ?_
      refine fg_X3_26 X hI ha0 dX3_unit_43 (fun v16 ev16 _ => ?_)
      replace E := zLet_s ev16 E
      have mv16 : v16.toInt = v4.toInt := by rw [ev16, ← ev4]
      refine zg_bipush X 22 dX3_unit_46 (by decide) (fun v17 _ hv17 => ?_)
      replace E := zLet_s (zcst hv17 (by decide)) E
      have zv16_z18 := zb_rng v16
      refine zg_icmp_ge X 77 dX3_unit_48 (by decide) (fun c19 => ?_) (fun c19 => ?_)
      · skip
        replace E := zIf_f (Int.not_lt.mpr c19) E
        refine zg_aload_n X 0 rfl dX3_unit_77 ?_
        refine fg_X3_26 X hI ha0 dX3_unit_78 (fun v20 ev20 _ => ?_)
        replace E := zLet_s ev20 E
        have mv20 : v20.toInt = v16.toInt := by rw [ev20, ← ev16]
        refine zg_bipush X 31 dX3_unit_81 (by decide) (fun v21 _ hv21 => ?_)
        replace E := zLet_s (zcst hv21 (by decide)) E
        refine zg_icmp_ne X 116 dX3_unit_83 (by decide) (fun c22 => ?_) (fun c22 => ?_)
        · skip
          replace E := zIf_f c22 E
          refine zg_aload_n X 0 rfl dX3_unit_116 ?_
          refine zg_aload_n X 0 rfl dX3_unit_117 ?_
          refine fg_X3_26 X hI ha0 dX3_unit_118 (fun v23 ev23 _ => ?_)
          replace E := zLet_s ev23 E
          have mv23 : v23.toInt = v20.toInt := by rw [ev23, ← ev20]
          refine zg_bipush X 31 dX3_unit_121 (by decide) (fun v24 _ hv24 => ?_)
          replace E := zLet_s (zcst hv24 (by decide)) E
          refine zg_icmp_ne X 130 dX3_unit_123 (by decide) (fun c25 => ?_) (fun c25 => ?_)
          · skip
            replace E := zIf_f c25 E
            refine zg_iconst X 1 dX3_unit_130 (by decide) (fun v26 _ hv26 => ?_)
            replace E := zLet_s (zcst hv26 (by decide)) E
            refine zg_cVv (As := [.int v26]) (st := []) X ha0 rfl (by decide) rfl (t_X3_fail l d L kd κ 2 _ hI a0 ha0 v26 ) mk_X3_106 mc_X3_fail mz_X3 mi_X3_fail ml_X3_fail (na := 1) ⟨md_X3.1, md_X3.2, by decide +kernel⟩ rfl ⟨by decide, by decide⟩ (Nat.le_of_ble_eq_true rfl) dX3_unit_131 (fun s27 hq => ?_)
            obtain ⟨hF, hS2, hI⟩ := hq
            replace E := zLet_s hF E
            have hS := hS.tr hS2 rfl rfl
            exact ret _ _ _ dX3_unit_134 ⟨E.symm.trans hR, hS, hI⟩
          · skip
            replace E := zIf_t c25 E
            refine zg_iconst X 2 dX3_unit_126 (by decide) (fun v28 _ hv28 => ?_)
            replace E := zLet_s (zcst hv28 (by decide)) E
            refine zg_goto X 131 dX3_unit_127 (by decide) ?_
            refine zg_cVv (As := [.int v28]) (st := []) X ha0 rfl (by decide) rfl (t_X3_fail l d L kd κ 2 _ hI a0 ha0 v28 ) mk_X3_106 mc_X3_fail mz_X3 mi_X3_fail ml_X3_fail (na := 1) ⟨md_X3.1, md_X3.2, by decide +kernel⟩ rfl ⟨by decide, by decide⟩ (Nat.le_of_ble_eq_true rfl) dX3_unit_131 (fun s29 hq => ?_)
            obtain ⟨hF, hS2, hI⟩ := hq
            replace E := zLet_s hF E
            have hS := hS.tr hS2 rfl rfl
            exact ret _ _ _ dX3_unit_134 ⟨E.symm.trans hR, hS, hI⟩
        · skip
          replace E := zIf_t c22 E
          refine zg_iload_n X 1 rfl dX3_unit_86 ?_
          refine zg_bipush X 6 dX3_unit_87 (by decide) (fun v30 _ hv30 => ?_)
          replace E := zLet_s (zcst hv30 (by decide)) E
          refine zg_icmp_ge X 116 dX3_unit_89 (by decide) (fun c31 => ?_) (fun c31 => ?_)
          · omega
          · skip
            replace E := zIf_t c31 E
            refine zg_aload_n X 0 rfl dX3_unit_92 ?_
            refine zg_aload_n X 0 rfl dX3_unit_93 ?_
            refine fg_X3_26 X hI ha0 dX3_unit_94 (fun v32 ev32 _ => ?_)
            replace E := zLet_s ev32 E
            have mv32 : v32.toInt = v20.toInt := by rw [ev32, ← ev20]
            refine zg_cVv (As := [.int v32]) (st := []) X ha0 rfl (by decide) rfl (t_X3_take l d L kd κ 2 _ hI a0 ha0 v32 ) mk_X3_87 mc_X3_take mz_X3 mi_X3_take ml_X3_take (na := 1) ⟨md_X3.1, md_X3.2, by decide +kernel⟩ rfl ⟨by decide, by decide⟩ (Nat.le_of_ble_eq_true rfl) dX3_unit_97 (fun s33 hq => ?_)
            obtain ⟨hF, hS2, hI⟩ := hq
            replace E := zLet_s hF E
            have hS := hS.tr hS2 rfl rfl
            refine zg_aload_n X 0 rfl dX3_unit_100 ?_
            refine zg_iload_n X 1 rfl dX3_unit_101 ?_
            refine zg_iconst X 1 dX3_unit_102 (by decide) (fun v34 _ hv34 => ?_)
            replace E := zLet_s (zcst hv34 (by decide)) E
            refine zg_iadd X dX3_unit_103 (by omega) (by omega) (fun v35 ev35 hv35 => ?_)
            replace E := zLet_s ev35 E
            refine zg_cVv (As := [.int v35]) (st := []) X ha0 rfl (by decide) rfl (t_X3_sum_o6 l d L kd κ _ hI a0 ha0 v35 (by omega)) mk_X3_140 mc_X3_sum mz_X3 mi_X3_sum ml_X3_sum (na := 1) ⟨md_X3.1, md_X3.2, by decide +kernel⟩ rfl ⟨by decide, by decide⟩ (Nat.le_of_ble_eq_true rfl) dX3_unit_104 (fun s36 hq => ?_)
            obtain ⟨hF, hS2, hI⟩ := hq
            replace E := zLet_s hF E
            have hS := hS.tr hS2 rfl rfl
            refine zg_aload_n X 0 rfl dX3_unit_107 ?_
            refine zg_bipush X 32 dX3_unit_108 (by decide) (fun v37 _ hv37 => ?_)
            replace E := zLet_s (zcst hv37 (by decide)) E
            refine zg_cVv (As := [.int v37]) (st := []) X ha0 rfl (by decide) rfl (t_X3_take l d L kd κ 2 _ hI a0 ha0 v37 ) mk_X3_87 mc_X3_take mz_X3 mi_X3_take ml_X3_take (na := 1) ⟨md_X3.1, md_X3.2, by decide +kernel⟩ rfl ⟨by decide, by decide⟩ (Nat.le_of_ble_eq_true rfl) dX3_unit_110 (fun s38 hq => ?_)
            obtain ⟨hF, hS2, hI⟩ := hq
            replace E := zLet_s hF E
            have hS := hS.tr hS2 rfl rfl
            refine zg_goto X 134 dX3_unit_113 (by decide) ?_
            exact ret _ _ _ dX3_unit_134 ⟨E.symm.trans hR, hS, hI⟩
      · skip
        replace E := zIf_t c19 E
        refine zg_aload_n X 0 rfl dX3_unit_51 ?_
        refine fg_X3_18 X hI ha0 dX3_unit_52 (fun v39 ev39 hv39 => ?_)
        replace E := zLet_s (zgr ev39) E
        refine zg_iconst X 1 dX3_unit_55 (by decide) (fun v40 _ hv40 => ?_)
        replace E := zLet_s (zcst hv40 (by decide)) E
        refine zg_aload_n X 0 rfl dX3_unit_56 ?_
        refine fg_X3_26 X hI ha0 dX3_unit_57 (fun v41 ev41 _ => ?_)
        replace E := zLet_s ev41 E
        have mv41 : v41.toInt = v16.toInt := by rw [ev41, ← ev16]
        refine zg_bipush X 13 dX3_unit_60 (by decide) (fun v42 _ hv42 => ?_)
        replace E := zLet_s (zcst hv42 (by decide)) E
        refine zg_isub X dX3_unit_62 (by omega) (by omega) (fun v43 ev43 hv43 => ?_)
        replace E := zLet_s ev43 E
        refine zg_cVv (As := [.int v40, .int v43]) (st := []) X hv39 rfl (by decide) rfl (t_X9_addStep l d L kd κ 2 _ hI v39 hv39 v40 v43 ) mk_X3_145 mc_X9_addStep mz_X9 mi_X9_addStep ml_X9_addStep (na := 2) ⟨md_X9.1, md_X9.2, by decide +kernel⟩ rfl ⟨by decide, by decide⟩ (Nat.le_of_ble_eq_true rfl) dX3_unit_63 (fun s44 hq => ?_)
        obtain ⟨hF, hS2, hI⟩ := hq
        replace E := zLet_s hF E
        have hS := hS.tr hS2 rfl rfl
        refine zg_aload_n X 0 rfl dX3_unit_66 ?_
        refine zg_aload_n X 0 rfl dX3_unit_67 ?_
        refine fg_X3_26 X hI ha0 dX3_unit_68 (fun v45 ev45 _ => ?_)
        replace E := zLet_s ev45 E
        refine zg_cVv (As := [.int v45]) (st := []) X ha0 rfl (by decide) rfl (t_X3_take l d L kd κ 2 _ hI a0 ha0 v45 ) mk_X3_87 mc_X3_take mz_X3 mi_X3_take ml_X3_take (na := 1) ⟨md_X3.1, md_X3.2, by decide +kernel⟩ rfl ⟨by decide, by decide⟩ (Nat.le_of_ble_eq_true rfl) dX3_unit_71 (fun s46 hq => ?_)
        obtain ⟨hF, hS2, hI⟩ := hq
        replace E := zLet_s hF E
        have hS := hS.tr hS2 rfl rfl
        refine zg_goto X 134 dX3_unit_74 (by decide) ?_
        exact ret _ _ _ dX3_unit_134 ⟨E.symm.trans hR, hS, hI⟩
  · skip
    replace E := zIf_t c3 E
    refine zg_aload_n X 0 rfl dX3_unit_9 ?_
    refine fg_X3_18 X hI ha0 dX3_unit_10 (fun v47 ev47 hv47 => ?_)
    replace E := zLet_s (zgr ev47) E
    refine zg_iconst X 0 dX3_unit_13 (by decide) (fun v48 _ hv48 => ?_)
    replace E := zLet_s (zcst hv48 (by decide)) E
    refine zg_aload_n X 0 rfl dX3_unit_14 ?_
    refine fg_X3_29 X ha0 dX3_unit_15 (fun v49 ev49 => ?_)
    replace E := zLet_s ev49 E
    refine zg_l2i X dX3_unit_18 (fun v50 ev50 => ?_)
    replace E := zLet_s ev50 E
    refine zg_cVv (As := [.int v48, .int v50]) (st := []) X hv47 rfl (by decide) rfl (t_X9_addStep l d L kd κ 2 _ hI v47 hv47 v48 v50 ) mk_X3_145 mc_X9_addStep mz_X9 mi_X9_addStep ml_X9_addStep (na := 2) ⟨md_X9.1, md_X9.2, by decide +kernel⟩ rfl ⟨by decide, by decide⟩ (Nat.le_of_ble_eq_true rfl) dX3_unit_19 (fun s51 hq => ?_)
    obtain ⟨hF, hS2, hI⟩ := hq
    replace E := zLet_s hF E
    have hS := hS.tr hS2 rfl rfl
    refine zg_aload_n X 0 rfl dX3_unit_22 ?_
    refine zg_aload_n X 0 rfl dX3_unit_23 ?_
    refine fg_X3_26 X hI ha0 dX3_unit_24 (fun v52 ev52 _ => ?_)
    replace E := zLet_s ev52 E
    refine zg_cVv (As := [.int v52]) (st := []) X ha0 rfl (by decide) rfl (t_X3_take l d L kd κ 2 _ hI a0 ha0 v52 ) mk_X3_87 mc_X3_take mz_X3 mi_X3_take ml_X3_take (na := 1) ⟨md_X3.1, md_X3.2, by decide +kernel⟩ rfl ⟨by decide, by decide⟩ (Nat.le_of_ble_eq_true rfl) dX3_unit_27 (fun s53 hq => ?_)
    obtain ⟨hF, hS2, hI⟩ := hq
    replace E := zLet_s hF E
    have hS := hS.tr hS2 rfl rfl
    refine zg_goto X 134 dX3_unit_30 (by decide) ?_
    exact ret _ _ _ dX3_unit_134 ⟨E.symm.trans hR, hS, hI⟩
set_option maxHeartbeats 4000000 in
set_option maxRecDepth 100000 in
theorem t_X3_product_o5 (l : Launch) (d : zD2) (L : List Nat) (kd : Nat → Nat) (κ : Int) (σ : zS) (hI : zI κ 2 L kd σ) (a0 : Nat) (ha0 : zT L kd a0 3) (p1 : Int32) (hq0 : p1.toInt = 5) : zMv l yX3_product (Cond.code yX3_product cX3_product 4 none :: zWL) 6 [.ref a0, .int p1] d L kd σ (fun σ2 => σ2 = F_X3_product_o5 a0 p1 σ ∧ zSm [3, 9, 49, 50] [] L kd σ σ2 ∧ (zI κ 2 L kd σ2)) := by
  refine zMv.of (own := RX3) (by decide +kernel) rfl rfl (Nat.le_of_ble_eq_true rfl) ?_
  intro p e s m args below meth c A Q X ret
  refine zg_lv (lv2 := [(0, .ref a0), (1, .int p1)]) rfl ?_
  obtain ⟨R, hR⟩ : ∃ R, R = F_X3_product_o5 a0 p1 σ := ⟨_, rfl⟩
  have E := hR
  unfold F_X3_product_o5 at E
  have hS : zSm [3, 9, 49, 50] [] L kd σ σ := zSm.rf
  refine zg_aload_n X 0 rfl dX3_product_0 ?_
  refine zg_iload_n X 1 rfl dX3_product_1 ?_
  refine zg_cVv (As := [.int p1]) (st := []) X ha0 rfl (by decide) rfl (t_X3_unit_o5 l d L kd κ _ hI a0 ha0 p1 (by omega)) mk_X3_159 mc_X3_unit mz_X3 mi_X3_unit ml_X3_unit (na := 1) ⟨md_X3.1, md_X3.2, by decide +kernel⟩ rfl ⟨by decide, by decide⟩ (Nat.le_of_ble_eq_true rfl) dX3_product_2 (fun s1 hq => ?_)
  obtain ⟨hF, hS2, hI⟩ := hq
  replace E := zLet_s hF E
  have hS := hS.tr hS2 rfl rfl
  refine zg_iconst X 0 dX3_product_5 (by decide) (fun v2 _ hv2 => ?_)
  replace E := zLet_s (zcst hv2 (by decide)) E
  refine zg_istore_n X [(2, .int v2), (0, .ref a0), (1, .int p1)] dX3_product_6 (by decide) rfl ?_
  have Lp4 : ∀ (nLp4 : Nat) (τ4 : zS) (x3 : Int32), zI κ 2 L kd τ4 → zSm [3, 9, 49, 50] [] L kd σ τ4 → R = F_X3_product_o5_7 a0 p1  nLp4 x3 τ4 → 0 ≤ x3.toInt ∧ x3.toInt ≤ 401 → (401) - x3.toInt + 1 < (nLp4 : Int) → zG d L kd A 4 p l e (k2_rm 6 (100 * 6)) s m args below meth c Q τ4 7 [(2, .int x3), (0, .ref a0), (1, .int p1)] [] := by
    intro nLp4
    induction nLp4 with
    | zero => intro τ4 x3 hI hS E  hxLp4 hm ; exact absurd hm (by omega)
    | succ nLp4 ihLp4 =>
      intro τ4 x3 hI hS E  hxLp4 hmLp4 
      rw [F_X3_product_o5_7] at E
      refine zg_iload_n X 0 rfl dX3_product_7 ?_
      refine zg_sipush X 400 dX3_product_8 (by decide) (fun v5 _ hv5 => ?_)
      replace E := zLet_s (zcst hv5 (by decide)) E
      refine zg_icmp_gt X 68 dX3_product_11 (by decide) (fun c6 => ?_) (fun c6 => ?_)
      · skip
        replace E := zIf_t c6 E
        exact ret _ _ _ dX3_product_68 ⟨E.symm.trans hR, hS, hI⟩
      · skip
        replace E := zIf_f (Int.not_lt.mpr c6) E
        refine zg_aload_n X 1 rfl dX3_product_14 ?_
        refine fg_X3_26 X hI ha0 dX3_product_15 (fun v7 ev7 _ => ?_)
        replace E := zLet_s ev7 E
        refine zg_bipush X 28 dX3_product_18 (by decide) (fun v8 _ hv8 => ?_)
        replace E := zLet_s (zcst hv8 (by decide)) E
        refine zg_bipush X 29 dX3_product_20 (by decide) (fun v9 _ hv9 => ?_)
        replace E := zLet_s (zcst hv9 (by decide)) E
        refine zg_cSNi (As := [.int v7, .int v8, .int v9]) (st := []) X (t_X10_isWithin l d L kd _ v7 v8 v9 ) mk_X3_80 mc_X10_isWithin mz_X10 ms_X10_isWithin (na := 3) ⟨md_X10.1, md_X10.2, by decide +kernel⟩ rfl ⟨by decide, by decide⟩ (Nat.le_of_ble_eq_true rfl) dX3_product_22 (fun v10 σ2 hq => ?_)
        obtain ⟨⟨hF, hv10⟩, rfl⟩ := hq
        replace E := zLet_s hF E
        refine zg_if_eq X 68 dX3_product_25 (by decide) (fun c11 => ?_) (fun c11 => ?_)
        · skip
          replace E := zIf_t c11 E
          exact ret _ _ _ dX3_product_68 ⟨E.symm.trans hR, hS, hI⟩
        · skip
          replace E := zIf_f c11 E
          refine zg_aload_n X 1 rfl dX3_product_28 ?_
          refine fg_X3_26 X hI ha0 dX3_product_29 (fun v12 ev12 _ => ?_)
          replace E := zLet_s ev12 E
          have mv12 : v12.toInt = v7.toInt := by rw [ev12, ← ev7]
          refine zg_istore_n X [(3, .int v12), (2, .int x3), (0, .ref a0), (1, .int p1)] dX3_product_32 (by decide) rfl ?_
          refine zg_aload_n X 2 rfl dX3_product_33 ?_
          refine zg_iload_n X 0 rfl dX3_product_34 ?_
          refine zg_cVv (As := [.int v12]) (st := []) X ha0 rfl (by decide) rfl (t_X3_take l d L kd κ 2 _ hI a0 ha0 v12 ) mk_X3_87 mc_X3_take mz_X3 mi_X3_take ml_X3_take (na := 1) ⟨md_X3.1, md_X3.2, by decide +kernel⟩ rfl ⟨by decide, by decide⟩ (Nat.le_of_ble_eq_true rfl) dX3_product_35 (fun s13 hq => ?_)
          obtain ⟨hF, hS2, hI⟩ := hq
          replace E := zLet_s hF E
          have hS := hS.tr hS2 rfl rfl
          refine zg_aload_n X 2 rfl dX3_product_38 ?_
          refine zg_iload_n X 3 rfl dX3_product_39 ?_
          refine zg_cVv (As := [.int p1]) (st := []) X ha0 rfl (by decide) rfl (t_X3_unit_o5 l d L kd κ _ hI a0 ha0 p1 (by omega)) mk_X3_159 mc_X3_unit mz_X3 mi_X3_unit ml_X3_unit (na := 1) ⟨md_X3.1, md_X3.2, by decide +kernel⟩ rfl ⟨by decide, by decide⟩ (Nat.le_of_ble_eq_true rfl) dX3_product_40 (fun s14 hq => ?_)
          obtain ⟨hF, hS2, hI⟩ := hq
          replace E := zLet_s hF E
          have hS := hS.tr hS2 rfl rfl
          refine zg_aload_n X 2 rfl dX3_product_43 ?_
          refine fg_X3_18 X hI ha0 dX3_product_44 (fun v15 ev15 hv15 => ?_)
          replace E := zLet_s (zgr ev15) E
          refine zg_iload_n X 0 rfl dX3_product_47 ?_
          refine zg_bipush X 28 dX3_product_48 (by decide) (fun v16 _ hv16 => ?_)
          replace E := zLet_s (zcst hv16 (by decide)) E
          refine zg_icmp_ne X 57 dX3_product_50 (by decide) (fun c17 => ?_) (fun c17 => ?_)
          · skip
            replace E := zIf_f c17 E
            refine zg_iconst X 5 dX3_product_57 (by decide) (fun v18 _ hv18 => ?_)
            replace E := zLet_s (zcst hv18 (by decide)) E
            refine zg_iconst X 0 dX3_product_58 (by decide) (fun v19 _ hv19 => ?_)
            replace E := zLet_s (zcst hv19 (by decide)) E
            refine zg_cVv (As := [.int v18, .int v19]) (st := []) X hv15 rfl (by decide) rfl (t_X9_addStep l d L kd κ 2 _ hI v15 hv15 v18 v19 ) mk_X3_145 mc_X9_addStep mz_X9 mi_X9_addStep ml_X9_addStep (na := 2) ⟨md_X9.1, md_X9.2, by decide +kernel⟩ rfl ⟨by decide, by decide⟩ (Nat.le_of_ble_eq_true rfl) dX3_product_59 (fun s20 hq => ?_)
            obtain ⟨hF, hS2, hI⟩ := hq
            replace E := zLet_s hF E
            have hS := hS.tr hS2 rfl rfl
            refine zg_iinc X 1 (fun v21 => [(2, .int v21), (3, .int v12), (0, .ref a0), (1, .int p1)]) 1 dX3_product_62 rfl (by decide) (by decide) (by omega) (by omega) (fun _ => rfl) (fun v21 ev21 hv21 => ?_)
            replace E := zLet_s (zinc ev21 (by decide)) E
            refine zg_goto X 7 dX3_product_65 (by decide) ?_
            refine zg_sub [0, 2, 3] rfl ?_
            exact ihLp4 _ v21 hI hS E  (by omega) (by omega) 
          · skip
            replace E := zIf_t c17 E
            refine zg_iconst X 4 dX3_product_53 (by decide) (fun v22 _ hv22 => ?_)
            replace E := zLet_s (zcst hv22 (by decide)) E
            refine zg_goto X 58 dX3_product_54 (by decide) ?_
            refine zg_iconst X 0 dX3_product_58 (by decide) (fun v23 _ hv23 => ?_)
            replace E := zLet_s (zcst hv23 (by decide)) E
            refine zg_cVv (As := [.int v22, .int v23]) (st := []) X hv15 rfl (by decide) rfl (t_X9_addStep l d L kd κ 2 _ hI v15 hv15 v22 v23 ) mk_X3_145 mc_X9_addStep mz_X9 mi_X9_addStep ml_X9_addStep (na := 2) ⟨md_X9.1, md_X9.2, by decide +kernel⟩ rfl ⟨by decide, by decide⟩ (Nat.le_of_ble_eq_true rfl) dX3_product_59 (fun s24 hq => ?_)
            obtain ⟨hF, hS2, hI⟩ := hq
            replace E := zLet_s hF E
            have hS := hS.tr hS2 rfl rfl
            refine zg_iinc X 1 (fun v25 => [(2, .int v25), (3, .int v12), (0, .ref a0), (1, .int p1)]) 1 dX3_product_62 rfl (by decide) (by decide) (by omega) (by omega) (fun _ => rfl) (fun v25 ev25 hv25 => ?_)
            replace E := zLet_s (zinc ev25 (by decide)) E
            refine zg_goto X 7 dX3_product_65 (by decide) ?_
            refine zg_sub [0, 2, 3] rfl ?_
            exact ihLp4 _ v25 hI hS E  (by omega) (by omega) 
  refine zg_sub [0, 1, 2] rfl ?_
  exact Lp4 10000 _ v2 hI hS E  (by omega) (by omega) 
set_option maxHeartbeats 4000000 in
set_option maxRecDepth 100000 in
theorem t_X3_sum_o5 (l : Launch) (d : zD2) (L : List Nat) (kd : Nat → Nat) (κ : Int) (σ : zS) (hI : zI κ 2 L kd σ) (a0 : Nat) (ha0 : zT L kd a0 3) (p1 : Int32) (hq0 : p1.toInt = 5) : zMv l yX3_sum (Cond.code yX3_sum cX3_sum 4 none :: zWL) 7 [.ref a0, .int p1] d L kd σ (fun σ2 => σ2 = F_X3_sum_o5 a0 p1 σ ∧ zSm [3, 9, 49, 50] [] L kd σ σ2 ∧ (zI κ 2 L kd σ2)) := by
  refine zMv.of (own := RX3) (by decide +kernel) rfl rfl (Nat.le_of_ble_eq_true rfl) ?_
  intro p e s m args below meth c A Q X ret
  refine zg_lv (lv2 := [(0, .ref a0), (1, .int p1)]) rfl ?_
  obtain ⟨R, hR⟩ : ∃ R, R = F_X3_sum_o5 a0 p1 σ := ⟨_, rfl⟩
  have E := hR
  unfold F_X3_sum_o5 at E
  have hS : zSm [3, 9, 49, 50] [] L kd σ σ := zSm.rf
  refine zg_aload_n X 0 rfl dX3_sum_0 ?_
  refine zg_iload_n X 1 rfl dX3_sum_1 ?_
  refine zg_cVv (As := [.int p1]) (st := []) X ha0 rfl (by decide) rfl (t_X3_product_o5 l d L kd κ _ hI a0 ha0 p1 (by omega)) mk_X3_156 mc_X3_product mz_X3 mi_X3_product ml_X3_product (na := 1) ⟨md_X3.1, md_X3.2, by decide +kernel⟩ rfl ⟨by decide, by decide⟩ (Nat.le_of_ble_eq_true rfl) dX3_sum_2 (fun s1 hq => ?_)
  obtain ⟨hF, hS2, hI⟩ := hq
  replace E := zLet_s hF E
  have hS := hS.tr hS2 rfl rfl
  refine zg_iconst X 0 dX3_sum_5 (by decide) (fun v2 _ hv2 => ?_)
  replace E := zLet_s (zcst hv2 (by decide)) E
  refine zg_istore_n X [(2, .int v2), (0, .ref a0), (1, .int p1)] dX3_sum_6 (by decide) rfl ?_
  have Lp4 : ∀ (nLp4 : Nat) (τ4 : zS) (x3 : Int32), zI κ 2 L kd τ4 → zSm [3, 9, 49, 50] [] L kd σ τ4 → R = F_X3_sum_o5_7 a0 p1  nLp4 x3 τ4 → 0 ≤ x3.toInt ∧ x3.toInt ≤ 401 → (401) - x3.toInt + 1 < (nLp4 : Int) → zG d L kd A 4 p l e (k2_rm 7 (100 * 7)) s m args below meth c Q τ4 7 [(2, .int x3), (0, .ref a0), (1, .int p1)] [] := by
    intro nLp4
    induction nLp4 with
    | zero => intro τ4 x3 hI hS E  hxLp4 hm ; exact absurd hm (by omega)
    | succ nLp4 ihLp4 =>
      intro τ4 x3 hI hS E  hxLp4 hmLp4 
      rw [F_X3_sum_o5_7] at E
      refine zg_iload_n X 0 rfl dX3_sum_7 ?_
      refine zg_sipush X 400 dX3_sum_8 (by decide) (fun v5 _ hv5 => ?_)
      replace E := zLet_s (zcst hv5 (by decide)) E
      refine zg_icmp_gt X 68 dX3_sum_11 (by decide) (fun c6 => ?_) (fun c6 => ?_)
      · skip
        replace E := zIf_t c6 E
        exact ret _ _ _ dX3_sum_68 ⟨E.symm.trans hR, hS, hI⟩
      · skip
        replace E := zIf_f (Int.not_lt.mpr c6) E
        refine zg_aload_n X 1 rfl dX3_sum_14 ?_
        refine fg_X3_26 X hI ha0 dX3_sum_15 (fun v7 ev7 _ => ?_)
        replace E := zLet_s ev7 E
        refine zg_bipush X 26 dX3_sum_18 (by decide) (fun v8 _ hv8 => ?_)
        replace E := zLet_s (zcst hv8 (by decide)) E
        refine zg_bipush X 27 dX3_sum_20 (by decide) (fun v9 _ hv9 => ?_)
        replace E := zLet_s (zcst hv9 (by decide)) E
        refine zg_cSNi (As := [.int v7, .int v8, .int v9]) (st := []) X (t_X10_isWithin l d L kd _ v7 v8 v9 ) mk_X3_80 mc_X10_isWithin mz_X10 ms_X10_isWithin (na := 3) ⟨md_X10.1, md_X10.2, by decide +kernel⟩ rfl ⟨by decide, by decide⟩ (Nat.le_of_ble_eq_true rfl) dX3_sum_22 (fun v10 σ2 hq => ?_)
        obtain ⟨⟨hF, hv10⟩, rfl⟩ := hq
        replace E := zLet_s hF E
        refine zg_if_eq X 68 dX3_sum_25 (by decide) (fun c11 => ?_) (fun c11 => ?_)
        · skip
          replace E := zIf_t c11 E
          exact ret _ _ _ dX3_sum_68 ⟨E.symm.trans hR, hS, hI⟩
        · skip
          replace E := zIf_f c11 E
          refine zg_aload_n X 1 rfl dX3_sum_28 ?_
          refine fg_X3_26 X hI ha0 dX3_sum_29 (fun v12 ev12 _ => ?_)
          replace E := zLet_s ev12 E
          have mv12 : v12.toInt = v7.toInt := by rw [ev12, ← ev7]
          refine zg_istore_n X [(3, .int v12), (2, .int x3), (0, .ref a0), (1, .int p1)] dX3_sum_32 (by decide) rfl ?_
          refine zg_aload_n X 2 rfl dX3_sum_33 ?_
          refine zg_iload_n X 0 rfl dX3_sum_34 ?_
          refine zg_cVv (As := [.int v12]) (st := []) X ha0 rfl (by decide) rfl (t_X3_take l d L kd κ 2 _ hI a0 ha0 v12 ) mk_X3_87 mc_X3_take mz_X3 mi_X3_take ml_X3_take (na := 1) ⟨md_X3.1, md_X3.2, by decide +kernel⟩ rfl ⟨by decide, by decide⟩ (Nat.le_of_ble_eq_true rfl) dX3_sum_35 (fun s13 hq => ?_)
          obtain ⟨hF, hS2, hI⟩ := hq
          replace E := zLet_s hF E
          have hS := hS.tr hS2 rfl rfl
          refine zg_aload_n X 2 rfl dX3_sum_38 ?_
          refine zg_iload_n X 3 rfl dX3_sum_39 ?_
          refine zg_cVv (As := [.int p1]) (st := []) X ha0 rfl (by decide) rfl (t_X3_product_o5 l d L kd κ _ hI a0 ha0 p1 (by omega)) mk_X3_156 mc_X3_product mz_X3 mi_X3_product ml_X3_product (na := 1) ⟨md_X3.1, md_X3.2, by decide +kernel⟩ rfl ⟨by decide, by decide⟩ (Nat.le_of_ble_eq_true rfl) dX3_sum_40 (fun s14 hq => ?_)
          obtain ⟨hF, hS2, hI⟩ := hq
          replace E := zLet_s hF E
          have hS := hS.tr hS2 rfl rfl
          refine zg_aload_n X 2 rfl dX3_sum_43 ?_
          refine fg_X3_18 X hI ha0 dX3_sum_44 (fun v15 ev15 hv15 => ?_)
          replace E := zLet_s (zgr ev15) E
          refine zg_iload_n X 0 rfl dX3_sum_47 ?_
          refine zg_bipush X 26 dX3_sum_48 (by decide) (fun v16 _ hv16 => ?_)
          replace E := zLet_s (zcst hv16 (by decide)) E
          refine zg_icmp_ne X 57 dX3_sum_50 (by decide) (fun c17 => ?_) (fun c17 => ?_)
          · skip
            replace E := zIf_f c17 E
            refine zg_iconst X 3 dX3_sum_57 (by decide) (fun v18 _ hv18 => ?_)
            replace E := zLet_s (zcst hv18 (by decide)) E
            refine zg_iconst X 0 dX3_sum_58 (by decide) (fun v19 _ hv19 => ?_)
            replace E := zLet_s (zcst hv19 (by decide)) E
            refine zg_cVv (As := [.int v18, .int v19]) (st := []) X hv15 rfl (by decide) rfl (t_X9_addStep l d L kd κ 2 _ hI v15 hv15 v18 v19 ) mk_X3_145 mc_X9_addStep mz_X9 mi_X9_addStep ml_X9_addStep (na := 2) ⟨md_X9.1, md_X9.2, by decide +kernel⟩ rfl ⟨by decide, by decide⟩ (Nat.le_of_ble_eq_true rfl) dX3_sum_59 (fun s20 hq => ?_)
            obtain ⟨hF, hS2, hI⟩ := hq
            replace E := zLet_s hF E
            have hS := hS.tr hS2 rfl rfl
            refine zg_iinc X 1 (fun v21 => [(2, .int v21), (3, .int v12), (0, .ref a0), (1, .int p1)]) 1 dX3_sum_62 rfl (by decide) (by decide) (by omega) (by omega) (fun _ => rfl) (fun v21 ev21 hv21 => ?_)
            replace E := zLet_s (zinc ev21 (by decide)) E
            refine zg_goto X 7 dX3_sum_65 (by decide) ?_
            refine zg_sub [0, 2, 3] rfl ?_
            exact ihLp4 _ v21 hI hS E  (by omega) (by omega) 
          · skip
            replace E := zIf_t c17 E
            refine zg_iconst X 2 dX3_sum_53 (by decide) (fun v22 _ hv22 => ?_)
            replace E := zLet_s (zcst hv22 (by decide)) E
            refine zg_goto X 58 dX3_sum_54 (by decide) ?_
            refine zg_iconst X 0 dX3_sum_58 (by decide) (fun v23 _ hv23 => ?_)
            replace E := zLet_s (zcst hv23 (by decide)) E
            refine zg_cVv (As := [.int v22, .int v23]) (st := []) X hv15 rfl (by decide) rfl (t_X9_addStep l d L kd κ 2 _ hI v15 hv15 v22 v23 ) mk_X3_145 mc_X9_addStep mz_X9 mi_X9_addStep ml_X9_addStep (na := 2) ⟨md_X9.1, md_X9.2, by decide +kernel⟩ rfl ⟨by decide, by decide⟩ (Nat.le_of_ble_eq_true rfl) dX3_sum_59 (fun s24 hq => ?_)
            obtain ⟨hF, hS2, hI⟩ := hq
            replace E := zLet_s hF E
            have hS := hS.tr hS2 rfl rfl
            refine zg_iinc X 1 (fun v25 => [(2, .int v25), (3, .int v12), (0, .ref a0), (1, .int p1)]) 1 dX3_sum_62 rfl (by decide) (by decide) (by omega) (by omega) (fun _ => rfl) (fun v25 ev25 hv25 => ?_)
            replace E := zLet_s (zinc ev25 (by decide)) E
            refine zg_goto X 7 dX3_sum_65 (by decide) ?_
            refine zg_sub [0, 2, 3] rfl ?_
            exact ihLp4 _ v25 hI hS E  (by omega) (by omega) 
  refine zg_sub [0, 1, 2] rfl ?_
  exact Lp4 10000 _ v2 hI hS E  (by omega) (by omega) 
set_option maxHeartbeats 4000000 in
set_option maxRecDepth 100000 in
theorem t_X3_unit_o4 (l : Launch) (d : zD2) (L : List Nat) (kd : Nat → Nat) (κ : Int) (σ : zS) (hI : zI κ 2 L kd σ) (a0 : Nat) (ha0 : zT L kd a0 3) (p1 : Int32) (hq0 : p1.toInt = 4) : zMv l yX3_unit (Cond.code yX3_unit cX3_unit 2 none :: zWL) 8 [.ref a0, .int p1] d L kd σ (fun σ2 => σ2 = F_X3_unit_o4 a0 p1 σ ∧ zSm [3, 9, 49, 50] [] L kd σ σ2 ∧ (zI κ 2 L kd σ2)) := by
  refine zMv.of (own := RX3) (by decide +kernel) rfl rfl (Nat.le_of_ble_eq_true rfl) ?_
  intro p e s m args below meth c A Q X ret
  refine zg_lv (lv2 := [(0, .ref a0), (1, .int p1)]) rfl ?_
  obtain ⟨R, hR⟩ : ∃ R, R = F_X3_unit_o4 a0 p1 σ := ⟨_, rfl⟩
  have E := hR
  unfold F_X3_unit_o4 at E
  have hS : zSm [3, 9, 49, 50] [] L kd σ σ := zSm.rf
  refine zg_aload_n X 0 rfl dX3_unit_0 ?_
  refine fg_X3_26 X hI ha0 dX3_unit_1 (fun v1 ev1 _ => ?_)
  replace E := zLet_s ev1 E
  refine zg_bipush X 23 dX3_unit_4 (by decide) (fun v2 _ hv2 => ?_)
  replace E := zLet_s (zcst hv2 (by decide)) E
  refine zg_icmp_ne X 33 dX3_unit_6 (by decide) (fun c3 => ?_) (fun c3 => ?_)
  · skip
    replace E := zIf_f c3 E
    refine zg_aload_n X 0 rfl dX3_unit_33 ?_
    refine fg_X3_26 X hI ha0 dX3_unit_34 (fun v4 ev4 _ => ?_)
    replace E := zLet_s ev4 E
    have mv4 : v4.toInt = v1.toInt := by rw [ev4, ← ev1]
    refine zg_bipush X 13 dX3_unit_37 (by decide) (fun v5 _ hv5 => ?_)
    replace E := zLet_s (zcst hv5 (by decide)) E
    have zv4_z6 := zb_rng v4
    refine zg_icmp_lt X 77 dX3_unit_39 (by decide) (fun c7 => ?_) (fun c7 => ?_)
    · skip
      replace E := zIf_t c7 E
      refine zg_aload_n X 0 rfl dX3_unit_77 ?_
      refine fg_X3_26 X hI ha0 dX3_unit_78 (fun v8 ev8 _ => ?_)
      replace E := zLet_s ev8 E
      have mv8 : v8.toInt = v4.toInt := by rw [ev8, ← ev4]
      refine zg_bipush X 31 dX3_unit_81 (by decide) (fun v9 _ hv9 => ?_)
      replace E := zLet_s (zcst hv9 (by decide)) E
      refine zg_icmp_ne X 116 dX3_unit_83 (by decide) (fun c10 => ?_) (fun c10 => ?_)
      · skip
        replace E := zIf_f c10 E
        refine zg_aload_n X 0 rfl dX3_unit_116 ?_
        refine zg_aload_n X 0 rfl dX3_unit_117 ?_
        refine fg_X3_26 X hI ha0 dX3_unit_118 (fun v11 ev11 _ => ?_)
        replace E := zLet_s ev11 E
        have mv11 : v11.toInt = v8.toInt := by rw [ev11, ← ev8]
        refine zg_bipush X 31 dX3_unit_121 (by decide) (fun v12 _ hv12 => ?_)
        replace E := zLet_s (zcst hv12 (by decide)) E
        refine zg_icmp_ne X 130 dX3_unit_123 (by decide) (fun c13 => ?_) (fun c13 => ?_)
        · skip
          replace E := zIf_f c13 E
          refine zg_iconst X 1 dX3_unit_130 (by decide) (fun v14 _ hv14 => ?_)
          replace E := zLet_s (zcst hv14 (by decide)) E
          refine zg_cVv (As := [.int v14]) (st := []) X ha0 rfl (by decide) rfl (t_X3_fail l d L kd κ 2 _ hI a0 ha0 v14 ) mk_X3_106 mc_X3_fail mz_X3 mi_X3_fail ml_X3_fail (na := 1) ⟨md_X3.1, md_X3.2, by decide +kernel⟩ rfl ⟨by decide, by decide⟩ (Nat.le_of_ble_eq_true rfl) dX3_unit_131 (fun s15 hq => ?_)
          obtain ⟨hF, hS2, hI⟩ := hq
          replace E := zLet_s hF E
          have hS := hS.tr hS2 rfl rfl
          exact ret _ _ _ dX3_unit_134 ⟨E.symm.trans hR, hS, hI⟩
        · omega
      · omega
    · skip
      replace E := zIf_f (Int.not_lt.mpr c7) E
      refine zg_aload_n X 0 rfl dX3_unit_42 ?_
      refine fg_X3_26 X hI ha0 dX3_unit_43 (fun v16 ev16 _ => ?_)
      replace E := zLet_s ev16 E
      have mv16 : v16.toInt = v4.toInt := by rw [ev16, ← ev4]
      refine zg_bipush X 22 dX3_unit_46 (by decide) (fun v17 _ hv17 => ?_)
      replace E := zLet_s (zcst hv17 (by decide)) E
      have zv16_z18 := zb_rng v16
      refine zg_icmp_ge X 77 dX3_unit_48 (by decide) (fun c19 => ?_) (fun c19 => ?_)
      · skip
        replace E := zIf_f (Int.not_lt.mpr c19) E
        refine zg_aload_n X 0 rfl dX3_unit_77 ?_
        refine fg_X3_26 X hI ha0 dX3_unit_78 (fun v20 ev20 _ => ?_)
        replace E := zLet_s ev20 E
        have mv20 : v20.toInt = v16.toInt := by rw [ev20, ← ev16]
        refine zg_bipush X 31 dX3_unit_81 (by decide) (fun v21 _ hv21 => ?_)
        replace E := zLet_s (zcst hv21 (by decide)) E
        refine zg_icmp_ne X 116 dX3_unit_83 (by decide) (fun c22 => ?_) (fun c22 => ?_)
        · skip
          replace E := zIf_f c22 E
          refine zg_aload_n X 0 rfl dX3_unit_116 ?_
          refine zg_aload_n X 0 rfl dX3_unit_117 ?_
          refine fg_X3_26 X hI ha0 dX3_unit_118 (fun v23 ev23 _ => ?_)
          replace E := zLet_s ev23 E
          have mv23 : v23.toInt = v20.toInt := by rw [ev23, ← ev20]
          refine zg_bipush X 31 dX3_unit_121 (by decide) (fun v24 _ hv24 => ?_)
          replace E := zLet_s (zcst hv24 (by decide)) E
          refine zg_icmp_ne X 130 dX3_unit_123 (by decide) (fun c25 => ?_) (fun c25 => ?_)
          · skip
            replace E := zIf_f c25 E
            refine zg_iconst X 1 dX3_unit_130 (by decide) (fun v26 _ hv26 => ?_)
            replace E := zLet_s (zcst hv26 (by decide)) E
            refine zg_cVv (As := [.int v26]) (st := []) X ha0 rfl (by decide) rfl (t_X3_fail l d L kd κ 2 _ hI a0 ha0 v26 ) mk_X3_106 mc_X3_fail mz_X3 mi_X3_fail ml_X3_fail (na := 1) ⟨md_X3.1, md_X3.2, by decide +kernel⟩ rfl ⟨by decide, by decide⟩ (Nat.le_of_ble_eq_true rfl) dX3_unit_131 (fun s27 hq => ?_)
            obtain ⟨hF, hS2, hI⟩ := hq
            replace E := zLet_s hF E
            have hS := hS.tr hS2 rfl rfl
            exact ret _ _ _ dX3_unit_134 ⟨E.symm.trans hR, hS, hI⟩
          · skip
            replace E := zIf_t c25 E
            refine zg_iconst X 2 dX3_unit_126 (by decide) (fun v28 _ hv28 => ?_)
            replace E := zLet_s (zcst hv28 (by decide)) E
            refine zg_goto X 131 dX3_unit_127 (by decide) ?_
            refine zg_cVv (As := [.int v28]) (st := []) X ha0 rfl (by decide) rfl (t_X3_fail l d L kd κ 2 _ hI a0 ha0 v28 ) mk_X3_106 mc_X3_fail mz_X3 mi_X3_fail ml_X3_fail (na := 1) ⟨md_X3.1, md_X3.2, by decide +kernel⟩ rfl ⟨by decide, by decide⟩ (Nat.le_of_ble_eq_true rfl) dX3_unit_131 (fun s29 hq => ?_)
            obtain ⟨hF, hS2, hI⟩ := hq
            replace E := zLet_s hF E
            have hS := hS.tr hS2 rfl rfl
            exact ret _ _ _ dX3_unit_134 ⟨E.symm.trans hR, hS, hI⟩
        · skip
          replace E := zIf_t c22 E
          refine zg_iload_n X 1 rfl dX3_unit_86 ?_
          refine zg_bipush X 6 dX3_unit_87 (by decide) (fun v30 _ hv30 => ?_)
          replace E := zLet_s (zcst hv30 (by decide)) E
          refine zg_icmp_ge X 116 dX3_unit_89 (by decide) (fun c31 => ?_) (fun c31 => ?_)
          · omega
          · skip
            replace E := zIf_t c31 E
            refine zg_aload_n X 0 rfl dX3_unit_92 ?_
            refine zg_aload_n X 0 rfl dX3_unit_93 ?_
            refine fg_X3_26 X hI ha0 dX3_unit_94 (fun v32 ev32 _ => ?_)
            replace E := zLet_s ev32 E
            have mv32 : v32.toInt = v20.toInt := by rw [ev32, ← ev20]
            refine zg_cVv (As := [.int v32]) (st := []) X ha0 rfl (by decide) rfl (t_X3_take l d L kd κ 2 _ hI a0 ha0 v32 ) mk_X3_87 mc_X3_take mz_X3 mi_X3_take ml_X3_take (na := 1) ⟨md_X3.1, md_X3.2, by decide +kernel⟩ rfl ⟨by decide, by decide⟩ (Nat.le_of_ble_eq_true rfl) dX3_unit_97 (fun s33 hq => ?_)
            obtain ⟨hF, hS2, hI⟩ := hq
            replace E := zLet_s hF E
            have hS := hS.tr hS2 rfl rfl
            refine zg_aload_n X 0 rfl dX3_unit_100 ?_
            refine zg_iload_n X 1 rfl dX3_unit_101 ?_
            refine zg_iconst X 1 dX3_unit_102 (by decide) (fun v34 _ hv34 => ?_)
            replace E := zLet_s (zcst hv34 (by decide)) E
            refine zg_iadd X dX3_unit_103 (by omega) (by omega) (fun v35 ev35 hv35 => ?_)
            replace E := zLet_s ev35 E
            refine zg_cVv (As := [.int v35]) (st := []) X ha0 rfl (by decide) rfl (t_X3_sum_o5 l d L kd κ _ hI a0 ha0 v35 (by omega)) mk_X3_140 mc_X3_sum mz_X3 mi_X3_sum ml_X3_sum (na := 1) ⟨md_X3.1, md_X3.2, by decide +kernel⟩ rfl ⟨by decide, by decide⟩ (Nat.le_of_ble_eq_true rfl) dX3_unit_104 (fun s36 hq => ?_)
            obtain ⟨hF, hS2, hI⟩ := hq
            replace E := zLet_s hF E
            have hS := hS.tr hS2 rfl rfl
            refine zg_aload_n X 0 rfl dX3_unit_107 ?_
            refine zg_bipush X 32 dX3_unit_108 (by decide) (fun v37 _ hv37 => ?_)
            replace E := zLet_s (zcst hv37 (by decide)) E
            refine zg_cVv (As := [.int v37]) (st := []) X ha0 rfl (by decide) rfl (t_X3_take l d L kd κ 2 _ hI a0 ha0 v37 ) mk_X3_87 mc_X3_take mz_X3 mi_X3_take ml_X3_take (na := 1) ⟨md_X3.1, md_X3.2, by decide +kernel⟩ rfl ⟨by decide, by decide⟩ (Nat.le_of_ble_eq_true rfl) dX3_unit_110 (fun s38 hq => ?_)
            obtain ⟨hF, hS2, hI⟩ := hq
            replace E := zLet_s hF E
            have hS := hS.tr hS2 rfl rfl
            refine zg_goto X 134 dX3_unit_113 (by decide) ?_
            exact ret _ _ _ dX3_unit_134 ⟨E.symm.trans hR, hS, hI⟩
      · skip
        replace E := zIf_t c19 E
        refine zg_aload_n X 0 rfl dX3_unit_51 ?_
        refine fg_X3_18 X hI ha0 dX3_unit_52 (fun v39 ev39 hv39 => ?_)
        replace E := zLet_s (zgr ev39) E
        refine zg_iconst X 1 dX3_unit_55 (by decide) (fun v40 _ hv40 => ?_)
        replace E := zLet_s (zcst hv40 (by decide)) E
        refine zg_aload_n X 0 rfl dX3_unit_56 ?_
        refine fg_X3_26 X hI ha0 dX3_unit_57 (fun v41 ev41 _ => ?_)
        replace E := zLet_s ev41 E
        have mv41 : v41.toInt = v16.toInt := by rw [ev41, ← ev16]
        refine zg_bipush X 13 dX3_unit_60 (by decide) (fun v42 _ hv42 => ?_)
        replace E := zLet_s (zcst hv42 (by decide)) E
        refine zg_isub X dX3_unit_62 (by omega) (by omega) (fun v43 ev43 hv43 => ?_)
        replace E := zLet_s ev43 E
        refine zg_cVv (As := [.int v40, .int v43]) (st := []) X hv39 rfl (by decide) rfl (t_X9_addStep l d L kd κ 2 _ hI v39 hv39 v40 v43 ) mk_X3_145 mc_X9_addStep mz_X9 mi_X9_addStep ml_X9_addStep (na := 2) ⟨md_X9.1, md_X9.2, by decide +kernel⟩ rfl ⟨by decide, by decide⟩ (Nat.le_of_ble_eq_true rfl) dX3_unit_63 (fun s44 hq => ?_)
        obtain ⟨hF, hS2, hI⟩ := hq
        replace E := zLet_s hF E
        have hS := hS.tr hS2 rfl rfl
        refine zg_aload_n X 0 rfl dX3_unit_66 ?_
        refine zg_aload_n X 0 rfl dX3_unit_67 ?_
        refine fg_X3_26 X hI ha0 dX3_unit_68 (fun v45 ev45 _ => ?_)
        replace E := zLet_s ev45 E
        refine zg_cVv (As := [.int v45]) (st := []) X ha0 rfl (by decide) rfl (t_X3_take l d L kd κ 2 _ hI a0 ha0 v45 ) mk_X3_87 mc_X3_take mz_X3 mi_X3_take ml_X3_take (na := 1) ⟨md_X3.1, md_X3.2, by decide +kernel⟩ rfl ⟨by decide, by decide⟩ (Nat.le_of_ble_eq_true rfl) dX3_unit_71 (fun s46 hq => ?_)
        obtain ⟨hF, hS2, hI⟩ := hq
        replace E := zLet_s hF E
        have hS := hS.tr hS2 rfl rfl
        refine zg_goto X 134 dX3_unit_74 (by decide) ?_
        exact ret _ _ _ dX3_unit_134 ⟨E.symm.trans hR, hS, hI⟩
  · skip
    replace E := zIf_t c3 E
    refine zg_aload_n X 0 rfl dX3_unit_9 ?_
    refine fg_X3_18 X hI ha0 dX3_unit_10 (fun v47 ev47 hv47 => ?_)
    replace E := zLet_s (zgr ev47) E
    refine zg_iconst X 0 dX3_unit_13 (by decide) (fun v48 _ hv48 => ?_)
    replace E := zLet_s (zcst hv48 (by decide)) E
    refine zg_aload_n X 0 rfl dX3_unit_14 ?_
    refine fg_X3_29 X ha0 dX3_unit_15 (fun v49 ev49 => ?_)
    replace E := zLet_s ev49 E
    refine zg_l2i X dX3_unit_18 (fun v50 ev50 => ?_)
    replace E := zLet_s ev50 E
    refine zg_cVv (As := [.int v48, .int v50]) (st := []) X hv47 rfl (by decide) rfl (t_X9_addStep l d L kd κ 2 _ hI v47 hv47 v48 v50 ) mk_X3_145 mc_X9_addStep mz_X9 mi_X9_addStep ml_X9_addStep (na := 2) ⟨md_X9.1, md_X9.2, by decide +kernel⟩ rfl ⟨by decide, by decide⟩ (Nat.le_of_ble_eq_true rfl) dX3_unit_19 (fun s51 hq => ?_)
    obtain ⟨hF, hS2, hI⟩ := hq
    replace E := zLet_s hF E
    have hS := hS.tr hS2 rfl rfl
    refine zg_aload_n X 0 rfl dX3_unit_22 ?_
    refine zg_aload_n X 0 rfl dX3_unit_23 ?_
    refine fg_X3_26 X hI ha0 dX3_unit_24 (fun v52 ev52 _ => ?_)
    replace E := zLet_s ev52 E
    refine zg_cVv (As := [.int v52]) (st := []) X ha0 rfl (by decide) rfl (t_X3_take l d L kd κ 2 _ hI a0 ha0 v52 ) mk_X3_87 mc_X3_take mz_X3 mi_X3_take ml_X3_take (na := 1) ⟨md_X3.1, md_X3.2, by decide +kernel⟩ rfl ⟨by decide, by decide⟩ (Nat.le_of_ble_eq_true rfl) dX3_unit_27 (fun s53 hq => ?_)
    obtain ⟨hF, hS2, hI⟩ := hq
    replace E := zLet_s hF E
    have hS := hS.tr hS2 rfl rfl
    refine zg_goto X 134 dX3_unit_30 (by decide) ?_
    exact ret _ _ _ dX3_unit_134 ⟨E.symm.trans hR, hS, hI⟩
set_option maxHeartbeats 4000000 in
set_option maxRecDepth 100000 in
theorem t_X3_product_o4 (l : Launch) (d : zD2) (L : List Nat) (kd : Nat → Nat) (κ : Int) (σ : zS) (hI : zI κ 2 L kd σ) (a0 : Nat) (ha0 : zT L kd a0 3) (p1 : Int32) (hq0 : p1.toInt = 4) : zMv l yX3_product (Cond.code yX3_product cX3_product 4 none :: zWL) 9 [.ref a0, .int p1] d L kd σ (fun σ2 => σ2 = F_X3_product_o4 a0 p1 σ ∧ zSm [3, 9, 49, 50] [] L kd σ σ2 ∧ (zI κ 2 L kd σ2)) := by
  refine zMv.of (own := RX3) (by decide +kernel) rfl rfl (Nat.le_of_ble_eq_true rfl) ?_
  intro p e s m args below meth c A Q X ret
  refine zg_lv (lv2 := [(0, .ref a0), (1, .int p1)]) rfl ?_
  obtain ⟨R, hR⟩ : ∃ R, R = F_X3_product_o4 a0 p1 σ := ⟨_, rfl⟩
  have E := hR
  unfold F_X3_product_o4 at E
  have hS : zSm [3, 9, 49, 50] [] L kd σ σ := zSm.rf
  refine zg_aload_n X 0 rfl dX3_product_0 ?_
  refine zg_iload_n X 1 rfl dX3_product_1 ?_
  refine zg_cVv (As := [.int p1]) (st := []) X ha0 rfl (by decide) rfl (t_X3_unit_o4 l d L kd κ _ hI a0 ha0 p1 (by omega)) mk_X3_159 mc_X3_unit mz_X3 mi_X3_unit ml_X3_unit (na := 1) ⟨md_X3.1, md_X3.2, by decide +kernel⟩ rfl ⟨by decide, by decide⟩ (Nat.le_of_ble_eq_true rfl) dX3_product_2 (fun s1 hq => ?_)
  obtain ⟨hF, hS2, hI⟩ := hq
  replace E := zLet_s hF E
  have hS := hS.tr hS2 rfl rfl
  refine zg_iconst X 0 dX3_product_5 (by decide) (fun v2 _ hv2 => ?_)
  replace E := zLet_s (zcst hv2 (by decide)) E
  refine zg_istore_n X [(2, .int v2), (0, .ref a0), (1, .int p1)] dX3_product_6 (by decide) rfl ?_
  have Lp4 : ∀ (nLp4 : Nat) (τ4 : zS) (x3 : Int32), zI κ 2 L kd τ4 → zSm [3, 9, 49, 50] [] L kd σ τ4 → R = F_X3_product_o4_7 a0 p1  nLp4 x3 τ4 → 0 ≤ x3.toInt ∧ x3.toInt ≤ 401 → (401) - x3.toInt + 1 < (nLp4 : Int) → zG d L kd A 4 p l e (k2_rm 9 (100 * 9)) s m args below meth c Q τ4 7 [(2, .int x3), (0, .ref a0), (1, .int p1)] [] := by
    intro nLp4
    induction nLp4 with
    | zero => intro τ4 x3 hI hS E  hxLp4 hm ; exact absurd hm (by omega)
    | succ nLp4 ihLp4 =>
      intro τ4 x3 hI hS E  hxLp4 hmLp4 
      rw [F_X3_product_o4_7] at E
      refine zg_iload_n X 0 rfl dX3_product_7 ?_
      refine zg_sipush X 400 dX3_product_8 (by decide) (fun v5 _ hv5 => ?_)
      replace E := zLet_s (zcst hv5 (by decide)) E
      refine zg_icmp_gt X 68 dX3_product_11 (by decide) (fun c6 => ?_) (fun c6 => ?_)
      · skip
        replace E := zIf_t c6 E
        exact ret _ _ _ dX3_product_68 ⟨E.symm.trans hR, hS, hI⟩
      · skip
        replace E := zIf_f (Int.not_lt.mpr c6) E
        refine zg_aload_n X 1 rfl dX3_product_14 ?_
        refine fg_X3_26 X hI ha0 dX3_product_15 (fun v7 ev7 _ => ?_)
        replace E := zLet_s ev7 E
        refine zg_bipush X 28 dX3_product_18 (by decide) (fun v8 _ hv8 => ?_)
        replace E := zLet_s (zcst hv8 (by decide)) E
        refine zg_bipush X 29 dX3_product_20 (by decide) (fun v9 _ hv9 => ?_)
        replace E := zLet_s (zcst hv9 (by decide)) E
        refine zg_cSNi (As := [.int v7, .int v8, .int v9]) (st := []) X (t_X10_isWithin l d L kd _ v7 v8 v9 ) mk_X3_80 mc_X10_isWithin mz_X10 ms_X10_isWithin (na := 3) ⟨md_X10.1, md_X10.2, by decide +kernel⟩ rfl ⟨by decide, by decide⟩ (Nat.le_of_ble_eq_true rfl) dX3_product_22 (fun v10 σ2 hq => ?_)
        obtain ⟨⟨hF, hv10⟩, rfl⟩ := hq
        replace E := zLet_s hF E
        refine zg_if_eq X 68 dX3_product_25 (by decide) (fun c11 => ?_) (fun c11 => ?_)
        · skip
          replace E := zIf_t c11 E
          exact ret _ _ _ dX3_product_68 ⟨E.symm.trans hR, hS, hI⟩
        · skip
          replace E := zIf_f c11 E
          refine zg_aload_n X 1 rfl dX3_product_28 ?_
          refine fg_X3_26 X hI ha0 dX3_product_29 (fun v12 ev12 _ => ?_)
          replace E := zLet_s ev12 E
          have mv12 : v12.toInt = v7.toInt := by rw [ev12, ← ev7]
          refine zg_istore_n X [(3, .int v12), (2, .int x3), (0, .ref a0), (1, .int p1)] dX3_product_32 (by decide) rfl ?_
          refine zg_aload_n X 2 rfl dX3_product_33 ?_
          refine zg_iload_n X 0 rfl dX3_product_34 ?_
          refine zg_cVv (As := [.int v12]) (st := []) X ha0 rfl (by decide) rfl (t_X3_take l d L kd κ 2 _ hI a0 ha0 v12 ) mk_X3_87 mc_X3_take mz_X3 mi_X3_take ml_X3_take (na := 1) ⟨md_X3.1, md_X3.2, by decide +kernel⟩ rfl ⟨by decide, by decide⟩ (Nat.le_of_ble_eq_true rfl) dX3_product_35 (fun s13 hq => ?_)
          obtain ⟨hF, hS2, hI⟩ := hq
          replace E := zLet_s hF E
          have hS := hS.tr hS2 rfl rfl
          refine zg_aload_n X 2 rfl dX3_product_38 ?_
          refine zg_iload_n X 3 rfl dX3_product_39 ?_
          refine zg_cVv (As := [.int p1]) (st := []) X ha0 rfl (by decide) rfl (t_X3_unit_o4 l d L kd κ _ hI a0 ha0 p1 (by omega)) mk_X3_159 mc_X3_unit mz_X3 mi_X3_unit ml_X3_unit (na := 1) ⟨md_X3.1, md_X3.2, by decide +kernel⟩ rfl ⟨by decide, by decide⟩ (Nat.le_of_ble_eq_true rfl) dX3_product_40 (fun s14 hq => ?_)
          obtain ⟨hF, hS2, hI⟩ := hq
          replace E := zLet_s hF E
          have hS := hS.tr hS2 rfl rfl
          refine zg_aload_n X 2 rfl dX3_product_43 ?_
          refine fg_X3_18 X hI ha0 dX3_product_44 (fun v15 ev15 hv15 => ?_)
          replace E := zLet_s (zgr ev15) E
          refine zg_iload_n X 0 rfl dX3_product_47 ?_
          refine zg_bipush X 28 dX3_product_48 (by decide) (fun v16 _ hv16 => ?_)
          replace E := zLet_s (zcst hv16 (by decide)) E
          refine zg_icmp_ne X 57 dX3_product_50 (by decide) (fun c17 => ?_) (fun c17 => ?_)
          · skip
            replace E := zIf_f c17 E
            refine zg_iconst X 5 dX3_product_57 (by decide) (fun v18 _ hv18 => ?_)
            replace E := zLet_s (zcst hv18 (by decide)) E
            refine zg_iconst X 0 dX3_product_58 (by decide) (fun v19 _ hv19 => ?_)
            replace E := zLet_s (zcst hv19 (by decide)) E
            refine zg_cVv (As := [.int v18, .int v19]) (st := []) X hv15 rfl (by decide) rfl (t_X9_addStep l d L kd κ 2 _ hI v15 hv15 v18 v19 ) mk_X3_145 mc_X9_addStep mz_X9 mi_X9_addStep ml_X9_addStep (na := 2) ⟨md_X9.1, md_X9.2, by decide +kernel⟩ rfl ⟨by decide, by decide⟩ (Nat.le_of_ble_eq_true rfl) dX3_product_59 (fun s20 hq => ?_)
            obtain ⟨hF, hS2, hI⟩ := hq
            replace E := zLet_s hF E
            have hS := hS.tr hS2 rfl rfl
            refine zg_iinc X 1 (fun v21 => [(2, .int v21), (3, .int v12), (0, .ref a0), (1, .int p1)]) 1 dX3_product_62 rfl (by decide) (by decide) (by omega) (by omega) (fun _ => rfl) (fun v21 ev21 hv21 => ?_)
            replace E := zLet_s (zinc ev21 (by decide)) E
            refine zg_goto X 7 dX3_product_65 (by decide) ?_
            refine zg_sub [0, 2, 3] rfl ?_
            exact ihLp4 _ v21 hI hS E  (by omega) (by omega) 
          · skip
            replace E := zIf_t c17 E
            refine zg_iconst X 4 dX3_product_53 (by decide) (fun v22 _ hv22 => ?_)
            replace E := zLet_s (zcst hv22 (by decide)) E
            refine zg_goto X 58 dX3_product_54 (by decide) ?_
            refine zg_iconst X 0 dX3_product_58 (by decide) (fun v23 _ hv23 => ?_)
            replace E := zLet_s (zcst hv23 (by decide)) E
            refine zg_cVv (As := [.int v22, .int v23]) (st := []) X hv15 rfl (by decide) rfl (t_X9_addStep l d L kd κ 2 _ hI v15 hv15 v22 v23 ) mk_X3_145 mc_X9_addStep mz_X9 mi_X9_addStep ml_X9_addStep (na := 2) ⟨md_X9.1, md_X9.2, by decide +kernel⟩ rfl ⟨by decide, by decide⟩ (Nat.le_of_ble_eq_true rfl) dX3_product_59 (fun s24 hq => ?_)
            obtain ⟨hF, hS2, hI⟩ := hq
            replace E := zLet_s hF E
            have hS := hS.tr hS2 rfl rfl
            refine zg_iinc X 1 (fun v25 => [(2, .int v25), (3, .int v12), (0, .ref a0), (1, .int p1)]) 1 dX3_product_62 rfl (by decide) (by decide) (by omega) (by omega) (fun _ => rfl) (fun v25 ev25 hv25 => ?_)
            replace E := zLet_s (zinc ev25 (by decide)) E
            refine zg_goto X 7 dX3_product_65 (by decide) ?_
            refine zg_sub [0, 2, 3] rfl ?_
            exact ihLp4 _ v25 hI hS E  (by omega) (by omega) 
  refine zg_sub [0, 1, 2] rfl ?_
  exact Lp4 10000 _ v2 hI hS E  (by omega) (by omega) 
set_option maxHeartbeats 4000000 in
set_option maxRecDepth 100000 in
theorem t_X3_sum_o4 (l : Launch) (d : zD2) (L : List Nat) (kd : Nat → Nat) (κ : Int) (σ : zS) (hI : zI κ 2 L kd σ) (a0 : Nat) (ha0 : zT L kd a0 3) (p1 : Int32) (hq0 : p1.toInt = 4) : zMv l yX3_sum (Cond.code yX3_sum cX3_sum 4 none :: zWL) 10 [.ref a0, .int p1] d L kd σ (fun σ2 => σ2 = F_X3_sum_o4 a0 p1 σ ∧ zSm [3, 9, 49, 50] [] L kd σ σ2 ∧ (zI κ 2 L kd σ2)) := by
  refine zMv.of (own := RX3) (by decide +kernel) rfl rfl (Nat.le_of_ble_eq_true rfl) ?_
  intro p e s m args below meth c A Q X ret
  refine zg_lv (lv2 := [(0, .ref a0), (1, .int p1)]) rfl ?_
  obtain ⟨R, hR⟩ : ∃ R, R = F_X3_sum_o4 a0 p1 σ := ⟨_, rfl⟩
  have E := hR
  unfold F_X3_sum_o4 at E
  have hS : zSm [3, 9, 49, 50] [] L kd σ σ := zSm.rf
  refine zg_aload_n X 0 rfl dX3_sum_0 ?_
  refine zg_iload_n X 1 rfl dX3_sum_1 ?_
  refine zg_cVv (As := [.int p1]) (st := []) X ha0 rfl (by decide) rfl (t_X3_product_o4 l d L kd κ _ hI a0 ha0 p1 (by omega)) mk_X3_156 mc_X3_product mz_X3 mi_X3_product ml_X3_product (na := 1) ⟨md_X3.1, md_X3.2, by decide +kernel⟩ rfl ⟨by decide, by decide⟩ (Nat.le_of_ble_eq_true rfl) dX3_sum_2 (fun s1 hq => ?_)
  obtain ⟨hF, hS2, hI⟩ := hq
  replace E := zLet_s hF E
  have hS := hS.tr hS2 rfl rfl
  refine zg_iconst X 0 dX3_sum_5 (by decide) (fun v2 _ hv2 => ?_)
  replace E := zLet_s (zcst hv2 (by decide)) E
  refine zg_istore_n X [(2, .int v2), (0, .ref a0), (1, .int p1)] dX3_sum_6 (by decide) rfl ?_
  have Lp4 : ∀ (nLp4 : Nat) (τ4 : zS) (x3 : Int32), zI κ 2 L kd τ4 → zSm [3, 9, 49, 50] [] L kd σ τ4 → R = F_X3_sum_o4_7 a0 p1  nLp4 x3 τ4 → 0 ≤ x3.toInt ∧ x3.toInt ≤ 401 → (401) - x3.toInt + 1 < (nLp4 : Int) → zG d L kd A 4 p l e (k2_rm 10 (100 * 10)) s m args below meth c Q τ4 7 [(2, .int x3), (0, .ref a0), (1, .int p1)] [] := by
    intro nLp4
    induction nLp4 with
    | zero => intro τ4 x3 hI hS E  hxLp4 hm ; exact absurd hm (by omega)
    | succ nLp4 ihLp4 =>
      intro τ4 x3 hI hS E  hxLp4 hmLp4 
      rw [F_X3_sum_o4_7] at E
      refine zg_iload_n X 0 rfl dX3_sum_7 ?_
      refine zg_sipush X 400 dX3_sum_8 (by decide) (fun v5 _ hv5 => ?_)
      replace E := zLet_s (zcst hv5 (by decide)) E
      refine zg_icmp_gt X 68 dX3_sum_11 (by decide) (fun c6 => ?_) (fun c6 => ?_)
      · skip
        replace E := zIf_t c6 E
        exact ret _ _ _ dX3_sum_68 ⟨E.symm.trans hR, hS, hI⟩
      · skip
        replace E := zIf_f (Int.not_lt.mpr c6) E
        refine zg_aload_n X 1 rfl dX3_sum_14 ?_
        refine fg_X3_26 X hI ha0 dX3_sum_15 (fun v7 ev7 _ => ?_)
        replace E := zLet_s ev7 E
        refine zg_bipush X 26 dX3_sum_18 (by decide) (fun v8 _ hv8 => ?_)
        replace E := zLet_s (zcst hv8 (by decide)) E
        refine zg_bipush X 27 dX3_sum_20 (by decide) (fun v9 _ hv9 => ?_)
        replace E := zLet_s (zcst hv9 (by decide)) E
        refine zg_cSNi (As := [.int v7, .int v8, .int v9]) (st := []) X (t_X10_isWithin l d L kd _ v7 v8 v9 ) mk_X3_80 mc_X10_isWithin mz_X10 ms_X10_isWithin (na := 3) ⟨md_X10.1, md_X10.2, by decide +kernel⟩ rfl ⟨by decide, by decide⟩ (Nat.le_of_ble_eq_true rfl) dX3_sum_22 (fun v10 σ2 hq => ?_)
        obtain ⟨⟨hF, hv10⟩, rfl⟩ := hq
        replace E := zLet_s hF E
        refine zg_if_eq X 68 dX3_sum_25 (by decide) (fun c11 => ?_) (fun c11 => ?_)
        · skip
          replace E := zIf_t c11 E
          exact ret _ _ _ dX3_sum_68 ⟨E.symm.trans hR, hS, hI⟩
        · skip
          replace E := zIf_f c11 E
          refine zg_aload_n X 1 rfl dX3_sum_28 ?_
          refine fg_X3_26 X hI ha0 dX3_sum_29 (fun v12 ev12 _ => ?_)
          replace E := zLet_s ev12 E
          have mv12 : v12.toInt = v7.toInt := by rw [ev12, ← ev7]
          refine zg_istore_n X [(3, .int v12), (2, .int x3), (0, .ref a0), (1, .int p1)] dX3_sum_32 (by decide) rfl ?_
          refine zg_aload_n X 2 rfl dX3_sum_33 ?_
          refine zg_iload_n X 0 rfl dX3_sum_34 ?_
          refine zg_cVv (As := [.int v12]) (st := []) X ha0 rfl (by decide) rfl (t_X3_take l d L kd κ 2 _ hI a0 ha0 v12 ) mk_X3_87 mc_X3_take mz_X3 mi_X3_take ml_X3_take (na := 1) ⟨md_X3.1, md_X3.2, by decide +kernel⟩ rfl ⟨by decide, by decide⟩ (Nat.le_of_ble_eq_true rfl) dX3_sum_35 (fun s13 hq => ?_)
          obtain ⟨hF, hS2, hI⟩ := hq
          replace E := zLet_s hF E
          have hS := hS.tr hS2 rfl rfl
          refine zg_aload_n X 2 rfl dX3_sum_38 ?_
          refine zg_iload_n X 3 rfl dX3_sum_39 ?_
          refine zg_cVv (As := [.int p1]) (st := []) X ha0 rfl (by decide) rfl (t_X3_product_o4 l d L kd κ _ hI a0 ha0 p1 (by omega)) mk_X3_156 mc_X3_product mz_X3 mi_X3_product ml_X3_product (na := 1) ⟨md_X3.1, md_X3.2, by decide +kernel⟩ rfl ⟨by decide, by decide⟩ (Nat.le_of_ble_eq_true rfl) dX3_sum_40 (fun s14 hq => ?_)
          obtain ⟨hF, hS2, hI⟩ := hq
          replace E := zLet_s hF E
          have hS := hS.tr hS2 rfl rfl
          refine zg_aload_n X 2 rfl dX3_sum_43 ?_
          refine fg_X3_18 X hI ha0 dX3_sum_44 (fun v15 ev15 hv15 => ?_)
          replace E := zLet_s (zgr ev15) E
          refine zg_iload_n X 0 rfl dX3_sum_47 ?_
          refine zg_bipush X 26 dX3_sum_48 (by decide) (fun v16 _ hv16 => ?_)
          replace E := zLet_s (zcst hv16 (by decide)) E
          refine zg_icmp_ne X 57 dX3_sum_50 (by decide) (fun c17 => ?_) (fun c17 => ?_)
          · skip
            replace E := zIf_f c17 E
            refine zg_iconst X 3 dX3_sum_57 (by decide) (fun v18 _ hv18 => ?_)
            replace E := zLet_s (zcst hv18 (by decide)) E
            refine zg_iconst X 0 dX3_sum_58 (by decide) (fun v19 _ hv19 => ?_)
            replace E := zLet_s (zcst hv19 (by decide)) E
            refine zg_cVv (As := [.int v18, .int v19]) (st := []) X hv15 rfl (by decide) rfl (t_X9_addStep l d L kd κ 2 _ hI v15 hv15 v18 v19 ) mk_X3_145 mc_X9_addStep mz_X9 mi_X9_addStep ml_X9_addStep (na := 2) ⟨md_X9.1, md_X9.2, by decide +kernel⟩ rfl ⟨by decide, by decide⟩ (Nat.le_of_ble_eq_true rfl) dX3_sum_59 (fun s20 hq => ?_)
            obtain ⟨hF, hS2, hI⟩ := hq
            replace E := zLet_s hF E
            have hS := hS.tr hS2 rfl rfl
            refine zg_iinc X 1 (fun v21 => [(2, .int v21), (3, .int v12), (0, .ref a0), (1, .int p1)]) 1 dX3_sum_62 rfl (by decide) (by decide) (by omega) (by omega) (fun _ => rfl) (fun v21 ev21 hv21 => ?_)
            replace E := zLet_s (zinc ev21 (by decide)) E
            refine zg_goto X 7 dX3_sum_65 (by decide) ?_
            refine zg_sub [0, 2, 3] rfl ?_
            exact ihLp4 _ v21 hI hS E  (by omega) (by omega) 
          · skip
            replace E := zIf_t c17 E
            refine zg_iconst X 2 dX3_sum_53 (by decide) (fun v22 _ hv22 => ?_)
            replace E := zLet_s (zcst hv22 (by decide)) E
            refine zg_goto X 58 dX3_sum_54 (by decide) ?_
            refine zg_iconst X 0 dX3_sum_58 (by decide) (fun v23 _ hv23 => ?_)
            replace E := zLet_s (zcst hv23 (by decide)) E
            refine zg_cVv (As := [.int v22, .int v23]) (st := []) X hv15 rfl (by decide) rfl (t_X9_addStep l d L kd κ 2 _ hI v15 hv15 v22 v23 ) mk_X3_145 mc_X9_addStep mz_X9 mi_X9_addStep ml_X9_addStep (na := 2) ⟨md_X9.1, md_X9.2, by decide +kernel⟩ rfl ⟨by decide, by decide⟩ (Nat.le_of_ble_eq_true rfl) dX3_sum_59 (fun s24 hq => ?_)
            obtain ⟨hF, hS2, hI⟩ := hq
            replace E := zLet_s hF E
            have hS := hS.tr hS2 rfl rfl
            refine zg_iinc X 1 (fun v25 => [(2, .int v25), (3, .int v12), (0, .ref a0), (1, .int p1)]) 1 dX3_sum_62 rfl (by decide) (by decide) (by omega) (by omega) (fun _ => rfl) (fun v25 ev25 hv25 => ?_)
            replace E := zLet_s (zinc ev25 (by decide)) E
            refine zg_goto X 7 dX3_sum_65 (by decide) ?_
            refine zg_sub [0, 2, 3] rfl ?_
            exact ihLp4 _ v25 hI hS E  (by omega) (by omega) 
  refine zg_sub [0, 1, 2] rfl ?_
  exact Lp4 10000 _ v2 hI hS E  (by omega) (by omega) 
set_option maxHeartbeats 4000000 in
set_option maxRecDepth 100000 in
theorem t_X3_unit_o3 (l : Launch) (d : zD2) (L : List Nat) (kd : Nat → Nat) (κ : Int) (σ : zS) (hI : zI κ 2 L kd σ) (a0 : Nat) (ha0 : zT L kd a0 3) (p1 : Int32) (hq0 : p1.toInt = 3) : zMv l yX3_unit (Cond.code yX3_unit cX3_unit 2 none :: zWL) 11 [.ref a0, .int p1] d L kd σ (fun σ2 => σ2 = F_X3_unit_o3 a0 p1 σ ∧ zSm [3, 9, 49, 50] [] L kd σ σ2 ∧ (zI κ 2 L kd σ2)) := by
  refine zMv.of (own := RX3) (by decide +kernel) rfl rfl (Nat.le_of_ble_eq_true rfl) ?_
  intro p e s m args below meth c A Q X ret
  refine zg_lv (lv2 := [(0, .ref a0), (1, .int p1)]) rfl ?_
  obtain ⟨R, hR⟩ : ∃ R, R = F_X3_unit_o3 a0 p1 σ := ⟨_, rfl⟩
  have E := hR
  unfold F_X3_unit_o3 at E
  have hS : zSm [3, 9, 49, 50] [] L kd σ σ := zSm.rf
  refine zg_aload_n X 0 rfl dX3_unit_0 ?_
  refine fg_X3_26 X hI ha0 dX3_unit_1 (fun v1 ev1 _ => ?_)
  replace E := zLet_s ev1 E
  refine zg_bipush X 23 dX3_unit_4 (by decide) (fun v2 _ hv2 => ?_)
  replace E := zLet_s (zcst hv2 (by decide)) E
  refine zg_icmp_ne X 33 dX3_unit_6 (by decide) (fun c3 => ?_) (fun c3 => ?_)
  · skip
    replace E := zIf_f c3 E
    refine zg_aload_n X 0 rfl dX3_unit_33 ?_
    refine fg_X3_26 X hI ha0 dX3_unit_34 (fun v4 ev4 _ => ?_)
    replace E := zLet_s ev4 E
    have mv4 : v4.toInt = v1.toInt := by rw [ev4, ← ev1]
    refine zg_bipush X 13 dX3_unit_37 (by decide) (fun v5 _ hv5 => ?_)
    replace E := zLet_s (zcst hv5 (by decide)) E
    have zv4_z6 := zb_rng v4
    refine zg_icmp_lt X 77 dX3_unit_39 (by decide) (fun c7 => ?_) (fun c7 => ?_)
    · skip
      replace E := zIf_t c7 E
      refine zg_aload_n X 0 rfl dX3_unit_77 ?_
      refine fg_X3_26 X hI ha0 dX3_unit_78 (fun v8 ev8 _ => ?_)
      replace E := zLet_s ev8 E
      have mv8 : v8.toInt = v4.toInt := by rw [ev8, ← ev4]
      refine zg_bipush X 31 dX3_unit_81 (by decide) (fun v9 _ hv9 => ?_)
      replace E := zLet_s (zcst hv9 (by decide)) E
      refine zg_icmp_ne X 116 dX3_unit_83 (by decide) (fun c10 => ?_) (fun c10 => ?_)
      · skip
        replace E := zIf_f c10 E
        refine zg_aload_n X 0 rfl dX3_unit_116 ?_
        refine zg_aload_n X 0 rfl dX3_unit_117 ?_
        refine fg_X3_26 X hI ha0 dX3_unit_118 (fun v11 ev11 _ => ?_)
        replace E := zLet_s ev11 E
        have mv11 : v11.toInt = v8.toInt := by rw [ev11, ← ev8]
        refine zg_bipush X 31 dX3_unit_121 (by decide) (fun v12 _ hv12 => ?_)
        replace E := zLet_s (zcst hv12 (by decide)) E
        refine zg_icmp_ne X 130 dX3_unit_123 (by decide) (fun c13 => ?_) (fun c13 => ?_)
        · skip
          replace E := zIf_f c13 E
          refine zg_iconst X 1 dX3_unit_130 (by decide) (fun v14 _ hv14 => ?_)
          replace E := zLet_s (zcst hv14 (by decide)) E
          refine zg_cVv (As := [.int v14]) (st := []) X ha0 rfl (by decide) rfl (t_X3_fail l d L kd κ 2 _ hI a0 ha0 v14 ) mk_X3_106 mc_X3_fail mz_X3 mi_X3_fail ml_X3_fail (na := 1) ⟨md_X3.1, md_X3.2, by decide +kernel⟩ rfl ⟨by decide, by decide⟩ (Nat.le_of_ble_eq_true rfl) dX3_unit_131 (fun s15 hq => ?_)
          obtain ⟨hF, hS2, hI⟩ := hq
          replace E := zLet_s hF E
          have hS := hS.tr hS2 rfl rfl
          exact ret _ _ _ dX3_unit_134 ⟨E.symm.trans hR, hS, hI⟩
        · omega
      · omega
    · skip
      replace E := zIf_f (Int.not_lt.mpr c7) E
      refine zg_aload_n X 0 rfl dX3_unit_42 ?_
      refine fg_X3_26 X hI ha0 dX3_unit_43 (fun v16 ev16 _ => ?_)
      replace E := zLet_s ev16 E
      have mv16 : v16.toInt = v4.toInt := by rw [ev16, ← ev4]
      refine zg_bipush X 22 dX3_unit_46 (by decide) (fun v17 _ hv17 => ?_)
      replace E := zLet_s (zcst hv17 (by decide)) E
      have zv16_z18 := zb_rng v16
      refine zg_icmp_ge X 77 dX3_unit_48 (by decide) (fun c19 => ?_) (fun c19 => ?_)
      · skip
        replace E := zIf_f (Int.not_lt.mpr c19) E
        refine zg_aload_n X 0 rfl dX3_unit_77 ?_
        refine fg_X3_26 X hI ha0 dX3_unit_78 (fun v20 ev20 _ => ?_)
        replace E := zLet_s ev20 E
        have mv20 : v20.toInt = v16.toInt := by rw [ev20, ← ev16]
        refine zg_bipush X 31 dX3_unit_81 (by decide) (fun v21 _ hv21 => ?_)
        replace E := zLet_s (zcst hv21 (by decide)) E
        refine zg_icmp_ne X 116 dX3_unit_83 (by decide) (fun c22 => ?_) (fun c22 => ?_)
        · skip
          replace E := zIf_f c22 E
          refine zg_aload_n X 0 rfl dX3_unit_116 ?_
          refine zg_aload_n X 0 rfl dX3_unit_117 ?_
          refine fg_X3_26 X hI ha0 dX3_unit_118 (fun v23 ev23 _ => ?_)
          replace E := zLet_s ev23 E
          have mv23 : v23.toInt = v20.toInt := by rw [ev23, ← ev20]
          refine zg_bipush X 31 dX3_unit_121 (by decide) (fun v24 _ hv24 => ?_)
          replace E := zLet_s (zcst hv24 (by decide)) E
          refine zg_icmp_ne X 130 dX3_unit_123 (by decide) (fun c25 => ?_) (fun c25 => ?_)
          · skip
            replace E := zIf_f c25 E
            refine zg_iconst X 1 dX3_unit_130 (by decide) (fun v26 _ hv26 => ?_)
            replace E := zLet_s (zcst hv26 (by decide)) E
            refine zg_cVv (As := [.int v26]) (st := []) X ha0 rfl (by decide) rfl (t_X3_fail l d L kd κ 2 _ hI a0 ha0 v26 ) mk_X3_106 mc_X3_fail mz_X3 mi_X3_fail ml_X3_fail (na := 1) ⟨md_X3.1, md_X3.2, by decide +kernel⟩ rfl ⟨by decide, by decide⟩ (Nat.le_of_ble_eq_true rfl) dX3_unit_131 (fun s27 hq => ?_)
            obtain ⟨hF, hS2, hI⟩ := hq
            replace E := zLet_s hF E
            have hS := hS.tr hS2 rfl rfl
            exact ret _ _ _ dX3_unit_134 ⟨E.symm.trans hR, hS, hI⟩
          · skip
            replace E := zIf_t c25 E
            refine zg_iconst X 2 dX3_unit_126 (by decide) (fun v28 _ hv28 => ?_)
            replace E := zLet_s (zcst hv28 (by decide)) E
            refine zg_goto X 131 dX3_unit_127 (by decide) ?_
            refine zg_cVv (As := [.int v28]) (st := []) X ha0 rfl (by decide) rfl (t_X3_fail l d L kd κ 2 _ hI a0 ha0 v28 ) mk_X3_106 mc_X3_fail mz_X3 mi_X3_fail ml_X3_fail (na := 1) ⟨md_X3.1, md_X3.2, by decide +kernel⟩ rfl ⟨by decide, by decide⟩ (Nat.le_of_ble_eq_true rfl) dX3_unit_131 (fun s29 hq => ?_)
            obtain ⟨hF, hS2, hI⟩ := hq
            replace E := zLet_s hF E
            have hS := hS.tr hS2 rfl rfl
            exact ret _ _ _ dX3_unit_134 ⟨E.symm.trans hR, hS, hI⟩
        · skip
          replace E := zIf_t c22 E
          refine zg_iload_n X 1 rfl dX3_unit_86 ?_
          refine zg_bipush X 6 dX3_unit_87 (by decide) (fun v30 _ hv30 => ?_)
          replace E := zLet_s (zcst hv30 (by decide)) E
          refine zg_icmp_ge X 116 dX3_unit_89 (by decide) (fun c31 => ?_) (fun c31 => ?_)
          · omega
          · skip
            replace E := zIf_t c31 E
            refine zg_aload_n X 0 rfl dX3_unit_92 ?_
            refine zg_aload_n X 0 rfl dX3_unit_93 ?_
            refine fg_X3_26 X hI ha0 dX3_unit_94 (fun v32 ev32 _ => ?_)
            replace E := zLet_s ev32 E
            have mv32 : v32.toInt = v20.toInt := by rw [ev32, ← ev20]
            refine zg_cVv (As := [.int v32]) (st := []) X ha0 rfl (by decide) rfl (t_X3_take l d L kd κ 2 _ hI a0 ha0 v32 ) mk_X3_87 mc_X3_take mz_X3 mi_X3_take ml_X3_take (na := 1) ⟨md_X3.1, md_X3.2, by decide +kernel⟩ rfl ⟨by decide, by decide⟩ (Nat.le_of_ble_eq_true rfl) dX3_unit_97 (fun s33 hq => ?_)
            obtain ⟨hF, hS2, hI⟩ := hq
            replace E := zLet_s hF E
            have hS := hS.tr hS2 rfl rfl
            refine zg_aload_n X 0 rfl dX3_unit_100 ?_
            refine zg_iload_n X 1 rfl dX3_unit_101 ?_
            refine zg_iconst X 1 dX3_unit_102 (by decide) (fun v34 _ hv34 => ?_)
            replace E := zLet_s (zcst hv34 (by decide)) E
            refine zg_iadd X dX3_unit_103 (by omega) (by omega) (fun v35 ev35 hv35 => ?_)
            replace E := zLet_s ev35 E
            refine zg_cVv (As := [.int v35]) (st := []) X ha0 rfl (by decide) rfl (t_X3_sum_o4 l d L kd κ _ hI a0 ha0 v35 (by omega)) mk_X3_140 mc_X3_sum mz_X3 mi_X3_sum ml_X3_sum (na := 1) ⟨md_X3.1, md_X3.2, by decide +kernel⟩ rfl ⟨by decide, by decide⟩ (Nat.le_of_ble_eq_true rfl) dX3_unit_104 (fun s36 hq => ?_)
            obtain ⟨hF, hS2, hI⟩ := hq
            replace E := zLet_s hF E
            have hS := hS.tr hS2 rfl rfl
            refine zg_aload_n X 0 rfl dX3_unit_107 ?_
            refine zg_bipush X 32 dX3_unit_108 (by decide) (fun v37 _ hv37 => ?_)
            replace E := zLet_s (zcst hv37 (by decide)) E
            refine zg_cVv (As := [.int v37]) (st := []) X ha0 rfl (by decide) rfl (t_X3_take l d L kd κ 2 _ hI a0 ha0 v37 ) mk_X3_87 mc_X3_take mz_X3 mi_X3_take ml_X3_take (na := 1) ⟨md_X3.1, md_X3.2, by decide +kernel⟩ rfl ⟨by decide, by decide⟩ (Nat.le_of_ble_eq_true rfl) dX3_unit_110 (fun s38 hq => ?_)
            obtain ⟨hF, hS2, hI⟩ := hq
            replace E := zLet_s hF E
            have hS := hS.tr hS2 rfl rfl
            refine zg_goto X 134 dX3_unit_113 (by decide) ?_
            exact ret _ _ _ dX3_unit_134 ⟨E.symm.trans hR, hS, hI⟩
      · skip
        replace E := zIf_t c19 E
        refine zg_aload_n X 0 rfl dX3_unit_51 ?_
        refine fg_X3_18 X hI ha0 dX3_unit_52 (fun v39 ev39 hv39 => ?_)
        replace E := zLet_s (zgr ev39) E
        refine zg_iconst X 1 dX3_unit_55 (by decide) (fun v40 _ hv40 => ?_)
        replace E := zLet_s (zcst hv40 (by decide)) E
        refine zg_aload_n X 0 rfl dX3_unit_56 ?_
        refine fg_X3_26 X hI ha0 dX3_unit_57 (fun v41 ev41 _ => ?_)
        replace E := zLet_s ev41 E
        have mv41 : v41.toInt = v16.toInt := by rw [ev41, ← ev16]
        refine zg_bipush X 13 dX3_unit_60 (by decide) (fun v42 _ hv42 => ?_)
        replace E := zLet_s (zcst hv42 (by decide)) E
        refine zg_isub X dX3_unit_62 (by omega) (by omega) (fun v43 ev43 hv43 => ?_)
        replace E := zLet_s ev43 E
        refine zg_cVv (As := [.int v40, .int v43]) (st := []) X hv39 rfl (by decide) rfl (t_X9_addStep l d L kd κ 2 _ hI v39 hv39 v40 v43 ) mk_X3_145 mc_X9_addStep mz_X9 mi_X9_addStep ml_X9_addStep (na := 2) ⟨md_X9.1, md_X9.2, by decide +kernel⟩ rfl ⟨by decide, by decide⟩ (Nat.le_of_ble_eq_true rfl) dX3_unit_63 (fun s44 hq => ?_)
        obtain ⟨hF, hS2, hI⟩ := hq
        replace E := zLet_s hF E
        have hS := hS.tr hS2 rfl rfl
        refine zg_aload_n X 0 rfl dX3_unit_66 ?_
        refine zg_aload_n X 0 rfl dX3_unit_67 ?_
        refine fg_X3_26 X hI ha0 dX3_unit_68 (fun v45 ev45 _ => ?_)
        replace E := zLet_s ev45 E
        refine zg_cVv (As := [.int v45]) (st := []) X ha0 rfl (by decide) rfl (t_X3_take l d L kd κ 2 _ hI a0 ha0 v45 ) mk_X3_87 mc_X3_take mz_X3 mi_X3_take ml_X3_take (na := 1) ⟨md_X3.1, md_X3.2, by decide +kernel⟩ rfl ⟨by decide, by decide⟩ (Nat.le_of_ble_eq_true rfl) dX3_unit_71 (fun s46 hq => ?_)
        obtain ⟨hF, hS2, hI⟩ := hq
        replace E := zLet_s hF E
        have hS := hS.tr hS2 rfl rfl
        refine zg_goto X 134 dX3_unit_74 (by decide) ?_
        exact ret _ _ _ dX3_unit_134 ⟨E.symm.trans hR, hS, hI⟩
  · skip
    replace E := zIf_t c3 E
    refine zg_aload_n X 0 rfl dX3_unit_9 ?_
    refine fg_X3_18 X hI ha0 dX3_unit_10 (fun v47 ev47 hv47 => ?_)
    replace E := zLet_s (zgr ev47) E
    refine zg_iconst X 0 dX3_unit_13 (by decide) (fun v48 _ hv48 => ?_)
    replace E := zLet_s (zcst hv48 (by decide)) E
    refine zg_aload_n X 0 rfl dX3_unit_14 ?_
    refine fg_X3_29 X ha0 dX3_unit_15 (fun v49 ev49 => ?_)
    replace E := zLet_s ev49 E
    refine zg_l2i X dX3_unit_18 (fun v50 ev50 => ?_)
    replace E := zLet_s ev50 E
    refine zg_cVv (As := [.int v48, .int v50]) (st := []) X hv47 rfl (by decide) rfl (t_X9_addStep l d L kd κ 2 _ hI v47 hv47 v48 v50 ) mk_X3_145 mc_X9_addStep mz_X9 mi_X9_addStep ml_X9_addStep (na := 2) ⟨md_X9.1, md_X9.2, by decide +kernel⟩ rfl ⟨by decide, by decide⟩ (Nat.le_of_ble_eq_true rfl) dX3_unit_19 (fun s51 hq => ?_)
    obtain ⟨hF, hS2, hI⟩ := hq
    replace E := zLet_s hF E
    have hS := hS.tr hS2 rfl rfl
    refine zg_aload_n X 0 rfl dX3_unit_22 ?_
    refine zg_aload_n X 0 rfl dX3_unit_23 ?_
    refine fg_X3_26 X hI ha0 dX3_unit_24 (fun v52 ev52 _ => ?_)
    replace E := zLet_s ev52 E
    refine zg_cVv (As := [.int v52]) (st := []) X ha0 rfl (by decide) rfl (t_X3_take l d L kd κ 2 _ hI a0 ha0 v52 ) mk_X3_87 mc_X3_take mz_X3 mi_X3_take ml_X3_take (na := 1) ⟨md_X3.1, md_X3.2, by decide +kernel⟩ rfl ⟨by decide, by decide⟩ (Nat.le_of_ble_eq_true rfl) dX3_unit_27 (fun s53 hq => ?_)
    obtain ⟨hF, hS2, hI⟩ := hq
    replace E := zLet_s hF E
    have hS := hS.tr hS2 rfl rfl
    refine zg_goto X 134 dX3_unit_30 (by decide) ?_
    exact ret _ _ _ dX3_unit_134 ⟨E.symm.trans hR, hS, hI⟩
set_option maxHeartbeats 4000000 in
set_option maxRecDepth 100000 in
theorem t_X3_product_o3 (l : Launch) (d : zD2) (L : List Nat) (kd : Nat → Nat) (κ : Int) (σ : zS) (hI : zI κ 2 L kd σ) (a0 : Nat) (ha0 : zT L kd a0 3) (p1 : Int32) (hq0 : p1.toInt = 3) : zMv l yX3_product (Cond.code yX3_product cX3_product 4 none :: zWL) 12 [.ref a0, .int p1] d L kd σ (fun σ2 => σ2 = F_X3_product_o3 a0 p1 σ ∧ zSm [3, 9, 49, 50] [] L kd σ σ2 ∧ (zI κ 2 L kd σ2)) := by
  refine zMv.of (own := RX3) (by decide +kernel) rfl rfl (Nat.le_of_ble_eq_true rfl) ?_
  intro p e s m args below meth c A Q X ret
  refine zg_lv (lv2 := [(0, .ref a0), (1, .int p1)]) rfl ?_
  obtain ⟨R, hR⟩ : ∃ R, R = F_X3_product_o3 a0 p1 σ := ⟨_, rfl⟩
  have E := hR
  unfold F_X3_product_o3 at E
  have hS : zSm [3, 9, 49, 50] [] L kd σ σ := zSm.rf
  refine zg_aload_n X 0 rfl dX3_product_0 ?_
  refine zg_iload_n X 1 rfl dX3_product_1 ?_
  refine zg_cVv (As := [.int p1]) (st := []) X ha0 rfl (by decide) rfl (t_X3_unit_o3 l d L kd κ _ hI a0 ha0 p1 (by omega)) mk_X3_159 mc_X3_unit mz_X3 mi_X3_unit ml_X3_unit (na := 1) ⟨md_X3.1, md_X3.2, by decide +kernel⟩ rfl ⟨by decide, by decide⟩ (Nat.le_of_ble_eq_true rfl) dX3_product_2 (fun s1 hq => ?_)
  obtain ⟨hF, hS2, hI⟩ := hq
  replace E := zLet_s hF E
  have hS := hS.tr hS2 rfl rfl
  refine zg_iconst X 0 dX3_product_5 (by decide) (fun v2 _ hv2 => ?_)
  replace E := zLet_s (zcst hv2 (by decide)) E
  refine zg_istore_n X [(2, .int v2), (0, .ref a0), (1, .int p1)] dX3_product_6 (by decide) rfl ?_
  have Lp4 : ∀ (nLp4 : Nat) (τ4 : zS) (x3 : Int32), zI κ 2 L kd τ4 → zSm [3, 9, 49, 50] [] L kd σ τ4 → R = F_X3_product_o3_7 a0 p1  nLp4 x3 τ4 → 0 ≤ x3.toInt ∧ x3.toInt ≤ 401 → (401) - x3.toInt + 1 < (nLp4 : Int) → zG d L kd A 4 p l e (k2_rm 12 (100 * 12)) s m args below meth c Q τ4 7 [(2, .int x3), (0, .ref a0), (1, .int p1)] [] := by
    intro nLp4
    induction nLp4 with
    | zero => intro τ4 x3 hI hS E  hxLp4 hm ; exact absurd hm (by omega)
    | succ nLp4 ihLp4 =>
      intro τ4 x3 hI hS E  hxLp4 hmLp4 
      rw [F_X3_product_o3_7] at E
      refine zg_iload_n X 0 rfl dX3_product_7 ?_
      refine zg_sipush X 400 dX3_product_8 (by decide) (fun v5 _ hv5 => ?_)
      replace E := zLet_s (zcst hv5 (by decide)) E
      refine zg_icmp_gt X 68 dX3_product_11 (by decide) (fun c6 => ?_) (fun c6 => ?_)
      · skip
        replace E := zIf_t c6 E
        exact ret _ _ _ dX3_product_68 ⟨E.symm.trans hR, hS, hI⟩
      · skip
        replace E := zIf_f (Int.not_lt.mpr c6) E
        refine zg_aload_n X 1 rfl dX3_product_14 ?_
        refine fg_X3_26 X hI ha0 dX3_product_15 (fun v7 ev7 _ => ?_)
        replace E := zLet_s ev7 E
        refine zg_bipush X 28 dX3_product_18 (by decide) (fun v8 _ hv8 => ?_)
        replace E := zLet_s (zcst hv8 (by decide)) E
        refine zg_bipush X 29 dX3_product_20 (by decide) (fun v9 _ hv9 => ?_)
        replace E := zLet_s (zcst hv9 (by decide)) E
        refine zg_cSNi (As := [.int v7, .int v8, .int v9]) (st := []) X (t_X10_isWithin l d L kd _ v7 v8 v9 ) mk_X3_80 mc_X10_isWithin mz_X10 ms_X10_isWithin (na := 3) ⟨md_X10.1, md_X10.2, by decide +kernel⟩ rfl ⟨by decide, by decide⟩ (Nat.le_of_ble_eq_true rfl) dX3_product_22 (fun v10 σ2 hq => ?_)
        obtain ⟨⟨hF, hv10⟩, rfl⟩ := hq
        replace E := zLet_s hF E
        refine zg_if_eq X 68 dX3_product_25 (by decide) (fun c11 => ?_) (fun c11 => ?_)
        · skip
          replace E := zIf_t c11 E
          exact ret _ _ _ dX3_product_68 ⟨E.symm.trans hR, hS, hI⟩
        · skip
          replace E := zIf_f c11 E
          refine zg_aload_n X 1 rfl dX3_product_28 ?_
          refine fg_X3_26 X hI ha0 dX3_product_29 (fun v12 ev12 _ => ?_)
          replace E := zLet_s ev12 E
          have mv12 : v12.toInt = v7.toInt := by rw [ev12, ← ev7]
          refine zg_istore_n X [(3, .int v12), (2, .int x3), (0, .ref a0), (1, .int p1)] dX3_product_32 (by decide) rfl ?_
          refine zg_aload_n X 2 rfl dX3_product_33 ?_
          refine zg_iload_n X 0 rfl dX3_product_34 ?_
          refine zg_cVv (As := [.int v12]) (st := []) X ha0 rfl (by decide) rfl (t_X3_take l d L kd κ 2 _ hI a0 ha0 v12 ) mk_X3_87 mc_X3_take mz_X3 mi_X3_take ml_X3_take (na := 1) ⟨md_X3.1, md_X3.2, by decide +kernel⟩ rfl ⟨by decide, by decide⟩ (Nat.le_of_ble_eq_true rfl) dX3_product_35 (fun s13 hq => ?_)
          obtain ⟨hF, hS2, hI⟩ := hq
          replace E := zLet_s hF E
          have hS := hS.tr hS2 rfl rfl
          refine zg_aload_n X 2 rfl dX3_product_38 ?_
          refine zg_iload_n X 3 rfl dX3_product_39 ?_
          refine zg_cVv (As := [.int p1]) (st := []) X ha0 rfl (by decide) rfl (t_X3_unit_o3 l d L kd κ _ hI a0 ha0 p1 (by omega)) mk_X3_159 mc_X3_unit mz_X3 mi_X3_unit ml_X3_unit (na := 1) ⟨md_X3.1, md_X3.2, by decide +kernel⟩ rfl ⟨by decide, by decide⟩ (Nat.le_of_ble_eq_true rfl) dX3_product_40 (fun s14 hq => ?_)
          obtain ⟨hF, hS2, hI⟩ := hq
          replace E := zLet_s hF E
          have hS := hS.tr hS2 rfl rfl
          refine zg_aload_n X 2 rfl dX3_product_43 ?_
          refine fg_X3_18 X hI ha0 dX3_product_44 (fun v15 ev15 hv15 => ?_)
          replace E := zLet_s (zgr ev15) E
          refine zg_iload_n X 0 rfl dX3_product_47 ?_
          refine zg_bipush X 28 dX3_product_48 (by decide) (fun v16 _ hv16 => ?_)
          replace E := zLet_s (zcst hv16 (by decide)) E
          refine zg_icmp_ne X 57 dX3_product_50 (by decide) (fun c17 => ?_) (fun c17 => ?_)
          · skip
            replace E := zIf_f c17 E
            refine zg_iconst X 5 dX3_product_57 (by decide) (fun v18 _ hv18 => ?_)
            replace E := zLet_s (zcst hv18 (by decide)) E
            refine zg_iconst X 0 dX3_product_58 (by decide) (fun v19 _ hv19 => ?_)
            replace E := zLet_s (zcst hv19 (by decide)) E
            refine zg_cVv (As := [.int v18, .int v19]) (st := []) X hv15 rfl (by decide) rfl (t_X9_addStep l d L kd κ 2 _ hI v15 hv15 v18 v19 ) mk_X3_145 mc_X9_addStep mz_X9 mi_X9_addStep ml_X9_addStep (na := 2) ⟨md_X9.1, md_X9.2, by decide +kernel⟩ rfl ⟨by decide, by decide⟩ (Nat.le_of_ble_eq_true rfl) dX3_product_59 (fun s20 hq => ?_)
            obtain ⟨hF, hS2, hI⟩ := hq
            replace E := zLet_s hF E
            have hS := hS.tr hS2 rfl rfl
            refine zg_iinc X 1 (fun v21 => [(2, .int v21), (3, .int v12), (0, .ref a0), (1, .int p1)]) 1 dX3_product_62 rfl (by decide) (by decide) (by omega) (by omega) (fun _ => rfl) (fun v21 ev21 hv21 => ?_)
            replace E := zLet_s (zinc ev21 (by decide)) E
            refine zg_goto X 7 dX3_product_65 (by decide) ?_
            refine zg_sub [0, 2, 3] rfl ?_
            exact ihLp4 _ v21 hI hS E  (by omega) (by omega) 
          · skip
            replace E := zIf_t c17 E
            refine zg_iconst X 4 dX3_product_53 (by decide) (fun v22 _ hv22 => ?_)
            replace E := zLet_s (zcst hv22 (by decide)) E
            refine zg_goto X 58 dX3_product_54 (by decide) ?_
            refine zg_iconst X 0 dX3_product_58 (by decide) (fun v23 _ hv23 => ?_)
            replace E := zLet_s (zcst hv23 (by decide)) E
            refine zg_cVv (As := [.int v22, .int v23]) (st := []) X hv15 rfl (by decide) rfl (t_X9_addStep l d L kd κ 2 _ hI v15 hv15 v22 v23 ) mk_X3_145 mc_X9_addStep mz_X9 mi_X9_addStep ml_X9_addStep (na := 2) ⟨md_X9.1, md_X9.2, by decide +kernel⟩ rfl ⟨by decide, by decide⟩ (Nat.le_of_ble_eq_true rfl) dX3_product_59 (fun s24 hq => ?_)
            obtain ⟨hF, hS2, hI⟩ := hq
            replace E := zLet_s hF E
            have hS := hS.tr hS2 rfl rfl
            refine zg_iinc X 1 (fun v25 => [(2, .int v25), (3, .int v12), (0, .ref a0), (1, .int p1)]) 1 dX3_product_62 rfl (by decide) (by decide) (by omega) (by omega) (fun _ => rfl) (fun v25 ev25 hv25 => ?_)
            replace E := zLet_s (zinc ev25 (by decide)) E
            refine zg_goto X 7 dX3_product_65 (by decide) ?_
            refine zg_sub [0, 2, 3] rfl ?_
            exact ihLp4 _ v25 hI hS E  (by omega) (by omega) 
  refine zg_sub [0, 1, 2] rfl ?_
  exact Lp4 10000 _ v2 hI hS E  (by omega) (by omega) 
set_option maxHeartbeats 4000000 in
set_option maxRecDepth 100000 in
theorem t_X3_sum_o3 (l : Launch) (d : zD2) (L : List Nat) (kd : Nat → Nat) (κ : Int) (σ : zS) (hI : zI κ 2 L kd σ) (a0 : Nat) (ha0 : zT L kd a0 3) (p1 : Int32) (hq0 : p1.toInt = 3) : zMv l yX3_sum (Cond.code yX3_sum cX3_sum 4 none :: zWL) 13 [.ref a0, .int p1] d L kd σ (fun σ2 => σ2 = F_X3_sum_o3 a0 p1 σ ∧ zSm [3, 9, 49, 50] [] L kd σ σ2 ∧ (zI κ 2 L kd σ2)) := by
  refine zMv.of (own := RX3) (by decide +kernel) rfl rfl (Nat.le_of_ble_eq_true rfl) ?_
  intro p e s m args below meth c A Q X ret
  refine zg_lv (lv2 := [(0, .ref a0), (1, .int p1)]) rfl ?_
  obtain ⟨R, hR⟩ : ∃ R, R = F_X3_sum_o3 a0 p1 σ := ⟨_, rfl⟩
  have E := hR
  unfold F_X3_sum_o3 at E
  have hS : zSm [3, 9, 49, 50] [] L kd σ σ := zSm.rf
  refine zg_aload_n X 0 rfl dX3_sum_0 ?_
  refine zg_iload_n X 1 rfl dX3_sum_1 ?_
  refine zg_cVv (As := [.int p1]) (st := []) X ha0 rfl (by decide) rfl (t_X3_product_o3 l d L kd κ _ hI a0 ha0 p1 (by omega)) mk_X3_156 mc_X3_product mz_X3 mi_X3_product ml_X3_product (na := 1) ⟨md_X3.1, md_X3.2, by decide +kernel⟩ rfl ⟨by decide, by decide⟩ (Nat.le_of_ble_eq_true rfl) dX3_sum_2 (fun s1 hq => ?_)
  obtain ⟨hF, hS2, hI⟩ := hq
  replace E := zLet_s hF E
  have hS := hS.tr hS2 rfl rfl
  refine zg_iconst X 0 dX3_sum_5 (by decide) (fun v2 _ hv2 => ?_)
  replace E := zLet_s (zcst hv2 (by decide)) E
  refine zg_istore_n X [(2, .int v2), (0, .ref a0), (1, .int p1)] dX3_sum_6 (by decide) rfl ?_
  have Lp4 : ∀ (nLp4 : Nat) (τ4 : zS) (x3 : Int32), zI κ 2 L kd τ4 → zSm [3, 9, 49, 50] [] L kd σ τ4 → R = F_X3_sum_o3_7 a0 p1  nLp4 x3 τ4 → 0 ≤ x3.toInt ∧ x3.toInt ≤ 401 → (401) - x3.toInt + 1 < (nLp4 : Int) → zG d L kd A 4 p l e (k2_rm 13 (100 * 13)) s m args below meth c Q τ4 7 [(2, .int x3), (0, .ref a0), (1, .int p1)] [] := by
    intro nLp4
    induction nLp4 with
    | zero => intro τ4 x3 hI hS E  hxLp4 hm ; exact absurd hm (by omega)
    | succ nLp4 ihLp4 =>
      intro τ4 x3 hI hS E  hxLp4 hmLp4 
      rw [F_X3_sum_o3_7] at E
      refine zg_iload_n X 0 rfl dX3_sum_7 ?_
      refine zg_sipush X 400 dX3_sum_8 (by decide) (fun v5 _ hv5 => ?_)
      replace E := zLet_s (zcst hv5 (by decide)) E
      refine zg_icmp_gt X 68 dX3_sum_11 (by decide) (fun c6 => ?_) (fun c6 => ?_)
      · skip
        replace E := zIf_t c6 E
        exact ret _ _ _ dX3_sum_68 ⟨E.symm.trans hR, hS, hI⟩
      · skip
        replace E := zIf_f (Int.not_lt.mpr c6) E
        refine zg_aload_n X 1 rfl dX3_sum_14 ?_
        refine fg_X3_26 X hI ha0 dX3_sum_15 (fun v7 ev7 _ => ?_)
        replace E := zLet_s ev7 E
        refine zg_bipush X 26 dX3_sum_18 (by decide) (fun v8 _ hv8 => ?_)
        replace E := zLet_s (zcst hv8 (by decide)) E
        refine zg_bipush X 27 dX3_sum_20 (by decide) (fun v9 _ hv9 => ?_)
        replace E := zLet_s (zcst hv9 (by decide)) E
        refine zg_cSNi (As := [.int v7, .int v8, .int v9]) (st := []) X (t_X10_isWithin l d L kd _ v7 v8 v9 ) mk_X3_80 mc_X10_isWithin mz_X10 ms_X10_isWithin (na := 3) ⟨md_X10.1, md_X10.2, by decide +kernel⟩ rfl ⟨by decide, by decide⟩ (Nat.le_of_ble_eq_true rfl) dX3_sum_22 (fun v10 σ2 hq => ?_)
        obtain ⟨⟨hF, hv10⟩, rfl⟩ := hq
        replace E := zLet_s hF E
        refine zg_if_eq X 68 dX3_sum_25 (by decide) (fun c11 => ?_) (fun c11 => ?_)
        · skip
          replace E := zIf_t c11 E
          exact ret _ _ _ dX3_sum_68 ⟨E.symm.trans hR, hS, hI⟩
        · skip
          replace E := zIf_f c11 E
          refine zg_aload_n X 1 rfl dX3_sum_28 ?_
          refine fg_X3_26 X hI ha0 dX3_sum_29 (fun v12 ev12 _ => ?_)
          replace E := zLet_s ev12 E
          have mv12 : v12.toInt = v7.toInt := by rw [ev12, ← ev7]
          refine zg_istore_n X [(3, .int v12), (2, .int x3), (0, .ref a0), (1, .int p1)] dX3_sum_32 (by decide) rfl ?_
          refine zg_aload_n X 2 rfl dX3_sum_33 ?_
          refine zg_iload_n X 0 rfl dX3_sum_34 ?_
          refine zg_cVv (As := [.int v12]) (st := []) X ha0 rfl (by decide) rfl (t_X3_take l d L kd κ 2 _ hI a0 ha0 v12 ) mk_X3_87 mc_X3_take mz_X3 mi_X3_take ml_X3_take (na := 1) ⟨md_X3.1, md_X3.2, by decide +kernel⟩ rfl ⟨by decide, by decide⟩ (Nat.le_of_ble_eq_true rfl) dX3_sum_35 (fun s13 hq => ?_)
          obtain ⟨hF, hS2, hI⟩ := hq
          replace E := zLet_s hF E
          have hS := hS.tr hS2 rfl rfl
          refine zg_aload_n X 2 rfl dX3_sum_38 ?_
          refine zg_iload_n X 3 rfl dX3_sum_39 ?_
          refine zg_cVv (As := [.int p1]) (st := []) X ha0 rfl (by decide) rfl (t_X3_product_o3 l d L kd κ _ hI a0 ha0 p1 (by omega)) mk_X3_156 mc_X3_product mz_X3 mi_X3_product ml_X3_product (na := 1) ⟨md_X3.1, md_X3.2, by decide +kernel⟩ rfl ⟨by decide, by decide⟩ (Nat.le_of_ble_eq_true rfl) dX3_sum_40 (fun s14 hq => ?_)
          obtain ⟨hF, hS2, hI⟩ := hq
          replace E := zLet_s hF E
          have hS := hS.tr hS2 rfl rfl
          refine zg_aload_n X 2 rfl dX3_sum_43 ?_
          refine fg_X3_18 X hI ha0 dX3_sum_44 (fun v15 ev15 hv15 => ?_)
          replace E := zLet_s (zgr ev15) E
          refine zg_iload_n X 0 rfl dX3_sum_47 ?_
          refine zg_bipush X 26 dX3_sum_48 (by decide) (fun v16 _ hv16 => ?_)
          replace E := zLet_s (zcst hv16 (by decide)) E
          refine zg_icmp_ne X 57 dX3_sum_50 (by decide) (fun c17 => ?_) (fun c17 => ?_)
          · skip
            replace E := zIf_f c17 E
            refine zg_iconst X 3 dX3_sum_57 (by decide) (fun v18 _ hv18 => ?_)
            replace E := zLet_s (zcst hv18 (by decide)) E
            refine zg_iconst X 0 dX3_sum_58 (by decide) (fun v19 _ hv19 => ?_)
            replace E := zLet_s (zcst hv19 (by decide)) E
            refine zg_cVv (As := [.int v18, .int v19]) (st := []) X hv15 rfl (by decide) rfl (t_X9_addStep l d L kd κ 2 _ hI v15 hv15 v18 v19 ) mk_X3_145 mc_X9_addStep mz_X9 mi_X9_addStep ml_X9_addStep (na := 2) ⟨md_X9.1, md_X9.2, by decide +kernel⟩ rfl ⟨by decide, by decide⟩ (Nat.le_of_ble_eq_true rfl) dX3_sum_59 (fun s20 hq => ?_)
            obtain ⟨hF, hS2, hI⟩ := hq
            replace E := zLet_s hF E
            have hS := hS.tr hS2 rfl rfl
            refine zg_iinc X 1 (fun v21 => [(2, .int v21), (3, .int v12), (0, .ref a0), (1, .int p1)]) 1 dX3_sum_62 rfl (by decide) (by decide) (by omega) (by omega) (fun _ => rfl) (fun v21 ev21 hv21 => ?_)
            replace E := zLet_s (zinc ev21 (by decide)) E
            refine zg_goto X 7 dX3_sum_65 (by decide) ?_
            refine zg_sub [0, 2, 3] rfl ?_
            exact ihLp4 _ v21 hI hS E  (by omega) (by omega) 
          · skip
            replace E := zIf_t c17 E
            refine zg_iconst X 2 dX3_sum_53 (by decide) (fun v22 _ hv22 => ?_)
            replace E := zLet_s (zcst hv22 (by decide)) E
            refine zg_goto X 58 dX3_sum_54 (by decide) ?_
            refine zg_iconst X 0 dX3_sum_58 (by decide) (fun v23 _ hv23 => ?_)
            replace E := zLet_s (zcst hv23 (by decide)) E
            refine zg_cVv (As := [.int v22, .int v23]) (st := []) X hv15 rfl (by decide) rfl (t_X9_addStep l d L kd κ 2 _ hI v15 hv15 v22 v23 ) mk_X3_145 mc_X9_addStep mz_X9 mi_X9_addStep ml_X9_addStep (na := 2) ⟨md_X9.1, md_X9.2, by decide +kernel⟩ rfl ⟨by decide, by decide⟩ (Nat.le_of_ble_eq_true rfl) dX3_sum_59 (fun s24 hq => ?_)
            obtain ⟨hF, hS2, hI⟩ := hq
            replace E := zLet_s hF E
            have hS := hS.tr hS2 rfl rfl
            refine zg_iinc X 1 (fun v25 => [(2, .int v25), (3, .int v12), (0, .ref a0), (1, .int p1)]) 1 dX3_sum_62 rfl (by decide) (by decide) (by omega) (by omega) (fun _ => rfl) (fun v25 ev25 hv25 => ?_)
            replace E := zLet_s (zinc ev25 (by decide)) E
            refine zg_goto X 7 dX3_sum_65 (by decide) ?_
            refine zg_sub [0, 2, 3] rfl ?_
            exact ihLp4 _ v25 hI hS E  (by omega) (by omega) 
  refine zg_sub [0, 1, 2] rfl ?_
  exact Lp4 10000 _ v2 hI hS E  (by omega) (by omega) 
set_option maxHeartbeats 4000000 in
set_option maxRecDepth 100000 in
theorem t_X3_unit_o2 (l : Launch) (d : zD2) (L : List Nat) (kd : Nat → Nat) (κ : Int) (σ : zS) (hI : zI κ 2 L kd σ) (a0 : Nat) (ha0 : zT L kd a0 3) (p1 : Int32) (hq0 : p1.toInt = 2) : zMv l yX3_unit (Cond.code yX3_unit cX3_unit 2 none :: zWL) 14 [.ref a0, .int p1] d L kd σ (fun σ2 => σ2 = F_X3_unit_o2 a0 p1 σ ∧ zSm [3, 9, 49, 50] [] L kd σ σ2 ∧ (zI κ 2 L kd σ2)) := by
  refine zMv.of (own := RX3) (by decide +kernel) rfl rfl (Nat.le_of_ble_eq_true rfl) ?_
  intro p e s m args below meth c A Q X ret
  refine zg_lv (lv2 := [(0, .ref a0), (1, .int p1)]) rfl ?_
  obtain ⟨R, hR⟩ : ∃ R, R = F_X3_unit_o2 a0 p1 σ := ⟨_, rfl⟩
  have E := hR
  unfold F_X3_unit_o2 at E
  have hS : zSm [3, 9, 49, 50] [] L kd σ σ := zSm.rf
  refine zg_aload_n X 0 rfl dX3_unit_0 ?_
  refine fg_X3_26 X hI ha0 dX3_unit_1 (fun v1 ev1 _ => ?_)
  replace E := zLet_s ev1 E
  refine zg_bipush X 23 dX3_unit_4 (by decide) (fun v2 _ hv2 => ?_)
  replace E := zLet_s (zcst hv2 (by decide)) E
  refine zg_icmp_ne X 33 dX3_unit_6 (by decide) (fun c3 => ?_) (fun c3 => ?_)
  · skip
    replace E := zIf_f c3 E
    refine zg_aload_n X 0 rfl dX3_unit_33 ?_
    refine fg_X3_26 X hI ha0 dX3_unit_34 (fun v4 ev4 _ => ?_)
    replace E := zLet_s ev4 E
    have mv4 : v4.toInt = v1.toInt := by rw [ev4, ← ev1]
    refine zg_bipush X 13 dX3_unit_37 (by decide) (fun v5 _ hv5 => ?_)
    replace E := zLet_s (zcst hv5 (by decide)) E
    have zv4_z6 := zb_rng v4
    refine zg_icmp_lt X 77 dX3_unit_39 (by decide) (fun c7 => ?_) (fun c7 => ?_)
    · skip
      replace E := zIf_t c7 E
      refine zg_aload_n X 0 rfl dX3_unit_77 ?_
      refine fg_X3_26 X hI ha0 dX3_unit_78 (fun v8 ev8 _ => ?_)
      replace E := zLet_s ev8 E
      have mv8 : v8.toInt = v4.toInt := by rw [ev8, ← ev4]
      refine zg_bipush X 31 dX3_unit_81 (by decide) (fun v9 _ hv9 => ?_)
      replace E := zLet_s (zcst hv9 (by decide)) E
      refine zg_icmp_ne X 116 dX3_unit_83 (by decide) (fun c10 => ?_) (fun c10 => ?_)
      · skip
        replace E := zIf_f c10 E
        refine zg_aload_n X 0 rfl dX3_unit_116 ?_
        refine zg_aload_n X 0 rfl dX3_unit_117 ?_
        refine fg_X3_26 X hI ha0 dX3_unit_118 (fun v11 ev11 _ => ?_)
        replace E := zLet_s ev11 E
        have mv11 : v11.toInt = v8.toInt := by rw [ev11, ← ev8]
        refine zg_bipush X 31 dX3_unit_121 (by decide) (fun v12 _ hv12 => ?_)
        replace E := zLet_s (zcst hv12 (by decide)) E
        refine zg_icmp_ne X 130 dX3_unit_123 (by decide) (fun c13 => ?_) (fun c13 => ?_)
        · skip
          replace E := zIf_f c13 E
          refine zg_iconst X 1 dX3_unit_130 (by decide) (fun v14 _ hv14 => ?_)
          replace E := zLet_s (zcst hv14 (by decide)) E
          refine zg_cVv (As := [.int v14]) (st := []) X ha0 rfl (by decide) rfl (t_X3_fail l d L kd κ 2 _ hI a0 ha0 v14 ) mk_X3_106 mc_X3_fail mz_X3 mi_X3_fail ml_X3_fail (na := 1) ⟨md_X3.1, md_X3.2, by decide +kernel⟩ rfl ⟨by decide, by decide⟩ (Nat.le_of_ble_eq_true rfl) dX3_unit_131 (fun s15 hq => ?_)
          obtain ⟨hF, hS2, hI⟩ := hq
          replace E := zLet_s hF E
          have hS := hS.tr hS2 rfl rfl
          exact ret _ _ _ dX3_unit_134 ⟨E.symm.trans hR, hS, hI⟩
        · omega
      · omega
    · skip
      replace E := zIf_f (Int.not_lt.mpr c7) E
      refine zg_aload_n X 0 rfl dX3_unit_42 ?_
      refine fg_X3_26 X hI ha0 dX3_unit_43 (fun v16 ev16 _ => ?_)
      replace E := zLet_s ev16 E
      have mv16 : v16.toInt = v4.toInt := by rw [ev16, ← ev4]
      refine zg_bipush X 22 dX3_unit_46 (by decide) (fun v17 _ hv17 => ?_)
      replace E := zLet_s (zcst hv17 (by decide)) E
      have zv16_z18 := zb_rng v16
      refine zg_icmp_ge X 77 dX3_unit_48 (by decide) (fun c19 => ?_) (fun c19 => ?_)
      · skip
        replace E := zIf_f (Int.not_lt.mpr c19) E
        refine zg_aload_n X 0 rfl dX3_unit_77 ?_
        refine fg_X3_26 X hI ha0 dX3_unit_78 (fun v20 ev20 _ => ?_)
        replace E := zLet_s ev20 E
        have mv20 : v20.toInt = v16.toInt := by rw [ev20, ← ev16]
        refine zg_bipush X 31 dX3_unit_81 (by decide) (fun v21 _ hv21 => ?_)
        replace E := zLet_s (zcst hv21 (by decide)) E
        refine zg_icmp_ne X 116 dX3_unit_83 (by decide) (fun c22 => ?_) (fun c22 => ?_)
        · skip
          replace E := zIf_f c22 E
          refine zg_aload_n X 0 rfl dX3_unit_116 ?_
          refine zg_aload_n X 0 rfl dX3_unit_117 ?_
          refine fg_X3_26 X hI ha0 dX3_unit_118 (fun v23 ev23 _ => ?_)
          replace E := zLet_s ev23 E
          have mv23 : v23.toInt = v20.toInt := by rw [ev23, ← ev20]
          refine zg_bipush X 31 dX3_unit_121 (by decide) (fun v24 _ hv24 => ?_)
          replace E := zLet_s (zcst hv24 (by decide)) E
          refine zg_icmp_ne X 130 dX3_unit_123 (by decide) (fun c25 => ?_) (fun c25 => ?_)
          · skip
            replace E := zIf_f c25 E
            refine zg_iconst X 1 dX3_unit_130 (by decide) (fun v26 _ hv26 => ?_)
            replace E := zLet_s (zcst hv26 (by decide)) E
            refine zg_cVv (As := [.int v26]) (st := []) X ha0 rfl (by decide) rfl (t_X3_fail l d L kd κ 2 _ hI a0 ha0 v26 ) mk_X3_106 mc_X3_fail mz_X3 mi_X3_fail ml_X3_fail (na := 1) ⟨md_X3.1, md_X3.2, by decide +kernel⟩ rfl ⟨by decide, by decide⟩ (Nat.le_of_ble_eq_true rfl) dX3_unit_131 (fun s27 hq => ?_)
            obtain ⟨hF, hS2, hI⟩ := hq
            replace E := zLet_s hF E
            have hS := hS.tr hS2 rfl rfl
            exact ret _ _ _ dX3_unit_134 ⟨E.symm.trans hR, hS, hI⟩
          · skip
            replace E := zIf_t c25 E
            refine zg_iconst X 2 dX3_unit_126 (by decide) (fun v28 _ hv28 => ?_)
            replace E := zLet_s (zcst hv28 (by decide)) E
            refine zg_goto X 131 dX3_unit_127 (by decide) ?_
            refine zg_cVv (As := [.int v28]) (st := []) X ha0 rfl (by decide) rfl (t_X3_fail l d L kd κ 2 _ hI a0 ha0 v28 ) mk_X3_106 mc_X3_fail mz_X3 mi_X3_fail ml_X3_fail (na := 1) ⟨md_X3.1, md_X3.2, by decide +kernel⟩ rfl ⟨by decide, by decide⟩ (Nat.le_of_ble_eq_true rfl) dX3_unit_131 (fun s29 hq => ?_)
            obtain ⟨hF, hS2, hI⟩ := hq
            replace E := zLet_s hF E
            have hS := hS.tr hS2 rfl rfl
            exact ret _ _ _ dX3_unit_134 ⟨E.symm.trans hR, hS, hI⟩
        · skip
          replace E := zIf_t c22 E
          refine zg_iload_n X 1 rfl dX3_unit_86 ?_
          refine zg_bipush X 6 dX3_unit_87 (by decide) (fun v30 _ hv30 => ?_)
          replace E := zLet_s (zcst hv30 (by decide)) E
          refine zg_icmp_ge X 116 dX3_unit_89 (by decide) (fun c31 => ?_) (fun c31 => ?_)
          · omega
          · skip
            replace E := zIf_t c31 E
            refine zg_aload_n X 0 rfl dX3_unit_92 ?_
            refine zg_aload_n X 0 rfl dX3_unit_93 ?_
            refine fg_X3_26 X hI ha0 dX3_unit_94 (fun v32 ev32 _ => ?_)
            replace E := zLet_s ev32 E
            have mv32 : v32.toInt = v20.toInt := by rw [ev32, ← ev20]
            refine zg_cVv (As := [.int v32]) (st := []) X ha0 rfl (by decide) rfl (t_X3_take l d L kd κ 2 _ hI a0 ha0 v32 ) mk_X3_87 mc_X3_take mz_X3 mi_X3_take ml_X3_take (na := 1) ⟨md_X3.1, md_X3.2, by decide +kernel⟩ rfl ⟨by decide, by decide⟩ (Nat.le_of_ble_eq_true rfl) dX3_unit_97 (fun s33 hq => ?_)
            obtain ⟨hF, hS2, hI⟩ := hq
            replace E := zLet_s hF E
            have hS := hS.tr hS2 rfl rfl
            refine zg_aload_n X 0 rfl dX3_unit_100 ?_
            refine zg_iload_n X 1 rfl dX3_unit_101 ?_
            refine zg_iconst X 1 dX3_unit_102 (by decide) (fun v34 _ hv34 => ?_)
            replace E := zLet_s (zcst hv34 (by decide)) E
            refine zg_iadd X dX3_unit_103 (by omega) (by omega) (fun v35 ev35 hv35 => ?_)
            replace E := zLet_s ev35 E
            refine zg_cVv (As := [.int v35]) (st := []) X ha0 rfl (by decide) rfl (t_X3_sum_o3 l d L kd κ _ hI a0 ha0 v35 (by omega)) mk_X3_140 mc_X3_sum mz_X3 mi_X3_sum ml_X3_sum (na := 1) ⟨md_X3.1, md_X3.2, by decide +kernel⟩ rfl ⟨by decide, by decide⟩ (Nat.le_of_ble_eq_true rfl) dX3_unit_104 (fun s36 hq => ?_)
            obtain ⟨hF, hS2, hI⟩ := hq
            replace E := zLet_s hF E
            have hS := hS.tr hS2 rfl rfl
            refine zg_aload_n X 0 rfl dX3_unit_107 ?_
            refine zg_bipush X 32 dX3_unit_108 (by decide) (fun v37 _ hv37 => ?_)
            replace E := zLet_s (zcst hv37 (by decide)) E
            refine zg_cVv (As := [.int v37]) (st := []) X ha0 rfl (by decide) rfl (t_X3_take l d L kd κ 2 _ hI a0 ha0 v37 ) mk_X3_87 mc_X3_take mz_X3 mi_X3_take ml_X3_take (na := 1) ⟨md_X3.1, md_X3.2, by decide +kernel⟩ rfl ⟨by decide, by decide⟩ (Nat.le_of_ble_eq_true rfl) dX3_unit_110 (fun s38 hq => ?_)
            obtain ⟨hF, hS2, hI⟩ := hq
            replace E := zLet_s hF E
            have hS := hS.tr hS2 rfl rfl
            refine zg_goto X 134 dX3_unit_113 (by decide) ?_
            exact ret _ _ _ dX3_unit_134 ⟨E.symm.trans hR, hS, hI⟩
      · skip
        replace E := zIf_t c19 E
        refine zg_aload_n X 0 rfl dX3_unit_51 ?_
        refine fg_X3_18 X hI ha0 dX3_unit_52 (fun v39 ev39 hv39 => ?_)
        replace E := zLet_s (zgr ev39) E
        refine zg_iconst X 1 dX3_unit_55 (by decide) (fun v40 _ hv40 => ?_)
        replace E := zLet_s (zcst hv40 (by decide)) E
        refine zg_aload_n X 0 rfl dX3_unit_56 ?_
        refine fg_X3_26 X hI ha0 dX3_unit_57 (fun v41 ev41 _ => ?_)
        replace E := zLet_s ev41 E
        have mv41 : v41.toInt = v16.toInt := by rw [ev41, ← ev16]
        refine zg_bipush X 13 dX3_unit_60 (by decide) (fun v42 _ hv42 => ?_)
        replace E := zLet_s (zcst hv42 (by decide)) E
        refine zg_isub X dX3_unit_62 (by omega) (by omega) (fun v43 ev43 hv43 => ?_)
        replace E := zLet_s ev43 E
        refine zg_cVv (As := [.int v40, .int v43]) (st := []) X hv39 rfl (by decide) rfl (t_X9_addStep l d L kd κ 2 _ hI v39 hv39 v40 v43 ) mk_X3_145 mc_X9_addStep mz_X9 mi_X9_addStep ml_X9_addStep (na := 2) ⟨md_X9.1, md_X9.2, by decide +kernel⟩ rfl ⟨by decide, by decide⟩ (Nat.le_of_ble_eq_true rfl) dX3_unit_63 (fun s44 hq => ?_)
        obtain ⟨hF, hS2, hI⟩ := hq
        replace E := zLet_s hF E
        have hS := hS.tr hS2 rfl rfl
        refine zg_aload_n X 0 rfl dX3_unit_66 ?_
        refine zg_aload_n X 0 rfl dX3_unit_67 ?_
        refine fg_X3_26 X hI ha0 dX3_unit_68 (fun v45 ev45 _ => ?_)
        replace E := zLet_s ev45 E
        refine zg_cVv (As := [.int v45]) (st := []) X ha0 rfl (by decide) rfl (t_X3_take l d L kd κ 2 _ hI a0 ha0 v45 ) mk_X3_87 mc_X3_take mz_X3 mi_X3_take ml_X3_take (na := 1) ⟨md_X3.1, md_X3.2, by decide +kernel⟩ rfl ⟨by decide, by decide⟩ (Nat.le_of_ble_eq_true rfl) dX3_unit_71 (fun s46 hq => ?_)
        obtain ⟨hF, hS2, hI⟩ := hq
        replace E := zLet_s hF E
        have hS := hS.tr hS2 rfl rfl
        refine zg_goto X 134 dX3_unit_74 (by decide) ?_
        exact ret _ _ _ dX3_unit_134 ⟨E.symm.trans hR, hS, hI⟩
  · skip
    replace E := zIf_t c3 E
    refine zg_aload_n X 0 rfl dX3_unit_9 ?_
    refine fg_X3_18 X hI ha0 dX3_unit_10 (fun v47 ev47 hv47 => ?_)
    replace E := zLet_s (zgr ev47) E
    refine zg_iconst X 0 dX3_unit_13 (by decide) (fun v48 _ hv48 => ?_)
    replace E := zLet_s (zcst hv48 (by decide)) E
    refine zg_aload_n X 0 rfl dX3_unit_14 ?_
    refine fg_X3_29 X ha0 dX3_unit_15 (fun v49 ev49 => ?_)
    replace E := zLet_s ev49 E
    refine zg_l2i X dX3_unit_18 (fun v50 ev50 => ?_)
    replace E := zLet_s ev50 E
    refine zg_cVv (As := [.int v48, .int v50]) (st := []) X hv47 rfl (by decide) rfl (t_X9_addStep l d L kd κ 2 _ hI v47 hv47 v48 v50 ) mk_X3_145 mc_X9_addStep mz_X9 mi_X9_addStep ml_X9_addStep (na := 2) ⟨md_X9.1, md_X9.2, by decide +kernel⟩ rfl ⟨by decide, by decide⟩ (Nat.le_of_ble_eq_true rfl) dX3_unit_19 (fun s51 hq => ?_)
    obtain ⟨hF, hS2, hI⟩ := hq
    replace E := zLet_s hF E
    have hS := hS.tr hS2 rfl rfl
    refine zg_aload_n X 0 rfl dX3_unit_22 ?_
    refine zg_aload_n X 0 rfl dX3_unit_23 ?_
    refine fg_X3_26 X hI ha0 dX3_unit_24 (fun v52 ev52 _ => ?_)
    replace E := zLet_s ev52 E
    refine zg_cVv (As := [.int v52]) (st := []) X ha0 rfl (by decide) rfl (t_X3_take l d L kd κ 2 _ hI a0 ha0 v52 ) mk_X3_87 mc_X3_take mz_X3 mi_X3_take ml_X3_take (na := 1) ⟨md_X3.1, md_X3.2, by decide +kernel⟩ rfl ⟨by decide, by decide⟩ (Nat.le_of_ble_eq_true rfl) dX3_unit_27 (fun s53 hq => ?_)
    obtain ⟨hF, hS2, hI⟩ := hq
    replace E := zLet_s hF E
    have hS := hS.tr hS2 rfl rfl
    refine zg_goto X 134 dX3_unit_30 (by decide) ?_
    exact ret _ _ _ dX3_unit_134 ⟨E.symm.trans hR, hS, hI⟩
set_option maxHeartbeats 4000000 in
set_option maxRecDepth 100000 in
theorem t_X3_product_o2 (l : Launch) (d : zD2) (L : List Nat) (kd : Nat → Nat) (κ : Int) (σ : zS) (hI : zI κ 2 L kd σ) (a0 : Nat) (ha0 : zT L kd a0 3) (p1 : Int32) (hq0 : p1.toInt = 2) : zMv l yX3_product (Cond.code yX3_product cX3_product 4 none :: zWL) 15 [.ref a0, .int p1] d L kd σ (fun σ2 => σ2 = F_X3_product_o2 a0 p1 σ ∧ zSm [3, 9, 49, 50] [] L kd σ σ2 ∧ (zI κ 2 L kd σ2)) := by
  refine zMv.of (own := RX3) (by decide +kernel) rfl rfl (Nat.le_of_ble_eq_true rfl) ?_
  intro p e s m args below meth c A Q X ret
  refine zg_lv (lv2 := [(0, .ref a0), (1, .int p1)]) rfl ?_
  obtain ⟨R, hR⟩ : ∃ R, R = F_X3_product_o2 a0 p1 σ := ⟨_, rfl⟩
  have E := hR
  unfold F_X3_product_o2 at E
  have hS : zSm [3, 9, 49, 50] [] L kd σ σ := zSm.rf
  refine zg_aload_n X 0 rfl dX3_product_0 ?_
  refine zg_iload_n X 1 rfl dX3_product_1 ?_
  refine zg_cVv (As := [.int p1]) (st := []) X ha0 rfl (by decide) rfl (t_X3_unit_o2 l d L kd κ _ hI a0 ha0 p1 (by omega)) mk_X3_159 mc_X3_unit mz_X3 mi_X3_unit ml_X3_unit (na := 1) ⟨md_X3.1, md_X3.2, by decide +kernel⟩ rfl ⟨by decide, by decide⟩ (Nat.le_of_ble_eq_true rfl) dX3_product_2 (fun s1 hq => ?_)
  obtain ⟨hF, hS2, hI⟩ := hq
  replace E := zLet_s hF E
  have hS := hS.tr hS2 rfl rfl
  refine zg_iconst X 0 dX3_product_5 (by decide) (fun v2 _ hv2 => ?_)
  replace E := zLet_s (zcst hv2 (by decide)) E
  refine zg_istore_n X [(2, .int v2), (0, .ref a0), (1, .int p1)] dX3_product_6 (by decide) rfl ?_
  have Lp4 : ∀ (nLp4 : Nat) (τ4 : zS) (x3 : Int32), zI κ 2 L kd τ4 → zSm [3, 9, 49, 50] [] L kd σ τ4 → R = F_X3_product_o2_7 a0 p1  nLp4 x3 τ4 → 0 ≤ x3.toInt ∧ x3.toInt ≤ 401 → (401) - x3.toInt + 1 < (nLp4 : Int) → zG d L kd A 4 p l e (k2_rm 15 (100 * 15)) s m args below meth c Q τ4 7 [(2, .int x3), (0, .ref a0), (1, .int p1)] [] := by
    intro nLp4
    induction nLp4 with
    | zero => intro τ4 x3 hI hS E  hxLp4 hm ; exact absurd hm (by omega)
    | succ nLp4 ihLp4 =>
      intro τ4 x3 hI hS E  hxLp4 hmLp4 
      rw [F_X3_product_o2_7] at E
      refine zg_iload_n X 0 rfl dX3_product_7 ?_
      refine zg_sipush X 400 dX3_product_8 (by decide) (fun v5 _ hv5 => ?_)
      replace E := zLet_s (zcst hv5 (by decide)) E
      refine zg_icmp_gt X 68 dX3_product_11 (by decide) (fun c6 => ?_) (fun c6 => ?_)
      · skip
        replace E := zIf_t c6 E
        exact ret _ _ _ dX3_product_68 ⟨E.symm.trans hR, hS, hI⟩
      · skip
        replace E := zIf_f (Int.not_lt.mpr c6) E
        refine zg_aload_n X 1 rfl dX3_product_14 ?_
        refine fg_X3_26 X hI ha0 dX3_product_15 (fun v7 ev7 _ => ?_)
        replace E := zLet_s ev7 E
        refine zg_bipush X 28 dX3_product_18 (by decide) (fun v8 _ hv8 => ?_)
        replace E := zLet_s (zcst hv8 (by decide)) E
        refine zg_bipush X 29 dX3_product_20 (by decide) (fun v9 _ hv9 => ?_)
        replace E := zLet_s (zcst hv9 (by decide)) E
        refine zg_cSNi (As := [.int v7, .int v8, .int v9]) (st := []) X (t_X10_isWithin l d L kd _ v7 v8 v9 ) mk_X3_80 mc_X10_isWithin mz_X10 ms_X10_isWithin (na := 3) ⟨md_X10.1, md_X10.2, by decide +kernel⟩ rfl ⟨by decide, by decide⟩ (Nat.le_of_ble_eq_true rfl) dX3_product_22 (fun v10 σ2 hq => ?_)
        obtain ⟨⟨hF, hv10⟩, rfl⟩ := hq
        replace E := zLet_s hF E
        refine zg_if_eq X 68 dX3_product_25 (by decide) (fun c11 => ?_) (fun c11 => ?_)
        · skip
          replace E := zIf_t c11 E
          exact ret _ _ _ dX3_product_68 ⟨E.symm.trans hR, hS, hI⟩
        · skip
          replace E := zIf_f c11 E
          refine zg_aload_n X 1 rfl dX3_product_28 ?_
          refine fg_X3_26 X hI ha0 dX3_product_29 (fun v12 ev12 _ => ?_)
          replace E := zLet_s ev12 E
          have mv12 : v12.toInt = v7.toInt := by rw [ev12, ← ev7]
          refine zg_istore_n X [(3, .int v12), (2, .int x3), (0, .ref a0), (1, .int p1)] dX3_product_32 (by decide) rfl ?_
          refine zg_aload_n X 2 rfl dX3_product_33 ?_
          refine zg_iload_n X 0 rfl dX3_product_34 ?_
          refine zg_cVv (As := [.int v12]) (st := []) X ha0 rfl (by decide) rfl (t_X3_take l d L kd κ 2 _ hI a0 ha0 v12 ) mk_X3_87 mc_X3_take mz_X3 mi_X3_take ml_X3_take (na := 1) ⟨md_X3.1, md_X3.2, by decide +kernel⟩ rfl ⟨by decide, by decide⟩ (Nat.le_of_ble_eq_true rfl) dX3_product_35 (fun s13 hq => ?_)
          obtain ⟨hF, hS2, hI⟩ := hq
          replace E := zLet_s hF E
          have hS := hS.tr hS2 rfl rfl
          refine zg_aload_n X 2 rfl dX3_product_38 ?_
          refine zg_iload_n X 3 rfl dX3_product_39 ?_
          refine zg_cVv (As := [.int p1]) (st := []) X ha0 rfl (by decide) rfl (t_X3_unit_o2 l d L kd κ _ hI a0 ha0 p1 (by omega)) mk_X3_159 mc_X3_unit mz_X3 mi_X3_unit ml_X3_unit (na := 1) ⟨md_X3.1, md_X3.2, by decide +kernel⟩ rfl ⟨by decide, by decide⟩ (Nat.le_of_ble_eq_true rfl) dX3_product_40 (fun s14 hq => ?_)
          obtain ⟨hF, hS2, hI⟩ := hq
          replace E := zLet_s hF E
          have hS := hS.tr hS2 rfl rfl
          refine zg_aload_n X 2 rfl dX3_product_43 ?_
          refine fg_X3_18 X hI ha0 dX3_product_44 (fun v15 ev15 hv15 => ?_)
          replace E := zLet_s (zgr ev15) E
          refine zg_iload_n X 0 rfl dX3_product_47 ?_
          refine zg_bipush X 28 dX3_product_48 (by decide) (fun v16 _ hv16 => ?_)
          replace E := zLet_s (zcst hv16 (by decide)) E
          refine zg_icmp_ne X 57 dX3_product_50 (by decide) (fun c17 => ?_) (fun c17 => ?_)
          · skip
            replace E := zIf_f c17 E
            refine zg_iconst X 5 dX3_product_57 (by decide) (fun v18 _ hv18 => ?_)
            replace E := zLet_s (zcst hv18 (by decide)) E
            refine zg_iconst X 0 dX3_product_58 (by decide) (fun v19 _ hv19 => ?_)
            replace E := zLet_s (zcst hv19 (by decide)) E
            refine zg_cVv (As := [.int v18, .int v19]) (st := []) X hv15 rfl (by decide) rfl (t_X9_addStep l d L kd κ 2 _ hI v15 hv15 v18 v19 ) mk_X3_145 mc_X9_addStep mz_X9 mi_X9_addStep ml_X9_addStep (na := 2) ⟨md_X9.1, md_X9.2, by decide +kernel⟩ rfl ⟨by decide, by decide⟩ (Nat.le_of_ble_eq_true rfl) dX3_product_59 (fun s20 hq => ?_)
            obtain ⟨hF, hS2, hI⟩ := hq
            replace E := zLet_s hF E
            have hS := hS.tr hS2 rfl rfl
            refine zg_iinc X 1 (fun v21 => [(2, .int v21), (3, .int v12), (0, .ref a0), (1, .int p1)]) 1 dX3_product_62 rfl (by decide) (by decide) (by omega) (by omega) (fun _ => rfl) (fun v21 ev21 hv21 => ?_)
            replace E := zLet_s (zinc ev21 (by decide)) E
            refine zg_goto X 7 dX3_product_65 (by decide) ?_
            refine zg_sub [0, 2, 3] rfl ?_
            exact ihLp4 _ v21 hI hS E  (by omega) (by omega) 
          · skip
            replace E := zIf_t c17 E
            refine zg_iconst X 4 dX3_product_53 (by decide) (fun v22 _ hv22 => ?_)
            replace E := zLet_s (zcst hv22 (by decide)) E
            refine zg_goto X 58 dX3_product_54 (by decide) ?_
            refine zg_iconst X 0 dX3_product_58 (by decide) (fun v23 _ hv23 => ?_)
            replace E := zLet_s (zcst hv23 (by decide)) E
            refine zg_cVv (As := [.int v22, .int v23]) (st := []) X hv15 rfl (by decide) rfl (t_X9_addStep l d L kd κ 2 _ hI v15 hv15 v22 v23 ) mk_X3_145 mc_X9_addStep mz_X9 mi_X9_addStep ml_X9_addStep (na := 2) ⟨md_X9.1, md_X9.2, by decide +kernel⟩ rfl ⟨by decide, by decide⟩ (Nat.le_of_ble_eq_true rfl) dX3_product_59 (fun s24 hq => ?_)
            obtain ⟨hF, hS2, hI⟩ := hq
            replace E := zLet_s hF E
            have hS := hS.tr hS2 rfl rfl
            refine zg_iinc X 1 (fun v25 => [(2, .int v25), (3, .int v12), (0, .ref a0), (1, .int p1)]) 1 dX3_product_62 rfl (by decide) (by decide) (by omega) (by omega) (fun _ => rfl) (fun v25 ev25 hv25 => ?_)
            replace E := zLet_s (zinc ev25 (by decide)) E
            refine zg_goto X 7 dX3_product_65 (by decide) ?_
            refine zg_sub [0, 2, 3] rfl ?_
            exact ihLp4 _ v25 hI hS E  (by omega) (by omega) 
  refine zg_sub [0, 1, 2] rfl ?_
  exact Lp4 10000 _ v2 hI hS E  (by omega) (by omega) 
set_option maxHeartbeats 4000000 in
set_option maxRecDepth 100000 in
theorem t_X3_sum_o2 (l : Launch) (d : zD2) (L : List Nat) (kd : Nat → Nat) (κ : Int) (σ : zS) (hI : zI κ 2 L kd σ) (a0 : Nat) (ha0 : zT L kd a0 3) (p1 : Int32) (hq0 : p1.toInt = 2) : zMv l yX3_sum (Cond.code yX3_sum cX3_sum 4 none :: zWL) 16 [.ref a0, .int p1] d L kd σ (fun σ2 => σ2 = F_X3_sum_o2 a0 p1 σ ∧ zSm [3, 9, 49, 50] [] L kd σ σ2 ∧ (zI κ 2 L kd σ2)) := by
  refine zMv.of (own := RX3) (by decide +kernel) rfl rfl (Nat.le_of_ble_eq_true rfl) ?_
  intro p e s m args below meth c A Q X ret
  refine zg_lv (lv2 := [(0, .ref a0), (1, .int p1)]) rfl ?_
  obtain ⟨R, hR⟩ : ∃ R, R = F_X3_sum_o2 a0 p1 σ := ⟨_, rfl⟩
  have E := hR
  unfold F_X3_sum_o2 at E
  have hS : zSm [3, 9, 49, 50] [] L kd σ σ := zSm.rf
  refine zg_aload_n X 0 rfl dX3_sum_0 ?_
  refine zg_iload_n X 1 rfl dX3_sum_1 ?_
  refine zg_cVv (As := [.int p1]) (st := []) X ha0 rfl (by decide) rfl (t_X3_product_o2 l d L kd κ _ hI a0 ha0 p1 (by omega)) mk_X3_156 mc_X3_product mz_X3 mi_X3_product ml_X3_product (na := 1) ⟨md_X3.1, md_X3.2, by decide +kernel⟩ rfl ⟨by decide, by decide⟩ (Nat.le_of_ble_eq_true rfl) dX3_sum_2 (fun s1 hq => ?_)
  obtain ⟨hF, hS2, hI⟩ := hq
  replace E := zLet_s hF E
  have hS := hS.tr hS2 rfl rfl
  refine zg_iconst X 0 dX3_sum_5 (by decide) (fun v2 _ hv2 => ?_)
  replace E := zLet_s (zcst hv2 (by decide)) E
  refine zg_istore_n X [(2, .int v2), (0, .ref a0), (1, .int p1)] dX3_sum_6 (by decide) rfl ?_
  have Lp4 : ∀ (nLp4 : Nat) (τ4 : zS) (x3 : Int32), zI κ 2 L kd τ4 → zSm [3, 9, 49, 50] [] L kd σ τ4 → R = F_X3_sum_o2_7 a0 p1  nLp4 x3 τ4 → 0 ≤ x3.toInt ∧ x3.toInt ≤ 401 → (401) - x3.toInt + 1 < (nLp4 : Int) → zG d L kd A 4 p l e (k2_rm 16 (100 * 16)) s m args below meth c Q τ4 7 [(2, .int x3), (0, .ref a0), (1, .int p1)] [] := by
    intro nLp4
    induction nLp4 with
    | zero => intro τ4 x3 hI hS E  hxLp4 hm ; exact absurd hm (by omega)
    | succ nLp4 ihLp4 =>
      intro τ4 x3 hI hS E  hxLp4 hmLp4 
      rw [F_X3_sum_o2_7] at E
      refine zg_iload_n X 0 rfl dX3_sum_7 ?_
      refine zg_sipush X 400 dX3_sum_8 (by decide) (fun v5 _ hv5 => ?_)
      replace E := zLet_s (zcst hv5 (by decide)) E
      refine zg_icmp_gt X 68 dX3_sum_11 (by decide) (fun c6 => ?_) (fun c6 => ?_)
      · skip
        replace E := zIf_t c6 E
        exact ret _ _ _ dX3_sum_68 ⟨E.symm.trans hR, hS, hI⟩
      · skip
        replace E := zIf_f (Int.not_lt.mpr c6) E
        refine zg_aload_n X 1 rfl dX3_sum_14 ?_
        refine fg_X3_26 X hI ha0 dX3_sum_15 (fun v7 ev7 _ => ?_)
        replace E := zLet_s ev7 E
        refine zg_bipush X 26 dX3_sum_18 (by decide) (fun v8 _ hv8 => ?_)
        replace E := zLet_s (zcst hv8 (by decide)) E
        refine zg_bipush X 27 dX3_sum_20 (by decide) (fun v9 _ hv9 => ?_)
        replace E := zLet_s (zcst hv9 (by decide)) E
        refine zg_cSNi (As := [.int v7, .int v8, .int v9]) (st := []) X (t_X10_isWithin l d L kd _ v7 v8 v9 ) mk_X3_80 mc_X10_isWithin mz_X10 ms_X10_isWithin (na := 3) ⟨md_X10.1, md_X10.2, by decide +kernel⟩ rfl ⟨by decide, by decide⟩ (Nat.le_of_ble_eq_true rfl) dX3_sum_22 (fun v10 σ2 hq => ?_)
        obtain ⟨⟨hF, hv10⟩, rfl⟩ := hq
        replace E := zLet_s hF E
        refine zg_if_eq X 68 dX3_sum_25 (by decide) (fun c11 => ?_) (fun c11 => ?_)
        · skip
          replace E := zIf_t c11 E
          exact ret _ _ _ dX3_sum_68 ⟨E.symm.trans hR, hS, hI⟩
        · skip
          replace E := zIf_f c11 E
          refine zg_aload_n X 1 rfl dX3_sum_28 ?_
          refine fg_X3_26 X hI ha0 dX3_sum_29 (fun v12 ev12 _ => ?_)
          replace E := zLet_s ev12 E
          have mv12 : v12.toInt = v7.toInt := by rw [ev12, ← ev7]
          refine zg_istore_n X [(3, .int v12), (2, .int x3), (0, .ref a0), (1, .int p1)] dX3_sum_32 (by decide) rfl ?_
          refine zg_aload_n X 2 rfl dX3_sum_33 ?_
          refine zg_iload_n X 0 rfl dX3_sum_34 ?_
          refine zg_cVv (As := [.int v12]) (st := []) X ha0 rfl (by decide) rfl (t_X3_take l d L kd κ 2 _ hI a0 ha0 v12 ) mk_X3_87 mc_X3_take mz_X3 mi_X3_take ml_X3_take (na := 1) ⟨md_X3.1, md_X3.2, by decide +kernel⟩ rfl ⟨by decide, by decide⟩ (Nat.le_of_ble_eq_true rfl) dX3_sum_35 (fun s13 hq => ?_)
          obtain ⟨hF, hS2, hI⟩ := hq
          replace E := zLet_s hF E
          have hS := hS.tr hS2 rfl rfl
          refine zg_aload_n X 2 rfl dX3_sum_38 ?_
          refine zg_iload_n X 3 rfl dX3_sum_39 ?_
          refine zg_cVv (As := [.int p1]) (st := []) X ha0 rfl (by decide) rfl (t_X3_product_o2 l d L kd κ _ hI a0 ha0 p1 (by omega)) mk_X3_156 mc_X3_product mz_X3 mi_X3_product ml_X3_product (na := 1) ⟨md_X3.1, md_X3.2, by decide +kernel⟩ rfl ⟨by decide, by decide⟩ (Nat.le_of_ble_eq_true rfl) dX3_sum_40 (fun s14 hq => ?_)
          obtain ⟨hF, hS2, hI⟩ := hq
          replace E := zLet_s hF E
          have hS := hS.tr hS2 rfl rfl
          refine zg_aload_n X 2 rfl dX3_sum_43 ?_
          refine fg_X3_18 X hI ha0 dX3_sum_44 (fun v15 ev15 hv15 => ?_)
          replace E := zLet_s (zgr ev15) E
          refine zg_iload_n X 0 rfl dX3_sum_47 ?_
          refine zg_bipush X 26 dX3_sum_48 (by decide) (fun v16 _ hv16 => ?_)
          replace E := zLet_s (zcst hv16 (by decide)) E
          refine zg_icmp_ne X 57 dX3_sum_50 (by decide) (fun c17 => ?_) (fun c17 => ?_)
          · skip
            replace E := zIf_f c17 E
            refine zg_iconst X 3 dX3_sum_57 (by decide) (fun v18 _ hv18 => ?_)
            replace E := zLet_s (zcst hv18 (by decide)) E
            refine zg_iconst X 0 dX3_sum_58 (by decide) (fun v19 _ hv19 => ?_)
            replace E := zLet_s (zcst hv19 (by decide)) E
            refine zg_cVv (As := [.int v18, .int v19]) (st := []) X hv15 rfl (by decide) rfl (t_X9_addStep l d L kd κ 2 _ hI v15 hv15 v18 v19 ) mk_X3_145 mc_X9_addStep mz_X9 mi_X9_addStep ml_X9_addStep (na := 2) ⟨md_X9.1, md_X9.2, by decide +kernel⟩ rfl ⟨by decide, by decide⟩ (Nat.le_of_ble_eq_true rfl) dX3_sum_59 (fun s20 hq => ?_)
            obtain ⟨hF, hS2, hI⟩ := hq
            replace E := zLet_s hF E
            have hS := hS.tr hS2 rfl rfl
            refine zg_iinc X 1 (fun v21 => [(2, .int v21), (3, .int v12), (0, .ref a0), (1, .int p1)]) 1 dX3_sum_62 rfl (by decide) (by decide) (by omega) (by omega) (fun _ => rfl) (fun v21 ev21 hv21 => ?_)
            replace E := zLet_s (zinc ev21 (by decide)) E
            refine zg_goto X 7 dX3_sum_65 (by decide) ?_
            refine zg_sub [0, 2, 3] rfl ?_
            exact ihLp4 _ v21 hI hS E  (by omega) (by omega) 
          · skip
            replace E := zIf_t c17 E
            refine zg_iconst X 2 dX3_sum_53 (by decide) (fun v22 _ hv22 => ?_)
            replace E := zLet_s (zcst hv22 (by decide)) E
            refine zg_goto X 58 dX3_sum_54 (by decide) ?_
            refine zg_iconst X 0 dX3_sum_58 (by decide) (fun v23 _ hv23 => ?_)
            replace E := zLet_s (zcst hv23 (by decide)) E
            refine zg_cVv (As := [.int v22, .int v23]) (st := []) X hv15 rfl (by decide) rfl (t_X9_addStep l d L kd κ 2 _ hI v15 hv15 v22 v23 ) mk_X3_145 mc_X9_addStep mz_X9 mi_X9_addStep ml_X9_addStep (na := 2) ⟨md_X9.1, md_X9.2, by decide +kernel⟩ rfl ⟨by decide, by decide⟩ (Nat.le_of_ble_eq_true rfl) dX3_sum_59 (fun s24 hq => ?_)
            obtain ⟨hF, hS2, hI⟩ := hq
            replace E := zLet_s hF E
            have hS := hS.tr hS2 rfl rfl
            refine zg_iinc X 1 (fun v25 => [(2, .int v25), (3, .int v12), (0, .ref a0), (1, .int p1)]) 1 dX3_sum_62 rfl (by decide) (by decide) (by omega) (by omega) (fun _ => rfl) (fun v25 ev25 hv25 => ?_)
            replace E := zLet_s (zinc ev25 (by decide)) E
            refine zg_goto X 7 dX3_sum_65 (by decide) ?_
            refine zg_sub [0, 2, 3] rfl ?_
            exact ihLp4 _ v25 hI hS E  (by omega) (by omega) 
  refine zg_sub [0, 1, 2] rfl ?_
  exact Lp4 10000 _ v2 hI hS E  (by omega) (by omega) 
set_option maxHeartbeats 4000000 in
set_option maxRecDepth 100000 in
theorem t_X3_unit_o1 (l : Launch) (d : zD2) (L : List Nat) (kd : Nat → Nat) (κ : Int) (σ : zS) (hI : zI κ 2 L kd σ) (a0 : Nat) (ha0 : zT L kd a0 3) (p1 : Int32) (hq0 : p1.toInt = 1) : zMv l yX3_unit (Cond.code yX3_unit cX3_unit 2 none :: zWL) 17 [.ref a0, .int p1] d L kd σ (fun σ2 => σ2 = F_X3_unit_o1 a0 p1 σ ∧ zSm [3, 9, 49, 50] [] L kd σ σ2 ∧ (zI κ 2 L kd σ2)) := by
  refine zMv.of (own := RX3) (by decide +kernel) rfl rfl (Nat.le_of_ble_eq_true rfl) ?_
  intro p e s m args below meth c A Q X ret
  refine zg_lv (lv2 := [(0, .ref a0), (1, .int p1)]) rfl ?_
  obtain ⟨R, hR⟩ : ∃ R, R = F_X3_unit_o1 a0 p1 σ := ⟨_, rfl⟩
  have E := hR
  unfold F_X3_unit_o1 at E
  have hS : zSm [3, 9, 49, 50] [] L kd σ σ := zSm.rf
  refine zg_aload_n X 0 rfl dX3_unit_0 ?_
  refine fg_X3_26 X hI ha0 dX3_unit_1 (fun v1 ev1 _ => ?_)
  replace E := zLet_s ev1 E
  refine zg_bipush X 23 dX3_unit_4 (by decide) (fun v2 _ hv2 => ?_)
  replace E := zLet_s (zcst hv2 (by decide)) E
  refine zg_icmp_ne X 33 dX3_unit_6 (by decide) (fun c3 => ?_) (fun c3 => ?_)
  · skip
    replace E := zIf_f c3 E
    refine zg_aload_n X 0 rfl dX3_unit_33 ?_
    refine fg_X3_26 X hI ha0 dX3_unit_34 (fun v4 ev4 _ => ?_)
    replace E := zLet_s ev4 E
    have mv4 : v4.toInt = v1.toInt := by rw [ev4, ← ev1]
    refine zg_bipush X 13 dX3_unit_37 (by decide) (fun v5 _ hv5 => ?_)
    replace E := zLet_s (zcst hv5 (by decide)) E
    have zv4_z6 := zb_rng v4
    refine zg_icmp_lt X 77 dX3_unit_39 (by decide) (fun c7 => ?_) (fun c7 => ?_)
    · skip
      replace E := zIf_t c7 E
      refine zg_aload_n X 0 rfl dX3_unit_77 ?_
      refine fg_X3_26 X hI ha0 dX3_unit_78 (fun v8 ev8 _ => ?_)
      replace E := zLet_s ev8 E
      have mv8 : v8.toInt = v4.toInt := by rw [ev8, ← ev4]
      refine zg_bipush X 31 dX3_unit_81 (by decide) (fun v9 _ hv9 => ?_)
      replace E := zLet_s (zcst hv9 (by decide)) E
      refine zg_icmp_ne X 116 dX3_unit_83 (by decide) (fun c10 => ?_) (fun c10 => ?_)
      · skip
        replace E := zIf_f c10 E
        refine zg_aload_n X 0 rfl dX3_unit_116 ?_
        refine zg_aload_n X 0 rfl dX3_unit_117 ?_
        refine fg_X3_26 X hI ha0 dX3_unit_118 (fun v11 ev11 _ => ?_)
        replace E := zLet_s ev11 E
        have mv11 : v11.toInt = v8.toInt := by rw [ev11, ← ev8]
        refine zg_bipush X 31 dX3_unit_121 (by decide) (fun v12 _ hv12 => ?_)
        replace E := zLet_s (zcst hv12 (by decide)) E
        refine zg_icmp_ne X 130 dX3_unit_123 (by decide) (fun c13 => ?_) (fun c13 => ?_)
        · skip
          replace E := zIf_f c13 E
          refine zg_iconst X 1 dX3_unit_130 (by decide) (fun v14 _ hv14 => ?_)
          replace E := zLet_s (zcst hv14 (by decide)) E
          refine zg_cVv (As := [.int v14]) (st := []) X ha0 rfl (by decide) rfl (t_X3_fail l d L kd κ 2 _ hI a0 ha0 v14 ) mk_X3_106 mc_X3_fail mz_X3 mi_X3_fail ml_X3_fail (na := 1) ⟨md_X3.1, md_X3.2, by decide +kernel⟩ rfl ⟨by decide, by decide⟩ (Nat.le_of_ble_eq_true rfl) dX3_unit_131 (fun s15 hq => ?_)
          obtain ⟨hF, hS2, hI⟩ := hq
          replace E := zLet_s hF E
          have hS := hS.tr hS2 rfl rfl
          exact ret _ _ _ dX3_unit_134 ⟨E.symm.trans hR, hS, hI⟩
        · omega
      · omega
    · skip
      replace E := zIf_f (Int.not_lt.mpr c7) E
      refine zg_aload_n X 0 rfl dX3_unit_42 ?_
      refine fg_X3_26 X hI ha0 dX3_unit_43 (fun v16 ev16 _ => ?_)
      replace E := zLet_s ev16 E
      have mv16 : v16.toInt = v4.toInt := by rw [ev16, ← ev4]
      refine zg_bipush X 22 dX3_unit_46 (by decide) (fun v17 _ hv17 => ?_)
      replace E := zLet_s (zcst hv17 (by decide)) E
      have zv16_z18 := zb_rng v16
      refine zg_icmp_ge X 77 dX3_unit_48 (by decide) (fun c19 => ?_) (fun c19 => ?_)
      · skip
        replace E := zIf_f (Int.not_lt.mpr c19) E
        refine zg_aload_n X 0 rfl dX3_unit_77 ?_
        refine fg_X3_26 X hI ha0 dX3_unit_78 (fun v20 ev20 _ => ?_)
        replace E := zLet_s ev20 E
        have mv20 : v20.toInt = v16.toInt := by rw [ev20, ← ev16]
        refine zg_bipush X 31 dX3_unit_81 (by decide) (fun v21 _ hv21 => ?_)
        replace E := zLet_s (zcst hv21 (by decide)) E
        refine zg_icmp_ne X 116 dX3_unit_83 (by decide) (fun c22 => ?_) (fun c22 => ?_)
        · skip
          replace E := zIf_f c22 E
          refine zg_aload_n X 0 rfl dX3_unit_116 ?_
          refine zg_aload_n X 0 rfl dX3_unit_117 ?_
          refine fg_X3_26 X hI ha0 dX3_unit_118 (fun v23 ev23 _ => ?_)
          replace E := zLet_s ev23 E
          have mv23 : v23.toInt = v20.toInt := by rw [ev23, ← ev20]
          refine zg_bipush X 31 dX3_unit_121 (by decide) (fun v24 _ hv24 => ?_)
          replace E := zLet_s (zcst hv24 (by decide)) E
          refine zg_icmp_ne X 130 dX3_unit_123 (by decide) (fun c25 => ?_) (fun c25 => ?_)
          · skip
            replace E := zIf_f c25 E
            refine zg_iconst X 1 dX3_unit_130 (by decide) (fun v26 _ hv26 => ?_)
            replace E := zLet_s (zcst hv26 (by decide)) E
            refine zg_cVv (As := [.int v26]) (st := []) X ha0 rfl (by decide) rfl (t_X3_fail l d L kd κ 2 _ hI a0 ha0 v26 ) mk_X3_106 mc_X3_fail mz_X3 mi_X3_fail ml_X3_fail (na := 1) ⟨md_X3.1, md_X3.2, by decide +kernel⟩ rfl ⟨by decide, by decide⟩ (Nat.le_of_ble_eq_true rfl) dX3_unit_131 (fun s27 hq => ?_)
            obtain ⟨hF, hS2, hI⟩ := hq
            replace E := zLet_s hF E
            have hS := hS.tr hS2 rfl rfl
            exact ret _ _ _ dX3_unit_134 ⟨E.symm.trans hR, hS, hI⟩
          · skip
            replace E := zIf_t c25 E
            refine zg_iconst X 2 dX3_unit_126 (by decide) (fun v28 _ hv28 => ?_)
            replace E := zLet_s (zcst hv28 (by decide)) E
            refine zg_goto X 131 dX3_unit_127 (by decide) ?_
            refine zg_cVv (As := [.int v28]) (st := []) X ha0 rfl (by decide) rfl (t_X3_fail l d L kd κ 2 _ hI a0 ha0 v28 ) mk_X3_106 mc_X3_fail mz_X3 mi_X3_fail ml_X3_fail (na := 1) ⟨md_X3.1, md_X3.2, by decide +kernel⟩ rfl ⟨by decide, by decide⟩ (Nat.le_of_ble_eq_true rfl) dX3_unit_131 (fun s29 hq => ?_)
            obtain ⟨hF, hS2, hI⟩ := hq
            replace E := zLet_s hF E
            have hS := hS.tr hS2 rfl rfl
            exact ret _ _ _ dX3_unit_134 ⟨E.symm.trans hR, hS, hI⟩
        · skip
          replace E := zIf_t c22 E
          refine zg_iload_n X 1 rfl dX3_unit_86 ?_
          refine zg_bipush X 6 dX3_unit_87 (by decide) (fun v30 _ hv30 => ?_)
          replace E := zLet_s (zcst hv30 (by decide)) E
          refine zg_icmp_ge X 116 dX3_unit_89 (by decide) (fun c31 => ?_) (fun c31 => ?_)
          · omega
          · skip
            replace E := zIf_t c31 E
            refine zg_aload_n X 0 rfl dX3_unit_92 ?_
            refine zg_aload_n X 0 rfl dX3_unit_93 ?_
            refine fg_X3_26 X hI ha0 dX3_unit_94 (fun v32 ev32 _ => ?_)
            replace E := zLet_s ev32 E
            have mv32 : v32.toInt = v20.toInt := by rw [ev32, ← ev20]
            refine zg_cVv (As := [.int v32]) (st := []) X ha0 rfl (by decide) rfl (t_X3_take l d L kd κ 2 _ hI a0 ha0 v32 ) mk_X3_87 mc_X3_take mz_X3 mi_X3_take ml_X3_take (na := 1) ⟨md_X3.1, md_X3.2, by decide +kernel⟩ rfl ⟨by decide, by decide⟩ (Nat.le_of_ble_eq_true rfl) dX3_unit_97 (fun s33 hq => ?_)
            obtain ⟨hF, hS2, hI⟩ := hq
            replace E := zLet_s hF E
            have hS := hS.tr hS2 rfl rfl
            refine zg_aload_n X 0 rfl dX3_unit_100 ?_
            refine zg_iload_n X 1 rfl dX3_unit_101 ?_
            refine zg_iconst X 1 dX3_unit_102 (by decide) (fun v34 _ hv34 => ?_)
            replace E := zLet_s (zcst hv34 (by decide)) E
            refine zg_iadd X dX3_unit_103 (by omega) (by omega) (fun v35 ev35 hv35 => ?_)
            replace E := zLet_s ev35 E
            refine zg_cVv (As := [.int v35]) (st := []) X ha0 rfl (by decide) rfl (t_X3_sum_o2 l d L kd κ _ hI a0 ha0 v35 (by omega)) mk_X3_140 mc_X3_sum mz_X3 mi_X3_sum ml_X3_sum (na := 1) ⟨md_X3.1, md_X3.2, by decide +kernel⟩ rfl ⟨by decide, by decide⟩ (Nat.le_of_ble_eq_true rfl) dX3_unit_104 (fun s36 hq => ?_)
            obtain ⟨hF, hS2, hI⟩ := hq
            replace E := zLet_s hF E
            have hS := hS.tr hS2 rfl rfl
            refine zg_aload_n X 0 rfl dX3_unit_107 ?_
            refine zg_bipush X 32 dX3_unit_108 (by decide) (fun v37 _ hv37 => ?_)
            replace E := zLet_s (zcst hv37 (by decide)) E
            refine zg_cVv (As := [.int v37]) (st := []) X ha0 rfl (by decide) rfl (t_X3_take l d L kd κ 2 _ hI a0 ha0 v37 ) mk_X3_87 mc_X3_take mz_X3 mi_X3_take ml_X3_take (na := 1) ⟨md_X3.1, md_X3.2, by decide +kernel⟩ rfl ⟨by decide, by decide⟩ (Nat.le_of_ble_eq_true rfl) dX3_unit_110 (fun s38 hq => ?_)
            obtain ⟨hF, hS2, hI⟩ := hq
            replace E := zLet_s hF E
            have hS := hS.tr hS2 rfl rfl
            refine zg_goto X 134 dX3_unit_113 (by decide) ?_
            exact ret _ _ _ dX3_unit_134 ⟨E.symm.trans hR, hS, hI⟩
      · skip
        replace E := zIf_t c19 E
        refine zg_aload_n X 0 rfl dX3_unit_51 ?_
        refine fg_X3_18 X hI ha0 dX3_unit_52 (fun v39 ev39 hv39 => ?_)
        replace E := zLet_s (zgr ev39) E
        refine zg_iconst X 1 dX3_unit_55 (by decide) (fun v40 _ hv40 => ?_)
        replace E := zLet_s (zcst hv40 (by decide)) E
        refine zg_aload_n X 0 rfl dX3_unit_56 ?_
        refine fg_X3_26 X hI ha0 dX3_unit_57 (fun v41 ev41 _ => ?_)
        replace E := zLet_s ev41 E
        have mv41 : v41.toInt = v16.toInt := by rw [ev41, ← ev16]
        refine zg_bipush X 13 dX3_unit_60 (by decide) (fun v42 _ hv42 => ?_)
        replace E := zLet_s (zcst hv42 (by decide)) E
        refine zg_isub X dX3_unit_62 (by omega) (by omega) (fun v43 ev43 hv43 => ?_)
        replace E := zLet_s ev43 E
        refine zg_cVv (As := [.int v40, .int v43]) (st := []) X hv39 rfl (by decide) rfl (t_X9_addStep l d L kd κ 2 _ hI v39 hv39 v40 v43 ) mk_X3_145 mc_X9_addStep mz_X9 mi_X9_addStep ml_X9_addStep (na := 2) ⟨md_X9.1, md_X9.2, by decide +kernel⟩ rfl ⟨by decide, by decide⟩ (Nat.le_of_ble_eq_true rfl) dX3_unit_63 (fun s44 hq => ?_)
        obtain ⟨hF, hS2, hI⟩ := hq
        replace E := zLet_s hF E
        have hS := hS.tr hS2 rfl rfl
        refine zg_aload_n X 0 rfl dX3_unit_66 ?_
        refine zg_aload_n X 0 rfl dX3_unit_67 ?_
        refine fg_X3_26 X hI ha0 dX3_unit_68 (fun v45 ev45 _ => ?_)
        replace E := zLet_s ev45 E
        refine zg_cVv (As := [.int v45]) (st := []) X ha0 rfl (by decide) rfl (t_X3_take l d L kd κ 2 _ hI a0 ha0 v45 ) mk_X3_87 mc_X3_take mz_X3 mi_X3_take ml_X3_take (na := 1) ⟨md_X3.1, md_X3.2, by decide +kernel⟩ rfl ⟨by decide, by decide⟩ (Nat.le_of_ble_eq_true rfl) dX3_unit_71 (fun s46 hq => ?_)
        obtain ⟨hF, hS2, hI⟩ := hq
        replace E := zLet_s hF E
        have hS := hS.tr hS2 rfl rfl
        refine zg_goto X 134 dX3_unit_74 (by decide) ?_
        exact ret _ _ _ dX3_unit_134 ⟨E.symm.trans hR, hS, hI⟩
  · skip
    replace E := zIf_t c3 E
    refine zg_aload_n X 0 rfl dX3_unit_9 ?_
    refine fg_X3_18 X hI ha0 dX3_unit_10 (fun v47 ev47 hv47 => ?_)
    replace E := zLet_s (zgr ev47) E
    refine zg_iconst X 0 dX3_unit_13 (by decide) (fun v48 _ hv48 => ?_)
    replace E := zLet_s (zcst hv48 (by decide)) E
    refine zg_aload_n X 0 rfl dX3_unit_14 ?_
    refine fg_X3_29 X ha0 dX3_unit_15 (fun v49 ev49 => ?_)
    replace E := zLet_s ev49 E
    refine zg_l2i X dX3_unit_18 (fun v50 ev50 => ?_)
    replace E := zLet_s ev50 E
    refine zg_cVv (As := [.int v48, .int v50]) (st := []) X hv47 rfl (by decide) rfl (t_X9_addStep l d L kd κ 2 _ hI v47 hv47 v48 v50 ) mk_X3_145 mc_X9_addStep mz_X9 mi_X9_addStep ml_X9_addStep (na := 2) ⟨md_X9.1, md_X9.2, by decide +kernel⟩ rfl ⟨by decide, by decide⟩ (Nat.le_of_ble_eq_true rfl) dX3_unit_19 (fun s51 hq => ?_)
    obtain ⟨hF, hS2, hI⟩ := hq
    replace E := zLet_s hF E
    have hS := hS.tr hS2 rfl rfl
    refine zg_aload_n X 0 rfl dX3_unit_22 ?_
    refine zg_aload_n X 0 rfl dX3_unit_23 ?_
    refine fg_X3_26 X hI ha0 dX3_unit_24 (fun v52 ev52 _ => ?_)
    replace E := zLet_s ev52 E
    refine zg_cVv (As := [.int v52]) (st := []) X ha0 rfl (by decide) rfl (t_X3_take l d L kd κ 2 _ hI a0 ha0 v52 ) mk_X3_87 mc_X3_take mz_X3 mi_X3_take ml_X3_take (na := 1) ⟨md_X3.1, md_X3.2, by decide +kernel⟩ rfl ⟨by decide, by decide⟩ (Nat.le_of_ble_eq_true rfl) dX3_unit_27 (fun s53 hq => ?_)
    obtain ⟨hF, hS2, hI⟩ := hq
    replace E := zLet_s hF E
    have hS := hS.tr hS2 rfl rfl
    refine zg_goto X 134 dX3_unit_30 (by decide) ?_
    exact ret _ _ _ dX3_unit_134 ⟨E.symm.trans hR, hS, hI⟩
set_option maxHeartbeats 4000000 in
set_option maxRecDepth 100000 in
theorem t_X3_product_o1 (l : Launch) (d : zD2) (L : List Nat) (kd : Nat → Nat) (κ : Int) (σ : zS) (hI : zI κ 2 L kd σ) (a0 : Nat) (ha0 : zT L kd a0 3) (p1 : Int32) (hq0 : p1.toInt = 1) : zMv l yX3_product (Cond.code yX3_product cX3_product 4 none :: zWL) 18 [.ref a0, .int p1] d L kd σ (fun σ2 => σ2 = F_X3_product_o1 a0 p1 σ ∧ zSm [3, 9, 49, 50] [] L kd σ σ2 ∧ (zI κ 2 L kd σ2)) := by
  refine zMv.of (own := RX3) (by decide +kernel) rfl rfl (Nat.le_of_ble_eq_true rfl) ?_
  intro p e s m args below meth c A Q X ret
  refine zg_lv (lv2 := [(0, .ref a0), (1, .int p1)]) rfl ?_
  obtain ⟨R, hR⟩ : ∃ R, R = F_X3_product_o1 a0 p1 σ := ⟨_, rfl⟩
  have E := hR
  unfold F_X3_product_o1 at E
  have hS : zSm [3, 9, 49, 50] [] L kd σ σ := zSm.rf
  refine zg_aload_n X 0 rfl dX3_product_0 ?_
  refine zg_iload_n X 1 rfl dX3_product_1 ?_
  refine zg_cVv (As := [.int p1]) (st := []) X ha0 rfl (by decide) rfl (t_X3_unit_o1 l d L kd κ _ hI a0 ha0 p1 (by omega)) mk_X3_159 mc_X3_unit mz_X3 mi_X3_unit ml_X3_unit (na := 1) ⟨md_X3.1, md_X3.2, by decide +kernel⟩ rfl ⟨by decide, by decide⟩ (Nat.le_of_ble_eq_true rfl) dX3_product_2 (fun s1 hq => ?_)
  obtain ⟨hF, hS2, hI⟩ := hq
  replace E := zLet_s hF E
  have hS := hS.tr hS2 rfl rfl
  refine zg_iconst X 0 dX3_product_5 (by decide) (fun v2 _ hv2 => ?_)
  replace E := zLet_s (zcst hv2 (by decide)) E
  refine zg_istore_n X [(2, .int v2), (0, .ref a0), (1, .int p1)] dX3_product_6 (by decide) rfl ?_
  have Lp4 : ∀ (nLp4 : Nat) (τ4 : zS) (x3 : Int32), zI κ 2 L kd τ4 → zSm [3, 9, 49, 50] [] L kd σ τ4 → R = F_X3_product_o1_7 a0 p1  nLp4 x3 τ4 → 0 ≤ x3.toInt ∧ x3.toInt ≤ 401 → (401) - x3.toInt + 1 < (nLp4 : Int) → zG d L kd A 4 p l e (k2_rm 18 (100 * 18)) s m args below meth c Q τ4 7 [(2, .int x3), (0, .ref a0), (1, .int p1)] [] := by
    intro nLp4
    induction nLp4 with
    | zero => intro τ4 x3 hI hS E  hxLp4 hm ; exact absurd hm (by omega)
    | succ nLp4 ihLp4 =>
      intro τ4 x3 hI hS E  hxLp4 hmLp4 
      rw [F_X3_product_o1_7] at E
      refine zg_iload_n X 0 rfl dX3_product_7 ?_
      refine zg_sipush X 400 dX3_product_8 (by decide) (fun v5 _ hv5 => ?_)
      replace E := zLet_s (zcst hv5 (by decide)) E
      refine zg_icmp_gt X 68 dX3_product_11 (by decide) (fun c6 => ?_) (fun c6 => ?_)
      · skip
        replace E := zIf_t c6 E
        exact ret _ _ _ dX3_product_68 ⟨E.symm.trans hR, hS, hI⟩
      · skip
        replace E := zIf_f (Int.not_lt.mpr c6) E
        refine zg_aload_n X 1 rfl dX3_product_14 ?_
        refine fg_X3_26 X hI ha0 dX3_product_15 (fun v7 ev7 _ => ?_)
        replace E := zLet_s ev7 E
        refine zg_bipush X 28 dX3_product_18 (by decide) (fun v8 _ hv8 => ?_)
        replace E := zLet_s (zcst hv8 (by decide)) E
        refine zg_bipush X 29 dX3_product_20 (by decide) (fun v9 _ hv9 => ?_)
        replace E := zLet_s (zcst hv9 (by decide)) E
        refine zg_cSNi (As := [.int v7, .int v8, .int v9]) (st := []) X (t_X10_isWithin l d L kd _ v7 v8 v9 ) mk_X3_80 mc_X10_isWithin mz_X10 ms_X10_isWithin (na := 3) ⟨md_X10.1, md_X10.2, by decide +kernel⟩ rfl ⟨by decide, by decide⟩ (Nat.le_of_ble_eq_true rfl) dX3_product_22 (fun v10 σ2 hq => ?_)
        obtain ⟨⟨hF, hv10⟩, rfl⟩ := hq
        replace E := zLet_s hF E
        refine zg_if_eq X 68 dX3_product_25 (by decide) (fun c11 => ?_) (fun c11 => ?_)
        · skip
          replace E := zIf_t c11 E
          exact ret _ _ _ dX3_product_68 ⟨E.symm.trans hR, hS, hI⟩
        · skip
          replace E := zIf_f c11 E
          refine zg_aload_n X 1 rfl dX3_product_28 ?_
          refine fg_X3_26 X hI ha0 dX3_product_29 (fun v12 ev12 _ => ?_)
          replace E := zLet_s ev12 E
          have mv12 : v12.toInt = v7.toInt := by rw [ev12, ← ev7]
          refine zg_istore_n X [(3, .int v12), (2, .int x3), (0, .ref a0), (1, .int p1)] dX3_product_32 (by decide) rfl ?_
          refine zg_aload_n X 2 rfl dX3_product_33 ?_
          refine zg_iload_n X 0 rfl dX3_product_34 ?_
          refine zg_cVv (As := [.int v12]) (st := []) X ha0 rfl (by decide) rfl (t_X3_take l d L kd κ 2 _ hI a0 ha0 v12 ) mk_X3_87 mc_X3_take mz_X3 mi_X3_take ml_X3_take (na := 1) ⟨md_X3.1, md_X3.2, by decide +kernel⟩ rfl ⟨by decide, by decide⟩ (Nat.le_of_ble_eq_true rfl) dX3_product_35 (fun s13 hq => ?_)
          obtain ⟨hF, hS2, hI⟩ := hq
          replace E := zLet_s hF E
          have hS := hS.tr hS2 rfl rfl
          refine zg_aload_n X 2 rfl dX3_product_38 ?_
          refine zg_iload_n X 3 rfl dX3_product_39 ?_
          refine zg_cVv (As := [.int p1]) (st := []) X ha0 rfl (by decide) rfl (t_X3_unit_o1 l d L kd κ _ hI a0 ha0 p1 (by omega)) mk_X3_159 mc_X3_unit mz_X3 mi_X3_unit ml_X3_unit (na := 1) ⟨md_X3.1, md_X3.2, by decide +kernel⟩ rfl ⟨by decide, by decide⟩ (Nat.le_of_ble_eq_true rfl) dX3_product_40 (fun s14 hq => ?_)
          obtain ⟨hF, hS2, hI⟩ := hq
          replace E := zLet_s hF E
          have hS := hS.tr hS2 rfl rfl
          refine zg_aload_n X 2 rfl dX3_product_43 ?_
          refine fg_X3_18 X hI ha0 dX3_product_44 (fun v15 ev15 hv15 => ?_)
          replace E := zLet_s (zgr ev15) E
          refine zg_iload_n X 0 rfl dX3_product_47 ?_
          refine zg_bipush X 28 dX3_product_48 (by decide) (fun v16 _ hv16 => ?_)
          replace E := zLet_s (zcst hv16 (by decide)) E
          refine zg_icmp_ne X 57 dX3_product_50 (by decide) (fun c17 => ?_) (fun c17 => ?_)
          · skip
            replace E := zIf_f c17 E
            refine zg_iconst X 5 dX3_product_57 (by decide) (fun v18 _ hv18 => ?_)
            replace E := zLet_s (zcst hv18 (by decide)) E
            refine zg_iconst X 0 dX3_product_58 (by decide) (fun v19 _ hv19 => ?_)
            replace E := zLet_s (zcst hv19 (by decide)) E
            refine zg_cVv (As := [.int v18, .int v19]) (st := []) X hv15 rfl (by decide) rfl (t_X9_addStep l d L kd κ 2 _ hI v15 hv15 v18 v19 ) mk_X3_145 mc_X9_addStep mz_X9 mi_X9_addStep ml_X9_addStep (na := 2) ⟨md_X9.1, md_X9.2, by decide +kernel⟩ rfl ⟨by decide, by decide⟩ (Nat.le_of_ble_eq_true rfl) dX3_product_59 (fun s20 hq => ?_)
            obtain ⟨hF, hS2, hI⟩ := hq
            replace E := zLet_s hF E
            have hS := hS.tr hS2 rfl rfl
            refine zg_iinc X 1 (fun v21 => [(2, .int v21), (3, .int v12), (0, .ref a0), (1, .int p1)]) 1 dX3_product_62 rfl (by decide) (by decide) (by omega) (by omega) (fun _ => rfl) (fun v21 ev21 hv21 => ?_)
            replace E := zLet_s (zinc ev21 (by decide)) E
            refine zg_goto X 7 dX3_product_65 (by decide) ?_
            refine zg_sub [0, 2, 3] rfl ?_
            exact ihLp4 _ v21 hI hS E  (by omega) (by omega) 
          · skip
            replace E := zIf_t c17 E
            refine zg_iconst X 4 dX3_product_53 (by decide) (fun v22 _ hv22 => ?_)
            replace E := zLet_s (zcst hv22 (by decide)) E
            refine zg_goto X 58 dX3_product_54 (by decide) ?_
            refine zg_iconst X 0 dX3_product_58 (by decide) (fun v23 _ hv23 => ?_)
            replace E := zLet_s (zcst hv23 (by decide)) E
            refine zg_cVv (As := [.int v22, .int v23]) (st := []) X hv15 rfl (by decide) rfl (t_X9_addStep l d L kd κ 2 _ hI v15 hv15 v22 v23 ) mk_X3_145 mc_X9_addStep mz_X9 mi_X9_addStep ml_X9_addStep (na := 2) ⟨md_X9.1, md_X9.2, by decide +kernel⟩ rfl ⟨by decide, by decide⟩ (Nat.le_of_ble_eq_true rfl) dX3_product_59 (fun s24 hq => ?_)
            obtain ⟨hF, hS2, hI⟩ := hq
            replace E := zLet_s hF E
            have hS := hS.tr hS2 rfl rfl
            refine zg_iinc X 1 (fun v25 => [(2, .int v25), (3, .int v12), (0, .ref a0), (1, .int p1)]) 1 dX3_product_62 rfl (by decide) (by decide) (by omega) (by omega) (fun _ => rfl) (fun v25 ev25 hv25 => ?_)
            replace E := zLet_s (zinc ev25 (by decide)) E
            refine zg_goto X 7 dX3_product_65 (by decide) ?_
            refine zg_sub [0, 2, 3] rfl ?_
            exact ihLp4 _ v25 hI hS E  (by omega) (by omega) 
  refine zg_sub [0, 1, 2] rfl ?_
  exact Lp4 10000 _ v2 hI hS E  (by omega) (by omega) 
set_option maxHeartbeats 4000000 in
set_option maxRecDepth 100000 in
theorem t_X3_sum_o1 (l : Launch) (d : zD2) (L : List Nat) (kd : Nat → Nat) (κ : Int) (σ : zS) (hI : zI κ 2 L kd σ) (a0 : Nat) (ha0 : zT L kd a0 3) (p1 : Int32) (hq0 : p1.toInt = 1) : zMv l yX3_sum (Cond.code yX3_sum cX3_sum 4 none :: zWL) 19 [.ref a0, .int p1] d L kd σ (fun σ2 => σ2 = F_X3_sum_o1 a0 p1 σ ∧ zSm [3, 9, 49, 50] [] L kd σ σ2 ∧ (zI κ 2 L kd σ2)) := by
  refine zMv.of (own := RX3) (by decide +kernel) rfl rfl (Nat.le_of_ble_eq_true rfl) ?_
  intro p e s m args below meth c A Q X ret
  refine zg_lv (lv2 := [(0, .ref a0), (1, .int p1)]) rfl ?_
  obtain ⟨R, hR⟩ : ∃ R, R = F_X3_sum_o1 a0 p1 σ := ⟨_, rfl⟩
  have E := hR
  unfold F_X3_sum_o1 at E
  have hS : zSm [3, 9, 49, 50] [] L kd σ σ := zSm.rf
  refine zg_aload_n X 0 rfl dX3_sum_0 ?_
  refine zg_iload_n X 1 rfl dX3_sum_1 ?_
  refine zg_cVv (As := [.int p1]) (st := []) X ha0 rfl (by decide) rfl (t_X3_product_o1 l d L kd κ _ hI a0 ha0 p1 (by omega)) mk_X3_156 mc_X3_product mz_X3 mi_X3_product ml_X3_product (na := 1) ⟨md_X3.1, md_X3.2, by decide +kernel⟩ rfl ⟨by decide, by decide⟩ (Nat.le_of_ble_eq_true rfl) dX3_sum_2 (fun s1 hq => ?_)
  obtain ⟨hF, hS2, hI⟩ := hq
  replace E := zLet_s hF E
  have hS := hS.tr hS2 rfl rfl
  refine zg_iconst X 0 dX3_sum_5 (by decide) (fun v2 _ hv2 => ?_)
  replace E := zLet_s (zcst hv2 (by decide)) E
  refine zg_istore_n X [(2, .int v2), (0, .ref a0), (1, .int p1)] dX3_sum_6 (by decide) rfl ?_
  have Lp4 : ∀ (nLp4 : Nat) (τ4 : zS) (x3 : Int32), zI κ 2 L kd τ4 → zSm [3, 9, 49, 50] [] L kd σ τ4 → R = F_X3_sum_o1_7 a0 p1  nLp4 x3 τ4 → 0 ≤ x3.toInt ∧ x3.toInt ≤ 401 → (401) - x3.toInt + 1 < (nLp4 : Int) → zG d L kd A 4 p l e (k2_rm 19 (100 * 19)) s m args below meth c Q τ4 7 [(2, .int x3), (0, .ref a0), (1, .int p1)] [] := by
    intro nLp4
    induction nLp4 with
    | zero => intro τ4 x3 hI hS E  hxLp4 hm ; exact absurd hm (by omega)
    | succ nLp4 ihLp4 =>
      intro τ4 x3 hI hS E  hxLp4 hmLp4 
      rw [F_X3_sum_o1_7] at E
      refine zg_iload_n X 0 rfl dX3_sum_7 ?_
      refine zg_sipush X 400 dX3_sum_8 (by decide) (fun v5 _ hv5 => ?_)
      replace E := zLet_s (zcst hv5 (by decide)) E
      refine zg_icmp_gt X 68 dX3_sum_11 (by decide) (fun c6 => ?_) (fun c6 => ?_)
      · skip
        replace E := zIf_t c6 E
        exact ret _ _ _ dX3_sum_68 ⟨E.symm.trans hR, hS, hI⟩
      · skip
        replace E := zIf_f (Int.not_lt.mpr c6) E
        refine zg_aload_n X 1 rfl dX3_sum_14 ?_
        refine fg_X3_26 X hI ha0 dX3_sum_15 (fun v7 ev7 _ => ?_)
        replace E := zLet_s ev7 E
        refine zg_bipush X 26 dX3_sum_18 (by decide) (fun v8 _ hv8 => ?_)
        replace E := zLet_s (zcst hv8 (by decide)) E
        refine zg_bipush X 27 dX3_sum_20 (by decide) (fun v9 _ hv9 => ?_)
        replace E := zLet_s (zcst hv9 (by decide)) E
        refine zg_cSNi (As := [.int v7, .int v8, .int v9]) (st := []) X (t_X10_isWithin l d L kd _ v7 v8 v9 ) mk_X3_80 mc_X10_isWithin mz_X10 ms_X10_isWithin (na := 3) ⟨md_X10.1, md_X10.2, by decide +kernel⟩ rfl ⟨by decide, by decide⟩ (Nat.le_of_ble_eq_true rfl) dX3_sum_22 (fun v10 σ2 hq => ?_)
        obtain ⟨⟨hF, hv10⟩, rfl⟩ := hq
        replace E := zLet_s hF E
        refine zg_if_eq X 68 dX3_sum_25 (by decide) (fun c11 => ?_) (fun c11 => ?_)
        · skip
          replace E := zIf_t c11 E
          exact ret _ _ _ dX3_sum_68 ⟨E.symm.trans hR, hS, hI⟩
        · skip
          replace E := zIf_f c11 E
          refine zg_aload_n X 1 rfl dX3_sum_28 ?_
          refine fg_X3_26 X hI ha0 dX3_sum_29 (fun v12 ev12 _ => ?_)
          replace E := zLet_s ev12 E
          have mv12 : v12.toInt = v7.toInt := by rw [ev12, ← ev7]
          refine zg_istore_n X [(3, .int v12), (2, .int x3), (0, .ref a0), (1, .int p1)] dX3_sum_32 (by decide) rfl ?_
          refine zg_aload_n X 2 rfl dX3_sum_33 ?_
          refine zg_iload_n X 0 rfl dX3_sum_34 ?_
          refine zg_cVv (As := [.int v12]) (st := []) X ha0 rfl (by decide) rfl (t_X3_take l d L kd κ 2 _ hI a0 ha0 v12 ) mk_X3_87 mc_X3_take mz_X3 mi_X3_take ml_X3_take (na := 1) ⟨md_X3.1, md_X3.2, by decide +kernel⟩ rfl ⟨by decide, by decide⟩ (Nat.le_of_ble_eq_true rfl) dX3_sum_35 (fun s13 hq => ?_)
          obtain ⟨hF, hS2, hI⟩ := hq
          replace E := zLet_s hF E
          have hS := hS.tr hS2 rfl rfl
          refine zg_aload_n X 2 rfl dX3_sum_38 ?_
          refine zg_iload_n X 3 rfl dX3_sum_39 ?_
          refine zg_cVv (As := [.int p1]) (st := []) X ha0 rfl (by decide) rfl (t_X3_product_o1 l d L kd κ _ hI a0 ha0 p1 (by omega)) mk_X3_156 mc_X3_product mz_X3 mi_X3_product ml_X3_product (na := 1) ⟨md_X3.1, md_X3.2, by decide +kernel⟩ rfl ⟨by decide, by decide⟩ (Nat.le_of_ble_eq_true rfl) dX3_sum_40 (fun s14 hq => ?_)
          obtain ⟨hF, hS2, hI⟩ := hq
          replace E := zLet_s hF E
          have hS := hS.tr hS2 rfl rfl
          refine zg_aload_n X 2 rfl dX3_sum_43 ?_
          refine fg_X3_18 X hI ha0 dX3_sum_44 (fun v15 ev15 hv15 => ?_)
          replace E := zLet_s (zgr ev15) E
          refine zg_iload_n X 0 rfl dX3_sum_47 ?_
          refine zg_bipush X 26 dX3_sum_48 (by decide) (fun v16 _ hv16 => ?_)
          replace E := zLet_s (zcst hv16 (by decide)) E
          refine zg_icmp_ne X 57 dX3_sum_50 (by decide) (fun c17 => ?_) (fun c17 => ?_)
          · skip
            replace E := zIf_f c17 E
            refine zg_iconst X 3 dX3_sum_57 (by decide) (fun v18 _ hv18 => ?_)
            replace E := zLet_s (zcst hv18 (by decide)) E
            refine zg_iconst X 0 dX3_sum_58 (by decide) (fun v19 _ hv19 => ?_)
            replace E := zLet_s (zcst hv19 (by decide)) E
            refine zg_cVv (As := [.int v18, .int v19]) (st := []) X hv15 rfl (by decide) rfl (t_X9_addStep l d L kd κ 2 _ hI v15 hv15 v18 v19 ) mk_X3_145 mc_X9_addStep mz_X9 mi_X9_addStep ml_X9_addStep (na := 2) ⟨md_X9.1, md_X9.2, by decide +kernel⟩ rfl ⟨by decide, by decide⟩ (Nat.le_of_ble_eq_true rfl) dX3_sum_59 (fun s20 hq => ?_)
            obtain ⟨hF, hS2, hI⟩ := hq
            replace E := zLet_s hF E
            have hS := hS.tr hS2 rfl rfl
            refine zg_iinc X 1 (fun v21 => [(2, .int v21), (3, .int v12), (0, .ref a0), (1, .int p1)]) 1 dX3_sum_62 rfl (by decide) (by decide) (by omega) (by omega) (fun _ => rfl) (fun v21 ev21 hv21 => ?_)
            replace E := zLet_s (zinc ev21 (by decide)) E
            refine zg_goto X 7 dX3_sum_65 (by decide) ?_
            refine zg_sub [0, 2, 3] rfl ?_
            exact ihLp4 _ v21 hI hS E  (by omega) (by omega) 
          · skip
            replace E := zIf_t c17 E
            refine zg_iconst X 2 dX3_sum_53 (by decide) (fun v22 _ hv22 => ?_)
            replace E := zLet_s (zcst hv22 (by decide)) E
            refine zg_goto X 58 dX3_sum_54 (by decide) ?_
            refine zg_iconst X 0 dX3_sum_58 (by decide) (fun v23 _ hv23 => ?_)
            replace E := zLet_s (zcst hv23 (by decide)) E
            refine zg_cVv (As := [.int v22, .int v23]) (st := []) X hv15 rfl (by decide) rfl (t_X9_addStep l d L kd κ 2 _ hI v15 hv15 v22 v23 ) mk_X3_145 mc_X9_addStep mz_X9 mi_X9_addStep ml_X9_addStep (na := 2) ⟨md_X9.1, md_X9.2, by decide +kernel⟩ rfl ⟨by decide, by decide⟩ (Nat.le_of_ble_eq_true rfl) dX3_sum_59 (fun s24 hq => ?_)
            obtain ⟨hF, hS2, hI⟩ := hq
            replace E := zLet_s hF E
            have hS := hS.tr hS2 rfl rfl
            refine zg_iinc X 1 (fun v25 => [(2, .int v25), (3, .int v12), (0, .ref a0), (1, .int p1)]) 1 dX3_sum_62 rfl (by decide) (by decide) (by omega) (by omega) (fun _ => rfl) (fun v25 ev25 hv25 => ?_)
            replace E := zLet_s (zinc ev25 (by decide)) E
            refine zg_goto X 7 dX3_sum_65 (by decide) ?_
            refine zg_sub [0, 2, 3] rfl ?_
            exact ihLp4 _ v25 hI hS E  (by omega) (by omega) 
  refine zg_sub [0, 1, 2] rfl ?_
  exact Lp4 10000 _ v2 hI hS E  (by omega) (by omega) 
set_option maxHeartbeats 4000000 in
set_option maxRecDepth 100000 in
theorem t_X3_unit_o0 (l : Launch) (d : zD2) (L : List Nat) (kd : Nat → Nat) (κ : Int) (σ : zS) (hI : zI κ 2 L kd σ) (a0 : Nat) (ha0 : zT L kd a0 3) (p1 : Int32) (hq0 : p1.toInt = 0) : zMv l yX3_unit (Cond.code yX3_unit cX3_unit 2 none :: zWL) 20 [.ref a0, .int p1] d L kd σ (fun σ2 => σ2 = F_X3_unit_o0 a0 p1 σ ∧ zSm [3, 9, 49, 50] [] L kd σ σ2 ∧ (zI κ 2 L kd σ2)) := by
  refine zMv.of (own := RX3) (by decide +kernel) rfl rfl (Nat.le_of_ble_eq_true rfl) ?_
  intro p e s m args below meth c A Q X ret
  refine zg_lv (lv2 := [(0, .ref a0), (1, .int p1)]) rfl ?_
  obtain ⟨R, hR⟩ : ∃ R, R = F_X3_unit_o0 a0 p1 σ := ⟨_, rfl⟩
  have E := hR
  unfold F_X3_unit_o0 at E
  have hS : zSm [3, 9, 49, 50] [] L kd σ σ := zSm.rf
  refine zg_aload_n X 0 rfl dX3_unit_0 ?_
  refine fg_X3_26 X hI ha0 dX3_unit_1 (fun v1 ev1 _ => ?_)
  replace E := zLet_s ev1 E
  refine zg_bipush X 23 dX3_unit_4 (by decide) (fun v2 _ hv2 => ?_)
  replace E := zLet_s (zcst hv2 (by decide)) E
  refine zg_icmp_ne X 33 dX3_unit_6 (by decide) (fun c3 => ?_) (fun c3 => ?_)
  · skip
    replace E := zIf_f c3 E
    refine zg_aload_n X 0 rfl dX3_unit_33 ?_
    refine fg_X3_26 X hI ha0 dX3_unit_34 (fun v4 ev4 _ => ?_)
    replace E := zLet_s ev4 E
    have mv4 : v4.toInt = v1.toInt := by rw [ev4, ← ev1]
    refine zg_bipush X 13 dX3_unit_37 (by decide) (fun v5 _ hv5 => ?_)
    replace E := zLet_s (zcst hv5 (by decide)) E
    have zv4_z6 := zb_rng v4
    refine zg_icmp_lt X 77 dX3_unit_39 (by decide) (fun c7 => ?_) (fun c7 => ?_)
    · skip
      replace E := zIf_t c7 E
      refine zg_aload_n X 0 rfl dX3_unit_77 ?_
      refine fg_X3_26 X hI ha0 dX3_unit_78 (fun v8 ev8 _ => ?_)
      replace E := zLet_s ev8 E
      have mv8 : v8.toInt = v4.toInt := by rw [ev8, ← ev4]
      refine zg_bipush X 31 dX3_unit_81 (by decide) (fun v9 _ hv9 => ?_)
      replace E := zLet_s (zcst hv9 (by decide)) E
      refine zg_icmp_ne X 116 dX3_unit_83 (by decide) (fun c10 => ?_) (fun c10 => ?_)
      · skip
        replace E := zIf_f c10 E
        refine zg_aload_n X 0 rfl dX3_unit_116 ?_
        refine zg_aload_n X 0 rfl dX3_unit_117 ?_
        refine fg_X3_26 X hI ha0 dX3_unit_118 (fun v11 ev11 _ => ?_)
        replace E := zLet_s ev11 E
        have mv11 : v11.toInt = v8.toInt := by rw [ev11, ← ev8]
        refine zg_bipush X 31 dX3_unit_121 (by decide) (fun v12 _ hv12 => ?_)
        replace E := zLet_s (zcst hv12 (by decide)) E
        refine zg_icmp_ne X 130 dX3_unit_123 (by decide) (fun c13 => ?_) (fun c13 => ?_)
        · skip
          replace E := zIf_f c13 E
          refine zg_iconst X 1 dX3_unit_130 (by decide) (fun v14 _ hv14 => ?_)
          replace E := zLet_s (zcst hv14 (by decide)) E
          refine zg_cVv (As := [.int v14]) (st := []) X ha0 rfl (by decide) rfl (t_X3_fail l d L kd κ 2 _ hI a0 ha0 v14 ) mk_X3_106 mc_X3_fail mz_X3 mi_X3_fail ml_X3_fail (na := 1) ⟨md_X3.1, md_X3.2, by decide +kernel⟩ rfl ⟨by decide, by decide⟩ (Nat.le_of_ble_eq_true rfl) dX3_unit_131 (fun s15 hq => ?_)
          obtain ⟨hF, hS2, hI⟩ := hq
          replace E := zLet_s hF E
          have hS := hS.tr hS2 rfl rfl
          exact ret _ _ _ dX3_unit_134 ⟨E.symm.trans hR, hS, hI⟩
        · omega
      · omega
    · skip
      replace E := zIf_f (Int.not_lt.mpr c7) E
      refine zg_aload_n X 0 rfl dX3_unit_42 ?_
      refine fg_X3_26 X hI ha0 dX3_unit_43 (fun v16 ev16 _ => ?_)
      replace E := zLet_s ev16 E
      have mv16 : v16.toInt = v4.toInt := by rw [ev16, ← ev4]
      refine zg_bipush X 22 dX3_unit_46 (by decide) (fun v17 _ hv17 => ?_)
      replace E := zLet_s (zcst hv17 (by decide)) E
      have zv16_z18 := zb_rng v16
      refine zg_icmp_ge X 77 dX3_unit_48 (by decide) (fun c19 => ?_) (fun c19 => ?_)
      · skip
        replace E := zIf_f (Int.not_lt.mpr c19) E
        refine zg_aload_n X 0 rfl dX3_unit_77 ?_
        refine fg_X3_26 X hI ha0 dX3_unit_78 (fun v20 ev20 _ => ?_)
        replace E := zLet_s ev20 E
        have mv20 : v20.toInt = v16.toInt := by rw [ev20, ← ev16]
        refine zg_bipush X 31 dX3_unit_81 (by decide) (fun v21 _ hv21 => ?_)
        replace E := zLet_s (zcst hv21 (by decide)) E
        refine zg_icmp_ne X 116 dX3_unit_83 (by decide) (fun c22 => ?_) (fun c22 => ?_)
        · skip
          replace E := zIf_f c22 E
          refine zg_aload_n X 0 rfl dX3_unit_116 ?_
          refine zg_aload_n X 0 rfl dX3_unit_117 ?_
          refine fg_X3_26 X hI ha0 dX3_unit_118 (fun v23 ev23 _ => ?_)
          replace E := zLet_s ev23 E
          have mv23 : v23.toInt = v20.toInt := by rw [ev23, ← ev20]
          refine zg_bipush X 31 dX3_unit_121 (by decide) (fun v24 _ hv24 => ?_)
          replace E := zLet_s (zcst hv24 (by decide)) E
          refine zg_icmp_ne X 130 dX3_unit_123 (by decide) (fun c25 => ?_) (fun c25 => ?_)
          · skip
            replace E := zIf_f c25 E
            refine zg_iconst X 1 dX3_unit_130 (by decide) (fun v26 _ hv26 => ?_)
            replace E := zLet_s (zcst hv26 (by decide)) E
            refine zg_cVv (As := [.int v26]) (st := []) X ha0 rfl (by decide) rfl (t_X3_fail l d L kd κ 2 _ hI a0 ha0 v26 ) mk_X3_106 mc_X3_fail mz_X3 mi_X3_fail ml_X3_fail (na := 1) ⟨md_X3.1, md_X3.2, by decide +kernel⟩ rfl ⟨by decide, by decide⟩ (Nat.le_of_ble_eq_true rfl) dX3_unit_131 (fun s27 hq => ?_)
            obtain ⟨hF, hS2, hI⟩ := hq
            replace E := zLet_s hF E
            have hS := hS.tr hS2 rfl rfl
            exact ret _ _ _ dX3_unit_134 ⟨E.symm.trans hR, hS, hI⟩
          · skip
            replace E := zIf_t c25 E
            refine zg_iconst X 2 dX3_unit_126 (by decide) (fun v28 _ hv28 => ?_)
            replace E := zLet_s (zcst hv28 (by decide)) E
            refine zg_goto X 131 dX3_unit_127 (by decide) ?_
            refine zg_cVv (As := [.int v28]) (st := []) X ha0 rfl (by decide) rfl (t_X3_fail l d L kd κ 2 _ hI a0 ha0 v28 ) mk_X3_106 mc_X3_fail mz_X3 mi_X3_fail ml_X3_fail (na := 1) ⟨md_X3.1, md_X3.2, by decide +kernel⟩ rfl ⟨by decide, by decide⟩ (Nat.le_of_ble_eq_true rfl) dX3_unit_131 (fun s29 hq => ?_)
            obtain ⟨hF, hS2, hI⟩ := hq
            replace E := zLet_s hF E
            have hS := hS.tr hS2 rfl rfl
            exact ret _ _ _ dX3_unit_134 ⟨E.symm.trans hR, hS, hI⟩
        · skip
          replace E := zIf_t c22 E
          refine zg_iload_n X 1 rfl dX3_unit_86 ?_
          refine zg_bipush X 6 dX3_unit_87 (by decide) (fun v30 _ hv30 => ?_)
          replace E := zLet_s (zcst hv30 (by decide)) E
          refine zg_icmp_ge X 116 dX3_unit_89 (by decide) (fun c31 => ?_) (fun c31 => ?_)
          · omega
          · skip
            replace E := zIf_t c31 E
            refine zg_aload_n X 0 rfl dX3_unit_92 ?_
            refine zg_aload_n X 0 rfl dX3_unit_93 ?_
            refine fg_X3_26 X hI ha0 dX3_unit_94 (fun v32 ev32 _ => ?_)
            replace E := zLet_s ev32 E
            have mv32 : v32.toInt = v20.toInt := by rw [ev32, ← ev20]
            refine zg_cVv (As := [.int v32]) (st := []) X ha0 rfl (by decide) rfl (t_X3_take l d L kd κ 2 _ hI a0 ha0 v32 ) mk_X3_87 mc_X3_take mz_X3 mi_X3_take ml_X3_take (na := 1) ⟨md_X3.1, md_X3.2, by decide +kernel⟩ rfl ⟨by decide, by decide⟩ (Nat.le_of_ble_eq_true rfl) dX3_unit_97 (fun s33 hq => ?_)
            obtain ⟨hF, hS2, hI⟩ := hq
            replace E := zLet_s hF E
            have hS := hS.tr hS2 rfl rfl
            refine zg_aload_n X 0 rfl dX3_unit_100 ?_
            refine zg_iload_n X 1 rfl dX3_unit_101 ?_
            refine zg_iconst X 1 dX3_unit_102 (by decide) (fun v34 _ hv34 => ?_)
            replace E := zLet_s (zcst hv34 (by decide)) E
            refine zg_iadd X dX3_unit_103 (by omega) (by omega) (fun v35 ev35 hv35 => ?_)
            replace E := zLet_s ev35 E
            refine zg_cVv (As := [.int v35]) (st := []) X ha0 rfl (by decide) rfl (t_X3_sum_o1 l d L kd κ _ hI a0 ha0 v35 (by omega)) mk_X3_140 mc_X3_sum mz_X3 mi_X3_sum ml_X3_sum (na := 1) ⟨md_X3.1, md_X3.2, by decide +kernel⟩ rfl ⟨by decide, by decide⟩ (Nat.le_of_ble_eq_true rfl) dX3_unit_104 (fun s36 hq => ?_)
            obtain ⟨hF, hS2, hI⟩ := hq
            replace E := zLet_s hF E
            have hS := hS.tr hS2 rfl rfl
            refine zg_aload_n X 0 rfl dX3_unit_107 ?_
            refine zg_bipush X 32 dX3_unit_108 (by decide) (fun v37 _ hv37 => ?_)
            replace E := zLet_s (zcst hv37 (by decide)) E
            refine zg_cVv (As := [.int v37]) (st := []) X ha0 rfl (by decide) rfl (t_X3_take l d L kd κ 2 _ hI a0 ha0 v37 ) mk_X3_87 mc_X3_take mz_X3 mi_X3_take ml_X3_take (na := 1) ⟨md_X3.1, md_X3.2, by decide +kernel⟩ rfl ⟨by decide, by decide⟩ (Nat.le_of_ble_eq_true rfl) dX3_unit_110 (fun s38 hq => ?_)
            obtain ⟨hF, hS2, hI⟩ := hq
            replace E := zLet_s hF E
            have hS := hS.tr hS2 rfl rfl
            refine zg_goto X 134 dX3_unit_113 (by decide) ?_
            exact ret _ _ _ dX3_unit_134 ⟨E.symm.trans hR, hS, hI⟩
      · skip
        replace E := zIf_t c19 E
        refine zg_aload_n X 0 rfl dX3_unit_51 ?_
        refine fg_X3_18 X hI ha0 dX3_unit_52 (fun v39 ev39 hv39 => ?_)
        replace E := zLet_s (zgr ev39) E
        refine zg_iconst X 1 dX3_unit_55 (by decide) (fun v40 _ hv40 => ?_)
        replace E := zLet_s (zcst hv40 (by decide)) E
        refine zg_aload_n X 0 rfl dX3_unit_56 ?_
        refine fg_X3_26 X hI ha0 dX3_unit_57 (fun v41 ev41 _ => ?_)
        replace E := zLet_s ev41 E
        have mv41 : v41.toInt = v16.toInt := by rw [ev41, ← ev16]
        refine zg_bipush X 13 dX3_unit_60 (by decide) (fun v42 _ hv42 => ?_)
        replace E := zLet_s (zcst hv42 (by decide)) E
        refine zg_isub X dX3_unit_62 (by omega) (by omega) (fun v43 ev43 hv43 => ?_)
        replace E := zLet_s ev43 E
        refine zg_cVv (As := [.int v40, .int v43]) (st := []) X hv39 rfl (by decide) rfl (t_X9_addStep l d L kd κ 2 _ hI v39 hv39 v40 v43 ) mk_X3_145 mc_X9_addStep mz_X9 mi_X9_addStep ml_X9_addStep (na := 2) ⟨md_X9.1, md_X9.2, by decide +kernel⟩ rfl ⟨by decide, by decide⟩ (Nat.le_of_ble_eq_true rfl) dX3_unit_63 (fun s44 hq => ?_)
        obtain ⟨hF, hS2, hI⟩ := hq
        replace E := zLet_s hF E
        have hS := hS.tr hS2 rfl rfl
        refine zg_aload_n X 0 rfl dX3_unit_66 ?_
        refine zg_aload_n X 0 rfl dX3_unit_67 ?_
        refine fg_X3_26 X hI ha0 dX3_unit_68 (fun v45 ev45 _ => ?_)
        replace E := zLet_s ev45 E
        refine zg_cVv (As := [.int v45]) (st := []) X ha0 rfl (by decide) rfl (t_X3_take l d L kd κ 2 _ hI a0 ha0 v45 ) mk_X3_87 mc_X3_take mz_X3 mi_X3_take ml_X3_take (na := 1) ⟨md_X3.1, md_X3.2, by decide +kernel⟩ rfl ⟨by decide, by decide⟩ (Nat.le_of_ble_eq_true rfl) dX3_unit_71 (fun s46 hq => ?_)
        obtain ⟨hF, hS2, hI⟩ := hq
        replace E := zLet_s hF E
        have hS := hS.tr hS2 rfl rfl
        refine zg_goto X 134 dX3_unit_74 (by decide) ?_
        exact ret _ _ _ dX3_unit_134 ⟨E.symm.trans hR, hS, hI⟩
  · skip
    replace E := zIf_t c3 E
    refine zg_aload_n X 0 rfl dX3_unit_9 ?_
    refine fg_X3_18 X hI ha0 dX3_unit_10 (fun v47 ev47 hv47 => ?_)
    replace E := zLet_s (zgr ev47) E
    refine zg_iconst X 0 dX3_unit_13 (by decide) (fun v48 _ hv48 => ?_)
    replace E := zLet_s (zcst hv48 (by decide)) E
    refine zg_aload_n X 0 rfl dX3_unit_14 ?_
    refine fg_X3_29 X ha0 dX3_unit_15 (fun v49 ev49 => ?_)
    replace E := zLet_s ev49 E
    refine zg_l2i X dX3_unit_18 (fun v50 ev50 => ?_)
    replace E := zLet_s ev50 E
    refine zg_cVv (As := [.int v48, .int v50]) (st := []) X hv47 rfl (by decide) rfl (t_X9_addStep l d L kd κ 2 _ hI v47 hv47 v48 v50 ) mk_X3_145 mc_X9_addStep mz_X9 mi_X9_addStep ml_X9_addStep (na := 2) ⟨md_X9.1, md_X9.2, by decide +kernel⟩ rfl ⟨by decide, by decide⟩ (Nat.le_of_ble_eq_true rfl) dX3_unit_19 (fun s51 hq => ?_)
    obtain ⟨hF, hS2, hI⟩ := hq
    replace E := zLet_s hF E
    have hS := hS.tr hS2 rfl rfl
    refine zg_aload_n X 0 rfl dX3_unit_22 ?_
    refine zg_aload_n X 0 rfl dX3_unit_23 ?_
    refine fg_X3_26 X hI ha0 dX3_unit_24 (fun v52 ev52 _ => ?_)
    replace E := zLet_s ev52 E
    refine zg_cVv (As := [.int v52]) (st := []) X ha0 rfl (by decide) rfl (t_X3_take l d L kd κ 2 _ hI a0 ha0 v52 ) mk_X3_87 mc_X3_take mz_X3 mi_X3_take ml_X3_take (na := 1) ⟨md_X3.1, md_X3.2, by decide +kernel⟩ rfl ⟨by decide, by decide⟩ (Nat.le_of_ble_eq_true rfl) dX3_unit_27 (fun s53 hq => ?_)
    obtain ⟨hF, hS2, hI⟩ := hq
    replace E := zLet_s hF E
    have hS := hS.tr hS2 rfl rfl
    refine zg_goto X 134 dX3_unit_30 (by decide) ?_
    exact ret _ _ _ dX3_unit_134 ⟨E.symm.trans hR, hS, hI⟩
set_option maxHeartbeats 4000000 in
set_option maxRecDepth 100000 in
theorem t_X3_product_o0 (l : Launch) (d : zD2) (L : List Nat) (kd : Nat → Nat) (κ : Int) (σ : zS) (hI : zI κ 2 L kd σ) (a0 : Nat) (ha0 : zT L kd a0 3) (p1 : Int32) (hq0 : p1.toInt = 0) : zMv l yX3_product (Cond.code yX3_product cX3_product 4 none :: zWL) 21 [.ref a0, .int p1] d L kd σ (fun σ2 => σ2 = F_X3_product_o0 a0 p1 σ ∧ zSm [3, 9, 49, 50] [] L kd σ σ2 ∧ (zI κ 2 L kd σ2)) := by
  refine zMv.of (own := RX3) (by decide +kernel) rfl rfl (Nat.le_of_ble_eq_true rfl) ?_
  intro p e s m args below meth c A Q X ret
  refine zg_lv (lv2 := [(0, .ref a0), (1, .int p1)]) rfl ?_
  obtain ⟨R, hR⟩ : ∃ R, R = F_X3_product_o0 a0 p1 σ := ⟨_, rfl⟩
  have E := hR
  unfold F_X3_product_o0 at E
  have hS : zSm [3, 9, 49, 50] [] L kd σ σ := zSm.rf
  refine zg_aload_n X 0 rfl dX3_product_0 ?_
  refine zg_iload_n X 1 rfl dX3_product_1 ?_
  refine zg_cVv (As := [.int p1]) (st := []) X ha0 rfl (by decide) rfl (t_X3_unit_o0 l d L kd κ _ hI a0 ha0 p1 (by omega)) mk_X3_159 mc_X3_unit mz_X3 mi_X3_unit ml_X3_unit (na := 1) ⟨md_X3.1, md_X3.2, by decide +kernel⟩ rfl ⟨by decide, by decide⟩ (Nat.le_of_ble_eq_true rfl) dX3_product_2 (fun s1 hq => ?_)
  obtain ⟨hF, hS2, hI⟩ := hq
  replace E := zLet_s hF E
  have hS := hS.tr hS2 rfl rfl
  refine zg_iconst X 0 dX3_product_5 (by decide) (fun v2 _ hv2 => ?_)
  replace E := zLet_s (zcst hv2 (by decide)) E
  refine zg_istore_n X [(2, .int v2), (0, .ref a0), (1, .int p1)] dX3_product_6 (by decide) rfl ?_
  have Lp4 : ∀ (nLp4 : Nat) (τ4 : zS) (x3 : Int32), zI κ 2 L kd τ4 → zSm [3, 9, 49, 50] [] L kd σ τ4 → R = F_X3_product_o0_7 a0 p1  nLp4 x3 τ4 → 0 ≤ x3.toInt ∧ x3.toInt ≤ 401 → (401) - x3.toInt + 1 < (nLp4 : Int) → zG d L kd A 4 p l e (k2_rm 21 (100 * 21)) s m args below meth c Q τ4 7 [(2, .int x3), (0, .ref a0), (1, .int p1)] [] := by
    intro nLp4
    induction nLp4 with
    | zero => intro τ4 x3 hI hS E  hxLp4 hm ; exact absurd hm (by omega)
    | succ nLp4 ihLp4 =>
      intro τ4 x3 hI hS E  hxLp4 hmLp4 
      rw [F_X3_product_o0_7] at E
      refine zg_iload_n X 0 rfl dX3_product_7 ?_
      refine zg_sipush X 400 dX3_product_8 (by decide) (fun v5 _ hv5 => ?_)
      replace E := zLet_s (zcst hv5 (by decide)) E
      refine zg_icmp_gt X 68 dX3_product_11 (by decide) (fun c6 => ?_) (fun c6 => ?_)
      · skip
        replace E := zIf_t c6 E
        exact ret _ _ _ dX3_product_68 ⟨E.symm.trans hR, hS, hI⟩
      · skip
        replace E := zIf_f (Int.not_lt.mpr c6) E
        refine zg_aload_n X 1 rfl dX3_product_14 ?_
        refine fg_X3_26 X hI ha0 dX3_product_15 (fun v7 ev7 _ => ?_)
        replace E := zLet_s ev7 E
        refine zg_bipush X 28 dX3_product_18 (by decide) (fun v8 _ hv8 => ?_)
        replace E := zLet_s (zcst hv8 (by decide)) E
        refine zg_bipush X 29 dX3_product_20 (by decide) (fun v9 _ hv9 => ?_)
        replace E := zLet_s (zcst hv9 (by decide)) E
        refine zg_cSNi (As := [.int v7, .int v8, .int v9]) (st := []) X (t_X10_isWithin l d L kd _ v7 v8 v9 ) mk_X3_80 mc_X10_isWithin mz_X10 ms_X10_isWithin (na := 3) ⟨md_X10.1, md_X10.2, by decide +kernel⟩ rfl ⟨by decide, by decide⟩ (Nat.le_of_ble_eq_true rfl) dX3_product_22 (fun v10 σ2 hq => ?_)
        obtain ⟨⟨hF, hv10⟩, rfl⟩ := hq
        replace E := zLet_s hF E
        refine zg_if_eq X 68 dX3_product_25 (by decide) (fun c11 => ?_) (fun c11 => ?_)
        · skip
          replace E := zIf_t c11 E
          exact ret _ _ _ dX3_product_68 ⟨E.symm.trans hR, hS, hI⟩
        · skip
          replace E := zIf_f c11 E
          refine zg_aload_n X 1 rfl dX3_product_28 ?_
          refine fg_X3_26 X hI ha0 dX3_product_29 (fun v12 ev12 _ => ?_)
          replace E := zLet_s ev12 E
          have mv12 : v12.toInt = v7.toInt := by rw [ev12, ← ev7]
          refine zg_istore_n X [(3, .int v12), (2, .int x3), (0, .ref a0), (1, .int p1)] dX3_product_32 (by decide) rfl ?_
          refine zg_aload_n X 2 rfl dX3_product_33 ?_
          refine zg_iload_n X 0 rfl dX3_product_34 ?_
          refine zg_cVv (As := [.int v12]) (st := []) X ha0 rfl (by decide) rfl (t_X3_take l d L kd κ 2 _ hI a0 ha0 v12 ) mk_X3_87 mc_X3_take mz_X3 mi_X3_take ml_X3_take (na := 1) ⟨md_X3.1, md_X3.2, by decide +kernel⟩ rfl ⟨by decide, by decide⟩ (Nat.le_of_ble_eq_true rfl) dX3_product_35 (fun s13 hq => ?_)
          obtain ⟨hF, hS2, hI⟩ := hq
          replace E := zLet_s hF E
          have hS := hS.tr hS2 rfl rfl
          refine zg_aload_n X 2 rfl dX3_product_38 ?_
          refine zg_iload_n X 3 rfl dX3_product_39 ?_
          refine zg_cVv (As := [.int p1]) (st := []) X ha0 rfl (by decide) rfl (t_X3_unit_o0 l d L kd κ _ hI a0 ha0 p1 (by omega)) mk_X3_159 mc_X3_unit mz_X3 mi_X3_unit ml_X3_unit (na := 1) ⟨md_X3.1, md_X3.2, by decide +kernel⟩ rfl ⟨by decide, by decide⟩ (Nat.le_of_ble_eq_true rfl) dX3_product_40 (fun s14 hq => ?_)
          obtain ⟨hF, hS2, hI⟩ := hq
          replace E := zLet_s hF E
          have hS := hS.tr hS2 rfl rfl
          refine zg_aload_n X 2 rfl dX3_product_43 ?_
          refine fg_X3_18 X hI ha0 dX3_product_44 (fun v15 ev15 hv15 => ?_)
          replace E := zLet_s (zgr ev15) E
          refine zg_iload_n X 0 rfl dX3_product_47 ?_
          refine zg_bipush X 28 dX3_product_48 (by decide) (fun v16 _ hv16 => ?_)
          replace E := zLet_s (zcst hv16 (by decide)) E
          refine zg_icmp_ne X 57 dX3_product_50 (by decide) (fun c17 => ?_) (fun c17 => ?_)
          · skip
            replace E := zIf_f c17 E
            refine zg_iconst X 5 dX3_product_57 (by decide) (fun v18 _ hv18 => ?_)
            replace E := zLet_s (zcst hv18 (by decide)) E
            refine zg_iconst X 0 dX3_product_58 (by decide) (fun v19 _ hv19 => ?_)
            replace E := zLet_s (zcst hv19 (by decide)) E
            refine zg_cVv (As := [.int v18, .int v19]) (st := []) X hv15 rfl (by decide) rfl (t_X9_addStep l d L kd κ 2 _ hI v15 hv15 v18 v19 ) mk_X3_145 mc_X9_addStep mz_X9 mi_X9_addStep ml_X9_addStep (na := 2) ⟨md_X9.1, md_X9.2, by decide +kernel⟩ rfl ⟨by decide, by decide⟩ (Nat.le_of_ble_eq_true rfl) dX3_product_59 (fun s20 hq => ?_)
            obtain ⟨hF, hS2, hI⟩ := hq
            replace E := zLet_s hF E
            have hS := hS.tr hS2 rfl rfl
            refine zg_iinc X 1 (fun v21 => [(2, .int v21), (3, .int v12), (0, .ref a0), (1, .int p1)]) 1 dX3_product_62 rfl (by decide) (by decide) (by omega) (by omega) (fun _ => rfl) (fun v21 ev21 hv21 => ?_)
            replace E := zLet_s (zinc ev21 (by decide)) E
            refine zg_goto X 7 dX3_product_65 (by decide) ?_
            refine zg_sub [0, 2, 3] rfl ?_
            exact ihLp4 _ v21 hI hS E  (by omega) (by omega) 
          · skip
            replace E := zIf_t c17 E
            refine zg_iconst X 4 dX3_product_53 (by decide) (fun v22 _ hv22 => ?_)
            replace E := zLet_s (zcst hv22 (by decide)) E
            refine zg_goto X 58 dX3_product_54 (by decide) ?_
            refine zg_iconst X 0 dX3_product_58 (by decide) (fun v23 _ hv23 => ?_)
            replace E := zLet_s (zcst hv23 (by decide)) E
            refine zg_cVv (As := [.int v22, .int v23]) (st := []) X hv15 rfl (by decide) rfl (t_X9_addStep l d L kd κ 2 _ hI v15 hv15 v22 v23 ) mk_X3_145 mc_X9_addStep mz_X9 mi_X9_addStep ml_X9_addStep (na := 2) ⟨md_X9.1, md_X9.2, by decide +kernel⟩ rfl ⟨by decide, by decide⟩ (Nat.le_of_ble_eq_true rfl) dX3_product_59 (fun s24 hq => ?_)
            obtain ⟨hF, hS2, hI⟩ := hq
            replace E := zLet_s hF E
            have hS := hS.tr hS2 rfl rfl
            refine zg_iinc X 1 (fun v25 => [(2, .int v25), (3, .int v12), (0, .ref a0), (1, .int p1)]) 1 dX3_product_62 rfl (by decide) (by decide) (by omega) (by omega) (fun _ => rfl) (fun v25 ev25 hv25 => ?_)
            replace E := zLet_s (zinc ev25 (by decide)) E
            refine zg_goto X 7 dX3_product_65 (by decide) ?_
            refine zg_sub [0, 2, 3] rfl ?_
            exact ihLp4 _ v25 hI hS E  (by omega) (by omega) 
  refine zg_sub [0, 1, 2] rfl ?_
  exact Lp4 10000 _ v2 hI hS E  (by omega) (by omega) 
set_option maxHeartbeats 4000000 in
set_option maxRecDepth 100000 in
theorem t_X3_sum_o0 (l : Launch) (d : zD2) (L : List Nat) (kd : Nat → Nat) (κ : Int) (σ : zS) (hI : zI κ 2 L kd σ) (a0 : Nat) (ha0 : zT L kd a0 3) (p1 : Int32) (hq0 : p1.toInt = 0) : zMv l yX3_sum (Cond.code yX3_sum cX3_sum 4 none :: zWL) 22 [.ref a0, .int p1] d L kd σ (fun σ2 => σ2 = F_X3_sum_o0 a0 p1 σ ∧ zSm [3, 9, 49, 50] [] L kd σ σ2 ∧ (zI κ 2 L kd σ2)) := by
  refine zMv.of (own := RX3) (by decide +kernel) rfl rfl (Nat.le_of_ble_eq_true rfl) ?_
  intro p e s m args below meth c A Q X ret
  refine zg_lv (lv2 := [(0, .ref a0), (1, .int p1)]) rfl ?_
  obtain ⟨R, hR⟩ : ∃ R, R = F_X3_sum_o0 a0 p1 σ := ⟨_, rfl⟩
  have E := hR
  unfold F_X3_sum_o0 at E
  have hS : zSm [3, 9, 49, 50] [] L kd σ σ := zSm.rf
  refine zg_aload_n X 0 rfl dX3_sum_0 ?_
  refine zg_iload_n X 1 rfl dX3_sum_1 ?_
  refine zg_cVv (As := [.int p1]) (st := []) X ha0 rfl (by decide) rfl (t_X3_product_o0 l d L kd κ _ hI a0 ha0 p1 (by omega)) mk_X3_156 mc_X3_product mz_X3 mi_X3_product ml_X3_product (na := 1) ⟨md_X3.1, md_X3.2, by decide +kernel⟩ rfl ⟨by decide, by decide⟩ (Nat.le_of_ble_eq_true rfl) dX3_sum_2 (fun s1 hq => ?_)
  obtain ⟨hF, hS2, hI⟩ := hq
  replace E := zLet_s hF E
  have hS := hS.tr hS2 rfl rfl
  refine zg_iconst X 0 dX3_sum_5 (by decide) (fun v2 _ hv2 => ?_)
  replace E := zLet_s (zcst hv2 (by decide)) E
  refine zg_istore_n X [(2, .int v2), (0, .ref a0), (1, .int p1)] dX3_sum_6 (by decide) rfl ?_
  have Lp4 : ∀ (nLp4 : Nat) (τ4 : zS) (x3 : Int32), zI κ 2 L kd τ4 → zSm [3, 9, 49, 50] [] L kd σ τ4 → R = F_X3_sum_o0_7 a0 p1  nLp4 x3 τ4 → 0 ≤ x3.toInt ∧ x3.toInt ≤ 401 → (401) - x3.toInt + 1 < (nLp4 : Int) → zG d L kd A 4 p l e (k2_rm 22 (100 * 22)) s m args below meth c Q τ4 7 [(2, .int x3), (0, .ref a0), (1, .int p1)] [] := by
    intro nLp4
    induction nLp4 with
    | zero => intro τ4 x3 hI hS E  hxLp4 hm ; exact absurd hm (by omega)
    | succ nLp4 ihLp4 =>
      intro τ4 x3 hI hS E  hxLp4 hmLp4 
      rw [F_X3_sum_o0_7] at E
      refine zg_iload_n X 0 rfl dX3_sum_7 ?_
      refine zg_sipush X 400 dX3_sum_8 (by decide) (fun v5 _ hv5 => ?_)
      replace E := zLet_s (zcst hv5 (by decide)) E
      refine zg_icmp_gt X 68 dX3_sum_11 (by decide) (fun c6 => ?_) (fun c6 => ?_)
      · skip
        replace E := zIf_t c6 E
        exact ret _ _ _ dX3_sum_68 ⟨E.symm.trans hR, hS, hI⟩
      · skip
        replace E := zIf_f (Int.not_lt.mpr c6) E
        refine zg_aload_n X 1 rfl dX3_sum_14 ?_
        refine fg_X3_26 X hI ha0 dX3_sum_15 (fun v7 ev7 _ => ?_)
        replace E := zLet_s ev7 E
        refine zg_bipush X 26 dX3_sum_18 (by decide) (fun v8 _ hv8 => ?_)
        replace E := zLet_s (zcst hv8 (by decide)) E
        refine zg_bipush X 27 dX3_sum_20 (by decide) (fun v9 _ hv9 => ?_)
        replace E := zLet_s (zcst hv9 (by decide)) E
        refine zg_cSNi (As := [.int v7, .int v8, .int v9]) (st := []) X (t_X10_isWithin l d L kd _ v7 v8 v9 ) mk_X3_80 mc_X10_isWithin mz_X10 ms_X10_isWithin (na := 3) ⟨md_X10.1, md_X10.2, by decide +kernel⟩ rfl ⟨by decide, by decide⟩ (Nat.le_of_ble_eq_true rfl) dX3_sum_22 (fun v10 σ2 hq => ?_)
        obtain ⟨⟨hF, hv10⟩, rfl⟩ := hq
        replace E := zLet_s hF E
        refine zg_if_eq X 68 dX3_sum_25 (by decide) (fun c11 => ?_) (fun c11 => ?_)
        · skip
          replace E := zIf_t c11 E
          exact ret _ _ _ dX3_sum_68 ⟨E.symm.trans hR, hS, hI⟩
        · skip
          replace E := zIf_f c11 E
          refine zg_aload_n X 1 rfl dX3_sum_28 ?_
          refine fg_X3_26 X hI ha0 dX3_sum_29 (fun v12 ev12 _ => ?_)
          replace E := zLet_s ev12 E
          have mv12 : v12.toInt = v7.toInt := by rw [ev12, ← ev7]
          refine zg_istore_n X [(3, .int v12), (2, .int x3), (0, .ref a0), (1, .int p1)] dX3_sum_32 (by decide) rfl ?_
          refine zg_aload_n X 2 rfl dX3_sum_33 ?_
          refine zg_iload_n X 0 rfl dX3_sum_34 ?_
          refine zg_cVv (As := [.int v12]) (st := []) X ha0 rfl (by decide) rfl (t_X3_take l d L kd κ 2 _ hI a0 ha0 v12 ) mk_X3_87 mc_X3_take mz_X3 mi_X3_take ml_X3_take (na := 1) ⟨md_X3.1, md_X3.2, by decide +kernel⟩ rfl ⟨by decide, by decide⟩ (Nat.le_of_ble_eq_true rfl) dX3_sum_35 (fun s13 hq => ?_)
          obtain ⟨hF, hS2, hI⟩ := hq
          replace E := zLet_s hF E
          have hS := hS.tr hS2 rfl rfl
          refine zg_aload_n X 2 rfl dX3_sum_38 ?_
          refine zg_iload_n X 3 rfl dX3_sum_39 ?_
          refine zg_cVv (As := [.int p1]) (st := []) X ha0 rfl (by decide) rfl (t_X3_product_o0 l d L kd κ _ hI a0 ha0 p1 (by omega)) mk_X3_156 mc_X3_product mz_X3 mi_X3_product ml_X3_product (na := 1) ⟨md_X3.1, md_X3.2, by decide +kernel⟩ rfl ⟨by decide, by decide⟩ (Nat.le_of_ble_eq_true rfl) dX3_sum_40 (fun s14 hq => ?_)
          obtain ⟨hF, hS2, hI⟩ := hq
          replace E := zLet_s hF E
          have hS := hS.tr hS2 rfl rfl
          refine zg_aload_n X 2 rfl dX3_sum_43 ?_
          refine fg_X3_18 X hI ha0 dX3_sum_44 (fun v15 ev15 hv15 => ?_)
          replace E := zLet_s (zgr ev15) E
          refine zg_iload_n X 0 rfl dX3_sum_47 ?_
          refine zg_bipush X 26 dX3_sum_48 (by decide) (fun v16 _ hv16 => ?_)
          replace E := zLet_s (zcst hv16 (by decide)) E
          refine zg_icmp_ne X 57 dX3_sum_50 (by decide) (fun c17 => ?_) (fun c17 => ?_)
          · skip
            replace E := zIf_f c17 E
            refine zg_iconst X 3 dX3_sum_57 (by decide) (fun v18 _ hv18 => ?_)
            replace E := zLet_s (zcst hv18 (by decide)) E
            refine zg_iconst X 0 dX3_sum_58 (by decide) (fun v19 _ hv19 => ?_)
            replace E := zLet_s (zcst hv19 (by decide)) E
            refine zg_cVv (As := [.int v18, .int v19]) (st := []) X hv15 rfl (by decide) rfl (t_X9_addStep l d L kd κ 2 _ hI v15 hv15 v18 v19 ) mk_X3_145 mc_X9_addStep mz_X9 mi_X9_addStep ml_X9_addStep (na := 2) ⟨md_X9.1, md_X9.2, by decide +kernel⟩ rfl ⟨by decide, by decide⟩ (Nat.le_of_ble_eq_true rfl) dX3_sum_59 (fun s20 hq => ?_)
            obtain ⟨hF, hS2, hI⟩ := hq
            replace E := zLet_s hF E
            have hS := hS.tr hS2 rfl rfl
            refine zg_iinc X 1 (fun v21 => [(2, .int v21), (3, .int v12), (0, .ref a0), (1, .int p1)]) 1 dX3_sum_62 rfl (by decide) (by decide) (by omega) (by omega) (fun _ => rfl) (fun v21 ev21 hv21 => ?_)
            replace E := zLet_s (zinc ev21 (by decide)) E
            refine zg_goto X 7 dX3_sum_65 (by decide) ?_
            refine zg_sub [0, 2, 3] rfl ?_
            exact ihLp4 _ v21 hI hS E  (by omega) (by omega) 
          · skip
            replace E := zIf_t c17 E
            refine zg_iconst X 2 dX3_sum_53 (by decide) (fun v22 _ hv22 => ?_)
            replace E := zLet_s (zcst hv22 (by decide)) E
            refine zg_goto X 58 dX3_sum_54 (by decide) ?_
            refine zg_iconst X 0 dX3_sum_58 (by decide) (fun v23 _ hv23 => ?_)
            replace E := zLet_s (zcst hv23 (by decide)) E
            refine zg_cVv (As := [.int v22, .int v23]) (st := []) X hv15 rfl (by decide) rfl (t_X9_addStep l d L kd κ 2 _ hI v15 hv15 v22 v23 ) mk_X3_145 mc_X9_addStep mz_X9 mi_X9_addStep ml_X9_addStep (na := 2) ⟨md_X9.1, md_X9.2, by decide +kernel⟩ rfl ⟨by decide, by decide⟩ (Nat.le_of_ble_eq_true rfl) dX3_sum_59 (fun s24 hq => ?_)
            obtain ⟨hF, hS2, hI⟩ := hq
            replace E := zLet_s hF E
            have hS := hS.tr hS2 rfl rfl
            refine zg_iinc X 1 (fun v25 => [(2, .int v25), (3, .int v12), (0, .ref a0), (1, .int p1)]) 1 dX3_sum_62 rfl (by decide) (by decide) (by omega) (by omega) (fun _ => rfl) (fun v25 ev25 hv25 => ?_)
            replace E := zLet_s (zinc ev25 (by decide)) E
            refine zg_goto X 7 dX3_sum_65 (by decide) ?_
            refine zg_sub [0, 2, 3] rfl ?_
            exact ihLp4 _ v25 hI hS E  (by omega) (by omega) 
  refine zg_sub [0, 1, 2] rfl ?_
  exact Lp4 10000 _ v2 hI hS E  (by omega) (by omega) 
set_option maxHeartbeats 4000000 in
set_option maxRecDepth 100000 in
theorem t_X3_law (l : Launch) (d : zD2) (L : List Nat) (kd : Nat → Nat) (κ : Int) (σ : zS) (hI : zI κ 2 L kd σ) (a0 : Nat) (ha0 : zT L kd a0 3) (p1 : Int32) (hq0 : 0 ≤ p1.toInt ∧ p1.toInt ≤ 4) : zMv l yX3_law (Cond.code yX3_law cX3_law 5 none :: zWL) 23 [.ref a0, .int p1] d L kd σ (fun σ2 => σ2 = F_X3_law a0 p1 σ ∧ zSm [3, 9, 49, 50, 51] [] L kd σ σ2 ∧ (zI κ 2 L kd σ2)) := by
  refine zMv.of (own := RX3) (by decide +kernel) rfl rfl (Nat.le_of_ble_eq_true rfl) ?_
  intro p e s m args below meth c A Q X ret
  refine zg_lv (lv2 := [(0, .ref a0), (1, .int p1)]) rfl ?_
  obtain ⟨R, hR⟩ : ∃ R, R = F_X3_law a0 p1 σ := ⟨_, rfl⟩
  have E := hR
  unfold F_X3_law at E
  have hS : zSm [3, 9, 49, 50, 51] [] L kd σ σ := zSm.rf
  refine zg_aload_n X 0 rfl dX3_law_0 ?_
  refine zg_iconst X 2 dX3_law_1 (by decide) (fun v1 _ hv1 => ?_)
  replace E := zLet_s (zcst hv1 (by decide)) E
  refine zg_iload_n X 1 rfl dX3_law_2 ?_
  refine zg_iadd X dX3_law_3 (by omega) (by omega) (fun v2 ev2 hv2 => ?_)
  replace E := zLet_s ev2 E
  refine zg_cVv (As := [.int v2]) (st := []) X ha0 rfl (by decide) rfl (t_X3_take l d L kd κ 2 _ hI a0 ha0 v2 ) mk_X3_87 mc_X3_take mz_X3 mi_X3_take ml_X3_take (na := 1) ⟨md_X3.1, md_X3.2, by decide +kernel⟩ rfl ⟨by decide, by decide⟩ (Nat.le_of_ble_eq_true rfl) dX3_law_4 (fun s3 hq => ?_)
  obtain ⟨hF, hS2, hI⟩ := hq
  replace E := zLet_s hF E
  have hS := hS.tr hS2 rfl rfl
  refine zg_aload_n X 0 rfl dX3_law_7 ?_
  refine zg_bipush X 25 dX3_law_8 (by decide) (fun v4 _ hv4 => ?_)
  replace E := zLet_s (zcst hv4 (by decide)) E
  refine zg_cVv (As := [.int v4]) (st := []) X ha0 rfl (by decide) rfl (t_X3_take l d L kd κ 2 _ hI a0 ha0 v4 ) mk_X3_87 mc_X3_take mz_X3 mi_X3_take ml_X3_take (na := 1) ⟨md_X3.1, md_X3.2, by decide +kernel⟩ rfl ⟨by decide, by decide⟩ (Nat.le_of_ble_eq_true rfl) dX3_law_10 (fun s5 hq => ?_)
  obtain ⟨hF, hS2, hI⟩ := hq
  replace E := zLet_s hF E
  have hS := hS.tr hS2 rfl rfl
  refine zg_aload_n X 0 rfl dX3_law_13 ?_
  refine fg_X3_18 X hI ha0 dX3_law_14 (fun v6 ev6 hv6 => ?_)
  replace E := zLet_s (zgr ev6) E
  refine fg_X3_137 X hI hv6 dX3_law_17 (fun v7 ev7 hv7 => ?_)
  replace E := zLet_s ev7 E
  refine zg_istore_n X [(2, .int v7), (0, .ref a0), (1, .int p1)] dX3_law_20 (by decide) rfl ?_
  refine zg_iconst X 0 dX3_law_21 (by decide) (fun v8 _ hv8 => ?_)
  replace E := zLet_s (zcst hv8 (by decide)) E
  refine zg_istore_n X [(3, .int v8), (2, .int v7), (0, .ref a0), (1, .int p1)] dX3_law_22 (by decide) rfl ?_
  have Lp10 : ∀ (nLp10 : Nat) (τ10 : zS) (x9 : Int32), zI κ 2 L kd τ10 → zSm [3, 9, 49, 50, 51] [] L kd σ τ10 → R = F_X3_law_23 v7 a0 p1  nLp10 x9 τ10 → 0 ≤ x9.toInt ∧ x9.toInt ≤ 5 → (5) - x9.toInt + 1 < (nLp10 : Int) → zG d L kd A 5 p l e (k2_rm 23 (100 * 23)) s m args below meth c Q τ10 23 [(3, .int x9), (2, .int v7), (0, .ref a0), (1, .int p1)] [] := by
    intro nLp10
    induction nLp10 with
    | zero => intro τ10 x9 hI hS E  hxLp10 hm ; exact absurd hm (by omega)
    | succ nLp10 ihLp10 =>
      intro τ10 x9 hI hS E  hxLp10 hmLp10 
      rw [F_X3_law_23] at E
      refine zg_iload_n X 0 rfl dX3_law_23 ?_
      refine zg_iconst X 4 dX3_law_24 (by decide) (fun v11 _ hv11 => ?_)
      replace E := zLet_s (zcst hv11 (by decide)) E
      refine zg_icmp_gt X 137 dX3_law_25 (by decide) (fun c12 => ?_) (fun c12 => ?_)
      · skip
        replace E := zIf_t c12 E
        refine zg_aload_n X 2 rfl dX3_law_137 ?_
        refine zg_iconst X 0 dX3_law_138 (by decide) (fun v13 _ hv13 => ?_)
        replace E := zLet_s (zcst hv13 (by decide)) E
        refine zg_cVv (As := [.int v13]) (st := []) X ha0 rfl (by decide) rfl (t_X3_sum_o0 l d L kd κ _ hI a0 ha0 v13 (by omega)) mk_X3_140 mc_X3_sum mz_X3 mi_X3_sum ml_X3_sum (na := 1) ⟨md_X3.1, md_X3.2, by decide +kernel⟩ rfl ⟨by decide, by decide⟩ (Nat.le_of_ble_eq_true rfl) dX3_law_139 (fun s14 hq => ?_)
        obtain ⟨hF, hS2, hI⟩ := hq
        replace E := zLet_s hF E
        have hS := hS.tr hS2 rfl rfl
        refine zg_aload_n X 2 rfl dX3_law_142 ?_
        refine fg_X3_18 X hI ha0 dX3_law_143 (fun v15 ev15 hv15 => ?_)
        replace E := zLet_s (zgr ev15) E
        refine zg_bipush X 7 dX3_law_146 (by decide) (fun v16 _ hv16 => ?_)
        replace E := zLet_s (zcst hv16 (by decide)) E
        refine zg_iconst X 0 dX3_law_148 (by decide) (fun v17 _ hv17 => ?_)
        replace E := zLet_s (zcst hv17 (by decide)) E
        refine zg_cVv (As := [.int v16, .int v17]) (st := []) X hv15 rfl (by decide) rfl (t_X9_addStep l d L kd κ 2 _ hI v15 hv15 v16 v17 ) mk_X3_145 mc_X9_addStep mz_X9 mi_X9_addStep ml_X9_addStep (na := 2) ⟨md_X9.1, md_X9.2, by decide +kernel⟩ rfl ⟨by decide, by decide⟩ (Nat.le_of_ble_eq_true rfl) dX3_law_149 (fun s18 hq => ?_)
        obtain ⟨hF, hS2, hI⟩ := hq
        replace E := zLet_s hF E
        have hS := hS.tr hS2 rfl rfl
        refine zg_aload_n X 2 rfl dX3_law_152 ?_
        refine fg_X3_18 X hI ha0 dX3_law_153 (fun v19 ev19 hv19 => ?_)
        replace E := zLet_s (zgr ev19) E
        refine fg_X3_152 X hI hv19 dX3_law_156 (fun v20 ev20 hv20 => ?_)
        replace E := zLet_s (zgr ev20) E
        refine zg_iload_n X 3 rfl dX3_law_159 ?_
        refine zg_iload_n X 1 rfl dX3_law_160 ?_
        refine as_51 X hI hv20 (by omega) (by omega) dX3_law_161 (fun s21 es21 hI => ?_)
        replace E := zLet_s es21 E
        have hS := hS.i hv20 es21 rfl
        exact ret _ _ _ dX3_law_162 ⟨E.symm.trans hR, hS, hI⟩
      · skip
        replace E := zIf_f (Int.not_lt.mpr c12) E
        refine zg_aload_n X 2 rfl dX3_law_28 ?_
        refine fg_X3_26 X hI ha0 dX3_law_29 (fun v22 ev22 _ => ?_)
        replace E := zLet_s ev22 E
        refine zg_bipush X 10 dX3_law_32 (by decide) (fun v23 _ hv23 => ?_)
        replace E := zLet_s (zcst hv23 (by decide)) E
        refine zg_icmp_ne X 137 dX3_law_34 (by decide) (fun c24 => ?_) (fun c24 => ?_)
        · skip
          replace E := zIf_f c24 E
          refine zg_aload_n X 2 rfl dX3_law_137 ?_
          refine zg_iconst X 0 dX3_law_138 (by decide) (fun v25 _ hv25 => ?_)
          replace E := zLet_s (zcst hv25 (by decide)) E
          refine zg_cVv (As := [.int v25]) (st := []) X ha0 rfl (by decide) rfl (t_X3_sum_o0 l d L kd κ _ hI a0 ha0 v25 (by omega)) mk_X3_140 mc_X3_sum mz_X3 mi_X3_sum ml_X3_sum (na := 1) ⟨md_X3.1, md_X3.2, by decide +kernel⟩ rfl ⟨by decide, by decide⟩ (Nat.le_of_ble_eq_true rfl) dX3_law_139 (fun s26 hq => ?_)
          obtain ⟨hF, hS2, hI⟩ := hq
          replace E := zLet_s hF E
          have hS := hS.tr hS2 rfl rfl
          refine zg_aload_n X 2 rfl dX3_law_142 ?_
          refine fg_X3_18 X hI ha0 dX3_law_143 (fun v27 ev27 hv27 => ?_)
          replace E := zLet_s (zgr ev27) E
          refine zg_bipush X 7 dX3_law_146 (by decide) (fun v28 _ hv28 => ?_)
          replace E := zLet_s (zcst hv28 (by decide)) E
          refine zg_iconst X 0 dX3_law_148 (by decide) (fun v29 _ hv29 => ?_)
          replace E := zLet_s (zcst hv29 (by decide)) E
          refine zg_cVv (As := [.int v28, .int v29]) (st := []) X hv27 rfl (by decide) rfl (t_X9_addStep l d L kd κ 2 _ hI v27 hv27 v28 v29 ) mk_X3_145 mc_X9_addStep mz_X9 mi_X9_addStep ml_X9_addStep (na := 2) ⟨md_X9.1, md_X9.2, by decide +kernel⟩ rfl ⟨by decide, by decide⟩ (Nat.le_of_ble_eq_true rfl) dX3_law_149 (fun s30 hq => ?_)
          obtain ⟨hF, hS2, hI⟩ := hq
          replace E := zLet_s hF E
          have hS := hS.tr hS2 rfl rfl
          refine zg_aload_n X 2 rfl dX3_law_152 ?_
          refine fg_X3_18 X hI ha0 dX3_law_153 (fun v31 ev31 hv31 => ?_)
          replace E := zLet_s (zgr ev31) E
          refine fg_X3_152 X hI hv31 dX3_law_156 (fun v32 ev32 hv32 => ?_)
          replace E := zLet_s (zgr ev32) E
          refine zg_iload_n X 3 rfl dX3_law_159 ?_
          refine zg_iload_n X 1 rfl dX3_law_160 ?_
          refine as_51 X hI hv32 (by omega) (by omega) dX3_law_161 (fun s33 es33 hI => ?_)
          replace E := zLet_s es33 E
          have hS := hS.i hv32 es33 rfl
          exact ret _ _ _ dX3_law_162 ⟨E.symm.trans hR, hS, hI⟩
        · skip
          replace E := zIf_t c24 E
          refine zg_iload_n X 0 rfl dX3_law_37 ?_
          refine zg_iconst X 4 dX3_law_38 (by decide) (fun v34 _ hv34 => ?_)
          replace E := zLet_s (zcst hv34 (by decide)) E
          refine zg_icmp_ne X 47 dX3_law_39 (by decide) (fun c35 => ?_) (fun c35 => ?_)
          · skip
            replace E := zIf_f c35 E
            refine zg_aload_n X 2 rfl dX3_law_47 ?_
            refine zg_bipush X 10 dX3_law_48 (by decide) (fun v36 _ hv36 => ?_)
            replace E := zLet_s (zcst hv36 (by decide)) E
            refine zg_cVv (As := [.int v36]) (st := []) X ha0 rfl (by decide) rfl (t_X3_take l d L kd κ 2 _ hI a0 ha0 v36 ) mk_X3_87 mc_X3_take mz_X3 mi_X3_take ml_X3_take (na := 1) ⟨md_X3.1, md_X3.2, by decide +kernel⟩ rfl ⟨by decide, by decide⟩ (Nat.le_of_ble_eq_true rfl) dX3_law_50 (fun s37 hq => ?_)
            obtain ⟨hF, hS2, hI⟩ := hq
            replace E := zLet_s hF E
            have hS := hS.tr hS2 rfl rfl
            refine zg_aload_n X 2 rfl dX3_law_53 ?_
            refine zg_iconst X 0 dX3_law_54 (by decide) (fun v38 _ hv38 => ?_)
            replace E := zLet_s (zcst hv38 (by decide)) E
            refine zg_cVv (As := [.int v38]) (st := []) X ha0 rfl (by decide) rfl (t_X3_sum_o0 l d L kd κ _ hI a0 ha0 v38 (by omega)) mk_X3_140 mc_X3_sum mz_X3 mi_X3_sum ml_X3_sum (na := 1) ⟨md_X3.1, md_X3.2, by decide +kernel⟩ rfl ⟨by decide, by decide⟩ (Nat.le_of_ble_eq_true rfl) dX3_law_55 (fun s39 hq => ?_)
            obtain ⟨hF, hS2, hI⟩ := hq
            replace E := zLet_s hF E
            have hS := hS.tr hS2 rfl rfl
            refine zg_aload_n X 2 rfl dX3_law_58 ?_
            refine zg_bipush X 30 dX3_law_59 (by decide) (fun v40 _ hv40 => ?_)
            replace E := zLet_s (zcst hv40 (by decide)) E
            refine zg_cVv (As := [.int v40]) (st := []) X ha0 rfl (by decide) rfl (t_X3_take l d L kd κ 2 _ hI a0 ha0 v40 ) mk_X3_87 mc_X3_take mz_X3 mi_X3_take ml_X3_take (na := 1) ⟨md_X3.1, md_X3.2, by decide +kernel⟩ rfl ⟨by decide, by decide⟩ (Nat.le_of_ble_eq_true rfl) dX3_law_61 (fun s41 hq => ?_)
            obtain ⟨hF, hS2, hI⟩ := hq
            replace E := zLet_s hF E
            have hS := hS.tr hS2 rfl rfl
            refine zg_aload_n X 2 rfl dX3_law_64 ?_
            refine zg_iconst X 0 dX3_law_65 (by decide) (fun v42 _ hv42 => ?_)
            replace E := zLet_s (zcst hv42 (by decide)) E
            refine zg_cVv (As := [.int v42]) (st := []) X ha0 rfl (by decide) rfl (t_X3_sum_o0 l d L kd κ _ hI a0 ha0 v42 (by omega)) mk_X3_140 mc_X3_sum mz_X3 mi_X3_sum ml_X3_sum (na := 1) ⟨md_X3.1, md_X3.2, by decide +kernel⟩ rfl ⟨by decide, by decide⟩ (Nat.le_of_ble_eq_true rfl) dX3_law_66 (fun s43 hq => ?_)
            obtain ⟨hF, hS2, hI⟩ := hq
            replace E := zLet_s hF E
            have hS := hS.tr hS2 rfl rfl
            refine zg_aload_n X 2 rfl dX3_law_69 ?_
            refine zg_bipush X 11 dX3_law_70 (by decide) (fun v44 _ hv44 => ?_)
            replace E := zLet_s (zcst hv44 (by decide)) E
            refine zg_cVv (As := [.int v44]) (st := []) X ha0 rfl (by decide) rfl (t_X3_take l d L kd κ 2 _ hI a0 ha0 v44 ) mk_X3_87 mc_X3_take mz_X3 mi_X3_take ml_X3_take (na := 1) ⟨md_X3.1, md_X3.2, by decide +kernel⟩ rfl ⟨by decide, by decide⟩ (Nat.le_of_ble_eq_true rfl) dX3_law_72 (fun s45 hq => ?_)
            obtain ⟨hF, hS2, hI⟩ := hq
            replace E := zLet_s hF E
            have hS := hS.tr hS2 rfl rfl
            refine zg_aload_n X 2 rfl dX3_law_75 ?_
            refine fg_X3_18 X hI ha0 dX3_law_76 (fun v46 ev46 hv46 => ?_)
            replace E := zLet_s (zgr ev46) E
            refine fg_X3_137 X hI hv46 dX3_law_79 (fun v47 ev47 hv47 => ?_)
            replace E := zLet_s ev47 E
            refine zg_istore X [(4, .int v47), (3, .int x9), (2, .int v7), (0, .ref a0), (1, .int p1)] dX3_law_82 (by decide) rfl ?_
            refine zg_aload_n X 3 rfl dX3_law_84 ?_
            refine fg_X3_18 X hI ha0 dX3_law_85 (fun v48 ev48 hv48 => ?_)
            replace E := zLet_s (zgr ev48) E
            refine zg_bipush X 6 dX3_law_88 (by decide) (fun v49 _ hv49 => ?_)
            replace E := zLet_s (zcst hv49 (by decide)) E
            refine zg_iconst X 0 dX3_law_90 (by decide) (fun v50 _ hv50 => ?_)
            replace E := zLet_s (zcst hv50 (by decide)) E
            refine zg_cVv (As := [.int v49, .int v50]) (st := []) X hv48 rfl (by decide) rfl (t_X9_addStep l d L kd κ 2 _ hI v48 hv48 v49 v50 ) mk_X3_145 mc_X9_addStep mz_X9 mi_X9_addStep ml_X9_addStep (na := 2) ⟨md_X9.1, md_X9.2, by decide +kernel⟩ rfl ⟨by decide, by decide⟩ (Nat.le_of_ble_eq_true rfl) dX3_law_91 (fun s51 hq => ?_)
            obtain ⟨hF, hS2, hI⟩ := hq
            replace E := zLet_s hF E
            have hS := hS.tr hS2 rfl rfl
            refine zg_aload_n X 3 rfl dX3_law_94 ?_
            refine zg_iconst X 0 dX3_law_95 (by decide) (fun v52 _ hv52 => ?_)
            replace E := zLet_s (zcst hv52 (by decide)) E
            refine zg_cVv (As := [.int v52]) (st := []) X ha0 rfl (by decide) rfl (t_X3_sum_o0 l d L kd κ _ hI a0 ha0 v52 (by omega)) mk_X3_140 mc_X3_sum mz_X3 mi_X3_sum ml_X3_sum (na := 1) ⟨md_X3.1, md_X3.2, by decide +kernel⟩ rfl ⟨by decide, by decide⟩ (Nat.le_of_ble_eq_true rfl) dX3_law_96 (fun s53 hq => ?_)
            obtain ⟨hF, hS2, hI⟩ := hq
            replace E := zLet_s hF E
            have hS := hS.tr hS2 rfl rfl
            refine zg_aload_n X 3 rfl dX3_law_99 ?_
            refine zg_bipush X 12 dX3_law_100 (by decide) (fun v54 _ hv54 => ?_)
            replace E := zLet_s (zcst hv54 (by decide)) E
            refine zg_cVv (As := [.int v54]) (st := []) X ha0 rfl (by decide) rfl (t_X3_take l d L kd κ 2 _ hI a0 ha0 v54 ) mk_X3_87 mc_X3_take mz_X3 mi_X3_take ml_X3_take (na := 1) ⟨md_X3.1, md_X3.2, by decide +kernel⟩ rfl ⟨by decide, by decide⟩ (Nat.le_of_ble_eq_true rfl) dX3_law_102 (fun s55 hq => ?_)
            obtain ⟨hF, hS2, hI⟩ := hq
            replace E := zLet_s hF E
            have hS := hS.tr hS2 rfl rfl
            refine zg_aload_n X 3 rfl dX3_law_105 ?_
            refine fg_X3_18 X hI ha0 dX3_law_106 (fun v56 ev56 hv56 => ?_)
            replace E := zLet_s (zgr ev56) E
            refine zg_bipush X 7 dX3_law_109 (by decide) (fun v57 _ hv57 => ?_)
            replace E := zLet_s (zcst hv57 (by decide)) E
            refine zg_iconst X 0 dX3_law_111 (by decide) (fun v58 _ hv58 => ?_)
            replace E := zLet_s (zcst hv58 (by decide)) E
            refine zg_cVv (As := [.int v57, .int v58]) (st := []) X hv56 rfl (by decide) rfl (t_X9_addStep l d L kd κ 2 _ hI v56 hv56 v57 v58 ) mk_X3_145 mc_X9_addStep mz_X9 mi_X9_addStep ml_X9_addStep (na := 2) ⟨md_X9.1, md_X9.2, by decide +kernel⟩ rfl ⟨by decide, by decide⟩ (Nat.le_of_ble_eq_true rfl) dX3_law_112 (fun s59 hq => ?_)
            obtain ⟨hF, hS2, hI⟩ := hq
            replace E := zLet_s hF E
            have hS := hS.tr hS2 rfl rfl
            refine zg_aload_n X 3 rfl dX3_law_115 ?_
            refine fg_X3_18 X hI ha0 dX3_law_116 (fun v60 ev60 hv60 => ?_)
            replace E := zLet_s (zgr ev60) E
            refine zg_iload X 0 rfl dX3_law_119 ?_
            refine zg_aload_n X 3 rfl dX3_law_121 ?_
            refine fg_X3_18 X hI ha0 dX3_law_122 (fun v61 ev61 hv61 => ?_)
            replace E := zLet_s (zgr ev61) E
            refine fg_X3_137 X hI hv61 dX3_law_125 (fun v62 ev62 hv62 => ?_)
            replace E := zLet_s ev62 E
            refine zg_cVv (As := [.int v47, .int v62]) (st := []) X hv60 rfl (by decide) rfl (t_X9_setValue l d L kd κ 2 _ hI v60 hv60 v47 v62 ) mk_X3_149 mc_X9_setValue mz_X9 mi_X9_setValue ml_X9_setValue (na := 2) ⟨md_X9.1, md_X9.2, by decide +kernel⟩ rfl ⟨by decide, by decide⟩ (Nat.le_of_ble_eq_true rfl) dX3_law_128 (fun s63 hq => ?_)
            obtain ⟨hF, hS2, hI⟩ := hq
            replace E := zLet_s hF E
            have hS := hS.tr hS2 rfl rfl
            refine zg_iinc X 1 (fun v64 => [(3, .int v64), (4, .int v47), (2, .int v7), (0, .ref a0), (1, .int p1)]) 1 dX3_law_131 rfl (by decide) (by decide) (by omega) (by omega) (fun _ => rfl) (fun v64 ev64 hv64 => ?_)
            replace E := zLet_s (zinc ev64 (by decide)) E
            refine zg_goto X 23 dX3_law_134 (by decide) ?_
            refine zg_sub [0, 2, 3, 4] rfl ?_
            exact ihLp10 _ v64 hI hS E  (by omega) (by omega) 
          · skip
            replace E := zIf_t c35 E
            refine zg_aload_n X 2 rfl dX3_law_42 ?_
            refine zg_iconst X 2 dX3_law_43 (by decide) (fun v65 _ hv65 => ?_)
            replace E := zLet_s (zcst hv65 (by decide)) E
            refine zg_cVv (As := [.int v65]) (st := []) X ha0 rfl (by decide) rfl (t_X3_fail l d L kd κ 2 _ hI a0 ha0 v65 ) mk_X3_106 mc_X3_fail mz_X3 mi_X3_fail ml_X3_fail (na := 1) ⟨md_X3.1, md_X3.2, by decide +kernel⟩ rfl ⟨by decide, by decide⟩ (Nat.le_of_ble_eq_true rfl) dX3_law_44 (fun s66 hq => ?_)
            obtain ⟨hF, hS2, hI⟩ := hq
            replace E := zLet_s hF E
            have hS := hS.tr hS2 rfl rfl
            refine zg_aload_n X 2 rfl dX3_law_47 ?_
            refine zg_bipush X 10 dX3_law_48 (by decide) (fun v67 _ hv67 => ?_)
            replace E := zLet_s (zcst hv67 (by decide)) E
            refine zg_cVv (As := [.int v67]) (st := []) X ha0 rfl (by decide) rfl (t_X3_take l d L kd κ 2 _ hI a0 ha0 v67 ) mk_X3_87 mc_X3_take mz_X3 mi_X3_take ml_X3_take (na := 1) ⟨md_X3.1, md_X3.2, by decide +kernel⟩ rfl ⟨by decide, by decide⟩ (Nat.le_of_ble_eq_true rfl) dX3_law_50 (fun s68 hq => ?_)
            obtain ⟨hF, hS2, hI⟩ := hq
            replace E := zLet_s hF E
            have hS := hS.tr hS2 rfl rfl
            refine zg_aload_n X 2 rfl dX3_law_53 ?_
            refine zg_iconst X 0 dX3_law_54 (by decide) (fun v69 _ hv69 => ?_)
            replace E := zLet_s (zcst hv69 (by decide)) E
            refine zg_cVv (As := [.int v69]) (st := []) X ha0 rfl (by decide) rfl (t_X3_sum_o0 l d L kd κ _ hI a0 ha0 v69 (by omega)) mk_X3_140 mc_X3_sum mz_X3 mi_X3_sum ml_X3_sum (na := 1) ⟨md_X3.1, md_X3.2, by decide +kernel⟩ rfl ⟨by decide, by decide⟩ (Nat.le_of_ble_eq_true rfl) dX3_law_55 (fun s70 hq => ?_)
            obtain ⟨hF, hS2, hI⟩ := hq
            replace E := zLet_s hF E
            have hS := hS.tr hS2 rfl rfl
            refine zg_aload_n X 2 rfl dX3_law_58 ?_
            refine zg_bipush X 30 dX3_law_59 (by decide) (fun v71 _ hv71 => ?_)
            replace E := zLet_s (zcst hv71 (by decide)) E
            refine zg_cVv (As := [.int v71]) (st := []) X ha0 rfl (by decide) rfl (t_X3_take l d L kd κ 2 _ hI a0 ha0 v71 ) mk_X3_87 mc_X3_take mz_X3 mi_X3_take ml_X3_take (na := 1) ⟨md_X3.1, md_X3.2, by decide +kernel⟩ rfl ⟨by decide, by decide⟩ (Nat.le_of_ble_eq_true rfl) dX3_law_61 (fun s72 hq => ?_)
            obtain ⟨hF, hS2, hI⟩ := hq
            replace E := zLet_s hF E
            have hS := hS.tr hS2 rfl rfl
            refine zg_aload_n X 2 rfl dX3_law_64 ?_
            refine zg_iconst X 0 dX3_law_65 (by decide) (fun v73 _ hv73 => ?_)
            replace E := zLet_s (zcst hv73 (by decide)) E
            refine zg_cVv (As := [.int v73]) (st := []) X ha0 rfl (by decide) rfl (t_X3_sum_o0 l d L kd κ _ hI a0 ha0 v73 (by omega)) mk_X3_140 mc_X3_sum mz_X3 mi_X3_sum ml_X3_sum (na := 1) ⟨md_X3.1, md_X3.2, by decide +kernel⟩ rfl ⟨by decide, by decide⟩ (Nat.le_of_ble_eq_true rfl) dX3_law_66 (fun s74 hq => ?_)
            obtain ⟨hF, hS2, hI⟩ := hq
            replace E := zLet_s hF E
            have hS := hS.tr hS2 rfl rfl
            refine zg_aload_n X 2 rfl dX3_law_69 ?_
            refine zg_bipush X 11 dX3_law_70 (by decide) (fun v75 _ hv75 => ?_)
            replace E := zLet_s (zcst hv75 (by decide)) E
            refine zg_cVv (As := [.int v75]) (st := []) X ha0 rfl (by decide) rfl (t_X3_take l d L kd κ 2 _ hI a0 ha0 v75 ) mk_X3_87 mc_X3_take mz_X3 mi_X3_take ml_X3_take (na := 1) ⟨md_X3.1, md_X3.2, by decide +kernel⟩ rfl ⟨by decide, by decide⟩ (Nat.le_of_ble_eq_true rfl) dX3_law_72 (fun s76 hq => ?_)
            obtain ⟨hF, hS2, hI⟩ := hq
            replace E := zLet_s hF E
            have hS := hS.tr hS2 rfl rfl
            refine zg_aload_n X 2 rfl dX3_law_75 ?_
            refine fg_X3_18 X hI ha0 dX3_law_76 (fun v77 ev77 hv77 => ?_)
            replace E := zLet_s (zgr ev77) E
            refine fg_X3_137 X hI hv77 dX3_law_79 (fun v78 ev78 hv78 => ?_)
            replace E := zLet_s ev78 E
            refine zg_istore X [(4, .int v78), (3, .int x9), (2, .int v7), (0, .ref a0), (1, .int p1)] dX3_law_82 (by decide) rfl ?_
            refine zg_aload_n X 3 rfl dX3_law_84 ?_
            refine fg_X3_18 X hI ha0 dX3_law_85 (fun v79 ev79 hv79 => ?_)
            replace E := zLet_s (zgr ev79) E
            refine zg_bipush X 6 dX3_law_88 (by decide) (fun v80 _ hv80 => ?_)
            replace E := zLet_s (zcst hv80 (by decide)) E
            refine zg_iconst X 0 dX3_law_90 (by decide) (fun v81 _ hv81 => ?_)
            replace E := zLet_s (zcst hv81 (by decide)) E
            refine zg_cVv (As := [.int v80, .int v81]) (st := []) X hv79 rfl (by decide) rfl (t_X9_addStep l d L kd κ 2 _ hI v79 hv79 v80 v81 ) mk_X3_145 mc_X9_addStep mz_X9 mi_X9_addStep ml_X9_addStep (na := 2) ⟨md_X9.1, md_X9.2, by decide +kernel⟩ rfl ⟨by decide, by decide⟩ (Nat.le_of_ble_eq_true rfl) dX3_law_91 (fun s82 hq => ?_)
            obtain ⟨hF, hS2, hI⟩ := hq
            replace E := zLet_s hF E
            have hS := hS.tr hS2 rfl rfl
            refine zg_aload_n X 3 rfl dX3_law_94 ?_
            refine zg_iconst X 0 dX3_law_95 (by decide) (fun v83 _ hv83 => ?_)
            replace E := zLet_s (zcst hv83 (by decide)) E
            refine zg_cVv (As := [.int v83]) (st := []) X ha0 rfl (by decide) rfl (t_X3_sum_o0 l d L kd κ _ hI a0 ha0 v83 (by omega)) mk_X3_140 mc_X3_sum mz_X3 mi_X3_sum ml_X3_sum (na := 1) ⟨md_X3.1, md_X3.2, by decide +kernel⟩ rfl ⟨by decide, by decide⟩ (Nat.le_of_ble_eq_true rfl) dX3_law_96 (fun s84 hq => ?_)
            obtain ⟨hF, hS2, hI⟩ := hq
            replace E := zLet_s hF E
            have hS := hS.tr hS2 rfl rfl
            refine zg_aload_n X 3 rfl dX3_law_99 ?_
            refine zg_bipush X 12 dX3_law_100 (by decide) (fun v85 _ hv85 => ?_)
            replace E := zLet_s (zcst hv85 (by decide)) E
            refine zg_cVv (As := [.int v85]) (st := []) X ha0 rfl (by decide) rfl (t_X3_take l d L kd κ 2 _ hI a0 ha0 v85 ) mk_X3_87 mc_X3_take mz_X3 mi_X3_take ml_X3_take (na := 1) ⟨md_X3.1, md_X3.2, by decide +kernel⟩ rfl ⟨by decide, by decide⟩ (Nat.le_of_ble_eq_true rfl) dX3_law_102 (fun s86 hq => ?_)
            obtain ⟨hF, hS2, hI⟩ := hq
            replace E := zLet_s hF E
            have hS := hS.tr hS2 rfl rfl
            refine zg_aload_n X 3 rfl dX3_law_105 ?_
            refine fg_X3_18 X hI ha0 dX3_law_106 (fun v87 ev87 hv87 => ?_)
            replace E := zLet_s (zgr ev87) E
            refine zg_bipush X 7 dX3_law_109 (by decide) (fun v88 _ hv88 => ?_)
            replace E := zLet_s (zcst hv88 (by decide)) E
            refine zg_iconst X 0 dX3_law_111 (by decide) (fun v89 _ hv89 => ?_)
            replace E := zLet_s (zcst hv89 (by decide)) E
            refine zg_cVv (As := [.int v88, .int v89]) (st := []) X hv87 rfl (by decide) rfl (t_X9_addStep l d L kd κ 2 _ hI v87 hv87 v88 v89 ) mk_X3_145 mc_X9_addStep mz_X9 mi_X9_addStep ml_X9_addStep (na := 2) ⟨md_X9.1, md_X9.2, by decide +kernel⟩ rfl ⟨by decide, by decide⟩ (Nat.le_of_ble_eq_true rfl) dX3_law_112 (fun s90 hq => ?_)
            obtain ⟨hF, hS2, hI⟩ := hq
            replace E := zLet_s hF E
            have hS := hS.tr hS2 rfl rfl
            refine zg_aload_n X 3 rfl dX3_law_115 ?_
            refine fg_X3_18 X hI ha0 dX3_law_116 (fun v91 ev91 hv91 => ?_)
            replace E := zLet_s (zgr ev91) E
            refine zg_iload X 0 rfl dX3_law_119 ?_
            refine zg_aload_n X 3 rfl dX3_law_121 ?_
            refine fg_X3_18 X hI ha0 dX3_law_122 (fun v92 ev92 hv92 => ?_)
            replace E := zLet_s (zgr ev92) E
            refine fg_X3_137 X hI hv92 dX3_law_125 (fun v93 ev93 hv93 => ?_)
            replace E := zLet_s ev93 E
            refine zg_cVv (As := [.int v78, .int v93]) (st := []) X hv91 rfl (by decide) rfl (t_X9_setValue l d L kd κ 2 _ hI v91 hv91 v78 v93 ) mk_X3_149 mc_X9_setValue mz_X9 mi_X9_setValue ml_X9_setValue (na := 2) ⟨md_X9.1, md_X9.2, by decide +kernel⟩ rfl ⟨by decide, by decide⟩ (Nat.le_of_ble_eq_true rfl) dX3_law_128 (fun s94 hq => ?_)
            obtain ⟨hF, hS2, hI⟩ := hq
            replace E := zLet_s hF E
            have hS := hS.tr hS2 rfl rfl
            refine zg_iinc X 1 (fun v95 => [(3, .int v95), (4, .int v78), (2, .int v7), (0, .ref a0), (1, .int p1)]) 1 dX3_law_131 rfl (by decide) (by decide) (by omega) (by omega) (fun _ => rfl) (fun v95 ev95 hv95 => ?_)
            replace E := zLet_s (zinc ev95 (by decide)) E
            refine zg_goto X 23 dX3_law_134 (by decide) ?_
            refine zg_sub [0, 2, 3, 4] rfl ?_
            exact ihLp10 _ v95 hI hS E  (by omega) (by omega) 
  refine zg_sub [0, 1, 2, 3] rfl ?_
  exact Lp10 10000 _ v8 hI hS E  (by omega) (by omega) 
set_option maxHeartbeats 4000000 in
set_option maxRecDepth 100000 in
theorem t_X3_telling (l : Launch) (d : zD2) (L : List Nat) (kd : Nat → Nat) (κ : Int) (σ : zS) (hI : zI κ 2 L kd σ) (a0 : Nat) (ha0 : zT L kd a0 3) : zMv l yX3_telling (Cond.code yX3_telling cX3_telling 1 none :: zWL) 24 [.ref a0] d L kd σ (fun σ2 => σ2 = F_X3_telling a0 σ ∧ zSm [3, 9, 44, 45, 46, 47, 48, 49, 50, 51] [] L kd σ σ2 ∧ (zI κ 2 L kd σ2)) := by
  refine zMv.of (own := RX3) (by decide +kernel) rfl rfl (Nat.le_of_ble_eq_true rfl) ?_
  intro p e s m args below meth c A Q X ret
  refine zg_lv (lv2 := [(0, .ref a0)]) rfl ?_
  obtain ⟨R, hR⟩ : ∃ R, R = F_X3_telling a0 σ := ⟨_, rfl⟩
  have E := hR
  unfold F_X3_telling at E
  have hS : zSm [3, 9, 44, 45, 46, 47, 48, 49, 50, 51] [] L kd σ σ := zSm.rf
  refine zg_aload_n X 0 rfl dX3_telling_0 ?_
  refine fg_X3_26 X hI ha0 dX3_telling_1 (fun v1 ev1 _ => ?_)
  replace E := zLet_s ev1 E
  refine zg_if_ne X 14 dX3_telling_4 (by decide) (fun c2 => ?_) (fun c2 => ?_)
  · skip
    replace E := zIf_f c2 E
    refine zg_aload_n X 0 rfl dX3_telling_14 ?_
    refine fg_X3_26 X hI ha0 dX3_telling_15 (fun v3 ev3 _ => ?_)
    replace E := zLet_s ev3 E
    have mv3 : v3.toInt = v1.toInt := by rw [ev3, ← ev1]
    refine zg_iconst X 1 dX3_telling_18 (by decide) (fun v4 _ hv4 => ?_)
    replace E := zLet_s (zcst hv4 (by decide)) E
    refine zg_icmp_ne X 29 dX3_telling_19 (by decide) (fun c5 => ?_) (fun c5 => ?_)
    · skip
      replace E := zIf_f c5 E
      refine zg_aload_n X 0 rfl dX3_telling_29 ?_
      refine fg_X3_26 X hI ha0 dX3_telling_30 (fun v6 ev6 _ => ?_)
      replace E := zLet_s ev6 E
      have mv6 : v6.toInt = v3.toInt := by rw [ev6, ← ev3]
      refine zg_iconst X 2 dX3_telling_33 (by decide) (fun v7 _ hv7 => ?_)
      replace E := zLet_s (zcst hv7 (by decide)) E
      refine zg_bipush X 6 dX3_telling_34 (by decide) (fun v8 _ hv8 => ?_)
      replace E := zLet_s (zcst hv8 (by decide)) E
      refine zg_cSNi (As := [.int v6, .int v7, .int v8]) (st := []) X (t_X10_isWithin l d L kd _ v6 v7 v8 ) mk_X3_80 mc_X10_isWithin mz_X10 ms_X10_isWithin (na := 3) ⟨md_X10.1, md_X10.2, by decide +kernel⟩ rfl ⟨by decide, by decide⟩ (Nat.le_of_ble_eq_true rfl) dX3_telling_36 (fun v9 σ2 hq => ?_)
      obtain ⟨⟨hF, hv9⟩, rfl⟩ := hq
      replace E := zLet_s hF E
      refine zg_if_eq X 55 dX3_telling_39 (by decide) (fun c10 => ?_) (fun c10 => ?_)
      · skip
        replace E := zIf_t c10 E
        refine zg_aload_n X 0 rfl dX3_telling_55 ?_
        refine fg_X3_26 X hI ha0 dX3_telling_56 (fun v11 ev11 _ => ?_)
        replace E := zLet_s ev11 E
        have mv11 : v11.toInt = v6.toInt := by rw [ev11, ← ev6]
        refine zg_bipush X 7 dX3_telling_59 (by decide) (fun v12 _ hv12 => ?_)
        replace E := zLet_s (zcst hv12 (by decide)) E
        refine zg_icmp_ne X 103 dX3_telling_61 (by decide) (fun c13 => ?_) (fun c13 => ?_)
        · skip
          replace E := zIf_f c13 E
          refine zg_aload_n X 0 rfl dX3_telling_103 ?_
          refine fg_X3_26 X hI ha0 dX3_telling_104 (fun v14 ev14 _ => ?_)
          replace E := zLet_s ev14 E
          have mv14 : v14.toInt = v11.toInt := by rw [ev14, ← ev11]
          refine zg_bipush X 8 dX3_telling_107 (by decide) (fun v15 _ hv15 => ?_)
          replace E := zLet_s (zcst hv15 (by decide)) E
          refine zg_icmp_ne X 137 dX3_telling_109 (by decide) (fun c16 => ?_) (fun c16 => ?_)
          · skip
            replace E := zIf_f c16 E
            refine zg_aload_n X 0 rfl dX3_telling_137 ?_
            refine fg_X3_26 X hI ha0 dX3_telling_138 (fun v17 ev17 _ => ?_)
            replace E := zLet_s ev17 E
            have mv17 : v17.toInt = v14.toInt := by rw [ev17, ← ev14]
            refine zg_bipush X 9 dX3_telling_141 (by decide) (fun v18 _ hv18 => ?_)
            replace E := zLet_s (zcst hv18 (by decide)) E
            refine zg_icmp_ne X 172 dX3_telling_143 (by decide) (fun c19 => ?_) (fun c19 => ?_)
            · skip
              replace E := zIf_f c19 E
              refine zg_aload_n X 0 rfl dX3_telling_172 ?_
              refine zg_iconst X 1 dX3_telling_173 (by decide) (fun v20 _ hv20 => ?_)
              replace E := zLet_s (zcst hv20 (by decide)) E
              refine zg_cVv (As := [.int v20]) (st := []) X ha0 rfl (by decide) rfl (t_X3_fail l d L kd κ 2 _ hI a0 ha0 v20 ) mk_X3_106 mc_X3_fail mz_X3 mi_X3_fail ml_X3_fail (na := 1) ⟨md_X3.1, md_X3.2, by decide +kernel⟩ rfl ⟨by decide, by decide⟩ (Nat.le_of_ble_eq_true rfl) dX3_telling_174 (fun s21 hq => ?_)
              obtain ⟨hF, hS2, hI⟩ := hq
              replace E := zLet_s hF E
              have hS := hS.tr hS2 rfl rfl
              refine zg_aload_n X 0 rfl dX3_telling_177 ?_
              refine zg_bipush X 24 dX3_telling_178 (by decide) (fun v22 _ hv22 => ?_)
              replace E := zLet_s (zcst hv22 (by decide)) E
              refine zg_cVv (As := [.int v22]) (st := []) X ha0 rfl (by decide) rfl (t_X3_take l d L kd κ 2 _ hI a0 ha0 v22 ) mk_X3_87 mc_X3_take mz_X3 mi_X3_take ml_X3_take (na := 1) ⟨md_X3.1, md_X3.2, by decide +kernel⟩ rfl ⟨by decide, by decide⟩ (Nat.le_of_ble_eq_true rfl) dX3_telling_180 (fun s23 hq => ?_)
              obtain ⟨hF, hS2, hI⟩ := hq
              replace E := zLet_s hF E
              have hS := hS.tr hS2 rfl rfl
              exact ret _ _ _ dX3_telling_183 ⟨E.symm.trans hR, hS, hI⟩
            · skip
              replace E := zIf_t c19 E
              refine zg_aload_n X 0 rfl dX3_telling_146 ?_
              refine zg_aload_n X 0 rfl dX3_telling_147 ?_
              refine fg_X3_26 X hI ha0 dX3_telling_148 (fun v24 ev24 _ => ?_)
              replace E := zLet_s ev24 E
              have mv24 : v24.toInt = v17.toInt := by rw [ev24, ← ev17]
              refine zg_cVv (As := [.int v24]) (st := []) X ha0 rfl (by decide) rfl (t_X3_take l d L kd κ 2 _ hI a0 ha0 v24 ) mk_X3_87 mc_X3_take mz_X3 mi_X3_take ml_X3_take (na := 1) ⟨md_X3.1, md_X3.2, by decide +kernel⟩ rfl ⟨by decide, by decide⟩ (Nat.le_of_ble_eq_true rfl) dX3_telling_151 (fun s25 hq => ?_)
              obtain ⟨hF, hS2, hI⟩ := hq
              replace E := zLet_s hF E
              have hS := hS.tr hS2 rfl rfl
              refine zg_aload_n X 0 rfl dX3_telling_154 ?_
              refine fg_X3_18 X hI ha0 dX3_telling_155 (fun v26 ev26 hv26 => ?_)
              replace E := zLet_s (zgr ev26) E
              refine zg_aload_n X 0 rfl dX3_telling_158 ?_
              refine zg_iconst X 0 dX3_telling_159 (by decide) (fun v27 _ hv27 => ?_)
              replace E := zLet_s (zcst hv27 (by decide)) E
              refine zg_sipush X 9999 dX3_telling_160 (by decide) (fun v28 _ hv28 => ?_)
              replace E := zLet_s (zcst hv28 (by decide)) E
              refine zg_cVi (As := [.int v27, .int v28]) (st := [.ref v26]) X ha0 rfl (by decide) rfl (t_X3_number l d L kd κ 2 _ hI a0 ha0 v27 v28 ) mk_X3_90 mc_X3_number mz_X3 mi_X3_number ml_X3_number (na := 2) ⟨md_X3.1, md_X3.2, by decide +kernel⟩ rfl ⟨by decide, by decide⟩ (Nat.le_of_ble_eq_true rfl) dX3_telling_163 (fun v29 s30 hq => ?_)
              obtain ⟨hF, hS2, hI⟩ := hq
              replace E := zLet2_s hF E
              have hS := hS.tr hS2 rfl rfl
              refine fp_X3_103 X hI hv26 (zb_rng _) dX3_telling_166 (fun s31 es31 hI => ?_)
              replace E := zLet_s es31 E
              have hS := hS.i hv26 es31 rfl
              refine zg_goto X 177 dX3_telling_169 (by decide) ?_
              refine zg_aload_n X 0 rfl dX3_telling_177 ?_
              refine zg_bipush X 24 dX3_telling_178 (by decide) (fun v32 _ hv32 => ?_)
              replace E := zLet_s (zcst hv32 (by decide)) E
              refine zg_cVv (As := [.int v32]) (st := []) X ha0 rfl (by decide) rfl (t_X3_take l d L kd κ 2 _ hI a0 ha0 v32 ) mk_X3_87 mc_X3_take mz_X3 mi_X3_take ml_X3_take (na := 1) ⟨md_X3.1, md_X3.2, by decide +kernel⟩ rfl ⟨by decide, by decide⟩ (Nat.le_of_ble_eq_true rfl) dX3_telling_180 (fun s33 hq => ?_)
              obtain ⟨hF, hS2, hI⟩ := hq
              replace E := zLet_s hF E
              have hS := hS.tr hS2 rfl rfl
              exact ret _ _ _ dX3_telling_183 ⟨E.symm.trans hR, hS, hI⟩
          · skip
            replace E := zIf_t c16 E
            refine zg_aload_n X 0 rfl dX3_telling_112 ?_
            refine zg_aload_n X 0 rfl dX3_telling_113 ?_
            refine fg_X3_26 X hI ha0 dX3_telling_114 (fun v34 ev34 _ => ?_)
            replace E := zLet_s ev34 E
            have mv34 : v34.toInt = v14.toInt := by rw [ev34, ← ev14]
            refine zg_cVv (As := [.int v34]) (st := []) X ha0 rfl (by decide) rfl (t_X3_take l d L kd κ 2 _ hI a0 ha0 v34 ) mk_X3_87 mc_X3_take mz_X3 mi_X3_take ml_X3_take (na := 1) ⟨md_X3.1, md_X3.2, by decide +kernel⟩ rfl ⟨by decide, by decide⟩ (Nat.le_of_ble_eq_true rfl) dX3_telling_117 (fun s35 hq => ?_)
            obtain ⟨hF, hS2, hI⟩ := hq
            replace E := zLet_s hF E
            have hS := hS.tr hS2 rfl rfl
            refine zg_aload_n X 0 rfl dX3_telling_120 ?_
            refine fg_X3_18 X hI ha0 dX3_telling_121 (fun v36 ev36 hv36 => ?_)
            replace E := zLet_s (zgr ev36) E
            refine zg_aload_n X 0 rfl dX3_telling_124 ?_
            refine zg_iconst X 0 dX3_telling_125 (by decide) (fun v37 _ hv37 => ?_)
            replace E := zLet_s (zcst hv37 (by decide)) E
            refine zg_bipush X 99 dX3_telling_126 (by decide) (fun v38 _ hv38 => ?_)
            replace E := zLet_s (zcst hv38 (by decide)) E
            refine zg_cVi (As := [.int v37, .int v38]) (st := [.ref v36]) X ha0 rfl (by decide) rfl (t_X3_number l d L kd κ 2 _ hI a0 ha0 v37 v38 ) mk_X3_90 mc_X3_number mz_X3 mi_X3_number ml_X3_number (na := 2) ⟨md_X3.1, md_X3.2, by decide +kernel⟩ rfl ⟨by decide, by decide⟩ (Nat.le_of_ble_eq_true rfl) dX3_telling_128 (fun v39 s40 hq => ?_)
            obtain ⟨hF, hS2, hI⟩ := hq
            replace E := zLet2_s hF E
            have hS := hS.tr hS2 rfl rfl
            refine fp_X3_100 X hI hv36 (zb_rng _) dX3_telling_131 (fun s41 es41 hI => ?_)
            replace E := zLet_s es41 E
            have hS := hS.i hv36 es41 rfl
            refine zg_goto X 177 dX3_telling_134 (by decide) ?_
            refine zg_aload_n X 0 rfl dX3_telling_177 ?_
            refine zg_bipush X 24 dX3_telling_178 (by decide) (fun v42 _ hv42 => ?_)
            replace E := zLet_s (zcst hv42 (by decide)) E
            refine zg_cVv (As := [.int v42]) (st := []) X ha0 rfl (by decide) rfl (t_X3_take l d L kd κ 2 _ hI a0 ha0 v42 ) mk_X3_87 mc_X3_take mz_X3 mi_X3_take ml_X3_take (na := 1) ⟨md_X3.1, md_X3.2, by decide +kernel⟩ rfl ⟨by decide, by decide⟩ (Nat.le_of_ble_eq_true rfl) dX3_telling_180 (fun s43 hq => ?_)
            obtain ⟨hF, hS2, hI⟩ := hq
            replace E := zLet_s hF E
            have hS := hS.tr hS2 rfl rfl
            exact ret _ _ _ dX3_telling_183 ⟨E.symm.trans hR, hS, hI⟩
        · skip
          replace E := zIf_t c13 E
          refine zg_aload_n X 0 rfl dX3_telling_64 ?_
          refine zg_aload_n X 0 rfl dX3_telling_65 ?_
          refine fg_X3_26 X hI ha0 dX3_telling_66 (fun v44 ev44 _ => ?_)
          replace E := zLet_s ev44 E
          have mv44 : v44.toInt = v11.toInt := by rw [ev44, ← ev11]
          refine zg_cVv (As := [.int v44]) (st := []) X ha0 rfl (by decide) rfl (t_X3_take l d L kd κ 2 _ hI a0 ha0 v44 ) mk_X3_87 mc_X3_take mz_X3 mi_X3_take ml_X3_take (na := 1) ⟨md_X3.1, md_X3.2, by decide +kernel⟩ rfl ⟨by decide, by decide⟩ (Nat.le_of_ble_eq_true rfl) dX3_telling_69 (fun s45 hq => ?_)
          obtain ⟨hF, hS2, hI⟩ := hq
          replace E := zLet_s hF E
          have hS := hS.tr hS2 rfl rfl
          refine zg_aload_n X 0 rfl dX3_telling_72 ?_
          refine fg_X3_18 X hI ha0 dX3_telling_73 (fun v46 ev46 hv46 => ?_)
          replace E := zLet_s (zgr ev46) E
          refine zg_aload_n X 0 rfl dX3_telling_76 ?_
          refine zg_iconst X 0 dX3_telling_77 (by decide) (fun v47 _ hv47 => ?_)
          replace E := zLet_s (zcst hv47 (by decide)) E
          refine zg_bipush X 100 dX3_telling_78 (by decide) (fun v48 _ hv48 => ?_)
          replace E := zLet_s (zcst hv48 (by decide)) E
          refine zg_cVi (As := [.int v47, .int v48]) (st := [.ref v46]) X ha0 rfl (by decide) rfl (t_X3_number l d L kd κ 2 _ hI a0 ha0 v47 v48 ) mk_X3_90 mc_X3_number mz_X3 mi_X3_number ml_X3_number (na := 2) ⟨md_X3.1, md_X3.2, by decide +kernel⟩ rfl ⟨by decide, by decide⟩ (Nat.le_of_ble_eq_true rfl) dX3_telling_80 (fun v49 s50 hq => ?_)
          obtain ⟨hF, hS2, hI⟩ := hq
          replace E := zLet2_s hF E
          have hS := hS.tr hS2 rfl rfl
          refine fp_X3_94 X hI hv46 (zb_rng _) dX3_telling_83 (fun s51 es51 hI => ?_)
          replace E := zLet_s es51 E
          have hS := hS.i hv46 es51 rfl
          refine zg_aload_n X 0 rfl dX3_telling_86 ?_
          refine fg_X3_18 X hI ha0 dX3_telling_87 (fun v52 ev52 hv52 => ?_)
          replace E := zLet_s (zgr ev52) E
          refine zg_aload_n X 0 rfl dX3_telling_90 ?_
          refine zg_iconst X 0 dX3_telling_91 (by decide) (fun v53 _ hv53 => ?_)
          replace E := zLet_s (zcst hv53 (by decide)) E
          refine zg_bipush X 99 dX3_telling_92 (by decide) (fun v54 _ hv54 => ?_)
          replace E := zLet_s (zcst hv54 (by decide)) E
          refine zg_cVi (As := [.int v53, .int v54]) (st := [.ref v52]) X ha0 rfl (by decide) rfl (t_X3_number l d L kd κ 2 _ hI a0 ha0 v53 v54 ) mk_X3_90 mc_X3_number mz_X3 mi_X3_number ml_X3_number (na := 2) ⟨md_X3.1, md_X3.2, by decide +kernel⟩ rfl ⟨by decide, by decide⟩ (Nat.le_of_ble_eq_true rfl) dX3_telling_94 (fun v55 s56 hq => ?_)
          obtain ⟨hF, hS2, hI⟩ := hq
          replace E := zLet2_s hF E
          have hS := hS.tr hS2 rfl rfl
          refine fp_X3_97 X hI hv52 (zb_rng _) dX3_telling_97 (fun s57 es57 hI => ?_)
          replace E := zLet_s es57 E
          have hS := hS.i hv52 es57 rfl
          refine zg_goto X 177 dX3_telling_100 (by decide) ?_
          refine zg_aload_n X 0 rfl dX3_telling_177 ?_
          refine zg_bipush X 24 dX3_telling_178 (by decide) (fun v58 _ hv58 => ?_)
          replace E := zLet_s (zcst hv58 (by decide)) E
          refine zg_cVv (As := [.int v58]) (st := []) X ha0 rfl (by decide) rfl (t_X3_take l d L kd κ 2 _ hI a0 ha0 v58 ) mk_X3_87 mc_X3_take mz_X3 mi_X3_take ml_X3_take (na := 1) ⟨md_X3.1, md_X3.2, by decide +kernel⟩ rfl ⟨by decide, by decide⟩ (Nat.le_of_ble_eq_true rfl) dX3_telling_180 (fun s59 hq => ?_)
          obtain ⟨hF, hS2, hI⟩ := hq
          replace E := zLet_s hF E
          have hS := hS.tr hS2 rfl rfl
          exact ret _ _ _ dX3_telling_183 ⟨E.symm.trans hR, hS, hI⟩
      · skip
        replace E := zIf_f c10 E
        refine zg_aload_n X 0 rfl dX3_telling_42 ?_
        refine zg_aload_n X 0 rfl dX3_telling_43 ?_
        refine fg_X3_26 X hI ha0 dX3_telling_44 (fun v60 ev60 _ => ?_)
        replace E := zLet_s ev60 E
        have mv60 : v60.toInt = v6.toInt := by rw [ev60, ← ev6]
        refine zg_iconst X 2 dX3_telling_47 (by decide) (fun v61 _ hv61 => ?_)
        replace E := zLet_s (zcst hv61 (by decide)) E
        refine zg_isub X dX3_telling_48 (by omega) (by omega) (fun v62 ev62 hv62 => ?_)
        replace E := zLet_s ev62 E
        refine zg_cVv (As := [.int v62]) (st := []) X ha0 rfl (by decide) rfl (t_X3_law l d L kd κ _ hI a0 ha0 v62 (by omega)) mk_X3_84 mc_X3_law mz_X3 mi_X3_law ml_X3_law (na := 1) ⟨md_X3.1, md_X3.2, by decide +kernel⟩ rfl ⟨by decide, by decide⟩ (Nat.le_of_ble_eq_true rfl) dX3_telling_49 (fun s63 hq => ?_)
        obtain ⟨hF, hS2, hI⟩ := hq
        replace E := zLet_s hF E
        have hS := hS.tr hS2 rfl rfl
        refine zg_goto X 177 dX3_telling_52 (by decide) ?_
        refine zg_aload_n X 0 rfl dX3_telling_177 ?_
        refine zg_bipush X 24 dX3_telling_178 (by decide) (fun v64 _ hv64 => ?_)
        replace E := zLet_s (zcst hv64 (by decide)) E
        refine zg_cVv (As := [.int v64]) (st := []) X ha0 rfl (by decide) rfl (t_X3_take l d L kd κ 2 _ hI a0 ha0 v64 ) mk_X3_87 mc_X3_take mz_X3 mi_X3_take ml_X3_take (na := 1) ⟨md_X3.1, md_X3.2, by decide +kernel⟩ rfl ⟨by decide, by decide⟩ (Nat.le_of_ble_eq_true rfl) dX3_telling_180 (fun s65 hq => ?_)
        obtain ⟨hF, hS2, hI⟩ := hq
        replace E := zLet_s hF E
        have hS := hS.tr hS2 rfl rfl
        exact ret _ _ _ dX3_telling_183 ⟨E.symm.trans hR, hS, hI⟩
    · skip
      replace E := zIf_t c5 E
      refine zg_aload_n X 0 rfl dX3_telling_22 ?_
      refine zg_cVv (As := []) (st := []) X ha0 rfl (by decide) rfl (t_X3_newPlace l d L kd κ _ hI a0 ha0 ) mk_X3_77 mc_X3_newPlace mz_X3 mi_X3_newPlace ml_X3_newPlace (na := 0) ⟨md_X3.1, md_X3.2, by decide +kernel⟩ rfl ⟨by decide, by decide⟩ (Nat.le_of_ble_eq_true rfl) dX3_telling_23 (fun s66 hq => ?_)
      obtain ⟨hF, hS2, hI⟩ := hq
      replace E := zLet_s hF E
      have hS := hS.tr hS2 rfl rfl
      refine zg_goto X 177 dX3_telling_26 (by decide) ?_
      refine zg_aload_n X 0 rfl dX3_telling_177 ?_
      refine zg_bipush X 24 dX3_telling_178 (by decide) (fun v67 _ hv67 => ?_)
      replace E := zLet_s (zcst hv67 (by decide)) E
      refine zg_cVv (As := [.int v67]) (st := []) X ha0 rfl (by decide) rfl (t_X3_take l d L kd κ 2 _ hI a0 ha0 v67 ) mk_X3_87 mc_X3_take mz_X3 mi_X3_take ml_X3_take (na := 1) ⟨md_X3.1, md_X3.2, by decide +kernel⟩ rfl ⟨by decide, by decide⟩ (Nat.le_of_ble_eq_true rfl) dX3_telling_180 (fun s68 hq => ?_)
      obtain ⟨hF, hS2, hI⟩ := hq
      replace E := zLet_s hF E
      have hS := hS.tr hS2 rfl rfl
      exact ret _ _ _ dX3_telling_183 ⟨E.symm.trans hR, hS, hI⟩
  · skip
    replace E := zIf_t c2 E
    refine zg_aload_n X 0 rfl dX3_telling_7 ?_
    refine zg_cVv (As := []) (st := []) X ha0 rfl (by decide) rfl (t_X3_mouth l d L kd κ _ hI a0 ha0 ) mk_X3_74 mc_X3_mouth mz_X3 mi_X3_mouth ml_X3_mouth (na := 0) ⟨md_X3.1, md_X3.2, by decide +kernel⟩ rfl ⟨by decide, by decide⟩ (Nat.le_of_ble_eq_true rfl) dX3_telling_8 (fun s69 hq => ?_)
    obtain ⟨hF, hS2, hI⟩ := hq
    replace E := zLet_s hF E
    have hS := hS.tr hS2 rfl rfl
    refine zg_goto X 177 dX3_telling_11 (by decide) ?_
    refine zg_aload_n X 0 rfl dX3_telling_177 ?_
    refine zg_bipush X 24 dX3_telling_178 (by decide) (fun v70 _ hv70 => ?_)
    replace E := zLet_s (zcst hv70 (by decide)) E
    refine zg_cVv (As := [.int v70]) (st := []) X ha0 rfl (by decide) rfl (t_X3_take l d L kd κ 2 _ hI a0 ha0 v70 ) mk_X3_87 mc_X3_take mz_X3 mi_X3_take ml_X3_take (na := 1) ⟨md_X3.1, md_X3.2, by decide +kernel⟩ rfl ⟨by decide, by decide⟩ (Nat.le_of_ble_eq_true rfl) dX3_telling_180 (fun s71 hq => ?_)
    obtain ⟨hF, hS2, hI⟩ := hq
    replace E := zLet_s hF E
    have hS := hS.tr hS2 rfl rfl
    exact ret _ _ _ dX3_telling_183 ⟨E.symm.trans hR, hS, hI⟩
set_option maxHeartbeats 4000000 in
set_option maxRecDepth 100000 in
theorem t_X3_parse (l : Launch) (d : zD2) (L : List Nat) (kd : Nat → Nat) (κ : Int) (b : Nat) (σ : zS) (hI : zI κ b L kd σ) (a0 : Nat) (ha0 : zT L kd a0 3) (p1 : Nat) (hp1 : zT L kd p1 39) (p2 : Int32) (p3 : Nat) (hp3 : zT L kd p3 9) (hq0 : p2.toInt ≤ 2000) : zMi l yX3_parse (Cond.code yX3_parse cX3_parse 5 (some .int) :: zWL) 25 [.ref a0, .ref p1, .int p2, .ref p3] d L kd σ (fun v σ2 => (v, σ2) = F_X3_parse a0 p1 p2 p3 σ ∧ zSm [3, 8, 9, 41, 42, 43, 44, 45, 46, 47, 48, 49, 50, 51] [3] L kd σ σ2 ∧ (zI κ 2 L kd σ2)) := by
  refine zMi.of (own := RX3) (by decide +kernel) rfl rfl (Nat.le_of_ble_eq_true rfl) ?_
  intro p e s m args below meth c A Q X ret
  refine zg_lv (lv2 := [(0, .ref a0), (1, .ref p1), (2, .int p2), (3, .ref p3)]) rfl ?_
  obtain ⟨R, hR⟩ : ∃ R, R = F_X3_parse a0 p1 p2 p3 σ := ⟨_, rfl⟩
  have E := hR
  unfold F_X3_parse at E
  have hS : zSm [3, 8, 9, 41, 42, 43, 44, 45, 46, 47, 48, 49, 50, 51] [3] L kd σ σ := zSm.rf
  refine zg_aload_n X 0 rfl dX3_parse_0 ?_
  refine fg_X3_12 X hI ha0 dX3_parse_1 (fun v1 ev1 hv1 => ?_)
  replace E := zLet_s (zgr ev1) E
  refine zg_aload_n X 1 rfl dX3_parse_4 ?_
  refine zg_iload_n X 2 rfl dX3_parse_5 ?_
  refine zg_cVv (As := [.ref p1, .int p2]) (st := []) X hv1 rfl (by decide) rfl (t_X8_scan l d L kd κ b _ hI v1 hv1 p1 hp1 p2 (by omega)) mk_X3_55 mc_X8_scan mz_X8 mi_X8_scan ml_X8_scan (na := 2) ⟨md_X8.1, md_X8.2, by decide +kernel⟩ rfl ⟨by decide, by decide⟩ (Nat.le_of_ble_eq_true rfl) dX3_parse_6 (fun s2 hq => ?_)
  obtain ⟨hF, hS2, hI⟩ := hq
  replace E := zLet_s hF E
  have hS := hS.tr hS2 rfl rfl
  refine zg_aload_n X 0 rfl dX3_parse_9 ?_
  refine zg_aload_n X 3 rfl dX3_parse_10 ?_
  have hI0 := zi_weak hI
  refine fp_X3_18 X hI0 ha0 hp3 dX3_parse_11 (fun s3 es3 hI => ?_)
  replace E := zLet_s es3 E
  have hS := hS.r ha0 es3 rfl
  have hI := zi_parser hI ha0 hp3 (by rw [es3]; exact zu_s _ _ _ _)
  refine zg_aload_n X 0 rfl dX3_parse_14 ?_
  refine fg_X3_18 X hI ha0 dX3_parse_15 (fun v4 ev4 hv4 => ?_)
  replace E := zLet_s (zgr ev4) E
  refine zg_cVv (As := []) (st := []) X hv4 rfl (by decide) rfl (t_X9_clear l d L kd κ 2 _ hI v4 hv4 ) mk_X3_59 mc_X9_clear mz_X9 mi_X9_clear ml_X9_clear (na := 0) ⟨md_X9.1, md_X9.2, by decide +kernel⟩ rfl ⟨by decide, by decide⟩ (Nat.le_of_ble_eq_true rfl) dX3_parse_18 (fun s5 hq => ?_)
  obtain ⟨hF, hS2, hI⟩ := hq
  replace E := zLet_s hF E
  have hS := hS.tr hS2 rfl rfl
  refine zg_aload_n X 0 rfl dX3_parse_21 ?_
  refine zg_iconst X 0 dX3_parse_22 (by decide) (fun v6 _ hv6 => ?_)
  replace E := zLet_s (zcst hv6 (by decide)) E
  refine fp_X3_36 X hI ha0 ⟨by omega, by omega⟩ dX3_parse_23 (fun s7 es7 hI => ?_)
  replace E := zLet_s es7 E
  have hS := hS.i ha0 es7 rfl
  refine zg_aload_n X 0 rfl dX3_parse_26 ?_
  refine zg_iconst X 0 dX3_parse_27 (by decide) (fun v8 _ hv8 => ?_)
  replace E := zLet_s (zcst hv8 (by decide)) E
  refine fp_X3_40 X hI ha0 ⟨by omega, by omega⟩ dX3_parse_28 (fun s9 es9 hI => ?_)
  replace E := zLet_s es9 E
  have hS := hS.i ha0 es9 rfl
  refine zg_aload_n X 0 rfl dX3_parse_31 ?_
  refine zg_iconst X 0 dX3_parse_32 (by decide) (fun v10 _ hv10 => ?_)
  replace E := zLet_s (zcst hv10 (by decide)) E
  refine fp_X3_43 X hI ha0 (zb_rng _) dX3_parse_33 (fun s11 es11 hI => ?_)
  replace E := zLet_s es11 E
  have hS := hS.i ha0 es11 rfl
  have e12 : v10 = s11.1 a0 8 := by rw [es11]; exact zm_s
  refine zg_aload_n X 0 rfl dX3_parse_36 ?_
  refine zg_iconst X (-1) dX3_parse_37 (by decide) (fun v13 _ hv13 => ?_)
  replace E := zLet_s (zcst hv13 (by decide)) E
  refine fp_X3_46 X hI ha0 (zb_rng _) dX3_parse_38 (fun s14 es14 hI => ?_)
  replace E := zLet_s es14 E
  have hS := hS.i ha0 es14 rfl
  have e15 : v10 = s14.1 a0 8 := by rw [es14]; exact zm_j (by decide) e12
  refine zg_aload_n X 0 rfl dX3_parse_41 ?_
  refine zg_iconst X 0 dX3_parse_42 (by decide) (fun v16 _ hv16 => ?_)
  replace E := zLet_s (zcst hv16 (by decide)) E
  refine fp_X3_49 X hI ha0 (zb_rng _) dX3_parse_43 (fun s17 es17 hI => ?_)
  replace E := zLet_s es17 E
  have hS := hS.i ha0 es17 rfl
  have e18 : v10 = s17.1 a0 8 := by rw [es17]; exact zm_j (by decide) e15
  refine zg_aload_n X 0 rfl dX3_parse_46 ?_
  refine zg_iconst X (-1) dX3_parse_47 (by decide) (fun v19 _ hv19 => ?_)
  replace E := zLet_s (zcst hv19 (by decide)) E
  refine fp_X3_52 X hI ha0 (zb_rng _) dX3_parse_48 (fun s20 es20 hI => ?_)
  replace E := zLet_s es20 E
  have hS := hS.i ha0 es20 rfl
  have e21 : v10 = s20.1 a0 8 := by rw [es20]; exact zm_j (by decide) e18
  refine zg_aload_n X 0 rfl dX3_parse_51 ?_
  refine zg_iconst X 0 dX3_parse_52 (by decide) (fun v22 _ hv22 => ?_)
  replace E := zLet_s (zcst hv22 (by decide)) E
  refine zg_cVv (As := [.int v22]) (st := []) X ha0 rfl (by decide) rfl (t_X3_goTo l d L kd κ 2 _ hI a0 ha0 v22 ) mk_X3_64 mc_X3_goTo mz_X3 mi_X3_goTo ml_X3_goTo (na := 1) ⟨md_X3.1, md_X3.2, by decide +kernel⟩ rfl ⟨by decide, by decide⟩ (Nat.le_of_ble_eq_true rfl) dX3_parse_53 (fun s23 hq => ?_)
  obtain ⟨hF, hS2, hI⟩ := hq
  replace E := zLet_s hF E
  have hS := hS.tr hS2 rfl rfl
  refine zg_iconst X 0 dX3_parse_56 (by decide) (fun v24 _ hv24 => ?_)
  replace E := zLet_s (zcst hv24 (by decide)) E
  refine zg_istore X [(4, .int v24), (0, .ref a0), (1, .ref p1), (2, .int p2), (3, .ref p3)] dX3_parse_57 (by decide) rfl ?_
  have Lp26 : ∀ (nLp26 : Nat) (τ26 : zS) (x25 : Int32), zI κ 2 L kd τ26 → zSm [3, 8, 9, 41, 42, 43, 44, 45, 46, 47, 48, 49, 50, 51] [3] L kd σ τ26 → R = F_X3_parse_59 a0 p1 p2 p3  nLp26 x25 τ26 → 0 ≤ x25.toInt ∧ x25.toInt ≤ 401 → (401) - x25.toInt + 1 < (nLp26 : Int) → zG d L kd A 5 p l e (k2_rm 25 (100 * 25)) s m args below meth c Q τ26 59 [(4, .int x25), (0, .ref a0), (1, .ref p1), (2, .int p2), (3, .ref p3)] [] := by
    intro nLp26
    induction nLp26 with
    | zero => intro τ26 x25 hI hS E  hxLp26 hm ; exact absurd hm (by omega)
    | succ nLp26 ihLp26 =>
      intro τ26 x25 hI hS E  hxLp26 hmLp26 
      rw [F_X3_parse_59] at E
      refine zg_iload X 0 rfl dX3_parse_59 ?_
      refine zg_sipush X 400 dX3_parse_61 (by decide) (fun v27 _ hv27 => ?_)
      replace E := zLet_s (zcst hv27 (by decide)) E
      refine zg_icmp_gt X 93 dX3_parse_64 (by decide) (fun c28 => ?_) (fun c28 => ?_)
      · skip
        replace E := zIf_t c28 E
        refine zg_aload_n X 1 rfl dX3_parse_93 ?_
        refine fg_X3_43 X hI ha0 dX3_parse_94 (fun v29 ev29 _ => ?_)
        replace E := zLet_s ev29 E
        refine zg_if_ne X 116 dX3_parse_97 (by decide) (fun c30 => ?_) (fun c30 => ?_)
        · skip
          replace E := zIf_f c30 E
          refine zg_aload_n X 1 rfl dX3_parse_116 ?_
          refine fg_X3_18 X hI ha0 dX3_parse_117 (fun v31 ev31 hv31 => ?_)
          replace E := zLet_s (zgr ev31) E
          refine zg_aload_n X 1 rfl dX3_parse_120 ?_
          refine fg_X3_36 X hI ha0 dX3_parse_121 (fun v32 ev32 hv32 => ?_)
          replace E := zLet_s ev32 E
          refine zg_if_eq X 136 dX3_parse_124 (by decide) (fun c33 => ?_) (fun c33 => ?_)
          · skip
            replace E := zIf_t c33 E
            refine zg_iconst X 0 dX3_parse_136 (by decide) (fun v34 _ hv34 => ?_)
            replace E := zLet_s (zcst hv34 (by decide)) E
            refine fp_X3_71 X hI hv31 ⟨by omega, by omega⟩ dX3_parse_137 (fun s35 es35 hI => ?_)
            replace E := zLet_s es35 E
            have hS := hS.i hv31 es35 rfl
            have e36 : v29 = s35.1 a0 8 := by rw [es35]; exact zm_k hv31 ha0 (by decide) ev29
            refine zg_aload_n X 1 rfl dX3_parse_140 ?_
            refine fg_X3_43 X hI ha0 dX3_parse_141 (fun v37 ev37 _ => ?_)
            replace E := zLet_s ev37 E
            have mv37 : v37.toInt = v29.toInt := by rw [ev37, ← e36]
            exact ret _ _ _ _ dX3_parse_144 rfl ⟨E.symm.trans hR, hS, hI⟩
          · skip
            replace E := zIf_f c33 E
            refine zg_iconst X 1 dX3_parse_127 (by decide) (fun v38 _ hv38 => ?_)
            replace E := zLet_s (zcst hv38 (by decide)) E
            refine zg_aload_n X 1 rfl dX3_parse_128 ?_
            refine fg_X3_40 X hI ha0 dX3_parse_129 (fun v39 ev39 hv39 => ?_)
            replace E := zLet_s ev39 E
            refine zg_iadd X dX3_parse_132 (by omega) (by omega) (fun v40 ev40 hv40 => ?_)
            replace E := zLet_s ev40 E
            refine zg_goto X 137 dX3_parse_133 (by decide) ?_
            refine fp_X3_71 X hI hv31 ⟨by omega, by omega⟩ dX3_parse_137 (fun s41 es41 hI => ?_)
            replace E := zLet_s es41 E
            have hS := hS.i hv31 es41 rfl
            have e42 : v29 = s41.1 a0 8 := by rw [es41]; exact zm_k hv31 ha0 (by decide) ev29
            refine zg_aload_n X 1 rfl dX3_parse_140 ?_
            refine fg_X3_43 X hI ha0 dX3_parse_141 (fun v43 ev43 _ => ?_)
            replace E := zLet_s ev43 E
            have mv43 : v43.toInt = v29.toInt := by rw [ev43, ← e42]
            exact ret _ _ _ _ dX3_parse_144 rfl ⟨E.symm.trans hR, hS, hI⟩
        · skip
          replace E := zIf_t c30 E
          refine zg_aload_n X 1 rfl dX3_parse_100 ?_
          refine zg_aload_n X 1 rfl dX3_parse_101 ?_
          refine fg_X3_49 X hI ha0 dX3_parse_102 (fun v44 ev44 _ => ?_)
          replace E := zLet_s ev44 E
          refine fp_X3_43 X hI ha0 (zb_rng _) dX3_parse_105 (fun s45 es45 hI => ?_)
          replace E := zLet_s es45 E
          have hS := hS.i ha0 es45 rfl
          have e47 : v44 = s45.1 a0 8 := by rw [es45]; exact zm_s
          refine zg_aload_n X 1 rfl dX3_parse_108 ?_
          refine zg_aload_n X 1 rfl dX3_parse_109 ?_
          refine fg_X3_52 X hI ha0 dX3_parse_110 (fun v48 ev48 _ => ?_)
          replace E := zLet_s ev48 E
          refine fp_X3_46 X hI ha0 (zb_rng _) dX3_parse_113 (fun s49 es49 hI => ?_)
          replace E := zLet_s es49 E
          have hS := hS.i ha0 es49 rfl
          have e50 : v44 = s49.1 a0 8 := by rw [es49]; exact zm_j (by decide) e47
          refine zg_aload_n X 1 rfl dX3_parse_116 ?_
          refine fg_X3_18 X hI ha0 dX3_parse_117 (fun v51 ev51 hv51 => ?_)
          replace E := zLet_s (zgr ev51) E
          refine zg_aload_n X 1 rfl dX3_parse_120 ?_
          refine fg_X3_36 X hI ha0 dX3_parse_121 (fun v52 ev52 hv52 => ?_)
          replace E := zLet_s ev52 E
          refine zg_if_eq X 136 dX3_parse_124 (by decide) (fun c53 => ?_) (fun c53 => ?_)
          · skip
            replace E := zIf_t c53 E
            refine zg_iconst X 0 dX3_parse_136 (by decide) (fun v54 _ hv54 => ?_)
            replace E := zLet_s (zcst hv54 (by decide)) E
            refine fp_X3_71 X hI hv51 ⟨by omega, by omega⟩ dX3_parse_137 (fun s55 es55 hI => ?_)
            replace E := zLet_s es55 E
            have hS := hS.i hv51 es55 rfl
            have e56 : v44 = s55.1 a0 8 := by rw [es55]; exact zm_k hv51 ha0 (by decide) e50
            refine zg_aload_n X 1 rfl dX3_parse_140 ?_
            refine fg_X3_43 X hI ha0 dX3_parse_141 (fun v57 ev57 _ => ?_)
            replace E := zLet_s ev57 E
            have mv57 : v57.toInt = v44.toInt := by rw [ev57, ← e56]
            exact ret _ _ _ _ dX3_parse_144 rfl ⟨E.symm.trans hR, hS, hI⟩
          · skip
            replace E := zIf_f c53 E
            refine zg_iconst X 1 dX3_parse_127 (by decide) (fun v58 _ hv58 => ?_)
            replace E := zLet_s (zcst hv58 (by decide)) E
            refine zg_aload_n X 1 rfl dX3_parse_128 ?_
            refine fg_X3_40 X hI ha0 dX3_parse_129 (fun v59 ev59 hv59 => ?_)
            replace E := zLet_s ev59 E
            refine zg_iadd X dX3_parse_132 (by omega) (by omega) (fun v60 ev60 hv60 => ?_)
            replace E := zLet_s ev60 E
            refine zg_goto X 137 dX3_parse_133 (by decide) ?_
            refine fp_X3_71 X hI hv51 ⟨by omega, by omega⟩ dX3_parse_137 (fun s61 es61 hI => ?_)
            replace E := zLet_s es61 E
            have hS := hS.i hv51 es61 rfl
            have e62 : v44 = s61.1 a0 8 := by rw [es61]; exact zm_k hv51 ha0 (by decide) e50
            refine zg_aload_n X 1 rfl dX3_parse_140 ?_
            refine fg_X3_43 X hI ha0 dX3_parse_141 (fun v63 ev63 _ => ?_)
            replace E := zLet_s ev63 E
            have mv63 : v63.toInt = v44.toInt := by rw [ev63, ← e62]
            exact ret _ _ _ _ dX3_parse_144 rfl ⟨E.symm.trans hR, hS, hI⟩
      · skip
        replace E := zIf_f (Int.not_lt.mpr c28) E
        refine zg_aload_n X 1 rfl dX3_parse_67 ?_
        refine fg_X3_43 X hI ha0 dX3_parse_68 (fun v64 ev64 _ => ?_)
        replace E := zLet_s ev64 E
        refine zg_if_ne X 93 dX3_parse_71 (by decide) (fun c65 => ?_) (fun c65 => ?_)
        · skip
          replace E := zIf_f c65 E
          refine zg_aload_n X 1 rfl dX3_parse_93 ?_
          refine fg_X3_43 X hI ha0 dX3_parse_94 (fun v66 ev66 _ => ?_)
          replace E := zLet_s ev66 E
          have mv66 : v66.toInt = v64.toInt := by rw [ev66, ← ev64]
          refine zg_if_ne X 116 dX3_parse_97 (by decide) (fun c67 => ?_) (fun c67 => ?_)
          · skip
            replace E := zIf_f c67 E
            refine zg_aload_n X 1 rfl dX3_parse_116 ?_
            refine fg_X3_18 X hI ha0 dX3_parse_117 (fun v68 ev68 hv68 => ?_)
            replace E := zLet_s (zgr ev68) E
            refine zg_aload_n X 1 rfl dX3_parse_120 ?_
            refine fg_X3_36 X hI ha0 dX3_parse_121 (fun v69 ev69 hv69 => ?_)
            replace E := zLet_s ev69 E
            refine zg_if_eq X 136 dX3_parse_124 (by decide) (fun c70 => ?_) (fun c70 => ?_)
            · skip
              replace E := zIf_t c70 E
              refine zg_iconst X 0 dX3_parse_136 (by decide) (fun v71 _ hv71 => ?_)
              replace E := zLet_s (zcst hv71 (by decide)) E
              refine fp_X3_71 X hI hv68 ⟨by omega, by omega⟩ dX3_parse_137 (fun s72 es72 hI => ?_)
              replace E := zLet_s es72 E
              have hS := hS.i hv68 es72 rfl
              have e73 : v66 = s72.1 a0 8 := by rw [es72]; exact zm_k hv68 ha0 (by decide) ev66
              refine zg_aload_n X 1 rfl dX3_parse_140 ?_
              refine fg_X3_43 X hI ha0 dX3_parse_141 (fun v74 ev74 _ => ?_)
              replace E := zLet_s ev74 E
              have mv74 : v74.toInt = v66.toInt := by rw [ev74, ← e73]
              exact ret _ _ _ _ dX3_parse_144 rfl ⟨E.symm.trans hR, hS, hI⟩
            · skip
              replace E := zIf_f c70 E
              refine zg_iconst X 1 dX3_parse_127 (by decide) (fun v75 _ hv75 => ?_)
              replace E := zLet_s (zcst hv75 (by decide)) E
              refine zg_aload_n X 1 rfl dX3_parse_128 ?_
              refine fg_X3_40 X hI ha0 dX3_parse_129 (fun v76 ev76 hv76 => ?_)
              replace E := zLet_s ev76 E
              refine zg_iadd X dX3_parse_132 (by omega) (by omega) (fun v77 ev77 hv77 => ?_)
              replace E := zLet_s ev77 E
              refine zg_goto X 137 dX3_parse_133 (by decide) ?_
              refine fp_X3_71 X hI hv68 ⟨by omega, by omega⟩ dX3_parse_137 (fun s78 es78 hI => ?_)
              replace E := zLet_s es78 E
              have hS := hS.i hv68 es78 rfl
              have e79 : v66 = s78.1 a0 8 := by rw [es78]; exact zm_k hv68 ha0 (by decide) ev66
              refine zg_aload_n X 1 rfl dX3_parse_140 ?_
              refine fg_X3_43 X hI ha0 dX3_parse_141 (fun v80 ev80 _ => ?_)
              replace E := zLet_s ev80 E
              have mv80 : v80.toInt = v66.toInt := by rw [ev80, ← e79]
              exact ret _ _ _ _ dX3_parse_144 rfl ⟨E.symm.trans hR, hS, hI⟩
          · skip
            replace E := zIf_t c67 E
            refine zg_aload_n X 1 rfl dX3_parse_100 ?_
            refine zg_aload_n X 1 rfl dX3_parse_101 ?_
            refine fg_X3_49 X hI ha0 dX3_parse_102 (fun v81 ev81 _ => ?_)
            replace E := zLet_s ev81 E
            refine fp_X3_43 X hI ha0 (zb_rng _) dX3_parse_105 (fun s82 es82 hI => ?_)
            replace E := zLet_s es82 E
            have hS := hS.i ha0 es82 rfl
            have e84 : v81 = s82.1 a0 8 := by rw [es82]; exact zm_s
            refine zg_aload_n X 1 rfl dX3_parse_108 ?_
            refine zg_aload_n X 1 rfl dX3_parse_109 ?_
            refine fg_X3_52 X hI ha0 dX3_parse_110 (fun v85 ev85 _ => ?_)
            replace E := zLet_s ev85 E
            refine fp_X3_46 X hI ha0 (zb_rng _) dX3_parse_113 (fun s86 es86 hI => ?_)
            replace E := zLet_s es86 E
            have hS := hS.i ha0 es86 rfl
            have e87 : v81 = s86.1 a0 8 := by rw [es86]; exact zm_j (by decide) e84
            refine zg_aload_n X 1 rfl dX3_parse_116 ?_
            refine fg_X3_18 X hI ha0 dX3_parse_117 (fun v88 ev88 hv88 => ?_)
            replace E := zLet_s (zgr ev88) E
            refine zg_aload_n X 1 rfl dX3_parse_120 ?_
            refine fg_X3_36 X hI ha0 dX3_parse_121 (fun v89 ev89 hv89 => ?_)
            replace E := zLet_s ev89 E
            refine zg_if_eq X 136 dX3_parse_124 (by decide) (fun c90 => ?_) (fun c90 => ?_)
            · skip
              replace E := zIf_t c90 E
              refine zg_iconst X 0 dX3_parse_136 (by decide) (fun v91 _ hv91 => ?_)
              replace E := zLet_s (zcst hv91 (by decide)) E
              refine fp_X3_71 X hI hv88 ⟨by omega, by omega⟩ dX3_parse_137 (fun s92 es92 hI => ?_)
              replace E := zLet_s es92 E
              have hS := hS.i hv88 es92 rfl
              have e93 : v81 = s92.1 a0 8 := by rw [es92]; exact zm_k hv88 ha0 (by decide) e87
              refine zg_aload_n X 1 rfl dX3_parse_140 ?_
              refine fg_X3_43 X hI ha0 dX3_parse_141 (fun v94 ev94 _ => ?_)
              replace E := zLet_s ev94 E
              have mv94 : v94.toInt = v81.toInt := by rw [ev94, ← e93]
              exact ret _ _ _ _ dX3_parse_144 rfl ⟨E.symm.trans hR, hS, hI⟩
            · skip
              replace E := zIf_f c90 E
              refine zg_iconst X 1 dX3_parse_127 (by decide) (fun v95 _ hv95 => ?_)
              replace E := zLet_s (zcst hv95 (by decide)) E
              refine zg_aload_n X 1 rfl dX3_parse_128 ?_
              refine fg_X3_40 X hI ha0 dX3_parse_129 (fun v96 ev96 hv96 => ?_)
              replace E := zLet_s ev96 E
              refine zg_iadd X dX3_parse_132 (by omega) (by omega) (fun v97 ev97 hv97 => ?_)
              replace E := zLet_s ev97 E
              refine zg_goto X 137 dX3_parse_133 (by decide) ?_
              refine fp_X3_71 X hI hv88 ⟨by omega, by omega⟩ dX3_parse_137 (fun s98 es98 hI => ?_)
              replace E := zLet_s es98 E
              have hS := hS.i hv88 es98 rfl
              have e99 : v81 = s98.1 a0 8 := by rw [es98]; exact zm_k hv88 ha0 (by decide) e87
              refine zg_aload_n X 1 rfl dX3_parse_140 ?_
              refine fg_X3_43 X hI ha0 dX3_parse_141 (fun v100 ev100 _ => ?_)
              replace E := zLet_s ev100 E
              have mv100 : v100.toInt = v81.toInt := by rw [ev100, ← e99]
              exact ret _ _ _ _ dX3_parse_144 rfl ⟨E.symm.trans hR, hS, hI⟩
        · skip
          replace E := zIf_t c65 E
          refine zg_aload_n X 1 rfl dX3_parse_74 ?_
          refine fg_X3_26 X hI ha0 dX3_parse_75 (fun v101 ev101 _ => ?_)
          replace E := zLet_s ev101 E
          refine zg_bipush X 33 dX3_parse_78 (by decide) (fun v102 _ hv102 => ?_)
          replace E := zLet_s (zcst hv102 (by decide)) E
          refine zg_icmp_eq X 93 dX3_parse_80 (by decide) (fun c103 => ?_) (fun c103 => ?_)
          · skip
            replace E := zIf_t c103 E
            refine zg_aload_n X 1 rfl dX3_parse_93 ?_
            refine fg_X3_43 X hI ha0 dX3_parse_94 (fun v104 ev104 _ => ?_)
            replace E := zLet_s ev104 E
            have mv104 : v104.toInt = v64.toInt := by rw [ev104, ← ev64]
            refine zg_if_ne X 116 dX3_parse_97 (by decide) (fun c105 => ?_) (fun c105 => ?_)
            · omega
            · skip
              replace E := zIf_t c105 E
              refine zg_aload_n X 1 rfl dX3_parse_100 ?_
              refine zg_aload_n X 1 rfl dX3_parse_101 ?_
              refine fg_X3_49 X hI ha0 dX3_parse_102 (fun v106 ev106 _ => ?_)
              replace E := zLet_s ev106 E
              refine fp_X3_43 X hI ha0 (zb_rng _) dX3_parse_105 (fun s107 es107 hI => ?_)
              replace E := zLet_s es107 E
              have hS := hS.i ha0 es107 rfl
              have e109 : v106 = s107.1 a0 8 := by rw [es107]; exact zm_s
              refine zg_aload_n X 1 rfl dX3_parse_108 ?_
              refine zg_aload_n X 1 rfl dX3_parse_109 ?_
              refine fg_X3_52 X hI ha0 dX3_parse_110 (fun v110 ev110 _ => ?_)
              replace E := zLet_s ev110 E
              refine fp_X3_46 X hI ha0 (zb_rng _) dX3_parse_113 (fun s111 es111 hI => ?_)
              replace E := zLet_s es111 E
              have hS := hS.i ha0 es111 rfl
              have e112 : v106 = s111.1 a0 8 := by rw [es111]; exact zm_j (by decide) e109
              refine zg_aload_n X 1 rfl dX3_parse_116 ?_
              refine fg_X3_18 X hI ha0 dX3_parse_117 (fun v113 ev113 hv113 => ?_)
              replace E := zLet_s (zgr ev113) E
              refine zg_aload_n X 1 rfl dX3_parse_120 ?_
              refine fg_X3_36 X hI ha0 dX3_parse_121 (fun v114 ev114 hv114 => ?_)
              replace E := zLet_s ev114 E
              refine zg_if_eq X 136 dX3_parse_124 (by decide) (fun c115 => ?_) (fun c115 => ?_)
              · skip
                replace E := zIf_t c115 E
                refine zg_iconst X 0 dX3_parse_136 (by decide) (fun v116 _ hv116 => ?_)
                replace E := zLet_s (zcst hv116 (by decide)) E
                refine fp_X3_71 X hI hv113 ⟨by omega, by omega⟩ dX3_parse_137 (fun s117 es117 hI => ?_)
                replace E := zLet_s es117 E
                have hS := hS.i hv113 es117 rfl
                have e118 : v106 = s117.1 a0 8 := by rw [es117]; exact zm_k hv113 ha0 (by decide) e112
                refine zg_aload_n X 1 rfl dX3_parse_140 ?_
                refine fg_X3_43 X hI ha0 dX3_parse_141 (fun v119 ev119 _ => ?_)
                replace E := zLet_s ev119 E
                have mv119 : v119.toInt = v106.toInt := by rw [ev119, ← e118]
                exact ret _ _ _ _ dX3_parse_144 rfl ⟨E.symm.trans hR, hS, hI⟩
              · skip
                replace E := zIf_f c115 E
                refine zg_iconst X 1 dX3_parse_127 (by decide) (fun v120 _ hv120 => ?_)
                replace E := zLet_s (zcst hv120 (by decide)) E
                refine zg_aload_n X 1 rfl dX3_parse_128 ?_
                refine fg_X3_40 X hI ha0 dX3_parse_129 (fun v121 ev121 hv121 => ?_)
                replace E := zLet_s ev121 E
                refine zg_iadd X dX3_parse_132 (by omega) (by omega) (fun v122 ev122 hv122 => ?_)
                replace E := zLet_s ev122 E
                refine zg_goto X 137 dX3_parse_133 (by decide) ?_
                refine fp_X3_71 X hI hv113 ⟨by omega, by omega⟩ dX3_parse_137 (fun s123 es123 hI => ?_)
                replace E := zLet_s es123 E
                have hS := hS.i hv113 es123 rfl
                have e124 : v106 = s123.1 a0 8 := by rw [es123]; exact zm_k hv113 ha0 (by decide) e112
                refine zg_aload_n X 1 rfl dX3_parse_140 ?_
                refine fg_X3_43 X hI ha0 dX3_parse_141 (fun v125 ev125 _ => ?_)
                replace E := zLet_s ev125 E
                have mv125 : v125.toInt = v106.toInt := by rw [ev125, ← e124]
                exact ret _ _ _ _ dX3_parse_144 rfl ⟨E.symm.trans hR, hS, hI⟩
          · skip
            replace E := zIf_f c103 E
            refine zg_aload_n X 1 rfl dX3_parse_83 ?_
            refine zg_cVv (As := []) (st := []) X ha0 rfl (by decide) rfl (t_X3_telling l d L kd κ _ hI a0 ha0 ) mk_X3_68 mc_X3_telling mz_X3 mi_X3_telling ml_X3_telling (na := 0) ⟨md_X3.1, md_X3.2, by decide +kernel⟩ rfl ⟨by decide, by decide⟩ (Nat.le_of_ble_eq_true rfl) dX3_parse_84 (fun s126 hq => ?_)
            obtain ⟨hF, hS2, hI⟩ := hq
            replace E := zLet_s hF E
            have hS := hS.tr hS2 rfl rfl
            refine zg_iinc X 1 (fun v127 => [(4, .int v127), (0, .ref a0), (1, .ref p1), (2, .int p2), (3, .ref p3)]) 0 dX3_parse_87 rfl (by decide) (by decide) (by omega) (by omega) (fun _ => rfl) (fun v127 ev127 hv127 => ?_)
            replace E := zLet_s (zinc ev127 (by decide)) E
            refine zg_goto X 59 dX3_parse_90 (by decide) ?_
            refine zg_sub [0, 1, 2, 3, 4] rfl ?_
            exact ihLp26 _ v127 hI hS E  (by omega) (by omega) 
  refine zg_sub [0, 1, 2, 3, 4] rfl ?_
  exact Lp26 10000 _ v24 hI hS E  (by omega) (by omega) 
set_option maxHeartbeats 4000000 in
set_option maxRecDepth 100000 in
theorem t_X10_read (l : Launch) (d : zD2) (L : List Nat) (kd : Nat → Nat) (κ : Int) (σ : zS) (hI : zI κ 0 L kd σ) (a0 : Nat) (ha0 : zT L kd a0 10) : zMi l yX10_read (Cond.code yX10_read cX10_read 3 (some .int) :: zWL) 26 [.ref a0] d L kd σ (fun v σ2 => (v, σ2) = F_X10_read a0 σ ∧ zSm [1, 2, 3, 4, 7, 8, 9, 10, 22, 23, 24, 41, 42, 43, 44, 45, 46, 47, 48, 49, 50, 51] [3, 10] L kd σ σ2 ∧ (zI 0 0 L kd σ2)) := by
  refine zMi.of (own := RX10) (by decide +kernel) rfl rfl (Nat.le_of_ble_eq_true rfl) ?_
  intro p e s m args below meth c A Q X ret
  refine zg_lv (lv2 := [(0, .ref a0)]) rfl ?_
  obtain ⟨R, hR⟩ : ∃ R, R = F_X10_read a0 σ := ⟨_, rfl⟩
  have E := hR
  unfold F_X10_read at E
  have hS : zSm [1, 2, 3, 4, 7, 8, 9, 10, 22, 23, 24, 41, 42, 43, 44, 45, 46, 47, 48, 49, 50, 51] [3, 10] L kd σ σ := zSm.rf
  refine zg_aload_n X 0 rfl dX10_read_0 ?_
  refine fg_X10_19 X hI ha0 dX10_read_1 (fun v1 ev1 hv1 => ?_)
  replace E := zLet_s (zgr ev1) E
  refine zg_aload_n X 0 rfl dX10_read_4 ?_
  refine fg_X10_10 X hI ha0 dX10_read_5 (fun v2 ev2 hv2 => ?_)
  replace E := zLet_s (zgr ev2) E
  refine fg_X10_91 X hI hv2 dX10_read_8 (fun v3 ev3 hv3 => ?_)
  replace E := zLet_s (zgr ev3) E
  refine zg_aload_n X 0 rfl dX10_read_11 ?_
  refine fg_X10_10 X hI ha0 dX10_read_12 (fun v4 ev4 hv4 => ?_)
  replace E := zLet_s (zgr ev4) E
  refine fg_X10_84 X hI hv4 dX10_read_15 (fun v5 ev5 hv5 => ?_)
  replace E := zLet_s ev5 E
  have hkv5 := hI.2.2.1
  refine zg_aload_n X 0 rfl dX10_read_18 ?_
  refine fg_X10_74 X hI ha0 dX10_read_19 (fun v6 ev6 hv6 => ?_)
  replace E := zLet_s (zgr ev6) E
  refine zg_cVi (As := [.ref v3, .int v5, .ref v6]) (st := []) X hv1 rfl (by decide) rfl (t_X3_parse l d L kd κ 0 _ hI v1 hv1 v3 hv3 v5 v6 hv6 (by omega)) mk_X10_95 mc_X3_parse mz_X3 mi_X3_parse ml_X3_parse (na := 3) ⟨md_X3.1, md_X3.2, by decide +kernel⟩ rfl ⟨by decide, by decide⟩ (Nat.le_of_ble_eq_true rfl) dX10_read_22 (fun v7 s8 hq => ?_)
  obtain ⟨hF, hS2, hI⟩ := hq
  replace E := zLet2_s hF E
  have hS := hS.tr hS2 rfl rfl
  refine zg_istore_n X [(1, .int v7), (0, .ref a0)] dX10_read_25 (by decide) rfl ?_
  refine zg_aload_n X 1 rfl dX10_read_26 ?_
  refine zg_aload_n X 1 rfl dX10_read_27 ?_
  refine fg_X10_19 X hI ha0 dX10_read_28 (fun v9 ev9 hv9 => ?_)
  replace E := zLet_s (zgr ev9) E
  refine fg_X10_99 X hI hv9 dX10_read_31 (fun v10 ev10 _ => ?_)
  replace E := zLet_s ev10 E
  refine fp_X10_81 X hI ha0 (zb_rng _) dX10_read_34 (fun s11 es11 hI => ?_)
  replace E := zLet_s es11 E
  have hS := hS.i ha0 es11 rfl
  refine zg_aload_n X 1 rfl dX10_read_37 ?_
  refine fg_X10_10 X hI ha0 dX10_read_38 (fun v12 ev12 hv12 => ?_)
  replace E := zLet_s (zgr ev12) E
  refine zg_iconst X 0 dX10_read_41 (by decide) (fun v13 _ hv13 => ?_)
  replace E := zLet_s (zcst hv13 (by decide)) E
  refine fq_X10_84 X hv12 dX10_read_42 (fun s14 es14 => ?_)
  replace E := zLet_s es14 E
  have hS := hS.i hv12 es14 rfl
  have hI : zI v13.toInt 2 L kd s14 := by rw [es14]; exact zi_tape hI hv12 (by omega) (by omega)
  refine zg_iload_n X 0 rfl dX10_read_45 ?_
  refine zg_if_ne X 71 dX10_read_46 (by decide) (fun c15 => ?_) (fun c15 => ?_)
  · skip
    replace E := zIf_f c15 E
    refine zg_iload_n X 0 rfl dX10_read_71 ?_
    exact ret _ _ _ _ dX10_read_72 rfl ⟨E.symm.trans hR, hS, (zi_eq (by omega) (zi_weak hI))⟩
  · skip
    replace E := zIf_t c15 E
    refine zg_aload_n X 1 rfl dX10_read_49 ?_
    refine fg_X10_74 X hI ha0 dX10_read_50 (fun v16 ev16 hv16 => ?_)
    replace E := zLet_s (zgr ev16) E
    refine zg_astore_n X [(2, .ref v16), (1, .int v7), (0, .ref a0)] dX10_read_53 (by decide) rfl ?_
    refine zg_aload_n X 2 rfl dX10_read_54 ?_
    refine zg_aload_n X 2 rfl dX10_read_55 ?_
    refine fg_X10_70 X hI ha0 dX10_read_56 (fun v17 ev17 hv17 => ?_)
    replace E := zLet_s (zgr ev17) E
    refine fp_X10_74 X hI ha0 hv17 dX10_read_59 (fun s18 es18 hI => ?_)
    replace E := zLet_s es18 E
    have hS := hS.r ha0 es18 rfl
    refine zg_aload_n X 2 rfl dX10_read_62 ?_
    refine zg_aload_n X 0 rfl dX10_read_63 ?_
    refine fp_X10_70 X hI ha0 hv16 dX10_read_64 (fun s19 es19 hI => ?_)
    replace E := zLet_s es19 E
    have hS := hS.r ha0 es19 rfl
    refine zg_aload_n X 2 rfl dX10_read_67 ?_
    refine zg_cVv (As := []) (st := []) X ha0 rfl (by decide) rfl (t_X10_beginAnew l d L kd v13.toInt 2 _ hI a0 ha0 ) mk_X10_100 mc_X10_beginAnew mz_X10 mi_X10_beginAnew ml_X10_beginAnew (na := 0) ⟨md_X10.1, md_X10.2, by decide +kernel⟩ rfl ⟨by decide, by decide⟩ (Nat.le_of_ble_eq_true rfl) dX10_read_68 (fun s20 hq => ?_)
    obtain ⟨hF, hS2, hI⟩ := hq
    replace E := zLet_s hF E
    have hS := hS.tr hS2 rfl rfl
    refine zg_iload_n X 1 rfl dX10_read_71 ?_
    exact ret _ _ _ _ dX10_read_72 rfl ⟨E.symm.trans hR, hS, (zi_eq (by omega) (zi_weak hI))⟩
end
-- 15a.pure0
section
/-! THE REFERENCE'S WORDS -/
theorem zlt {α β : Type} (x : α) (f : α → β) : zLet x f = f x := Eq.trans (Eq.refl (f x)) (Eq.refl (f x))
theorem zlt2 {α β γ : Type} (x : α × β) (f : α → β → γ) : zLet2 x f = f x.1 x.2 := Eq.trans (Eq.refl (f x.1 x.2)) (Eq.refl (f x.1 x.2))
def zwl : List (List Int) := [[13, 15, 21, 20, 8], [16, 12, 1, 3, 5], [18, 1, 9, 14, 19], [4, 18, 9, 5, 19], [15, 14, 5], [20, 23, 15], [20, 8, 18, 5, 5], [19, 20, 15, 18, 13], [16, 18, 9, 26, 5], [19, 5, 5, 4], [9, 6], [20, 8, 5, 14], [5, 12, 19, 5], [18, 1, 9, 14], [6, 1, 18], [20, 1, 12, 5], [13, 15, 14, 20, 8], [6, 12, 15, 23], [12, 5, 14, 7, 20, 8], [23, 15, 14], [23, 8, 9, 3, 8], [1, 2, 15, 22, 5]]
/-- a word's number: its letters (1 .. 26) to a base -/
def zvb (b : Int) (l : List Int) : Int := l.foldl (fun x c => x * b + c) 0
def zw32 (j : Nat) : Int64 := Int64.ofInt (zvb 32 (zwl.getD j []))
def zw27 (j : Nat) : Int64 := Int64.ofInt (zvb 27 (zwl.getD j []))
theorem zu_j {α : Type} (f : Nat → Nat → α) (a j k : Nat) (v : α) (h : ¬ j = k) : zu f a j v a k = f a k := by
  unfold zu
  rw [if_pos rfl]
  first | rw [if_neg h] | rw [if_neg (fun z => h z.symm)]
theorem ztn (x : Int32) : x.toNatClampNeg = x.toInt.toNat := rfl
theorem zkw_0 : F_X11_word 109 111 117 116 104 0 0 = zw27 0 := by decide +kernel
theorem zkw_1 : F_X11_word 112 108 97 99 101 0 0 = zw27 1 := by decide +kernel
theorem zkw_2 : F_X11_word 114 97 105 110 115 0 0 = zw27 2 := by decide +kernel
theorem zkw_3 : F_X11_word 100 114 105 101 115 0 0 = zw27 3 := by decide +kernel
theorem zkw_4 : F_X11_word 111 110 101 0 0 0 0 = zw27 4 := by decide +kernel
theorem zkw_5 : F_X11_word 116 119 111 0 0 0 0 = zw27 5 := by decide +kernel
theorem zkw_6 : F_X11_word 116 104 114 101 101 0 0 = zw27 6 := by decide +kernel
theorem zkw_7 : F_X11_word 115 116 111 114 109 0 0 = zw27 7 := by decide +kernel
theorem zkw_8 : F_X11_word 112 114 105 122 101 0 0 = zw27 8 := by decide +kernel
theorem zkw_9 : F_X11_word 115 101 101 100 0 0 0 = zw27 9 := by decide +kernel
theorem zkw_10 : F_X11_word 105 102 0 0 0 0 0 = zw27 10 := by decide +kernel
theorem zkw_11 : F_X11_word 116 104 101 110 0 0 0 = zw27 11 := by decide +kernel
theorem zkw_12 : F_X11_word 101 108 115 101 0 0 0 = zw27 12 := by decide +kernel
theorem zkw_13 : F_X11_word 114 97 105 110 0 0 0 = zw27 13 := by decide +kernel
theorem zkw_14 : F_X11_word 102 97 114 0 0 0 0 = zw27 14 := by decide +kernel
theorem zkw_15 : F_X11_word 116 97 108 101 0 0 0 = zw27 15 := by decide +kernel
theorem zkw_16 : F_X11_word 109 111 110 116 104 0 0 = zw27 16 := by decide +kernel
theorem zkw_17 : F_X11_word 102 108 111 119 0 0 0 = zw27 17 := by decide +kernel
theorem zkw_18 : F_X11_word 108 101 110 103 116 104 0 = zw27 18 := by decide +kernel
theorem zkw_19 : F_X11_word 119 111 110 0 0 0 0 = zw27 19 := by decide +kernel
theorem zkw_20 : F_X11_word 119 104 105 99 104 0 0 = zw27 20 := by decide +kernel
theorem zkw_21 : F_X11_word 97 98 111 118 101 0 0 = zw27 21 := by decide +kernel
theorem zkx_0 {x0 x1 x2 x3 x4 x5 x6 : Int32} {v : Int64} (hv : v = F_X11_word x0 x1 x2 x3 x4 x5 x6) (h0 : x0.toInt = 109) (h1 : x1.toInt = 111) (h2 : x2.toInt = 117) (h3 : x3.toInt = 116) (h4 : x4.toInt = 104) (h5 : x5.toInt = 0) (h6 : x6.toInt = 0) : v = zw27 0 := by
  have e0 : x0 = 109 := Int32.toInt_inj.mp (h0.trans (by decide))
  have e1 : x1 = 111 := Int32.toInt_inj.mp (h1.trans (by decide))
  have e2 : x2 = 117 := Int32.toInt_inj.mp (h2.trans (by decide))
  have e3 : x3 = 116 := Int32.toInt_inj.mp (h3.trans (by decide))
  have e4 : x4 = 104 := Int32.toInt_inj.mp (h4.trans (by decide))
  have e5 : x5 = 0 := Int32.toInt_inj.mp (h5.trans (by decide))
  have e6 : x6 = 0 := Int32.toInt_inj.mp (h6.trans (by decide))
  subst e0 e1 e2 e3 e4 e5 e6
  exact hv.trans zkw_0
theorem zkx_1 {x0 x1 x2 x3 x4 x5 x6 : Int32} {v : Int64} (hv : v = F_X11_word x0 x1 x2 x3 x4 x5 x6) (h0 : x0.toInt = 112) (h1 : x1.toInt = 108) (h2 : x2.toInt = 97) (h3 : x3.toInt = 99) (h4 : x4.toInt = 101) (h5 : x5.toInt = 0) (h6 : x6.toInt = 0) : v = zw27 1 := by
  have e0 : x0 = 112 := Int32.toInt_inj.mp (h0.trans (by decide))
  have e1 : x1 = 108 := Int32.toInt_inj.mp (h1.trans (by decide))
  have e2 : x2 = 97 := Int32.toInt_inj.mp (h2.trans (by decide))
  have e3 : x3 = 99 := Int32.toInt_inj.mp (h3.trans (by decide))
  have e4 : x4 = 101 := Int32.toInt_inj.mp (h4.trans (by decide))
  have e5 : x5 = 0 := Int32.toInt_inj.mp (h5.trans (by decide))
  have e6 : x6 = 0 := Int32.toInt_inj.mp (h6.trans (by decide))
  subst e0 e1 e2 e3 e4 e5 e6
  exact hv.trans zkw_1
theorem zkx_2 {x0 x1 x2 x3 x4 x5 x6 : Int32} {v : Int64} (hv : v = F_X11_word x0 x1 x2 x3 x4 x5 x6) (h0 : x0.toInt = 114) (h1 : x1.toInt = 97) (h2 : x2.toInt = 105) (h3 : x3.toInt = 110) (h4 : x4.toInt = 115) (h5 : x5.toInt = 0) (h6 : x6.toInt = 0) : v = zw27 2 := by
  have e0 : x0 = 114 := Int32.toInt_inj.mp (h0.trans (by decide))
  have e1 : x1 = 97 := Int32.toInt_inj.mp (h1.trans (by decide))
  have e2 : x2 = 105 := Int32.toInt_inj.mp (h2.trans (by decide))
  have e3 : x3 = 110 := Int32.toInt_inj.mp (h3.trans (by decide))
  have e4 : x4 = 115 := Int32.toInt_inj.mp (h4.trans (by decide))
  have e5 : x5 = 0 := Int32.toInt_inj.mp (h5.trans (by decide))
  have e6 : x6 = 0 := Int32.toInt_inj.mp (h6.trans (by decide))
  subst e0 e1 e2 e3 e4 e5 e6
  exact hv.trans zkw_2
theorem zkx_3 {x0 x1 x2 x3 x4 x5 x6 : Int32} {v : Int64} (hv : v = F_X11_word x0 x1 x2 x3 x4 x5 x6) (h0 : x0.toInt = 100) (h1 : x1.toInt = 114) (h2 : x2.toInt = 105) (h3 : x3.toInt = 101) (h4 : x4.toInt = 115) (h5 : x5.toInt = 0) (h6 : x6.toInt = 0) : v = zw27 3 := by
  have e0 : x0 = 100 := Int32.toInt_inj.mp (h0.trans (by decide))
  have e1 : x1 = 114 := Int32.toInt_inj.mp (h1.trans (by decide))
  have e2 : x2 = 105 := Int32.toInt_inj.mp (h2.trans (by decide))
  have e3 : x3 = 101 := Int32.toInt_inj.mp (h3.trans (by decide))
  have e4 : x4 = 115 := Int32.toInt_inj.mp (h4.trans (by decide))
  have e5 : x5 = 0 := Int32.toInt_inj.mp (h5.trans (by decide))
  have e6 : x6 = 0 := Int32.toInt_inj.mp (h6.trans (by decide))
  subst e0 e1 e2 e3 e4 e5 e6
  exact hv.trans zkw_3
theorem zkx_4 {x0 x1 x2 x3 x4 x5 x6 : Int32} {v : Int64} (hv : v = F_X11_word x0 x1 x2 x3 x4 x5 x6) (h0 : x0.toInt = 111) (h1 : x1.toInt = 110) (h2 : x2.toInt = 101) (h3 : x3.toInt = 0) (h4 : x4.toInt = 0) (h5 : x5.toInt = 0) (h6 : x6.toInt = 0) : v = zw27 4 := by
  have e0 : x0 = 111 := Int32.toInt_inj.mp (h0.trans (by decide))
  have e1 : x1 = 110 := Int32.toInt_inj.mp (h1.trans (by decide))
  have e2 : x2 = 101 := Int32.toInt_inj.mp (h2.trans (by decide))
  have e3 : x3 = 0 := Int32.toInt_inj.mp (h3.trans (by decide))
  have e4 : x4 = 0 := Int32.toInt_inj.mp (h4.trans (by decide))
  have e5 : x5 = 0 := Int32.toInt_inj.mp (h5.trans (by decide))
  have e6 : x6 = 0 := Int32.toInt_inj.mp (h6.trans (by decide))
  subst e0 e1 e2 e3 e4 e5 e6
  exact hv.trans zkw_4
theorem zkx_5 {x0 x1 x2 x3 x4 x5 x6 : Int32} {v : Int64} (hv : v = F_X11_word x0 x1 x2 x3 x4 x5 x6) (h0 : x0.toInt = 116) (h1 : x1.toInt = 119) (h2 : x2.toInt = 111) (h3 : x3.toInt = 0) (h4 : x4.toInt = 0) (h5 : x5.toInt = 0) (h6 : x6.toInt = 0) : v = zw27 5 := by
  have e0 : x0 = 116 := Int32.toInt_inj.mp (h0.trans (by decide))
  have e1 : x1 = 119 := Int32.toInt_inj.mp (h1.trans (by decide))
  have e2 : x2 = 111 := Int32.toInt_inj.mp (h2.trans (by decide))
  have e3 : x3 = 0 := Int32.toInt_inj.mp (h3.trans (by decide))
  have e4 : x4 = 0 := Int32.toInt_inj.mp (h4.trans (by decide))
  have e5 : x5 = 0 := Int32.toInt_inj.mp (h5.trans (by decide))
  have e6 : x6 = 0 := Int32.toInt_inj.mp (h6.trans (by decide))
  subst e0 e1 e2 e3 e4 e5 e6
  exact hv.trans zkw_5
theorem zkx_6 {x0 x1 x2 x3 x4 x5 x6 : Int32} {v : Int64} (hv : v = F_X11_word x0 x1 x2 x3 x4 x5 x6) (h0 : x0.toInt = 116) (h1 : x1.toInt = 104) (h2 : x2.toInt = 114) (h3 : x3.toInt = 101) (h4 : x4.toInt = 101) (h5 : x5.toInt = 0) (h6 : x6.toInt = 0) : v = zw27 6 := by
  have e0 : x0 = 116 := Int32.toInt_inj.mp (h0.trans (by decide))
  have e1 : x1 = 104 := Int32.toInt_inj.mp (h1.trans (by decide))
  have e2 : x2 = 114 := Int32.toInt_inj.mp (h2.trans (by decide))
  have e3 : x3 = 101 := Int32.toInt_inj.mp (h3.trans (by decide))
  have e4 : x4 = 101 := Int32.toInt_inj.mp (h4.trans (by decide))
  have e5 : x5 = 0 := Int32.toInt_inj.mp (h5.trans (by decide))
  have e6 : x6 = 0 := Int32.toInt_inj.mp (h6.trans (by decide))
  subst e0 e1 e2 e3 e4 e5 e6
  exact hv.trans zkw_6
theorem zkx_7 {x0 x1 x2 x3 x4 x5 x6 : Int32} {v : Int64} (hv : v = F_X11_word x0 x1 x2 x3 x4 x5 x6) (h0 : x0.toInt = 115) (h1 : x1.toInt = 116) (h2 : x2.toInt = 111) (h3 : x3.toInt = 114) (h4 : x4.toInt = 109) (h5 : x5.toInt = 0) (h6 : x6.toInt = 0) : v = zw27 7 := by
  have e0 : x0 = 115 := Int32.toInt_inj.mp (h0.trans (by decide))
  have e1 : x1 = 116 := Int32.toInt_inj.mp (h1.trans (by decide))
  have e2 : x2 = 111 := Int32.toInt_inj.mp (h2.trans (by decide))
  have e3 : x3 = 114 := Int32.toInt_inj.mp (h3.trans (by decide))
  have e4 : x4 = 109 := Int32.toInt_inj.mp (h4.trans (by decide))
  have e5 : x5 = 0 := Int32.toInt_inj.mp (h5.trans (by decide))
  have e6 : x6 = 0 := Int32.toInt_inj.mp (h6.trans (by decide))
  subst e0 e1 e2 e3 e4 e5 e6
  exact hv.trans zkw_7
theorem zkx_8 {x0 x1 x2 x3 x4 x5 x6 : Int32} {v : Int64} (hv : v = F_X11_word x0 x1 x2 x3 x4 x5 x6) (h0 : x0.toInt = 112) (h1 : x1.toInt = 114) (h2 : x2.toInt = 105) (h3 : x3.toInt = 122) (h4 : x4.toInt = 101) (h5 : x5.toInt = 0) (h6 : x6.toInt = 0) : v = zw27 8 := by
  have e0 : x0 = 112 := Int32.toInt_inj.mp (h0.trans (by decide))
  have e1 : x1 = 114 := Int32.toInt_inj.mp (h1.trans (by decide))
  have e2 : x2 = 105 := Int32.toInt_inj.mp (h2.trans (by decide))
  have e3 : x3 = 122 := Int32.toInt_inj.mp (h3.trans (by decide))
  have e4 : x4 = 101 := Int32.toInt_inj.mp (h4.trans (by decide))
  have e5 : x5 = 0 := Int32.toInt_inj.mp (h5.trans (by decide))
  have e6 : x6 = 0 := Int32.toInt_inj.mp (h6.trans (by decide))
  subst e0 e1 e2 e3 e4 e5 e6
  exact hv.trans zkw_8
theorem zkx_9 {x0 x1 x2 x3 x4 x5 x6 : Int32} {v : Int64} (hv : v = F_X11_word x0 x1 x2 x3 x4 x5 x6) (h0 : x0.toInt = 115) (h1 : x1.toInt = 101) (h2 : x2.toInt = 101) (h3 : x3.toInt = 100) (h4 : x4.toInt = 0) (h5 : x5.toInt = 0) (h6 : x6.toInt = 0) : v = zw27 9 := by
  have e0 : x0 = 115 := Int32.toInt_inj.mp (h0.trans (by decide))
  have e1 : x1 = 101 := Int32.toInt_inj.mp (h1.trans (by decide))
  have e2 : x2 = 101 := Int32.toInt_inj.mp (h2.trans (by decide))
  have e3 : x3 = 100 := Int32.toInt_inj.mp (h3.trans (by decide))
  have e4 : x4 = 0 := Int32.toInt_inj.mp (h4.trans (by decide))
  have e5 : x5 = 0 := Int32.toInt_inj.mp (h5.trans (by decide))
  have e6 : x6 = 0 := Int32.toInt_inj.mp (h6.trans (by decide))
  subst e0 e1 e2 e3 e4 e5 e6
  exact hv.trans zkw_9
theorem zkx_10 {x0 x1 x2 x3 x4 x5 x6 : Int32} {v : Int64} (hv : v = F_X11_word x0 x1 x2 x3 x4 x5 x6) (h0 : x0.toInt = 105) (h1 : x1.toInt = 102) (h2 : x2.toInt = 0) (h3 : x3.toInt = 0) (h4 : x4.toInt = 0) (h5 : x5.toInt = 0) (h6 : x6.toInt = 0) : v = zw27 10 := by
  have e0 : x0 = 105 := Int32.toInt_inj.mp (h0.trans (by decide))
  have e1 : x1 = 102 := Int32.toInt_inj.mp (h1.trans (by decide))
  have e2 : x2 = 0 := Int32.toInt_inj.mp (h2.trans (by decide))
  have e3 : x3 = 0 := Int32.toInt_inj.mp (h3.trans (by decide))
  have e4 : x4 = 0 := Int32.toInt_inj.mp (h4.trans (by decide))
  have e5 : x5 = 0 := Int32.toInt_inj.mp (h5.trans (by decide))
  have e6 : x6 = 0 := Int32.toInt_inj.mp (h6.trans (by decide))
  subst e0 e1 e2 e3 e4 e5 e6
  exact hv.trans zkw_10
theorem zkx_11 {x0 x1 x2 x3 x4 x5 x6 : Int32} {v : Int64} (hv : v = F_X11_word x0 x1 x2 x3 x4 x5 x6) (h0 : x0.toInt = 116) (h1 : x1.toInt = 104) (h2 : x2.toInt = 101) (h3 : x3.toInt = 110) (h4 : x4.toInt = 0) (h5 : x5.toInt = 0) (h6 : x6.toInt = 0) : v = zw27 11 := by
  have e0 : x0 = 116 := Int32.toInt_inj.mp (h0.trans (by decide))
  have e1 : x1 = 104 := Int32.toInt_inj.mp (h1.trans (by decide))
  have e2 : x2 = 101 := Int32.toInt_inj.mp (h2.trans (by decide))
  have e3 : x3 = 110 := Int32.toInt_inj.mp (h3.trans (by decide))
  have e4 : x4 = 0 := Int32.toInt_inj.mp (h4.trans (by decide))
  have e5 : x5 = 0 := Int32.toInt_inj.mp (h5.trans (by decide))
  have e6 : x6 = 0 := Int32.toInt_inj.mp (h6.trans (by decide))
  subst e0 e1 e2 e3 e4 e5 e6
  exact hv.trans zkw_11
theorem zkx_12 {x0 x1 x2 x3 x4 x5 x6 : Int32} {v : Int64} (hv : v = F_X11_word x0 x1 x2 x3 x4 x5 x6) (h0 : x0.toInt = 101) (h1 : x1.toInt = 108) (h2 : x2.toInt = 115) (h3 : x3.toInt = 101) (h4 : x4.toInt = 0) (h5 : x5.toInt = 0) (h6 : x6.toInt = 0) : v = zw27 12 := by
  have e0 : x0 = 101 := Int32.toInt_inj.mp (h0.trans (by decide))
  have e1 : x1 = 108 := Int32.toInt_inj.mp (h1.trans (by decide))
  have e2 : x2 = 115 := Int32.toInt_inj.mp (h2.trans (by decide))
  have e3 : x3 = 101 := Int32.toInt_inj.mp (h3.trans (by decide))
  have e4 : x4 = 0 := Int32.toInt_inj.mp (h4.trans (by decide))
  have e5 : x5 = 0 := Int32.toInt_inj.mp (h5.trans (by decide))
  have e6 : x6 = 0 := Int32.toInt_inj.mp (h6.trans (by decide))
  subst e0 e1 e2 e3 e4 e5 e6
  exact hv.trans zkw_12
theorem zkx_13 {x0 x1 x2 x3 x4 x5 x6 : Int32} {v : Int64} (hv : v = F_X11_word x0 x1 x2 x3 x4 x5 x6) (h0 : x0.toInt = 114) (h1 : x1.toInt = 97) (h2 : x2.toInt = 105) (h3 : x3.toInt = 110) (h4 : x4.toInt = 0) (h5 : x5.toInt = 0) (h6 : x6.toInt = 0) : v = zw27 13 := by
  have e0 : x0 = 114 := Int32.toInt_inj.mp (h0.trans (by decide))
  have e1 : x1 = 97 := Int32.toInt_inj.mp (h1.trans (by decide))
  have e2 : x2 = 105 := Int32.toInt_inj.mp (h2.trans (by decide))
  have e3 : x3 = 110 := Int32.toInt_inj.mp (h3.trans (by decide))
  have e4 : x4 = 0 := Int32.toInt_inj.mp (h4.trans (by decide))
  have e5 : x5 = 0 := Int32.toInt_inj.mp (h5.trans (by decide))
  have e6 : x6 = 0 := Int32.toInt_inj.mp (h6.trans (by decide))
  subst e0 e1 e2 e3 e4 e5 e6
  exact hv.trans zkw_13
theorem zkx_14 {x0 x1 x2 x3 x4 x5 x6 : Int32} {v : Int64} (hv : v = F_X11_word x0 x1 x2 x3 x4 x5 x6) (h0 : x0.toInt = 102) (h1 : x1.toInt = 97) (h2 : x2.toInt = 114) (h3 : x3.toInt = 0) (h4 : x4.toInt = 0) (h5 : x5.toInt = 0) (h6 : x6.toInt = 0) : v = zw27 14 := by
  have e0 : x0 = 102 := Int32.toInt_inj.mp (h0.trans (by decide))
  have e1 : x1 = 97 := Int32.toInt_inj.mp (h1.trans (by decide))
  have e2 : x2 = 114 := Int32.toInt_inj.mp (h2.trans (by decide))
  have e3 : x3 = 0 := Int32.toInt_inj.mp (h3.trans (by decide))
  have e4 : x4 = 0 := Int32.toInt_inj.mp (h4.trans (by decide))
  have e5 : x5 = 0 := Int32.toInt_inj.mp (h5.trans (by decide))
  have e6 : x6 = 0 := Int32.toInt_inj.mp (h6.trans (by decide))
  subst e0 e1 e2 e3 e4 e5 e6
  exact hv.trans zkw_14
theorem zkx_15 {x0 x1 x2 x3 x4 x5 x6 : Int32} {v : Int64} (hv : v = F_X11_word x0 x1 x2 x3 x4 x5 x6) (h0 : x0.toInt = 116) (h1 : x1.toInt = 97) (h2 : x2.toInt = 108) (h3 : x3.toInt = 101) (h4 : x4.toInt = 0) (h5 : x5.toInt = 0) (h6 : x6.toInt = 0) : v = zw27 15 := by
  have e0 : x0 = 116 := Int32.toInt_inj.mp (h0.trans (by decide))
  have e1 : x1 = 97 := Int32.toInt_inj.mp (h1.trans (by decide))
  have e2 : x2 = 108 := Int32.toInt_inj.mp (h2.trans (by decide))
  have e3 : x3 = 101 := Int32.toInt_inj.mp (h3.trans (by decide))
  have e4 : x4 = 0 := Int32.toInt_inj.mp (h4.trans (by decide))
  have e5 : x5 = 0 := Int32.toInt_inj.mp (h5.trans (by decide))
  have e6 : x6 = 0 := Int32.toInt_inj.mp (h6.trans (by decide))
  subst e0 e1 e2 e3 e4 e5 e6
  exact hv.trans zkw_15
theorem zkx_16 {x0 x1 x2 x3 x4 x5 x6 : Int32} {v : Int64} (hv : v = F_X11_word x0 x1 x2 x3 x4 x5 x6) (h0 : x0.toInt = 109) (h1 : x1.toInt = 111) (h2 : x2.toInt = 110) (h3 : x3.toInt = 116) (h4 : x4.toInt = 104) (h5 : x5.toInt = 0) (h6 : x6.toInt = 0) : v = zw27 16 := by
  have e0 : x0 = 109 := Int32.toInt_inj.mp (h0.trans (by decide))
  have e1 : x1 = 111 := Int32.toInt_inj.mp (h1.trans (by decide))
  have e2 : x2 = 110 := Int32.toInt_inj.mp (h2.trans (by decide))
  have e3 : x3 = 116 := Int32.toInt_inj.mp (h3.trans (by decide))
  have e4 : x4 = 104 := Int32.toInt_inj.mp (h4.trans (by decide))
  have e5 : x5 = 0 := Int32.toInt_inj.mp (h5.trans (by decide))
  have e6 : x6 = 0 := Int32.toInt_inj.mp (h6.trans (by decide))
  subst e0 e1 e2 e3 e4 e5 e6
  exact hv.trans zkw_16
theorem zkx_17 {x0 x1 x2 x3 x4 x5 x6 : Int32} {v : Int64} (hv : v = F_X11_word x0 x1 x2 x3 x4 x5 x6) (h0 : x0.toInt = 102) (h1 : x1.toInt = 108) (h2 : x2.toInt = 111) (h3 : x3.toInt = 119) (h4 : x4.toInt = 0) (h5 : x5.toInt = 0) (h6 : x6.toInt = 0) : v = zw27 17 := by
  have e0 : x0 = 102 := Int32.toInt_inj.mp (h0.trans (by decide))
  have e1 : x1 = 108 := Int32.toInt_inj.mp (h1.trans (by decide))
  have e2 : x2 = 111 := Int32.toInt_inj.mp (h2.trans (by decide))
  have e3 : x3 = 119 := Int32.toInt_inj.mp (h3.trans (by decide))
  have e4 : x4 = 0 := Int32.toInt_inj.mp (h4.trans (by decide))
  have e5 : x5 = 0 := Int32.toInt_inj.mp (h5.trans (by decide))
  have e6 : x6 = 0 := Int32.toInt_inj.mp (h6.trans (by decide))
  subst e0 e1 e2 e3 e4 e5 e6
  exact hv.trans zkw_17
theorem zkx_18 {x0 x1 x2 x3 x4 x5 x6 : Int32} {v : Int64} (hv : v = F_X11_word x0 x1 x2 x3 x4 x5 x6) (h0 : x0.toInt = 108) (h1 : x1.toInt = 101) (h2 : x2.toInt = 110) (h3 : x3.toInt = 103) (h4 : x4.toInt = 116) (h5 : x5.toInt = 104) (h6 : x6.toInt = 0) : v = zw27 18 := by
  have e0 : x0 = 108 := Int32.toInt_inj.mp (h0.trans (by decide))
  have e1 : x1 = 101 := Int32.toInt_inj.mp (h1.trans (by decide))
  have e2 : x2 = 110 := Int32.toInt_inj.mp (h2.trans (by decide))
  have e3 : x3 = 103 := Int32.toInt_inj.mp (h3.trans (by decide))
  have e4 : x4 = 116 := Int32.toInt_inj.mp (h4.trans (by decide))
  have e5 : x5 = 104 := Int32.toInt_inj.mp (h5.trans (by decide))
  have e6 : x6 = 0 := Int32.toInt_inj.mp (h6.trans (by decide))
  subst e0 e1 e2 e3 e4 e5 e6
  exact hv.trans zkw_18
theorem zkx_19 {x0 x1 x2 x3 x4 x5 x6 : Int32} {v : Int64} (hv : v = F_X11_word x0 x1 x2 x3 x4 x5 x6) (h0 : x0.toInt = 119) (h1 : x1.toInt = 111) (h2 : x2.toInt = 110) (h3 : x3.toInt = 0) (h4 : x4.toInt = 0) (h5 : x5.toInt = 0) (h6 : x6.toInt = 0) : v = zw27 19 := by
  have e0 : x0 = 119 := Int32.toInt_inj.mp (h0.trans (by decide))
  have e1 : x1 = 111 := Int32.toInt_inj.mp (h1.trans (by decide))
  have e2 : x2 = 110 := Int32.toInt_inj.mp (h2.trans (by decide))
  have e3 : x3 = 0 := Int32.toInt_inj.mp (h3.trans (by decide))
  have e4 : x4 = 0 := Int32.toInt_inj.mp (h4.trans (by decide))
  have e5 : x5 = 0 := Int32.toInt_inj.mp (h5.trans (by decide))
  have e6 : x6 = 0 := Int32.toInt_inj.mp (h6.trans (by decide))
  subst e0 e1 e2 e3 e4 e5 e6
  exact hv.trans zkw_19
theorem zkx_20 {x0 x1 x2 x3 x4 x5 x6 : Int32} {v : Int64} (hv : v = F_X11_word x0 x1 x2 x3 x4 x5 x6) (h0 : x0.toInt = 119) (h1 : x1.toInt = 104) (h2 : x2.toInt = 105) (h3 : x3.toInt = 99) (h4 : x4.toInt = 104) (h5 : x5.toInt = 0) (h6 : x6.toInt = 0) : v = zw27 20 := by
  have e0 : x0 = 119 := Int32.toInt_inj.mp (h0.trans (by decide))
  have e1 : x1 = 104 := Int32.toInt_inj.mp (h1.trans (by decide))
  have e2 : x2 = 105 := Int32.toInt_inj.mp (h2.trans (by decide))
  have e3 : x3 = 99 := Int32.toInt_inj.mp (h3.trans (by decide))
  have e4 : x4 = 104 := Int32.toInt_inj.mp (h4.trans (by decide))
  have e5 : x5 = 0 := Int32.toInt_inj.mp (h5.trans (by decide))
  have e6 : x6 = 0 := Int32.toInt_inj.mp (h6.trans (by decide))
  subst e0 e1 e2 e3 e4 e5 e6
  exact hv.trans zkw_20
theorem zkx_21 {x0 x1 x2 x3 x4 x5 x6 : Int32} {v : Int64} (hv : v = F_X11_word x0 x1 x2 x3 x4 x5 x6) (h0 : x0.toInt = 97) (h1 : x1.toInt = 98) (h2 : x2.toInt = 111) (h3 : x3.toInt = 118) (h4 : x4.toInt = 101) (h5 : x5.toInt = 0) (h6 : x6.toInt = 0) : v = zw27 21 := by
  have e0 : x0 = 97 := Int32.toInt_inj.mp (h0.trans (by decide))
  have e1 : x1 = 98 := Int32.toInt_inj.mp (h1.trans (by decide))
  have e2 : x2 = 111 := Int32.toInt_inj.mp (h2.trans (by decide))
  have e3 : x3 = 118 := Int32.toInt_inj.mp (h3.trans (by decide))
  have e4 : x4 = 101 := Int32.toInt_inj.mp (h4.trans (by decide))
  have e5 : x5 = 0 := Int32.toInt_inj.mp (h5.trans (by decide))
  have e6 : x6 = 0 := Int32.toInt_inj.mp (h6.trans (by decide))
  subst e0 e1 e2 e3 e4 e5 e6
  exact hv.trans zkw_21
/-! THE CLASS' WORDS: the letters of the text, read in order -/
def zwt : List Int := "mouth place rains dries one two three storm prize seed if then else rain far tale month flow length won which above ".toList.map (fun c => (c.toNat : Int))
/-- word w, and the words so far -/
def zwa (s : Nat × (Nat → Int64)) (c : Int) : Nat × (Nat → Int64) := if c = 32 then (s.1 + 1, s.2) else (s.1, fun j => if j = s.1 then s.2 s.1 * 32 + Int64.ofInt (c - 96) else s.2 j)
def zwf (k : Nat) : Nat × (Nat → Int64) := (zwt.take k).foldl zwa (0, fun _ => 0)
end
