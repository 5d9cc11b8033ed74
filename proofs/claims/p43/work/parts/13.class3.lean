set_option maxHeartbeats 4000000 in
set_option maxRecDepth 100000 in
theorem t_X10_fewestDams (l : Launch) (d : zD2) (L : List Nat) (kd : Nat → Nat) (κ : Int) (σ : zS) (hI : zI κ 1 L kd σ) (a0 : Nat) (ha0 : zT L kd a0 10) (p1 : Int32) : zMi l yX10_fewestDams (Cond.code yX10_fewestDams cX10_fewestDams 5 (some .int) :: zWL) 4 [.ref a0, .int p1] d L kd σ (fun v σ2 => (v, σ2) = F_X10_fewestDams a0 p1 σ ∧ zSm [20, 21, 31] [] L kd σ σ2 ∧ (zI κ 1 L kd σ2)) := by
  refine zMi.of (own := RX10) (by decide +kernel) rfl rfl (Nat.le_of_ble_eq_true rfl) ?_
  intro p e s m args below meth c A Q X ret
  refine zg_lv (lv2 := [(0, .ref a0), (1, .int p1)]) rfl ?_
  obtain ⟨R, hR⟩ : ∃ R, R = F_X10_fewestDams a0 p1 σ := ⟨_, rfl⟩
  have E := hR
  unfold F_X10_fewestDams at E
  have hS : zSm [20, 21, 31] [] L kd σ σ := zSm.rf
  refine zg_aload_n X 0 rfl dX10_fewestDams_0 ?_
  refine fg_X10_70 X hI ha0 dX10_fewestDams_1 (fun v1 ev1 hv1 => ?_)
  replace E := zLet_s (zgr ev1) E
  refine fg_X10_175 X hI hv1 dX10_fewestDams_4 (fun v2 ev2 hv2 => ?_)
  replace E := zLet_s ev2 E
  refine zg_cSi (As := [.int v2]) (st := []) X (t_X10_bit l d L kd _ v2 ) mk_X10_216 mc_X10_bit mz_X10 ms_X10_bit (na := 1) ⟨md_X10.1, md_X10.2, by decide +kernel⟩ rfl ⟨by decide, by decide⟩ (Nat.le_of_ble_eq_true rfl) dX10_fewestDams_7 (fun v3 σ2 hq => ?_)
  obtain ⟨⟨hF, hv3⟩, rfl⟩ := hq
  replace E := zLet_s hF E
  have hbit := hv3 (by omega) (by omega)
  refine zg_iconst X 1 dX10_fewestDams_10 (by decide) (fun v4 _ hv4 => ?_)
  replace E := zLet_s (zcst hv4 (by decide)) E
  refine zg_isub X dX10_fewestDams_11 (by omega) (by omega) (fun v5 ev5 hv5 => ?_)
  replace E := zLet_s ev5 E
  refine zg_aload_n X 0 rfl dX10_fewestDams_12 ?_
  refine fg_X10_52 X hI ha0 dX10_fewestDams_13 (fun v6 ev6 hv6 => ?_)
  replace E := zLet_s (zgr ev6) E
  refine fg_X10_128 X hI hv6 dX10_fewestDams_16 (fun v7 ev7 _ => ?_)
  replace E := zLet_s ev7 E
  refine zg_iconst X 0 dX10_fewestDams_19 (by decide) (fun v8 _ hv8 => ?_)
  replace E := zLet_s (zcst hv8 (by decide)) E
  refine zg_cSi (As := [.int v8]) (st := [.int v7, .int v5]) X (t_X10_bit l d L kd _ v8 ) mk_X10_216 mc_X10_bit mz_X10 ms_X10_bit (na := 1) ⟨md_X10.1, md_X10.2, by decide +kernel⟩ rfl ⟨by decide, by decide⟩ (Nat.le_of_ble_eq_true rfl) dX10_fewestDams_20 (fun v9 σ2 hq => ?_)
  obtain ⟨⟨hF, hv9⟩, rfl⟩ := hq
  replace E := zLet_s hF E
  refine zg_iorW X dX10_fewestDams_23 (fun v10 ev10 => ?_)
  replace E := zLet_s ev10 E
  refine zg_iconst X (-1) dX10_fewestDams_24 (by decide) (fun v11 _ hv11 => ?_)
  replace E := zLet_s (zcst hv11 (by decide)) E
  refine zg_ixorW X dX10_fewestDams_25 (fun v12 ev12 => ?_)
  replace E := zLet_s ev12 E
  have hand := zb_and v5 v12 (by omega)
  refine zg_iandW X dX10_fewestDams_26 (fun v13 ev13 => ?_)
  replace E := zLet_s ev13 E
  rw [← ev13] at hand
  refine zg_istore_n X [(2, .int v13), (0, .ref a0), (1, .int p1)] dX10_fewestDams_27 (by decide) rfl ?_
  refine zg_iconst X (-1) dX10_fewestDams_28 (by decide) (fun v14 _ hv14 => ?_)
  replace E := zLet_s (zcst hv14 (by decide)) E
  refine zg_istore_n X [(3, .int v14), (2, .int v13), (0, .ref a0), (1, .int p1)] dX10_fewestDams_29 (by decide) rfl ?_
  refine zg_iconst X 0 dX10_fewestDams_30 (by decide) (fun v15 _ hv15 => ?_)
  replace E := zLet_s (zcst hv15 (by decide)) E
  refine zg_istore X [(4, .int v15), (3, .int v14), (2, .int v13), (0, .ref a0), (1, .int p1)] dX10_fewestDams_31 (by decide) rfl ?_
  have Lp18 : ∀ (nLp18 : Nat) (τ18 : zS) (x16 : Int32) (x17 : Int32), zI κ 1 L kd τ18 → zSm [20, 21, 31] [] L kd σ τ18 → R = F_X10_fewestDams_33 v13 a0 p1  nLp18 x16 x17 τ18 → 0 ≤ x16.toInt ∧ x16.toInt ≤ 4096 → (2147483647) - x16.toInt + 1 < (nLp18 : Int) → zG d L kd A 5 p l e (k2_rm 4 (100 * 4)) s m args below meth c Q τ18 33 [(4, .int x16), (3, .int x17), (2, .int v13), (0, .ref a0), (1, .int p1)] [] := by
    intro nLp18
    induction nLp18 with
    | zero => intro τ18 x16 x17 hI hS E  hxLp18 hm ; exact absurd hm (by omega)
    | succ nLp18 ihLp18 =>
      intro τ18 x16 x17 hI hS E  hxLp18 hmLp18 
      rw [F_X10_fewestDams_33] at E
      refine zg_iload X 0 rfl dX10_fewestDams_33 ?_
      refine zg_iload_n X 2 rfl dX10_fewestDams_35 ?_
      have zv13_z19 := zb_rng v13
      refine zg_icmp_gt X 104 dX10_fewestDams_36 (by decide) (fun c20 => ?_) (fun c20 => ?_)
      · skip
        replace E := zIf_t c20 E
        refine zg_iload_n X 1 rfl dX10_fewestDams_104 ?_
        exact ret _ _ _ _ dX10_fewestDams_105 rfl ⟨E.symm.trans hR, hS, hI⟩
      · skip
        replace E := zIf_f (Int.not_lt.mpr c20) E
        refine zg_iload X 0 rfl dX10_fewestDams_39 ?_
        refine zg_iload_n X 2 rfl dX10_fewestDams_41 ?_
        refine zg_iconst X (-1) dX10_fewestDams_42 (by decide) (fun v21 _ hv21 => ?_)
        replace E := zLet_s (zcst hv21 (by decide)) E
        refine zg_ixorW X dX10_fewestDams_43 (fun v22 ev22 => ?_)
        replace E := zLet_s ev22 E
        refine zg_iandW X dX10_fewestDams_44 (fun v23 ev23 => ?_)
        replace E := zLet_s ev23 E
        refine zg_if_ne X 98 dX10_fewestDams_45 (by decide) (fun c24 => ?_) (fun c24 => ?_)
        · skip
          replace E := zIf_f c24 E
          refine zg_iinc X 1 (fun v25 => [(4, .int v25), (3, .int x17), (2, .int v13), (0, .ref a0), (1, .int p1)]) 0 dX10_fewestDams_98 rfl (by decide) (by decide) (by omega) (by omega) (fun _ => rfl) (fun v25 ev25 hv25 => ?_)
          replace E := zLet_s (zinc ev25 (by decide)) E
          refine zg_goto X 33 dX10_fewestDams_101 (by decide) ?_
          refine zg_sub [0, 1, 2, 3, 4] rfl ?_
          exact ihLp18 _ v25 x17 hI hS E  (by omega) (by omega) 
        · skip
          replace E := zIf_t c24 E
          refine zg_iload X 0 rfl dX10_fewestDams_48 ?_
          refine zg_cSi (As := [.int x16]) (st := []) X (t_J6_bitCount_0f7a4 l d L kd _ x16 ) mk_X10_198 mc_J6_bitCount_0f7a4 mz_J6 ms_J6_bitCount_0f7a4 (na := 1) ⟨md_J6.1, md_J6.2, by decide +kernel⟩ rfl ⟨by decide, by decide⟩ (Nat.le_of_ble_eq_true rfl) dX10_fewestDams_50 (fun v26 σ2 hq => ?_)
          obtain ⟨⟨hF, hv26⟩, rfl⟩ := hq
          replace E := zLet_s hF E
          refine zg_iconst X 3 dX10_fewestDams_53 (by decide) (fun v27 _ hv27 => ?_)
          replace E := zLet_s (zcst hv27 (by decide)) E
          have zv26_z28 := zb_rng v26
          refine zg_icmp_gt X 98 dX10_fewestDams_54 (by decide) (fun c29 => ?_) (fun c29 => ?_)
          · skip
            replace E := zIf_t c29 E
            refine zg_iinc X 1 (fun v30 => [(4, .int v30), (3, .int x17), (2, .int v13), (0, .ref a0), (1, .int p1)]) 0 dX10_fewestDams_98 rfl (by decide) (by decide) (by omega) (by omega) (fun _ => rfl) (fun v30 ev30 hv30 => ?_)
            replace E := zLet_s (zinc ev30 (by decide)) E
            refine zg_goto X 33 dX10_fewestDams_101 (by decide) ?_
            refine zg_sub [0, 1, 2, 3, 4] rfl ?_
            exact ihLp18 _ v30 x17 hI hS E  (by omega) (by omega) 
          · skip
            replace E := zIf_f (Int.not_lt.mpr c29) E
            refine zg_iload X 0 rfl dX10_fewestDams_57 ?_
            refine zg_iload_n X 1 rfl dX10_fewestDams_59 ?_
            refine zg_cSi (As := [.int x16, .int x17]) (st := []) X (t_X10_isAhead l d L kd _ x16 x17 ) mk_X10_287 mc_X10_isAhead mz_X10 ms_X10_isAhead (na := 2) ⟨md_X10.1, md_X10.2, by decide +kernel⟩ rfl ⟨by decide, by decide⟩ (Nat.le_of_ble_eq_true rfl) dX10_fewestDams_60 (fun v31 σ2 hq => ?_)
            obtain ⟨⟨hF, hv31⟩, rfl⟩ := hq
            replace E := zLet_s hF E
            refine zg_if_eq X 98 dX10_fewestDams_63 (by decide) (fun c32 => ?_) (fun c32 => ?_)
            · skip
              replace E := zIf_t c32 E
              refine zg_iinc X 1 (fun v33 => [(4, .int v33), (3, .int x17), (2, .int v13), (0, .ref a0), (1, .int p1)]) 0 dX10_fewestDams_98 rfl (by decide) (by decide) (by omega) (by omega) (fun _ => rfl) (fun v33 ev33 hv33 => ?_)
              replace E := zLet_s (zinc ev33 (by decide)) E
              refine zg_goto X 33 dX10_fewestDams_101 (by decide) ?_
              refine zg_sub [0, 1, 2, 3, 4] rfl ?_
              exact ihLp18 _ v33 x17 hI hS E  (by omega) (by omega) 
            · skip
              replace E := zIf_f c32 E
              refine zg_aload_n X 3 rfl dX10_fewestDams_66 ?_
              refine fg_X10_26 X hI ha0 dX10_fewestDams_67 (fun v34 ev34 hv34 => ?_)
              replace E := zLet_s (zgr ev34) E
              refine zg_aload_n X 3 rfl dX10_fewestDams_70 ?_
              refine fg_X10_52 X hI ha0 dX10_fewestDams_71 (fun v35 ev35 hv35 => ?_)
              replace E := zLet_s (zgr ev35) E
              refine fg_X10_128 X hI hv35 dX10_fewestDams_74 (fun v36 ev36 _ => ?_)
              replace E := zLet_s ev36 E
              refine zg_iload X 0 rfl dX10_fewestDams_77 ?_
              refine zg_iorW X dX10_fewestDams_79 (fun v37 ev37 => ?_)
              replace E := zLet_s ev37 E
              refine zg_cVv (As := [.int v37]) (st := []) X hv34 rfl (by decide) rfl (t_X5_run l d L kd κ _ hI v34 hv34 v37 ) mk_X10_274 mc_X5_run mz_X5 mi_X5_run ml_X5_run (na := 1) ⟨md_X5.1, md_X5.2, by decide +kernel⟩ rfl ⟨by decide, by decide⟩ (Nat.le_of_ble_eq_true rfl) dX10_fewestDams_80 (fun s38 hq => ?_)
              obtain ⟨hF, hS2, hI⟩ := hq
              replace E := zLet_s hF E
              have hS := hS.tr hS2 rfl rfl
              refine zg_aload_n X 3 rfl dX10_fewestDams_83 ?_
              refine zg_cVi (As := []) (st := []) X ha0 rfl (by decide) rfl (t_X10_mouthFlow l d L kd κ 1 _ hI a0 ha0 ) mk_X10_191 mc_X10_mouthFlow mz_X10 mi_X10_mouthFlow ml_X10_mouthFlow (na := 0) ⟨md_X10.1, md_X10.2, by decide +kernel⟩ rfl ⟨by decide, by decide⟩ (Nat.le_of_ble_eq_true rfl) dX10_fewestDams_84 (fun v39 s40 hq => ?_)
              obtain ⟨hF, hS2, hI⟩ := hq
              replace E := zLet2_s hF E
              have hS := hS.tr hS2 rfl rfl
              refine zg_iload_n X 4 rfl dX10_fewestDams_87 ?_
              have zv39_z41 := zb_rng v39
              have zp1_z42 := zb_rng p1
              refine zg_icmp_gt X 96 dX10_fewestDams_88 (by decide) (fun c43 => ?_) (fun c43 => ?_)
              · skip
                replace E := zIf_t c43 E
                refine zg_iload_n X 1 rfl dX10_fewestDams_96 ?_
                refine zg_istore_n X [(3, .int x17), (4, .int x16), (2, .int v13), (0, .ref a0), (1, .int p1)] dX10_fewestDams_97 (by decide) rfl ?_
                refine zg_iinc X 1 (fun v44 => [(4, .int v44), (3, .int x17), (2, .int v13), (0, .ref a0), (1, .int p1)]) 1 dX10_fewestDams_98 rfl (by decide) (by decide) (by omega) (by omega) (fun _ => rfl) (fun v44 ev44 hv44 => ?_)
                replace E := zLet_s (zinc ev44 (by decide)) E
                refine zg_goto X 33 dX10_fewestDams_101 (by decide) ?_
                refine zg_sub [0, 1, 2, 3, 4] rfl ?_
                exact ihLp18 _ v44 x17 hI hS E  (by omega) (by omega) 
              · skip
                replace E := zIf_f (Int.not_lt.mpr c43) E
                refine zg_iload X 0 rfl dX10_fewestDams_91 ?_
                refine zg_goto X 97 dX10_fewestDams_93 (by decide) ?_
                refine zg_istore_n X [(3, .int x16), (4, .int x16), (2, .int v13), (0, .ref a0), (1, .int p1)] dX10_fewestDams_97 (by decide) rfl ?_
                refine zg_iinc X 1 (fun v45 => [(4, .int v45), (3, .int x16), (2, .int v13), (0, .ref a0), (1, .int p1)]) 1 dX10_fewestDams_98 rfl (by decide) (by decide) (by omega) (by omega) (fun _ => rfl) (fun v45 ev45 hv45 => ?_)
                replace E := zLet_s (zinc ev45 (by decide)) E
                refine zg_goto X 33 dX10_fewestDams_101 (by decide) ?_
                refine zg_sub [0, 1, 2, 3, 4] rfl ?_
                exact ihLp18 _ v45 x16 hI hS E  (by omega) (by omega) 
  refine zg_sub [0, 1, 2, 3, 4] rfl ?_
  exact Lp18 4294967299 _ v15 v14 hI hS E  (by omega) (by omega) 
set_option maxHeartbeats 4000000 in
set_option maxRecDepth 100000 in
theorem t_X10_place (l : Launch) (d : zD2) (L : List Nat) (kd : Nat → Nat) (κ : Int) (σ : zS) (hI : zI κ 0 L kd σ) (a0 : Nat) (ha0 : zT L kd a0 10) : zMi l yX10_place (Cond.code yX10_place cX10_place 1 (some .int) :: zWL) 0 [.ref a0] d L kd σ (fun v σ2 => (v, σ2) = F_X10_place a0 σ ∧ zSm [] [] L kd σ σ2 ∧ (zI κ 0 L kd σ2)) := by
  refine zMi.of (own := RX10) (by decide +kernel) rfl rfl (Nat.le_of_ble_eq_true rfl) ?_
  intro p e s m args below meth c A Q X ret
  refine zg_lv (lv2 := [(0, .ref a0)]) rfl ?_
  obtain ⟨R, hR⟩ : ∃ R, R = F_X10_place a0 σ := ⟨_, rfl⟩
  have E := hR
  unfold F_X10_place at E
  have hS : zSm [] [] L kd σ σ := zSm.rf
  refine zg_aload_n X 0 rfl dX10_place_0 ?_
  refine fg_X10_81 X hI ha0 dX10_place_1 (fun v1 ev1 _ => ?_)
  replace E := zLet_s ev1 E
  exact ret _ _ _ _ dX10_place_4 rfl ⟨E.symm.trans hR, hS, hI⟩
set_option maxHeartbeats 4000000 in
set_option maxRecDepth 100000 in
theorem t_X10_spot (l : Launch) (d : zD2) (L : List Nat) (kd : Nat → Nat) (κ : Int) (σ : zS) (hI : zI κ 0 L kd σ) (a0 : Nat) (ha0 : zT L kd a0 10) (p1 : Int32) (p2 : Int32) : zMi l yX10_spot (Cond.code yX10_spot cX10_spot 3 (some .int) :: zWL) 7 [.ref a0, .int p1, .int p2] d L kd σ (fun v σ2 => (v, σ2) = F_X10_spot a0 p1 p2 σ ∧ zSm [6, 20, 21, 30, 31, 33, 34, 35, 36, 38] [5] L kd σ σ2 ∧ (zI κ 0 L kd σ2)) := by
  refine zMi.of (own := RX10) (by decide +kernel) rfl rfl (Nat.le_of_ble_eq_true rfl) ?_
  intro p e s m args below meth c A Q X ret
  refine zg_lv (lv2 := [(0, .ref a0), (1, .int p1), (2, .int p2)]) rfl ?_
  obtain ⟨R, hR⟩ : ∃ R, R = F_X10_spot a0 p1 p2 σ := ⟨_, rfl⟩
  have E := hR
  unfold F_X10_spot at E
  have hS : zSm [6, 20, 21, 30, 31, 33, 34, 35, 36, 38] [5] L kd σ σ := zSm.rf
  refine zg_aload_n X 0 rfl dX10_spot_0 ?_
  refine zg_iload_n X 1 rfl dX10_spot_1 ?_
  refine zg_cVi (As := [.int p1]) (st := []) X ha0 rfl (by decide) rfl (t_X10_isPlace l d L kd κ 0 _ hI a0 ha0 p1 ) mk_X10_109 mc_X10_isPlace mz_X10 mi_X10_isPlace ml_X10_isPlace (na := 1) ⟨md_X10.1, md_X10.2, by decide +kernel⟩ rfl ⟨by decide, by decide⟩ (Nat.le_of_ble_eq_true rfl) dX10_spot_2 (fun v1 s2 hq => ?_)
  obtain ⟨hF, hS2, hI⟩ := hq
  replace E := zLet2_s hF E
  have hS := hS.tr hS2 rfl rfl
  obtain ⟨hv1, hI⟩ := hI
  refine zg_if_eq X 18 dX10_spot_5 (by decide) (fun c3 => ?_) (fun c3 => ?_)
  · skip
    replace E := zIf_t c3 E
    refine zg_iconst X (-1) dX10_spot_18 (by decide) (fun v4 _ hv4 => ?_)
    replace E := zLet_s (zcst hv4 (by decide)) E
    exact ret _ _ _ _ dX10_spot_19 rfl ⟨E.symm.trans hR, hS, hI⟩
  · skip
    replace E := zIf_f c3 E
    refine zg_iload_n X 2 rfl dX10_spot_8 ?_
    refine zg_if_lt X 18 dX10_spot_9 (by decide) (fun c5 => ?_) (fun c5 => ?_)
    · skip
      replace E := zIf_t c5 E
      refine zg_iconst X (-1) dX10_spot_18 (by decide) (fun v6 _ hv6 => ?_)
      replace E := zLet_s (zcst hv6 (by decide)) E
      exact ret _ _ _ _ dX10_spot_19 rfl ⟨E.symm.trans hR, hS, hI⟩
    · skip
      replace E := zIf_f (Int.not_lt.mpr c5) E
      refine zg_iload_n X 2 rfl dX10_spot_12 ?_
      refine zg_bipush X 12 dX10_spot_13 (by decide) (fun v7 _ hv7 => ?_)
      replace E := zLet_s (zcst hv7 (by decide)) E
      have zp2_z8 := zb_rng p2
      refine zg_icmp_le X 20 dX10_spot_15 (by decide) (fun c9 => ?_) (fun c9 => ?_)
      · skip
        replace E := zIf_f (Int.not_lt.mpr c9) E
        refine zg_aload_n X 0 rfl dX10_spot_20 ?_
        refine zg_cVv (As := []) (st := []) X ha0 rfl (by decide) rfl (t_X10_look l d L kd κ 0 _ hI a0 ha0 ) mk_X10_113 mc_X10_look mz_X10 mi_X10_look ml_X10_look (na := 0) ⟨md_X10.1, md_X10.2, by decide +kernel⟩ rfl ⟨by decide, by decide⟩ (Nat.le_of_ble_eq_true rfl) dX10_spot_21 (fun s10 hq => ?_)
        obtain ⟨hF, hS2, hI⟩ := hq
        replace E := zLet_s hF E
        have hS := hS.tr hS2 rfl rfl
        refine zg_iload_n X 2 rfl dX10_spot_24 ?_
        by_cases q11 : p2.toInt = 0
        · refine zg_tabIn X 88 0 dX10_spot_25 q11 (by decide) (by decide) rfl (by decide) ?_
          replace E := zIf_t q11 E
          refine zg_iload_n X 1 rfl dX10_spot_88 ?_
          refine zg_if_ne X 97 dX10_spot_89 (by decide) (fun c12 => ?_) (fun c12 => ?_)
          · skip
            replace E := zIf_f c12 E
            refine zg_aload_n X 0 rfl dX10_spot_97 ?_
            refine fg_X10_52 X hI ha0 dX10_spot_98 (fun v13 ev13 hv13 => ?_)
            replace E := zLet_s (zgr ev13) E
            refine fg_X10_116 X hI hv13 dX10_spot_101 (fun v14 ev14 hv14 => ?_)
            replace E := zLet_s (zgr ev14) E
            refine zg_iload_n X 1 rfl dX10_spot_104 ?_
            refine ag_22 X hI hv14 (by omega) (by omega) dX10_spot_105 (fun v15 ev15 hv15 => ?_)
            replace E := zLet_s ev15 E
            exact ret _ _ _ _ dX10_spot_106 rfl ⟨E.symm.trans hR, hS, (zi_weak hI)⟩
          · skip
            replace E := zIf_t c12 E
            refine zg_bipush X (-2) dX10_spot_92 (by decide) (fun v16 _ hv16 => ?_)
            replace E := zLet_s (zcst hv16 (by decide)) E
            refine zg_goto X 106 dX10_spot_94 (by decide) ?_
            exact ret _ _ _ _ dX10_spot_106 rfl ⟨E.symm.trans hR, hS, (zi_weak hI)⟩
        · skip
          replace E := zIf_f q11 E
          by_cases q17 : p2.toInt = 1
          · refine zg_tabIn X 107 1 dX10_spot_25 q17 (by decide) (by decide) rfl (by decide) ?_
            replace E := zIf_t q17 E
            refine zg_aload_n X 0 rfl dX10_spot_107 ?_
            refine fg_X10_70 X hI ha0 dX10_spot_108 (fun v18 ev18 hv18 => ?_)
            replace E := zLet_s (zgr ev18) E
            refine fg_X10_119 X hI hv18 dX10_spot_111 (fun v19 ev19 hv19 => ?_)
            replace E := zLet_s (zgr ev19) E
            refine zg_iload_n X 1 rfl dX10_spot_114 ?_
            refine ag_46 X hI hv19 (by omega) (by omega) dX10_spot_115 (fun v20 ev20 _ => ?_)
            replace E := zLet_s ev20 E
            exact ret _ _ _ _ dX10_spot_116 rfl ⟨E.symm.trans hR, hS, (zi_weak hI)⟩
          · skip
            replace E := zIf_f q17 E
            by_cases q21 : p2.toInt = 2
            · refine zg_tabIn X 117 2 dX10_spot_25 q21 (by decide) (by decide) rfl (by decide) ?_
              replace E := zIf_t q21 E
              refine zg_aload_n X 0 rfl dX10_spot_117 ?_
              refine fg_X10_70 X hI ha0 dX10_spot_118 (fun v22 ev22 hv22 => ?_)
              replace E := zLet_s (zgr ev22) E
              refine fg_X10_122 X hI hv22 dX10_spot_121 (fun v23 ev23 hv23 => ?_)
              replace E := zLet_s (zgr ev23) E
              refine zg_iload_n X 1 rfl dX10_spot_124 ?_
              refine ag_47 X hI hv23 (by omega) (by omega) dX10_spot_125 (fun v24 ev24 _ => ?_)
              replace E := zLet_s ev24 E
              exact ret _ _ _ _ dX10_spot_126 rfl ⟨E.symm.trans hR, hS, (zi_weak hI)⟩
            · skip
              replace E := zIf_f q21 E
              by_cases q25 : p2.toInt = 3
              · refine zg_tabIn X 127 3 dX10_spot_25 q25 (by decide) (by decide) rfl (by decide) ?_
                replace E := zIf_t q25 E
                refine zg_aload_n X 0 rfl dX10_spot_127 ?_
                refine fg_X10_70 X hI ha0 dX10_spot_128 (fun v26 ev26 hv26 => ?_)
                replace E := zLet_s (zgr ev26) E
                refine fg_X10_125 X hI hv26 dX10_spot_131 (fun v27 ev27 hv27 => ?_)
                replace E := zLet_s (zgr ev27) E
                refine zg_iload_n X 1 rfl dX10_spot_134 ?_
                refine ag_48 X hI hv27 (by omega) (by omega) dX10_spot_135 (fun v28 ev28 _ => ?_)
                replace E := zLet_s ev28 E
                exact ret _ _ _ _ dX10_spot_136 rfl ⟨E.symm.trans hR, hS, (zi_weak hI)⟩
              · skip
                replace E := zIf_f q25 E
                by_cases q29 : p2.toInt = 4
                · refine zg_tabIn X 137 4 dX10_spot_25 q29 (by decide) (by decide) rfl (by decide) ?_
                  replace E := zIf_t q29 E
                  refine zg_aload_n X 0 rfl dX10_spot_137 ?_
                  refine fg_X10_52 X hI ha0 dX10_spot_138 (fun v30 ev30 hv30 => ?_)
                  replace E := zLet_s (zgr ev30) E
                  refine fg_X10_128 X hI hv30 dX10_spot_141 (fun v31 ev31 _ => ?_)
                  replace E := zLet_s ev31 E
                  refine zg_iload_n X 1 rfl dX10_spot_144 ?_
                  refine zg_cSi (As := [.int v31, .int p1]) (st := []) X (t_X10_has l d L kd _ v31 p1 ) mk_X10_131 mc_X10_has mz_X10 ms_X10_has (na := 2) ⟨md_X10.1, md_X10.2, by decide +kernel⟩ rfl ⟨by decide, by decide⟩ (Nat.le_of_ble_eq_true rfl) dX10_spot_145 (fun v32 σ2 hq => ?_)
                  obtain ⟨⟨hF, hv32⟩, rfl⟩ := hq
                  replace E := zLet_s hF E
                  refine zg_if_eq X 155 dX10_spot_148 (by decide) (fun c33 => ?_) (fun c33 => ?_)
                  · skip
                    replace E := zIf_t c33 E
                    refine zg_iconst X 0 dX10_spot_155 (by decide) (fun v34 _ hv34 => ?_)
                    replace E := zLet_s (zcst hv34 (by decide)) E
                    exact ret _ _ _ _ dX10_spot_156 rfl ⟨E.symm.trans hR, hS, (zi_weak hI)⟩
                  · skip
                    replace E := zIf_f c33 E
                    refine zg_iconst X 1 dX10_spot_151 (by decide) (fun v35 _ hv35 => ?_)
                    replace E := zLet_s (zcst hv35 (by decide)) E
                    refine zg_goto X 156 dX10_spot_152 (by decide) ?_
                    exact ret _ _ _ _ dX10_spot_156 rfl ⟨E.symm.trans hR, hS, (zi_weak hI)⟩
                · skip
                  replace E := zIf_f q29 E
                  by_cases q36 : p2.toInt = 5
                  · refine zg_tabIn X 157 5 dX10_spot_25 q36 (by decide) (by decide) rfl (by decide) ?_
                    replace E := zIf_t q36 E
                    refine zg_aload_n X 0 rfl dX10_spot_157 ?_
                    refine fg_X10_26 X hI ha0 dX10_spot_158 (fun v37 ev37 hv37 => ?_)
                    replace E := zLet_s (zgr ev37) E
                    refine fg_X10_135 X hI hv37 dX10_spot_161 (fun v38 ev38 hv38 => ?_)
                    replace E := zLet_s (zgr ev38) E
                    refine zg_iload_n X 1 rfl dX10_spot_164 ?_
                    refine ag_31 X hI hv38 (by omega) (by omega) dX10_spot_165 (fun v39 ev39 _ => ?_)
                    replace E := zLet_s ev39 E
                    exact ret _ _ _ _ dX10_spot_166 rfl ⟨E.symm.trans hR, hS, (zi_weak hI)⟩
                  · skip
                    replace E := zIf_f q36 E
                    by_cases q40 : p2.toInt = 6
                    · refine zg_tabIn X 167 6 dX10_spot_25 q40 (by decide) (by decide) rfl (by decide) ?_
                      replace E := zIf_t q40 E
                      refine zg_aload_n X 0 rfl dX10_spot_167 ?_
                      refine fg_X10_34 X hI ha0 dX10_spot_168 (fun v41 ev41 hv41 => ?_)
                      replace E := zLet_s (zgr ev41) E
                      refine fg_X10_138 X hI hv41 dX10_spot_171 (fun v42 ev42 hv42 => ?_)
                      replace E := zLet_s (zgr ev42) E
                      refine zg_iload_n X 1 rfl dX10_spot_174 ?_
                      refine ag_35 X hI hv42 (by omega) (by omega) dX10_spot_175 (fun v43 ev43 _ => ?_)
                      replace E := zLet_s ev43 E
                      exact ret _ _ _ _ dX10_spot_176 rfl ⟨E.symm.trans hR, hS, (zi_weak hI)⟩
                    · skip
                      replace E := zIf_f q40 E
                      by_cases q44 : p2.toInt = 7
                      · refine zg_tabIn X 177 7 dX10_spot_25 q44 (by decide) (by decide) rfl (by decide) ?_
                        replace E := zIf_t q44 E
                        refine zg_aload_n X 0 rfl dX10_spot_177 ?_
                        refine fg_X10_34 X hI ha0 dX10_spot_178 (fun v45 ev45 hv45 => ?_)
                        replace E := zLet_s (zgr ev45) E
                        refine fg_X10_143 X hI hv45 dX10_spot_181 (fun v46 ev46 hv46 => ?_)
                        replace E := zLet_s (zgr ev46) E
                        refine zg_iload_n X 1 rfl dX10_spot_184 ?_
                        refine ag_36 X hI hv46 (by omega) (by omega) dX10_spot_185 (fun v47 ev47 _ => ?_)
                        replace E := zLet_s ev47 E
                        exact ret _ _ _ _ dX10_spot_186 rfl ⟨E.symm.trans hR, hS, (zi_weak hI)⟩
                      · skip
                        replace E := zIf_f q44 E
                        by_cases q48 : p2.toInt = 8
                        · refine zg_tabIn X 187 8 dX10_spot_25 q48 (by decide) (by decide) rfl (by decide) ?_
                          replace E := zIf_t q48 E
                          refine zg_aload_n X 0 rfl dX10_spot_187 ?_
                          refine fg_X10_34 X hI ha0 dX10_spot_188 (fun v49 ev49 hv49 => ?_)
                          replace E := zLet_s (zgr ev49) E
                          refine zg_iload_n X 1 rfl dX10_spot_191 ?_
                          refine zg_cVi (As := [.int p1]) (st := []) X hv49 rfl (by decide) rfl (t_X6_isSource l d L kd κ 1 _ hI v49 hv49 p1 ) mk_X10_146 mc_X6_isSource mz_X6 mi_X6_isSource ml_X6_isSource (na := 1) ⟨md_X6.1, md_X6.2, by decide +kernel⟩ rfl ⟨by decide, by decide⟩ (Nat.le_of_ble_eq_true rfl) dX10_spot_192 (fun v50 s51 hq => ?_)
                          obtain ⟨hF, hS2, hI⟩ := hq
                          replace E := zLet2_s hF E
                          have hS := hS.tr hS2 rfl rfl
                          obtain ⟨hv50, hI⟩ := hI
                          refine zg_if_eq X 202 dX10_spot_195 (by decide) (fun c52 => ?_) (fun c52 => ?_)
                          · skip
                            replace E := zIf_t c52 E
                            refine zg_iconst X 0 dX10_spot_202 (by decide) (fun v53 _ hv53 => ?_)
                            replace E := zLet_s (zcst hv53 (by decide)) E
                            exact ret _ _ _ _ dX10_spot_203 rfl ⟨E.symm.trans hR, hS, (zi_weak hI)⟩
                          · skip
                            replace E := zIf_f c52 E
                            refine zg_iconst X 1 dX10_spot_198 (by decide) (fun v54 _ hv54 => ?_)
                            replace E := zLet_s (zcst hv54 (by decide)) E
                            refine zg_goto X 203 dX10_spot_199 (by decide) ?_
                            exact ret _ _ _ _ dX10_spot_203 rfl ⟨E.symm.trans hR, hS, (zi_weak hI)⟩
                        · skip
                          replace E := zIf_f q48 E
                          by_cases q55 : p2.toInt = 9
                          · refine zg_tabIn X 204 9 dX10_spot_25 q55 (by decide) (by decide) rfl (by decide) ?_
                            replace E := zIf_t q55 E
                            refine zg_aload_n X 0 rfl dX10_spot_204 ?_
                            refine fg_X10_52 X hI ha0 dX10_spot_205 (fun v56 ev56 hv56 => ?_)
                            replace E := zLet_s (zgr ev56) E
                            refine fg_X10_149 X hI hv56 dX10_spot_208 (fun v57 ev57 hv57 => ?_)
                            replace E := zLet_s (zgr ev57) E
                            refine zg_iload_n X 1 rfl dX10_spot_211 ?_
                            refine ag_23 X hI hv57 (by omega) (by omega) dX10_spot_212 (fun v58 ev58 _ => ?_)
                            replace E := zLet_s ev58 E
                            exact ret _ _ _ _ dX10_spot_213 rfl ⟨E.symm.trans hR, hS, (zi_weak hI)⟩
                          · skip
                            replace E := zIf_f q55 E
                            by_cases q59 : p2.toInt = 10
                            · refine zg_tabIn X 214 10 dX10_spot_25 q59 (by decide) (by decide) rfl (by decide) ?_
                              replace E := zIf_t q59 E
                              refine zg_aload_n X 0 rfl dX10_spot_214 ?_
                              refine fg_X10_52 X hI ha0 dX10_spot_215 (fun v60 ev60 hv60 => ?_)
                              replace E := zLet_s (zgr ev60) E
                              refine fg_X10_152 X hI hv60 dX10_spot_218 (fun v61 ev61 hv61 => ?_)
                              replace E := zLet_s (zgr ev61) E
                              refine zg_iload_n X 1 rfl dX10_spot_221 ?_
                              refine ag_24 X hI hv61 (by omega) (by omega) dX10_spot_222 (fun v62 ev62 _ => ?_)
                              replace E := zLet_s ev62 E
                              exact ret _ _ _ _ dX10_spot_223 rfl ⟨E.symm.trans hR, hS, (zi_weak hI)⟩
                            · skip
                              replace E := zIf_f q59 E
                              by_cases q63 : p2.toInt = 11
                              · refine zg_tabIn X 224 11 dX10_spot_25 q63 (by decide) (by decide) rfl (by decide) ?_
                                replace E := zIf_t q63 E
                                refine zg_aload_n X 0 rfl dX10_spot_224 ?_
                                refine fg_X10_26 X hI ha0 dX10_spot_225 (fun v64 ev64 hv64 => ?_)
                                replace E := zLet_s (zgr ev64) E
                                refine fg_X10_155 X hI hv64 dX10_spot_228 (fun v65 ev65 hv65 => ?_)
                                replace E := zLet_s (zgr ev65) E
                                refine zg_iload_n X 1 rfl dX10_spot_231 ?_
                                refine ag_30 X hI hv65 (by omega) (by omega) dX10_spot_232 (fun v66 ev66 _ => ?_)
                                replace E := zLet_s ev66 E
                                exact ret _ _ _ _ dX10_spot_233 rfl ⟨E.symm.trans hR, hS, (zi_weak hI)⟩
                              · skip
                                replace E := zIf_f q63 E
                                refine zg_tabOut X 234 dX10_spot_25 (by omega) (by decide) ?_
                                refine zg_aload_n X 0 rfl dX10_spot_234 ?_
                                refine fg_X10_26 X hI ha0 dX10_spot_235 (fun v67 ev67 hv67 => ?_)
                                replace E := zLet_s (zgr ev67) E
                                refine zg_iload_n X 1 rfl dX10_spot_238 ?_
                                refine zg_cVi (As := [.int p1]) (st := []) X hv67 rfl (by decide) rfl (t_X5_dried l d L kd κ _ hI v67 hv67 p1 (by omega)) mk_X10_158 mc_X5_dried mz_X5 mi_X5_dried ml_X5_dried (na := 1) ⟨md_X5.1, md_X5.2, by decide +kernel⟩ rfl ⟨by decide, by decide⟩ (Nat.le_of_ble_eq_true rfl) dX10_spot_239 (fun v68 s69 hq => ?_)
                                obtain ⟨hF, hS2, hI⟩ := hq
                                replace E := zLet2_s hF E
                                have hS := hS.tr hS2 rfl rfl
                                exact ret _ _ _ _ dX10_spot_242 rfl ⟨E.symm.trans hR, hS, (zi_weak hI)⟩
      · skip
        replace E := zIf_t c9 E
        refine zg_iconst X (-1) dX10_spot_18 (by decide) (fun v70 _ hv70 => ?_)
        replace E := zLet_s (zcst hv70 (by decide)) E
        exact ret _ _ _ _ dX10_spot_19 rfl ⟨E.symm.trans hR, hS, hI⟩
set_option maxHeartbeats 4000000 in
set_option maxRecDepth 100000 in
theorem t_X10_claim (l : Launch) (d : zD2) (L : List Nat) (kd : Nat → Nat) (κ : Int) (σ : zS) (hI : zI κ 0 L kd σ) (a0 : Nat) (ha0 : zT L kd a0 10) (p1 : Int32) (p2 : Int32) : zMi l yX10_claim (Cond.code yX10_claim cX10_claim 3 (some .int) :: zWL) 7 [.ref a0, .int p1, .int p2] d L kd σ (fun v σ2 => (v, σ2) = F_X10_claim a0 p1 p2 σ ∧ zSm [6, 20, 21, 30, 31, 33, 34, 35, 36, 38] [5] L kd σ σ2 ∧ (zI κ 0 L kd σ2)) := by
  refine zMi.of (own := RX10) (by decide +kernel) rfl rfl (Nat.le_of_ble_eq_true rfl) ?_
  intro p e s m args below meth c A Q X ret
  refine zg_lv (lv2 := [(0, .ref a0), (1, .int p1), (2, .int p2)]) rfl ?_
  obtain ⟨R, hR⟩ : ∃ R, R = F_X10_claim a0 p1 p2 σ := ⟨_, rfl⟩
  have E := hR
  unfold F_X10_claim at E
  have hS : zSm [6, 20, 21, 30, 31, 33, 34, 35, 36, 38] [5] L kd σ σ := zSm.rf
  refine zg_aload_n X 0 rfl dX10_claim_0 ?_
  refine zg_iload_n X 1 rfl dX10_claim_1 ?_
  refine zg_iload_n X 2 rfl dX10_claim_2 ?_
  refine zg_cVi (As := [.int p1, .int p2]) (st := []) X ha0 rfl (by decide) rfl (t_X10_isContest l d L kd κ 0 _ hI a0 ha0 p1 p2 ) mk_X10_162 mc_X10_isContest mz_X10 mi_X10_isContest ml_X10_isContest (na := 2) ⟨md_X10.1, md_X10.2, by decide +kernel⟩ rfl ⟨by decide, by decide⟩ (Nat.le_of_ble_eq_true rfl) dX10_claim_3 (fun v1 s2 hq => ?_)
  obtain ⟨hF, hS2, hI⟩ := hq
  replace E := zLet2_s hF E
  have hS := hS.tr hS2 rfl rfl
  obtain ⟨hv1, hI⟩ := hI
  refine zg_if_eq X 21 dX10_claim_6 (by decide) (fun c3 => ?_) (fun c3 => ?_)
  · skip
    replace E := zIf_t c3 E
    refine zg_iconst X (-1) dX10_claim_21 (by decide) (fun v4 _ hv4 => ?_)
    replace E := zLet_s (zcst hv4 (by decide)) E
    exact ret _ _ _ _ dX10_claim_22 rfl ⟨E.symm.trans hR, hS, (zi_weak hI)⟩
  · skip
    replace E := zIf_f c3 E
    refine zg_aload_n X 0 rfl dX10_claim_9 ?_
    refine fg_X10_26 X hI ha0 dX10_claim_10 (fun v5 ev5 hv5 => ?_)
    replace E := zLet_s (zgr ev5) E
    refine zg_iload_n X 1 rfl dX10_claim_13 ?_
    refine zg_iload_n X 2 rfl dX10_claim_14 ?_
    refine zg_cVi (As := [.int p1, .int p2]) (st := []) X hv5 rfl (by decide) rfl (t_X5_claimOf l d L kd κ _ hI v5 hv5 p1 p2 (by omega) (by omega)) mk_X10_165 mc_X5_claimOf mz_X5 mi_X5_claimOf ml_X5_claimOf (na := 2) ⟨md_X5.1, md_X5.2, by decide +kernel⟩ rfl ⟨by decide, by decide⟩ (Nat.le_of_ble_eq_true rfl) dX10_claim_15 (fun v6 s7 hq => ?_)
    obtain ⟨hF, hS2, hI⟩ := hq
    replace E := zLet2_s hF E
    have hS := hS.tr hS2 rfl rfl
    refine zg_goto X 22 dX10_claim_18 (by decide) ?_
    exact ret _ _ _ _ dX10_claim_22 rfl ⟨E.symm.trans hR, hS, (zi_weak hI)⟩
set_option maxHeartbeats 4000000 in
set_option maxRecDepth 100000 in
theorem t_X10_winner (l : Launch) (d : zD2) (L : List Nat) (kd : Nat → Nat) (κ : Int) (σ : zS) (hI : zI κ 0 L kd σ) (a0 : Nat) (ha0 : zT L kd a0 10) (p1 : Int32) : zMi l yX10_winner (Cond.code yX10_winner cX10_winner 2 (some .int) :: zWL) 7 [.ref a0, .int p1] d L kd σ (fun v σ2 => (v, σ2) = F_X10_winner a0 p1 σ ∧ zSm [6, 20, 21, 30, 31, 32, 33, 34, 35, 36, 38] [5] L kd σ σ2 ∧ (zI κ 0 L kd σ2)) := by
  refine zMi.of (own := RX10) (by decide +kernel) rfl rfl (Nat.le_of_ble_eq_true rfl) ?_
  intro p e s m args below meth c A Q X ret
  refine zg_lv (lv2 := [(0, .ref a0), (1, .int p1)]) rfl ?_
  obtain ⟨R, hR⟩ : ∃ R, R = F_X10_winner a0 p1 σ := ⟨_, rfl⟩
  have E := hR
  unfold F_X10_winner at E
  have hS : zSm [6, 20, 21, 30, 31, 32, 33, 34, 35, 36, 38] [5] L kd σ σ := zSm.rf
  refine zg_aload_n X 0 rfl dX10_winner_0 ?_
  refine zg_iload_n X 1 rfl dX10_winner_1 ?_
  refine zg_cVi (As := [.int p1]) (st := []) X ha0 rfl (by decide) rfl (t_X10_isLaw l d L kd κ 0 _ hI a0 ha0 p1 ) mk_X10_169 mc_X10_isLaw mz_X10 mi_X10_isLaw ml_X10_isLaw (na := 1) ⟨md_X10.1, md_X10.2, by decide +kernel⟩ rfl ⟨by decide, by decide⟩ (Nat.le_of_ble_eq_true rfl) dX10_winner_2 (fun v1 s2 hq => ?_)
  obtain ⟨hF, hS2, hI⟩ := hq
  replace E := zLet2_s hF E
  have hS := hS.tr hS2 rfl rfl
  obtain ⟨hv1, hI⟩ := hI
  refine zg_if_ne X 10 dX10_winner_5 (by decide) (fun c3 => ?_) (fun c3 => ?_)
  · skip
    replace E := zIf_f c3 E
    refine zg_aload_n X 0 rfl dX10_winner_10 ?_
    refine zg_cVv (As := []) (st := []) X ha0 rfl (by decide) rfl (t_X10_look l d L kd κ 0 _ hI a0 ha0 ) mk_X10_113 mc_X10_look mz_X10 mi_X10_look ml_X10_look (na := 0) ⟨md_X10.1, md_X10.2, by decide +kernel⟩ rfl ⟨by decide, by decide⟩ (Nat.le_of_ble_eq_true rfl) dX10_winner_11 (fun s4 hq => ?_)
    obtain ⟨hF, hS2, hI⟩ := hq
    replace E := zLet_s hF E
    have hS := hS.tr hS2 rfl rfl
    refine zg_aload_n X 0 rfl dX10_winner_14 ?_
    refine fg_X10_26 X hI ha0 dX10_winner_15 (fun v5 ev5 hv5 => ?_)
    replace E := zLet_s (zgr ev5) E
    refine zg_iload_n X 1 rfl dX10_winner_18 ?_
    refine zg_cVi (As := [.int p1]) (st := []) X hv5 rfl (by decide) rfl (t_X5_winnerBy l d L kd κ _ hI v5 hv5 p1 (by omega)) mk_X10_172 mc_X5_winnerBy mz_X5 mi_X5_winnerBy ml_X5_winnerBy (na := 1) ⟨md_X5.1, md_X5.2, by decide +kernel⟩ rfl ⟨by decide, by decide⟩ (Nat.le_of_ble_eq_true rfl) dX10_winner_19 (fun v6 s7 hq => ?_)
    obtain ⟨hF, hS2, hI⟩ := hq
    replace E := zLet2_s hF E
    have hS := hS.tr hS2 rfl rfl
    obtain ⟨hv6, hI⟩ := hI
    exact ret _ _ _ _ dX10_winner_22 rfl ⟨E.symm.trans hR, hS, (zi_weak hI)⟩
  · skip
    replace E := zIf_t c3 E
    refine zg_iconst X (-1) dX10_winner_8 (by decide) (fun v8 _ hv8 => ?_)
    replace E := zLet_s (zcst hv8 (by decide)) E
    exact ret _ _ _ _ dX10_winner_9 rfl ⟨E.symm.trans hR, hS, hI⟩
set_option maxHeartbeats 4000000 in
set_option maxRecDepth 100000 in
theorem t_X10_count (l : Launch) (d : zD2) (L : List Nat) (kd : Nat → Nat) (κ : Int) (σ : zS) (hI : zI κ 0 L kd σ) (a0 : Nat) (ha0 : zT L kd a0 10) (p1 : Int32) : zMi l yX10_count (Cond.code yX10_count cX10_count 2 (some .int) :: zWL) 7 [.ref a0, .int p1] d L kd σ (fun v σ2 => (v, σ2) = F_X10_count a0 p1 σ ∧ zSm [6, 20, 21, 30, 31, 33, 34, 35, 36, 38] [5] L kd σ σ2 ∧ (zI κ 0 L kd σ2)) := by
  refine zMi.of (own := RX10) (by decide +kernel) rfl rfl (Nat.le_of_ble_eq_true rfl) ?_
  intro p e s m args below meth c A Q X ret
  refine zg_lv (lv2 := [(0, .ref a0), (1, .int p1)]) rfl ?_
  obtain ⟨R, hR⟩ : ∃ R, R = F_X10_count a0 p1 σ := ⟨_, rfl⟩
  have E := hR
  unfold F_X10_count at E
  have hS : zSm [6, 20, 21, 30, 31, 33, 34, 35, 36, 38] [5] L kd σ σ := zSm.rf
  refine zg_aload_n X 0 rfl dX10_count_0 ?_
  refine zg_cVv (As := []) (st := []) X ha0 rfl (by decide) rfl (t_X10_look l d L kd κ 0 _ hI a0 ha0 ) mk_X10_113 mc_X10_look mz_X10 mi_X10_look ml_X10_look (na := 0) ⟨md_X10.1, md_X10.2, by decide +kernel⟩ rfl ⟨by decide, by decide⟩ (Nat.le_of_ble_eq_true rfl) dX10_count_1 (fun s1 hq => ?_)
  obtain ⟨hF, hS2, hI⟩ := hq
  replace E := zLet_s hF E
  have hS := hS.tr hS2 rfl rfl
  refine zg_iload_n X 1 rfl dX10_count_4 ?_
  by_cases q2 : p1.toInt = 0
  · refine zg_tabIn X 88 0 dX10_count_5 q2 (by decide) (by decide) rfl (by decide) ?_
    replace E := zIf_t q2 E
    refine zg_aload_n X 0 rfl dX10_count_88 ?_
    refine fg_X10_70 X hI ha0 dX10_count_89 (fun v3 ev3 hv3 => ?_)
    replace E := zLet_s (zgr ev3) E
    refine fg_X10_175 X hI hv3 dX10_count_92 (fun v4 ev4 hv4 => ?_)
    replace E := zLet_s ev4 E
    exact ret _ _ _ _ dX10_count_95 rfl ⟨E.symm.trans hR, hS, (zi_weak hI)⟩
  · skip
    replace E := zIf_f q2 E
    by_cases q5 : p1.toInt = 1
    · refine zg_tabIn X 96 1 dX10_count_5 q5 (by decide) (by decide) rfl (by decide) ?_
      replace E := zIf_t q5 E
      refine zg_aload_n X 0 rfl dX10_count_96 ?_
      refine fg_X10_52 X hI ha0 dX10_count_97 (fun v6 ev6 hv6 => ?_)
      replace E := zLet_s (zgr ev6) E
      refine fg_X10_178 X hI hv6 dX10_count_100 (fun v7 ev7 _ => ?_)
      replace E := zLet_s ev7 E
      exact ret _ _ _ _ dX10_count_103 rfl ⟨E.symm.trans hR, hS, (zi_weak hI)⟩
    · skip
      replace E := zIf_f q5 E
      by_cases q8 : p1.toInt = 2
      · refine zg_tabIn X 104 2 dX10_count_5 q8 (by decide) (by decide) rfl (by decide) ?_
        replace E := zIf_t q8 E
        refine zg_aload_n X 0 rfl dX10_count_104 ?_
        refine fg_X10_52 X hI ha0 dX10_count_105 (fun v9 ev9 hv9 => ?_)
        replace E := zLet_s (zgr ev9) E
        refine zg_cVi (As := []) (st := []) X hv9 rfl (by decide) rfl (t_X1_moon l d L kd κ 1 _ hI v9 hv9 ) mk_X10_181 mc_X1_moon mz_X1 mi_X1_moon ml_X1_moon (na := 0) ⟨md_X1.1, md_X1.2, by decide +kernel⟩ rfl ⟨by decide, by decide⟩ (Nat.le_of_ble_eq_true rfl) dX10_count_108 (fun v10 s11 hq => ?_)
        obtain ⟨hF, hS2, hI⟩ := hq
        replace E := zLet2_s hF E
        have hS := hS.tr hS2 rfl rfl
        exact ret _ _ _ _ dX10_count_111 rfl ⟨E.symm.trans hR, hS, (zi_weak hI)⟩
      · skip
        replace E := zIf_f q8 E
        by_cases q12 : p1.toInt = 3
        · refine zg_tabIn X 112 3 dX10_count_5 q12 (by decide) (by decide) rfl (by decide) ?_
          replace E := zIf_t q12 E
          refine zg_aload_n X 0 rfl dX10_count_112 ?_
          refine fg_X10_52 X hI ha0 dX10_count_113 (fun v13 ev13 hv13 => ?_)
          replace E := zLet_s (zgr ev13) E
          refine fg_X10_185 X hI hv13 dX10_count_116 (fun v14 ev14 hv14 => ?_)
          replace E := zLet_s ev14 E
          exact ret _ _ _ _ dX10_count_119 rfl ⟨E.symm.trans hR, hS, (zi_weak hI)⟩
        · skip
          replace E := zIf_f q12 E
          by_cases q15 : p1.toInt = 4
          · refine zg_tabIn X 120 4 dX10_count_5 q15 (by decide) (by decide) rfl (by decide) ?_
            replace E := zIf_t q15 E
            refine zg_aload_n X 0 rfl dX10_count_120 ?_
            refine fg_X10_34 X hI ha0 dX10_count_121 (fun v16 ev16 hv16 => ?_)
            replace E := zLet_s (zgr ev16) E
            refine zg_cVi (As := []) (st := []) X hv16 rfl (by decide) rfl (t_X6_sources l d L kd κ 1 _ hI v16 hv16 ) mk_X10_188 mc_X6_sources mz_X6 mi_X6_sources ml_X6_sources (na := 0) ⟨md_X6.1, md_X6.2, by decide +kernel⟩ rfl ⟨by decide, by decide⟩ (Nat.le_of_ble_eq_true rfl) dX10_count_124 (fun v17 s18 hq => ?_)
            obtain ⟨hF, hS2, hI⟩ := hq
            replace E := zLet2_s hF E
            have hS := hS.tr hS2 rfl rfl
            exact ret _ _ _ _ dX10_count_127 rfl ⟨E.symm.trans hR, hS, (zi_weak hI)⟩
          · skip
            replace E := zIf_f q15 E
            by_cases q19 : p1.toInt = 5
            · refine zg_tabIn X 128 5 dX10_count_5 q19 (by decide) (by decide) rfl (by decide) ?_
              replace E := zIf_t q19 E
              refine zg_aload_n X 0 rfl dX10_count_128 ?_
              refine fg_X10_52 X hI ha0 dX10_count_129 (fun v20 ev20 hv20 => ?_)
              replace E := zLet_s (zgr ev20) E
              refine fg_X10_128 X hI hv20 dX10_count_132 (fun v21 ev21 _ => ?_)
              replace E := zLet_s ev21 E
              exact ret _ _ _ _ dX10_count_135 rfl ⟨E.symm.trans hR, hS, (zi_weak hI)⟩
            · skip
              replace E := zIf_f q19 E
              by_cases q22 : p1.toInt = 6
              · refine zg_tabIn X 136 6 dX10_count_5 q22 (by decide) (by decide) rfl (by decide) ?_
                replace E := zIf_t q22 E
                refine zg_aload_n X 0 rfl dX10_count_136 ?_
                refine zg_cVi (As := []) (st := []) X ha0 rfl (by decide) rfl (t_X10_mouthFlow l d L kd κ 1 _ hI a0 ha0 ) mk_X10_191 mc_X10_mouthFlow mz_X10 mi_X10_mouthFlow ml_X10_mouthFlow (na := 0) ⟨md_X10.1, md_X10.2, by decide +kernel⟩ rfl ⟨by decide, by decide⟩ (Nat.le_of_ble_eq_true rfl) dX10_count_137 (fun v23 s24 hq => ?_)
                obtain ⟨hF, hS2, hI⟩ := hq
                replace E := zLet2_s hF E
                have hS := hS.tr hS2 rfl rfl
                exact ret _ _ _ _ dX10_count_140 rfl ⟨E.symm.trans hR, hS, (zi_weak hI)⟩
              · skip
                replace E := zIf_f q22 E
                by_cases q25 : p1.toInt = 7
                · refine zg_tabIn X 141 7 dX10_count_5 q25 (by decide) (by decide) rfl (by decide) ?_
                  replace E := zIf_t q25 E
                  refine zg_aload_n X 0 rfl dX10_count_141 ?_
                  refine zg_aload_n X 0 rfl dX10_count_142 ?_
                  refine fg_X10_52 X hI ha0 dX10_count_143 (fun v26 ev26 hv26 => ?_)
                  replace E := zLet_s (zgr ev26) E
                  refine fg_X10_152 X hI hv26 dX10_count_146 (fun v27 ev27 hv27 => ?_)
                  replace E := zLet_s (zgr ev27) E
                  refine zg_cVi (As := [.ref v27]) (st := []) X ha0 rfl (by decide) rfl (t_X10_sumOf l d L kd κ 1 _ hI a0 ha0 24 v27 hv27 rfl (by decide) ) mk_X10_194 mc_X10_sumOf mz_X10 mi_X10_sumOf ml_X10_sumOf (na := 1) ⟨md_X10.1, md_X10.2, by decide +kernel⟩ rfl ⟨by decide, by decide⟩ (Nat.le_of_ble_eq_true rfl) dX10_count_149 (fun v28 s29 hq => ?_)
                  obtain ⟨hF, hS2, hI⟩ := hq
                  replace E := zLet2_s hF E
                  have hS := hS.tr hS2 rfl rfl
                  exact ret _ _ _ _ dX10_count_152 rfl ⟨E.symm.trans hR, hS, (zi_weak hI)⟩
                · skip
                  replace E := zIf_f q25 E
                  by_cases q30 : p1.toInt = 8
                  · refine zg_tabIn X 153 8 dX10_count_5 q30 (by decide) (by decide) rfl (by decide) ?_
                    replace E := zIf_t q30 E
                    refine zg_aload_n X 0 rfl dX10_count_153 ?_
                    refine fg_X10_10 X hI ha0 dX10_count_154 (fun v31 ev31 hv31 => ?_)
                    replace E := zLet_s (zgr ev31) E
                    refine fg_X10_84 X hI hv31 dX10_count_157 (fun v32 ev32 hv32 => ?_)
                    replace E := zLet_s ev32 E
                    have hkv32 := hI.2.2.1
                    exact ret _ _ _ _ dX10_count_160 rfl ⟨E.symm.trans hR, hS, (zi_weak hI)⟩
                  · skip
                    replace E := zIf_f q30 E
                    by_cases q33 : p1.toInt = 9
                    · refine zg_tabIn X 161 9 dX10_count_5 q33 (by decide) (by decide) rfl (by decide) ?_
                      replace E := zIf_t q33 E
                      refine zg_aload_n X 0 rfl dX10_count_161 ?_
                      refine fg_X10_38 X hI ha0 dX10_count_162 (fun v34 ev34 hv34 => ?_)
                      replace E := zLet_s (zgr ev34) E
                      refine fg_X10_107 X hI hv34 dX10_count_165 (fun v35 ev35 hv35 => ?_)
                      replace E := zLet_s ev35 E
                      exact ret _ _ _ _ dX10_count_168 rfl ⟨E.symm.trans hR, hS, (zi_weak hI)⟩
                    · skip
                      replace E := zIf_f q33 E
                      by_cases q36 : p1.toInt = 10
                      · refine zg_tabIn X 169 10 dX10_count_5 q36 (by decide) (by decide) rfl (by decide) ?_
                        replace E := zIf_t q36 E
                        refine zg_aload_n X 0 rfl dX10_count_169 ?_
                        refine fg_X10_45 X hI ha0 dX10_count_170 (fun v37 ev37 hv37 => ?_)
                        replace E := zLet_s (zgr ev37) E
                        refine fg_X10_108 X hI hv37 dX10_count_173 (fun v38 ev38 hv38 => ?_)
                        replace E := zLet_s ev38 E
                        exact ret _ _ _ _ dX10_count_176 rfl ⟨E.symm.trans hR, hS, (zi_weak hI)⟩
                      · skip
                        replace E := zIf_f q36 E
                        by_cases q39 : p1.toInt = 11
                        · refine zg_tabIn X 177 11 dX10_count_5 q39 (by decide) (by decide) rfl (by decide) ?_
                          replace E := zIf_t q39 E
                          refine zg_aload_n X 0 rfl dX10_count_177 ?_
                          refine fg_X10_77 X hI ha0 dX10_count_178 (fun v40 ev40 _ => ?_)
                          replace E := zLet_s ev40 E
                          refine zg_cSi (As := [.int v40]) (st := []) X (t_J6_bitCount_0f7a4 l d L kd _ v40 ) mk_X10_198 mc_J6_bitCount_0f7a4 mz_J6 ms_J6_bitCount_0f7a4 (na := 1) ⟨md_J6.1, md_J6.2, by decide +kernel⟩ rfl ⟨by decide, by decide⟩ (Nat.le_of_ble_eq_true rfl) dX10_count_181 (fun v41 σ2 hq => ?_)
                          obtain ⟨⟨hF, hv41⟩, rfl⟩ := hq
                          replace E := zLet_s hF E
                          exact ret _ _ _ _ dX10_count_184 rfl ⟨E.symm.trans hR, hS, (zi_weak hI)⟩
                        · skip
                          replace E := zIf_f q39 E
                          by_cases q42 : p1.toInt = 12
                          · refine zg_tabIn X 185 12 dX10_count_5 q42 (by decide) (by decide) rfl (by decide) ?_
                            replace E := zIf_t q42 E
                            refine zg_aload_n X 0 rfl dX10_count_185 ?_
                            refine fg_X10_70 X hI ha0 dX10_count_186 (fun v43 ev43 hv43 => ?_)
                            replace E := zLet_s (zgr ev43) E
                            refine zg_aload_n X 0 rfl dX10_count_189 ?_
                            refine fg_X10_70 X hI ha0 dX10_count_190 (fun v44 ev44 hv44 => ?_)
                            replace E := zLet_s (zgr ev44) E
                            refine fg_X10_203 X hI hv44 dX10_count_193 (fun v45 ev45 _ => ?_)
                            replace E := zLet_s ev45 E
                            refine zg_aload_n X 0 rfl dX10_count_196 ?_
                            refine fg_X10_52 X hI ha0 dX10_count_197 (fun v46 ev46 hv46 => ?_)
                            replace E := zLet_s (zgr ev46) E
                            refine fg_X10_178 X hI hv46 dX10_count_200 (fun v47 ev47 _ => ?_)
                            replace E := zLet_s ev47 E
                            refine zg_cVi (As := [.int v45, .int v47]) (st := []) X hv43 rfl (by decide) rfl (t_X9_isStorm l d L kd κ 1 _ hI v43 hv43 v45 v47 ) mk_X10_206 mc_X9_isStorm mz_X9 mi_X9_isStorm ml_X9_isStorm (na := 2) ⟨md_X9.1, md_X9.2, by decide +kernel⟩ rfl ⟨by decide, by decide⟩ (Nat.le_of_ble_eq_true rfl) dX10_count_203 (fun v48 s49 hq => ?_)
                            obtain ⟨hF, hS2, hI⟩ := hq
                            replace E := zLet2_s hF E
                            have hS := hS.tr hS2 rfl rfl
                            obtain ⟨hv48, hI⟩ := hI
                            refine zg_if_eq X 213 dX10_count_206 (by decide) (fun c50 => ?_) (fun c50 => ?_)
                            · skip
                              replace E := zIf_t c50 E
                              refine zg_iconst X 0 dX10_count_213 (by decide) (fun v51 _ hv51 => ?_)
                              replace E := zLet_s (zcst hv51 (by decide)) E
                              exact ret _ _ _ _ dX10_count_214 rfl ⟨E.symm.trans hR, hS, (zi_weak hI)⟩
                            · skip
                              replace E := zIf_f c50 E
                              refine zg_iconst X 1 dX10_count_209 (by decide) (fun v52 _ hv52 => ?_)
                              replace E := zLet_s (zcst hv52 (by decide)) E
                              refine zg_goto X 214 dX10_count_210 (by decide) ?_
                              exact ret _ _ _ _ dX10_count_214 rfl ⟨E.symm.trans hR, hS, (zi_weak hI)⟩
                          · skip
                            replace E := zIf_f q42 E
                            by_cases q53 : p1.toInt = 13
                            · refine zg_tabIn X 215 13 dX10_count_5 q53 (by decide) (by decide) rfl (by decide) ?_
                              replace E := zIf_t q53 E
                              refine zg_aload_n X 0 rfl dX10_count_215 ?_
                              refine zg_aload_n X 0 rfl dX10_count_216 ?_
                              refine fg_X10_70 X hI ha0 dX10_count_217 (fun v54 ev54 hv54 => ?_)
                              replace E := zLet_s (zgr ev54) E
                              refine fg_X10_119 X hI hv54 dX10_count_220 (fun v55 ev55 hv55 => ?_)
                              replace E := zLet_s (zgr ev55) E
                              refine zg_cVi (As := [.ref v55]) (st := []) X ha0 rfl (by decide) rfl (t_X10_sumOf l d L kd κ 1 _ hI a0 ha0 46 v55 hv55 rfl (by decide) ) mk_X10_194 mc_X10_sumOf mz_X10 mi_X10_sumOf ml_X10_sumOf (na := 1) ⟨md_X10.1, md_X10.2, by decide +kernel⟩ rfl ⟨by decide, by decide⟩ (Nat.le_of_ble_eq_true rfl) dX10_count_223 (fun v56 s57 hq => ?_)
                              obtain ⟨hF, hS2, hI⟩ := hq
                              replace E := zLet2_s hF E
                              have hS := hS.tr hS2 rfl rfl
                              exact ret _ _ _ _ dX10_count_226 rfl ⟨E.symm.trans hR, hS, (zi_weak hI)⟩
                            · skip
                              replace E := zIf_f q53 E
                              by_cases q58 : p1.toInt = 14
                              · refine zg_tabIn X 227 14 dX10_count_5 q58 (by decide) (by decide) rfl (by decide) ?_
                                replace E := zIf_t q58 E
                                refine zg_aload_n X 0 rfl dX10_count_227 ?_
                                refine zg_cVi (As := []) (st := []) X ha0 rfl (by decide) rfl (t_X10_turnedPlaces l d L kd κ 1 _ hI a0 ha0 ) mk_X10_209 mc_X10_turnedPlaces mz_X10 mi_X10_turnedPlaces ml_X10_turnedPlaces (na := 0) ⟨md_X10.1, md_X10.2, by decide +kernel⟩ rfl ⟨by decide, by decide⟩ (Nat.le_of_ble_eq_true rfl) dX10_count_228 (fun v59 s60 hq => ?_)
                                obtain ⟨hF, hS2, hI⟩ := hq
                                replace E := zLet2_s hF E
                                have hS := hS.tr hS2 rfl rfl
                                exact ret _ _ _ _ dX10_count_231 rfl ⟨E.symm.trans hR, hS, (zi_weak hI)⟩
                              · skip
                                replace E := zIf_f q58 E
                                by_cases q61 : p1.toInt = 15
                                · refine zg_tabIn X 232 15 dX10_count_5 q61 (by decide) (by decide) rfl (by decide) ?_
                                  replace E := zIf_t q61 E
                                  refine zg_aload_n X 0 rfl dX10_count_232 ?_
                                  refine zg_aload_n X 0 rfl dX10_count_233 ?_
                                  refine fg_X10_70 X hI ha0 dX10_count_234 (fun v62 ev62 hv62 => ?_)
                                  replace E := zLet_s (zgr ev62) E
                                  refine fg_X10_122 X hI hv62 dX10_count_237 (fun v63 ev63 hv63 => ?_)
                                  replace E := zLet_s (zgr ev63) E
                                  refine zg_cVi (As := [.ref v63]) (st := []) X ha0 rfl (by decide) rfl (t_X10_sumOf l d L kd κ 1 _ hI a0 ha0 47 v63 hv63 rfl (by decide) ) mk_X10_194 mc_X10_sumOf mz_X10 mi_X10_sumOf ml_X10_sumOf (na := 1) ⟨md_X10.1, md_X10.2, by decide +kernel⟩ rfl ⟨by decide, by decide⟩ (Nat.le_of_ble_eq_true rfl) dX10_count_240 (fun v64 s65 hq => ?_)
                                  obtain ⟨hF, hS2, hI⟩ := hq
                                  replace E := zLet2_s hF E
                                  have hS := hS.tr hS2 rfl rfl
                                  exact ret _ _ _ _ dX10_count_243 rfl ⟨E.symm.trans hR, hS, (zi_weak hI)⟩
                                · skip
                                  replace E := zIf_f q61 E
                                  by_cases q66 : p1.toInt = 16
                                  · refine zg_tabIn X 244 16 dX10_count_5 q66 (by decide) (by decide) rfl (by decide) ?_
                                    replace E := zIf_t q66 E
                                    refine zg_aload_n X 0 rfl dX10_count_244 ?_
                                    refine fg_X10_34 X hI ha0 dX10_count_245 (fun v67 ev67 hv67 => ?_)
                                    replace E := zLet_s (zgr ev67) E
                                    refine zg_cVi (As := []) (st := []) X hv67 rfl (by decide) rfl (t_X6_greatestFar l d L kd κ 1 _ hI v67 hv67 ) mk_X10_212 mc_X6_greatestFar mz_X6 mi_X6_greatestFar ml_X6_greatestFar (na := 0) ⟨md_X6.1, md_X6.2, by decide +kernel⟩ rfl ⟨by decide, by decide⟩ (Nat.le_of_ble_eq_true rfl) dX10_count_248 (fun v68 s69 hq => ?_)
                                    obtain ⟨hF, hS2, hI⟩ := hq
                                    replace E := zLet2_s hF E
                                    have hS := hS.tr hS2 rfl rfl
                                    exact ret _ _ _ _ dX10_count_251 rfl ⟨E.symm.trans hR, hS, (zi_weak hI)⟩
                                  · skip
                                    replace E := zIf_f q66 E
                                    refine zg_tabOut X 252 dX10_count_5 (by omega) (by decide) ?_
                                    refine zg_iconst X (-1) dX10_count_252 (by decide) (fun v70 _ hv70 => ?_)
                                    replace E := zLet_s (zcst hv70 (by decide)) E
                                    exact ret _ _ _ _ dX10_count_253 rfl ⟨E.symm.trans hR, hS, (zi_weak hI)⟩
set_option maxHeartbeats 4000000 in
set_option maxRecDepth 100000 in
theorem t_X10_dam (l : Launch) (d : zD2) (L : List Nat) (kd : Nat → Nat) (κ : Int) (σ : zS) (hI : zI κ 0 L kd σ) (a0 : Nat) (ha0 : zT L kd a0 10) (p1 : Int32) (p2 : Int32) (hq0 : 0 ≤ p2.toInt ∧ p2.toInt ≤ 1) : zMi l yX10_dam (Cond.code yX10_dam cX10_dam 3 (some .boolean) :: zWL) 3 [.ref a0, .int p1, .int p2] d L kd σ (fun v σ2 => (v, σ2) = F_X10_dam a0 p1 p2 σ ∧ zSm [1, 4, 22, 23, 24] [] L kd σ σ2 ∧ ((0 ≤ v.toInt ∧ v.toInt ≤ 1) ∧ zI κ 0 L kd σ2)) := by
  refine zMi.of (own := RX10) (by decide +kernel) rfl rfl (Nat.le_of_ble_eq_true rfl) ?_
  intro p e s m args below meth c A Q X ret
  refine zg_lv (lv2 := [(0, .ref a0), (1, .int p1), (2, .int p2)]) rfl ?_
  obtain ⟨R, hR⟩ : ∃ R, R = F_X10_dam a0 p1 p2 σ := ⟨_, rfl⟩
  have E := hR
  unfold F_X10_dam at E
  have hS : zSm [1, 4, 22, 23, 24] [] L kd σ σ := zSm.rf
  refine zg_iload_n X 1 rfl dX10_dam_0 ?_
  refine zg_if_eq X 27 dX10_dam_1 (by decide) (fun c1 => ?_) (fun c1 => ?_)
  · skip
    replace E := zIf_t c1 E
    refine zg_iconst X 0 dX10_dam_27 (by decide) (fun v2 _ hv2 => ?_)
    replace E := zLet_s (zcst hv2 (by decide)) E
    exact ret _ _ _ _ dX10_dam_28 (zb_bool ⟨by omega, by omega⟩) ⟨E.symm.trans hR, hS, ⟨⟨by omega, by omega⟩, hI⟩⟩
  · skip
    replace E := zIf_f c1 E
    refine zg_aload_n X 0 rfl dX10_dam_4 ?_
    refine zg_iload_n X 1 rfl dX10_dam_5 ?_
    refine zg_cVi (As := [.int p1]) (st := []) X ha0 rfl (by decide) rfl (t_X10_isPlace l d L kd κ 0 _ hI a0 ha0 p1 ) mk_X10_109 mc_X10_isPlace mz_X10 mi_X10_isPlace ml_X10_isPlace (na := 1) ⟨md_X10.1, md_X10.2, by decide +kernel⟩ rfl ⟨by decide, by decide⟩ (Nat.le_of_ble_eq_true rfl) dX10_dam_6 (fun v3 s4 hq => ?_)
    obtain ⟨hF, hS2, hI⟩ := hq
    replace E := zLet2_s hF E
    have hS := hS.tr hS2 rfl rfl
    obtain ⟨hv3, hI⟩ := hI
    refine zg_if_eq X 27 dX10_dam_9 (by decide) (fun c5 => ?_) (fun c5 => ?_)
    · skip
      replace E := zIf_t c5 E
      refine zg_iconst X 0 dX10_dam_27 (by decide) (fun v6 _ hv6 => ?_)
      replace E := zLet_s (zcst hv6 (by decide)) E
      exact ret _ _ _ _ dX10_dam_28 (zb_bool ⟨by omega, by omega⟩) ⟨E.symm.trans hR, hS, ⟨⟨by omega, by omega⟩, hI⟩⟩
    · skip
      replace E := zIf_f c5 E
      refine zg_aload_n X 0 rfl dX10_dam_12 ?_
      refine fg_X10_52 X hI ha0 dX10_dam_13 (fun v7 ev7 hv7 => ?_)
      replace E := zLet_s (zgr ev7) E
      refine fg_X10_128 X hI hv7 dX10_dam_16 (fun v8 ev8 _ => ?_)
      replace E := zLet_s ev8 E
      refine zg_iload_n X 1 rfl dX10_dam_19 ?_
      refine zg_cSi (As := [.int v8, .int p1]) (st := []) X (t_X10_has l d L kd _ v8 p1 ) mk_X10_131 mc_X10_has mz_X10 ms_X10_has (na := 2) ⟨md_X10.1, md_X10.2, by decide +kernel⟩ rfl ⟨by decide, by decide⟩ (Nat.le_of_ble_eq_true rfl) dX10_dam_20 (fun v9 σ2 hq => ?_)
      obtain ⟨⟨hF, hv9⟩, rfl⟩ := hq
      replace E := zLet_s hF E
      refine zg_iload_n X 2 rfl dX10_dam_23 ?_
      refine zg_icmp_ne X 29 dX10_dam_24 (by decide) (fun c10 => ?_) (fun c10 => ?_)
      · skip
        replace E := zIf_f c10 E
        refine zg_aload_n X 0 rfl dX10_dam_29 ?_
        refine fg_X10_38 X hI ha0 dX10_dam_30 (fun v11 ev11 hv11 => ?_)
        replace E := zLet_s (zgr ev11) E
        refine zg_aload_n X 0 rfl dX10_dam_33 ?_
        refine fg_X10_52 X hI ha0 dX10_dam_34 (fun v12 ev12 hv12 => ?_)
        replace E := zLet_s (zgr ev12) E
        refine zg_cVv (As := [.ref v12]) (st := []) X hv11 rfl (by decide) rfl (t_X4_push l d L kd κ 0 _ hI v11 hv11 v12 hv12 ) mk_X10_219 mc_X4_push mz_X4 mi_X4_push ml_X4_push (na := 1) ⟨md_X4.1, md_X4.2, by decide +kernel⟩ rfl ⟨by decide, by decide⟩ (Nat.le_of_ble_eq_true rfl) dX10_dam_37 (fun s13 hq => ?_)
        obtain ⟨hF, hS2, hI⟩ := hq
        replace E := zLet_s hF E
        have hS := hS.tr hS2 rfl rfl
        refine zg_aload_n X 0 rfl dX10_dam_40 ?_
        refine fg_X10_52 X hI ha0 dX10_dam_41 (fun v14 ev14 hv14 => ?_)
        replace E := zLet_s (zgr ev14) E
        refine zg_dup X dX10_dam_44 rfl ?_
        refine fg_X10_128 X hI hv14 dX10_dam_45 (fun v15 ev15 _ => ?_)
        replace E := zLet_s ev15 E
        refine zg_iload_n X 1 rfl dX10_dam_48 ?_
        refine zg_cSi (As := [.int p1]) (st := [.int v15, .ref v14]) X (t_X10_bit l d L kd _ p1 ) mk_X10_216 mc_X10_bit mz_X10 ms_X10_bit (na := 1) ⟨md_X10.1, md_X10.2, by decide +kernel⟩ rfl ⟨by decide, by decide⟩ (Nat.le_of_ble_eq_true rfl) dX10_dam_49 (fun v16 σ2 hq => ?_)
        obtain ⟨⟨hF, hv16⟩, rfl⟩ := hq
        replace E := zLet_s hF E
        refine zg_ixorW X dX10_dam_52 (fun v17 ev17 => ?_)
        replace E := zLet_s ev17 E
        refine fp_X10_128 X hI hv14 (zb_rng _) dX10_dam_53 (fun s18 es18 hI => ?_)
        replace E := zLet_s es18 E
        have hS := hS.i hv14 es18 rfl
        have e20 : v17 = s18.1 v14 3 := by rw [es18]; exact zm_s
        refine zg_iconst X 1 dX10_dam_56 (by decide) (fun v21 _ hv21 => ?_)
        replace E := zLet_s (zcst hv21 (by decide)) E
        exact ret _ _ _ _ dX10_dam_57 (zb_bool ⟨by omega, by omega⟩) ⟨E.symm.trans hR, hS, ⟨⟨by omega, by omega⟩, hI⟩⟩
      · skip
        replace E := zIf_t c10 E
        refine zg_iconst X 0 dX10_dam_27 (by decide) (fun v22 _ hv22 => ?_)
        replace E := zLet_s (zcst hv22 (by decide)) E
        exact ret _ _ _ _ dX10_dam_28 (zb_bool ⟨by omega, by omega⟩) ⟨E.symm.trans hR, hS, ⟨⟨by omega, by omega⟩, hI⟩⟩
set_option maxHeartbeats 4000000 in
set_option maxRecDepth 100000 in
theorem t_X10_turn (l : Launch) (d : zD2) (L : List Nat) (kd : Nat → Nat) (κ : Int) (σ : zS) (hI : zI κ 0 L kd σ) (a0 : Nat) (ha0 : zT L kd a0 10) (p1 : Int32) (p2 : Int32) : zMi l yX10_turn (Cond.code yX10_turn cX10_turn 3 (some .boolean) :: zWL) 3 [.ref a0, .int p1, .int p2] d L kd σ (fun v σ2 => (v, σ2) = F_X10_turn a0 p1 p2 σ ∧ zSm [1, 4, 22, 23, 24] [] L kd σ σ2 ∧ ((0 ≤ v.toInt ∧ v.toInt ≤ 1) ∧ zI κ 0 L kd σ2)) := by
  refine zMi.of (own := RX10) (by decide +kernel) rfl rfl (Nat.le_of_ble_eq_true rfl) ?_
  intro p e s m args below meth c A Q X ret
  refine zg_lv (lv2 := [(0, .ref a0), (1, .int p1), (2, .int p2)]) rfl ?_
  obtain ⟨R, hR⟩ : ∃ R, R = F_X10_turn a0 p1 p2 σ := ⟨_, rfl⟩
  have E := hR
  unfold F_X10_turn at E
  have hS : zSm [1, 4, 22, 23, 24] [] L kd σ σ := zSm.rf
  refine zg_aload_n X 0 rfl dX10_turn_0 ?_
  refine zg_iload_n X 1 rfl dX10_turn_1 ?_
  refine zg_iload_n X 2 rfl dX10_turn_2 ?_
  refine zg_cVi (As := [.int p1, .int p2]) (st := []) X ha0 rfl (by decide) rfl (t_X10_isTurn l d L kd κ 0 _ hI a0 ha0 p1 p2 ) mk_X10_223 mc_X10_isTurn mz_X10 mi_X10_isTurn ml_X10_isTurn (na := 2) ⟨md_X10.1, md_X10.2, by decide +kernel⟩ rfl ⟨by decide, by decide⟩ (Nat.le_of_ble_eq_true rfl) dX10_turn_3 (fun v1 s2 hq => ?_)
  obtain ⟨hF, hS2, hI⟩ := hq
  replace E := zLet2_s hF E
  have hS := hS.tr hS2 rfl rfl
  obtain ⟨hv1, hI⟩ := hI
  refine zg_if_ne X 11 dX10_turn_6 (by decide) (fun c3 => ?_) (fun c3 => ?_)
  · skip
    replace E := zIf_f c3 E
    refine zg_aload_n X 0 rfl dX10_turn_11 ?_
    refine fg_X10_38 X hI ha0 dX10_turn_12 (fun v4 ev4 hv4 => ?_)
    replace E := zLet_s (zgr ev4) E
    refine zg_aload_n X 0 rfl dX10_turn_15 ?_
    refine fg_X10_52 X hI ha0 dX10_turn_16 (fun v5 ev5 hv5 => ?_)
    replace E := zLet_s (zgr ev5) E
    refine zg_cVv (As := [.ref v5]) (st := []) X hv4 rfl (by decide) rfl (t_X4_push l d L kd κ 0 _ hI v4 hv4 v5 hv5 ) mk_X10_219 mc_X4_push mz_X4 mi_X4_push ml_X4_push (na := 1) ⟨md_X4.1, md_X4.2, by decide +kernel⟩ rfl ⟨by decide, by decide⟩ (Nat.le_of_ble_eq_true rfl) dX10_turn_19 (fun s6 hq => ?_)
    obtain ⟨hF, hS2, hI⟩ := hq
    replace E := zLet_s hF E
    have hS := hS.tr hS2 rfl rfl
    refine zg_aload_n X 0 rfl dX10_turn_22 ?_
    refine fg_X10_52 X hI ha0 dX10_turn_23 (fun v7 ev7 hv7 => ?_)
    replace E := zLet_s (zgr ev7) E
    refine fg_X10_116 X hI hv7 dX10_turn_26 (fun v8 ev8 hv8 => ?_)
    replace E := zLet_s (zgr ev8) E
    refine zg_iload_n X 1 rfl dX10_turn_29 ?_
    refine zg_iload_n X 2 rfl dX10_turn_30 ?_
    refine as_22 X hI hv8 (by omega) (by omega) ⟨by omega, by omega⟩ dX10_turn_31 (fun s9 es9 hI => ?_)
    replace E := zLet_s es9 E
    have hS := hS.i hv8 es9 rfl
    refine zg_iconst X 1 dX10_turn_32 (by decide) (fun v10 _ hv10 => ?_)
    replace E := zLet_s (zcst hv10 (by decide)) E
    exact ret _ _ _ _ dX10_turn_33 (zb_bool ⟨by omega, by omega⟩) ⟨E.symm.trans hR, hS, ⟨⟨by omega, by omega⟩, hI⟩⟩
  · skip
    replace E := zIf_t c3 E
    refine zg_iconst X 0 dX10_turn_9 (by decide) (fun v11 _ hv11 => ?_)
    replace E := zLet_s (zcst hv11 (by decide)) E
    exact ret _ _ _ _ dX10_turn_10 (zb_bool ⟨by omega, by omega⟩) ⟨E.symm.trans hR, hS, ⟨⟨by omega, by omega⟩, hI⟩⟩
set_option maxHeartbeats 4000000 in
set_option maxRecDepth 100000 in
theorem t_X10_rule (l : Launch) (d : zD2) (L : List Nat) (kd : Nat → Nat) (κ : Int) (σ : zS) (hI : zI κ 0 L kd σ) (a0 : Nat) (ha0 : zT L kd a0 10) (p1 : Int32) : zMi l yX10_rule (Cond.code yX10_rule cX10_rule 2 (some .boolean) :: zWL) 3 [.ref a0, .int p1] d L kd σ (fun v σ2 => (v, σ2) = F_X10_rule a0 p1 σ ∧ zSm [1, 4, 22, 23, 24] [] L kd σ σ2 ∧ ((0 ≤ v.toInt ∧ v.toInt ≤ 1) ∧ zI κ 0 L kd σ2)) := by
  refine zMi.of (own := RX10) (by decide +kernel) rfl rfl (Nat.le_of_ble_eq_true rfl) ?_
  intro p e s m args below meth c A Q X ret
  refine zg_lv (lv2 := [(0, .ref a0), (1, .int p1)]) rfl ?_
  obtain ⟨R, hR⟩ : ∃ R, R = F_X10_rule a0 p1 σ := ⟨_, rfl⟩
  have E := hR
  unfold F_X10_rule at E
  have hS : zSm [1, 4, 22, 23, 24] [] L kd σ σ := zSm.rf
  refine zg_aload_n X 0 rfl dX10_rule_0 ?_
  refine zg_iload_n X 1 rfl dX10_rule_1 ?_
  refine zg_cVi (As := [.int p1]) (st := []) X ha0 rfl (by decide) rfl (t_X10_isLaw l d L kd κ 0 _ hI a0 ha0 p1 ) mk_X10_169 mc_X10_isLaw mz_X10 mi_X10_isLaw ml_X10_isLaw (na := 1) ⟨md_X10.1, md_X10.2, by decide +kernel⟩ rfl ⟨by decide, by decide⟩ (Nat.le_of_ble_eq_true rfl) dX10_rule_2 (fun v1 s2 hq => ?_)
  obtain ⟨hF, hS2, hI⟩ := hq
  replace E := zLet2_s hF E
  have hS := hS.tr hS2 rfl rfl
  obtain ⟨hv1, hI⟩ := hI
  refine zg_if_eq X 19 dX10_rule_5 (by decide) (fun c3 => ?_) (fun c3 => ?_)
  · skip
    replace E := zIf_t c3 E
    refine zg_iconst X 0 dX10_rule_19 (by decide) (fun v4 _ hv4 => ?_)
    replace E := zLet_s (zcst hv4 (by decide)) E
    exact ret _ _ _ _ dX10_rule_20 (zb_bool ⟨by omega, by omega⟩) ⟨E.symm.trans hR, hS, ⟨⟨by omega, by omega⟩, hI⟩⟩
  · skip
    replace E := zIf_f c3 E
    refine zg_aload_n X 0 rfl dX10_rule_8 ?_
    refine fg_X10_52 X hI ha0 dX10_rule_9 (fun v5 ev5 hv5 => ?_)
    replace E := zLet_s (zgr ev5) E
    refine fg_X10_185 X hI hv5 dX10_rule_12 (fun v6 ev6 hv6 => ?_)
    replace E := zLet_s ev6 E
    refine zg_iload_n X 1 rfl dX10_rule_15 ?_
    refine zg_icmp_ne X 21 dX10_rule_16 (by decide) (fun c7 => ?_) (fun c7 => ?_)
    · skip
      replace E := zIf_f c7 E
      refine zg_aload_n X 0 rfl dX10_rule_21 ?_
      refine fg_X10_38 X hI ha0 dX10_rule_22 (fun v8 ev8 hv8 => ?_)
      replace E := zLet_s (zgr ev8) E
      refine zg_aload_n X 0 rfl dX10_rule_25 ?_
      refine fg_X10_52 X hI ha0 dX10_rule_26 (fun v9 ev9 hv9 => ?_)
      replace E := zLet_s (zgr ev9) E
      refine zg_cVv (As := [.ref v9]) (st := []) X hv8 rfl (by decide) rfl (t_X4_push l d L kd κ 0 _ hI v8 hv8 v9 hv9 ) mk_X10_219 mc_X4_push mz_X4 mi_X4_push ml_X4_push (na := 1) ⟨md_X4.1, md_X4.2, by decide +kernel⟩ rfl ⟨by decide, by decide⟩ (Nat.le_of_ble_eq_true rfl) dX10_rule_29 (fun s10 hq => ?_)
      obtain ⟨hF, hS2, hI⟩ := hq
      replace E := zLet_s hF E
      have hS := hS.tr hS2 rfl rfl
      refine zg_aload_n X 0 rfl dX10_rule_32 ?_
      refine fg_X10_52 X hI ha0 dX10_rule_33 (fun v11 ev11 hv11 => ?_)
      replace E := zLet_s (zgr ev11) E
      refine zg_iload_n X 1 rfl dX10_rule_36 ?_
      refine fp_X10_185 X hI hv11 ⟨by omega, by omega⟩ dX10_rule_37 (fun s12 es12 hI => ?_)
      replace E := zLet_s es12 E
      have hS := hS.i hv11 es12 rfl
      refine zg_iconst X 1 dX10_rule_40 (by decide) (fun v13 _ hv13 => ?_)
      replace E := zLet_s (zcst hv13 (by decide)) E
      exact ret _ _ _ _ dX10_rule_41 (zb_bool ⟨by omega, by omega⟩) ⟨E.symm.trans hR, hS, ⟨⟨by omega, by omega⟩, hI⟩⟩
    · skip
      replace E := zIf_t c7 E
      refine zg_iconst X 0 dX10_rule_19 (by decide) (fun v14 _ hv14 => ?_)
      replace E := zLet_s (zcst hv14 (by decide)) E
      exact ret _ _ _ _ dX10_rule_20 (zb_bool ⟨by omega, by omega⟩) ⟨E.symm.trans hR, hS, ⟨⟨by omega, by omega⟩, hI⟩⟩
set_option maxHeartbeats 4000000 in
set_option maxRecDepth 100000 in
theorem t_X10_months (l : Launch) (d : zD2) (L : List Nat) (kd : Nat → Nat) (κ : Int) (σ : zS) (hI : zI κ 0 L kd σ) (a0 : Nat) (ha0 : zT L kd a0 10) (p1 : Int32) : zMi l yX10_months (Cond.code yX10_months cX10_months 2 (some .int) :: zWL) 7 [.ref a0, .int p1] d L kd σ (fun v σ2 => (v, σ2) = F_X10_months a0 p1 σ ∧ zSm [1, 4, 6, 20, 21, 22, 23, 24, 30, 31, 32, 33, 34, 35, 36, 38] [5] L kd σ σ2 ∧ (zI κ 0 L kd σ2)) := by
  refine zMi.of (own := RX10) (by decide +kernel) rfl rfl (Nat.le_of_ble_eq_true rfl) ?_
  intro p e s m args below meth c A Q X ret
  refine zg_lv (lv2 := [(0, .ref a0), (1, .int p1)]) rfl ?_
  obtain ⟨R, hR⟩ : ∃ R, R = F_X10_months a0 p1 σ := ⟨_, rfl⟩
  have E := hR
  unfold F_X10_months at E
  have hS : zSm [1, 4, 6, 20, 21, 22, 23, 24, 30, 31, 32, 33, 34, 35, 36, 38] [5] L kd σ σ := zSm.rf
  refine zg_iload_n X 1 rfl dX10_months_0 ?_
  refine zg_iconst X 0 dX10_months_1 (by decide) (fun v1 _ hv1 => ?_)
  replace E := zLet_s (zcst hv1 (by decide)) E
  refine zg_bipush X 60 dX10_months_2 (by decide) (fun v2 _ hv2 => ?_)
  replace E := zLet_s (zcst hv2 (by decide)) E
  refine zg_cSi (As := [.int p1, .int v1, .int v2]) (st := []) X (t_X10_isWithin l d L kd _ p1 v1 v2 ) mk_X10_229 mc_X10_isWithin mz_X10 ms_X10_isWithin (na := 3) ⟨md_X10.1, md_X10.2, by decide +kernel⟩ rfl ⟨by decide, by decide⟩ (Nat.le_of_ble_eq_true rfl) dX10_months_4 (fun v3 σ2 hq => ?_)
  obtain ⟨⟨hF, hv3⟩, rfl⟩ := hq
  replace E := zLet_s hF E
  refine zg_if_ne X 12 dX10_months_7 (by decide) (fun c4 => ?_) (fun c4 => ?_)
  · skip
    replace E := zIf_f c4 E
    refine zg_iload_n X 1 rfl dX10_months_12 ?_
    refine zg_if_le X 50 dX10_months_13 (by decide) (fun c5 => ?_) (fun c5 => ?_)
    · skip
      replace E := zIf_f (Int.not_lt.mpr c5) E
      refine zg_aload_n X 0 rfl dX10_months_50 ?_
      refine fg_X10_52 X hI ha0 dX10_months_51 (fun v6 ev6 hv6 => ?_)
      replace E := zLet_s (zgr ev6) E
      refine fg_X10_178 X hI hv6 dX10_months_54 (fun v7 ev7 _ => ?_)
      replace E := zLet_s ev7 E
      exact ret _ _ _ _ dX10_months_57 rfl ⟨E.symm.trans hR, hS, hI⟩
    · skip
      replace E := zIf_t c5 E
      refine zg_aload_n X 0 rfl dX10_months_16 ?_
      refine fg_X10_38 X hI ha0 dX10_months_17 (fun v8 ev8 hv8 => ?_)
      replace E := zLet_s (zgr ev8) E
      refine zg_aload_n X 0 rfl dX10_months_20 ?_
      refine fg_X10_52 X hI ha0 dX10_months_21 (fun v9 ev9 hv9 => ?_)
      replace E := zLet_s (zgr ev9) E
      refine zg_cVv (As := [.ref v9]) (st := []) X hv8 rfl (by decide) rfl (t_X4_push l d L kd κ 0 _ hI v8 hv8 v9 hv9 ) mk_X10_219 mc_X4_push mz_X4 mi_X4_push ml_X4_push (na := 1) ⟨md_X4.1, md_X4.2, by decide +kernel⟩ rfl ⟨by decide, by decide⟩ (Nat.le_of_ble_eq_true rfl) dX10_months_24 (fun s10 hq => ?_)
      obtain ⟨hF, hS2, hI⟩ := hq
      replace E := zLet_s hF E
      have hS := hS.tr hS2 rfl rfl
      refine zg_aload_n X 0 rfl dX10_months_27 ?_
      refine fg_X10_26 X hI ha0 dX10_months_28 (fun v11 ev11 hv11 => ?_)
      replace E := zLet_s (zgr ev11) E
      refine zg_aload_n X 0 rfl dX10_months_31 ?_
      refine fg_X10_70 X hI ha0 dX10_months_32 (fun v12 ev12 hv12 => ?_)
      replace E := zLet_s (zgr ev12) E
      refine zg_aload_n X 0 rfl dX10_months_35 ?_
      refine fg_X10_52 X hI ha0 dX10_months_36 (fun v13 ev13 hv13 => ?_)
      replace E := zLet_s (zgr ev13) E
      refine zg_iload_n X 1 rfl dX10_months_39 ?_
      refine zg_aload_n X 0 rfl dX10_months_40 ?_
      refine fg_X10_70 X hI ha0 dX10_months_41 (fun v14 ev14 hv14 => ?_)
      replace E := zLet_s (zgr ev14) E
      refine fg_X10_203 X hI hv14 dX10_months_44 (fun v15 ev15 _ => ?_)
      replace E := zLet_s ev15 E
      refine zg_cVv (As := [.ref v12, .ref v13, .int p1, .int v15]) (st := []) X hv11 rfl (by decide) rfl (t_X5_goThrough l d L kd κ 0 _ hI v11 hv11 v12 hv12 v13 hv13 p1 v15 (by omega)) mk_X10_233 mc_X5_goThrough mz_X5 mi_X5_goThrough ml_X5_goThrough (na := 4) ⟨md_X5.1, md_X5.2, by decide +kernel⟩ rfl ⟨by decide, by decide⟩ (Nat.le_of_ble_eq_true rfl) dX10_months_47 (fun s16 hq => ?_)
      obtain ⟨hF, hS2, hI⟩ := hq
      replace E := zLet_s hF E
      have hS := hS.tr hS2 rfl rfl
      refine zg_aload_n X 0 rfl dX10_months_50 ?_
      refine fg_X10_52 X hI ha0 dX10_months_51 (fun v17 ev17 hv17 => ?_)
      replace E := zLet_s (zgr ev17) E
      refine fg_X10_178 X hI hv17 dX10_months_54 (fun v18 ev18 _ => ?_)
      replace E := zLet_s ev18 E
      exact ret _ _ _ _ dX10_months_57 rfl ⟨E.symm.trans hR, hS, (zi_weak hI)⟩
  · skip
    replace E := zIf_t c4 E
    refine zg_iconst X (-1) dX10_months_10 (by decide) (fun v19 _ hv19 => ?_)
    replace E := zLet_s (zcst hv19 (by decide)) E
    exact ret _ _ _ _ dX10_months_11 rfl ⟨E.symm.trans hR, hS, hI⟩
set_option maxHeartbeats 4000000 in
set_option maxRecDepth 100000 in
theorem t_X10_undo (l : Launch) (d : zD2) (L : List Nat) (kd : Nat → Nat) (κ : Int) (σ : zS) (hI : zI κ 0 L kd σ) (a0 : Nat) (ha0 : zT L kd a0 10) : zMi l yX10_undo (Cond.code yX10_undo cX10_undo 1 (some .boolean) :: zWL) 3 [.ref a0] d L kd σ (fun v σ2 => (v, σ2) = F_X10_undo a0 σ ∧ zSm [1, 4, 22, 23, 24] [] L kd σ σ2 ∧ ((0 ≤ v.toInt ∧ v.toInt ≤ 1) ∧ zI κ 0 L kd σ2)) := by
  refine zMi.of (own := RX10) (by decide +kernel) rfl rfl (Nat.le_of_ble_eq_true rfl) ?_
  intro p e s m args below meth c A Q X ret
  refine zg_lv (lv2 := [(0, .ref a0)]) rfl ?_
  obtain ⟨R, hR⟩ : ∃ R, R = F_X10_undo a0 σ := ⟨_, rfl⟩
  have E := hR
  unfold F_X10_undo at E
  have hS : zSm [1, 4, 22, 23, 24] [] L kd σ σ := zSm.rf
  refine zg_aload_n X 0 rfl dX10_undo_0 ?_
  refine fg_X10_38 X hI ha0 dX10_undo_1 (fun v1 ev1 hv1 => ?_)
  replace E := zLet_s (zgr ev1) E
  refine zg_aload_n X 0 rfl dX10_undo_4 ?_
  refine fg_X10_52 X hI ha0 dX10_undo_5 (fun v2 ev2 hv2 => ?_)
  replace E := zLet_s (zgr ev2) E
  refine zg_cVi (As := [.ref v2]) (st := []) X hv1 rfl (by decide) rfl (t_X4_pop l d L kd κ 0 _ hI v1 hv1 v2 hv2 ) mk_X10_237 mc_X4_pop mz_X4 mi_X4_pop ml_X4_pop (na := 1) ⟨md_X4.1, md_X4.2, by decide +kernel⟩ rfl ⟨by decide, by decide⟩ (Nat.le_of_ble_eq_true rfl) dX10_undo_8 (fun v3 s4 hq => ?_)
  obtain ⟨hF, hS2, hI⟩ := hq
  replace E := zLet2_s hF E
  have hS := hS.tr hS2 rfl rfl
  obtain ⟨hv3, hI⟩ := hI
  exact ret _ _ _ _ dX10_undo_11 (zb_bool ⟨by omega, by omega⟩) ⟨E.symm.trans hR, hS, ⟨⟨by omega, by omega⟩, hI⟩⟩
set_option maxHeartbeats 4000000 in
set_option maxRecDepth 100000 in
theorem t_X10_hold (l : Launch) (d : zD2) (L : List Nat) (kd : Nat → Nat) (κ : Int) (σ : zS) (hI : zI κ 0 L kd σ) (a0 : Nat) (ha0 : zT L kd a0 10) (p1 : Int32) : zMi l yX10_hold (Cond.code yX10_hold cX10_hold 2 (some .boolean) :: zWL) 2 [.ref a0, .int p1] d L kd σ (fun v σ2 => (v, σ2) = F_X10_hold a0 p1 σ ∧ zSm [1, 10, 22, 23, 24] [] L kd σ σ2 ∧ (((v.toInt = 1 ∧ 0 ≤ p1.toInt ∧ p1.toInt ≤ 2) ∨ (v.toInt = 0 ∧ (p1.toInt < 0 ∨ 2 < p1.toInt))) ∧ zI κ 0 L kd σ2)) := by
  refine zMi.of (own := RX10) (by decide +kernel) rfl rfl (Nat.le_of_ble_eq_true rfl) ?_
  intro p e s m args below meth c A Q X ret
  refine zg_lv (lv2 := [(0, .ref a0), (1, .int p1)]) rfl ?_
  obtain ⟨R, hR⟩ : ∃ R, R = F_X10_hold a0 p1 σ := ⟨_, rfl⟩
  have E := hR
  unfold F_X10_hold at E
  have hS : zSm [1, 10, 22, 23, 24] [] L kd σ σ := zSm.rf
  refine zg_iload_n X 1 rfl dX10_hold_0 ?_
  refine zg_iconst X 0 dX10_hold_1 (by decide) (fun v1 _ hv1 => ?_)
  replace E := zLet_s (zcst hv1 (by decide)) E
  refine zg_iconst X 2 dX10_hold_2 (by decide) (fun v2 _ hv2 => ?_)
  replace E := zLet_s (zcst hv2 (by decide)) E
  refine zg_cSi (As := [.int p1, .int v1, .int v2]) (st := []) X (t_X10_isWithin l d L kd _ p1 v1 v2 ) mk_X10_229 mc_X10_isWithin mz_X10 ms_X10_isWithin (na := 3) ⟨md_X10.1, md_X10.2, by decide +kernel⟩ rfl ⟨by decide, by decide⟩ (Nat.le_of_ble_eq_true rfl) dX10_hold_3 (fun v3 σ2 hq => ?_)
  obtain ⟨⟨hF, hv3⟩, rfl⟩ := hq
  replace E := zLet_s hF E
  refine zg_if_ne X 11 dX10_hold_6 (by decide) (fun c4 => ?_) (fun c4 => ?_)
  · skip
    replace E := zIf_f c4 E
    refine zg_aload_n X 0 rfl dX10_hold_11 ?_
    refine fg_X10_59 X hI ha0 dX10_hold_12 (fun v5 ev5 hv5 => ?_)
    replace E := zLet_s (zgr ev5) E
    refine zg_iload_n X 1 rfl dX10_hold_15 ?_
    refine ag_52 X hI hv5 (by omega) (by omega) dX10_hold_16 (fun v6 ev6 hv6 => ?_)
    replace E := zLet_s (zgr ev6) E
    refine zg_aload_n X 0 rfl dX10_hold_17 ?_
    refine fg_X10_52 X hI ha0 dX10_hold_18 (fun v7 ev7 hv7 => ?_)
    replace E := zLet_s (zgr ev7) E
    refine zg_cVv (As := [.ref v7]) (st := []) X hv6 rfl (by decide) rfl (t_X1_copy l d L kd κ 0 _ hI v6 hv6 v7 hv7 ) mk_X10_241 mc_X1_copy mz_X1 mi_X1_copy ml_X1_copy (na := 1) ⟨md_X1.1, md_X1.2, by decide +kernel⟩ rfl ⟨by decide, by decide⟩ (Nat.le_of_ble_eq_true rfl) dX10_hold_21 (fun s8 hq => ?_)
    obtain ⟨hF, hS2, hI⟩ := hq
    replace E := zLet_s hF E
    have hS := hS.tr hS2 rfl rfl
    refine zg_aload_n X 0 rfl dX10_hold_24 ?_
    refine zg_dup X dX10_hold_25 rfl ?_
    refine fg_X10_77 X hI ha0 dX10_hold_26 (fun v9 ev9 _ => ?_)
    replace E := zLet_s ev9 E
    refine zg_iload_n X 1 rfl dX10_hold_29 ?_
    refine zg_cSi (As := [.int p1]) (st := [.int v9, .ref a0]) X (t_X10_bit l d L kd _ p1 ) mk_X10_216 mc_X10_bit mz_X10 ms_X10_bit (na := 1) ⟨md_X10.1, md_X10.2, by decide +kernel⟩ rfl ⟨by decide, by decide⟩ (Nat.le_of_ble_eq_true rfl) dX10_hold_30 (fun v10 σ2 hq => ?_)
    obtain ⟨⟨hF, hv10⟩, rfl⟩ := hq
    replace E := zLet_s hF E
    refine zg_iorW X dX10_hold_33 (fun v11 ev11 => ?_)
    replace E := zLet_s ev11 E
    refine fp_X10_77 X hI ha0 (zb_rng _) dX10_hold_34 (fun s12 es12 hI => ?_)
    replace E := zLet_s es12 E
    have hS := hS.i ha0 es12 rfl
    refine zg_iconst X 1 dX10_hold_37 (by decide) (fun v13 _ hv13 => ?_)
    replace E := zLet_s (zcst hv13 (by decide)) E
    exact ret _ _ _ _ dX10_hold_38 (zb_bool ⟨by omega, by omega⟩) ⟨E.symm.trans hR, hS, ⟨by omega, hI⟩⟩
  · skip
    replace E := zIf_t c4 E
    refine zg_iconst X 0 dX10_hold_9 (by decide) (fun v14 _ hv14 => ?_)
    replace E := zLet_s (zcst hv14 (by decide)) E
    exact ret _ _ _ _ dX10_hold_10 (zb_bool ⟨by omega, by omega⟩) ⟨E.symm.trans hR, hS, ⟨by omega, hI⟩⟩
set_option maxHeartbeats 4000000 in
set_option maxRecDepth 100000 in
theorem t_X10_restore (l : Launch) (d : zD2) (L : List Nat) (kd : Nat → Nat) (κ : Int) (σ : zS) (hI : zI κ 0 L kd σ) (a0 : Nat) (ha0 : zT L kd a0 10) (p1 : Int32) : zMi l yX10_restore (Cond.code yX10_restore cX10_restore 2 (some .boolean) :: zWL) 2 [.ref a0, .int p1] d L kd σ (fun v σ2 => (v, σ2) = F_X10_restore a0 p1 σ ∧ zSm [1, 4, 22, 23, 24] [] L kd σ σ2 ∧ ((0 ≤ v.toInt ∧ v.toInt ≤ 1) ∧ zI κ 0 L kd σ2)) := by
  refine zMi.of (own := RX10) (by decide +kernel) rfl rfl (Nat.le_of_ble_eq_true rfl) ?_
  intro p e s m args below meth c A Q X ret
  refine zg_lv (lv2 := [(0, .ref a0), (1, .int p1)]) rfl ?_
  obtain ⟨R, hR⟩ : ∃ R, R = F_X10_restore a0 p1 σ := ⟨_, rfl⟩
  have E := hR
  unfold F_X10_restore at E
  have hS : zSm [1, 4, 22, 23, 24] [] L kd σ σ := zSm.rf
  refine zg_iload_n X 1 rfl dX10_restore_0 ?_
  refine zg_iconst X 0 dX10_restore_1 (by decide) (fun v1 _ hv1 => ?_)
  replace E := zLet_s (zcst hv1 (by decide)) E
  refine zg_iconst X 2 dX10_restore_2 (by decide) (fun v2 _ hv2 => ?_)
  replace E := zLet_s (zcst hv2 (by decide)) E
  refine zg_cSi (As := [.int p1, .int v1, .int v2]) (st := []) X (t_X10_isWithin l d L kd _ p1 v1 v2 ) mk_X10_229 mc_X10_isWithin mz_X10 ms_X10_isWithin (na := 3) ⟨md_X10.1, md_X10.2, by decide +kernel⟩ rfl ⟨by decide, by decide⟩ (Nat.le_of_ble_eq_true rfl) dX10_restore_3 (fun v3 σ2 hq => ?_)
  obtain ⟨⟨hF, hv3⟩, rfl⟩ := hq
  replace E := zLet_s hF E
  refine zg_if_eq X 20 dX10_restore_6 (by decide) (fun c4 => ?_) (fun c4 => ?_)
  · skip
    replace E := zIf_t c4 E
    refine zg_iconst X 0 dX10_restore_20 (by decide) (fun v5 _ hv5 => ?_)
    replace E := zLet_s (zcst hv5 (by decide)) E
    exact ret _ _ _ _ dX10_restore_21 (zb_bool ⟨by omega, by omega⟩) ⟨E.symm.trans hR, hS, ⟨⟨by omega, by omega⟩, hI⟩⟩
  · skip
    replace E := zIf_f c4 E
    refine zg_aload_n X 0 rfl dX10_restore_9 ?_
    refine fg_X10_77 X hI ha0 dX10_restore_10 (fun v6 ev6 _ => ?_)
    replace E := zLet_s ev6 E
    refine zg_iload_n X 1 rfl dX10_restore_13 ?_
    refine zg_cSi (As := [.int v6, .int p1]) (st := []) X (t_X10_has l d L kd _ v6 p1 ) mk_X10_131 mc_X10_has mz_X10 ms_X10_has (na := 2) ⟨md_X10.1, md_X10.2, by decide +kernel⟩ rfl ⟨by decide, by decide⟩ (Nat.le_of_ble_eq_true rfl) dX10_restore_14 (fun v7 σ2 hq => ?_)
    obtain ⟨⟨hF, hv7⟩, rfl⟩ := hq
    replace E := zLet_s hF E
    refine zg_if_ne X 22 dX10_restore_17 (by decide) (fun c8 => ?_) (fun c8 => ?_)
    · skip
      replace E := zIf_f c8 E
      refine zg_aload_n X 0 rfl dX10_restore_22 ?_
      refine fg_X10_52 X hI ha0 dX10_restore_23 (fun v9 ev9 hv9 => ?_)
      replace E := zLet_s (zgr ev9) E
      refine zg_aload_n X 0 rfl dX10_restore_26 ?_
      refine fg_X10_59 X hI ha0 dX10_restore_27 (fun v10 ev10 hv10 => ?_)
      replace E := zLet_s (zgr ev10) E
      refine zg_iload_n X 1 rfl dX10_restore_30 ?_
      refine ag_52 X hI hv10 (by omega) (by omega) dX10_restore_31 (fun v11 ev11 hv11 => ?_)
      replace E := zLet_s (zgr ev11) E
      refine zg_cVv (As := [.ref v11]) (st := []) X hv9 rfl (by decide) rfl (t_X1_copy l d L kd κ 0 _ hI v9 hv9 v11 hv11 ) mk_X10_241 mc_X1_copy mz_X1 mi_X1_copy ml_X1_copy (na := 1) ⟨md_X1.1, md_X1.2, by decide +kernel⟩ rfl ⟨by decide, by decide⟩ (Nat.le_of_ble_eq_true rfl) dX10_restore_32 (fun s12 hq => ?_)
      obtain ⟨hF, hS2, hI⟩ := hq
      replace E := zLet_s hF E
      have hS := hS.tr hS2 rfl rfl
      refine zg_aload_n X 0 rfl dX10_restore_35 ?_
      refine fg_X10_38 X hI ha0 dX10_restore_36 (fun v13 ev13 hv13 => ?_)
      replace E := zLet_s (zgr ev13) E
      refine zg_iconst X 0 dX10_restore_39 (by decide) (fun v14 _ hv14 => ?_)
      replace E := zLet_s (zcst hv14 (by decide)) E
      refine fp_X10_107 X hI hv13 ⟨by omega, by omega⟩ dX10_restore_40 (fun s15 es15 hI => ?_)
      replace E := zLet_s es15 E
      have hS := hS.i hv13 es15 rfl
      refine zg_iconst X 1 dX10_restore_43 (by decide) (fun v16 _ hv16 => ?_)
      replace E := zLet_s (zcst hv16 (by decide)) E
      exact ret _ _ _ _ dX10_restore_44 (zb_bool ⟨by omega, by omega⟩) ⟨E.symm.trans hR, hS, ⟨⟨by omega, by omega⟩, hI⟩⟩
    · skip
      replace E := zIf_t c8 E
      refine zg_iconst X 0 dX10_restore_20 (by decide) (fun v17 _ hv17 => ?_)
      replace E := zLet_s (zcst hv17 (by decide)) E
      exact ret _ _ _ _ dX10_restore_21 (zb_bool ⟨by omega, by omega⟩) ⟨E.symm.trans hR, hS, ⟨⟨by omega, by omega⟩, hI⟩⟩
set_option maxHeartbeats 4000000 in
set_option maxRecDepth 100000 in
theorem t_X10_behind (l : Launch) (d : zD2) (L : List Nat) (kd : Nat → Nat) (κ : Int) (σ : zS) (hI : zI κ 0 L kd σ) (a0 : Nat) (ha0 : zT L kd a0 10) (p1 : Int32) (p2 : Int32) : zMi l yX10_behind (Cond.code yX10_behind cX10_behind 4 (some .int) :: zWL) 7 [.ref a0, .int p1, .int p2] d L kd σ (fun v σ2 => (v, σ2) = F_X10_behind a0 p1 p2 σ ∧ zSm [6, 20, 21, 30, 31, 32, 33, 34, 35, 36, 38] [5] L kd σ σ2 ∧ (zI κ 0 L kd σ2)) := by
  refine zMi.of (own := RX10) (by decide +kernel) rfl rfl (Nat.le_of_ble_eq_true rfl) ?_
  intro p e s m args below meth c A Q X ret
  refine zg_lv (lv2 := [(0, .ref a0), (1, .int p1), (2, .int p2)]) rfl ?_
  obtain ⟨R, hR⟩ : ∃ R, R = F_X10_behind a0 p1 p2 σ := ⟨_, rfl⟩
  have E := hR
  unfold F_X10_behind at E
  have hS : zSm [6, 20, 21, 30, 31, 32, 33, 34, 35, 36, 38] [5] L kd σ σ := zSm.rf
  refine zg_aload_n X 0 rfl dX10_behind_0 ?_
  refine zg_iload_n X 1 rfl dX10_behind_1 ?_
  refine zg_iload_n X 2 rfl dX10_behind_2 ?_
  refine zg_cVi (As := [.int p1, .int p2]) (st := []) X ha0 rfl (by decide) rfl (t_X10_isContest l d L kd κ 0 _ hI a0 ha0 p1 p2 ) mk_X10_162 mc_X10_isContest mz_X10 mi_X10_isContest ml_X10_isContest (na := 2) ⟨md_X10.1, md_X10.2, by decide +kernel⟩ rfl ⟨by decide, by decide⟩ (Nat.le_of_ble_eq_true rfl) dX10_behind_3 (fun v1 s2 hq => ?_)
  obtain ⟨hF, hS2, hI⟩ := hq
  replace E := zLet2_s hF E
  have hS := hS.tr hS2 rfl rfl
  obtain ⟨hv1, hI⟩ := hI
  refine zg_if_ne X 11 dX10_behind_6 (by decide) (fun c3 => ?_) (fun c3 => ?_)
  · skip
    replace E := zIf_f c3 E
    refine zg_aload_n X 0 rfl dX10_behind_11 ?_
    refine fg_X10_26 X hI ha0 dX10_behind_12 (fun v4 ev4 hv4 => ?_)
    replace E := zLet_s (zgr ev4) E
    refine zg_iload_n X 2 rfl dX10_behind_15 ?_
    refine zg_cVi (As := [.int p2]) (st := []) X hv4 rfl (by decide) rfl (t_X5_winnerBy l d L kd κ _ hI v4 hv4 p2 (by omega)) mk_X10_172 mc_X5_winnerBy mz_X5 mi_X5_winnerBy ml_X5_winnerBy (na := 1) ⟨md_X5.1, md_X5.2, by decide +kernel⟩ rfl ⟨by decide, by decide⟩ (Nat.le_of_ble_eq_true rfl) dX10_behind_16 (fun v5 s6 hq => ?_)
    obtain ⟨hF, hS2, hI⟩ := hq
    replace E := zLet2_s hF E
    have hS := hS.tr hS2 rfl rfl
    obtain ⟨hv5, hI⟩ := hI
    refine zg_istore_n X [(3, .int v5), (0, .ref a0), (1, .int p1), (2, .int p2)] dX10_behind_19 (by decide) rfl ?_
    refine zg_iload_n X 0 rfl dX10_behind_20 ?_
    refine zg_if_ge X 28 dX10_behind_21 (by decide) (fun c7 => ?_) (fun c7 => ?_)
    · skip
      replace E := zIf_f (Int.not_lt.mpr c7) E
      refine zg_aload_n X 1 rfl dX10_behind_28 ?_
      refine fg_X10_26 X hI ha0 dX10_behind_29 (fun v8 ev8 hv8 => ?_)
      replace E := zLet_s (zgr ev8) E
      refine fg_X10_244 X hI hv8 dX10_behind_32 (fun v9 ev9 hv9 => ?_)
      replace E := zLet_s (zgr ev9) E
      refine zg_iload_n X 0 rfl dX10_behind_35 ?_
      refine ag_32 X hI hv9 (by omega) (by omega) dX10_behind_36 (fun v10 ev10 _ => ?_)
      replace E := zLet_s ev10 E
      refine zg_aload_n X 1 rfl dX10_behind_37 ?_
      refine fg_X10_26 X hI ha0 dX10_behind_38 (fun v11 ev11 hv11 => ?_)
      replace E := zLet_s (zgr ev11) E
      refine fg_X10_244 X hI hv11 dX10_behind_41 (fun v12 ev12 hv12 => ?_)
      replace E := zLet_s (zgr ev12) E
      refine zg_iload_n X 2 rfl dX10_behind_44 ?_
      refine ag_32 X hI hv12 (by omega) (by omega) dX10_behind_45 (fun v13 ev13 _ => ?_)
      replace E := zLet_s ev13 E
      refine zg_isubW X dX10_behind_46 (fun v14 ev14 => ?_)
      replace E := zLet_s ev14 E
      exact ret _ _ _ _ dX10_behind_47 rfl ⟨E.symm.trans hR, hS, (zi_weak hI)⟩
    · skip
      replace E := zIf_t c7 E
      refine zg_iconst X (-1) dX10_behind_24 (by decide) (fun v15 _ hv15 => ?_)
      replace E := zLet_s (zcst hv15 (by decide)) E
      refine zg_goto X 47 dX10_behind_25 (by decide) ?_
      exact ret _ _ _ _ dX10_behind_47 rfl ⟨E.symm.trans hR, hS, (zi_weak hI)⟩
  · skip
    replace E := zIf_t c3 E
    refine zg_iconst X (-1) dX10_behind_9 (by decide) (fun v16 _ hv16 => ?_)
    replace E := zLet_s (zcst hv16 (by decide)) E
    exact ret _ _ _ _ dX10_behind_10 rfl ⟨E.symm.trans hR, hS, (zi_weak hI)⟩
set_option maxHeartbeats 4000000 in
set_option maxRecDepth 100000 in
theorem t_X10_margin (l : Launch) (d : zD2) (L : List Nat) (kd : Nat → Nat) (κ : Int) (σ : zS) (hI : zI κ 0 L kd σ) (a0 : Nat) (ha0 : zT L kd a0 10) (p1 : Int32) : zMi l yX10_margin (Cond.code yX10_margin cX10_margin 4 (some .int) :: zWL) 7 [.ref a0, .int p1] d L kd σ (fun v σ2 => (v, σ2) = F_X10_margin a0 p1 σ ∧ zSm [6, 20, 21, 30, 31, 32, 33, 34, 35, 36, 38] [5] L kd σ σ2 ∧ (zI κ 0 L kd σ2)) := by
  refine zMi.of (own := RX10) (by decide +kernel) rfl rfl (Nat.le_of_ble_eq_true rfl) ?_
  intro p e s m args below meth c A Q X ret
  refine zg_lv (lv2 := [(0, .ref a0), (1, .int p1)]) rfl ?_
  obtain ⟨R, hR⟩ : ∃ R, R = F_X10_margin a0 p1 σ := ⟨_, rfl⟩
  have E := hR
  unfold F_X10_margin at E
  have hS : zSm [6, 20, 21, 30, 31, 32, 33, 34, 35, 36, 38] [5] L kd σ σ := zSm.rf
  refine zg_aload_n X 0 rfl dX10_margin_0 ?_
  refine zg_iload_n X 1 rfl dX10_margin_1 ?_
  refine zg_cVi (As := [.int p1]) (st := []) X ha0 rfl (by decide) rfl (t_X10_isLaw l d L kd κ 0 _ hI a0 ha0 p1 ) mk_X10_169 mc_X10_isLaw mz_X10 mi_X10_isLaw ml_X10_isLaw (na := 1) ⟨md_X10.1, md_X10.2, by decide +kernel⟩ rfl ⟨by decide, by decide⟩ (Nat.le_of_ble_eq_true rfl) dX10_margin_2 (fun v1 s2 hq => ?_)
  obtain ⟨hF, hS2, hI⟩ := hq
  replace E := zLet2_s hF E
  have hS := hS.tr hS2 rfl rfl
  obtain ⟨hv1, hI⟩ := hI
  refine zg_if_ne X 10 dX10_margin_5 (by decide) (fun c3 => ?_) (fun c3 => ?_)
  · skip
    replace E := zIf_f c3 E
    refine zg_aload_n X 0 rfl dX10_margin_10 ?_
    refine zg_cVv (As := []) (st := []) X ha0 rfl (by decide) rfl (t_X10_look l d L kd κ 0 _ hI a0 ha0 ) mk_X10_113 mc_X10_look mz_X10 mi_X10_look ml_X10_look (na := 0) ⟨md_X10.1, md_X10.2, by decide +kernel⟩ rfl ⟨by decide, by decide⟩ (Nat.le_of_ble_eq_true rfl) dX10_margin_11 (fun s4 hq => ?_)
    obtain ⟨hF, hS2, hI⟩ := hq
    replace E := zLet_s hF E
    have hS := hS.tr hS2 rfl rfl
    refine zg_aload_n X 0 rfl dX10_margin_14 ?_
    refine fg_X10_26 X hI ha0 dX10_margin_15 (fun v5 ev5 hv5 => ?_)
    replace E := zLet_s (zgr ev5) E
    refine zg_iload_n X 1 rfl dX10_margin_18 ?_
    refine zg_cVv (As := [.int p1]) (st := []) X hv5 rfl (by decide) rfl (t_X5_weigh l d L kd κ _ hI v5 hv5 p1 (by omega)) mk_X10_247 mc_X5_weigh mz_X5 mi_X5_weigh ml_X5_weigh (na := 1) ⟨md_X5.1, md_X5.2, by decide +kernel⟩ rfl ⟨by decide, by decide⟩ (Nat.le_of_ble_eq_true rfl) dX10_margin_19 (fun s6 hq => ?_)
    obtain ⟨hF, hS2, hI⟩ := hq
    replace E := zLet_s hF E
    have hS := hS.tr hS2 rfl rfl
    refine zg_aload_n X 0 rfl dX10_margin_22 ?_
    refine fg_X10_26 X hI ha0 dX10_margin_23 (fun v7 ev7 hv7 => ?_)
    replace E := zLet_s (zgr ev7) E
    refine zg_iconst X (-1) dX10_margin_26 (by decide) (fun v8 _ hv8 => ?_)
    replace E := zLet_s (zcst hv8 (by decide)) E
    refine zg_cVi (As := [.int v8]) (st := []) X hv7 rfl (by decide) rfl (t_X5_greatestClaim l d L kd κ _ hI v7 hv7 v8 ) mk_X10_250 mc_X5_greatestClaim mz_X5 mi_X5_greatestClaim ml_X5_greatestClaim (na := 1) ⟨md_X5.1, md_X5.2, by decide +kernel⟩ rfl ⟨by decide, by decide⟩ (Nat.le_of_ble_eq_true rfl) dX10_margin_27 (fun v9 s10 hq => ?_)
    obtain ⟨hF, hS2, hI⟩ := hq
    replace E := zLet2_s hF E
    have hS := hS.tr hS2 rfl rfl
    obtain ⟨hv9, hI⟩ := hI
    refine zg_istore_n X [(2, .int v9), (0, .ref a0), (1, .int p1)] dX10_margin_30 (by decide) rfl ?_
    refine zg_aload_n X 1 rfl dX10_margin_31 ?_
    refine fg_X10_26 X hI ha0 dX10_margin_32 (fun v11 ev11 hv11 => ?_)
    replace E := zLet_s (zgr ev11) E
    refine zg_iload_n X 0 rfl dX10_margin_35 ?_
    refine zg_cVi (As := [.int v9]) (st := []) X hv11 rfl (by decide) rfl (t_X5_greatestClaim l d L kd κ _ hI v11 hv11 v9 ) mk_X10_250 mc_X5_greatestClaim mz_X5 mi_X5_greatestClaim ml_X5_greatestClaim (na := 1) ⟨md_X5.1, md_X5.2, by decide +kernel⟩ rfl ⟨by decide, by decide⟩ (Nat.le_of_ble_eq_true rfl) dX10_margin_36 (fun v12 s13 hq => ?_)
    obtain ⟨hF, hS2, hI⟩ := hq
    replace E := zLet2_s hF E
    have hS := hS.tr hS2 rfl rfl
    obtain ⟨hv12, hI⟩ := hI
    refine zg_istore_n X [(3, .int v12), (2, .int v9), (0, .ref a0), (1, .int p1)] dX10_margin_39 (by decide) rfl ?_
    refine zg_iload_n X 1 rfl dX10_margin_40 ?_
    refine zg_if_lt X 48 dX10_margin_41 (by decide) (fun c14 => ?_) (fun c14 => ?_)
    · skip
      replace E := zIf_t c14 E
      refine zg_bipush X (-2) dX10_margin_48 (by decide) (fun v15 _ hv15 => ?_)
      replace E := zLet_s (zcst hv15 (by decide)) E
      refine zg_goto X 72 dX10_margin_50 (by decide) ?_
      exact ret _ _ _ _ dX10_margin_72 rfl ⟨E.symm.trans hR, hS, (zi_weak hI)⟩
    · skip
      replace E := zIf_f (Int.not_lt.mpr c14) E
      refine zg_iload_n X 0 rfl dX10_margin_44 ?_
      refine zg_if_ge X 53 dX10_margin_45 (by decide) (fun c16 => ?_) (fun c16 => ?_)
      · skip
        replace E := zIf_f (Int.not_lt.mpr c16) E
        refine zg_aload_n X 2 rfl dX10_margin_53 ?_
        refine fg_X10_26 X hI ha0 dX10_margin_54 (fun v17 ev17 hv17 => ?_)
        replace E := zLet_s (zgr ev17) E
        refine fg_X10_244 X hI hv17 dX10_margin_57 (fun v18 ev18 hv18 => ?_)
        replace E := zLet_s (zgr ev18) E
        refine zg_iload_n X 1 rfl dX10_margin_60 ?_
        refine ag_32 X hI hv18 (by omega) (by omega) dX10_margin_61 (fun v19 ev19 _ => ?_)
        replace E := zLet_s ev19 E
        refine zg_aload_n X 2 rfl dX10_margin_62 ?_
        refine fg_X10_26 X hI ha0 dX10_margin_63 (fun v20 ev20 hv20 => ?_)
        replace E := zLet_s (zgr ev20) E
        refine fg_X10_244 X hI hv20 dX10_margin_66 (fun v21 ev21 hv21 => ?_)
        replace E := zLet_s (zgr ev21) E
        refine zg_iload_n X 0 rfl dX10_margin_69 ?_
        refine ag_32 X hI hv21 (by omega) (by omega) dX10_margin_70 (fun v22 ev22 _ => ?_)
        replace E := zLet_s ev22 E
        refine zg_isubW X dX10_margin_71 (fun v23 ev23 => ?_)
        replace E := zLet_s ev23 E
        exact ret _ _ _ _ dX10_margin_72 rfl ⟨E.symm.trans hR, hS, (zi_weak hI)⟩
      · skip
        replace E := zIf_t c16 E
        refine zg_bipush X (-2) dX10_margin_48 (by decide) (fun v24 _ hv24 => ?_)
        replace E := zLet_s (zcst hv24 (by decide)) E
        refine zg_goto X 72 dX10_margin_50 (by decide) ?_
        exact ret _ _ _ _ dX10_margin_72 rfl ⟨E.symm.trans hR, hS, (zi_weak hI)⟩
  · skip
    replace E := zIf_t c3 E
    refine zg_iconst X (-1) dX10_margin_8 (by decide) (fun v25 _ hv25 => ?_)
    replace E := zLet_s (zcst hv25 (by decide)) E
    exact ret _ _ _ _ dX10_margin_9 rfl ⟨E.symm.trans hR, hS, hI⟩
set_option maxHeartbeats 4000000 in
set_option maxRecDepth 100000 in
theorem t_X10_rank (l : Launch) (d : zD2) (L : List Nat) (kd : Nat → Nat) (κ : Int) (σ : zS) (hI : zI κ 0 L kd σ) (a0 : Nat) (ha0 : zT L kd a0 10) (p1 : Int32) (p2 : Int32) : zMi l yX10_rank (Cond.code yX10_rank cX10_rank 3 (some .int) :: zWL) 7 [.ref a0, .int p1, .int p2] d L kd σ (fun v σ2 => (v, σ2) = F_X10_rank a0 p1 p2 σ ∧ zSm [6, 20, 21, 30, 31, 32, 33, 34, 35, 36, 38] [5] L kd σ σ2 ∧ (zI κ 0 L kd σ2)) := by
  refine zMi.of (own := RX10) (by decide +kernel) rfl rfl (Nat.le_of_ble_eq_true rfl) ?_
  intro p e s m args below meth c A Q X ret
  refine zg_lv (lv2 := [(0, .ref a0), (1, .int p1), (2, .int p2)]) rfl ?_
  obtain ⟨R, hR⟩ : ∃ R, R = F_X10_rank a0 p1 p2 σ := ⟨_, rfl⟩
  have E := hR
  unfold F_X10_rank at E
  have hS : zSm [6, 20, 21, 30, 31, 32, 33, 34, 35, 36, 38] [5] L kd σ σ := zSm.rf
  refine zg_aload_n X 0 rfl dX10_rank_0 ?_
  refine zg_iload_n X 1 rfl dX10_rank_1 ?_
  refine zg_iload_n X 2 rfl dX10_rank_2 ?_
  refine zg_cVi (As := [.int p1, .int p2]) (st := []) X ha0 rfl (by decide) rfl (t_X10_isContest l d L kd κ 0 _ hI a0 ha0 p1 p2 ) mk_X10_162 mc_X10_isContest mz_X10 mi_X10_isContest ml_X10_isContest (na := 2) ⟨md_X10.1, md_X10.2, by decide +kernel⟩ rfl ⟨by decide, by decide⟩ (Nat.le_of_ble_eq_true rfl) dX10_rank_3 (fun v1 s2 hq => ?_)
  obtain ⟨hF, hS2, hI⟩ := hq
  replace E := zLet2_s hF E
  have hS := hS.tr hS2 rfl rfl
  obtain ⟨hv1, hI⟩ := hI
  refine zg_if_ne X 11 dX10_rank_6 (by decide) (fun c3 => ?_) (fun c3 => ?_)
  · skip
    replace E := zIf_f c3 E
    refine zg_aload_n X 0 rfl dX10_rank_11 ?_
    refine fg_X10_26 X hI ha0 dX10_rank_12 (fun v4 ev4 hv4 => ?_)
    replace E := zLet_s (zgr ev4) E
    refine zg_iload_n X 2 rfl dX10_rank_15 ?_
    refine zg_cVv (As := [.int p2]) (st := []) X hv4 rfl (by decide) rfl (t_X5_weigh l d L kd κ _ hI v4 hv4 p2 (by omega)) mk_X10_247 mc_X5_weigh mz_X5 mi_X5_weigh ml_X5_weigh (na := 1) ⟨md_X5.1, md_X5.2, by decide +kernel⟩ rfl ⟨by decide, by decide⟩ (Nat.le_of_ble_eq_true rfl) dX10_rank_16 (fun s5 hq => ?_)
    obtain ⟨hF, hS2, hI⟩ := hq
    replace E := zLet_s hF E
    have hS := hS.tr hS2 rfl rfl
    refine zg_aload_n X 0 rfl dX10_rank_19 ?_
    refine fg_X10_26 X hI ha0 dX10_rank_20 (fun v6 ev6 hv6 => ?_)
    replace E := zLet_s (zgr ev6) E
    refine zg_iload_n X 1 rfl dX10_rank_23 ?_
    refine zg_cVi (As := [.int p1]) (st := []) X hv6 rfl (by decide) rfl (t_X5_rankOf l d L kd κ _ hI v6 hv6 p1 (by omega)) mk_X10_253 mc_X5_rankOf mz_X5 mi_X5_rankOf ml_X5_rankOf (na := 1) ⟨md_X5.1, md_X5.2, by decide +kernel⟩ rfl ⟨by decide, by decide⟩ (Nat.le_of_ble_eq_true rfl) dX10_rank_24 (fun v7 s8 hq => ?_)
    obtain ⟨hF, hS2, hI⟩ := hq
    replace E := zLet2_s hF E
    have hS := hS.tr hS2 rfl rfl
    exact ret _ _ _ _ dX10_rank_27 rfl ⟨E.symm.trans hR, hS, (zi_weak hI)⟩
  · skip
    replace E := zIf_t c3 E
    refine zg_iconst X (-1) dX10_rank_9 (by decide) (fun v9 _ hv9 => ?_)
    replace E := zLet_s (zcst hv9 (by decide)) E
    exact ret _ _ _ _ dX10_rank_10 rfl ⟨E.symm.trans hR, hS, (zi_weak hI)⟩
set_option maxHeartbeats 4000000 in
set_option maxRecDepth 100000 in
theorem t_X10_vote (l : Launch) (d : zD2) (L : List Nat) (kd : Nat → Nat) (κ : Int) (σ : zS) (hI : zI κ 0 L kd σ) (a0 : Nat) (ha0 : zT L kd a0 10) (p1 : Int32) : zMi l yX10_vote (Cond.code yX10_vote cX10_vote 4 (some .int) :: zWL) 7 [.ref a0, .int p1] d L kd σ (fun v σ2 => (v, σ2) = F_X10_vote a0 p1 σ ∧ zSm [6, 20, 21, 30, 31, 32, 33, 34, 35, 36, 38, 53] [5] L kd σ σ2 ∧ (zI κ 0 L kd σ2)) := by
  refine zMi.of (own := RX10) (by decide +kernel) rfl rfl (Nat.le_of_ble_eq_true rfl) ?_
  intro p e s m args below meth c A Q X ret
  refine zg_lv (lv2 := [(0, .ref a0), (1, .int p1)]) rfl ?_
  obtain ⟨R, hR⟩ : ∃ R, R = F_X10_vote a0 p1 σ := ⟨_, rfl⟩
  have E := hR
  unfold F_X10_vote at E
  have hS : zSm [6, 20, 21, 30, 31, 32, 33, 34, 35, 36, 38, 53] [5] L kd σ σ := zSm.rf
  refine zg_iload_n X 1 rfl dX10_vote_0 ?_
  refine zg_iconst X 0 dX10_vote_1 (by decide) (fun v1 _ hv1 => ?_)
  replace E := zLet_s (zcst hv1 (by decide)) E
  refine zg_iconst X 1 dX10_vote_2 (by decide) (fun v2 _ hv2 => ?_)
  replace E := zLet_s (zcst hv2 (by decide)) E
  refine zg_cSi (As := [.int p1, .int v1, .int v2]) (st := []) X (t_X10_isWithin l d L kd _ p1 v1 v2 ) mk_X10_229 mc_X10_isWithin mz_X10 ms_X10_isWithin (na := 3) ⟨md_X10.1, md_X10.2, by decide +kernel⟩ rfl ⟨by decide, by decide⟩ (Nat.le_of_ble_eq_true rfl) dX10_vote_3 (fun v3 σ2 hq => ?_)
  obtain ⟨⟨hF, hv3⟩, rfl⟩ := hq
  replace E := zLet_s hF E
  refine zg_if_ne X 11 dX10_vote_6 (by decide) (fun c4 => ?_) (fun c4 => ?_)
  · skip
    replace E := zIf_f c4 E
    refine zg_aload_n X 0 rfl dX10_vote_11 ?_
    refine zg_cVv (As := []) (st := []) X ha0 rfl (by decide) rfl (t_X10_look l d L kd κ 0 _ hI a0 ha0 ) mk_X10_113 mc_X10_look mz_X10 mi_X10_look ml_X10_look (na := 0) ⟨md_X10.1, md_X10.2, by decide +kernel⟩ rfl ⟨by decide, by decide⟩ (Nat.le_of_ble_eq_true rfl) dX10_vote_12 (fun s5 hq => ?_)
    obtain ⟨hF, hS2, hI⟩ := hq
    replace E := zLet_s hF E
    have hS := hS.tr hS2 rfl rfl
    refine zg_aload_n X 0 rfl dX10_vote_15 ?_
    refine fg_X10_34 X hI ha0 dX10_vote_16 (fun v6 ev6 hv6 => ?_)
    replace E := zLet_s (zgr ev6) E
    refine zg_cVi (As := []) (st := []) X hv6 rfl (by decide) rfl (t_X6_sources l d L kd κ 1 _ hI v6 hv6 ) mk_X10_188 mc_X6_sources mz_X6 mi_X6_sources ml_X6_sources (na := 0) ⟨md_X6.1, md_X6.2, by decide +kernel⟩ rfl ⟨by decide, by decide⟩ (Nat.le_of_ble_eq_true rfl) dX10_vote_19 (fun v7 s8 hq => ?_)
    obtain ⟨hF, hS2, hI⟩ := hq
    replace E := zLet2_s hF E
    have hS := hS.tr hS2 rfl rfl
    refine zg_if_ne X 28 dX10_vote_22 (by decide) (fun c9 => ?_) (fun c9 => ?_)
    · skip
      replace E := zIf_f c9 E
      refine zg_aload_n X 0 rfl dX10_vote_28 ?_
      refine zg_cVv (As := []) (st := []) X ha0 rfl (by decide) rfl (t_X10_castVotes l d L kd κ _ hI a0 ha0 ) mk_X10_256 mc_X10_castVotes mz_X10 mi_X10_castVotes ml_X10_castVotes (na := 0) ⟨md_X10.1, md_X10.2, by decide +kernel⟩ rfl ⟨by decide, by decide⟩ (Nat.le_of_ble_eq_true rfl) dX10_vote_29 (fun s10 hq => ?_)
      obtain ⟨hF, hS2, hI⟩ := hq
      replace E := zLet_s hF E
      have hS := hS.tr hS2 rfl rfl
      refine zg_iconst X 0 dX10_vote_32 (by decide) (fun v11 _ hv11 => ?_)
      replace E := zLet_s (zcst hv11 (by decide)) E
      refine zg_istore_n X [(2, .int v11), (0, .ref a0), (1, .int p1)] dX10_vote_33 (by decide) rfl ?_
      refine zg_iconst X 1 dX10_vote_34 (by decide) (fun v12 _ hv12 => ?_)
      replace E := zLet_s (zcst hv12 (by decide)) E
      refine zg_istore_n X [(3, .int v12), (2, .int v11), (0, .ref a0), (1, .int p1)] dX10_vote_35 (by decide) rfl ?_
      have Lp15 : ∀ (nLp15 : Nat) (τ15 : zS) (x13 : Int32) (x14 : Int32), zI κ 1 L kd τ15 → zSm [6, 20, 21, 30, 31, 32, 33, 34, 35, 36, 38, 53] [5] L kd σ τ15 → R = F_X10_vote_36 a0 p1  nLp15 x13 x14 τ15 → 1 ≤ x13.toInt ∧ x13.toInt ≤ 3 → (3) - x13.toInt + 1 < (nLp15 : Int) → zG d L kd A 4 p l e (k2_rm 7 (100 * 7)) s m args below meth c Q τ15 36 [(3, .int x13), (2, .int x14), (0, .ref a0), (1, .int p1)] [] := by
        intro nLp15
        induction nLp15 with
        | zero => intro τ15 x13 x14 hI hS E  hxLp15 hm ; exact absurd hm (by omega)
        | succ nLp15 ihLp15 =>
          intro τ15 x13 x14 hI hS E  hxLp15 hmLp15 
          rw [F_X10_vote_36] at E
          refine zg_iload_n X 0 rfl dX10_vote_36 ?_
          refine zg_iconst X 3 dX10_vote_37 (by decide) (fun v16 _ hv16 => ?_)
          replace E := zLet_s (zcst hv16 (by decide)) E
          refine zg_icmp_ge X 62 dX10_vote_38 (by decide) (fun c17 => ?_) (fun c17 => ?_)
          · skip
            replace E := zIf_f (Int.not_lt.mpr c17) E
            refine zg_iload_n X 3 rfl dX10_vote_62 ?_
            refine zg_if_ne X 70 dX10_vote_63 (by decide) (fun c18 => ?_) (fun c18 => ?_)
            · skip
              replace E := zIf_f c18 E
              refine zg_aload_n X 2 rfl dX10_vote_70 ?_
              refine zg_iload_n X 1 rfl dX10_vote_71 ?_
              refine zg_cVi (As := [.int x14]) (st := []) X ha0 rfl (by decide) rfl (t_X10_votesFor l d L kd κ 1 _ hI a0 ha0 x14 ) mk_X10_259 mc_X10_votesFor mz_X10 mi_X10_votesFor ml_X10_votesFor (na := 1) ⟨md_X10.1, md_X10.2, by decide +kernel⟩ rfl ⟨by decide, by decide⟩ (Nat.le_of_ble_eq_true rfl) dX10_vote_72 (fun v19 s20 hq => ?_)
              obtain ⟨hF, hS2, hI⟩ := hq
              replace E := zLet2_s hF E
              have hS := hS.tr hS2 rfl rfl
              exact ret _ _ _ _ dX10_vote_75 rfl ⟨E.symm.trans hR, hS, (zi_weak hI)⟩
            · skip
              replace E := zIf_t c18 E
              refine zg_iload_n X 1 rfl dX10_vote_66 ?_
              refine zg_goto X 75 dX10_vote_67 (by decide) ?_
              exact ret _ _ _ _ dX10_vote_75 rfl ⟨E.symm.trans hR, hS, (zi_weak hI)⟩
          · skip
            replace E := zIf_t c17 E
            refine zg_aload_n X 2 rfl dX10_vote_41 ?_
            refine zg_iload_n X 0 rfl dX10_vote_42 ?_
            refine zg_cVi (As := [.int x13]) (st := []) X ha0 rfl (by decide) rfl (t_X10_votesFor l d L kd κ 1 _ hI a0 ha0 x13 ) mk_X10_259 mc_X10_votesFor mz_X10 mi_X10_votesFor ml_X10_votesFor (na := 1) ⟨md_X10.1, md_X10.2, by decide +kernel⟩ rfl ⟨by decide, by decide⟩ (Nat.le_of_ble_eq_true rfl) dX10_vote_43 (fun v21 s22 hq => ?_)
            obtain ⟨hF, hS2, hI⟩ := hq
            replace E := zLet2_s hF E
            have hS := hS.tr hS2 rfl rfl
            refine zg_aload_n X 2 rfl dX10_vote_46 ?_
            refine zg_iload_n X 1 rfl dX10_vote_47 ?_
            refine zg_cVi (As := [.int x14]) (st := [.int v21]) X ha0 rfl (by decide) rfl (t_X10_votesFor l d L kd κ 1 _ hI a0 ha0 x14 ) mk_X10_259 mc_X10_votesFor mz_X10 mi_X10_votesFor ml_X10_votesFor (na := 1) ⟨md_X10.1, md_X10.2, by decide +kernel⟩ rfl ⟨by decide, by decide⟩ (Nat.le_of_ble_eq_true rfl) dX10_vote_48 (fun v23 s24 hq => ?_)
            obtain ⟨hF, hS2, hI⟩ := hq
            replace E := zLet2_s hF E
            have hS := hS.tr hS2 rfl rfl
            have zv21_z25 := zb_rng v21
            have zv23_z26 := zb_rng v23
            refine zg_icmp_le X 56 dX10_vote_51 (by decide) (fun c27 => ?_) (fun c27 => ?_)
            · skip
              replace E := zIf_f (Int.not_lt.mpr c27) E
              refine zg_iinc X 1 (fun v28 => [(3, .int v28), (2, .int x14), (0, .ref a0), (1, .int p1)]) 0 dX10_vote_56 rfl (by decide) (by decide) (by omega) (by omega) (fun _ => rfl) (fun v28 ev28 hv28 => ?_)
              replace E := zLet_s (zinc ev28 (by decide)) E
              refine zg_goto X 36 dX10_vote_59 (by decide) ?_
              refine zg_sub [0, 1, 2, 3] rfl ?_
              exact ihLp15 _ v28 x14 hI hS E  (by omega) (by omega) 
            · skip
              replace E := zIf_t c27 E
              refine zg_iload_n X 0 rfl dX10_vote_54 ?_
              refine zg_istore_n X [(2, .int x13), (3, .int x13), (0, .ref a0), (1, .int p1)] dX10_vote_55 (by decide) rfl ?_
              refine zg_iinc X 1 (fun v29 => [(3, .int v29), (2, .int x13), (0, .ref a0), (1, .int p1)]) 1 dX10_vote_56 rfl (by decide) (by decide) (by omega) (by omega) (fun _ => rfl) (fun v29 ev29 hv29 => ?_)
              replace E := zLet_s (zinc ev29 (by decide)) E
              refine zg_goto X 36 dX10_vote_59 (by decide) ?_
              refine zg_sub [0, 1, 2, 3] rfl ?_
              exact ihLp15 _ v29 x13 hI hS E  (by omega) (by omega) 
      refine zg_sub [0, 1, 2, 3] rfl ?_
      exact Lp15 10000 _ v12 v11 hI hS E  (by omega) (by omega) 
    · skip
      replace E := zIf_t c9 E
      refine zg_bipush X (-2) dX10_vote_25 (by decide) (fun v30 _ hv30 => ?_)
      replace E := zLet_s (zcst hv30 (by decide)) E
      exact ret _ _ _ _ dX10_vote_27 rfl ⟨E.symm.trans hR, hS, (zi_weak hI)⟩
  · skip
    replace E := zIf_t c4 E
    refine zg_iconst X (-1) dX10_vote_9 (by decide) (fun v31 _ hv31 => ?_)
    replace E := zLet_s (zcst hv31 (by decide)) E
    exact ret _ _ _ _ dX10_vote_10 rfl ⟨E.symm.trans hR, hS, hI⟩
set_option maxHeartbeats 4000000 in
set_option maxRecDepth 100000 in
theorem t_X10_richest (l : Launch) (d : zD2) (L : List Nat) (kd : Nat → Nat) (κ : Int) (σ : zS) (hI : zI κ 0 L kd σ) (a0 : Nat) (ha0 : zT L kd a0 10) (p1 : Int32) : zMi l yX10_richest (Cond.code yX10_richest cX10_richest 4 (some .int) :: zWL) 1 [.ref a0, .int p1] d L kd σ (fun v σ2 => (v, σ2) = F_X10_richest a0 p1 σ ∧ zSm [] [] L kd σ σ2 ∧ (zI κ 0 L kd σ2)) := by
  refine zMi.of (own := RX10) (by decide +kernel) rfl rfl (Nat.le_of_ble_eq_true rfl) ?_
  intro p e s m args below meth c A Q X ret
  refine zg_lv (lv2 := [(0, .ref a0), (1, .int p1)]) rfl ?_
  obtain ⟨R, hR⟩ : ∃ R, R = F_X10_richest a0 p1 σ := ⟨_, rfl⟩
  have E := hR
  unfold F_X10_richest at E
  have hS : zSm [] [] L kd σ σ := zSm.rf
  refine zg_iload_n X 1 rfl dX10_richest_0 ?_
  refine zg_iconst X 0 dX10_richest_1 (by decide) (fun v1 _ hv1 => ?_)
  replace E := zLet_s (zcst hv1 (by decide)) E
  refine zg_iconst X 1 dX10_richest_2 (by decide) (fun v2 _ hv2 => ?_)
  replace E := zLet_s (zcst hv2 (by decide)) E
  refine zg_cSi (As := [.int p1, .int v1, .int v2]) (st := []) X (t_X10_isWithin l d L kd _ p1 v1 v2 ) mk_X10_229 mc_X10_isWithin mz_X10 ms_X10_isWithin (na := 3) ⟨md_X10.1, md_X10.2, by decide +kernel⟩ rfl ⟨by decide, by decide⟩ (Nat.le_of_ble_eq_true rfl) dX10_richest_3 (fun v3 σ2 hq => ?_)
  obtain ⟨⟨hF, hv3⟩, rfl⟩ := hq
  replace E := zLet_s hF E
  refine zg_if_ne X 11 dX10_richest_6 (by decide) (fun c4 => ?_) (fun c4 => ?_)
  · skip
    replace E := zIf_f c4 E
    refine zg_iconst X 0 dX10_richest_11 (by decide) (fun v5 _ hv5 => ?_)
    replace E := zLet_s (zcst hv5 (by decide)) E
    refine zg_istore_n X [(2, .int v5), (0, .ref a0), (1, .int p1)] dX10_richest_12 (by decide) rfl ?_
    refine zg_iconst X 1 dX10_richest_13 (by decide) (fun v6 _ hv6 => ?_)
    replace E := zLet_s (zcst hv6 (by decide)) E
    refine zg_istore_n X [(3, .int v6), (2, .int v5), (0, .ref a0), (1, .int p1)] dX10_richest_14 (by decide) rfl ?_
    have Lp9 : ∀ (nLp9 : Nat) (τ9 : zS) (x7 : Int32) (x8 : Int32), zI κ 0 L kd τ9 → zSm [] [] L kd σ τ9 → R = F_X10_richest_15 a0 p1  nLp9 x7 x8 τ9 → 0 ≤ x8.toInt ∧ x8.toInt ≤ 11 ∧ 1 ≤ x7.toInt ∧ x7.toInt ≤ 12 → (12) - x7.toInt + 1 < (nLp9 : Int) → zG d L kd A 4 p l e (k2_rm 1 (100 * 1)) s m args below meth c Q τ9 15 [(3, .int x7), (2, .int x8), (0, .ref a0), (1, .int p1)] [] := by
      intro nLp9
      induction nLp9 with
      | zero => intro τ9 x7 x8 hI hS E  hxLp9 hm ; exact absurd hm (by omega)
      | succ nLp9 ihLp9 =>
        intro τ9 x7 x8 hI hS E  hxLp9 hmLp9 
        rw [F_X10_richest_15] at E
        refine zg_iload_n X 0 rfl dX10_richest_15 ?_
        refine zg_aload_n X 2 rfl dX10_richest_16 ?_
        refine fg_X10_70 X hI ha0 dX10_richest_17 (fun v10 ev10 hv10 => ?_)
        replace E := zLet_s (zgr ev10) E
        refine fg_X10_175 X hI hv10 dX10_richest_20 (fun v11 ev11 hv11 => ?_)
        replace E := zLet_s ev11 E
        refine zg_icmp_ge X 55 dX10_richest_23 (by decide) (fun c12 => ?_) (fun c12 => ?_)
        · skip
          replace E := zIf_f (Int.not_lt.mpr c12) E
          refine zg_aload_n X 2 rfl dX10_richest_55 ?_
          refine fg_X10_52 X hI ha0 dX10_richest_56 (fun v13 ev13 hv13 => ?_)
          replace E := zLet_s (zgr ev13) E
          refine fg_X10_152 X hI hv13 dX10_richest_59 (fun v14 ev14 hv14 => ?_)
          replace E := zLet_s (zgr ev14) E
          refine zg_iload_n X 1 rfl dX10_richest_62 ?_
          refine ag_24 X hI hv14 (by omega) (by omega) dX10_richest_63 (fun v15 ev15 _ => ?_)
          replace E := zLet_s ev15 E
          refine zg_if_ne X 70 dX10_richest_64 (by decide) (fun c16 => ?_) (fun c16 => ?_)
          · skip
            replace E := zIf_f c16 E
            refine zg_iload_n X 3 rfl dX10_richest_70 ?_
            refine zg_if_ne X 78 dX10_richest_71 (by decide) (fun c17 => ?_) (fun c17 => ?_)
            · skip
              replace E := zIf_f c17 E
              refine zg_aload_n X 2 rfl dX10_richest_78 ?_
              refine fg_X10_52 X hI ha0 dX10_richest_79 (fun v18 ev18 hv18 => ?_)
              replace E := zLet_s (zgr ev18) E
              refine fg_X10_152 X hI hv18 dX10_richest_82 (fun v19 ev19 hv19 => ?_)
              replace E := zLet_s (zgr ev19) E
              refine zg_iload_n X 1 rfl dX10_richest_85 ?_
              refine ag_24 X hI hv19 (by omega) (by omega) dX10_richest_86 (fun v20 ev20 _ => ?_)
              replace E := zLet_s ev20 E
              exact ret _ _ _ _ dX10_richest_87 rfl ⟨E.symm.trans hR, hS, hI⟩
            · skip
              replace E := zIf_t c17 E
              refine zg_iload_n X 1 rfl dX10_richest_74 ?_
              refine zg_goto X 87 dX10_richest_75 (by decide) ?_
              exact ret _ _ _ _ dX10_richest_87 rfl ⟨E.symm.trans hR, hS, hI⟩
          · skip
            replace E := zIf_t c16 E
            refine zg_bipush X (-2) dX10_richest_67 (by decide) (fun v21 _ hv21 => ?_)
            replace E := zLet_s (zcst hv21 (by decide)) E
            exact ret _ _ _ _ dX10_richest_69 rfl ⟨E.symm.trans hR, hS, hI⟩
        · skip
          replace E := zIf_t c12 E
          refine zg_aload_n X 2 rfl dX10_richest_26 ?_
          refine fg_X10_52 X hI ha0 dX10_richest_27 (fun v22 ev22 hv22 => ?_)
          replace E := zLet_s (zgr ev22) E
          refine fg_X10_152 X hI hv22 dX10_richest_30 (fun v23 ev23 hv23 => ?_)
          replace E := zLet_s (zgr ev23) E
          refine zg_iload_n X 0 rfl dX10_richest_33 ?_
          refine ag_24 X hI hv23 (by omega) (by omega) dX10_richest_34 (fun v24 ev24 _ => ?_)
          replace E := zLet_s ev24 E
          refine zg_aload_n X 2 rfl dX10_richest_35 ?_
          refine fg_X10_52 X hI ha0 dX10_richest_36 (fun v25 ev25 hv25 => ?_)
          replace E := zLet_s (zgr ev25) E
          refine fg_X10_152 X hI hv25 dX10_richest_39 (fun v26 ev26 hv26 => ?_)
          replace E := zLet_s (zgr ev26) E
          refine zg_iload_n X 1 rfl dX10_richest_42 ?_
          refine ag_24 X hI hv26 (by omega) (by omega) dX10_richest_43 (fun v27 ev27 _ => ?_)
          replace E := zLet_s ev27 E
          have zv24_z28 := zb_rng v24
          have zv27_z29 := zb_rng v27
          refine zg_icmp_le X 49 dX10_richest_44 (by decide) (fun c30 => ?_) (fun c30 => ?_)
          · skip
            replace E := zIf_f (Int.not_lt.mpr c30) E
            refine zg_iinc X 1 (fun v31 => [(3, .int v31), (2, .int x8), (0, .ref a0), (1, .int p1)]) 0 dX10_richest_49 rfl (by decide) (by decide) (by omega) (by omega) (fun _ => rfl) (fun v31 ev31 hv31 => ?_)
            replace E := zLet_s (zinc ev31 (by decide)) E
            refine zg_goto X 15 dX10_richest_52 (by decide) ?_
            refine zg_sub [0, 1, 2, 3] rfl ?_
            exact ihLp9 _ v31 x8 hI hS E  (by omega) (by omega) 
          · skip
            replace E := zIf_t c30 E
            refine zg_iload_n X 0 rfl dX10_richest_47 ?_
            refine zg_istore_n X [(2, .int x7), (3, .int x7), (0, .ref a0), (1, .int p1)] dX10_richest_48 (by decide) rfl ?_
            refine zg_iinc X 1 (fun v32 => [(3, .int v32), (2, .int x7), (0, .ref a0), (1, .int p1)]) 1 dX10_richest_49 rfl (by decide) (by decide) (by omega) (by omega) (fun _ => rfl) (fun v32 ev32 hv32 => ?_)
            replace E := zLet_s (zinc ev32 (by decide)) E
            refine zg_goto X 15 dX10_richest_52 (by decide) ?_
            refine zg_sub [0, 1, 2, 3] rfl ?_
            exact ihLp9 _ v32 x7 hI hS E  (by omega) (by omega) 
    refine zg_sub [0, 1, 2, 3] rfl ?_
    exact Lp9 10000 _ v6 v5 hI hS E  (by omega) (by omega) 
  · skip
    replace E := zIf_t c4 E
    refine zg_iconst X (-1) dX10_richest_9 (by decide) (fun v33 _ hv33 => ?_)
    replace E := zLet_s (zcst hv33 (by decide)) E
    exact ret _ _ _ _ dX10_richest_10 rfl ⟨E.symm.trans hR, hS, hI⟩
set_option maxHeartbeats 4000000 in
set_option maxRecDepth 100000 in
theorem t_X10_turnFor (l : Launch) (d : zD2) (L : List Nat) (kd : Nat → Nat) (κ : Int) (σ : zS) (hI : zI κ 0 L kd σ) (a0 : Nat) (ha0 : zT L kd a0 10) (p1 : Int32) (p2 : Int32) : zMi l yX10_turnFor (Cond.code yX10_turnFor cX10_turnFor 5 (some .int) :: zWL) 7 [.ref a0, .int p1, .int p2] d L kd σ (fun v σ2 => (v, σ2) = F_X10_turnFor a0 p1 p2 σ ∧ zSm [1, 6, 20, 21, 22, 23, 24, 30, 31, 32, 33, 34, 35, 36, 38] [5] L kd σ σ2 ∧ (zI κ 0 L kd σ2)) := by
  refine zMi.of (own := RX10) (by decide +kernel) rfl rfl (Nat.le_of_ble_eq_true rfl) ?_
  intro p e s m args below meth c A Q X ret
  refine zg_lv (lv2 := [(0, .ref a0), (1, .int p1), (2, .int p2)]) rfl ?_
  obtain ⟨R, hR⟩ : ∃ R, R = F_X10_turnFor a0 p1 p2 σ := ⟨_, rfl⟩
  have E := hR
  unfold F_X10_turnFor at E
  have hS : zSm [1, 6, 20, 21, 22, 23, 24, 30, 31, 32, 33, 34, 35, 36, 38] [5] L kd σ σ := zSm.rf
  refine zg_aload_n X 0 rfl dX10_turnFor_0 ?_
  refine zg_iload_n X 1 rfl dX10_turnFor_1 ?_
  refine zg_iload_n X 2 rfl dX10_turnFor_2 ?_
  refine zg_cVi (As := [.int p1, .int p2]) (st := []) X ha0 rfl (by decide) rfl (t_X10_isContest l d L kd κ 0 _ hI a0 ha0 p1 p2 ) mk_X10_162 mc_X10_isContest mz_X10 mi_X10_isContest ml_X10_isContest (na := 2) ⟨md_X10.1, md_X10.2, by decide +kernel⟩ rfl ⟨by decide, by decide⟩ (Nat.le_of_ble_eq_true rfl) dX10_turnFor_3 (fun v1 s2 hq => ?_)
  obtain ⟨hF, hS2, hI⟩ := hq
  replace E := zLet2_s hF E
  have hS := hS.tr hS2 rfl rfl
  obtain ⟨hv1, hI⟩ := hI
  refine zg_if_ne X 11 dX10_turnFor_6 (by decide) (fun c3 => ?_) (fun c3 => ?_)
  · skip
    replace E := zIf_f c3 E
    refine zg_iconst X 1 dX10_turnFor_11 (by decide) (fun v4 _ hv4 => ?_)
    replace E := zLet_s (zcst hv4 (by decide)) E
    refine zg_istore_n X [(3, .int v4), (0, .ref a0), (1, .int p1), (2, .int p2)] dX10_turnFor_12 (by decide) rfl ?_
    have Lp6 : ∀ (nLp6 : Nat) (τ6 : zS) (x5 : Int32), zI κ 1 L kd τ6 → zSm [1, 6, 20, 21, 22, 23, 24, 30, 31, 32, 33, 34, 35, 36, 38] [5] L kd σ τ6 → R = F_X10_turnFor_13 a0 p1 p2  nLp6 x5 τ6 → 1 ≤ x5.toInt ∧ x5.toInt ≤ 12 → (12) - x5.toInt + 1 < (nLp6 : Int) → zG d L kd A 5 p l e (k2_rm 7 (100 * 7)) s m args below meth c Q τ6 13 [(3, .int x5), (0, .ref a0), (1, .int p1), (2, .int p2)] [] := by
      intro nLp6
      induction nLp6 with
      | zero => intro τ6 x5 hI hS E  hxLp6 hm ; exact absurd hm (by omega)
      | succ nLp6 ihLp6 =>
        intro τ6 x5 hI hS E  hxLp6 hmLp6 
        rw [F_X10_turnFor_13] at E
        refine zg_iload_n X 0 rfl dX10_turnFor_13 ?_
        refine zg_aload_n X 1 rfl dX10_turnFor_14 ?_
        refine fg_X10_70 X hI ha0 dX10_turnFor_15 (fun v7 ev7 hv7 => ?_)
        replace E := zLet_s (zgr ev7) E
        refine fg_X10_175 X hI hv7 dX10_turnFor_18 (fun v8 ev8 hv8 => ?_)
        replace E := zLet_s ev8 E
        refine zg_icmp_ge X 86 dX10_turnFor_21 (by decide) (fun c9 => ?_) (fun c9 => ?_)
        · skip
          replace E := zIf_f (Int.not_lt.mpr c9) E
          refine zg_bipush X (-2) dX10_turnFor_86 (by decide) (fun v10 _ hv10 => ?_)
          replace E := zLet_s (zcst hv10 (by decide)) E
          exact ret _ _ _ _ dX10_turnFor_88 rfl ⟨E.symm.trans hR, hS, (zi_weak hI)⟩
        · skip
          replace E := zIf_t c9 E
          refine zg_iconst X 0 dX10_turnFor_24 (by decide) (fun v11 _ hv11 => ?_)
          replace E := zLet_s (zcst hv11 (by decide)) E
          refine zg_istore X [(4, .int v11), (3, .int x5), (0, .ref a0), (1, .int p1), (2, .int p2)] dX10_turnFor_25 (by decide) rfl ?_
          have Lp13 : ∀ (nLp13 : Nat) (τ13 : zS) (x12 : Int32), zI κ 1 L kd τ13 → zSm [1, 6, 20, 21, 22, 23, 24, 30, 31, 32, 33, 34, 35, 36, 38] [5] L kd σ τ13 → R = F_X10_turnFor_27 x5 a0 p1 p2 (F_X10_turnFor_13 a0 p1 p2  nLp6) nLp13 x12 τ13 → 0 ≤ x12.toInt ∧ x12.toInt ≤ 12 → (12) - x12.toInt + 1 < (nLp13 : Int) → zG d L kd A 5 p l e (k2_rm 7 (100 * 7)) s m args below meth c Q τ13 27 [(4, .int x12), (3, .int x5), (0, .ref a0), (1, .int p1), (2, .int p2)] [] := by
            intro nLp13
            induction nLp13 with
            | zero => intro τ13 x12 hI hS E  hxLp13 hm ; exact absurd hm (by omega)
            | succ nLp13 ihLp13 =>
              intro τ13 x12 hI hS E  hxLp13 hmLp13 
              rw [F_X10_turnFor_27] at E
              refine zg_iload X 0 rfl dX10_turnFor_27 ?_
              refine zg_aload_n X 2 rfl dX10_turnFor_29 ?_
              refine fg_X10_70 X hI ha0 dX10_turnFor_30 (fun v14 ev14 hv14 => ?_)
              replace E := zLet_s (zgr ev14) E
              refine fg_X10_175 X hI hv14 dX10_turnFor_33 (fun v15 ev15 hv15 => ?_)
              replace E := zLet_s ev15 E
              refine zg_icmp_ge X 80 dX10_turnFor_36 (by decide) (fun c16 => ?_) (fun c16 => ?_)
              · skip
                replace E := zIf_f (Int.not_lt.mpr c16) E
                refine zg_iinc X 1 (fun v17 => [(3, .int v17), (4, .int x12), (0, .ref a0), (1, .int p1), (2, .int p2)]) 1 dX10_turnFor_80 rfl (by decide) (by decide) (by omega) (by omega) (fun _ => rfl) (fun v17 ev17 hv17 => ?_)
                replace E := zLet_s (zinc ev17 (by decide)) E
                refine zg_goto X 13 dX10_turnFor_83 (by decide) ?_
                refine zg_sub [0, 2, 3, 4] rfl ?_
                exact ihLp6 _ v17 hI hS E  (by omega) (by omega) 
              · skip
                replace E := zIf_t c16 E
                refine zg_iload_n X 1 rfl dX10_turnFor_39 ?_
                refine zg_iload_n X 3 rfl dX10_turnFor_40 ?_
                refine zg_icmp_eq X 74 dX10_turnFor_41 (by decide) (fun c18 => ?_) (fun c18 => ?_)
                · skip
                  replace E := zIf_t c18 E
                  refine zg_iinc X 1 (fun v19 => [(4, .int v19), (3, .int x5), (0, .ref a0), (1, .int p1), (2, .int p2)]) 0 dX10_turnFor_74 rfl (by decide) (by decide) (by omega) (by omega) (fun _ => rfl) (fun v19 ev19 hv19 => ?_)
                  replace E := zLet_s (zinc ev19 (by decide)) E
                  refine zg_goto X 27 dX10_turnFor_77 (by decide) ?_
                  refine zg_sub [0, 1, 2, 3, 4] rfl ?_
                  exact ihLp13 _ v19 hI hS E  (by omega) (by omega) 
                · skip
                  replace E := zIf_f c18 E
                  refine zg_aload_n X 2 rfl dX10_turnFor_44 ?_
                  refine zg_iload_n X 1 rfl dX10_turnFor_45 ?_
                  refine zg_iload X 0 rfl dX10_turnFor_46 ?_
                  refine zg_cVi (As := [.int x5, .int x12]) (st := []) X ha0 rfl (by decide) rfl (t_X10_isTurn l d L kd κ 1 _ hI a0 ha0 x5 x12 ) mk_X10_223 mc_X10_isTurn mz_X10 mi_X10_isTurn ml_X10_isTurn (na := 2) ⟨md_X10.1, md_X10.2, by decide +kernel⟩ rfl ⟨by decide, by decide⟩ (Nat.le_of_ble_eq_true rfl) dX10_turnFor_48 (fun v20 s21 hq => ?_)
                  obtain ⟨hF, hS2, hI⟩ := hq
                  replace E := zLet2_s hF E
                  have hS := hS.tr hS2 rfl rfl
                  obtain ⟨hv20, hI⟩ := hI
                  refine zg_if_eq X 74 dX10_turnFor_51 (by decide) (fun c22 => ?_) (fun c22 => ?_)
                  · skip
                    replace E := zIf_t c22 E
                    refine zg_iinc X 1 (fun v23 => [(4, .int v23), (3, .int x5), (0, .ref a0), (1, .int p1), (2, .int p2)]) 0 dX10_turnFor_74 rfl (by decide) (by decide) (by omega) (by omega) (fun _ => rfl) (fun v23 ev23 hv23 => ?_)
                    replace E := zLet_s (zinc ev23 (by decide)) E
                    refine zg_goto X 27 dX10_turnFor_77 (by decide) ?_
                    refine zg_sub [0, 1, 2, 3, 4] rfl ?_
                    exact ihLp13 _ v23 hI hS E  (by omega) (by omega) 
                  · skip
                    replace E := zIf_f c22 E
                    refine zg_aload_n X 2 rfl dX10_turnFor_54 ?_
                    refine zg_iload_n X 3 rfl dX10_turnFor_55 ?_
                    refine zg_iload_n X 4 rfl dX10_turnFor_56 ?_
                    refine zg_iload_n X 1 rfl dX10_turnFor_57 ?_
                    refine zg_iload X 0 rfl dX10_turnFor_58 ?_
                    refine zg_cVi (As := [.int p1, .int p2, .int x5, .int x12]) (st := []) X ha0 rfl (by decide) rfl (t_X10_winsTurned l d L kd κ 1 _ hI a0 ha0 p1 p2 x5 x12 (by omega) (by omega) (by omega)) mk_X10_267 mc_X10_winsTurned mz_X10 mi_X10_winsTurned ml_X10_winsTurned (na := 4) ⟨md_X10.1, md_X10.2, by decide +kernel⟩ rfl ⟨by decide, by decide⟩ (Nat.le_of_ble_eq_true rfl) dX10_turnFor_60 (fun v24 s25 hq => ?_)
                    obtain ⟨hF, hS2, hI⟩ := hq
                    replace E := zLet2_s hF E
                    have hS := hS.tr hS2 rfl rfl
                    obtain ⟨hv24, hI⟩ := hI
                    refine zg_if_eq X 74 dX10_turnFor_63 (by decide) (fun c26 => ?_) (fun c26 => ?_)
                    · skip
                      replace E := zIf_t c26 E
                      refine zg_iinc X 1 (fun v27 => [(4, .int v27), (3, .int x5), (0, .ref a0), (1, .int p1), (2, .int p2)]) 0 dX10_turnFor_74 rfl (by decide) (by decide) (by omega) (by omega) (fun _ => rfl) (fun v27 ev27 hv27 => ?_)
                      replace E := zLet_s (zinc ev27 (by decide)) E
                      refine zg_goto X 27 dX10_turnFor_77 (by decide) ?_
                      refine zg_sub [0, 1, 2, 3, 4] rfl ?_
                      exact ihLp13 _ v27 hI hS E  (by omega) (by omega) 
                    · skip
                      replace E := zIf_f c26 E
                      refine zg_bipush X 100 dX10_turnFor_66 (by decide) (fun v28 _ hv28 => ?_)
                      replace E := zLet_s (zcst hv28 (by decide)) E
                      refine zg_iload_n X 1 rfl dX10_turnFor_68 ?_
                      refine zg_imulW X dX10_turnFor_69 (fun v29 ev29 => ?_)
                      replace E := zLet_s ev29 E
                      refine zg_iload X 0 rfl dX10_turnFor_70 ?_
                      refine zg_iaddW X dX10_turnFor_72 (fun v30 ev30 => ?_)
                      replace E := zLet_s ev30 E
                      exact ret _ _ _ _ dX10_turnFor_73 rfl ⟨E.symm.trans hR, hS, (zi_weak hI)⟩
          refine zg_sub [0, 1, 2, 3, 4] rfl ?_
          exact Lp13 10000 _ v11 hI hS E  (by omega) (by omega) 
    refine zg_sub [0, 1, 2, 3] rfl ?_
    exact Lp6 10000 _ v4 hI hS E  (by omega) (by omega) 
  · skip
    replace E := zIf_t c3 E
    refine zg_iconst X (-1) dX10_turnFor_9 (by decide) (fun v31 _ hv31 => ?_)
    replace E := zLet_s (zcst hv31 (by decide)) E
    exact ret _ _ _ _ dX10_turnFor_10 rfl ⟨E.symm.trans hR, hS, (zi_weak hI)⟩
set_option maxHeartbeats 4000000 in
set_option maxRecDepth 100000 in
theorem t_X10_damFor (l : Launch) (d : zD2) (L : List Nat) (kd : Nat → Nat) (κ : Int) (σ : zS) (hI : zI κ 0 L kd σ) (a0 : Nat) (ha0 : zT L kd a0 10) (p1 : Int32) (p2 : Int32) : zMi l yX10_damFor (Cond.code yX10_damFor cX10_damFor 4 (some .int) :: zWL) 7 [.ref a0, .int p1, .int p2] d L kd σ (fun v σ2 => (v, σ2) = F_X10_damFor a0 p1 p2 σ ∧ zSm [6, 20, 21, 30, 31, 32, 33, 34, 35, 36, 38] [5] L kd σ σ2 ∧ (zI κ 0 L kd σ2)) := by
  refine zMi.of (own := RX10) (by decide +kernel) rfl rfl (Nat.le_of_ble_eq_true rfl) ?_
  intro p e s m args below meth c A Q X ret
  refine zg_lv (lv2 := [(0, .ref a0), (1, .int p1), (2, .int p2)]) rfl ?_
  obtain ⟨R, hR⟩ : ∃ R, R = F_X10_damFor a0 p1 p2 σ := ⟨_, rfl⟩
  have E := hR
  unfold F_X10_damFor at E
  have hS : zSm [6, 20, 21, 30, 31, 32, 33, 34, 35, 36, 38] [5] L kd σ σ := zSm.rf
  refine zg_aload_n X 0 rfl dX10_damFor_0 ?_
  refine zg_iload_n X 1 rfl dX10_damFor_1 ?_
  refine zg_iload_n X 2 rfl dX10_damFor_2 ?_
  refine zg_cVi (As := [.int p1, .int p2]) (st := []) X ha0 rfl (by decide) rfl (t_X10_isContest l d L kd κ 0 _ hI a0 ha0 p1 p2 ) mk_X10_162 mc_X10_isContest mz_X10 mi_X10_isContest ml_X10_isContest (na := 2) ⟨md_X10.1, md_X10.2, by decide +kernel⟩ rfl ⟨by decide, by decide⟩ (Nat.le_of_ble_eq_true rfl) dX10_damFor_3 (fun v1 s2 hq => ?_)
  obtain ⟨hF, hS2, hI⟩ := hq
  replace E := zLet2_s hF E
  have hS := hS.tr hS2 rfl rfl
  obtain ⟨hv1, hI⟩ := hI
  refine zg_if_ne X 11 dX10_damFor_6 (by decide) (fun c3 => ?_) (fun c3 => ?_)
  · skip
    replace E := zIf_f c3 E
    refine zg_iconst X 1 dX10_damFor_11 (by decide) (fun v4 _ hv4 => ?_)
    replace E := zLet_s (zcst hv4 (by decide)) E
    refine zg_istore_n X [(3, .int v4), (0, .ref a0), (1, .int p1), (2, .int p2)] dX10_damFor_12 (by decide) rfl ?_
    have Lp6 : ∀ (nLp6 : Nat) (τ6 : zS) (x5 : Int32), zI κ 1 L kd τ6 → zSm [6, 20, 21, 30, 31, 32, 33, 34, 35, 36, 38] [5] L kd σ τ6 → R = F_X10_damFor_13 a0 p1 p2  nLp6 x5 τ6 → 1 ≤ x5.toInt ∧ x5.toInt ≤ 12 → (12) - x5.toInt + 1 < (nLp6 : Int) → zG d L kd A 4 p l e (k2_rm 7 (100 * 7)) s m args below meth c Q τ6 13 [(3, .int x5), (0, .ref a0), (1, .int p1), (2, .int p2)] [] := by
      intro nLp6
      induction nLp6 with
      | zero => intro τ6 x5 hI hS E  hxLp6 hm ; exact absurd hm (by omega)
      | succ nLp6 ihLp6 =>
        intro τ6 x5 hI hS E  hxLp6 hmLp6 
        rw [F_X10_damFor_13] at E
        refine zg_iload_n X 0 rfl dX10_damFor_13 ?_
        refine zg_aload_n X 1 rfl dX10_damFor_14 ?_
        refine fg_X10_70 X hI ha0 dX10_damFor_15 (fun v7 ev7 hv7 => ?_)
        replace E := zLet_s (zgr ev7) E
        refine fg_X10_175 X hI hv7 dX10_damFor_18 (fun v8 ev8 hv8 => ?_)
        replace E := zLet_s ev8 E
        refine zg_icmp_ge X 77 dX10_damFor_21 (by decide) (fun c9 => ?_) (fun c9 => ?_)
        · skip
          replace E := zIf_f (Int.not_lt.mpr c9) E
          refine zg_bipush X (-2) dX10_damFor_77 (by decide) (fun v10 _ hv10 => ?_)
          replace E := zLet_s (zcst hv10 (by decide)) E
          exact ret _ _ _ _ dX10_damFor_79 rfl ⟨E.symm.trans hR, hS, (zi_weak hI)⟩
        · skip
          replace E := zIf_t c9 E
          refine zg_aload_n X 1 rfl dX10_damFor_24 ?_
          refine fg_X10_52 X hI ha0 dX10_damFor_25 (fun v11 ev11 hv11 => ?_)
          replace E := zLet_s (zgr ev11) E
          refine fg_X10_128 X hI hv11 dX10_damFor_28 (fun v12 ev12 _ => ?_)
          replace E := zLet_s ev12 E
          refine zg_iload_n X 0 rfl dX10_damFor_31 ?_
          refine zg_cSi (As := [.int v12, .int x5]) (st := []) X (t_X10_has l d L kd _ v12 x5 ) mk_X10_131 mc_X10_has mz_X10 ms_X10_has (na := 2) ⟨md_X10.1, md_X10.2, by decide +kernel⟩ rfl ⟨by decide, by decide⟩ (Nat.le_of_ble_eq_true rfl) dX10_damFor_32 (fun v13 σ2 hq => ?_)
          obtain ⟨⟨hF, hv13⟩, rfl⟩ := hq
          replace E := zLet_s hF E
          refine zg_if_ne X 71 dX10_damFor_35 (by decide) (fun c14 => ?_) (fun c14 => ?_)
          · skip
            replace E := zIf_f c14 E
            refine zg_iinc X 1 (fun v15 => [(3, .int v15), (0, .ref a0), (1, .int p1), (2, .int p2)]) 0 dX10_damFor_71 rfl (by decide) (by decide) (by omega) (by omega) (fun _ => rfl) (fun v15 ev15 hv15 => ?_)
            replace E := zLet_s (zinc ev15 (by decide)) E
            refine zg_goto X 13 dX10_damFor_74 (by decide) ?_
            refine zg_sub [0, 1, 2, 3] rfl ?_
            exact ihLp6 _ v15 hI hS E  (by omega) (by omega) 
          · skip
            replace E := zIf_t c14 E
            refine zg_aload_n X 1 rfl dX10_damFor_38 ?_
            refine fg_X10_26 X hI ha0 dX10_damFor_39 (fun v16 ev16 hv16 => ?_)
            replace E := zLet_s (zgr ev16) E
            refine zg_aload_n X 1 rfl dX10_damFor_42 ?_
            refine fg_X10_52 X hI ha0 dX10_damFor_43 (fun v17 ev17 hv17 => ?_)
            replace E := zLet_s (zgr ev17) E
            refine fg_X10_128 X hI hv17 dX10_damFor_46 (fun v18 ev18 _ => ?_)
            replace E := zLet_s ev18 E
            refine zg_iload_n X 0 rfl dX10_damFor_49 ?_
            refine zg_cSi (As := [.int x5]) (st := [.int v18, .ref v16]) X (t_X10_bit l d L kd _ x5 ) mk_X10_216 mc_X10_bit mz_X10 ms_X10_bit (na := 1) ⟨md_X10.1, md_X10.2, by decide +kernel⟩ rfl ⟨by decide, by decide⟩ (Nat.le_of_ble_eq_true rfl) dX10_damFor_50 (fun v19 σ2 hq => ?_)
            obtain ⟨⟨hF, hv19⟩, rfl⟩ := hq
            replace E := zLet_s hF E
            refine zg_iorW X dX10_damFor_53 (fun v20 ev20 => ?_)
            replace E := zLet_s ev20 E
            refine zg_cVv (As := [.int v20]) (st := []) X hv16 rfl (by decide) rfl (t_X5_run l d L kd κ _ hI v16 hv16 v20 ) mk_X10_274 mc_X5_run mz_X5 mi_X5_run ml_X5_run (na := 1) ⟨md_X5.1, md_X5.2, by decide +kernel⟩ rfl ⟨by decide, by decide⟩ (Nat.le_of_ble_eq_true rfl) dX10_damFor_54 (fun s21 hq => ?_)
            obtain ⟨hF, hS2, hI⟩ := hq
            replace E := zLet_s hF E
            have hS := hS.tr hS2 rfl rfl
            refine zg_aload_n X 1 rfl dX10_damFor_57 ?_
            refine fg_X10_26 X hI ha0 dX10_damFor_58 (fun v22 ev22 hv22 => ?_)
            replace E := zLet_s (zgr ev22) E
            refine zg_iload_n X 3 rfl dX10_damFor_61 ?_
            refine zg_cVi (As := [.int p2]) (st := []) X hv22 rfl (by decide) rfl (t_X5_winnerBy l d L kd κ _ hI v22 hv22 p2 (by omega)) mk_X10_172 mc_X5_winnerBy mz_X5 mi_X5_winnerBy ml_X5_winnerBy (na := 1) ⟨md_X5.1, md_X5.2, by decide +kernel⟩ rfl ⟨by decide, by decide⟩ (Nat.le_of_ble_eq_true rfl) dX10_damFor_62 (fun v23 s24 hq => ?_)
            obtain ⟨hF, hS2, hI⟩ := hq
            replace E := zLet2_s hF E
            have hS := hS.tr hS2 rfl rfl
            obtain ⟨hv23, hI⟩ := hI
            refine zg_iload_n X 2 rfl dX10_damFor_65 ?_
            refine zg_icmp_ne X 71 dX10_damFor_66 (by decide) (fun c25 => ?_) (fun c25 => ?_)
            · skip
              replace E := zIf_f c25 E
              refine zg_iinc X 1 (fun v26 => [(3, .int v26), (0, .ref a0), (1, .int p1), (2, .int p2)]) 0 dX10_damFor_71 rfl (by decide) (by decide) (by omega) (by omega) (fun _ => rfl) (fun v26 ev26 hv26 => ?_)
              replace E := zLet_s (zinc ev26 (by decide)) E
              refine zg_goto X 13 dX10_damFor_74 (by decide) ?_
              refine zg_sub [0, 1, 2, 3] rfl ?_
              exact ihLp6 _ v26 hI hS E  (by omega) (by omega) 
            · skip
              replace E := zIf_t c25 E
              refine zg_iload_n X 0 rfl dX10_damFor_69 ?_
              exact ret _ _ _ _ dX10_damFor_70 rfl ⟨E.symm.trans hR, hS, (zi_weak hI)⟩
    refine zg_sub [0, 1, 2, 3] rfl ?_
    exact Lp6 10000 _ v4 hI hS E  (by omega) (by omega) 
  · skip
    replace E := zIf_t c3 E
    refine zg_iconst X (-1) dX10_damFor_9 (by decide) (fun v27 _ hv27 => ?_)
    replace E := zLet_s (zcst hv27 (by decide)) E
    exact ret _ _ _ _ dX10_damFor_10 rfl ⟨E.symm.trans hR, hS, (zi_weak hI)⟩
set_option maxHeartbeats 4000000 in
set_option maxRecDepth 100000 in
theorem t_X10_loss (l : Launch) (d : zD2) (L : List Nat) (kd : Nat → Nat) (κ : Int) (σ : zS) (hI : zI κ 0 L kd σ) (a0 : Nat) (ha0 : zT L kd a0 10) (p1 : Int32) : zMi l yX10_loss (Cond.code yX10_loss cX10_loss 2 (some .int) :: zWL) 7 [.ref a0, .int p1] d L kd σ (fun v σ2 => (v, σ2) = F_X10_loss a0 p1 σ ∧ zSm [6, 20, 21, 30, 31, 33, 34, 35, 36, 38] [5] L kd σ σ2 ∧ (zI κ 0 L kd σ2)) := by
  refine zMi.of (own := RX10) (by decide +kernel) rfl rfl (Nat.le_of_ble_eq_true rfl) ?_
  intro p e s m args below meth c A Q X ret
  refine zg_lv (lv2 := [(0, .ref a0), (1, .int p1)]) rfl ?_
  obtain ⟨R, hR⟩ : ∃ R, R = F_X10_loss a0 p1 σ := ⟨_, rfl⟩
  have E := hR
  unfold F_X10_loss at E
  have hS : zSm [6, 20, 21, 30, 31, 33, 34, 35, 36, 38] [5] L kd σ σ := zSm.rf
  refine zg_iload_n X 1 rfl dX10_loss_0 ?_
  refine zg_if_eq X 12 dX10_loss_1 (by decide) (fun c1 => ?_) (fun c1 => ?_)
  · skip
    replace E := zIf_t c1 E
    refine zg_iconst X (-1) dX10_loss_12 (by decide) (fun v2 _ hv2 => ?_)
    replace E := zLet_s (zcst hv2 (by decide)) E
    exact ret _ _ _ _ dX10_loss_13 rfl ⟨E.symm.trans hR, hS, hI⟩
  · skip
    replace E := zIf_f c1 E
    refine zg_aload_n X 0 rfl dX10_loss_4 ?_
    refine zg_iload_n X 1 rfl dX10_loss_5 ?_
    refine zg_cVi (As := [.int p1]) (st := []) X ha0 rfl (by decide) rfl (t_X10_isPlace l d L kd κ 0 _ hI a0 ha0 p1 ) mk_X10_109 mc_X10_isPlace mz_X10 mi_X10_isPlace ml_X10_isPlace (na := 1) ⟨md_X10.1, md_X10.2, by decide +kernel⟩ rfl ⟨by decide, by decide⟩ (Nat.le_of_ble_eq_true rfl) dX10_loss_6 (fun v3 s4 hq => ?_)
    obtain ⟨hF, hS2, hI⟩ := hq
    replace E := zLet2_s hF E
    have hS := hS.tr hS2 rfl rfl
    obtain ⟨hv3, hI⟩ := hI
    refine zg_if_ne X 14 dX10_loss_9 (by decide) (fun c5 => ?_) (fun c5 => ?_)
    · skip
      replace E := zIf_f c5 E
      refine zg_aload_n X 0 rfl dX10_loss_14 ?_
      refine zg_cVv (As := []) (st := []) X ha0 rfl (by decide) rfl (t_X10_look l d L kd κ 0 _ hI a0 ha0 ) mk_X10_113 mc_X10_look mz_X10 mi_X10_look ml_X10_look (na := 0) ⟨md_X10.1, md_X10.2, by decide +kernel⟩ rfl ⟨by decide, by decide⟩ (Nat.le_of_ble_eq_true rfl) dX10_loss_15 (fun s6 hq => ?_)
      obtain ⟨hF, hS2, hI⟩ := hq
      replace E := zLet_s hF E
      have hS := hS.tr hS2 rfl rfl
      refine zg_aload_n X 0 rfl dX10_loss_18 ?_
      refine zg_iload_n X 1 rfl dX10_loss_19 ?_
      refine zg_cVi (As := [.int p1]) (st := []) X ha0 rfl (by decide) rfl (t_X10_lossOf l d L kd κ _ hI a0 ha0 p1 (by omega)) mk_X10_290 mc_X10_lossOf mz_X10 mi_X10_lossOf ml_X10_lossOf (na := 1) ⟨md_X10.1, md_X10.2, by decide +kernel⟩ rfl ⟨by decide, by decide⟩ (Nat.le_of_ble_eq_true rfl) dX10_loss_20 (fun v7 s8 hq => ?_)
      obtain ⟨hF, hS2, hI⟩ := hq
      replace E := zLet2_s hF E
      have hS := hS.tr hS2 rfl rfl
      exact ret _ _ _ _ dX10_loss_23 rfl ⟨E.symm.trans hR, hS, (zi_weak hI)⟩
    · skip
      replace E := zIf_t c5 E
      refine zg_iconst X (-1) dX10_loss_12 (by decide) (fun v9 _ hv9 => ?_)
      replace E := zLet_s (zcst hv9 (by decide)) E
      exact ret _ _ _ _ dX10_loss_13 rfl ⟨E.symm.trans hR, hS, hI⟩
set_option maxHeartbeats 4000000 in
set_option maxRecDepth 100000 in
theorem t_X10_part (l : Launch) (d : zD2) (L : List Nat) (kd : Nat → Nat) (κ : Int) (σ : zS) (hI : zI κ 0 L kd σ) (a0 : Nat) (ha0 : zT L kd a0 10) (p1 : Int32) : zMi l yX10_part (Cond.code yX10_part cX10_part 3 (some .int) :: zWL) 7 [.ref a0, .int p1] d L kd σ (fun v σ2 => (v, σ2) = F_X10_part a0 p1 σ ∧ zSm [6, 20, 21, 30, 31, 33, 34, 35, 36, 38] [5] L kd σ σ2 ∧ (zI κ 0 L kd σ2)) := by
  refine zMi.of (own := RX10) (by decide +kernel) rfl rfl (Nat.le_of_ble_eq_true rfl) ?_
  intro p e s m args below meth c A Q X ret
  refine zg_lv (lv2 := [(0, .ref a0), (1, .int p1)]) rfl ?_
  obtain ⟨R, hR⟩ : ∃ R, R = F_X10_part a0 p1 σ := ⟨_, rfl⟩
  have E := hR
  unfold F_X10_part at E
  have hS : zSm [6, 20, 21, 30, 31, 33, 34, 35, 36, 38] [5] L kd σ σ := zSm.rf
  refine zg_iload_n X 1 rfl dX10_part_0 ?_
  refine zg_if_eq X 12 dX10_part_1 (by decide) (fun c1 => ?_) (fun c1 => ?_)
  · skip
    replace E := zIf_t c1 E
    refine zg_iconst X (-1) dX10_part_12 (by decide) (fun v2 _ hv2 => ?_)
    replace E := zLet_s (zcst hv2 (by decide)) E
    exact ret _ _ _ _ dX10_part_13 rfl ⟨E.symm.trans hR, hS, hI⟩
  · skip
    replace E := zIf_f c1 E
    refine zg_aload_n X 0 rfl dX10_part_4 ?_
    refine zg_iload_n X 1 rfl dX10_part_5 ?_
    refine zg_cVi (As := [.int p1]) (st := []) X ha0 rfl (by decide) rfl (t_X10_isPlace l d L kd κ 0 _ hI a0 ha0 p1 ) mk_X10_109 mc_X10_isPlace mz_X10 mi_X10_isPlace ml_X10_isPlace (na := 1) ⟨md_X10.1, md_X10.2, by decide +kernel⟩ rfl ⟨by decide, by decide⟩ (Nat.le_of_ble_eq_true rfl) dX10_part_6 (fun v3 s4 hq => ?_)
    obtain ⟨hF, hS2, hI⟩ := hq
    replace E := zLet2_s hF E
    have hS := hS.tr hS2 rfl rfl
    obtain ⟨hv3, hI⟩ := hI
    refine zg_if_ne X 14 dX10_part_9 (by decide) (fun c5 => ?_) (fun c5 => ?_)
    · skip
      replace E := zIf_f c5 E
      refine zg_aload_n X 0 rfl dX10_part_14 ?_
      refine zg_cVv (As := []) (st := []) X ha0 rfl (by decide) rfl (t_X10_look l d L kd κ 0 _ hI a0 ha0 ) mk_X10_113 mc_X10_look mz_X10 mi_X10_look ml_X10_look (na := 0) ⟨md_X10.1, md_X10.2, by decide +kernel⟩ rfl ⟨by decide, by decide⟩ (Nat.le_of_ble_eq_true rfl) dX10_part_15 (fun s6 hq => ?_)
      obtain ⟨hF, hS2, hI⟩ := hq
      replace E := zLet_s hF E
      have hS := hS.tr hS2 rfl rfl
      refine zg_aload_n X 0 rfl dX10_part_18 ?_
      refine zg_cVi (As := []) (st := []) X ha0 rfl (by decide) rfl (t_X10_mouthFlow l d L kd κ 1 _ hI a0 ha0 ) mk_X10_191 mc_X10_mouthFlow mz_X10 mi_X10_mouthFlow ml_X10_mouthFlow (na := 0) ⟨md_X10.1, md_X10.2, by decide +kernel⟩ rfl ⟨by decide, by decide⟩ (Nat.le_of_ble_eq_true rfl) dX10_part_19 (fun v7 s8 hq => ?_)
      obtain ⟨hF, hS2, hI⟩ := hq
      replace E := zLet2_s hF E
      have hS := hS.tr hS2 rfl rfl
      refine zg_istore_n X [(2, .int v7), (0, .ref a0), (1, .int p1)] dX10_part_22 (by decide) rfl ?_
      refine zg_iload_n X 0 rfl dX10_part_23 ?_
      refine zg_if_ne X 31 dX10_part_24 (by decide) (fun c9 => ?_) (fun c9 => ?_)
      · skip
        replace E := zIf_f c9 E
        refine zg_aload_n X 1 rfl dX10_part_31 ?_
        refine zg_iload_n X 2 rfl dX10_part_32 ?_
        refine zg_cVi (As := [.int p1]) (st := []) X ha0 rfl (by decide) rfl (t_X10_lossOf l d L kd κ _ hI a0 ha0 p1 (by omega)) mk_X10_290 mc_X10_lossOf mz_X10 mi_X10_lossOf ml_X10_lossOf (na := 1) ⟨md_X10.1, md_X10.2, by decide +kernel⟩ rfl ⟨by decide, by decide⟩ (Nat.le_of_ble_eq_true rfl) dX10_part_33 (fun v10 s11 hq => ?_)
        obtain ⟨hF, hS2, hI⟩ := hq
        replace E := zLet2_s hF E
        have hS := hS.tr hS2 rfl rfl
        refine zg_sipush X 1000 dX10_part_36 (by decide) (fun v12 _ hv12 => ?_)
        replace E := zLet_s (zcst hv12 (by decide)) E
        refine zg_imulW X dX10_part_39 (fun v13 ev13 => ?_)
        replace E := zLet_s ev13 E
        refine zg_iload_n X 0 rfl dX10_part_40 ?_
        refine zg_idivW X dX10_part_41 (by omega) (fun v14 ev14 => ?_)
        replace E := zLet_s ev14 E
        exact ret _ _ _ _ dX10_part_42 rfl ⟨E.symm.trans hR, hS, (zi_weak hI)⟩
      · skip
        replace E := zIf_t c9 E
        refine zg_iconst X 0 dX10_part_27 (by decide) (fun v15 _ hv15 => ?_)
        replace E := zLet_s (zcst hv15 (by decide)) E
        refine zg_goto X 42 dX10_part_28 (by decide) ?_
        exact ret _ _ _ _ dX10_part_42 rfl ⟨E.symm.trans hR, hS, (zi_weak hI)⟩
    · skip
      replace E := zIf_t c5 E
      refine zg_iconst X (-1) dX10_part_12 (by decide) (fun v16 _ hv16 => ?_)
      replace E := zLet_s (zcst hv16 (by decide)) E
      exact ret _ _ _ _ dX10_part_13 rfl ⟨E.symm.trans hR, hS, hI⟩
set_option maxHeartbeats 4000000 in
set_option maxRecDepth 100000 in
theorem t_X10_main (l : Launch) (d : zD2) (L : List Nat) (kd : Nat → Nat) (κ : Int) (σ : zS) (hI : zI κ 0 L kd σ) (a0 : Nat) (ha0 : zT L kd a0 10) (p1 : Int32) : zMi l yX10_main (Cond.code yX10_main cX10_main 4 (some .int) :: zWL) 7 [.ref a0, .int p1] d L kd σ (fun v σ2 => (v, σ2) = F_X10_main a0 p1 σ ∧ zSm [6, 20, 21, 30, 31, 33, 34, 35, 36, 38] [5] L kd σ σ2 ∧ (zI κ 0 L kd σ2)) := by
  refine zMi.of (own := RX10) (by decide +kernel) rfl rfl (Nat.le_of_ble_eq_true rfl) ?_
  intro p e s m args below meth c A Q X ret
  refine zg_lv (lv2 := [(0, .ref a0), (1, .int p1)]) rfl ?_
  obtain ⟨R, hR⟩ : ∃ R, R = F_X10_main a0 p1 σ := ⟨_, rfl⟩
  have E := hR
  unfold F_X10_main at E
  have hS : zSm [6, 20, 21, 30, 31, 33, 34, 35, 36, 38] [5] L kd σ σ := zSm.rf
  refine zg_aload_n X 0 rfl dX10_main_0 ?_
  refine zg_cVi (As := []) (st := []) X ha0 rfl (by decide) rfl (t_X10_hasMouth l d L kd κ 0 _ hI a0 ha0 ) mk_X10_277 mc_X10_hasMouth mz_X10 mi_X10_hasMouth ml_X10_hasMouth (na := 0) ⟨md_X10.1, md_X10.2, by decide +kernel⟩ rfl ⟨by decide, by decide⟩ (Nat.le_of_ble_eq_true rfl) dX10_main_1 (fun v1 s2 hq => ?_)
  obtain ⟨hF, hS2, hI⟩ := hq
  replace E := zLet2_s hF E
  have hS := hS.tr hS2 rfl rfl
  obtain ⟨hv1, hI⟩ := hI
  refine zg_if_eq X 11 dX10_main_4 (by decide) (fun c3 => ?_) (fun c3 => ?_)
  · skip
    replace E := zIf_t c3 E
    refine zg_iconst X (-1) dX10_main_11 (by decide) (fun v4 _ hv4 => ?_)
    replace E := zLet_s (zcst hv4 (by decide)) E
    exact ret _ _ _ _ dX10_main_12 rfl ⟨E.symm.trans hR, hS, hI⟩
  · skip
    replace E := zIf_f c3 E
    refine zg_iload_n X 1 rfl dX10_main_7 ?_
    refine zg_if_ge X 13 dX10_main_8 (by decide) (fun c5 => ?_) (fun c5 => ?_)
    · skip
      replace E := zIf_f (Int.not_lt.mpr c5) E
      refine zg_aload_n X 0 rfl dX10_main_13 ?_
      refine zg_cVv (As := []) (st := []) X ha0 rfl (by decide) rfl (t_X10_look l d L kd κ 0 _ hI a0 ha0 ) mk_X10_113 mc_X10_look mz_X10 mi_X10_look ml_X10_look (na := 0) ⟨md_X10.1, md_X10.2, by decide +kernel⟩ rfl ⟨by decide, by decide⟩ (Nat.le_of_ble_eq_true rfl) dX10_main_14 (fun s6 hq => ?_)
      obtain ⟨hF, hS2, hI⟩ := hq
      replace E := zLet_s hF E
      have hS := hS.tr hS2 rfl rfl
      refine zg_iconst X 0 dX10_main_17 (by decide) (fun v7 _ hv7 => ?_)
      replace E := zLet_s (zcst hv7 (by decide)) E
      refine zg_istore_n X [(2, .int v7), (0, .ref a0), (1, .int p1)] dX10_main_18 (by decide) rfl ?_
      refine zg_iconst X 0 dX10_main_19 (by decide) (fun v8 _ hv8 => ?_)
      replace E := zLet_s (zcst hv8 (by decide)) E
      refine zg_istore_n X [(3, .int v8), (2, .int v7), (0, .ref a0), (1, .int p1)] dX10_main_20 (by decide) rfl ?_
      have Lp11 : ∀ (nLp11 : Nat) (τ11 : zS) (x9 : Int32) (x10 : Int32), zI κ 1 L kd τ11 → zSm [6, 20, 21, 30, 31, 33, 34, 35, 36, 38] [5] L kd σ τ11 → R = F_X10_main_21 a0 p1  nLp11 x9 x10 τ11 → (-1) ≤ x10.toInt ∧ x10.toInt ≤ 11 ∧ 0 ≤ x9.toInt ∧ x9.toInt ≤ 2147483647 → (2147483647) - x9.toInt + 1 < (nLp11 : Int) → zG d L kd A 4 p l e (k2_rm 7 (100 * 7)) s m args below meth c Q τ11 21 [(3, .int x9), (2, .int x10), (0, .ref a0), (1, .int p1)] [] := by
        intro nLp11
        induction nLp11 with
        | zero => intro τ11 x9 x10 hI hS E  hxLp11 hm ; exact absurd hm (by omega)
        | succ nLp11 ihLp11 =>
          intro τ11 x9 x10 hI hS E  hxLp11 hmLp11 
          rw [F_X10_main_21] at E
          refine zg_iload_n X 0 rfl dX10_main_21 ?_
          refine zg_iload_n X 3 rfl dX10_main_22 ?_
          have zx9_z12 := zb_rng x9
          have zp1_z13 := zb_rng p1
          refine zg_icmp_ge X 43 dX10_main_23 (by decide) (fun c14 => ?_) (fun c14 => ?_)
          · skip
            replace E := zIf_f (Int.not_lt.mpr c14) E
            refine zg_iload_n X 1 rfl dX10_main_43 ?_
            exact ret _ _ _ _ dX10_main_44 rfl ⟨E.symm.trans hR, hS, (zi_weak hI)⟩
          · skip
            replace E := zIf_t c14 E
            refine zg_iload_n X 1 rfl dX10_main_26 ?_
            refine zg_iconst X (-1) dX10_main_27 (by decide) (fun v15 _ hv15 => ?_)
            replace E := zLet_s (zcst hv15 (by decide)) E
            refine zg_icmp_eq X 43 dX10_main_28 (by decide) (fun c16 => ?_) (fun c16 => ?_)
            · skip
              replace E := zIf_t c16 E
              refine zg_iload_n X 1 rfl dX10_main_43 ?_
              exact ret _ _ _ _ dX10_main_44 rfl ⟨E.symm.trans hR, hS, (zi_weak hI)⟩
            · skip
              replace E := zIf_f c16 E
              refine zg_aload_n X 2 rfl dX10_main_31 ?_
              refine zg_iload_n X 1 rfl dX10_main_32 ?_
              refine zg_cVi (As := [.int x10]) (st := []) X ha0 rfl (by decide) rfl (t_X10_greatestInto l d L kd κ _ hI a0 ha0 x10 ) mk_X10_293 mc_X10_greatestInto mz_X10 mi_X10_greatestInto ml_X10_greatestInto (na := 1) ⟨md_X10.1, md_X10.2, by decide +kernel⟩ rfl ⟨by decide, by decide⟩ (Nat.le_of_ble_eq_true rfl) dX10_main_33 (fun v17 s18 hq => ?_)
              obtain ⟨hF, hS2, hI⟩ := hq
              replace E := zLet2_s hF E
              have hS := hS.tr hS2 rfl rfl
              obtain ⟨hv17, hI⟩ := hI
              refine zg_istore_n X [(2, .int v17), (3, .int x9), (0, .ref a0), (1, .int p1)] dX10_main_36 (by decide) rfl ?_
              refine zg_iinc X 1 (fun v19 => [(3, .int v19), (2, .int v17), (0, .ref a0), (1, .int p1)]) 1 dX10_main_37 rfl (by decide) (by decide) (by omega) (by omega) (fun _ => rfl) (fun v19 ev19 hv19 => ?_)
              replace E := zLet_s (zinc ev19 (by decide)) E
              refine zg_goto X 21 dX10_main_40 (by decide) ?_
              refine zg_sub [0, 1, 2, 3] rfl ?_
              exact ihLp11 _ v19 v17 hI hS E  (by omega) (by omega) 
      have zrLp11 := zb_rng v8
      refine zg_sub [0, 1, 2, 3] rfl ?_
      exact Lp11 4294967299 _ v8 v7 hI hS E  (by omega) (by omega) 
    · skip
      replace E := zIf_t c5 E
      refine zg_iconst X (-1) dX10_main_11 (by decide) (fun v20 _ hv20 => ?_)
      replace E := zLet_s (zcst hv20 (by decide)) E
      exact ret _ _ _ _ dX10_main_12 rfl ⟨E.symm.trans hR, hS, hI⟩
set_option maxHeartbeats 4000000 in
set_option maxRecDepth 100000 in
theorem t_X10_agree (l : Launch) (d : zD2) (L : List Nat) (kd : Nat → Nat) (κ : Int) (σ : zS) (hI : zI κ 0 L kd σ) (a0 : Nat) (ha0 : zT L kd a0 10) (p1 : Int32) : zMi l yX10_agree (Cond.code yX10_agree cX10_agree 5 (some .int) :: zWL) 7 [.ref a0, .int p1] d L kd σ (fun v σ2 => (v, σ2) = F_X10_agree a0 p1 σ ∧ zSm [1, 6, 20, 21, 22, 23, 24, 30, 31, 32, 33, 34, 35, 36, 38] [5] L kd σ σ2 ∧ (zI κ 0 L kd σ2)) := by
  refine zMi.of (own := RX10) (by decide +kernel) rfl rfl (Nat.le_of_ble_eq_true rfl) ?_
  intro p e s m args below meth c A Q X ret
  refine zg_lv (lv2 := [(0, .ref a0), (1, .int p1)]) rfl ?_
  obtain ⟨R, hR⟩ : ∃ R, R = F_X10_agree a0 p1 σ := ⟨_, rfl⟩
  have E := hR
  unfold F_X10_agree at E
  have hS : zSm [1, 6, 20, 21, 22, 23, 24, 30, 31, 32, 33, 34, 35, 36, 38] [5] L kd σ σ := zSm.rf
  refine zg_iload_n X 1 rfl dX10_agree_0 ?_
  refine zg_iconst X 1 dX10_agree_1 (by decide) (fun v1 _ hv1 => ?_)
  replace E := zLet_s (zcst hv1 (by decide)) E
  refine zg_bipush X 24 dX10_agree_2 (by decide) (fun v2 _ hv2 => ?_)
  replace E := zLet_s (zcst hv2 (by decide)) E
  refine zg_cSi (As := [.int p1, .int v1, .int v2]) (st := []) X (t_X10_isWithin l d L kd _ p1 v1 v2 ) mk_X10_229 mc_X10_isWithin mz_X10 ms_X10_isWithin (na := 3) ⟨md_X10.1, md_X10.2, by decide +kernel⟩ rfl ⟨by decide, by decide⟩ (Nat.le_of_ble_eq_true rfl) dX10_agree_4 (fun v3 σ2 hq => ?_)
  obtain ⟨⟨hF, hv3⟩, rfl⟩ := hq
  replace E := zLet_s hF E
  refine zg_if_ne X 12 dX10_agree_7 (by decide) (fun c4 => ?_) (fun c4 => ?_)
  · skip
    replace E := zIf_f c4 E
    refine zg_iconst X 0 dX10_agree_12 (by decide) (fun v5 _ hv5 => ?_)
    replace E := zLet_s (zcst hv5 (by decide)) E
    refine zg_istore_n X [(2, .int v5), (0, .ref a0), (1, .int p1)] dX10_agree_13 (by decide) rfl ?_
    refine zg_aload_n X 1 rfl dX10_agree_14 ?_
    refine zg_cVv (As := []) (st := []) X ha0 rfl (by decide) rfl (t_X10_tryFromNow l d L kd κ 0 _ hI a0 ha0 ) mk_X10_296 mc_X10_tryFromNow mz_X10 mi_X10_tryFromNow ml_X10_tryFromNow (na := 0) ⟨md_X10.1, md_X10.2, by decide +kernel⟩ rfl ⟨by decide, by decide⟩ (Nat.le_of_ble_eq_true rfl) dX10_agree_15 (fun s6 hq => ?_)
    obtain ⟨hF, hS2, hI⟩ := hq
    replace E := zLet_s hF E
    have hS := hS.tr hS2 rfl rfl
    refine zg_iconst X 0 dX10_agree_18 (by decide) (fun v7 _ hv7 => ?_)
    replace E := zLet_s (zcst hv7 (by decide)) E
    refine zg_istore_n X [(3, .int v7), (2, .int v5), (0, .ref a0), (1, .int p1)] dX10_agree_19 (by decide) rfl ?_
    have Lp10 : ∀ (nLp10 : Nat) (τ10 : zS) (x8 : Int32) (x9 : Int32), zI κ 1 L kd τ10 → zSm [1, 6, 20, 21, 22, 23, 24, 30, 31, 32, 33, 34, 35, 36, 38] [5] L kd σ τ10 → R = F_X10_agree_20 a0 p1  nLp10 x8 x9 τ10 → 0 ≤ x8.toInt ∧ x8.toInt ≤ 2147483647 → (2147483647) - x8.toInt + 1 < (nLp10 : Int) → zG d L kd A 5 p l e (k2_rm 7 (100 * 7)) s m args below meth c Q τ10 20 [(3, .int x8), (2, .int x9), (0, .ref a0), (1, .int p1)] [] := by
      intro nLp10
      induction nLp10 with
      | zero => intro τ10 x8 x9 hI hS E  hxLp10 hm ; exact absurd hm (by omega)
      | succ nLp10 ihLp10 =>
        intro τ10 x8 x9 hI hS E  hxLp10 hmLp10 
        rw [F_X10_agree_20] at E
        refine zg_iload_n X 0 rfl dX10_agree_20 ?_
        refine zg_iload_n X 3 rfl dX10_agree_21 ?_
        have zx8_z11 := zb_rng x8
        have zp1_z12 := zb_rng p1
        refine zg_icmp_ge X 82 dX10_agree_22 (by decide) (fun c13 => ?_) (fun c13 => ?_)
        · skip
          replace E := zIf_f (Int.not_lt.mpr c13) E
          refine zg_iload_n X 1 rfl dX10_agree_82 ?_
          exact ret _ _ _ _ dX10_agree_83 rfl ⟨E.symm.trans hR, hS, (zi_weak hI)⟩
        · skip
          replace E := zIf_t c13 E
          refine zg_aload_n X 2 rfl dX10_agree_25 ?_
          refine fg_X10_26 X hI ha0 dX10_agree_26 (fun v14 ev14 hv14 => ?_)
          replace E := zLet_s (zgr ev14) E
          refine zg_iconst X 0 dX10_agree_29 (by decide) (fun v15 _ hv15 => ?_)
          replace E := zLet_s (zcst hv15 (by decide)) E
          refine zg_cVi (As := [.int v15]) (st := []) X hv14 rfl (by decide) rfl (t_X5_winnerBy l d L kd κ _ hI v14 hv14 v15 (by omega)) mk_X10_172 mc_X5_winnerBy mz_X5 mi_X5_winnerBy ml_X5_winnerBy (na := 1) ⟨md_X5.1, md_X5.2, by decide +kernel⟩ rfl ⟨by decide, by decide⟩ (Nat.le_of_ble_eq_true rfl) dX10_agree_30 (fun v16 s17 hq => ?_)
          obtain ⟨hF, hS2, hI⟩ := hq
          replace E := zLet2_s hF E
          have hS := hS.tr hS2 rfl rfl
          obtain ⟨hv16, hI⟩ := hI
          refine zg_istore X [(4, .int v16), (3, .int x8), (2, .int x9), (0, .ref a0), (1, .int p1)] dX10_agree_33 (by decide) rfl ?_
          refine zg_iload X 0 rfl dX10_agree_35 ?_
          refine zg_if_le X 69 dX10_agree_37 (by decide) (fun c18 => ?_) (fun c18 => ?_)
          · skip
            replace E := zIf_f (Int.not_lt.mpr c18) E
            refine zg_aload_n X 3 rfl dX10_agree_69 ?_
            refine fg_X10_26 X hI ha0 dX10_agree_70 (fun v19 ev19 hv19 => ?_)
            replace E := zLet_s (zgr ev19) E
            refine zg_cVv (As := []) (st := []) X hv19 rfl (by decide) rfl (t_X5_goOn l d L kd κ _ hI v19 hv19 ) mk_X10_299 mc_X5_goOn mz_X5 mi_X5_goOn ml_X5_goOn (na := 0) ⟨md_X5.1, md_X5.2, by decide +kernel⟩ rfl ⟨by decide, by decide⟩ (Nat.le_of_ble_eq_true rfl) dX10_agree_73 (fun s20 hq => ?_)
            obtain ⟨hF, hS2, hI⟩ := hq
            replace E := zLet_s hF E
            have hS := hS.tr hS2 rfl rfl
            refine zg_iinc X 1 (fun v21 => [(3, .int v21), (4, .int v16), (2, .int x9), (0, .ref a0), (1, .int p1)]) 1 dX10_agree_76 rfl (by decide) (by decide) (by omega) (by omega) (fun _ => rfl) (fun v21 ev21 hv21 => ?_)
            replace E := zLet_s (zinc ev21 (by decide)) E
            refine zg_goto X 20 dX10_agree_79 (by decide) ?_
            refine zg_sub [0, 2, 3, 4] rfl ?_
            exact ihLp10 _ v21 x9 hI hS E  (by omega) (by omega) 
          · skip
            replace E := zIf_t c18 E
            refine zg_iload X 0 rfl dX10_agree_40 ?_
            refine zg_aload_n X 3 rfl dX10_agree_42 ?_
            refine fg_X10_26 X hI ha0 dX10_agree_43 (fun v22 ev22 hv22 => ?_)
            replace E := zLet_s (zgr ev22) E
            refine zg_iconst X 1 dX10_agree_46 (by decide) (fun v23 _ hv23 => ?_)
            replace E := zLet_s (zcst hv23 (by decide)) E
            refine zg_cVi (As := [.int v23]) (st := [.int v16]) X hv22 rfl (by decide) rfl (t_X5_winnerBy l d L kd κ _ hI v22 hv22 v23 (by omega)) mk_X10_172 mc_X5_winnerBy mz_X5 mi_X5_winnerBy ml_X5_winnerBy (na := 1) ⟨md_X5.1, md_X5.2, by decide +kernel⟩ rfl ⟨by decide, by decide⟩ (Nat.le_of_ble_eq_true rfl) dX10_agree_47 (fun v24 s25 hq => ?_)
            obtain ⟨hF, hS2, hI⟩ := hq
            replace E := zLet2_s hF E
            have hS := hS.tr hS2 rfl rfl
            obtain ⟨hv24, hI⟩ := hI
            refine zg_icmp_ne X 69 dX10_agree_50 (by decide) (fun c26 => ?_) (fun c26 => ?_)
            · skip
              replace E := zIf_f c26 E
              refine zg_aload_n X 3 rfl dX10_agree_69 ?_
              refine fg_X10_26 X hI ha0 dX10_agree_70 (fun v27 ev27 hv27 => ?_)
              replace E := zLet_s (zgr ev27) E
              refine zg_cVv (As := []) (st := []) X hv27 rfl (by decide) rfl (t_X5_goOn l d L kd κ _ hI v27 hv27 ) mk_X10_299 mc_X5_goOn mz_X5 mi_X5_goOn ml_X5_goOn (na := 0) ⟨md_X5.1, md_X5.2, by decide +kernel⟩ rfl ⟨by decide, by decide⟩ (Nat.le_of_ble_eq_true rfl) dX10_agree_73 (fun s28 hq => ?_)
              obtain ⟨hF, hS2, hI⟩ := hq
              replace E := zLet_s hF E
              have hS := hS.tr hS2 rfl rfl
              refine zg_iinc X 1 (fun v29 => [(3, .int v29), (4, .int v16), (2, .int x9), (0, .ref a0), (1, .int p1)]) 1 dX10_agree_76 rfl (by decide) (by decide) (by omega) (by omega) (fun _ => rfl) (fun v29 ev29 hv29 => ?_)
              replace E := zLet_s (zinc ev29 (by decide)) E
              refine zg_goto X 20 dX10_agree_79 (by decide) ?_
              refine zg_sub [0, 2, 3, 4] rfl ?_
              exact ihLp10 _ v29 x9 hI hS E  (by omega) (by omega) 
            · skip
              replace E := zIf_t c26 E
              refine zg_iload X 0 rfl dX10_agree_53 ?_
              refine zg_aload_n X 3 rfl dX10_agree_55 ?_
              refine fg_X10_26 X hI ha0 dX10_agree_56 (fun v30 ev30 hv30 => ?_)
              replace E := zLet_s (zgr ev30) E
              refine zg_iconst X 2 dX10_agree_59 (by decide) (fun v31 _ hv31 => ?_)
              replace E := zLet_s (zcst hv31 (by decide)) E
              refine zg_cVi (As := [.int v31]) (st := [.int v16]) X hv30 rfl (by decide) rfl (t_X5_winnerBy l d L kd κ _ hI v30 hv30 v31 (by omega)) mk_X10_172 mc_X5_winnerBy mz_X5 mi_X5_winnerBy ml_X5_winnerBy (na := 1) ⟨md_X5.1, md_X5.2, by decide +kernel⟩ rfl ⟨by decide, by decide⟩ (Nat.le_of_ble_eq_true rfl) dX10_agree_60 (fun v32 s33 hq => ?_)
              obtain ⟨hF, hS2, hI⟩ := hq
              replace E := zLet2_s hF E
              have hS := hS.tr hS2 rfl rfl
              obtain ⟨hv32, hI⟩ := hI
              refine zg_icmp_ne X 69 dX10_agree_63 (by decide) (fun c34 => ?_) (fun c34 => ?_)
              · skip
                replace E := zIf_f c34 E
                refine zg_aload_n X 3 rfl dX10_agree_69 ?_
                refine fg_X10_26 X hI ha0 dX10_agree_70 (fun v35 ev35 hv35 => ?_)
                replace E := zLet_s (zgr ev35) E
                refine zg_cVv (As := []) (st := []) X hv35 rfl (by decide) rfl (t_X5_goOn l d L kd κ _ hI v35 hv35 ) mk_X10_299 mc_X5_goOn mz_X5 mi_X5_goOn ml_X5_goOn (na := 0) ⟨md_X5.1, md_X5.2, by decide +kernel⟩ rfl ⟨by decide, by decide⟩ (Nat.le_of_ble_eq_true rfl) dX10_agree_73 (fun s36 hq => ?_)
                obtain ⟨hF, hS2, hI⟩ := hq
                replace E := zLet_s hF E
                have hS := hS.tr hS2 rfl rfl
                refine zg_iinc X 1 (fun v37 => [(3, .int v37), (4, .int v16), (2, .int x9), (0, .ref a0), (1, .int p1)]) 1 dX10_agree_76 rfl (by decide) (by decide) (by omega) (by omega) (fun _ => rfl) (fun v37 ev37 hv37 => ?_)
                replace E := zLet_s (zinc ev37 (by decide)) E
                refine zg_goto X 20 dX10_agree_79 (by decide) ?_
                refine zg_sub [0, 2, 3, 4] rfl ?_
                exact ihLp10 _ v37 x9 hI hS E  (by omega) (by omega) 
              · skip
                replace E := zIf_t c34 E
                refine zg_iincW X (fun v38 => [(2, .int v38), (4, .int v16), (3, .int x8), (0, .ref a0), (1, .int p1)]) 2 dX10_agree_66 rfl (by decide) (fun _ => rfl) (fun v38 ev38 => ?_)
                replace E := zLet_s (zinc ev38 (by decide)) E
                refine zg_aload_n X 3 rfl dX10_agree_69 ?_
                refine fg_X10_26 X hI ha0 dX10_agree_70 (fun v39 ev39 hv39 => ?_)
                replace E := zLet_s (zgr ev39) E
                refine zg_cVv (As := []) (st := []) X hv39 rfl (by decide) rfl (t_X5_goOn l d L kd κ _ hI v39 hv39 ) mk_X10_299 mc_X5_goOn mz_X5 mi_X5_goOn ml_X5_goOn (na := 0) ⟨md_X5.1, md_X5.2, by decide +kernel⟩ rfl ⟨by decide, by decide⟩ (Nat.le_of_ble_eq_true rfl) dX10_agree_73 (fun s40 hq => ?_)
                obtain ⟨hF, hS2, hI⟩ := hq
                replace E := zLet_s hF E
                have hS := hS.tr hS2 rfl rfl
                refine zg_iinc X 1 (fun v41 => [(3, .int v41), (2, .int v38), (4, .int v16), (0, .ref a0), (1, .int p1)]) 2 dX10_agree_76 rfl (by decide) (by decide) (by omega) (by omega) (fun _ => rfl) (fun v41 ev41 hv41 => ?_)
                replace E := zLet_s (zinc ev41 (by decide)) E
                refine zg_goto X 20 dX10_agree_79 (by decide) ?_
                refine zg_sub [0, 1, 3, 4] rfl ?_
                exact ihLp10 _ v41 v38 hI hS E  (by omega) (by omega) 
    have zrLp10 := zb_rng v7
    refine zg_sub [0, 1, 2, 3] rfl ?_
    exact Lp10 4294967299 _ v7 v5 hI hS E  (by omega) (by omega) 
  · skip
    replace E := zIf_t c4 E
    refine zg_iconst X (-1) dX10_agree_10 (by decide) (fun v42 _ hv42 => ?_)
    replace E := zLet_s (zcst hv42 (by decide)) E
    exact ret _ _ _ _ dX10_agree_11 rfl ⟨E.symm.trans hR, hS, hI⟩
set_option maxHeartbeats 4000000 in
set_option maxRecDepth 100000 in
theorem t_X10_driest (l : Launch) (d : zD2) (L : List Nat) (kd : Nat → Nat) (κ : Int) (σ : zS) (hI : zI κ 0 L kd σ) (a0 : Nat) (ha0 : zT L kd a0 10) (p1 : Int32) (p2 : Int32) : zMi l yX10_driest (Cond.code yX10_driest cX10_driest 6 (some .int) :: zWL) 7 [.ref a0, .int p1, .int p2] d L kd σ (fun v σ2 => (v, σ2) = F_X10_driest a0 p1 p2 σ ∧ zSm [1, 6, 20, 21, 22, 23, 24, 30, 31, 32, 33, 34, 35, 36, 38] [5] L kd σ σ2 ∧ (zI κ 0 L kd σ2)) := by
  refine zMi.of (own := RX10) (by decide +kernel) rfl rfl (Nat.le_of_ble_eq_true rfl) ?_
  intro p e s m args below meth c A Q X ret
  refine zg_lv (lv2 := [(0, .ref a0), (1, .int p1), (2, .int p2)]) rfl ?_
  obtain ⟨R, hR⟩ : ∃ R, R = F_X10_driest a0 p1 p2 σ := ⟨_, rfl⟩
  have E := hR
  unfold F_X10_driest at E
  have hS : zSm [1, 6, 20, 21, 22, 23, 24, 30, 31, 32, 33, 34, 35, 36, 38] [5] L kd σ σ := zSm.rf
  refine zg_aload_n X 0 rfl dX10_driest_0 ?_
  refine zg_cVi (As := []) (st := []) X ha0 rfl (by decide) rfl (t_X10_hasMouth l d L kd κ 0 _ hI a0 ha0 ) mk_X10_277 mc_X10_hasMouth mz_X10 mi_X10_hasMouth ml_X10_hasMouth (na := 0) ⟨md_X10.1, md_X10.2, by decide +kernel⟩ rfl ⟨by decide, by decide⟩ (Nat.le_of_ble_eq_true rfl) dX10_driest_1 (fun v1 s2 hq => ?_)
  obtain ⟨hF, hS2, hI⟩ := hq
  replace E := zLet2_s hF E
  have hS := hS.tr hS2 rfl rfl
  obtain ⟨hv1, hI⟩ := hI
  refine zg_if_eq X 26 dX10_driest_4 (by decide) (fun c3 => ?_) (fun c3 => ?_)
  · skip
    replace E := zIf_t c3 E
    refine zg_iconst X (-1) dX10_driest_26 (by decide) (fun v4 _ hv4 => ?_)
    replace E := zLet_s (zcst hv4 (by decide)) E
    exact ret _ _ _ _ dX10_driest_27 rfl ⟨E.symm.trans hR, hS, hI⟩
  · skip
    replace E := zIf_f c3 E
    refine zg_iload_n X 1 rfl dX10_driest_7 ?_
    refine zg_iconst X 1 dX10_driest_8 (by decide) (fun v5 _ hv5 => ?_)
    replace E := zLet_s (zcst hv5 (by decide)) E
    refine zg_bipush X 24 dX10_driest_9 (by decide) (fun v6 _ hv6 => ?_)
    replace E := zLet_s (zcst hv6 (by decide)) E
    refine zg_cSi (As := [.int p1, .int v5, .int v6]) (st := []) X (t_X10_isWithin l d L kd _ p1 v5 v6 ) mk_X10_229 mc_X10_isWithin mz_X10 ms_X10_isWithin (na := 3) ⟨md_X10.1, md_X10.2, by decide +kernel⟩ rfl ⟨by decide, by decide⟩ (Nat.le_of_ble_eq_true rfl) dX10_driest_11 (fun v7 σ2 hq => ?_)
    obtain ⟨⟨hF, hv7⟩, rfl⟩ := hq
    replace E := zLet_s hF E
    refine zg_if_eq X 26 dX10_driest_14 (by decide) (fun c8 => ?_) (fun c8 => ?_)
    · skip
      replace E := zIf_t c8 E
      refine zg_iconst X (-1) dX10_driest_26 (by decide) (fun v9 _ hv9 => ?_)
      replace E := zLet_s (zcst hv9 (by decide)) E
      exact ret _ _ _ _ dX10_driest_27 rfl ⟨E.symm.trans hR, hS, hI⟩
    · skip
      replace E := zIf_f c8 E
      refine zg_iload_n X 2 rfl dX10_driest_17 ?_
      refine zg_iconst X 0 dX10_driest_18 (by decide) (fun v10 _ hv10 => ?_)
      replace E := zLet_s (zcst hv10 (by decide)) E
      refine zg_iconst X 1 dX10_driest_19 (by decide) (fun v11 _ hv11 => ?_)
      replace E := zLet_s (zcst hv11 (by decide)) E
      refine zg_cSi (As := [.int p2, .int v10, .int v11]) (st := []) X (t_X10_isWithin l d L kd _ p2 v10 v11 ) mk_X10_229 mc_X10_isWithin mz_X10 ms_X10_isWithin (na := 3) ⟨md_X10.1, md_X10.2, by decide +kernel⟩ rfl ⟨by decide, by decide⟩ (Nat.le_of_ble_eq_true rfl) dX10_driest_20 (fun v12 σ2 hq => ?_)
      obtain ⟨⟨hF, hv12⟩, rfl⟩ := hq
      replace E := zLet_s hF E
      refine zg_if_ne X 28 dX10_driest_23 (by decide) (fun c13 => ?_) (fun c13 => ?_)
      · skip
        replace E := zIf_f c13 E
        refine zg_iconst X 0 dX10_driest_28 (by decide) (fun v14 _ hv14 => ?_)
        replace E := zLet_s (zcst hv14 (by decide)) E
        refine zg_istore_n X [(3, .int v14), (0, .ref a0), (1, .int p1), (2, .int p2)] dX10_driest_29 (by decide) rfl ?_
        refine zg_aload_n X 1 rfl dX10_driest_30 ?_
        refine zg_cVv (As := []) (st := []) X ha0 rfl (by decide) rfl (t_X10_tryFromNow l d L kd κ 0 _ hI a0 ha0 ) mk_X10_296 mc_X10_tryFromNow mz_X10 mi_X10_tryFromNow ml_X10_tryFromNow (na := 0) ⟨md_X10.1, md_X10.2, by decide +kernel⟩ rfl ⟨by decide, by decide⟩ (Nat.le_of_ble_eq_true rfl) dX10_driest_31 (fun s15 hq => ?_)
        obtain ⟨hF, hS2, hI⟩ := hq
        replace E := zLet_s hF E
        have hS := hS.tr hS2 rfl rfl
        refine zg_aload_n X 1 rfl dX10_driest_34 ?_
        refine zg_cVi (As := []) (st := []) X ha0 rfl (by decide) rfl (t_X10_mouthFlow l d L kd κ 1 _ hI a0 ha0 ) mk_X10_191 mc_X10_mouthFlow mz_X10 mi_X10_mouthFlow ml_X10_mouthFlow (na := 0) ⟨md_X10.1, md_X10.2, by decide +kernel⟩ rfl ⟨by decide, by decide⟩ (Nat.le_of_ble_eq_true rfl) dX10_driest_35 (fun v16 s17 hq => ?_)
        obtain ⟨hF, hS2, hI⟩ := hq
        replace E := zLet2_s hF E
        have hS := hS.tr hS2 rfl rfl
        refine zg_istore X [(4, .int v16), (3, .int v14), (0, .ref a0), (1, .int p1), (2, .int p2)] dX10_driest_38 (by decide) rfl ?_
        refine zg_iconst X 1 dX10_driest_40 (by decide) (fun v18 _ hv18 => ?_)
        replace E := zLet_s (zcst hv18 (by decide)) E
        refine zg_istore X [(5, .int v18), (4, .int v16), (3, .int v14), (0, .ref a0), (1, .int p1), (2, .int p2)] dX10_driest_41 (by decide) rfl ?_
        have Lp22 : ∀ (nLp22 : Nat) (τ22 : zS) (x19 : Int32) (x20 : Int32) (x21 : Int32), zI κ 1 L kd τ22 → zSm [1, 6, 20, 21, 22, 23, 24, 30, 31, 32, 33, 34, 35, 36, 38] [5] L kd σ τ22 → R = F_X10_driest_43 a0 p1 p2  nLp22 x19 x20 x21 τ22 → 1 ≤ x19.toInt ∧ x19.toInt ≤ 2147483647 → (2147483647) - x19.toInt + 1 < (nLp22 : Int) → zG d L kd A 6 p l e (k2_rm 7 (100 * 7)) s m args below meth c Q τ22 43 [(5, .int x19), (4, .int x20), (3, .int x21), (0, .ref a0), (1, .int p1), (2, .int p2)] [] := by
          intro nLp22
          induction nLp22 with
          | zero => intro τ22 x19 x20 x21 hI hS E  hxLp22 hm ; exact absurd hm (by omega)
          | succ nLp22 ihLp22 =>
            intro τ22 x19 x20 x21 hI hS E  hxLp22 hmLp22 
            rw [F_X10_driest_43] at E
            refine zg_iload X 0 rfl dX10_driest_43 ?_
            refine zg_iload_n X 4 rfl dX10_driest_45 ?_
            have zx19_z23 := zb_rng x19
            have zp1_z24 := zb_rng p1
            refine zg_icmp_ge X 80 dX10_driest_46 (by decide) (fun c25 => ?_) (fun c25 => ?_)
            · skip
              replace E := zIf_f (Int.not_lt.mpr c25) E
              refine zg_iload_n X 5 rfl dX10_driest_80 ?_
              refine zg_if_ne X 88 dX10_driest_81 (by decide) (fun c26 => ?_) (fun c26 => ?_)
              · skip
                replace E := zIf_f c26 E
                refine zg_iload X 1 rfl dX10_driest_88 ?_
                exact ret _ _ _ _ dX10_driest_90 rfl ⟨E.symm.trans hR, hS, (zi_weak hI)⟩
              · skip
                replace E := zIf_t c26 E
                refine zg_iload_n X 2 rfl dX10_driest_84 ?_
                refine zg_goto X 90 dX10_driest_85 (by decide) ?_
                exact ret _ _ _ _ dX10_driest_90 rfl ⟨E.symm.trans hR, hS, (zi_weak hI)⟩
            · skip
              replace E := zIf_t c25 E
              refine zg_aload_n X 3 rfl dX10_driest_49 ?_
              refine fg_X10_26 X hI ha0 dX10_driest_50 (fun v27 ev27 hv27 => ?_)
              replace E := zLet_s (zgr ev27) E
              refine zg_cVv (As := []) (st := []) X hv27 rfl (by decide) rfl (t_X5_goOn l d L kd κ _ hI v27 hv27 ) mk_X10_299 mc_X5_goOn mz_X5 mi_X5_goOn ml_X5_goOn (na := 0) ⟨md_X5.1, md_X5.2, by decide +kernel⟩ rfl ⟨by decide, by decide⟩ (Nat.le_of_ble_eq_true rfl) dX10_driest_53 (fun s28 hq => ?_)
              obtain ⟨hF, hS2, hI⟩ := hq
              replace E := zLet_s hF E
              have hS := hS.tr hS2 rfl rfl
              refine zg_aload_n X 3 rfl dX10_driest_56 ?_
              refine zg_cVi (As := []) (st := []) X ha0 rfl (by decide) rfl (t_X10_mouthFlow l d L kd κ 1 _ hI a0 ha0 ) mk_X10_191 mc_X10_mouthFlow mz_X10 mi_X10_mouthFlow ml_X10_mouthFlow (na := 0) ⟨md_X10.1, md_X10.2, by decide +kernel⟩ rfl ⟨by decide, by decide⟩ (Nat.le_of_ble_eq_true rfl) dX10_driest_57 (fun v29 s30 hq => ?_)
              obtain ⟨hF, hS2, hI⟩ := hq
              replace E := zLet2_s hF E
              have hS := hS.tr hS2 rfl rfl
              refine zg_iload X 1 rfl dX10_driest_60 ?_
              have zv29_z31 := zb_rng v29
              have zx20_z32 := zb_rng x20
              refine zg_icmp_ge X 74 dX10_driest_62 (by decide) (fun c33 => ?_) (fun c33 => ?_)
              · skip
                replace E := zIf_f (Int.not_lt.mpr c33) E
                refine zg_iinc X 1 (fun v34 => [(5, .int v34), (4, .int x20), (3, .int x21), (0, .ref a0), (1, .int p1), (2, .int p2)]) 0 dX10_driest_74 rfl (by decide) (by decide) (by omega) (by omega) (fun _ => rfl) (fun v34 ev34 hv34 => ?_)
                replace E := zLet_s (zinc ev34 (by decide)) E
                refine zg_goto X 43 dX10_driest_77 (by decide) ?_
                refine zg_sub [0, 1, 2, 3, 4, 5] rfl ?_
                exact ihLp22 _ v34 x20 x21 hI hS E  (by omega) (by omega) 
              · skip
                replace E := zIf_t c33 E
                refine zg_aload_n X 3 rfl dX10_driest_65 ?_
                refine zg_cVi (As := []) (st := []) X ha0 rfl (by decide) rfl (t_X10_mouthFlow l d L kd κ 1 _ hI a0 ha0 ) mk_X10_191 mc_X10_mouthFlow mz_X10 mi_X10_mouthFlow ml_X10_mouthFlow (na := 0) ⟨md_X10.1, md_X10.2, by decide +kernel⟩ rfl ⟨by decide, by decide⟩ (Nat.le_of_ble_eq_true rfl) dX10_driest_66 (fun v35 s36 hq => ?_)
                obtain ⟨hF, hS2, hI⟩ := hq
                replace E := zLet2_s hF E
                have hS := hS.tr hS2 rfl rfl
                refine zg_istore X [(4, .int v35), (5, .int x19), (3, .int x21), (0, .ref a0), (1, .int p1), (2, .int p2)] dX10_driest_69 (by decide) rfl ?_
                refine zg_iload X 1 rfl dX10_driest_71 ?_
                refine zg_istore_n X [(3, .int x19), (4, .int v35), (5, .int x19), (0, .ref a0), (1, .int p1), (2, .int p2)] dX10_driest_73 (by decide) rfl ?_
                refine zg_iinc X 1 (fun v37 => [(5, .int v37), (3, .int x19), (4, .int v35), (0, .ref a0), (1, .int p1), (2, .int p2)]) 2 dX10_driest_74 rfl (by decide) (by decide) (by omega) (by omega) (fun _ => rfl) (fun v37 ev37 hv37 => ?_)
                replace E := zLet_s (zinc ev37 (by decide)) E
                refine zg_goto X 43 dX10_driest_77 (by decide) ?_
                refine zg_sub [0, 2, 1, 3, 4, 5] rfl ?_
                exact ihLp22 _ v37 v35 x19 hI hS E  (by omega) (by omega) 
        have zrLp22 := zb_rng v18
        refine zg_sub [0, 1, 2, 3, 4, 5] rfl ?_
        exact Lp22 4294967299 _ v18 v16 v14 hI hS E  (by omega) (by omega) 
      · skip
        replace E := zIf_t c13 E
        refine zg_iconst X (-1) dX10_driest_26 (by decide) (fun v38 _ hv38 => ?_)
        replace E := zLet_s (zcst hv38 (by decide)) E
        exact ret _ _ _ _ dX10_driest_27 rfl ⟨E.symm.trans hR, hS, hI⟩
set_option maxHeartbeats 4000000 in
set_option maxRecDepth 100000 in
theorem t_X10_reign (l : Launch) (d : zD2) (L : List Nat) (kd : Nat → Nat) (κ : Int) (σ : zS) (hI : zI κ 0 L kd σ) (a0 : Nat) (ha0 : zT L kd a0 10) (p1 : Int32) (p2 : Int32) (p3 : Int32) : zMi l yX10_reign (Cond.code yX10_reign cX10_reign 6 (some .int) :: zWL) 7 [.ref a0, .int p1, .int p2, .int p3] d L kd σ (fun v σ2 => (v, σ2) = F_X10_reign a0 p1 p2 p3 σ ∧ zSm [1, 6, 20, 21, 22, 23, 24, 30, 31, 32, 33, 34, 35, 36, 38, 53] [5] L kd σ σ2 ∧ (zI κ 0 L kd σ2)) := by
  refine zMi.of (own := RX10) (by decide +kernel) rfl rfl (Nat.le_of_ble_eq_true rfl) ?_
  intro p e s m args below meth c A Q X ret
  refine zg_lv (lv2 := [(0, .ref a0), (1, .int p1), (2, .int p2), (3, .int p3)]) rfl ?_
  obtain ⟨R, hR⟩ : ∃ R, R = F_X10_reign a0 p1 p2 p3 σ := ⟨_, rfl⟩
  have E := hR
  unfold F_X10_reign at E
  have hS : zSm [1, 6, 20, 21, 22, 23, 24, 30, 31, 32, 33, 34, 35, 36, 38, 53] [5] L kd σ σ := zSm.rf
  refine zg_aload_n X 0 rfl dX10_reign_0 ?_
  refine zg_iload_n X 1 rfl dX10_reign_1 ?_
  refine zg_cVi (As := [.int p1]) (st := []) X ha0 rfl (by decide) rfl (t_X10_isLaw l d L kd κ 0 _ hI a0 ha0 p1 ) mk_X10_169 mc_X10_isLaw mz_X10 mi_X10_isLaw ml_X10_isLaw (na := 1) ⟨md_X10.1, md_X10.2, by decide +kernel⟩ rfl ⟨by decide, by decide⟩ (Nat.le_of_ble_eq_true rfl) dX10_reign_2 (fun v1 s2 hq => ?_)
  obtain ⟨hF, hS2, hI⟩ := hq
  replace E := zLet2_s hF E
  have hS := hS.tr hS2 rfl rfl
  obtain ⟨hv1, hI⟩ := hI
  refine zg_if_eq X 27 dX10_reign_5 (by decide) (fun c3 => ?_) (fun c3 => ?_)
  · skip
    replace E := zIf_t c3 E
    refine zg_iconst X (-1) dX10_reign_27 (by decide) (fun v4 _ hv4 => ?_)
    replace E := zLet_s (zcst hv4 (by decide)) E
    exact ret _ _ _ _ dX10_reign_28 rfl ⟨E.symm.trans hR, hS, hI⟩
  · skip
    replace E := zIf_f c3 E
    refine zg_iload_n X 2 rfl dX10_reign_8 ?_
    refine zg_iconst X 1 dX10_reign_9 (by decide) (fun v5 _ hv5 => ?_)
    replace E := zLet_s (zcst hv5 (by decide)) E
    refine zg_bipush X 24 dX10_reign_10 (by decide) (fun v6 _ hv6 => ?_)
    replace E := zLet_s (zcst hv6 (by decide)) E
    refine zg_cSi (As := [.int p2, .int v5, .int v6]) (st := []) X (t_X10_isWithin l d L kd _ p2 v5 v6 ) mk_X10_229 mc_X10_isWithin mz_X10 ms_X10_isWithin (na := 3) ⟨md_X10.1, md_X10.2, by decide +kernel⟩ rfl ⟨by decide, by decide⟩ (Nat.le_of_ble_eq_true rfl) dX10_reign_12 (fun v7 σ2 hq => ?_)
    obtain ⟨⟨hF, hv7⟩, rfl⟩ := hq
    replace E := zLet_s hF E
    refine zg_if_eq X 27 dX10_reign_15 (by decide) (fun c8 => ?_) (fun c8 => ?_)
    · skip
      replace E := zIf_t c8 E
      refine zg_iconst X (-1) dX10_reign_27 (by decide) (fun v9 _ hv9 => ?_)
      replace E := zLet_s (zcst hv9 (by decide)) E
      exact ret _ _ _ _ dX10_reign_28 rfl ⟨E.symm.trans hR, hS, hI⟩
    · skip
      replace E := zIf_f c8 E
      refine zg_iload_n X 3 rfl dX10_reign_18 ?_
      refine zg_iconst X 0 dX10_reign_19 (by decide) (fun v10 _ hv10 => ?_)
      replace E := zLet_s (zcst hv10 (by decide)) E
      refine zg_iconst X 1 dX10_reign_20 (by decide) (fun v11 _ hv11 => ?_)
      replace E := zLet_s (zcst hv11 (by decide)) E
      refine zg_cSi (As := [.int p3, .int v10, .int v11]) (st := []) X (t_X10_isWithin l d L kd _ p3 v10 v11 ) mk_X10_229 mc_X10_isWithin mz_X10 ms_X10_isWithin (na := 3) ⟨md_X10.1, md_X10.2, by decide +kernel⟩ rfl ⟨by decide, by decide⟩ (Nat.le_of_ble_eq_true rfl) dX10_reign_21 (fun v12 σ2 hq => ?_)
      obtain ⟨⟨hF, hv12⟩, rfl⟩ := hq
      replace E := zLet_s hF E
      refine zg_if_ne X 29 dX10_reign_24 (by decide) (fun c13 => ?_) (fun c13 => ?_)
      · skip
        replace E := zIf_f c13 E
        refine zg_aload_n X 0 rfl dX10_reign_29 ?_
        refine fg_X10_63 X hI ha0 dX10_reign_30 (fun v14 ev14 hv14 => ?_)
        replace E := zLet_s (zgr ev14) E
        refine zg_iconst X 0 dX10_reign_33 (by decide) (fun v15 _ hv15 => ?_)
        replace E := zLet_s (zcst hv15 (by decide)) E
        refine zg_cSv (As := [.ref v14, .int v15]) (st := []) X (t_fill l d L kd κ 0 _ hI 53 v14 hv14 v15 rfl (fun _ => rfl) (by decide)) mk_X10_302 mc_J7_fill_53178 mz_J7 ms_J7_fill_53178 (na := 2) ⟨md_J7.1, md_J7.2, by decide +kernel⟩ rfl ⟨by decide, by decide⟩ (Nat.le_of_ble_eq_true rfl) dX10_reign_34 (fun s16 hq => ?_)
        obtain ⟨hF, hI⟩ := hq
        replace E := zLet_s hF E
        have hS := hS.fil hv14 hF rfl
        refine zg_aload_n X 0 rfl dX10_reign_37 ?_
        refine zg_cVv (As := []) (st := []) X ha0 rfl (by decide) rfl (t_X10_tryFromNow l d L kd κ 0 _ hI a0 ha0 ) mk_X10_296 mc_X10_tryFromNow mz_X10 mi_X10_tryFromNow ml_X10_tryFromNow (na := 0) ⟨md_X10.1, md_X10.2, by decide +kernel⟩ rfl ⟨by decide, by decide⟩ (Nat.le_of_ble_eq_true rfl) dX10_reign_38 (fun s17 hq => ?_)
        obtain ⟨hF, hS2, hI⟩ := hq
        replace E := zLet_s hF E
        have hS := hS.tr hS2 rfl rfl
        refine zg_iconst X 0 dX10_reign_41 (by decide) (fun v18 _ hv18 => ?_)
        replace E := zLet_s (zcst hv18 (by decide)) E
        refine zg_istore X [(4, .int v18), (0, .ref a0), (1, .int p1), (2, .int p2), (3, .int p3)] dX10_reign_42 (by decide) rfl ?_
        have Lp20 : ∀ (nLp20 : Nat) (τ20 : zS) (x19 : Int32), zI κ 1 L kd τ20 → zSm [1, 6, 20, 21, 22, 23, 24, 30, 31, 32, 33, 34, 35, 36, 38, 53] [5] L kd σ τ20 → R = F_X10_reign_44 a0 p1 p2 p3  nLp20 x19 τ20 → 0 ≤ x19.toInt ∧ x19.toInt ≤ 2147483647 → (2147483647) - x19.toInt + 1 < (nLp20 : Int) → zG d L kd A 6 p l e (k2_rm 7 (100 * 7)) s m args below meth c Q τ20 44 [(4, .int x19), (0, .ref a0), (1, .int p1), (2, .int p2), (3, .int p3)] [] := by
          intro nLp20
          induction nLp20 with
          | zero => intro τ20 x19 hI hS E  hxLp20 hm ; exact absurd hm (by omega)
          | succ nLp20 ihLp20 =>
            intro τ20 x19 hI hS E  hxLp20 hmLp20 
            rw [F_X10_reign_44] at E
            refine zg_iload X 0 rfl dX10_reign_44 ?_
            refine zg_iload_n X 3 rfl dX10_reign_46 ?_
            have zx19_z21 := zb_rng x19
            have zp2_z22 := zb_rng p2
            refine zg_icmp_ge X 89 dX10_reign_47 (by decide) (fun c23 => ?_) (fun c23 => ?_)
            · skip
              replace E := zIf_f (Int.not_lt.mpr c23) E
              refine zg_iload_n X 4 rfl dX10_reign_89 ?_
              refine zg_if_ne X 100 dX10_reign_90 (by decide) (fun c24 => ?_) (fun c24 => ?_)
              · skip
                replace E := zIf_f c24 E
                refine zg_aload_n X 1 rfl dX10_reign_100 ?_
                refine zg_cVi (As := []) (st := []) X ha0 rfl (by decide) rfl (t_X10_mostTallied l d L kd κ 1 _ hI a0 ha0 ) mk_X10_311 mc_X10_mostTallied mz_X10 mi_X10_mostTallied ml_X10_mostTallied (na := 0) ⟨md_X10.1, md_X10.2, by decide +kernel⟩ rfl ⟨by decide, by decide⟩ (Nat.le_of_ble_eq_true rfl) dX10_reign_101 (fun v25 s26 hq => ?_)
                obtain ⟨hF, hS2, hI⟩ := hq
                replace E := zLet2_s hF E
                have hS := hS.tr hS2 rfl rfl
                obtain ⟨hv25, hI⟩ := hI
                exact ret _ _ _ _ dX10_reign_104 rfl ⟨E.symm.trans hR, hS, (zi_weak hI)⟩
              · skip
                replace E := zIf_t c24 E
                refine zg_aload_n X 1 rfl dX10_reign_93 ?_
                refine zg_cVi (As := []) (st := []) X ha0 rfl (by decide) rfl (t_X10_tallied l d L kd κ 1 _ hI a0 ha0 ) mk_X10_308 mc_X10_tallied mz_X10 mi_X10_tallied ml_X10_tallied (na := 0) ⟨md_X10.1, md_X10.2, by decide +kernel⟩ rfl ⟨by decide, by decide⟩ (Nat.le_of_ble_eq_true rfl) dX10_reign_94 (fun v27 s28 hq => ?_)
                obtain ⟨hF, hS2, hI⟩ := hq
                replace E := zLet2_s hF E
                have hS := hS.tr hS2 rfl rfl
                refine zg_goto X 104 dX10_reign_97 (by decide) ?_
                exact ret _ _ _ _ dX10_reign_104 rfl ⟨E.symm.trans hR, hS, (zi_weak hI)⟩
            · skip
              replace E := zIf_t c23 E
              refine zg_aload_n X 1 rfl dX10_reign_50 ?_
              refine fg_X10_26 X hI ha0 dX10_reign_51 (fun v29 ev29 hv29 => ?_)
              replace E := zLet_s (zgr ev29) E
              refine zg_iload_n X 2 rfl dX10_reign_54 ?_
              refine zg_cVi (As := [.int p1]) (st := []) X hv29 rfl (by decide) rfl (t_X5_winnerBy l d L kd κ _ hI v29 hv29 p1 (by omega)) mk_X10_172 mc_X5_winnerBy mz_X5 mi_X5_winnerBy ml_X5_winnerBy (na := 1) ⟨md_X5.1, md_X5.2, by decide +kernel⟩ rfl ⟨by decide, by decide⟩ (Nat.le_of_ble_eq_true rfl) dX10_reign_55 (fun v30 s31 hq => ?_)
              obtain ⟨hF, hS2, hI⟩ := hq
              replace E := zLet2_s hF E
              have hS := hS.tr hS2 rfl rfl
              obtain ⟨hv30, hI⟩ := hI
              refine zg_istore X [(5, .int v30), (4, .int x19), (0, .ref a0), (1, .int p1), (2, .int p2), (3, .int p3)] dX10_reign_58 (by decide) rfl ?_
              refine zg_iload X 0 rfl dX10_reign_60 ?_
              refine zg_if_le X 76 dX10_reign_62 (by decide) (fun c32 => ?_) (fun c32 => ?_)
              · skip
                replace E := zIf_f (Int.not_lt.mpr c32) E
                refine zg_aload_n X 2 rfl dX10_reign_76 ?_
                refine fg_X10_26 X hI ha0 dX10_reign_77 (fun v33 ev33 hv33 => ?_)
                replace E := zLet_s (zgr ev33) E
                refine zg_cVv (As := []) (st := []) X hv33 rfl (by decide) rfl (t_X5_goOn l d L kd κ _ hI v33 hv33 ) mk_X10_299 mc_X5_goOn mz_X5 mi_X5_goOn ml_X5_goOn (na := 0) ⟨md_X5.1, md_X5.2, by decide +kernel⟩ rfl ⟨by decide, by decide⟩ (Nat.le_of_ble_eq_true rfl) dX10_reign_80 (fun s34 hq => ?_)
                obtain ⟨hF, hS2, hI⟩ := hq
                replace E := zLet_s hF E
                have hS := hS.tr hS2 rfl rfl
                refine zg_iinc X 1 (fun v35 => [(4, .int v35), (5, .int v30), (0, .ref a0), (1, .int p1), (2, .int p2), (3, .int p3)]) 1 dX10_reign_83 rfl (by decide) (by decide) (by omega) (by omega) (fun _ => rfl) (fun v35 ev35 hv35 => ?_)
                replace E := zLet_s (zinc ev35 (by decide)) E
                refine zg_goto X 44 dX10_reign_86 (by decide) ?_
                refine zg_sub [0, 2, 3, 4, 5] rfl ?_
                exact ihLp20 _ v35 hI hS E  (by omega) (by omega) 
              · skip
                replace E := zIf_t c32 E
                refine zg_aload_n X 2 rfl dX10_reign_65 ?_
                refine fg_X10_63 X hI ha0 dX10_reign_66 (fun v36 ev36 hv36 => ?_)
                replace E := zLet_s (zgr ev36) E
                refine zg_iload X 0 rfl dX10_reign_69 ?_
                refine zg_dup2 X dX10_reign_71 rfl rfl ?_
                refine ag_53 X hI hv36 (by omega) (by omega) dX10_reign_72 (fun v37 ev37 _ => ?_)
                replace E := zLet_s ev37 E
                refine zg_iconst X 1 dX10_reign_73 (by decide) (fun v38 _ hv38 => ?_)
                replace E := zLet_s (zcst hv38 (by decide)) E
                refine zg_iaddW X dX10_reign_74 (fun v39 ev39 => ?_)
                replace E := zLet_s ev39 E
                refine as_53 X hI hv36 (by omega) (by omega) dX10_reign_75 (fun s40 es40 hI => ?_)
                replace E := zLet_s es40 E
                have hS := hS.i hv36 es40 rfl
                refine zg_aload_n X 2 rfl dX10_reign_76 ?_
                refine fg_X10_26 X hI ha0 dX10_reign_77 (fun v41 ev41 hv41 => ?_)
                replace E := zLet_s (zgr ev41) E
                refine zg_cVv (As := []) (st := []) X hv41 rfl (by decide) rfl (t_X5_goOn l d L kd κ _ hI v41 hv41 ) mk_X10_299 mc_X5_goOn mz_X5 mi_X5_goOn ml_X5_goOn (na := 0) ⟨md_X5.1, md_X5.2, by decide +kernel⟩ rfl ⟨by decide, by decide⟩ (Nat.le_of_ble_eq_true rfl) dX10_reign_80 (fun s42 hq => ?_)
                obtain ⟨hF, hS2, hI⟩ := hq
                replace E := zLet_s hF E
                have hS := hS.tr hS2 rfl rfl
                refine zg_iinc X 1 (fun v43 => [(4, .int v43), (5, .int v30), (0, .ref a0), (1, .int p1), (2, .int p2), (3, .int p3)]) 1 dX10_reign_83 rfl (by decide) (by decide) (by omega) (by omega) (fun _ => rfl) (fun v43 ev43 hv43 => ?_)
                replace E := zLet_s (zinc ev43 (by decide)) E
                refine zg_goto X 44 dX10_reign_86 (by decide) ?_
                refine zg_sub [0, 2, 3, 4, 5] rfl ?_
                exact ihLp20 _ v43 hI hS E  (by omega) (by omega) 
        have zrLp20 := zb_rng v18
        refine zg_sub [0, 1, 2, 3, 4] rfl ?_
        exact Lp20 4294967299 _ v18 hI hS E  (by omega) (by omega) 
      · skip
        replace E := zIf_t c13 E
        refine zg_iconst X (-1) dX10_reign_27 (by decide) (fun v44 _ hv44 => ?_)
        replace E := zLet_s (zcst hv44 (by decide)) E
        exact ret _ _ _ _ dX10_reign_28 rfl ⟨E.symm.trans hR, hS, hI⟩
set_option maxHeartbeats 4000000 in
set_option maxRecDepth 100000 in
theorem t_X10_when (l : Launch) (d : zD2) (L : List Nat) (kd : Nat → Nat) (κ : Int) (σ : zS) (hI : zI κ 0 L kd σ) (a0 : Nat) (ha0 : zT L kd a0 10) (p1 : Int32) : zMi l yX10_when (Cond.code yX10_when cX10_when 3 (some .int) :: zWL) 7 [.ref a0, .int p1] d L kd σ (fun v σ2 => (v, σ2) = F_X10_when a0 p1 σ ∧ zSm [1, 6, 20, 21, 22, 23, 24, 30, 31, 32, 33, 34, 35, 36, 38] [5] L kd σ σ2 ∧ (zI κ 0 L kd σ2)) := by
  refine zMi.of (own := RX10) (by decide +kernel) rfl rfl (Nat.le_of_ble_eq_true rfl) ?_
  intro p e s m args below meth c A Q X ret
  refine zg_lv (lv2 := [(0, .ref a0), (1, .int p1)]) rfl ?_
  obtain ⟨R, hR⟩ : ∃ R, R = F_X10_when a0 p1 σ := ⟨_, rfl⟩
  have E := hR
  unfold F_X10_when at E
  have hS : zSm [1, 6, 20, 21, 22, 23, 24, 30, 31, 32, 33, 34, 35, 36, 38] [5] L kd σ σ := zSm.rf
  refine zg_aload_n X 0 rfl dX10_when_0 ?_
  refine zg_cVv (As := []) (st := []) X ha0 rfl (by decide) rfl (t_X10_look l d L kd κ 0 _ hI a0 ha0 ) mk_X10_113 mc_X10_look mz_X10 mi_X10_look ml_X10_look (na := 0) ⟨md_X10.1, md_X10.2, by decide +kernel⟩ rfl ⟨by decide, by decide⟩ (Nat.le_of_ble_eq_true rfl) dX10_when_1 (fun s1 hq => ?_)
  obtain ⟨hF, hS2, hI⟩ := hq
  replace E := zLet_s hF E
  have hS := hS.tr hS2 rfl rfl
  refine zg_aload_n X 0 rfl dX10_when_4 ?_
  refine fg_X10_34 X hI ha0 dX10_when_5 (fun v2 ev2 hv2 => ?_)
  replace E := zLet_s (zgr ev2) E
  refine zg_iload_n X 1 rfl dX10_when_8 ?_
  refine zg_cVi (As := [.int p1]) (st := []) X hv2 rfl (by decide) rfl (t_X6_isSource l d L kd κ 1 _ hI v2 hv2 p1 ) mk_X10_146 mc_X6_isSource mz_X6 mi_X6_isSource ml_X6_isSource (na := 1) ⟨md_X6.1, md_X6.2, by decide +kernel⟩ rfl ⟨by decide, by decide⟩ (Nat.le_of_ble_eq_true rfl) dX10_when_9 (fun v3 s4 hq => ?_)
  obtain ⟨hF, hS2, hI⟩ := hq
  replace E := zLet2_s hF E
  have hS := hS.tr hS2 rfl rfl
  obtain ⟨hv3, hI⟩ := hI
  refine zg_if_ne X 17 dX10_when_12 (by decide) (fun c5 => ?_) (fun c5 => ?_)
  · skip
    replace E := zIf_f c5 E
    refine zg_aload_n X 0 rfl dX10_when_17 ?_
    refine zg_cVv (As := []) (st := []) X ha0 rfl (by decide) rfl (t_X10_tryFromNow l d L kd κ 1 _ hI a0 ha0 ) mk_X10_296 mc_X10_tryFromNow mz_X10 mi_X10_tryFromNow ml_X10_tryFromNow (na := 0) ⟨md_X10.1, md_X10.2, by decide +kernel⟩ rfl ⟨by decide, by decide⟩ (Nat.le_of_ble_eq_true rfl) dX10_when_18 (fun s6 hq => ?_)
    obtain ⟨hF, hS2, hI⟩ := hq
    replace E := zLet_s hF E
    have hS := hS.tr hS2 rfl rfl
    refine zg_iconst X 1 dX10_when_21 (by decide) (fun v7 _ hv7 => ?_)
    replace E := zLet_s (zcst hv7 (by decide)) E
    refine zg_istore_n X [(2, .int v7), (0, .ref a0), (1, .int p1)] dX10_when_22 (by decide) rfl ?_
    have Lp9 : ∀ (nLp9 : Nat) (τ9 : zS) (x8 : Int32), zI κ 1 L kd τ9 → zSm [1, 6, 20, 21, 22, 23, 24, 30, 31, 32, 33, 34, 35, 36, 38] [5] L kd σ τ9 → R = F_X10_when_23 a0 p1  nLp9 x8 τ9 → 1 ≤ x8.toInt ∧ x8.toInt ≤ 61 → (61) - x8.toInt + 1 < (nLp9 : Int) → zG d L kd A 3 p l e (k2_rm 7 (100 * 7)) s m args below meth c Q τ9 23 [(2, .int x8), (0, .ref a0), (1, .int p1)] [] := by
      intro nLp9
      induction nLp9 with
      | zero => intro τ9 x8 hI hS E  hxLp9 hm ; exact absurd hm (by omega)
      | succ nLp9 ihLp9 =>
        intro τ9 x8 hI hS E  hxLp9 hmLp9 
        rw [F_X10_when_23] at E
        refine zg_iload_n X 0 rfl dX10_when_23 ?_
        refine zg_bipush X 60 dX10_when_24 (by decide) (fun v10 _ hv10 => ?_)
        replace E := zLet_s (zcst hv10 (by decide)) E
        refine zg_icmp_gt X 65 dX10_when_26 (by decide) (fun c11 => ?_) (fun c11 => ?_)
        · skip
          replace E := zIf_t c11 E
          refine zg_bipush X (-2) dX10_when_65 (by decide) (fun v12 _ hv12 => ?_)
          replace E := zLet_s (zcst hv12 (by decide)) E
          exact ret _ _ _ _ dX10_when_67 rfl ⟨E.symm.trans hR, hS, (zi_weak hI)⟩
        · skip
          replace E := zIf_f (Int.not_lt.mpr c11) E
          refine zg_aload_n X 1 rfl dX10_when_29 ?_
          refine fg_X10_26 X hI ha0 dX10_when_30 (fun v13 ev13 hv13 => ?_)
          replace E := zLet_s (zgr ev13) E
          refine zg_cVv (As := []) (st := []) X hv13 rfl (by decide) rfl (t_X5_goOn l d L kd κ _ hI v13 hv13 ) mk_X10_299 mc_X5_goOn mz_X5 mi_X5_goOn ml_X5_goOn (na := 0) ⟨md_X5.1, md_X5.2, by decide +kernel⟩ rfl ⟨by decide, by decide⟩ (Nat.le_of_ble_eq_true rfl) dX10_when_33 (fun s14 hq => ?_)
          obtain ⟨hF, hS2, hI⟩ := hq
          replace E := zLet_s hF E
          have hS := hS.tr hS2 rfl rfl
          refine zg_aload_n X 1 rfl dX10_when_36 ?_
          refine fg_X10_56 X hI ha0 dX10_when_37 (fun v15 ev15 hv15 => ?_)
          replace E := zLet_s (zgr ev15) E
          refine fg_X10_149 X hI hv15 dX10_when_40 (fun v16 ev16 hv16 => ?_)
          replace E := zLet_s (zgr ev16) E
          refine zg_iload_n X 2 rfl dX10_when_43 ?_
          refine ag_23 X hI hv16 (by omega) (by omega) dX10_when_44 (fun v17 ev17 _ => ?_)
          replace E := zLet_s ev17 E
          refine zg_aload_n X 1 rfl dX10_when_45 ?_
          refine fg_X10_52 X hI ha0 dX10_when_46 (fun v18 ev18 hv18 => ?_)
          replace E := zLet_s (zgr ev18) E
          refine fg_X10_149 X hI hv18 dX10_when_49 (fun v19 ev19 hv19 => ?_)
          replace E := zLet_s (zgr ev19) E
          refine zg_iload_n X 2 rfl dX10_when_52 ?_
          refine ag_23 X hI hv19 (by omega) (by omega) dX10_when_53 (fun v20 ev20 _ => ?_)
          replace E := zLet_s ev20 E
          have zv17_z21 := zb_rng v17
          have zv20_z22 := zb_rng v20
          refine zg_icmp_le X 59 dX10_when_54 (by decide) (fun c23 => ?_) (fun c23 => ?_)
          · skip
            replace E := zIf_f (Int.not_lt.mpr c23) E
            refine zg_iinc X 1 (fun v24 => [(2, .int v24), (0, .ref a0), (1, .int p1)]) 0 dX10_when_59 rfl (by decide) (by decide) (by omega) (by omega) (fun _ => rfl) (fun v24 ev24 hv24 => ?_)
            replace E := zLet_s (zinc ev24 (by decide)) E
            refine zg_goto X 23 dX10_when_62 (by decide) ?_
            refine zg_sub [0, 1, 2] rfl ?_
            exact ihLp9 _ v24 hI hS E  (by omega) (by omega) 
          · skip
            replace E := zIf_t c23 E
            refine zg_iload_n X 0 rfl dX10_when_57 ?_
            exact ret _ _ _ _ dX10_when_58 rfl ⟨E.symm.trans hR, hS, (zi_weak hI)⟩
    refine zg_sub [0, 1, 2] rfl ?_
    exact Lp9 10000 _ v7 hI hS E  (by omega) (by omega) 
  · skip
    replace E := zIf_t c5 E
    refine zg_iconst X (-1) dX10_when_15 (by decide) (fun v25 _ hv25 => ?_)
    replace E := zLet_s (zcst hv25 (by decide)) E
    exact ret _ _ _ _ dX10_when_16 rfl ⟨E.symm.trans hR, hS, (zi_weak hI)⟩
set_option maxHeartbeats 4000000 in
set_option maxRecDepth 100000 in
theorem t_X10_then (l : Launch) (d : zD2) (L : List Nat) (kd : Nat → Nat) (κ : Int) (σ : zS) (hI : zI κ 0 L kd σ) (a0 : Nat) (ha0 : zT L kd a0 10) (p1 : Int32) (p2 : Int32) (p3 : Int32) : zMi l yX10_then (Cond.code yX10_then cX10_then 4 (some .int) :: zWL) 7 [.ref a0, .int p1, .int p2, .int p3] d L kd σ (fun v σ2 => (v, σ2) = F_X10_then a0 p1 p2 p3 σ ∧ zSm [1, 6, 20, 21, 22, 23, 24, 30, 31, 32, 33, 34, 35, 36, 38] [5] L kd σ σ2 ∧ (zI κ 0 L kd σ2)) := by
  refine zMi.of (own := RX10) (by decide +kernel) rfl rfl (Nat.le_of_ble_eq_true rfl) ?_
  intro p e s m args below meth c A Q X ret
  refine zg_lv (lv2 := [(0, .ref a0), (1, .int p1), (2, .int p2), (3, .int p3)]) rfl ?_
  obtain ⟨R, hR⟩ : ∃ R, R = F_X10_then a0 p1 p2 p3 σ := ⟨_, rfl⟩
  have E := hR
  unfold F_X10_then at E
  have hS : zSm [1, 6, 20, 21, 22, 23, 24, 30, 31, 32, 33, 34, 35, 36, 38] [5] L kd σ σ := zSm.rf
  refine zg_aload_n X 0 rfl dX10_then_0 ?_
  refine zg_cVv (As := []) (st := []) X ha0 rfl (by decide) rfl (t_X10_look l d L kd κ 0 _ hI a0 ha0 ) mk_X10_113 mc_X10_look mz_X10 mi_X10_look ml_X10_look (na := 0) ⟨md_X10.1, md_X10.2, by decide +kernel⟩ rfl ⟨by decide, by decide⟩ (Nat.le_of_ble_eq_true rfl) dX10_then_1 (fun s1 hq => ?_)
  obtain ⟨hF, hS2, hI⟩ := hq
  replace E := zLet_s hF E
  have hS := hS.tr hS2 rfl rfl
  refine zg_aload_n X 0 rfl dX10_then_4 ?_
  refine fg_X10_34 X hI ha0 dX10_then_5 (fun v2 ev2 hv2 => ?_)
  replace E := zLet_s (zgr ev2) E
  refine zg_iload_n X 1 rfl dX10_then_8 ?_
  refine zg_cVi (As := [.int p1]) (st := []) X hv2 rfl (by decide) rfl (t_X6_isSource l d L kd κ 1 _ hI v2 hv2 p1 ) mk_X10_146 mc_X6_isSource mz_X6 mi_X6_isSource ml_X6_isSource (na := 1) ⟨md_X6.1, md_X6.2, by decide +kernel⟩ rfl ⟨by decide, by decide⟩ (Nat.le_of_ble_eq_true rfl) dX10_then_9 (fun v3 s4 hq => ?_)
  obtain ⟨hF, hS2, hI⟩ := hq
  replace E := zLet2_s hF E
  have hS := hS.tr hS2 rfl rfl
  obtain ⟨hv3, hI⟩ := hI
  refine zg_if_eq X 34 dX10_then_12 (by decide) (fun c5 => ?_) (fun c5 => ?_)
  · skip
    replace E := zIf_t c5 E
    refine zg_iconst X (-1) dX10_then_34 (by decide) (fun v6 _ hv6 => ?_)
    replace E := zLet_s (zcst hv6 (by decide)) E
    exact ret _ _ _ _ dX10_then_35 rfl ⟨E.symm.trans hR, hS, (zi_weak hI)⟩
  · skip
    replace E := zIf_f c5 E
    refine zg_iload_n X 2 rfl dX10_then_15 ?_
    refine zg_iconst X 0 dX10_then_16 (by decide) (fun v7 _ hv7 => ?_)
    replace E := zLet_s (zcst hv7 (by decide)) E
    refine zg_bipush X 60 dX10_then_17 (by decide) (fun v8 _ hv8 => ?_)
    replace E := zLet_s (zcst hv8 (by decide)) E
    refine zg_cSi (As := [.int p2, .int v7, .int v8]) (st := []) X (t_X10_isWithin l d L kd _ p2 v7 v8 ) mk_X10_229 mc_X10_isWithin mz_X10 ms_X10_isWithin (na := 3) ⟨md_X10.1, md_X10.2, by decide +kernel⟩ rfl ⟨by decide, by decide⟩ (Nat.le_of_ble_eq_true rfl) dX10_then_19 (fun v9 σ2 hq => ?_)
    obtain ⟨⟨hF, hv9⟩, rfl⟩ := hq
    replace E := zLet_s hF E
    refine zg_if_eq X 34 dX10_then_22 (by decide) (fun c10 => ?_) (fun c10 => ?_)
    · skip
      replace E := zIf_t c10 E
      refine zg_iconst X (-1) dX10_then_34 (by decide) (fun v11 _ hv11 => ?_)
      replace E := zLet_s (zcst hv11 (by decide)) E
      exact ret _ _ _ _ dX10_then_35 rfl ⟨E.symm.trans hR, hS, (zi_weak hI)⟩
    · skip
      replace E := zIf_f c10 E
      refine zg_iload_n X 3 rfl dX10_then_25 ?_
      refine zg_iconst X 0 dX10_then_26 (by decide) (fun v12 _ hv12 => ?_)
      replace E := zLet_s (zcst hv12 (by decide)) E
      refine zg_iconst X 1 dX10_then_27 (by decide) (fun v13 _ hv13 => ?_)
      replace E := zLet_s (zcst hv13 (by decide)) E
      refine zg_cSi (As := [.int p3, .int v12, .int v13]) (st := []) X (t_X10_isWithin l d L kd _ p3 v12 v13 ) mk_X10_229 mc_X10_isWithin mz_X10 ms_X10_isWithin (na := 3) ⟨md_X10.1, md_X10.2, by decide +kernel⟩ rfl ⟨by decide, by decide⟩ (Nat.le_of_ble_eq_true rfl) dX10_then_28 (fun v14 σ2 hq => ?_)
      obtain ⟨⟨hF, hv14⟩, rfl⟩ := hq
      replace E := zLet_s hF E
      refine zg_if_ne X 36 dX10_then_31 (by decide) (fun c15 => ?_) (fun c15 => ?_)
      · skip
        replace E := zIf_f c15 E
        refine zg_aload_n X 0 rfl dX10_then_36 ?_
        refine fg_X10_56 X hI ha0 dX10_then_37 (fun v16 ev16 hv16 => ?_)
        replace E := zLet_s (zgr ev16) E
        refine zg_aload_n X 0 rfl dX10_then_40 ?_
        refine fg_X10_52 X hI ha0 dX10_then_41 (fun v17 ev17 hv17 => ?_)
        replace E := zLet_s (zgr ev17) E
        refine zg_cVv (As := [.ref v17]) (st := []) X hv16 rfl (by decide) rfl (t_X1_copy l d L kd κ 1 _ hI v16 hv16 v17 hv17 ) mk_X10_241 mc_X1_copy mz_X1 mi_X1_copy ml_X1_copy (na := 1) ⟨md_X1.1, md_X1.2, by decide +kernel⟩ rfl ⟨by decide, by decide⟩ (Nat.le_of_ble_eq_true rfl) dX10_then_44 (fun s18 hq => ?_)
        obtain ⟨hF, hS2, hI⟩ := hq
        replace E := zLet_s hF E
        have hS := hS.tr hS2 rfl rfl
        refine zg_aload_n X 0 rfl dX10_then_47 ?_
        refine fg_X10_26 X hI ha0 dX10_then_48 (fun v19 ev19 hv19 => ?_)
        replace E := zLet_s (zgr ev19) E
        refine zg_aload_n X 0 rfl dX10_then_51 ?_
        refine fg_X10_70 X hI ha0 dX10_then_52 (fun v20 ev20 hv20 => ?_)
        replace E := zLet_s (zgr ev20) E
        refine zg_aload_n X 0 rfl dX10_then_55 ?_
        refine fg_X10_56 X hI ha0 dX10_then_56 (fun v21 ev21 hv21 => ?_)
        replace E := zLet_s (zgr ev21) E
        refine zg_iload_n X 2 rfl dX10_then_59 ?_
        refine zg_aload_n X 0 rfl dX10_then_60 ?_
        refine fg_X10_70 X hI ha0 dX10_then_61 (fun v22 ev22 hv22 => ?_)
        replace E := zLet_s (zgr ev22) E
        refine fg_X10_203 X hI hv22 dX10_then_64 (fun v23 ev23 _ => ?_)
        replace E := zLet_s ev23 E
        refine zg_cVv (As := [.ref v20, .ref v21, .int p2, .int v23]) (st := []) X hv19 rfl (by decide) rfl (t_X5_goThrough l d L kd κ 1 _ hI v19 hv19 v20 hv20 v21 hv21 p2 v23 (by omega)) mk_X10_233 mc_X5_goThrough mz_X5 mi_X5_goThrough ml_X5_goThrough (na := 4) ⟨md_X5.1, md_X5.2, by decide +kernel⟩ rfl ⟨by decide, by decide⟩ (Nat.le_of_ble_eq_true rfl) dX10_then_67 (fun s24 hq => ?_)
        obtain ⟨hF, hS2, hI⟩ := hq
        replace E := zLet_s hF E
        have hS := hS.tr hS2 rfl rfl
        refine zg_iload_n X 3 rfl dX10_then_70 ?_
        refine zg_if_ne X 86 dX10_then_71 (by decide) (fun c25 => ?_) (fun c25 => ?_)
        · skip
          replace E := zIf_f c25 E
          refine zg_aload_n X 0 rfl dX10_then_86 ?_
          refine fg_X10_56 X hI ha0 dX10_then_87 (fun v26 ev26 hv26 => ?_)
          replace E := zLet_s (zgr ev26) E
          refine fg_X10_152 X hI hv26 dX10_then_90 (fun v27 ev27 hv27 => ?_)
          replace E := zLet_s (zgr ev27) E
          refine zg_iload_n X 1 rfl dX10_then_93 ?_
          refine ag_24 X hI hv27 (by omega) (by omega) dX10_then_94 (fun v28 ev28 _ => ?_)
          replace E := zLet_s ev28 E
          exact ret _ _ _ _ dX10_then_95 rfl ⟨E.symm.trans hR, hS, (zi_weak hI)⟩
        · skip
          replace E := zIf_t c25 E
          refine zg_aload_n X 0 rfl dX10_then_74 ?_
          refine fg_X10_56 X hI ha0 dX10_then_75 (fun v29 ev29 hv29 => ?_)
          replace E := zLet_s (zgr ev29) E
          refine fg_X10_149 X hI hv29 dX10_then_78 (fun v30 ev30 hv30 => ?_)
          replace E := zLet_s (zgr ev30) E
          refine zg_iload_n X 1 rfl dX10_then_81 ?_
          refine ag_23 X hI hv30 (by omega) (by omega) dX10_then_82 (fun v31 ev31 _ => ?_)
          replace E := zLet_s ev31 E
          refine zg_goto X 95 dX10_then_83 (by decide) ?_
          exact ret _ _ _ _ dX10_then_95 rfl ⟨E.symm.trans hR, hS, (zi_weak hI)⟩
      · skip
        replace E := zIf_t c15 E
        refine zg_iconst X (-1) dX10_then_34 (by decide) (fun v32 _ hv32 => ?_)
        replace E := zLet_s (zcst hv32 (by decide)) E
        exact ret _ _ _ _ dX10_then_35 rfl ⟨E.symm.trans hR, hS, (zi_weak hI)⟩
set_option maxHeartbeats 4000000 in
set_option maxRecDepth 100000 in
theorem t_X10_flowIn (l : Launch) (d : zD2) (L : List Nat) (kd : Nat → Nat) (κ : Int) (σ : zS) (hI : zI κ 0 L kd σ) (a0 : Nat) (ha0 : zT L kd a0 10) (p1 : Int32) : zMi l yX10_flowIn (Cond.code yX10_flowIn cX10_flowIn 2 (some .int) :: zWL) 7 [.ref a0, .int p1] d L kd σ (fun v σ2 => (v, σ2) = F_X10_flowIn a0 p1 σ ∧ zSm [1, 6, 20, 21, 22, 23, 24, 30, 31, 32, 33, 34, 35, 36, 38] [5] L kd σ σ2 ∧ (zI κ 0 L kd σ2)) := by
  refine zMi.of (own := RX10) (by decide +kernel) rfl rfl (Nat.le_of_ble_eq_true rfl) ?_
  intro p e s m args below meth c A Q X ret
  refine zg_lv (lv2 := [(0, .ref a0), (1, .int p1)]) rfl ?_
  obtain ⟨R, hR⟩ : ∃ R, R = F_X10_flowIn a0 p1 σ := ⟨_, rfl⟩
  have E := hR
  unfold F_X10_flowIn at E
  have hS : zSm [1, 6, 20, 21, 22, 23, 24, 30, 31, 32, 33, 34, 35, 36, 38] [5] L kd σ σ := zSm.rf
  refine zg_aload_n X 0 rfl dX10_flowIn_0 ?_
  refine zg_cVi (As := []) (st := []) X ha0 rfl (by decide) rfl (t_X10_hasMouth l d L kd κ 0 _ hI a0 ha0 ) mk_X10_277 mc_X10_hasMouth mz_X10 mi_X10_hasMouth ml_X10_hasMouth (na := 0) ⟨md_X10.1, md_X10.2, by decide +kernel⟩ rfl ⟨by decide, by decide⟩ (Nat.le_of_ble_eq_true rfl) dX10_flowIn_1 (fun v1 s2 hq => ?_)
  obtain ⟨hF, hS2, hI⟩ := hq
  replace E := zLet2_s hF E
  have hS := hS.tr hS2 rfl rfl
  obtain ⟨hv1, hI⟩ := hI
  refine zg_if_eq X 17 dX10_flowIn_4 (by decide) (fun c3 => ?_) (fun c3 => ?_)
  · skip
    replace E := zIf_t c3 E
    refine zg_iconst X (-1) dX10_flowIn_17 (by decide) (fun v4 _ hv4 => ?_)
    replace E := zLet_s (zcst hv4 (by decide)) E
    exact ret _ _ _ _ dX10_flowIn_18 rfl ⟨E.symm.trans hR, hS, hI⟩
  · skip
    replace E := zIf_f c3 E
    refine zg_iload_n X 1 rfl dX10_flowIn_7 ?_
    refine zg_iconst X 0 dX10_flowIn_8 (by decide) (fun v5 _ hv5 => ?_)
    replace E := zLet_s (zcst hv5 (by decide)) E
    refine zg_bipush X 60 dX10_flowIn_9 (by decide) (fun v6 _ hv6 => ?_)
    replace E := zLet_s (zcst hv6 (by decide)) E
    refine zg_cSi (As := [.int p1, .int v5, .int v6]) (st := []) X (t_X10_isWithin l d L kd _ p1 v5 v6 ) mk_X10_229 mc_X10_isWithin mz_X10 ms_X10_isWithin (na := 3) ⟨md_X10.1, md_X10.2, by decide +kernel⟩ rfl ⟨by decide, by decide⟩ (Nat.le_of_ble_eq_true rfl) dX10_flowIn_11 (fun v7 σ2 hq => ?_)
    obtain ⟨⟨hF, hv7⟩, rfl⟩ := hq
    replace E := zLet_s hF E
    refine zg_if_ne X 19 dX10_flowIn_14 (by decide) (fun c8 => ?_) (fun c8 => ?_)
    · skip
      replace E := zIf_f c8 E
      refine zg_aload_n X 0 rfl dX10_flowIn_19 ?_
      refine fg_X10_56 X hI ha0 dX10_flowIn_20 (fun v9 ev9 hv9 => ?_)
      replace E := zLet_s (zgr ev9) E
      refine zg_aload_n X 0 rfl dX10_flowIn_23 ?_
      refine fg_X10_52 X hI ha0 dX10_flowIn_24 (fun v10 ev10 hv10 => ?_)
      replace E := zLet_s (zgr ev10) E
      refine zg_cVv (As := [.ref v10]) (st := []) X hv9 rfl (by decide) rfl (t_X1_copy l d L kd κ 0 _ hI v9 hv9 v10 hv10 ) mk_X10_241 mc_X1_copy mz_X1 mi_X1_copy ml_X1_copy (na := 1) ⟨md_X1.1, md_X1.2, by decide +kernel⟩ rfl ⟨by decide, by decide⟩ (Nat.le_of_ble_eq_true rfl) dX10_flowIn_27 (fun s11 hq => ?_)
      obtain ⟨hF, hS2, hI⟩ := hq
      replace E := zLet_s hF E
      have hS := hS.tr hS2 rfl rfl
      refine zg_aload_n X 0 rfl dX10_flowIn_30 ?_
      refine fg_X10_26 X hI ha0 dX10_flowIn_31 (fun v12 ev12 hv12 => ?_)
      replace E := zLet_s (zgr ev12) E
      refine zg_aload_n X 0 rfl dX10_flowIn_34 ?_
      refine fg_X10_70 X hI ha0 dX10_flowIn_35 (fun v13 ev13 hv13 => ?_)
      replace E := zLet_s (zgr ev13) E
      refine zg_aload_n X 0 rfl dX10_flowIn_38 ?_
      refine fg_X10_56 X hI ha0 dX10_flowIn_39 (fun v14 ev14 hv14 => ?_)
      replace E := zLet_s (zgr ev14) E
      refine zg_iload_n X 1 rfl dX10_flowIn_42 ?_
      refine zg_aload_n X 0 rfl dX10_flowIn_43 ?_
      refine fg_X10_70 X hI ha0 dX10_flowIn_44 (fun v15 ev15 hv15 => ?_)
      replace E := zLet_s (zgr ev15) E
      refine fg_X10_203 X hI hv15 dX10_flowIn_47 (fun v16 ev16 _ => ?_)
      replace E := zLet_s ev16 E
      refine zg_cVv (As := [.ref v13, .ref v14, .int p1, .int v16]) (st := []) X hv12 rfl (by decide) rfl (t_X5_goThrough l d L kd κ 0 _ hI v12 hv12 v13 hv13 v14 hv14 p1 v16 (by omega)) mk_X10_233 mc_X5_goThrough mz_X5 mi_X5_goThrough ml_X5_goThrough (na := 4) ⟨md_X5.1, md_X5.2, by decide +kernel⟩ rfl ⟨by decide, by decide⟩ (Nat.le_of_ble_eq_true rfl) dX10_flowIn_50 (fun s17 hq => ?_)
      obtain ⟨hF, hS2, hI⟩ := hq
      replace E := zLet_s hF E
      have hS := hS.tr hS2 rfl rfl
      refine zg_aload_n X 0 rfl dX10_flowIn_53 ?_
      refine fg_X10_26 X hI ha0 dX10_flowIn_54 (fun v18 ev18 hv18 => ?_)
      replace E := zLet_s (zgr ev18) E
      refine zg_aload_n X 0 rfl dX10_flowIn_57 ?_
      refine fg_X10_70 X hI ha0 dX10_flowIn_58 (fun v19 ev19 hv19 => ?_)
      replace E := zLet_s (zgr ev19) E
      refine zg_aload_n X 0 rfl dX10_flowIn_61 ?_
      refine fg_X10_56 X hI ha0 dX10_flowIn_62 (fun v20 ev20 hv20 => ?_)
      replace E := zLet_s (zgr ev20) E
      refine zg_cVv (As := [.ref v19, .ref v20]) (st := []) X hv18 rfl (by decide) rfl (t_X5_look l d L kd κ 1 _ hI v18 hv18 v19 hv19 v20 hv20 ) mk_X10_271 mc_X5_look mz_X5 mi_X5_look ml_X5_look (na := 2) ⟨md_X5.1, md_X5.2, by decide +kernel⟩ rfl ⟨by decide, by decide⟩ (Nat.le_of_ble_eq_true rfl) dX10_flowIn_65 (fun s21 hq => ?_)
      obtain ⟨hF, hS2, hI⟩ := hq
      replace E := zLet_s hF E
      have hS := hS.tr hS2 rfl rfl
      refine zg_aload_n X 0 rfl dX10_flowIn_68 ?_
      refine zg_cVi (As := []) (st := []) X ha0 rfl (by decide) rfl (t_X10_mouthFlow l d L kd κ 1 _ hI a0 ha0 ) mk_X10_191 mc_X10_mouthFlow mz_X10 mi_X10_mouthFlow ml_X10_mouthFlow (na := 0) ⟨md_X10.1, md_X10.2, by decide +kernel⟩ rfl ⟨by decide, by decide⟩ (Nat.le_of_ble_eq_true rfl) dX10_flowIn_69 (fun v22 s23 hq => ?_)
      obtain ⟨hF, hS2, hI⟩ := hq
      replace E := zLet2_s hF E
      have hS := hS.tr hS2 rfl rfl
      exact ret _ _ _ _ dX10_flowIn_72 rfl ⟨E.symm.trans hR, hS, (zi_weak hI)⟩
    · skip
      replace E := zIf_t c8 E
      refine zg_iconst X (-1) dX10_flowIn_17 (by decide) (fun v24 _ hv24 => ?_)
      replace E := zLet_s (zcst hv24 (by decide)) E
      exact ret _ _ _ _ dX10_flowIn_18 rfl ⟨E.symm.trans hR, hS, hI⟩
set_option maxHeartbeats 4000000 in
set_option maxRecDepth 100000 in
theorem t_X10_year (l : Launch) (d : zD2) (L : List Nat) (kd : Nat → Nat) (κ : Int) (σ : zS) (hI : zI κ 0 L kd σ) (a0 : Nat) (ha0 : zT L kd a0 10) (p1 : Int32) (p2 : Int32) (p3 : Int32) : zMi l yX10_year (Cond.code yX10_year cX10_year 6 (some .int) :: zWL) 7 [.ref a0, .int p1, .int p2, .int p3] d L kd σ (fun v σ2 => (v, σ2) = F_X10_year a0 p1 p2 p3 σ ∧ zSm [1, 6, 20, 21, 22, 23, 24, 30, 31, 32, 33, 34, 35, 36, 38] [5] L kd σ σ2 ∧ (zI κ 0 L kd σ2)) := by
  refine zMi.of (own := RX10) (by decide +kernel) rfl rfl (Nat.le_of_ble_eq_true rfl) ?_
  intro p e s m args below meth c A Q X ret
  refine zg_lv (lv2 := [(0, .ref a0), (1, .int p1), (2, .int p2), (3, .int p3)]) rfl ?_
  obtain ⟨R, hR⟩ : ∃ R, R = F_X10_year a0 p1 p2 p3 σ := ⟨_, rfl⟩
  have E := hR
  unfold F_X10_year at E
  have hS : zSm [1, 6, 20, 21, 22, 23, 24, 30, 31, 32, 33, 34, 35, 36, 38] [5] L kd σ σ := zSm.rf
  refine zg_aload_n X 0 rfl dX10_year_0 ?_
  refine zg_cVv (As := []) (st := []) X ha0 rfl (by decide) rfl (t_X10_look l d L kd κ 0 _ hI a0 ha0 ) mk_X10_113 mc_X10_look mz_X10 mi_X10_look ml_X10_look (na := 0) ⟨md_X10.1, md_X10.2, by decide +kernel⟩ rfl ⟨by decide, by decide⟩ (Nat.le_of_ble_eq_true rfl) dX10_year_1 (fun s1 hq => ?_)
  obtain ⟨hF, hS2, hI⟩ := hq
  replace E := zLet_s hF E
  have hS := hS.tr hS2 rfl rfl
  refine zg_aload_n X 0 rfl dX10_year_4 ?_
  refine fg_X10_34 X hI ha0 dX10_year_5 (fun v2 ev2 hv2 => ?_)
  replace E := zLet_s (zgr ev2) E
  refine zg_iload_n X 1 rfl dX10_year_8 ?_
  refine zg_cVi (As := [.int p1]) (st := []) X hv2 rfl (by decide) rfl (t_X6_isSource l d L kd κ 1 _ hI v2 hv2 p1 ) mk_X10_146 mc_X6_isSource mz_X6 mi_X6_isSource ml_X6_isSource (na := 1) ⟨md_X6.1, md_X6.2, by decide +kernel⟩ rfl ⟨by decide, by decide⟩ (Nat.le_of_ble_eq_true rfl) dX10_year_9 (fun v3 s4 hq => ?_)
  obtain ⟨hF, hS2, hI⟩ := hq
  replace E := zLet2_s hF E
  have hS := hS.tr hS2 rfl rfl
  obtain ⟨hv3, hI⟩ := hI
  refine zg_if_eq X 35 dX10_year_12 (by decide) (fun c5 => ?_) (fun c5 => ?_)
  · skip
    replace E := zIf_t c5 E
    refine zg_iconst X (-1) dX10_year_35 (by decide) (fun v6 _ hv6 => ?_)
    replace E := zLet_s (zcst hv6 (by decide)) E
    exact ret _ _ _ _ dX10_year_36 rfl ⟨E.symm.trans hR, hS, (zi_weak hI)⟩
  · skip
    replace E := zIf_f c5 E
    refine zg_iload_n X 2 rfl dX10_year_15 ?_
    refine zg_iconst X 0 dX10_year_16 (by decide) (fun v7 _ hv7 => ?_)
    replace E := zLet_s (zcst hv7 (by decide)) E
    refine zg_bipush X 60 dX10_year_17 (by decide) (fun v8 _ hv8 => ?_)
    replace E := zLet_s (zcst hv8 (by decide)) E
    refine zg_cSi (As := [.int p2, .int v7, .int v8]) (st := []) X (t_X10_isWithin l d L kd _ p2 v7 v8 ) mk_X10_229 mc_X10_isWithin mz_X10 ms_X10_isWithin (na := 3) ⟨md_X10.1, md_X10.2, by decide +kernel⟩ rfl ⟨by decide, by decide⟩ (Nat.le_of_ble_eq_true rfl) dX10_year_19 (fun v9 σ2 hq => ?_)
    obtain ⟨⟨hF, hv9⟩, rfl⟩ := hq
    replace E := zLet_s hF E
    refine zg_if_eq X 35 dX10_year_22 (by decide) (fun c10 => ?_) (fun c10 => ?_)
    · skip
      replace E := zIf_t c10 E
      refine zg_iconst X (-1) dX10_year_35 (by decide) (fun v11 _ hv11 => ?_)
      replace E := zLet_s (zcst hv11 (by decide)) E
      exact ret _ _ _ _ dX10_year_36 rfl ⟨E.symm.trans hR, hS, (zi_weak hI)⟩
    · skip
      replace E := zIf_f c10 E
      refine zg_iload_n X 3 rfl dX10_year_25 ?_
      refine zg_iconst X 1 dX10_year_26 (by decide) (fun v12 _ hv12 => ?_)
      replace E := zLet_s (zcst hv12 (by decide)) E
      refine zg_bipush X 20 dX10_year_27 (by decide) (fun v13 _ hv13 => ?_)
      replace E := zLet_s (zcst hv13 (by decide)) E
      refine zg_cSi (As := [.int p3, .int v12, .int v13]) (st := []) X (t_X10_isWithin l d L kd _ p3 v12 v13 ) mk_X10_229 mc_X10_isWithin mz_X10 ms_X10_isWithin (na := 3) ⟨md_X10.1, md_X10.2, by decide +kernel⟩ rfl ⟨by decide, by decide⟩ (Nat.le_of_ble_eq_true rfl) dX10_year_29 (fun v14 σ2 hq => ?_)
      obtain ⟨⟨hF, hv14⟩, rfl⟩ := hq
      replace E := zLet_s hF E
      refine zg_if_ne X 37 dX10_year_32 (by decide) (fun c15 => ?_) (fun c15 => ?_)
      · skip
        replace E := zIf_f c15 E
        refine zg_iconst X 0 dX10_year_37 (by decide) (fun v16 _ hv16 => ?_)
        replace E := zLet_s (zcst hv16 (by decide)) E
        refine zg_istore X [(4, .int v16), (0, .ref a0), (1, .int p1), (2, .int p2), (3, .int p3)] dX10_year_38 (by decide) rfl ?_
        refine zg_iconst X 0 dX10_year_40 (by decide) (fun v17 _ hv17 => ?_)
        replace E := zLet_s (zcst hv17 (by decide)) E
        refine zg_istore X [(5, .int v17), (4, .int v16), (0, .ref a0), (1, .int p1), (2, .int p2), (3, .int p3)] dX10_year_41 (by decide) rfl ?_
        have Lp20 : ∀ (nLp20 : Nat) (τ20 : zS) (x18 : Int32) (x19 : Int32), zI κ 1 L kd τ20 → zSm [1, 6, 20, 21, 22, 23, 24, 30, 31, 32, 33, 34, 35, 36, 38] [5] L kd σ τ20 → R = F_X10_year_43 a0 p1 p2 p3  nLp20 x18 x19 τ20 → 0 ≤ x18.toInt ∧ x18.toInt ≤ 2147483647 → (2147483647) - x18.toInt + 1 < (nLp20 : Int) → zG d L kd A 6 p l e (k2_rm 7 (100 * 7)) s m args below meth c Q τ20 43 [(5, .int x18), (4, .int x19), (0, .ref a0), (1, .int p1), (2, .int p2), (3, .int p3)] [] := by
          intro nLp20
          induction nLp20 with
          | zero => intro τ20 x18 x19 hI hS E  hxLp20 hm ; exact absurd hm (by omega)
          | succ nLp20 ihLp20 =>
            intro τ20 x18 x19 hI hS E  hxLp20 hmLp20 
            rw [F_X10_year_43] at E
            refine zg_iload X 0 rfl dX10_year_43 ?_
            refine zg_iload_n X 5 rfl dX10_year_45 ?_
            have zx18_z21 := zb_rng x18
            have zp3_z22 := zb_rng p3
            refine zg_icmp_ge X 103 dX10_year_46 (by decide) (fun c23 => ?_) (fun c23 => ?_)
            · skip
              replace E := zIf_f (Int.not_lt.mpr c23) E
              refine zg_iload X 1 rfl dX10_year_103 ?_
              exact ret _ _ _ _ dX10_year_105 rfl ⟨E.symm.trans hR, hS, (zi_weak hI)⟩
            · skip
              replace E := zIf_t c23 E
              refine zg_aload_n X 2 rfl dX10_year_49 ?_
              refine fg_X10_56 X hI ha0 dX10_year_50 (fun v24 ev24 hv24 => ?_)
              replace E := zLet_s (zgr ev24) E
              refine zg_aload_n X 2 rfl dX10_year_53 ?_
              refine fg_X10_52 X hI ha0 dX10_year_54 (fun v25 ev25 hv25 => ?_)
              replace E := zLet_s (zgr ev25) E
              refine zg_cVv (As := [.ref v25]) (st := []) X hv24 rfl (by decide) rfl (t_X1_copy l d L kd κ 1 _ hI v24 hv24 v25 hv25 ) mk_X10_241 mc_X1_copy mz_X1 mi_X1_copy ml_X1_copy (na := 1) ⟨md_X1.1, md_X1.2, by decide +kernel⟩ rfl ⟨by decide, by decide⟩ (Nat.le_of_ble_eq_true rfl) dX10_year_57 (fun s26 hq => ?_)
              obtain ⟨hF, hS2, hI⟩ := hq
              replace E := zLet_s hF E
              have hS := hS.tr hS2 rfl rfl
              refine zg_aload_n X 2 rfl dX10_year_60 ?_
              refine fg_X10_26 X hI ha0 dX10_year_61 (fun v27 ev27 hv27 => ?_)
              replace E := zLet_s (zgr ev27) E
              refine zg_aload_n X 2 rfl dX10_year_64 ?_
              refine fg_X10_70 X hI ha0 dX10_year_65 (fun v28 ev28 hv28 => ?_)
              replace E := zLet_s (zgr ev28) E
              refine zg_aload_n X 2 rfl dX10_year_68 ?_
              refine fg_X10_56 X hI ha0 dX10_year_69 (fun v29 ev29 hv29 => ?_)
              replace E := zLet_s (zgr ev29) E
              refine zg_iload_n X 4 rfl dX10_year_72 ?_
              refine zg_aload_n X 2 rfl dX10_year_73 ?_
              refine fg_X10_70 X hI ha0 dX10_year_74 (fun v30 ev30 hv30 => ?_)
              replace E := zLet_s (zgr ev30) E
              refine fg_X10_203 X hI hv30 dX10_year_77 (fun v31 ev31 _ => ?_)
              replace E := zLet_s ev31 E
              refine zg_iload X 0 rfl dX10_year_80 ?_
              refine zg_iaddW X dX10_year_82 (fun v32 ev32 => ?_)
              replace E := zLet_s ev32 E
              refine zg_cVv (As := [.ref v28, .ref v29, .int p2, .int v32]) (st := []) X hv27 rfl (by decide) rfl (t_X5_goThrough l d L kd κ 1 _ hI v27 hv27 v28 hv28 v29 hv29 p2 v32 (by omega)) mk_X10_233 mc_X5_goThrough mz_X5 mi_X5_goThrough ml_X5_goThrough (na := 4) ⟨md_X5.1, md_X5.2, by decide +kernel⟩ rfl ⟨by decide, by decide⟩ (Nat.le_of_ble_eq_true rfl) dX10_year_83 (fun s33 hq => ?_)
              obtain ⟨hF, hS2, hI⟩ := hq
              replace E := zLet_s hF E
              have hS := hS.tr hS2 rfl rfl
              refine zg_aload_n X 2 rfl dX10_year_86 ?_
              refine zg_iload_n X 3 rfl dX10_year_87 ?_
              refine zg_cVi (As := [.int p1]) (st := []) X ha0 rfl (by decide) rfl (t_X10_hasWonMost l d L kd κ 1 _ hI a0 ha0 p1 (by omega)) mk_X10_314 mc_X10_hasWonMost mz_X10 mi_X10_hasWonMost ml_X10_hasWonMost (na := 1) ⟨md_X10.1, md_X10.2, by decide +kernel⟩ rfl ⟨by decide, by decide⟩ (Nat.le_of_ble_eq_true rfl) dX10_year_88 (fun v34 s35 hq => ?_)
              obtain ⟨hF, hS2, hI⟩ := hq
              replace E := zLet2_s hF E
              have hS := hS.tr hS2 rfl rfl
              obtain ⟨hv34, hI⟩ := hI
              refine zg_if_eq X 97 dX10_year_91 (by decide) (fun c36 => ?_) (fun c36 => ?_)
              · skip
                replace E := zIf_t c36 E
                refine zg_iinc X 1 (fun v37 => [(5, .int v37), (4, .int x19), (0, .ref a0), (1, .int p1), (2, .int p2), (3, .int p3)]) 0 dX10_year_97 rfl (by decide) (by decide) (by omega) (by omega) (fun _ => rfl) (fun v37 ev37 hv37 => ?_)
                replace E := zLet_s (zinc ev37 (by decide)) E
                refine zg_goto X 43 dX10_year_100 (by decide) ?_
                refine zg_sub [0, 1, 2, 3, 4, 5] rfl ?_
                exact ihLp20 _ v37 x19 hI hS E  (by omega) (by omega) 
              · skip
                replace E := zIf_f c36 E
                refine zg_iincW X (fun v38 => [(4, .int v38), (5, .int x18), (0, .ref a0), (1, .int p1), (2, .int p2), (3, .int p3)]) 1 dX10_year_94 rfl (by decide) (fun _ => rfl) (fun v38 ev38 => ?_)
                replace E := zLet_s (zinc ev38 (by decide)) E
                refine zg_iinc X 1 (fun v39 => [(5, .int v39), (4, .int v38), (0, .ref a0), (1, .int p1), (2, .int p2), (3, .int p3)]) 1 dX10_year_97 rfl (by decide) (by decide) (by omega) (by omega) (fun _ => rfl) (fun v39 ev39 hv39 => ?_)
                replace E := zLet_s (zinc ev39 (by decide)) E
                refine zg_goto X 43 dX10_year_100 (by decide) ?_
                refine zg_sub [0, 1, 2, 3, 4, 5] rfl ?_
                exact ihLp20 _ v39 v38 hI hS E  (by omega) (by omega) 
        have zrLp20 := zb_rng v17
        refine zg_sub [0, 1, 2, 3, 4, 5] rfl ?_
        exact Lp20 4294967299 _ v17 v16 hI hS E  (by omega) (by omega) 
      · skip
        replace E := zIf_t c15 E
        refine zg_iconst X (-1) dX10_year_35 (by decide) (fun v40 _ hv40 => ?_)
        replace E := zLet_s (zcst hv40 (by decide)) E
        exact ret _ _ _ _ dX10_year_36 rfl ⟨E.symm.trans hR, hS, (zi_weak hI)⟩
set_option maxHeartbeats 4000000 in
set_option maxRecDepth 100000 in
theorem t_X10_depth (l : Launch) (d : zD2) (L : List Nat) (kd : Nat → Nat) (κ : Int) (σ : zS) (hI : zI κ 0 L kd σ) (a0 : Nat) (ha0 : zT L kd a0 10) : zMi l yX10_depth (Cond.code yX10_depth cX10_depth 1 (some .int) :: zWL) 7 [.ref a0] d L kd σ (fun v σ2 => (v, σ2) = F_X10_depth a0 σ ∧ zSm [6, 20, 21, 30, 31, 33, 34, 35, 36, 38] [5] L kd σ σ2 ∧ (zI κ 0 L kd σ2)) := by
  refine zMi.of (own := RX10) (by decide +kernel) rfl rfl (Nat.le_of_ble_eq_true rfl) ?_
  intro p e s m args below meth c A Q X ret
  refine zg_lv (lv2 := [(0, .ref a0)]) rfl ?_
  obtain ⟨R, hR⟩ : ∃ R, R = F_X10_depth a0 σ := ⟨_, rfl⟩
  have E := hR
  unfold F_X10_depth at E
  have hS : zSm [6, 20, 21, 30, 31, 33, 34, 35, 36, 38] [5] L kd σ σ := zSm.rf
  refine zg_aload_n X 0 rfl dX10_depth_0 ?_
  refine zg_cVv (As := []) (st := []) X ha0 rfl (by decide) rfl (t_X10_look l d L kd κ 0 _ hI a0 ha0 ) mk_X10_113 mc_X10_look mz_X10 mi_X10_look ml_X10_look (na := 0) ⟨md_X10.1, md_X10.2, by decide +kernel⟩ rfl ⟨by decide, by decide⟩ (Nat.le_of_ble_eq_true rfl) dX10_depth_1 (fun s1 hq => ?_)
  obtain ⟨hF, hS2, hI⟩ := hq
  replace E := zLet_s hF E
  have hS := hS.tr hS2 rfl rfl
  refine zg_aload_n X 0 rfl dX10_depth_4 ?_
  refine fg_X10_34 X hI ha0 dX10_depth_5 (fun v2 ev2 hv2 => ?_)
  replace E := zLet_s (zgr ev2) E
  refine zg_cVi (As := []) (st := []) X hv2 rfl (by decide) rfl (t_X6_deepest l d L kd κ 1 _ hI v2 hv2 ) mk_X10_317 mc_X6_deepest mz_X6 mi_X6_deepest ml_X6_deepest (na := 0) ⟨md_X6.1, md_X6.2, by decide +kernel⟩ rfl ⟨by decide, by decide⟩ (Nat.le_of_ble_eq_true rfl) dX10_depth_8 (fun v3 s4 hq => ?_)
  obtain ⟨hF, hS2, hI⟩ := hq
  replace E := zLet2_s hF E
  have hS := hS.tr hS2 rfl rfl
  exact ret _ _ _ _ dX10_depth_11 rfl ⟨E.symm.trans hR, hS, (zi_weak hI)⟩
set_option maxHeartbeats 4000000 in
set_option maxRecDepth 100000 in
theorem t_X10_order (l : Launch) (d : zD2) (L : List Nat) (kd : Nat → Nat) (κ : Int) (σ : zS) (hI : zI κ 0 L kd σ) (a0 : Nat) (ha0 : zT L kd a0 10) (p1 : Int32) : zMi l yX10_order (Cond.code yX10_order cX10_order 2 (some .int) :: zWL) 7 [.ref a0, .int p1] d L kd σ (fun v σ2 => (v, σ2) = F_X10_order a0 p1 σ ∧ zSm [6, 20, 21, 30, 31, 33, 34, 35, 36, 37, 38] [5] L kd σ σ2 ∧ (zI κ 0 L kd σ2)) := by
  refine zMi.of (own := RX10) (by decide +kernel) rfl rfl (Nat.le_of_ble_eq_true rfl) ?_
  intro p e s m args below meth c A Q X ret
  refine zg_lv (lv2 := [(0, .ref a0), (1, .int p1)]) rfl ?_
  obtain ⟨R, hR⟩ : ∃ R, R = F_X10_order a0 p1 σ := ⟨_, rfl⟩
  have E := hR
  unfold F_X10_order at E
  have hS : zSm [6, 20, 21, 30, 31, 33, 34, 35, 36, 37, 38] [5] L kd σ σ := zSm.rf
  refine zg_aload_n X 0 rfl dX10_order_0 ?_
  refine zg_iload_n X 1 rfl dX10_order_1 ?_
  refine zg_cVi (As := [.int p1]) (st := []) X ha0 rfl (by decide) rfl (t_X10_isPlace l d L kd κ 0 _ hI a0 ha0 p1 ) mk_X10_109 mc_X10_isPlace mz_X10 mi_X10_isPlace ml_X10_isPlace (na := 1) ⟨md_X10.1, md_X10.2, by decide +kernel⟩ rfl ⟨by decide, by decide⟩ (Nat.le_of_ble_eq_true rfl) dX10_order_2 (fun v1 s2 hq => ?_)
  obtain ⟨hF, hS2, hI⟩ := hq
  replace E := zLet2_s hF E
  have hS := hS.tr hS2 rfl rfl
  obtain ⟨hv1, hI⟩ := hI
  refine zg_if_ne X 10 dX10_order_5 (by decide) (fun c3 => ?_) (fun c3 => ?_)
  · skip
    replace E := zIf_f c3 E
    refine zg_aload_n X 0 rfl dX10_order_10 ?_
    refine zg_cVv (As := []) (st := []) X ha0 rfl (by decide) rfl (t_X10_look l d L kd κ 0 _ hI a0 ha0 ) mk_X10_113 mc_X10_look mz_X10 mi_X10_look ml_X10_look (na := 0) ⟨md_X10.1, md_X10.2, by decide +kernel⟩ rfl ⟨by decide, by decide⟩ (Nat.le_of_ble_eq_true rfl) dX10_order_11 (fun s4 hq => ?_)
    obtain ⟨hF, hS2, hI⟩ := hq
    replace E := zLet_s hF E
    have hS := hS.tr hS2 rfl rfl
    refine zg_aload_n X 0 rfl dX10_order_14 ?_
    refine fg_X10_34 X hI ha0 dX10_order_15 (fun v5 ev5 hv5 => ?_)
    replace E := zLet_s (zgr ev5) E
    refine zg_aload_n X 0 rfl dX10_order_18 ?_
    refine fg_X10_52 X hI ha0 dX10_order_19 (fun v6 ev6 hv6 => ?_)
    replace E := zLet_s (zgr ev6) E
    refine zg_iload_n X 1 rfl dX10_order_22 ?_
    refine zg_cVi (As := [.ref v6, .int p1]) (st := []) X hv5 rfl (by decide) rfl (t_X6_orderOf l d L kd κ 1 _ hI v5 hv5 v6 hv6 p1 (by omega)) mk_X10_320 mc_X6_orderOf mz_X6 mi_X6_orderOf ml_X6_orderOf (na := 2) ⟨md_X6.1, md_X6.2, by decide +kernel⟩ rfl ⟨by decide, by decide⟩ (Nat.le_of_ble_eq_true rfl) dX10_order_23 (fun v7 s8 hq => ?_)
    obtain ⟨hF, hS2, hI⟩ := hq
    replace E := zLet2_s hF E
    have hS := hS.tr hS2 rfl rfl
    exact ret _ _ _ _ dX10_order_26 rfl ⟨E.symm.trans hR, hS, (zi_weak hI)⟩
  · skip
    replace E := zIf_t c3 E
    refine zg_iconst X (-1) dX10_order_8 (by decide) (fun v9 _ hv9 => ?_)
    replace E := zLet_s (zcst hv9 (by decide)) E
    exact ret _ _ _ _ dX10_order_9 rfl ⟨E.symm.trans hR, hS, hI⟩
set_option maxHeartbeats 4000000 in
set_option maxRecDepth 100000 in
theorem t_X10_basin (l : Launch) (d : zD2) (L : List Nat) (kd : Nat → Nat) (κ : Int) (σ : zS) (hI : zI κ 0 L kd σ) (a0 : Nat) (ha0 : zT L kd a0 10) (p1 : Int32) (p2 : Int32) : zMi l yX10_basin (Cond.code yX10_basin cX10_basin 4 (some .int) :: zWL) 7 [.ref a0, .int p1, .int p2] d L kd σ (fun v σ2 => (v, σ2) = F_X10_basin a0 p1 p2 σ ∧ zSm [6, 20, 21, 30, 31, 33, 34, 35, 36, 38] [5] L kd σ σ2 ∧ (zI κ 0 L kd σ2)) := by
  refine zMi.of (own := RX10) (by decide +kernel) rfl rfl (Nat.le_of_ble_eq_true rfl) ?_
  intro p e s m args below meth c A Q X ret
  refine zg_lv (lv2 := [(0, .ref a0), (1, .int p1), (2, .int p2)]) rfl ?_
  obtain ⟨R, hR⟩ : ∃ R, R = F_X10_basin a0 p1 p2 σ := ⟨_, rfl⟩
  have E := hR
  unfold F_X10_basin at E
  have hS : zSm [6, 20, 21, 30, 31, 33, 34, 35, 36, 38] [5] L kd σ σ := zSm.rf
  refine zg_aload_n X 0 rfl dX10_basin_0 ?_
  refine zg_iload_n X 1 rfl dX10_basin_1 ?_
  refine zg_cVi (As := [.int p1]) (st := []) X ha0 rfl (by decide) rfl (t_X10_isPlace l d L kd κ 0 _ hI a0 ha0 p1 ) mk_X10_109 mc_X10_isPlace mz_X10 mi_X10_isPlace ml_X10_isPlace (na := 1) ⟨md_X10.1, md_X10.2, by decide +kernel⟩ rfl ⟨by decide, by decide⟩ (Nat.le_of_ble_eq_true rfl) dX10_basin_2 (fun v1 s2 hq => ?_)
  obtain ⟨hF, hS2, hI⟩ := hq
  replace E := zLet2_s hF E
  have hS := hS.tr hS2 rfl rfl
  obtain ⟨hv1, hI⟩ := hI
  refine zg_if_eq X 17 dX10_basin_5 (by decide) (fun c3 => ?_) (fun c3 => ?_)
  · skip
    replace E := zIf_t c3 E
    refine zg_iconst X (-1) dX10_basin_17 (by decide) (fun v4 _ hv4 => ?_)
    replace E := zLet_s (zcst hv4 (by decide)) E
    exact ret _ _ _ _ dX10_basin_18 rfl ⟨E.symm.trans hR, hS, hI⟩
  · skip
    replace E := zIf_f c3 E
    refine zg_iload_n X 2 rfl dX10_basin_8 ?_
    refine zg_iconst X 0 dX10_basin_9 (by decide) (fun v5 _ hv5 => ?_)
    replace E := zLet_s (zcst hv5 (by decide)) E
    refine zg_iconst X 1 dX10_basin_10 (by decide) (fun v6 _ hv6 => ?_)
    replace E := zLet_s (zcst hv6 (by decide)) E
    refine zg_cSi (As := [.int p2, .int v5, .int v6]) (st := []) X (t_X10_isWithin l d L kd _ p2 v5 v6 ) mk_X10_229 mc_X10_isWithin mz_X10 ms_X10_isWithin (na := 3) ⟨md_X10.1, md_X10.2, by decide +kernel⟩ rfl ⟨by decide, by decide⟩ (Nat.le_of_ble_eq_true rfl) dX10_basin_11 (fun v7 σ2 hq => ?_)
    obtain ⟨⟨hF, hv7⟩, rfl⟩ := hq
    replace E := zLet_s hF E
    refine zg_if_ne X 19 dX10_basin_14 (by decide) (fun c8 => ?_) (fun c8 => ?_)
    · skip
      replace E := zIf_f c8 E
      refine zg_aload_n X 0 rfl dX10_basin_19 ?_
      refine zg_cVv (As := []) (st := []) X ha0 rfl (by decide) rfl (t_X10_look l d L kd κ 0 _ hI a0 ha0 ) mk_X10_113 mc_X10_look mz_X10 mi_X10_look ml_X10_look (na := 0) ⟨md_X10.1, md_X10.2, by decide +kernel⟩ rfl ⟨by decide, by decide⟩ (Nat.le_of_ble_eq_true rfl) dX10_basin_20 (fun s9 hq => ?_)
      obtain ⟨hF, hS2, hI⟩ := hq
      replace E := zLet_s hF E
      have hS := hS.tr hS2 rfl rfl
      refine zg_aload_n X 0 rfl dX10_basin_23 ?_
      refine fg_X10_34 X hI ha0 dX10_basin_24 (fun v10 ev10 hv10 => ?_)
      replace E := zLet_s (zgr ev10) E
      refine zg_iload_n X 1 rfl dX10_basin_27 ?_
      refine zg_cVi (As := [.int p1]) (st := []) X hv10 rfl (by decide) rfl (t_X6_comingBy l d L kd κ 1 _ hI v10 hv10 p1 ) mk_X10_324 mc_X6_comingBy mz_X6 mi_X6_comingBy ml_X6_comingBy (na := 1) ⟨md_X6.1, md_X6.2, by decide +kernel⟩ rfl ⟨by decide, by decide⟩ (Nat.le_of_ble_eq_true rfl) dX10_basin_28 (fun v11 s12 hq => ?_)
      obtain ⟨hF, hS2, hI⟩ := hq
      replace E := zLet2_s hF E
      have hS := hS.tr hS2 rfl rfl
      refine zg_istore_n X [(3, .int v11), (0, .ref a0), (1, .int p1), (2, .int p2)] dX10_basin_31 (by decide) rfl ?_
      refine zg_iload_n X 3 rfl dX10_basin_32 ?_
      refine zg_if_ne X 40 dX10_basin_33 (by decide) (fun c13 => ?_) (fun c13 => ?_)
      · skip
        replace E := zIf_f c13 E
        refine zg_aload_n X 1 rfl dX10_basin_40 ?_
        refine fg_X10_26 X hI ha0 dX10_basin_41 (fun v14 ev14 hv14 => ?_)
        replace E := zLet_s (zgr ev14) E
        refine zg_iload_n X 0 rfl dX10_basin_44 ?_
        refine zg_cVi (As := [.int v11]) (st := []) X hv14 rfl (by decide) rfl (t_X5_rainsOf l d L kd κ _ hI v14 hv14 v11 ) mk_X10_327 mc_X5_rainsOf mz_X5 mi_X5_rainsOf ml_X5_rainsOf (na := 1) ⟨md_X5.1, md_X5.2, by decide +kernel⟩ rfl ⟨by decide, by decide⟩ (Nat.le_of_ble_eq_true rfl) dX10_basin_45 (fun v15 s16 hq => ?_)
        obtain ⟨hF, hS2, hI⟩ := hq
        replace E := zLet2_s hF E
        have hS := hS.tr hS2 rfl rfl
        exact ret _ _ _ _ dX10_basin_48 rfl ⟨E.symm.trans hR, hS, (zi_weak hI)⟩
      · skip
        replace E := zIf_t c13 E
        refine zg_iload_n X 0 rfl dX10_basin_36 ?_
        refine zg_goto X 48 dX10_basin_37 (by decide) ?_
        exact ret _ _ _ _ dX10_basin_48 rfl ⟨E.symm.trans hR, hS, (zi_weak hI)⟩
    · skip
      replace E := zIf_t c8 E
      refine zg_iconst X (-1) dX10_basin_17 (by decide) (fun v17 _ hv17 => ?_)
      replace E := zLet_s (zcst hv17 (by decide)) E
      exact ret _ _ _ _ dX10_basin_18 rfl ⟨E.symm.trans hR, hS, hI⟩
set_option maxHeartbeats 4000000 in
set_option maxRecDepth 100000 in
theorem t_X10_tour (l : Launch) (d : zD2) (L : List Nat) (kd : Nat → Nat) (κ : Int) (σ : zS) (hI : zI κ 0 L kd σ) (a0 : Nat) (ha0 : zT L kd a0 10) : zMi l yX10_tour (Cond.code yX10_tour cX10_tour 1 (some .int) :: zWL) 7 [.ref a0] d L kd σ (fun v σ2 => (v, σ2) = F_X10_tour a0 σ ∧ zSm [6, 20, 21, 30, 31, 33, 34, 35, 36, 38] [5] L kd σ σ2 ∧ (zI κ 0 L kd σ2)) := by
  refine zMi.of (own := RX10) (by decide +kernel) rfl rfl (Nat.le_of_ble_eq_true rfl) ?_
  intro p e s m args below meth c A Q X ret
  refine zg_lv (lv2 := [(0, .ref a0)]) rfl ?_
  obtain ⟨R, hR⟩ : ∃ R, R = F_X10_tour a0 σ := ⟨_, rfl⟩
  have E := hR
  unfold F_X10_tour at E
  have hS : zSm [6, 20, 21, 30, 31, 33, 34, 35, 36, 38] [5] L kd σ σ := zSm.rf
  refine zg_aload_n X 0 rfl dX10_tour_0 ?_
  refine zg_cVv (As := []) (st := []) X ha0 rfl (by decide) rfl (t_X10_look l d L kd κ 0 _ hI a0 ha0 ) mk_X10_113 mc_X10_look mz_X10 mi_X10_look ml_X10_look (na := 0) ⟨md_X10.1, md_X10.2, by decide +kernel⟩ rfl ⟨by decide, by decide⟩ (Nat.le_of_ble_eq_true rfl) dX10_tour_1 (fun s1 hq => ?_)
  obtain ⟨hF, hS2, hI⟩ := hq
  replace E := zLet_s hF E
  have hS := hS.tr hS2 rfl rfl
  refine zg_aload_n X 0 rfl dX10_tour_4 ?_
  refine fg_X10_34 X hI ha0 dX10_tour_5 (fun v2 ev2 hv2 => ?_)
  replace E := zLet_s (zgr ev2) E
  refine zg_aload_n X 0 rfl dX10_tour_8 ?_
  refine fg_X10_34 X hI ha0 dX10_tour_9 (fun v3 ev3 hv3 => ?_)
  replace E := zLet_s (zgr ev3) E
  refine zg_cVi (As := []) (st := [.ref v2]) X hv3 rfl (by decide) rfl (t_X6_sources l d L kd κ 1 _ hI v3 hv3 ) mk_X10_188 mc_X6_sources mz_X6 mi_X6_sources ml_X6_sources (na := 0) ⟨md_X6.1, md_X6.2, by decide +kernel⟩ rfl ⟨by decide, by decide⟩ (Nat.le_of_ble_eq_true rfl) dX10_tour_12 (fun v4 s5 hq => ?_)
  obtain ⟨hF, hS2, hI⟩ := hq
  replace E := zLet2_s hF E
  have hS := hS.tr hS2 rfl rfl
  refine zg_cVi (As := [.int v4]) (st := []) X hv2 rfl (by decide) rfl (t_X6_tourOf l d L kd κ 1 _ hI v2 hv2 v4 ) mk_X10_330 mc_X6_tourOf mz_X6 mi_X6_tourOf ml_X6_tourOf (na := 1) ⟨md_X6.1, md_X6.2, by decide +kernel⟩ rfl ⟨by decide, by decide⟩ (Nat.le_of_ble_eq_true rfl) dX10_tour_15 (fun v6 s7 hq => ?_)
  obtain ⟨hF, hS2, hI⟩ := hq
  replace E := zLet2_s hF E
  have hS := hS.tr hS2 rfl rfl
  exact ret _ _ _ _ dX10_tour_18 rfl ⟨E.symm.trans hR, hS, (zi_weak hI)⟩
set_option maxHeartbeats 4000000 in
set_option maxRecDepth 100000 in
theorem t_X10_parted (l : Launch) (d : zD2) (L : List Nat) (kd : Nat → Nat) (κ : Int) (σ : zS) (hI : zI κ 0 L kd σ) (a0 : Nat) (ha0 : zT L kd a0 10) : zMi l yX10_parted (Cond.code yX10_parted cX10_parted 4 (some .int) :: zWL) 7 [.ref a0] d L kd σ (fun v σ2 => (v, σ2) = F_X10_parted a0 σ ∧ zSm [6, 20, 21, 30, 31, 33, 34, 35, 36, 38] [5] L kd σ σ2 ∧ (zI κ 0 L kd σ2)) := by
  refine zMi.of (own := RX10) (by decide +kernel) rfl rfl (Nat.le_of_ble_eq_true rfl) ?_
  intro p e s m args below meth c A Q X ret
  refine zg_lv (lv2 := [(0, .ref a0)]) rfl ?_
  obtain ⟨R, hR⟩ : ∃ R, R = F_X10_parted a0 σ := ⟨_, rfl⟩
  have E := hR
  unfold F_X10_parted at E
  have hS : zSm [6, 20, 21, 30, 31, 33, 34, 35, 36, 38] [5] L kd σ σ := zSm.rf
  refine zg_aload_n X 0 rfl dX10_parted_0 ?_
  refine zg_cVv (As := []) (st := []) X ha0 rfl (by decide) rfl (t_X10_look l d L kd κ 0 _ hI a0 ha0 ) mk_X10_113 mc_X10_look mz_X10 mi_X10_look ml_X10_look (na := 0) ⟨md_X10.1, md_X10.2, by decide +kernel⟩ rfl ⟨by decide, by decide⟩ (Nat.le_of_ble_eq_true rfl) dX10_parted_1 (fun s1 hq => ?_)
  obtain ⟨hF, hS2, hI⟩ := hq
  replace E := zLet_s hF E
  have hS := hS.tr hS2 rfl rfl
  refine zg_aload_n X 0 rfl dX10_parted_4 ?_
  refine fg_X10_34 X hI ha0 dX10_parted_5 (fun v2 ev2 hv2 => ?_)
  replace E := zLet_s (zgr ev2) E
  refine zg_cVi (As := []) (st := []) X hv2 rfl (by decide) rfl (t_X6_sources l d L kd κ 1 _ hI v2 hv2 ) mk_X10_188 mc_X6_sources mz_X6 mi_X6_sources ml_X6_sources (na := 0) ⟨md_X6.1, md_X6.2, by decide +kernel⟩ rfl ⟨by decide, by decide⟩ (Nat.le_of_ble_eq_true rfl) dX10_parted_8 (fun v3 s4 hq => ?_)
  obtain ⟨hF, hS2, hI⟩ := hq
  replace E := zLet2_s hF E
  have hS := hS.tr hS2 rfl rfl
  refine zg_istore_n X [(1, .int v3), (0, .ref a0)] dX10_parted_11 (by decide) rfl ?_
  refine zg_aload_n X 1 rfl dX10_parted_12 ?_
  refine fg_X10_34 X hI ha0 dX10_parted_13 (fun v5 ev5 hv5 => ?_)
  replace E := zLet_s (zgr ev5) E
  refine zg_iload_n X 0 rfl dX10_parted_16 ?_
  refine zg_cVi (As := [.int v3]) (st := []) X hv5 rfl (by decide) rfl (t_X6_tourOf l d L kd κ 1 _ hI v5 hv5 v3 ) mk_X10_330 mc_X6_tourOf mz_X6 mi_X6_tourOf ml_X6_tourOf (na := 1) ⟨md_X6.1, md_X6.2, by decide +kernel⟩ rfl ⟨by decide, by decide⟩ (Nat.le_of_ble_eq_true rfl) dX10_parted_17 (fun v6 s7 hq => ?_)
  obtain ⟨hF, hS2, hI⟩ := hq
  replace E := zLet2_s hF E
  have hS := hS.tr hS2 rfl rfl
  refine zg_istore_n X [(2, .int v6), (1, .int v3), (0, .ref a0)] dX10_parted_20 (by decide) rfl ?_
  refine zg_iconst X 0 dX10_parted_21 (by decide) (fun v8 _ hv8 => ?_)
  replace E := zLet_s (zcst hv8 (by decide)) E
  refine zg_istore_n X [(3, .int v8), (2, .int v6), (1, .int v3), (0, .ref a0)] dX10_parted_22 (by decide) rfl ?_
  have Lp11 : ∀ (nLp11 : Nat) (τ11 : zS) (x9 : Int32) (x10 : Int32), zI κ 1 L kd τ11 → zSm [6, 20, 21, 30, 31, 33, 34, 35, 36, 38] [5] L kd σ τ11 → R = F_X10_parted_23 v3 a0  nLp11 x9 x10 τ11 → 0 ≤ x9.toInt ∧ x9.toInt ≤ 2147483647 → (2147483647) - x9.toInt + 1 < (nLp11 : Int) → zG d L kd A 4 p l e (k2_rm 7 (100 * 7)) s m args below meth c Q τ11 23 [(3, .int x9), (2, .int x10), (1, .int v3), (0, .ref a0)] [] := by
    intro nLp11
    induction nLp11 with
    | zero => intro τ11 x9 x10 hI hS E  hxLp11 hm ; exact absurd hm (by omega)
    | succ nLp11 ihLp11 =>
      intro τ11 x9 x10 hI hS E  hxLp11 hmLp11 
      rw [F_X10_parted_23] at E
      refine zg_iload_n X 0 rfl dX10_parted_23 ?_
      refine zg_iload_n X 2 rfl dX10_parted_24 ?_
      have zx9_z12 := zb_rng x9
      have zv3_z13 := zb_rng v3
      refine zg_icmp_ge X 69 dX10_parted_25 (by decide) (fun c14 => ?_) (fun c14 => ?_)
      · skip
        replace E := zIf_f (Int.not_lt.mpr c14) E
        refine zg_iload_n X 1 rfl dX10_parted_69 ?_
        exact ret _ _ _ _ dX10_parted_70 rfl ⟨E.symm.trans hR, hS, (zi_weak hI)⟩
      · skip
        replace E := zIf_t c14 E
        refine zg_iload_n X 0 rfl dX10_parted_28 ?_
        refine zg_iload_n X 2 rfl dX10_parted_29 ?_
        refine zg_iandW X dX10_parted_30 (fun v15 ev15 => ?_)
        replace E := zLet_s ev15 E
        refine zg_iload_n X 0 rfl dX10_parted_31 ?_
        refine zg_icmp_ne X 63 dX10_parted_32 (by decide) (fun c16 => ?_) (fun c16 => ?_)
        · skip
          replace E := zIf_f c16 E
          refine zg_iinc X 1 (fun v17 => [(3, .int v17), (2, .int x10), (1, .int v3), (0, .ref a0)]) 0 dX10_parted_63 rfl (by decide) (by decide) (by omega) (by omega) (fun _ => rfl) (fun v17 ev17 hv17 => ?_)
          replace E := zLet_s (zinc ev17 (by decide)) E
          refine zg_goto X 23 dX10_parted_66 (by decide) ?_
          refine zg_sub [0, 1, 2, 3] rfl ?_
          exact ihLp11 _ v17 x10 hI hS E  (by omega) (by omega) 
        · skip
          replace E := zIf_t c16 E
          refine zg_iload_n X 1 rfl dX10_parted_35 ?_
          refine zg_aload_n X 3 rfl dX10_parted_36 ?_
          refine fg_X10_34 X hI ha0 dX10_parted_37 (fun v18 ev18 hv18 => ?_)
          replace E := zLet_s (zgr ev18) E
          refine zg_iload_n X 0 rfl dX10_parted_40 ?_
          refine zg_cVi (As := [.int x9]) (st := [.int x10]) X hv18 rfl (by decide) rfl (t_X6_tourOf l d L kd κ 1 _ hI v18 hv18 x9 ) mk_X10_330 mc_X6_tourOf mz_X6 mi_X6_tourOf ml_X6_tourOf (na := 1) ⟨md_X6.1, md_X6.2, by decide +kernel⟩ rfl ⟨by decide, by decide⟩ (Nat.le_of_ble_eq_true rfl) dX10_parted_41 (fun v19 s20 hq => ?_)
          obtain ⟨hF, hS2, hI⟩ := hq
          replace E := zLet2_s hF E
          have hS := hS.tr hS2 rfl rfl
          refine zg_aload_n X 3 rfl dX10_parted_44 ?_
          refine fg_X10_34 X hI ha0 dX10_parted_45 (fun v21 ev21 hv21 => ?_)
          replace E := zLet_s (zgr ev21) E
          refine zg_iload_n X 2 rfl dX10_parted_48 ?_
          refine zg_iload_n X 0 rfl dX10_parted_49 ?_
          refine zg_iconst X (-1) dX10_parted_50 (by decide) (fun v22 _ hv22 => ?_)
          replace E := zLet_s (zcst hv22 (by decide)) E
          refine zg_ixorW X dX10_parted_51 (fun v23 ev23 => ?_)
          replace E := zLet_s ev23 E
          refine zg_iandW X dX10_parted_52 (fun v24 ev24 => ?_)
          replace E := zLet_s ev24 E
          refine zg_cVi (As := [.int v24]) (st := [.int v19, .int x10]) X hv21 rfl (by decide) rfl (t_X6_tourOf l d L kd κ 1 _ hI v21 hv21 v24 ) mk_X10_330 mc_X6_tourOf mz_X6 mi_X6_tourOf ml_X6_tourOf (na := 1) ⟨md_X6.1, md_X6.2, by decide +kernel⟩ rfl ⟨by decide, by decide⟩ (Nat.le_of_ble_eq_true rfl) dX10_parted_53 (fun v25 s26 hq => ?_)
          obtain ⟨hF, hS2, hI⟩ := hq
          replace E := zLet2_s hF E
          have hS := hS.tr hS2 rfl rfl
          refine zg_max X wj_X10_333 ⟨by decide, Nat.le_of_ble_eq_true rfl⟩ dX10_parted_56 (fun v27 hv27 => ?_)
          replace E := zLet_s (zmax_e hv27) E
          refine zg_min X wj_X10_262 ⟨by decide, Nat.le_of_ble_eq_true rfl⟩ dX10_parted_59 (fun v28 hv28 => ?_)
          replace E := zLet_s (zmin_e hv28) E
          refine zg_istore_n X [(2, .int v28), (3, .int x9), (1, .int v3), (0, .ref a0)] dX10_parted_62 (by decide) rfl ?_
          refine zg_iinc X 1 (fun v29 => [(3, .int v29), (2, .int v28), (1, .int v3), (0, .ref a0)]) 1 dX10_parted_63 rfl (by decide) (by decide) (by omega) (by omega) (fun _ => rfl) (fun v29 ev29 hv29 => ?_)
          replace E := zLet_s (zinc ev29 (by decide)) E
          refine zg_goto X 23 dX10_parted_66 (by decide) ?_
          refine zg_sub [0, 1, 2, 3] rfl ?_
          exact ihLp11 _ v29 v28 hI hS E  (by omega) (by omega) 
  have zrLp11 := zb_rng v8
  refine zg_sub [0, 1, 2, 3] rfl ?_
  exact Lp11 4294967299 _ v8 v6 hI hS E  (by omega) (by omega) 
set_option maxHeartbeats 4000000 in
set_option maxRecDepth 100000 in
theorem t_X10_meet (l : Launch) (d : zD2) (L : List Nat) (kd : Nat → Nat) (κ : Int) (σ : zS) (hI : zI κ 0 L kd σ) (a0 : Nat) (ha0 : zT L kd a0 10) (p1 : Int32) (p2 : Int32) (p3 : Int32) : zMi l yX10_meet (Cond.code yX10_meet cX10_meet 5 (some .int) :: zWL) 7 [.ref a0, .int p1, .int p2, .int p3] d L kd σ (fun v σ2 => (v, σ2) = F_X10_meet a0 p1 p2 p3 σ ∧ zSm [6, 20, 21, 30, 31, 33, 34, 35, 36, 38] [5] L kd σ σ2 ∧ (zI κ 0 L kd σ2)) := by
  refine zMi.of (own := RX10) (by decide +kernel) rfl rfl (Nat.le_of_ble_eq_true rfl) ?_
  intro p e s m args below meth c A Q X ret
  refine zg_lv (lv2 := [(0, .ref a0), (1, .int p1), (2, .int p2), (3, .int p3)]) rfl ?_
  obtain ⟨R, hR⟩ : ∃ R, R = F_X10_meet a0 p1 p2 p3 σ := ⟨_, rfl⟩
  have E := hR
  unfold F_X10_meet at E
  have hS : zSm [6, 20, 21, 30, 31, 33, 34, 35, 36, 38] [5] L kd σ σ := zSm.rf
  refine zg_aload_n X 0 rfl dX10_meet_0 ?_
  refine zg_iload_n X 1 rfl dX10_meet_1 ?_
  refine zg_cVi (As := [.int p1]) (st := []) X ha0 rfl (by decide) rfl (t_X10_isPlace l d L kd κ 0 _ hI a0 ha0 p1 ) mk_X10_109 mc_X10_isPlace mz_X10 mi_X10_isPlace ml_X10_isPlace (na := 1) ⟨md_X10.1, md_X10.2, by decide +kernel⟩ rfl ⟨by decide, by decide⟩ (Nat.le_of_ble_eq_true rfl) dX10_meet_2 (fun v1 s2 hq => ?_)
  obtain ⟨hF, hS2, hI⟩ := hq
  replace E := zLet2_s hF E
  have hS := hS.tr hS2 rfl rfl
  obtain ⟨hv1, hI⟩ := hI
  refine zg_if_eq X 25 dX10_meet_5 (by decide) (fun c3 => ?_) (fun c3 => ?_)
  · skip
    replace E := zIf_t c3 E
    refine zg_iconst X (-1) dX10_meet_25 (by decide) (fun v4 _ hv4 => ?_)
    replace E := zLet_s (zcst hv4 (by decide)) E
    exact ret _ _ _ _ dX10_meet_26 rfl ⟨E.symm.trans hR, hS, hI⟩
  · skip
    replace E := zIf_f c3 E
    refine zg_aload_n X 0 rfl dX10_meet_8 ?_
    refine zg_iload_n X 2 rfl dX10_meet_9 ?_
    refine zg_cVi (As := [.int p2]) (st := []) X ha0 rfl (by decide) rfl (t_X10_isPlace l d L kd κ 0 _ hI a0 ha0 p2 ) mk_X10_109 mc_X10_isPlace mz_X10 mi_X10_isPlace ml_X10_isPlace (na := 1) ⟨md_X10.1, md_X10.2, by decide +kernel⟩ rfl ⟨by decide, by decide⟩ (Nat.le_of_ble_eq_true rfl) dX10_meet_10 (fun v5 s6 hq => ?_)
    obtain ⟨hF, hS2, hI⟩ := hq
    replace E := zLet2_s hF E
    have hS := hS.tr hS2 rfl rfl
    obtain ⟨hv5, hI⟩ := hI
    refine zg_if_eq X 25 dX10_meet_13 (by decide) (fun c7 => ?_) (fun c7 => ?_)
    · skip
      replace E := zIf_t c7 E
      refine zg_iconst X (-1) dX10_meet_25 (by decide) (fun v8 _ hv8 => ?_)
      replace E := zLet_s (zcst hv8 (by decide)) E
      exact ret _ _ _ _ dX10_meet_26 rfl ⟨E.symm.trans hR, hS, hI⟩
    · skip
      replace E := zIf_f c7 E
      refine zg_iload_n X 3 rfl dX10_meet_16 ?_
      refine zg_iconst X 0 dX10_meet_17 (by decide) (fun v9 _ hv9 => ?_)
      replace E := zLet_s (zcst hv9 (by decide)) E
      refine zg_iconst X 1 dX10_meet_18 (by decide) (fun v10 _ hv10 => ?_)
      replace E := zLet_s (zcst hv10 (by decide)) E
      refine zg_cSi (As := [.int p3, .int v9, .int v10]) (st := []) X (t_X10_isWithin l d L kd _ p3 v9 v10 ) mk_X10_229 mc_X10_isWithin mz_X10 ms_X10_isWithin (na := 3) ⟨md_X10.1, md_X10.2, by decide +kernel⟩ rfl ⟨by decide, by decide⟩ (Nat.le_of_ble_eq_true rfl) dX10_meet_19 (fun v11 σ2 hq => ?_)
      obtain ⟨⟨hF, hv11⟩, rfl⟩ := hq
      replace E := zLet_s hF E
      refine zg_if_ne X 27 dX10_meet_22 (by decide) (fun c12 => ?_) (fun c12 => ?_)
      · skip
        replace E := zIf_f c12 E
        refine zg_aload_n X 0 rfl dX10_meet_27 ?_
        refine zg_cVv (As := []) (st := []) X ha0 rfl (by decide) rfl (t_X10_look l d L kd κ 0 _ hI a0 ha0 ) mk_X10_113 mc_X10_look mz_X10 mi_X10_look ml_X10_look (na := 0) ⟨md_X10.1, md_X10.2, by decide +kernel⟩ rfl ⟨by decide, by decide⟩ (Nat.le_of_ble_eq_true rfl) dX10_meet_28 (fun s13 hq => ?_)
        obtain ⟨hF, hS2, hI⟩ := hq
        replace E := zLet_s hF E
        have hS := hS.tr hS2 rfl rfl
        refine zg_aload_n X 0 rfl dX10_meet_31 ?_
        refine fg_X10_34 X hI ha0 dX10_meet_32 (fun v14 ev14 hv14 => ?_)
        replace E := zLet_s (zgr ev14) E
        refine zg_iload_n X 1 rfl dX10_meet_35 ?_
        refine zg_iload_n X 2 rfl dX10_meet_36 ?_
        refine zg_cVi (As := [.int p1, .int p2]) (st := []) X hv14 rfl (by decide) rfl (t_X6_meeting l d L kd κ 1 _ hI v14 hv14 p1 p2 (by omega) (by omega)) mk_X10_336 mc_X6_meeting mz_X6 mi_X6_meeting ml_X6_meeting (na := 2) ⟨md_X6.1, md_X6.2, by decide +kernel⟩ rfl ⟨by decide, by decide⟩ (Nat.le_of_ble_eq_true rfl) dX10_meet_37 (fun v15 s16 hq => ?_)
        obtain ⟨hF, hS2, hI⟩ := hq
        replace E := zLet2_s hF E
        have hS := hS.tr hS2 rfl rfl
        obtain ⟨hv15, hI⟩ := hI
        refine zg_istore X [(4, .int v15), (0, .ref a0), (1, .int p1), (2, .int p2), (3, .int p3)] dX10_meet_40 (by decide) rfl ?_
        refine zg_iload_n X 4 rfl dX10_meet_42 ?_
        refine zg_if_ne X 51 dX10_meet_43 (by decide) (fun c17 => ?_) (fun c17 => ?_)
        · skip
          replace E := zIf_f c17 E
          refine zg_aload_n X 1 rfl dX10_meet_51 ?_
          refine fg_X10_34 X hI ha0 dX10_meet_52 (fun v18 ev18 hv18 => ?_)
          replace E := zLet_s (zgr ev18) E
          refine fg_X10_138 X hI hv18 dX10_meet_55 (fun v19 ev19 hv19 => ?_)
          replace E := zLet_s (zgr ev19) E
          refine zg_iload_n X 2 rfl dX10_meet_58 ?_
          refine ag_35 X hI hv19 (by omega) (by omega) dX10_meet_59 (fun v20 ev20 _ => ?_)
          replace E := zLet_s ev20 E
          refine zg_aload_n X 1 rfl dX10_meet_60 ?_
          refine fg_X10_34 X hI ha0 dX10_meet_61 (fun v21 ev21 hv21 => ?_)
          replace E := zLet_s (zgr ev21) E
          refine fg_X10_138 X hI hv21 dX10_meet_64 (fun v22 ev22 hv22 => ?_)
          replace E := zLet_s (zgr ev22) E
          refine zg_iload_n X 3 rfl dX10_meet_67 ?_
          refine ag_35 X hI hv22 (by omega) (by omega) dX10_meet_68 (fun v23 ev23 _ => ?_)
          replace E := zLet_s ev23 E
          refine zg_iaddW X dX10_meet_69 (fun v24 ev24 => ?_)
          replace E := zLet_s ev24 E
          refine zg_iconst X 2 dX10_meet_70 (by decide) (fun v25 _ hv25 => ?_)
          replace E := zLet_s (zcst hv25 (by decide)) E
          refine zg_aload_n X 1 rfl dX10_meet_71 ?_
          refine fg_X10_34 X hI ha0 dX10_meet_72 (fun v26 ev26 hv26 => ?_)
          replace E := zLet_s (zgr ev26) E
          refine fg_X10_138 X hI hv26 dX10_meet_75 (fun v27 ev27 hv27 => ?_)
          replace E := zLet_s (zgr ev27) E
          refine zg_iload X 0 rfl dX10_meet_78 ?_
          refine ag_35 X hI hv27 (by omega) (by omega) dX10_meet_80 (fun v28 ev28 _ => ?_)
          replace E := zLet_s ev28 E
          refine zg_imulW X dX10_meet_81 (fun v29 ev29 => ?_)
          replace E := zLet_s ev29 E
          refine zg_isubW X dX10_meet_82 (fun v30 ev30 => ?_)
          replace E := zLet_s ev30 E
          exact ret _ _ _ _ dX10_meet_83 rfl ⟨E.symm.trans hR, hS, (zi_weak hI)⟩
        · skip
          replace E := zIf_t c17 E
          refine zg_iload X 0 rfl dX10_meet_46 ?_
          refine zg_goto X 83 dX10_meet_48 (by decide) ?_
          exact ret _ _ _ _ dX10_meet_83 rfl ⟨E.symm.trans hR, hS, (zi_weak hI)⟩
      · skip
        replace E := zIf_t c12 E
        refine zg_iconst X (-1) dX10_meet_25 (by decide) (fun v31 _ hv31 => ?_)
        replace E := zLet_s (zcst hv31 (by decide)) E
        exact ret _ _ _ _ dX10_meet_26 rfl ⟨E.symm.trans hR, hS, hI⟩
set_option maxHeartbeats 4000000 in
set_option maxRecDepth 100000 in
theorem t_X10_tell (l : Launch) (d : zD2) (L : List Nat) (kd : Nat → Nat) (κ : Int) (σ : zS) (hI : zI κ 0 L kd σ) (a0 : Nat) (ha0 : zT L kd a0 10) (p1 : Int32) (p2 : Int32) (p3 : Int32) (p4 : Int32) (hq0 : 0 ≤ p4.toInt ∧ p4.toInt ≤ 1) : zMi l yX10_tell (Cond.code yX10_tell cX10_tell 5 (some .int) :: zWL) 2 [.ref a0, .int p1, .int p2, .int p3, .int p4] d L kd σ (fun v σ2 => (v, σ2) = F_X10_tell a0 p1 p2 p3 p4 σ ∧ zSm [2, 25, 26, 27, 28] [] L kd σ σ2 ∧ (zI κ 0 L kd σ2)) := by
  refine zMi.of (own := RX10) (by decide +kernel) rfl rfl (Nat.le_of_ble_eq_true rfl) ?_
  intro p e s m args below meth c A Q X ret
  refine zg_lv (lv2 := [(0, .ref a0), (1, .int p1), (2, .int p2), (3, .int p3), (4, .int p4)]) rfl ?_
  obtain ⟨R, hR⟩ : ∃ R, R = F_X10_tell a0 p1 p2 p3 p4 σ := ⟨_, rfl⟩
  have E := hR
  unfold F_X10_tell at E
  have hS : zSm [2, 25, 26, 27, 28] [] L kd σ σ := zSm.rf
  refine zg_aload_n X 0 rfl dX10_tell_0 ?_
  refine zg_iload_n X 1 rfl dX10_tell_1 ?_
  refine zg_cVi (As := [.int p1]) (st := []) X ha0 rfl (by decide) rfl (t_X10_isPlace l d L kd κ 0 _ hI a0 ha0 p1 ) mk_X10_109 mc_X10_isPlace mz_X10 mi_X10_isPlace ml_X10_isPlace (na := 1) ⟨md_X10.1, md_X10.2, by decide +kernel⟩ rfl ⟨by decide, by decide⟩ (Nat.le_of_ble_eq_true rfl) dX10_tell_2 (fun v1 s2 hq => ?_)
  obtain ⟨hF, hS2, hI⟩ := hq
  replace E := zLet2_s hF E
  have hS := hS.tr hS2 rfl rfl
  obtain ⟨hv1, hI⟩ := hI
  refine zg_if_eq X 30 dX10_tell_5 (by decide) (fun c3 => ?_) (fun c3 => ?_)
  · skip
    replace E := zIf_t c3 E
    refine zg_iconst X (-1) dX10_tell_30 (by decide) (fun v4 _ hv4 => ?_)
    replace E := zLet_s (zcst hv4 (by decide)) E
    exact ret _ _ _ _ dX10_tell_31 rfl ⟨E.symm.trans hR, hS, hI⟩
  · skip
    replace E := zIf_f c3 E
    refine zg_iload_n X 2 rfl dX10_tell_8 ?_
    refine zg_iconst X 0 dX10_tell_9 (by decide) (fun v5 _ hv5 => ?_)
    replace E := zLet_s (zcst hv5 (by decide)) E
    refine zg_sipush X 9999 dX10_tell_10 (by decide) (fun v6 _ hv6 => ?_)
    replace E := zLet_s (zcst hv6 (by decide)) E
    refine zg_cSi (As := [.int p2, .int v5, .int v6]) (st := []) X (t_X10_isWithin l d L kd _ p2 v5 v6 ) mk_X10_229 mc_X10_isWithin mz_X10 ms_X10_isWithin (na := 3) ⟨md_X10.1, md_X10.2, by decide +kernel⟩ rfl ⟨by decide, by decide⟩ (Nat.le_of_ble_eq_true rfl) dX10_tell_13 (fun v7 σ2 hq => ?_)
    obtain ⟨⟨hF, hv7⟩, rfl⟩ := hq
    replace E := zLet_s hF E
    refine zg_if_eq X 30 dX10_tell_16 (by decide) (fun c8 => ?_) (fun c8 => ?_)
    · skip
      replace E := zIf_t c8 E
      refine zg_iconst X (-1) dX10_tell_30 (by decide) (fun v9 _ hv9 => ?_)
      replace E := zLet_s (zcst hv9 (by decide)) E
      exact ret _ _ _ _ dX10_tell_31 rfl ⟨E.symm.trans hR, hS, hI⟩
    · skip
      replace E := zIf_f c8 E
      refine zg_iload_n X 3 rfl dX10_tell_19 ?_
      refine zg_iload_n X 2 rfl dX10_tell_20 ?_
      refine zg_sipush X 9999 dX10_tell_21 (by decide) (fun v10 _ hv10 => ?_)
      replace E := zLet_s (zcst hv10 (by decide)) E
      refine zg_cSi (As := [.int p3, .int p2, .int v10]) (st := []) X (t_X10_isWithin l d L kd _ p3 p2 v10 ) mk_X10_229 mc_X10_isWithin mz_X10 ms_X10_isWithin (na := 3) ⟨md_X10.1, md_X10.2, by decide +kernel⟩ rfl ⟨by decide, by decide⟩ (Nat.le_of_ble_eq_true rfl) dX10_tell_24 (fun v11 σ2 hq => ?_)
      obtain ⟨⟨hF, hv11⟩, rfl⟩ := hq
      replace E := zLet_s hF E
      refine zg_if_ne X 32 dX10_tell_27 (by decide) (fun c12 => ?_) (fun c12 => ?_)
      · skip
        replace E := zIf_f c12 E
        refine zg_aload_n X 0 rfl dX10_tell_32 ?_
        refine fg_X10_45 X hI ha0 dX10_tell_33 (fun v13 ev13 hv13 => ?_)
        replace E := zLet_s (zgr ev13) E
        refine zg_iload_n X 1 rfl dX10_tell_36 ?_
        refine zg_iload_n X 2 rfl dX10_tell_37 ?_
        refine zg_iload_n X 3 rfl dX10_tell_38 ?_
        refine zg_iload X 4 rfl dX10_tell_39 ?_
        refine zg_cVi (As := [.int p1, .int p2, .int p3, .int p4]) (st := []) X hv13 rfl (by decide) rfl (t_X2_add l d L kd κ 0 _ hI v13 hv13 p1 p2 p3 p4 (by omega) (by omega)) mk_X10_339 mc_X2_add mz_X2 mi_X2_add ml_X2_add (na := 4) ⟨md_X2.1, md_X2.2, by decide +kernel⟩ rfl ⟨by decide, by decide⟩ (Nat.le_of_ble_eq_true rfl) dX10_tell_41 (fun v14 s15 hq => ?_)
        obtain ⟨hF, hS2, hI⟩ := hq
        replace E := zLet2_s hF E
        have hS := hS.tr hS2 rfl rfl
        exact ret _ _ _ _ dX10_tell_44 rfl ⟨E.symm.trans hR, hS, hI⟩
      · skip
        replace E := zIf_t c12 E
        refine zg_iconst X (-1) dX10_tell_30 (by decide) (fun v16 _ hv16 => ?_)
        replace E := zLet_s (zcst hv16 (by decide)) E
        exact ret _ _ _ _ dX10_tell_31 rfl ⟨E.symm.trans hR, hS, hI⟩
set_option maxHeartbeats 4000000 in
set_option maxRecDepth 100000 in
theorem t_X10_forget (l : Launch) (d : zD2) (L : List Nat) (kd : Nat → Nat) (κ : Int) (σ : zS) (hI : zI κ 0 L kd σ) (a0 : Nat) (ha0 : zT L kd a0 10) : zMi l yX10_forget (Cond.code yX10_forget cX10_forget 2 (some .int) :: zWL) 0 [.ref a0] d L kd σ (fun v σ2 => (v, σ2) = F_X10_forget a0 σ ∧ zSm [2] [] L kd σ σ2 ∧ (zI κ 0 L kd σ2)) := by
  refine zMi.of (own := RX10) (by decide +kernel) rfl rfl (Nat.le_of_ble_eq_true rfl) ?_
  intro p e s m args below meth c A Q X ret
  refine zg_lv (lv2 := [(0, .ref a0)]) rfl ?_
  obtain ⟨R, hR⟩ : ∃ R, R = F_X10_forget a0 σ := ⟨_, rfl⟩
  have E := hR
  unfold F_X10_forget at E
  have hS : zSm [2] [] L kd σ σ := zSm.rf
  refine zg_aload_n X 0 rfl dX10_forget_0 ?_
  refine fg_X10_45 X hI ha0 dX10_forget_1 (fun v1 ev1 hv1 => ?_)
  replace E := zLet_s (zgr ev1) E
  refine fg_X10_108 X hI hv1 dX10_forget_4 (fun v2 ev2 hv2 => ?_)
  replace E := zLet_s ev2 E
  refine zg_istore_n X [(1, .int v2), (0, .ref a0)] dX10_forget_7 (by decide) rfl ?_
  refine zg_aload_n X 1 rfl dX10_forget_8 ?_
  refine fg_X10_45 X hI ha0 dX10_forget_9 (fun v3 ev3 hv3 => ?_)
  replace E := zLet_s (zgr ev3) E
  refine zg_iconst X 0 dX10_forget_12 (by decide) (fun v4 _ hv4 => ?_)
  replace E := zLet_s (zcst hv4 (by decide)) E
  refine fp_X10_108 X hI hv3 ⟨by omega, by omega⟩ dX10_forget_13 (fun s5 es5 hI => ?_)
  replace E := zLet_s es5 E
  have hS := hS.i hv3 es5 rfl
  refine zg_iload_n X 0 rfl dX10_forget_16 ?_
  exact ret _ _ _ _ dX10_forget_17 rfl ⟨E.symm.trans hR, hS, hI⟩
set_option maxHeartbeats 4000000 in
set_option maxRecDepth 100000 in
theorem t_X10_dyed (l : Launch) (d : zD2) (L : List Nat) (kd : Nat → Nat) (κ : Int) (σ : zS) (hI : zI κ 0 L kd σ) (a0 : Nat) (ha0 : zT L kd a0 10) (p1 : Int32) (p2 : Int32) : zMi l yX10_dyed (Cond.code yX10_dyed cX10_dyed 4 (some .int) :: zWL) 7 [.ref a0, .int p1, .int p2] d L kd σ (fun v σ2 => (v, σ2) = F_X10_dyed a0 p1 p2 σ ∧ zSm [6, 20, 21, 30, 31, 33, 34, 35, 36, 38] [5] L kd σ σ2 ∧ (zI κ 0 L kd σ2)) := by
  refine zMi.of (own := RX10) (by decide +kernel) rfl rfl (Nat.le_of_ble_eq_true rfl) ?_
  intro p e s m args below meth c A Q X ret
  refine zg_lv (lv2 := [(0, .ref a0), (1, .int p1), (2, .int p2)]) rfl ?_
  obtain ⟨R, hR⟩ : ∃ R, R = F_X10_dyed a0 p1 p2 σ := ⟨_, rfl⟩
  have E := hR
  unfold F_X10_dyed at E
  have hS : zSm [6, 20, 21, 30, 31, 33, 34, 35, 36, 38] [5] L kd σ σ := zSm.rf
  refine zg_iload_n X 1 rfl dX10_dyed_0 ?_
  refine zg_iconst X 0 dX10_dyed_1 (by decide) (fun v1 _ hv1 => ?_)
  replace E := zLet_s (zcst hv1 (by decide)) E
  refine zg_aload_n X 0 rfl dX10_dyed_2 ?_
  refine fg_X10_45 X hI ha0 dX10_dyed_3 (fun v2 ev2 hv2 => ?_)
  replace E := zLet_s (zgr ev2) E
  refine fg_X10_108 X hI hv2 dX10_dyed_6 (fun v3 ev3 hv3 => ?_)
  replace E := zLet_s ev3 E
  refine zg_cSi (As := [.int p1, .int v1, .int v3]) (st := []) X (t_X10_isWithin l d L kd _ p1 v1 v3 ) mk_X10_229 mc_X10_isWithin mz_X10 ms_X10_isWithin (na := 3) ⟨md_X10.1, md_X10.2, by decide +kernel⟩ rfl ⟨by decide, by decide⟩ (Nat.le_of_ble_eq_true rfl) dX10_dyed_9 (fun v4 σ2 hq => ?_)
  obtain ⟨⟨hF, hv4⟩, rfl⟩ := hq
  replace E := zLet_s hF E
  refine zg_if_eq X 24 dX10_dyed_12 (by decide) (fun c5 => ?_) (fun c5 => ?_)
  · skip
    replace E := zIf_t c5 E
    refine zg_iconst X (-1) dX10_dyed_24 (by decide) (fun v6 _ hv6 => ?_)
    replace E := zLet_s (zcst hv6 (by decide)) E
    exact ret _ _ _ _ dX10_dyed_25 rfl ⟨E.symm.trans hR, hS, hI⟩
  · skip
    replace E := zIf_f c5 E
    refine zg_iload_n X 2 rfl dX10_dyed_15 ?_
    refine zg_iconst X 0 dX10_dyed_16 (by decide) (fun v7 _ hv7 => ?_)
    replace E := zLet_s (zcst hv7 (by decide)) E
    refine zg_iconst X 1 dX10_dyed_17 (by decide) (fun v8 _ hv8 => ?_)
    replace E := zLet_s (zcst hv8 (by decide)) E
    refine zg_cSi (As := [.int p2, .int v7, .int v8]) (st := []) X (t_X10_isWithin l d L kd _ p2 v7 v8 ) mk_X10_229 mc_X10_isWithin mz_X10 ms_X10_isWithin (na := 3) ⟨md_X10.1, md_X10.2, by decide +kernel⟩ rfl ⟨by decide, by decide⟩ (Nat.le_of_ble_eq_true rfl) dX10_dyed_18 (fun v9 σ2 hq => ?_)
    obtain ⟨⟨hF, hv9⟩, rfl⟩ := hq
    replace E := zLet_s hF E
    refine zg_if_ne X 26 dX10_dyed_21 (by decide) (fun c10 => ?_) (fun c10 => ?_)
    · skip
      replace E := zIf_f c10 E
      refine zg_aload_n X 0 rfl dX10_dyed_26 ?_
      refine zg_cVv (As := []) (st := []) X ha0 rfl (by decide) rfl (t_X10_look l d L kd κ 0 _ hI a0 ha0 ) mk_X10_113 mc_X10_look mz_X10 mi_X10_look ml_X10_look (na := 0) ⟨md_X10.1, md_X10.2, by decide +kernel⟩ rfl ⟨by decide, by decide⟩ (Nat.le_of_ble_eq_true rfl) dX10_dyed_27 (fun s11 hq => ?_)
      obtain ⟨hF, hS2, hI⟩ := hq
      replace E := zLet_s hF E
      have hS := hS.tr hS2 rfl rfl
      refine zg_aload_n X 0 rfl dX10_dyed_30 ?_
      refine fg_X10_45 X hI ha0 dX10_dyed_31 (fun v12 ev12 hv12 => ?_)
      replace E := zLet_s (zgr ev12) E
      refine zg_aload_n X 0 rfl dX10_dyed_34 ?_
      refine fg_X10_34 X hI ha0 dX10_dyed_35 (fun v13 ev13 hv13 => ?_)
      replace E := zLet_s (zgr ev13) E
      refine zg_iload_n X 1 rfl dX10_dyed_38 ?_
      refine zg_cVi (As := [.ref v13, .int p1]) (st := []) X hv12 rfl (by decide) rfl (t_X2_left l d L kd κ 1 _ hI v12 hv12 v13 hv13 p1 ) mk_X10_343 mc_X2_left mz_X2 mi_X2_left ml_X2_left (na := 2) ⟨md_X2.1, md_X2.2, by decide +kernel⟩ rfl ⟨by decide, by decide⟩ (Nat.le_of_ble_eq_true rfl) dX10_dyed_39 (fun v14 s15 hq => ?_)
      obtain ⟨hF, hS2, hI⟩ := hq
      replace E := zLet2_s hF E
      have hS := hS.tr hS2 rfl rfl
      refine zg_istore_n X [(3, .int v14), (0, .ref a0), (1, .int p1), (2, .int p2)] dX10_dyed_42 (by decide) rfl ?_
      refine zg_iload_n X 3 rfl dX10_dyed_43 ?_
      refine zg_if_ne X 54 dX10_dyed_44 (by decide) (fun c16 => ?_) (fun c16 => ?_)
      · skip
        replace E := zIf_f c16 E
        refine zg_iload_n X 0 rfl dX10_dyed_54 ?_
        exact ret _ _ _ _ dX10_dyed_55 rfl ⟨E.symm.trans hR, hS, (zi_weak hI)⟩
      · skip
        replace E := zIf_t c16 E
        refine zg_iload_n X 0 rfl dX10_dyed_47 ?_
        refine zg_cSi (As := [.int v14]) (st := []) X (t_J6_bitCount_0f7a4 l d L kd _ v14 ) mk_X10_198 mc_J6_bitCount_0f7a4 mz_J6 ms_J6_bitCount_0f7a4 (na := 1) ⟨md_J6.1, md_J6.2, by decide +kernel⟩ rfl ⟨by decide, by decide⟩ (Nat.le_of_ble_eq_true rfl) dX10_dyed_48 (fun v17 σ2 hq => ?_)
        obtain ⟨⟨hF, hv17⟩, rfl⟩ := hq
        replace E := zLet_s hF E
        refine zg_goto X 55 dX10_dyed_51 (by decide) ?_
        exact ret _ _ _ _ dX10_dyed_55 rfl ⟨E.symm.trans hR, hS, (zi_weak hI)⟩
    · skip
      replace E := zIf_t c10 E
      refine zg_iconst X (-1) dX10_dyed_24 (by decide) (fun v18 _ hv18 => ?_)
      replace E := zLet_s (zcst hv18 (by decide)) E
      exact ret _ _ _ _ dX10_dyed_25 rfl ⟨E.symm.trans hR, hS, hI⟩
set_option maxHeartbeats 4000000 in
set_option maxRecDepth 100000 in
theorem t_X10_watch (l : Launch) (d : zD2) (L : List Nat) (kd : Nat → Nat) (κ : Int) (σ : zS) (hI : zI κ 0 L kd σ) (a0 : Nat) (ha0 : zT L kd a0 10) (p1 : Int32) : zMi l yX10_watch (Cond.code yX10_watch cX10_watch 5 (some .int) :: zWL) 7 [.ref a0, .int p1] d L kd σ (fun v σ2 => (v, σ2) = F_X10_watch a0 p1 σ ∧ zSm [6, 20, 21, 30, 31, 33, 34, 35, 36, 38] [5] L kd σ σ2 ∧ (zI κ 0 L kd σ2)) := by
  refine zMi.of (own := RX10) (by decide +kernel) rfl rfl (Nat.le_of_ble_eq_true rfl) ?_
  intro p e s m args below meth c A Q X ret
  refine zg_lv (lv2 := [(0, .ref a0), (1, .int p1)]) rfl ?_
  obtain ⟨R, hR⟩ : ∃ R, R = F_X10_watch a0 p1 σ := ⟨_, rfl⟩
  have E := hR
  unfold F_X10_watch at E
  have hS : zSm [6, 20, 21, 30, 31, 33, 34, 35, 36, 38] [5] L kd σ σ := zSm.rf
  refine zg_iload_n X 1 rfl dX10_watch_0 ?_
  refine zg_iconst X 0 dX10_watch_1 (by decide) (fun v1 _ hv1 => ?_)
  replace E := zLet_s (zcst hv1 (by decide)) E
  refine zg_aload_n X 0 rfl dX10_watch_2 ?_
  refine fg_X10_45 X hI ha0 dX10_watch_3 (fun v2 ev2 hv2 => ?_)
  replace E := zLet_s (zgr ev2) E
  refine fg_X10_108 X hI hv2 dX10_watch_6 (fun v3 ev3 hv3 => ?_)
  replace E := zLet_s ev3 E
  refine zg_cSi (As := [.int p1, .int v1, .int v3]) (st := []) X (t_X10_isWithin l d L kd _ p1 v1 v3 ) mk_X10_229 mc_X10_isWithin mz_X10 ms_X10_isWithin (na := 3) ⟨md_X10.1, md_X10.2, by decide +kernel⟩ rfl ⟨by decide, by decide⟩ (Nat.le_of_ble_eq_true rfl) dX10_watch_9 (fun v4 σ2 hq => ?_)
  obtain ⟨⟨hF, hv4⟩, rfl⟩ := hq
  replace E := zLet_s hF E
  refine zg_if_ne X 17 dX10_watch_12 (by decide) (fun c5 => ?_) (fun c5 => ?_)
  · skip
    replace E := zIf_f c5 E
    refine zg_aload_n X 0 rfl dX10_watch_17 ?_
    refine zg_cVv (As := []) (st := []) X ha0 rfl (by decide) rfl (t_X10_look l d L kd κ 0 _ hI a0 ha0 ) mk_X10_113 mc_X10_look mz_X10 mi_X10_look ml_X10_look (na := 0) ⟨md_X10.1, md_X10.2, by decide +kernel⟩ rfl ⟨by decide, by decide⟩ (Nat.le_of_ble_eq_true rfl) dX10_watch_18 (fun s6 hq => ?_)
    obtain ⟨hF, hS2, hI⟩ := hq
    replace E := zLet_s hF E
    have hS := hS.tr hS2 rfl rfl
    refine zg_aload_n X 0 rfl dX10_watch_21 ?_
    refine fg_X10_45 X hI ha0 dX10_watch_22 (fun v7 ev7 hv7 => ?_)
    replace E := zLet_s (zgr ev7) E
    refine zg_aload_n X 0 rfl dX10_watch_25 ?_
    refine fg_X10_34 X hI ha0 dX10_watch_26 (fun v8 ev8 hv8 => ?_)
    replace E := zLet_s (zgr ev8) E
    refine zg_iload_n X 1 rfl dX10_watch_29 ?_
    refine zg_cVi (As := [.ref v8, .int p1]) (st := []) X hv7 rfl (by decide) rfl (t_X2_left l d L kd κ 1 _ hI v7 hv7 v8 hv8 p1 ) mk_X10_343 mc_X2_left mz_X2 mi_X2_left ml_X2_left (na := 2) ⟨md_X2.1, md_X2.2, by decide +kernel⟩ rfl ⟨by decide, by decide⟩ (Nat.le_of_ble_eq_true rfl) dX10_watch_30 (fun v9 s10 hq => ?_)
    obtain ⟨hF, hS2, hI⟩ := hq
    replace E := zLet2_s hF E
    have hS := hS.tr hS2 rfl rfl
    refine zg_istore_n X [(2, .int v9), (0, .ref a0), (1, .int p1)] dX10_watch_33 (by decide) rfl ?_
    refine zg_iload_n X 0 rfl dX10_watch_34 ?_
    refine zg_if_ne X 41 dX10_watch_35 (by decide) (fun c11 => ?_) (fun c11 => ?_)
    · skip
      replace E := zIf_f c11 E
      refine zg_iconst X 0 dX10_watch_41 (by decide) (fun v12 _ hv12 => ?_)
      replace E := zLet_s (zcst hv12 (by decide)) E
      refine zg_istore_n X [(3, .int v12), (2, .int v9), (0, .ref a0), (1, .int p1)] dX10_watch_42 (by decide) rfl ?_
      refine zg_iconst X 1 dX10_watch_43 (by decide) (fun v13 _ hv13 => ?_)
      replace E := zLet_s (zcst hv13 (by decide)) E
      refine zg_istore X [(4, .int v13), (3, .int v12), (2, .int v9), (0, .ref a0), (1, .int p1)] dX10_watch_44 (by decide) rfl ?_
      have Lp16 : ∀ (nLp16 : Nat) (τ16 : zS) (x14 : Int32) (x15 : Int32), zI κ 1 L kd τ16 → zSm [6, 20, 21, 30, 31, 33, 34, 35, 36, 38] [5] L kd σ τ16 → R = F_X10_watch_46 v9 a0 p1  nLp16 x14 x15 τ16 → 0 ≤ x15.toInt ∧ x15.toInt ≤ 11 ∧ 1 ≤ x14.toInt ∧ x14.toInt ≤ 12 → (12) - x14.toInt + 1 < (nLp16 : Int) → zG d L kd A 5 p l e (k2_rm 7 (100 * 7)) s m args below meth c Q τ16 46 [(4, .int x14), (3, .int x15), (2, .int v9), (0, .ref a0), (1, .int p1)] [] := by
        intro nLp16
        induction nLp16 with
        | zero => intro τ16 x14 x15 hI hS E  hxLp16 hm ; exact absurd hm (by omega)
        | succ nLp16 ihLp16 =>
          intro τ16 x14 x15 hI hS E  hxLp16 hmLp16 
          rw [F_X10_watch_46] at E
          refine zg_iload X 0 rfl dX10_watch_46 ?_
          refine zg_aload_n X 3 rfl dX10_watch_48 ?_
          refine fg_X10_70 X hI ha0 dX10_watch_49 (fun v17 ev17 hv17 => ?_)
          replace E := zLet_s (zgr ev17) E
          refine fg_X10_175 X hI hv17 dX10_watch_52 (fun v18 ev18 hv18 => ?_)
          replace E := zLet_s ev18 E
          refine zg_icmp_ge X 83 dX10_watch_55 (by decide) (fun c19 => ?_) (fun c19 => ?_)
          · skip
            replace E := zIf_f (Int.not_lt.mpr c19) E
            refine zg_iload_n X 1 rfl dX10_watch_83 ?_
            exact ret _ _ _ _ dX10_watch_84 rfl ⟨E.symm.trans hR, hS, (zi_weak hI)⟩
          · skip
            replace E := zIf_t c19 E
            refine zg_aload_n X 3 rfl dX10_watch_58 ?_
            refine zg_iload_n X 2 rfl dX10_watch_59 ?_
            refine zg_iload X 0 rfl dX10_watch_60 ?_
            refine zg_cVi (As := [.int v9, .int x14]) (st := []) X ha0 rfl (by decide) rfl (t_X10_leftAtWorst l d L kd κ 1 _ hI a0 ha0 v9 x14 ) mk_X10_347 mc_X10_leftAtWorst mz_X10 mi_X10_leftAtWorst ml_X10_leftAtWorst (na := 2) ⟨md_X10.1, md_X10.2, by decide +kernel⟩ rfl ⟨by decide, by decide⟩ (Nat.le_of_ble_eq_true rfl) dX10_watch_62 (fun v20 s21 hq => ?_)
            obtain ⟨hF, hS2, hI⟩ := hq
            replace E := zLet2_s hF E
            have hS := hS.tr hS2 rfl rfl
            refine zg_aload_n X 3 rfl dX10_watch_65 ?_
            refine zg_iload_n X 2 rfl dX10_watch_66 ?_
            refine zg_iload_n X 1 rfl dX10_watch_67 ?_
            refine zg_cVi (As := [.int v9, .int x15]) (st := [.int v20]) X ha0 rfl (by decide) rfl (t_X10_leftAtWorst l d L kd κ 1 _ hI a0 ha0 v9 x15 ) mk_X10_347 mc_X10_leftAtWorst mz_X10 mi_X10_leftAtWorst ml_X10_leftAtWorst (na := 2) ⟨md_X10.1, md_X10.2, by decide +kernel⟩ rfl ⟨by decide, by decide⟩ (Nat.le_of_ble_eq_true rfl) dX10_watch_68 (fun v22 s23 hq => ?_)
            obtain ⟨hF, hS2, hI⟩ := hq
            replace E := zLet2_s hF E
            have hS := hS.tr hS2 rfl rfl
            have zv20_z24 := zb_rng v20
            have zv22_z25 := zb_rng v22
            refine zg_icmp_ge X 77 dX10_watch_71 (by decide) (fun c26 => ?_) (fun c26 => ?_)
            · skip
              replace E := zIf_f (Int.not_lt.mpr c26) E
              refine zg_iinc X 1 (fun v27 => [(4, .int v27), (3, .int x15), (2, .int v9), (0, .ref a0), (1, .int p1)]) 0 dX10_watch_77 rfl (by decide) (by decide) (by omega) (by omega) (fun _ => rfl) (fun v27 ev27 hv27 => ?_)
              replace E := zLet_s (zinc ev27 (by decide)) E
              refine zg_goto X 46 dX10_watch_80 (by decide) ?_
              refine zg_sub [0, 1, 2, 3, 4] rfl ?_
              exact ihLp16 _ v27 x15 hI hS E  (by omega) (by omega) 
            · skip
              replace E := zIf_t c26 E
              refine zg_iload X 0 rfl dX10_watch_74 ?_
              refine zg_istore_n X [(3, .int x14), (4, .int x14), (2, .int v9), (0, .ref a0), (1, .int p1)] dX10_watch_76 (by decide) rfl ?_
              refine zg_iinc X 1 (fun v28 => [(4, .int v28), (3, .int x14), (2, .int v9), (0, .ref a0), (1, .int p1)]) 1 dX10_watch_77 rfl (by decide) (by decide) (by omega) (by omega) (fun _ => rfl) (fun v28 ev28 hv28 => ?_)
              replace E := zLet_s (zinc ev28 (by decide)) E
              refine zg_goto X 46 dX10_watch_80 (by decide) ?_
              refine zg_sub [0, 1, 2, 3, 4] rfl ?_
              exact ihLp16 _ v28 x14 hI hS E  (by omega) (by omega) 
      refine zg_sub [0, 1, 2, 3, 4] rfl ?_
      exact Lp16 10000 _ v13 v12 hI hS E  (by omega) (by omega) 
    · skip
      replace E := zIf_t c11 E
      refine zg_bipush X (-2) dX10_watch_38 (by decide) (fun v29 _ hv29 => ?_)
      replace E := zLet_s (zcst hv29 (by decide)) E
      exact ret _ _ _ _ dX10_watch_40 rfl ⟨E.symm.trans hR, hS, (zi_weak hI)⟩
  · skip
    replace E := zIf_t c5 E
    refine zg_iconst X (-1) dX10_watch_15 (by decide) (fun v30 _ hv30 => ?_)
    replace E := zLet_s (zcst hv30 (by decide)) E
    exact ret _ _ _ _ dX10_watch_16 rfl ⟨E.symm.trans hR, hS, hI⟩
set_option maxHeartbeats 4000000 in
set_option maxRecDepth 100000 in
theorem t_X10_dams (l : Launch) (d : zD2) (L : List Nat) (kd : Nat → Nat) (κ : Int) (σ : zS) (hI : zI κ 0 L kd σ) (a0 : Nat) (ha0 : zT L kd a0 10) (p1 : Int32) (p2 : Int32) : zMi l yX10_dams (Cond.code yX10_dams cX10_dams 4 (some .int) :: zWL) 7 [.ref a0, .int p1, .int p2] d L kd σ (fun v σ2 => (v, σ2) = F_X10_dams a0 p1 p2 σ ∧ zSm [6, 20, 21, 30, 31, 33, 34, 35, 36, 38] [5] L kd σ σ2 ∧ (zI κ 0 L kd σ2)) := by
  refine zMi.of (own := RX10) (by decide +kernel) rfl rfl (Nat.le_of_ble_eq_true rfl) ?_
  intro p e s m args below meth c A Q X ret
  refine zg_lv (lv2 := [(0, .ref a0), (1, .int p1), (2, .int p2)]) rfl ?_
  obtain ⟨R, hR⟩ : ∃ R, R = F_X10_dams a0 p1 p2 σ := ⟨_, rfl⟩
  have E := hR
  unfold F_X10_dams at E
  have hS : zSm [6, 20, 21, 30, 31, 33, 34, 35, 36, 38] [5] L kd σ σ := zSm.rf
  refine zg_aload_n X 0 rfl dX10_dams_0 ?_
  refine zg_cVi (As := []) (st := []) X ha0 rfl (by decide) rfl (t_X10_hasMouth l d L kd κ 0 _ hI a0 ha0 ) mk_X10_277 mc_X10_hasMouth mz_X10 mi_X10_hasMouth ml_X10_hasMouth (na := 0) ⟨md_X10.1, md_X10.2, by decide +kernel⟩ rfl ⟨by decide, by decide⟩ (Nat.le_of_ble_eq_true rfl) dX10_dams_1 (fun v1 s2 hq => ?_)
  obtain ⟨hF, hS2, hI⟩ := hq
  replace E := zLet2_s hF E
  have hS := hS.tr hS2 rfl rfl
  obtain ⟨hv1, hI⟩ := hI
  refine zg_if_eq X 27 dX10_dams_4 (by decide) (fun c3 => ?_) (fun c3 => ?_)
  · skip
    replace E := zIf_t c3 E
    refine zg_iconst X (-1) dX10_dams_27 (by decide) (fun v4 _ hv4 => ?_)
    replace E := zLet_s (zcst hv4 (by decide)) E
    exact ret _ _ _ _ dX10_dams_28 rfl ⟨E.symm.trans hR, hS, hI⟩
  · skip
    replace E := zIf_f c3 E
    refine zg_iload_n X 1 rfl dX10_dams_7 ?_
    refine zg_iconst X 0 dX10_dams_8 (by decide) (fun v5 _ hv5 => ?_)
    replace E := zLet_s (zcst hv5 (by decide)) E
    refine zg_sipush X 9999 dX10_dams_9 (by decide) (fun v6 _ hv6 => ?_)
    replace E := zLet_s (zcst hv6 (by decide)) E
    refine zg_cSi (As := [.int p1, .int v5, .int v6]) (st := []) X (t_X10_isWithin l d L kd _ p1 v5 v6 ) mk_X10_229 mc_X10_isWithin mz_X10 ms_X10_isWithin (na := 3) ⟨md_X10.1, md_X10.2, by decide +kernel⟩ rfl ⟨by decide, by decide⟩ (Nat.le_of_ble_eq_true rfl) dX10_dams_12 (fun v7 σ2 hq => ?_)
    obtain ⟨⟨hF, hv7⟩, rfl⟩ := hq
    replace E := zLet_s hF E
    refine zg_if_eq X 27 dX10_dams_15 (by decide) (fun c8 => ?_) (fun c8 => ?_)
    · skip
      replace E := zIf_t c8 E
      refine zg_iconst X (-1) dX10_dams_27 (by decide) (fun v9 _ hv9 => ?_)
      replace E := zLet_s (zcst hv9 (by decide)) E
      exact ret _ _ _ _ dX10_dams_28 rfl ⟨E.symm.trans hR, hS, hI⟩
    · skip
      replace E := zIf_f c8 E
      refine zg_iload_n X 2 rfl dX10_dams_18 ?_
      refine zg_iconst X (-1) dX10_dams_19 (by decide) (fun v10 _ hv10 => ?_)
      replace E := zLet_s (zcst hv10 (by decide)) E
      refine zg_iconst X 2 dX10_dams_20 (by decide) (fun v11 _ hv11 => ?_)
      replace E := zLet_s (zcst hv11 (by decide)) E
      refine zg_cSi (As := [.int p2, .int v10, .int v11]) (st := []) X (t_X10_isWithin l d L kd _ p2 v10 v11 ) mk_X10_229 mc_X10_isWithin mz_X10 ms_X10_isWithin (na := 3) ⟨md_X10.1, md_X10.2, by decide +kernel⟩ rfl ⟨by decide, by decide⟩ (Nat.le_of_ble_eq_true rfl) dX10_dams_21 (fun v12 σ2 hq => ?_)
      obtain ⟨⟨hF, hv12⟩, rfl⟩ := hq
      replace E := zLet_s hF E
      refine zg_if_ne X 29 dX10_dams_24 (by decide) (fun c13 => ?_) (fun c13 => ?_)
      · skip
        replace E := zIf_f c13 E
        refine zg_aload_n X 0 rfl dX10_dams_29 ?_
        refine zg_cVv (As := []) (st := []) X ha0 rfl (by decide) rfl (t_X10_look l d L kd κ 0 _ hI a0 ha0 ) mk_X10_113 mc_X10_look mz_X10 mi_X10_look ml_X10_look (na := 0) ⟨md_X10.1, md_X10.2, by decide +kernel⟩ rfl ⟨by decide, by decide⟩ (Nat.le_of_ble_eq_true rfl) dX10_dams_30 (fun s14 hq => ?_)
        obtain ⟨hF, hS2, hI⟩ := hq
        replace E := zLet_s hF E
        have hS := hS.tr hS2 rfl rfl
        refine zg_aload_n X 0 rfl dX10_dams_33 ?_
        refine zg_iload_n X 1 rfl dX10_dams_34 ?_
        refine zg_cVi (As := [.int p1]) (st := []) X ha0 rfl (by decide) rfl (t_X10_fewestDams l d L kd κ _ hI a0 ha0 p1 ) mk_X10_281 mc_X10_fewestDams mz_X10 mi_X10_fewestDams ml_X10_fewestDams (na := 1) ⟨md_X10.1, md_X10.2, by decide +kernel⟩ rfl ⟨by decide, by decide⟩ (Nat.le_of_ble_eq_true rfl) dX10_dams_35 (fun v15 s16 hq => ?_)
        obtain ⟨hF, hS2, hI⟩ := hq
        replace E := zLet2_s hF E
        have hS := hS.tr hS2 rfl rfl
        refine zg_istore_n X [(3, .int v15), (0, .ref a0), (1, .int p1), (2, .int p2)] dX10_dams_38 (by decide) rfl ?_
        refine zg_iload_n X 0 rfl dX10_dams_39 ?_
        refine zg_iconst X (-1) dX10_dams_40 (by decide) (fun v17 _ hv17 => ?_)
        replace E := zLet_s (zcst hv17 (by decide)) E
        refine zg_icmp_ne X 47 dX10_dams_41 (by decide) (fun c18 => ?_) (fun c18 => ?_)
        · skip
          replace E := zIf_f c18 E
          refine zg_iload_n X 3 rfl dX10_dams_47 ?_
          refine zg_iconst X (-1) dX10_dams_48 (by decide) (fun v19 _ hv19 => ?_)
          replace E := zLet_s (zcst hv19 (by decide)) E
          refine zg_icmp_ne X 59 dX10_dams_49 (by decide) (fun c20 => ?_) (fun c20 => ?_)
          · skip
            replace E := zIf_f c20 E
            refine zg_iload_n X 0 rfl dX10_dams_59 ?_
            refine zg_iload_n X 3 rfl dX10_dams_60 ?_
            refine zg_cSi (As := [.int v15, .int p2]) (st := []) X (t_X10_bitAt l d L kd _ v15 p2 ) mk_X10_284 mc_X10_bitAt mz_X10 ms_X10_bitAt (na := 2) ⟨md_X10.1, md_X10.2, by decide +kernel⟩ rfl ⟨by decide, by decide⟩ (Nat.le_of_ble_eq_true rfl) dX10_dams_61 (fun v21 σ2 hq => ?_)
            obtain ⟨⟨hF, hv21⟩, rfl⟩ := hq
            replace E := zLet_s hF E
            exact ret _ _ _ _ dX10_dams_64 rfl ⟨E.symm.trans hR, hS, (zi_weak hI)⟩
          · skip
            replace E := zIf_t c20 E
            refine zg_iload_n X 0 rfl dX10_dams_52 ?_
            refine zg_cSi (As := [.int v15]) (st := []) X (t_J6_bitCount_0f7a4 l d L kd _ v15 ) mk_X10_198 mc_J6_bitCount_0f7a4 mz_J6 ms_J6_bitCount_0f7a4 (na := 1) ⟨md_J6.1, md_J6.2, by decide +kernel⟩ rfl ⟨by decide, by decide⟩ (Nat.le_of_ble_eq_true rfl) dX10_dams_53 (fun v22 σ2 hq => ?_)
            obtain ⟨⟨hF, hv22⟩, rfl⟩ := hq
            replace E := zLet_s hF E
            refine zg_goto X 64 dX10_dams_56 (by decide) ?_
            exact ret _ _ _ _ dX10_dams_64 rfl ⟨E.symm.trans hR, hS, (zi_weak hI)⟩
        · skip
          replace E := zIf_t c18 E
          refine zg_bipush X (-2) dX10_dams_44 (by decide) (fun v23 _ hv23 => ?_)
          replace E := zLet_s (zcst hv23 (by decide)) E
          exact ret _ _ _ _ dX10_dams_46 rfl ⟨E.symm.trans hR, hS, (zi_weak hI)⟩
      · skip
        replace E := zIf_t c13 E
        refine zg_iconst X (-1) dX10_dams_27 (by decide) (fun v24 _ hv24 => ?_)
        replace E := zLet_s (zcst hv24 (by decide)) E
        exact ret _ _ _ _ dX10_dams_28 rfl ⟨E.symm.trans hR, hS, hI⟩
set_option maxHeartbeats 4000000 in
set_option maxRecDepth 100000 in
theorem t_X10_back (l : Launch) (d : zD2) (L : List Nat) (kd : Nat → Nat) (κ : Int) (σ : zS) (hI : zI κ 0 L kd σ) (a0 : Nat) (ha0 : zT L kd a0 10) (p1 : Int32) : zMi l yX10_back (Cond.code yX10_back cX10_back 2 (some .int) :: zWL) 0 [.ref a0, .int p1] d L kd σ (fun v σ2 => (v, σ2) = F_X10_back a0 p1 σ ∧ zSm [7] [] L kd σ σ2 ∧ ((v.toInt = -1 ∧ (p1.toInt < 0 ∨ κ < p1.toInt) ∧ zI κ 0 L kd σ2) ∨ (v.toInt = κ - p1.toInt ∧ 0 ≤ p1.toInt ∧ p1.toInt ≤ κ ∧ zI (κ - p1.toInt) 0 L kd σ2))) := by
  refine zMi.of (own := RX10) (by decide +kernel) rfl rfl (Nat.le_of_ble_eq_true rfl) ?_
  intro p e s m args below meth c A Q X ret
  refine zg_lv (lv2 := [(0, .ref a0), (1, .int p1)]) rfl ?_
  obtain ⟨R, hR⟩ : ∃ R, R = F_X10_back a0 p1 σ := ⟨_, rfl⟩
  have E := hR
  unfold F_X10_back at E
  have hS : zSm [7] [] L kd σ σ := zSm.rf
  refine zg_iload_n X 1 rfl dX10_back_0 ?_
  refine zg_if_lt X 15 dX10_back_1 (by decide) (fun c1 => ?_) (fun c1 => ?_)
  · skip
    replace E := zIf_t c1 E
    refine zg_iconst X (-1) dX10_back_15 (by decide) (fun v2 _ hv2 => ?_)
    replace E := zLet_s (zcst hv2 (by decide)) E
    exact ret _ _ _ _ dX10_back_16 rfl ⟨E.symm.trans hR, hS, (Or.inl ⟨by omega, by omega, hI⟩)⟩
  · skip
    replace E := zIf_f (Int.not_lt.mpr c1) E
    refine zg_iload_n X 1 rfl dX10_back_4 ?_
    refine zg_aload_n X 0 rfl dX10_back_5 ?_
    refine fg_X10_10 X hI ha0 dX10_back_6 (fun v3 ev3 hv3 => ?_)
    replace E := zLet_s (zgr ev3) E
    refine fg_X10_84 X hI hv3 dX10_back_9 (fun v4 ev4 hv4 => ?_)
    replace E := zLet_s ev4 E
    have hkv4 := hI.2.2.1
    have zp1_z5 := zb_rng p1
    refine zg_icmp_le X 17 dX10_back_12 (by decide) (fun c6 => ?_) (fun c6 => ?_)
    · skip
      replace E := zIf_f (Int.not_lt.mpr c6) E
      refine zg_aload_n X 0 rfl dX10_back_17 ?_
      refine fg_X10_10 X hI ha0 dX10_back_18 (fun v7 ev7 hv7 => ?_)
      replace E := zLet_s (zgr ev7) E
      refine zg_dup X dX10_back_21 rfl ?_
      refine fg_X10_84 X hI hv7 dX10_back_22 (fun v8 ev8 hv8 => ?_)
      replace E := zLet_s ev8 E
      have hkv8 := hI.2.2.1
      refine zg_iload_n X 1 rfl dX10_back_25 ?_
      refine zg_isub X dX10_back_26 (by omega) (by omega) (fun v9 ev9 hv9 => ?_)
      replace E := zLet_s ev9 E
      refine fq_X10_84 X hv7 dX10_back_27 (fun s10 es10 => ?_)
      replace E := zLet_s es10 E
      have hS := hS.i hv7 es10 rfl
      have hI : zI v9.toInt 0 L kd s10 := by rw [es10]; exact zi_tape hI hv7 (by omega) (by omega)
      refine zg_aload_n X 0 rfl dX10_back_30 ?_
      refine fg_X10_10 X hI ha0 dX10_back_31 (fun v11 ev11 hv11 => ?_)
      replace E := zLet_s (zgr ev11) E
      refine fg_X10_84 X hI hv11 dX10_back_34 (fun v12 ev12 hv12 => ?_)
      replace E := zLet_s ev12 E
      have hkv12 := hI.2.2.1
      exact ret _ _ _ _ dX10_back_37 rfl ⟨E.symm.trans hR, hS, (Or.inr ⟨by omega, by omega, by omega, zi_eq (by omega) hI⟩)⟩
    · skip
      replace E := zIf_t c6 E
      refine zg_iconst X (-1) dX10_back_15 (by decide) (fun v13 _ hv13 => ?_)
      replace E := zLet_s (zcst hv13 (by decide)) E
      exact ret _ _ _ _ dX10_back_16 rfl ⟨E.symm.trans hR, hS, (Or.inl ⟨by omega, by omega, hI⟩)⟩
set_option maxHeartbeats 4000000 in
set_option maxRecDepth 100000 in
theorem t_X10_feed (l : Launch) (d : zD2) (L : List Nat) (kd : Nat → Nat) (κ : Int) (σ : zS) (hI : zI κ 0 L kd σ) (a0 : Nat) (ha0 : zT L kd a0 10) (p1 : Int32) (p2 : Int32) (p3 : Int32) (p4 : Int32) (p5 : Int32) : zMi l yX10_feed (Cond.code yX10_feed cX10_feed 6 (some .int) :: zWL) 1 [.ref a0, .int p1, .int p2, .int p3, .int p4, .int p5] d L kd σ (fun v σ2 => (v, σ2) = F_X10_feed a0 p1 p2 p3 p4 p5 σ ∧ zSm [7, 39] [] L kd σ σ2 ∧ ((v.toInt = -1 ∧ 2000 < κ + 20 ∧ zI κ 0 L kd σ2) ∨ (v.toInt = κ + 20 ∧ κ + 20 ≤ 2000 ∧ zI (κ + 20) 0 L kd σ2))) := by
  refine zMi.of (own := RX10) (by decide +kernel) rfl rfl (Nat.le_of_ble_eq_true rfl) ?_
  intro p e s m args below meth c A Q X ret
  refine zg_lv (lv2 := [(0, .ref a0), (1, .int p1), (2, .int p2), (3, .int p3), (4, .int p4), (5, .int p5)]) rfl ?_
  obtain ⟨R, hR⟩ : ∃ R, R = F_X10_feed a0 p1 p2 p3 p4 p5 σ := ⟨_, rfl⟩
  have E := hR
  unfold F_X10_feed at E
  have hS : zSm [7, 39] [] L kd σ σ := zSm.rf
  refine zg_aload_n X 0 rfl dX10_feed_0 ?_
  refine fg_X10_10 X hI ha0 dX10_feed_1 (fun v1 ev1 hv1 => ?_)
  replace E := zLet_s (zgr ev1) E
  refine fg_X10_84 X hI hv1 dX10_feed_4 (fun v2 ev2 hv2 => ?_)
  replace E := zLet_s ev2 E
  have hkv2 := hI.2.2.1
  refine zg_bipush X 20 dX10_feed_7 (by decide) (fun v3 _ hv3 => ?_)
  replace E := zLet_s (zcst hv3 (by decide)) E
  refine zg_iadd X dX10_feed_9 (by omega) (by omega) (fun v4 ev4 hv4 => ?_)
  replace E := zLet_s ev4 E
  refine zg_sipush X 2000 dX10_feed_10 (by decide) (fun v5 _ hv5 => ?_)
  replace E := zLet_s (zcst hv5 (by decide)) E
  refine zg_icmp_le X 18 dX10_feed_13 (by decide) (fun c6 => ?_) (fun c6 => ?_)
  · skip
    replace E := zIf_f (Int.not_lt.mpr c6) E
    refine zg_aload_n X 0 rfl dX10_feed_18 ?_
    refine fg_X10_10 X hI ha0 dX10_feed_19 (fun v7 ev7 hv7 => ?_)
    replace E := zLet_s (zgr ev7) E
    refine zg_iload_n X 1 rfl dX10_feed_22 ?_
    refine zg_cVv (As := [.int p1]) (st := []) X hv7 rfl (by decide) rfl (t_X7_append l d L kd κ 0 _ hI v7 hv7 p1 (by omega)) mk_X10_87 mc_X7_append mz_X7 mi_X7_append ml_X7_append (na := 1) ⟨md_X7.1, md_X7.2, by decide +kernel⟩ rfl ⟨by decide, by decide⟩ (Nat.le_of_ble_eq_true rfl) dX10_feed_23 (fun s8 hq => ?_)
    obtain ⟨hF, hS2, hI⟩ := hq
    replace E := zLet_s hF E
    have hS := hS.tr hS2 rfl rfl
    refine zg_aload_n X 0 rfl dX10_feed_26 ?_
    refine fg_X10_10 X hI ha0 dX10_feed_27 (fun v9 ev9 hv9 => ?_)
    replace E := zLet_s (zgr ev9) E
    refine zg_iload_n X 2 rfl dX10_feed_30 ?_
    refine zg_cVv (As := [.int p2]) (st := []) X hv9 rfl (by decide) rfl (t_X7_append l d L kd (κ + 4) 0 _ hI v9 hv9 p2 (by omega)) mk_X10_87 mc_X7_append mz_X7 mi_X7_append ml_X7_append (na := 1) ⟨md_X7.1, md_X7.2, by decide +kernel⟩ rfl ⟨by decide, by decide⟩ (Nat.le_of_ble_eq_true rfl) dX10_feed_31 (fun s10 hq => ?_)
    obtain ⟨hF, hS2, hI⟩ := hq
    replace E := zLet_s hF E
    have hS := hS.tr hS2 rfl rfl
    refine zg_aload_n X 0 rfl dX10_feed_34 ?_
    refine fg_X10_10 X hI ha0 dX10_feed_35 (fun v11 ev11 hv11 => ?_)
    replace E := zLet_s (zgr ev11) E
    refine zg_iload_n X 3 rfl dX10_feed_38 ?_
    refine zg_cVv (As := [.int p3]) (st := []) X hv11 rfl (by decide) rfl (t_X7_append l d L kd ((κ + 4) + 4) 0 _ hI v11 hv11 p3 (by omega)) mk_X10_87 mc_X7_append mz_X7 mi_X7_append ml_X7_append (na := 1) ⟨md_X7.1, md_X7.2, by decide +kernel⟩ rfl ⟨by decide, by decide⟩ (Nat.le_of_ble_eq_true rfl) dX10_feed_39 (fun s12 hq => ?_)
    obtain ⟨hF, hS2, hI⟩ := hq
    replace E := zLet_s hF E
    have hS := hS.tr hS2 rfl rfl
    refine zg_aload_n X 0 rfl dX10_feed_42 ?_
    refine fg_X10_10 X hI ha0 dX10_feed_43 (fun v13 ev13 hv13 => ?_)
    replace E := zLet_s (zgr ev13) E
    refine zg_iload X 4 rfl dX10_feed_46 ?_
    refine zg_cVv (As := [.int p4]) (st := []) X hv13 rfl (by decide) rfl (t_X7_append l d L kd (((κ + 4) + 4) + 4) 0 _ hI v13 hv13 p4 (by omega)) mk_X10_87 mc_X7_append mz_X7 mi_X7_append ml_X7_append (na := 1) ⟨md_X7.1, md_X7.2, by decide +kernel⟩ rfl ⟨by decide, by decide⟩ (Nat.le_of_ble_eq_true rfl) dX10_feed_48 (fun s14 hq => ?_)
    obtain ⟨hF, hS2, hI⟩ := hq
    replace E := zLet_s hF E
    have hS := hS.tr hS2 rfl rfl
    refine zg_aload_n X 0 rfl dX10_feed_51 ?_
    refine fg_X10_10 X hI ha0 dX10_feed_52 (fun v15 ev15 hv15 => ?_)
    replace E := zLet_s (zgr ev15) E
    refine zg_iload X 5 rfl dX10_feed_55 ?_
    refine zg_cVv (As := [.int p5]) (st := []) X hv15 rfl (by decide) rfl (t_X7_append l d L kd ((((κ + 4) + 4) + 4) + 4) 0 _ hI v15 hv15 p5 (by omega)) mk_X10_87 mc_X7_append mz_X7 mi_X7_append ml_X7_append (na := 1) ⟨md_X7.1, md_X7.2, by decide +kernel⟩ rfl ⟨by decide, by decide⟩ (Nat.le_of_ble_eq_true rfl) dX10_feed_57 (fun s16 hq => ?_)
    obtain ⟨hF, hS2, hI⟩ := hq
    replace E := zLet_s hF E
    have hS := hS.tr hS2 rfl rfl
    refine zg_aload_n X 0 rfl dX10_feed_60 ?_
    refine fg_X10_10 X hI ha0 dX10_feed_61 (fun v17 ev17 hv17 => ?_)
    replace E := zLet_s (zgr ev17) E
    refine fg_X10_84 X hI hv17 dX10_feed_64 (fun v18 ev18 hv18 => ?_)
    replace E := zLet_s ev18 E
    have hkv18 := hI.2.2.1
    exact ret _ _ _ _ dX10_feed_67 rfl ⟨E.symm.trans hR, hS, (Or.inr ⟨by omega, by omega, zi_eq (by omega) hI⟩)⟩
  · skip
    replace E := zIf_t c6 E
    refine zg_iconst X (-1) dX10_feed_16 (by decide) (fun v19 _ hv19 => ?_)
    replace E := zLet_s (zcst hv19 (by decide)) E
    exact ret _ _ _ _ dX10_feed_17 rfl ⟨E.symm.trans hR, hS, (Or.inl ⟨by omega, by omega, hI⟩)⟩
