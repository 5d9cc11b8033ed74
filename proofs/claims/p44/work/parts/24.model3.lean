set_option maxHeartbeats 4000000 in
set_option maxRecDepth 100000 in
theorem t_X11_isStorm (l : Launch) (d : zD2) (L : List Nat) (kd : Nat → Nat) (κ : Int) (σ : zS) (hI : zJ κ L kd σ) (a0 : Nat) (ha0 : zT L kd a0 11) : zMi l yX11_isStorm (Cond.code yX11_isStorm cX11_isStorm 1 (some .boolean) :: zWL) 1 [.ref a0] d L kd σ (fun v σ2 => (v = F_X11_isStorm a0 σ ∧ ((0 ≤ v.toInt ∧ v.toInt ≤ 1))) ∧ σ = σ2) := by
  refine zMi.of (own := RX11) (by decide +kernel) rfl rfl (Nat.le_of_ble_eq_true rfl) ?_
  intro p e s m args below meth c A Q X ret
  refine zg_lv (lv2 := [(0, .ref a0)]) rfl ?_
  obtain ⟨R, hR⟩ : ∃ R, R = F_X11_isStorm a0 σ := ⟨_, rfl⟩
  have E := hR
  unfold F_X11_isStorm at E
  refine zg_aload_n X 0 rfl dX11_isStorm_0 ?_
  refine fg_X11_320 X hI ha0 dX11_isStorm_1 (fun v1 ev1 _ => ?_)
  replace E := zLet_s ev1 E
  refine zg_sipush X 147 dX11_isStorm_4 (by decide) (fun v2 _ hv2 => ?_)
  replace E := zLet_s (zcst hv2 (by decide)) E
  refine zg_cSi (As := [.int v1, .int v2]) (st := []) X (t_X11_mixed l d L kd _ v1 v2 ) mk_X11_336 mc_X11_mixed mz_X11 ms_X11_mixed (na := 2) ⟨md_X11.1, md_X11.2, by decide +kernel⟩ rfl ⟨by decide, by decide⟩ (Nat.le_of_ble_eq_true rfl) dX11_isStorm_7 (fun v3 σ2 hq => ?_)
  obtain ⟨⟨hF, hv3⟩, rfl⟩ := hq
  replace E := zLet_s hF E
  refine zg_iconst X 4 dX11_isStorm_10 (by decide) (fun v4 _ hv4 => ?_)
  replace E := zLet_s (zcst hv4 (by decide)) E
  refine zg_aload_n X 0 rfl dX11_isStorm_11 ?_
  refine fg_X11_110 X hI ha0 dX11_isStorm_12 (fun v5 ev5 hv5 => ?_)
  replace E := zLet_s (zgr ev5) E
  refine zg_bipush X 48 dX11_isStorm_15 (by decide) (fun v6 _ hv6 => ?_)
  replace E := zLet_s (zcst hv6 (by decide)) E
  refine ag_149 X hI hv5 (by omega) (by omega) dX11_isStorm_17 (fun v7 ev7 _ => ?_)
  replace E := zLet_s ev7 E
  refine zg_imulW X dX11_isStorm_18 (fun v8 ev8 => ?_)
  replace E := zLet_s ev8 E
  refine zg_cSi (As := [.int v3, .int v8]) (st := []) X (t_X11_mixed l d L kd _ v3 v8 ) mk_X11_336 mc_X11_mixed mz_X11 ms_X11_mixed (na := 2) ⟨md_X11.1, md_X11.2, by decide +kernel⟩ rfl ⟨by decide, by decide⟩ (Nat.le_of_ble_eq_true rfl) dX11_isStorm_19 (fun v9 σ2 hq => ?_)
  obtain ⟨⟨hF, hv9⟩, rfl⟩ := hq
  replace E := zLet_s hF E
  refine zg_iconst X 1 dX11_isStorm_22 (by decide) (fun v10 _ hv10 => ?_)
  replace E := zLet_s (zcst hv10 (by decide)) E
  refine zg_iushrW X dX11_isStorm_23 (fun v11 ev11 => ?_)
  replace E := zLet_s ev11 E
  refine zg_bipush X 100 dX11_isStorm_24 (by decide) (fun v12 _ hv12 => ?_)
  replace E := zLet_s (zcst hv12 (by decide)) E
  refine zg_iremW X dX11_isStorm_26 (by omega) (fun v13 ev13 => ?_)
  replace E := zLet_s ev13 E
  have hv13 := zb_rem (x := v11) (y := v12) 100 (by omega) (by omega)
  rw [← ev13] at hv13
  refine zg_aload_n X 0 rfl dX11_isStorm_27 ?_
  refine fg_X11_58 X hI ha0 dX11_isStorm_28 (fun v14 ev14 hv14 => ?_)
  replace E := zLet_s (zgr ev14) E
  refine zg_aload_n X 0 rfl dX11_isStorm_31 ?_
  refine fg_X11_236 X hI ha0 dX11_isStorm_32 (fun v15 ev15 hv15 => ?_)
  replace E := zLet_s ev15 E
  refine ag_126 X hI hv14 (by omega) (by omega) dX11_isStorm_35 (fun v16 ev16 _ => ?_)
  replace E := zLet_s ev16 E
  have zv16_z17 := zb_rng v16
  refine zg_icmp_ge X 43 dX11_isStorm_36 (by decide) (fun c18 => ?_) (fun c18 => ?_)
  · skip
    replace E := zIf_f (Int.not_lt.mpr c18) E
    refine zg_iconst X 0 dX11_isStorm_43 (by decide) (fun v19 _ hv19 => ?_)
    replace E := zLet_s (zcst hv19 (by decide)) E
    exact ret _ _ _ _ dX11_isStorm_44 (zb_bool ⟨by omega, by omega⟩) ⟨⟨E.symm.trans hR, ⟨by omega, by omega⟩⟩, rfl⟩
  · skip
    replace E := zIf_t c18 E
    refine zg_iconst X 1 dX11_isStorm_39 (by decide) (fun v20 _ hv20 => ?_)
    replace E := zLet_s (zcst hv20 (by decide)) E
    refine zg_goto X 44 dX11_isStorm_40 (by decide) ?_
    exact ret _ _ _ _ dX11_isStorm_44 (zb_bool ⟨by omega, by omega⟩) ⟨⟨E.symm.trans hR, ⟨by omega, by omega⟩⟩, rfl⟩
set_option maxHeartbeats 4000000 in
set_option maxRecDepth 100000 in
theorem t_X11_monthGoes (l : Launch) (d : zD2) (L : List Nat) (kd : Nat → Nat) (κ : Int) (σ : zS) (hI : zJ κ L kd σ) (a0 : Nat) (ha0 : zT L kd a0 11) (hgR : gR a0 σ) (hgL : gL a0 σ) : zMv l yX11_monthGoes (Cond.code yX11_monthGoes cX11_monthGoes 1 none :: zWL) 4 [.ref a0] d L kd σ (fun σ2 => σ2 = F_X11_monthGoes a0 σ ∧ ((gR a0 σ2) ∧ zJ κ L kd σ2 ∧ zSame a0 [47, 56] [145, 146, 149, 155] L kd σ σ2)) := by
  refine zMv.of (own := RX11) (by decide +kernel) rfl rfl (Nat.le_of_ble_eq_true rfl) ?_
  intro p e s m args below meth c A Q X ret
  have hS : zSame a0 [47, 56] [145, 146, 149, 155] L kd σ σ := zSame.rf
  refine zg_lv (lv2 := [(0, .ref a0)]) rfl ?_
  have zm := zM_in hI ha0
  obtain ⟨R, hR⟩ : ∃ R, R = F_X11_monthGoes a0 σ := ⟨_, rfl⟩
  have E := hR
  unfold F_X11_monthGoes at E
  refine zg_aload_n X 0 rfl dX11_monthGoes_0 ?_
  refine zg_aload_n X 0 rfl dX11_monthGoes_1 ?_
  refine fg_X11_323 X hI ha0 dX11_monthGoes_2 (fun v1 ev1 hv1 => ?_)
  replace E := zLet_s ev1 E
  refine zg_if_ne X 27 dX11_monthGoes_5 (by decide) (fun c2 => ?_) (fun c2 => ?_)
  · skip
    replace E := zIf_f c2 E
    refine zg_iconst X 0 dX11_monthGoes_27 (by decide) (fun v3 _ hv3 => ?_)
    replace E := zLet_s (zcst hv3 (by decide)) E
    refine zg_cVv (As := [.int v3]) (st := []) X ha0 rfl (by decide) rfl (t_X11_fillsFlows l d L kd κ _ hI a0 ha0 v3   hgR hgL) mk_X11_329 mc_X11_fillsFlows mz_X11 mi_X11_fillsFlows ml_X11_fillsFlows (na := 1) ⟨md_X11.1, md_X11.2, by decide +kernel⟩ rfl ⟨by decide, by decide⟩ (Nat.le_of_ble_eq_true rfl) dX11_monthGoes_28 (fun t4 hq => ?_)
    obtain ⟨hF, hI, g5⟩ := hq
    replace E := zLet_s hF E
    have hS := hS.tr g5 (by decide) (by decide)
    have Mt4 := zM_same hI ha0 g5 (by decide)
    have ut4_49 := zp_same hI ha0 g5 49 rfl (by decide) (by decide)
    have at4_49 := ut4_49
    have gRt4 := gR.same hI ha0 g5 (by decide) hgR
    have gLt4 := gL.same hI ha0 g5 (by decide) hgL
    have e6 := g5.v ev1 (by decide)
    refine zg_aload_n X 0 rfl dX11_monthGoes_31 ?_
    refine zg_aload_n X 0 rfl dX11_monthGoes_32 ?_
    refine zg_aload_n X 0 rfl dX11_monthGoes_33 ?_
    refine fg_X11_110 X hI ha0 dX11_monthGoes_34 (fun v7 ev7 hv7 => ?_)
    replace E := zLet_s (zgr ev7) E
    refine zg_bipush X 49 dX11_monthGoes_37 (by decide) (fun v8 _ hv8 => ?_)
    replace E := zLet_s (zcst hv8 (by decide)) E
    refine ag_149 X hI hv7 (by omega) (by omega) dX11_monthGoes_39 (fun v9 ev9 _ => ?_)
    replace E := zLet_s ev9 E
    have qv9 := zp_ld ev7 ev9
    rw [at4_49] at qv9
    rw [show v8.toInt = 49 by omega] at qv9
    have zl := gR_law gRt4
    rw [at4_49] at zl
    refine zg_cVi (As := [.int v9]) (st := [.ref a0]) X ha0 rfl (by decide) rfl (t_X11_winnerBy l d L kd κ _ hI a0 ha0 v9  (by omega) gLt4) mk_X11_374 mc_X11_winnerBy mz_X11 mi_X11_winnerBy ml_X11_winnerBy (na := 1) ⟨md_X11.1, md_X11.2, by decide +kernel⟩ rfl ⟨by decide, by decide⟩ (Nat.le_of_ble_eq_true rfl) dX11_monthGoes_40 (fun v11 t10 hq => ?_)
    obtain ⟨hF, ⟨ht10_res, ht10_fact0, ht10_fact1⟩, hI, g12⟩ := hq
    replace E := zLet2_s hF E
    have hS := hS.tr g12 (by decide) (by decide)
    have Mt10 := (zM_same hI ha0 g12 (by decide)).trans Mt4
    have ut10_49 := zp_same hI ha0 g12 49 rfl (by decide) (by decide)
    have at10_49 := ut10_49.trans at4_49
    have gRt10 := gR.same hI ha0 g12 (by decide) gRt4
    have gLt10 := gL.same hI ha0 g12 (by decide) gLt4
    have e13 := g12.v e6 (by decide)
    refine fp_X11_377 X hI ha0 ⟨by omega, by omega⟩ dX11_monthGoes_43 (fun s14 es14 hI => ?_)
    replace E := zLet_s es14 E
    have g15 := (zSame.rf (o := a0) (Wf := [56]) (Wa := []) (L := L) (kd := kd) (σ := t10)).f ha0 es14 rfl
    have hS := hS.tr g15 (by decide) (by decide)
    have Ms14 := (zM_same hI ha0 g15 (by decide)).trans Mt10
    have us14_49 := zp_same hI ha0 g15 49 rfl (by decide) (by decide)
    have as14_49 := us14_49.trans at10_49
    have gRs14 := gR.same hI ha0 g15 (by decide) gRt10
    have gLs14 := gL.same hI ha0 g15 (by decide) gLt10
    have e16 := g15.v e13 (by decide)
    have fs14_56 : (s14.1 a0 56).toInt = v11.toInt := by rw [es14]; exact congrArg _ (zu_s _ _ _ _)
    have e17 : v11 = s14.1 a0 56 := by rw [es14]; exact zm_s
    refine zg_aload_n X 0 rfl dX11_monthGoes_46 ?_
    refine fg_X11_377 X hI ha0 dX11_monthGoes_47 (fun v18 ev18 hv18 => ?_)
    replace E := zLet_s ev18 E
    have mv18 : v18.toInt = v11.toInt := by rw [ev18, ← e17]
    refine zg_if_lt X 110 dX11_monthGoes_50 (by decide) (fun c19 => ?_) (fun c19 => ?_)
    · skip
      replace E := zIf_t c19 E
      refine zg_aload_n X 0 rfl dX11_monthGoes_110 ?_
      refine fg_X11_110 X hI ha0 dX11_monthGoes_111 (fun v20 ev20 hv20 => ?_)
      replace E := zLet_s (zgr ev20) E
      refine zg_bipush X 48 dX11_monthGoes_114 (by decide) (fun v21 _ hv21 => ?_)
      replace E := zLet_s (zcst hv21 (by decide)) E
      refine zg_dup2 X dX11_monthGoes_116 rfl rfl ?_
      refine ag_149 X hI hv20 (by omega) (by omega) dX11_monthGoes_117 (fun v22 ev22 _ => ?_)
      replace E := zLet_s ev22 E
      have qv22 := zp_ld ev20 ev22
      rw [as14_49] at qv22
      rw [show v21.toInt = 48 by omega] at qv22
      refine zg_iconst X 1 dX11_monthGoes_118 (by decide) (fun v23 _ hv23 => ?_)
      replace E := zLet_s (zcst hv23 (by decide)) E
      refine zg_iaddW X dX11_monthGoes_119 (fun v24 ev24 => ?_)
      replace E := zLet_s ev24 E
      refine as_149 X hI hv20 (by omega) (by omega) dX11_monthGoes_120 (fun s25 es25 hI => ?_)
      replace E := zLet_s es25 E
      have g26 := (zSame.rf (o := a0) (Wf := []) (Wa := [149]) (L := L) (kd := kd) (σ := s14)).a ha0 hv20 es25 rfl (by decide)
      have rs25 := zp_st (σ := s14) (σ2 := s25) (i := v21) (x := v24) ev20 es25 (by omega)
      have ws25 := rs25
      rw [as14_49] at ws25
      have hS := hS.tr g26 (by decide) (by decide)
      have Ms25 := (zM_same hI ha0 g26 (by decide)).trans Ms14
      have gLs25 := gL.same hI ha0 g26 (by decide) gLs14
      have e27 := g26.v e16 (by decide)
      have e28 := g26.v ev18 (by decide)
      have gRs25 := gR_row hI ha0 g26 rs25 (by omega) gRs14
      refine zg_aload_n X 0 rfl dX11_monthGoes_121 ?_
      refine zg_iconst X 0 dX11_monthGoes_122 (by decide) (fun v29 _ hv29 => ?_)
      replace E := zLet_s (zcst hv29 (by decide)) E
      refine zg_cVv (As := [.int v29]) (st := []) X ha0 rfl (by decide) rfl (t_X11_fillsFlows l d L kd κ _ hI a0 ha0 v29   gRs25 gLs25) mk_X11_329 mc_X11_fillsFlows mz_X11 mi_X11_fillsFlows ml_X11_fillsFlows (na := 1) ⟨md_X11.1, md_X11.2, by decide +kernel⟩ rfl ⟨by decide, by decide⟩ (Nat.le_of_ble_eq_true rfl) dX11_monthGoes_123 (fun t30 hq => ?_)
      obtain ⟨hF, hI, g31⟩ := hq
      replace E := zLet_s hF E
      have hS := hS.tr g31 (by decide) (by decide)
      have Mt30 := (zM_same hI ha0 g31 (by decide)).trans Ms25
      have ut30_49 := zp_same hI ha0 g31 49 rfl (by decide) (by decide)
      have at30_49 := ut30_49
      have gLt30 := gL.same hI ha0 g31 (by decide) gLs25
      have gRt30 := gR.same hI ha0 g31 (by decide) gRs25
      have e32 := g31.v e27 (by decide)
      have e33 := g31.v e28 (by decide)
      exact ret _ _ _ dX11_monthGoes_126 ⟨E.symm.trans hR, ⟨gRt30, hI, hS⟩⟩
    · skip
      replace E := zIf_f (Int.not_lt.mpr c19) E
      refine zg_aload_n X 0 rfl dX11_monthGoes_53 ?_
      refine fg_X11_110 X hI ha0 dX11_monthGoes_54 (fun v34 ev34 hv34 => ?_)
      replace E := zLet_s (zgr ev34) E
      refine zg_bipush X 24 dX11_monthGoes_57 (by decide) (fun v35 _ hv35 => ?_)
      replace E := zLet_s (zcst hv35 (by decide)) E
      refine zg_aload_n X 0 rfl dX11_monthGoes_59 ?_
      refine fg_X11_377 X hI ha0 dX11_monthGoes_60 (fun v36 ev36 hv36 => ?_)
      replace E := zLet_s ev36 E
      have mv36 : v36.toInt = v18.toInt := by rw [ev36, ← ev18]
      refine zg_iadd X dX11_monthGoes_63 (by omega) (by omega) (fun v37 ev37 hv37 => ?_)
      replace E := zLet_s ev37 E
      refine zg_aload_n X 0 rfl dX11_monthGoes_64 ?_
      refine fg_X11_110 X hI ha0 dX11_monthGoes_65 (fun v38 ev38 hv38 => ?_)
      replace E := zLet_s (zgr ev38) E
      refine zg_bipush X 24 dX11_monthGoes_68 (by decide) (fun v39 _ hv39 => ?_)
      replace E := zLet_s (zcst hv39 (by decide)) E
      refine zg_aload_n X 0 rfl dX11_monthGoes_70 ?_
      refine fg_X11_377 X hI ha0 dX11_monthGoes_71 (fun v40 ev40 hv40 => ?_)
      replace E := zLet_s ev40 E
      have mv40 : v40.toInt = v36.toInt := by rw [ev40, ← ev36]
      refine zg_iadd X dX11_monthGoes_74 (by omega) (by omega) (fun v41 ev41 hv41 => ?_)
      replace E := zLet_s ev41 E
      refine ag_149 X hI hv38 (by omega) (by omega) dX11_monthGoes_75 (fun v42 ev42 _ => ?_)
      replace E := zLet_s ev42 E
      have qv42 := zp_ld ev38 ev42
      rw [as14_49] at qv42
      refine zg_iconst X 1 dX11_monthGoes_76 (by decide) (fun v43 _ hv43 => ?_)
      replace E := zLet_s (zcst hv43 (by decide)) E
      refine zg_iaddW X dX11_monthGoes_77 (fun v44 ev44 => ?_)
      replace E := zLet_s ev44 E
      refine zg_iconst X 0 dX11_monthGoes_78 (by decide) (fun v45 _ hv45 => ?_)
      replace E := zLet_s (zcst hv45 (by decide)) E
      refine zg_sipush X 999 dX11_monthGoes_79 (by decide) (fun v46 _ hv46 => ?_)
      replace E := zLet_s (zcst hv46 (by decide)) E
      refine zg_cSi (As := [.int v44, .int v45, .int v46]) (st := [.int v37, .ref v34]) X (t_X11_within l d L kd _ v44 v45 v46 ) mk_X11_357 mc_X11_within mz_X11 ms_X11_within (na := 3) ⟨md_X11.1, md_X11.2, by decide +kernel⟩ rfl ⟨by decide, by decide⟩ (Nat.le_of_ble_eq_true rfl) dX11_monthGoes_82 (fun v47 σ2 hq => ?_)
      obtain ⟨⟨hF, hv47⟩, rfl⟩ := hq
      replace E := zLet_s hF E
      refine as_149 X hI hv34 (by omega) (by omega) dX11_monthGoes_85 (fun s48 es48 hI => ?_)
      replace E := zLet_s es48 E
      have g49 := (zSame.rf (o := a0) (Wf := []) (Wa := [149]) (L := L) (kd := kd) (σ := s14)).a ha0 hv34 es48 rfl (by decide)
      have rs48 := zp_st (σ := s14) (σ2 := s48) (i := v37) (x := v47) ev34 es48 (by omega)
      have ws48 := rs48
      rw [as14_49] at ws48
      have hS := hS.tr g49 (by decide) (by decide)
      have Ms48 := (zM_same hI ha0 g49 (by decide)).trans Ms14
      have gLs48 := gL.same hI ha0 g49 (by decide) gLs14
      have e50 := g49.v e16 (by decide)
      have e51 := g49.v ev40 (by decide)
      have gRs48 := gR_row hI ha0 g49 rs48 (by omega) gRs14
      refine zg_aload_n X 0 rfl dX11_monthGoes_86 ?_
      refine fg_X11_110 X hI ha0 dX11_monthGoes_87 (fun v52 ev52 hv52 => ?_)
      replace E := zLet_s (zgr ev52) E
      refine zg_bipush X 36 dX11_monthGoes_90 (by decide) (fun v53 _ hv53 => ?_)
      replace E := zLet_s (zcst hv53 (by decide)) E
      refine zg_aload_n X 0 rfl dX11_monthGoes_92 ?_
      refine fg_X11_377 X hI ha0 dX11_monthGoes_93 (fun v54 ev54 hv54 => ?_)
      replace E := zLet_s ev54 E
      have mv54 : v54.toInt = v40.toInt := by rw [ev54, ← e51]
      refine zg_iadd X dX11_monthGoes_96 (by omega) (by omega) (fun v55 ev55 hv55 => ?_)
      replace E := zLet_s ev55 E
      refine zg_dup2 X dX11_monthGoes_97 rfl rfl ?_
      refine ag_149 X hI hv52 (by omega) (by omega) dX11_monthGoes_98 (fun v56 ev56 _ => ?_)
      replace E := zLet_s ev56 E
      have qv56 := zp_ld ev52 ev56
      refine zg_aload_n X 0 rfl dX11_monthGoes_99 ?_
      refine fg_X11_64 X hI ha0 dX11_monthGoes_100 (fun v57 ev57 hv57 => ?_)
      replace E := zLet_s (zgr ev57) E
      refine zg_aload_n X 0 rfl dX11_monthGoes_103 ?_
      refine fg_X11_236 X hI ha0 dX11_monthGoes_104 (fun v58 ev58 hv58 => ?_)
      replace E := zLet_s ev58 E
      refine ag_128 X hI hv57 (by omega) (by omega) dX11_monthGoes_107 (fun v59 ev59 _ => ?_)
      replace E := zLet_s ev59 E
      refine zg_iaddW X dX11_monthGoes_108 (fun v60 ev60 => ?_)
      replace E := zLet_s ev60 E
      refine as_149 X hI hv52 (by omega) (by omega) dX11_monthGoes_109 (fun s61 es61 hI => ?_)
      replace E := zLet_s es61 E
      have g62 := (zSame.rf (o := a0) (Wf := []) (Wa := [149]) (L := L) (kd := kd) (σ := s48)).a ha0 hv52 es61 rfl (by decide)
      have rs61 := zp_st (σ := s48) (σ2 := s61) (i := v55) (x := v60) ev52 es61 (by omega)
      have ws61 := rs61
      have hS := hS.tr g62 (by decide) (by decide)
      have Ms61 := (zM_same hI ha0 g62 (by decide)).trans Ms48
      have gLs61 := gL.same hI ha0 g62 (by decide) gLs48
      have e63 := g62.v e50 (by decide)
      have e64 := g62.v ev54 (by decide)
      have e65 := g62.v ev58 (by decide)
      have gRs61 := gR_row hI ha0 g62 rs61 (by omega) gRs48
      refine zg_aload_n X 0 rfl dX11_monthGoes_110 ?_
      refine fg_X11_110 X hI ha0 dX11_monthGoes_111 (fun v66 ev66 hv66 => ?_)
      replace E := zLet_s (zgr ev66) E
      refine zg_bipush X 48 dX11_monthGoes_114 (by decide) (fun v67 _ hv67 => ?_)
      replace E := zLet_s (zcst hv67 (by decide)) E
      refine zg_dup2 X dX11_monthGoes_116 rfl rfl ?_
      refine ag_149 X hI hv66 (by omega) (by omega) dX11_monthGoes_117 (fun v68 ev68 _ => ?_)
      replace E := zLet_s ev68 E
      have qv68 := zp_ld ev66 ev68
      rw [show v67.toInt = 48 by omega] at qv68
      refine zg_iconst X 1 dX11_monthGoes_118 (by decide) (fun v69 _ hv69 => ?_)
      replace E := zLet_s (zcst hv69 (by decide)) E
      refine zg_iaddW X dX11_monthGoes_119 (fun v70 ev70 => ?_)
      replace E := zLet_s ev70 E
      refine as_149 X hI hv66 (by omega) (by omega) dX11_monthGoes_120 (fun s71 es71 hI => ?_)
      replace E := zLet_s es71 E
      have g72 := (zSame.rf (o := a0) (Wf := []) (Wa := [149]) (L := L) (kd := kd) (σ := s61)).a ha0 hv66 es71 rfl (by decide)
      have rs71 := zp_st (σ := s61) (σ2 := s71) (i := v67) (x := v70) ev66 es71 (by omega)
      have ws71 := rs71
      have hS := hS.tr g72 (by decide) (by decide)
      have Ms71 := (zM_same hI ha0 g72 (by decide)).trans Ms61
      have gLs71 := gL.same hI ha0 g72 (by decide) gLs61
      have e73 := g72.v e63 (by decide)
      have e74 := g72.v e64 (by decide)
      have e75 := g72.v e65 (by decide)
      have gRs71 := gR_row hI ha0 g72 rs71 (by omega) gRs61
      refine zg_aload_n X 0 rfl dX11_monthGoes_121 ?_
      refine zg_iconst X 0 dX11_monthGoes_122 (by decide) (fun v76 _ hv76 => ?_)
      replace E := zLet_s (zcst hv76 (by decide)) E
      refine zg_cVv (As := [.int v76]) (st := []) X ha0 rfl (by decide) rfl (t_X11_fillsFlows l d L kd κ _ hI a0 ha0 v76   gRs71 gLs71) mk_X11_329 mc_X11_fillsFlows mz_X11 mi_X11_fillsFlows ml_X11_fillsFlows (na := 1) ⟨md_X11.1, md_X11.2, by decide +kernel⟩ rfl ⟨by decide, by decide⟩ (Nat.le_of_ble_eq_true rfl) dX11_monthGoes_123 (fun t77 hq => ?_)
      obtain ⟨hF, hI, g78⟩ := hq
      replace E := zLet_s hF E
      have hS := hS.tr g78 (by decide) (by decide)
      have Mt77 := (zM_same hI ha0 g78 (by decide)).trans Ms71
      have ut77_49 := zp_same hI ha0 g78 49 rfl (by decide) (by decide)
      have at77_49 := ut77_49
      have gLt77 := gL.same hI ha0 g78 (by decide) gLs71
      have gRt77 := gR.same hI ha0 g78 (by decide) gRs71
      have e79 := g78.v e73 (by decide)
      have e80 := g78.v e74 (by decide)
      have e81 := g78.v e75 (by decide)
      exact ret _ _ _ dX11_monthGoes_126 ⟨E.symm.trans hR, ⟨gRt77, hI, hS⟩⟩
  · skip
    replace E := zIf_t c2 E
    refine zg_aload_n X 0 rfl dX11_monthGoes_8 ?_
    refine zg_cVi (As := []) (st := [.ref a0]) X ha0 rfl (by decide) rfl (t_X11_isStorm l d L kd κ _ hI a0 ha0   ) mk_X11_370 mc_X11_isStorm mz_X11 mi_X11_isStorm ml_X11_isStorm (na := 0) ⟨md_X11.1, md_X11.2, by decide +kernel⟩ rfl ⟨by decide, by decide⟩ (Nat.le_of_ble_eq_true rfl) dX11_monthGoes_9 (fun v83 t82 hq => ?_)
    obtain ⟨⟨hF, ht82_res⟩, rfl⟩ := hq
    replace E := zLet_s hF E
    refine zg_if_eq X 27 dX11_monthGoes_12 (by decide) (fun c84 => ?_) (fun c84 => ?_)
    · skip
      replace E := zIf_t c84 E
      refine zg_iconst X 0 dX11_monthGoes_27 (by decide) (fun v85 _ hv85 => ?_)
      replace E := zLet_s (zcst hv85 (by decide)) E
      refine zg_cVv (As := [.int v85]) (st := []) X ha0 rfl (by decide) rfl (t_X11_fillsFlows l d L kd κ _ hI a0 ha0 v85   hgR hgL) mk_X11_329 mc_X11_fillsFlows mz_X11 mi_X11_fillsFlows ml_X11_fillsFlows (na := 1) ⟨md_X11.1, md_X11.2, by decide +kernel⟩ rfl ⟨by decide, by decide⟩ (Nat.le_of_ble_eq_true rfl) dX11_monthGoes_28 (fun t86 hq => ?_)
      obtain ⟨hF, hI, g87⟩ := hq
      replace E := zLet_s hF E
      have hS := hS.tr g87 (by decide) (by decide)
      have Mt86 := zM_same hI ha0 g87 (by decide)
      have ut86_49 := zp_same hI ha0 g87 49 rfl (by decide) (by decide)
      have at86_49 := ut86_49
      have gRt86 := gR.same hI ha0 g87 (by decide) hgR
      have gLt86 := gL.same hI ha0 g87 (by decide) hgL
      have e88 := g87.v ev1 (by decide)
      refine zg_aload_n X 0 rfl dX11_monthGoes_31 ?_
      refine zg_aload_n X 0 rfl dX11_monthGoes_32 ?_
      refine zg_aload_n X 0 rfl dX11_monthGoes_33 ?_
      refine fg_X11_110 X hI ha0 dX11_monthGoes_34 (fun v89 ev89 hv89 => ?_)
      replace E := zLet_s (zgr ev89) E
      refine zg_bipush X 49 dX11_monthGoes_37 (by decide) (fun v90 _ hv90 => ?_)
      replace E := zLet_s (zcst hv90 (by decide)) E
      refine ag_149 X hI hv89 (by omega) (by omega) dX11_monthGoes_39 (fun v91 ev91 _ => ?_)
      replace E := zLet_s ev91 E
      have qv91 := zp_ld ev89 ev91
      rw [at86_49] at qv91
      rw [show v90.toInt = 49 by omega] at qv91
      have zl := gR_law gRt86
      rw [at86_49] at zl
      refine zg_cVi (As := [.int v91]) (st := [.ref a0]) X ha0 rfl (by decide) rfl (t_X11_winnerBy l d L kd κ _ hI a0 ha0 v91  (by omega) gLt86) mk_X11_374 mc_X11_winnerBy mz_X11 mi_X11_winnerBy ml_X11_winnerBy (na := 1) ⟨md_X11.1, md_X11.2, by decide +kernel⟩ rfl ⟨by decide, by decide⟩ (Nat.le_of_ble_eq_true rfl) dX11_monthGoes_40 (fun v93 t92 hq => ?_)
      obtain ⟨hF, ⟨ht92_res, ht92_fact0, ht92_fact1⟩, hI, g94⟩ := hq
      replace E := zLet2_s hF E
      have hS := hS.tr g94 (by decide) (by decide)
      have Mt92 := (zM_same hI ha0 g94 (by decide)).trans Mt86
      have ut92_49 := zp_same hI ha0 g94 49 rfl (by decide) (by decide)
      have at92_49 := ut92_49.trans at86_49
      have gRt92 := gR.same hI ha0 g94 (by decide) gRt86
      have gLt92 := gL.same hI ha0 g94 (by decide) gLt86
      have e95 := g94.v e88 (by decide)
      refine fp_X11_377 X hI ha0 ⟨by omega, by omega⟩ dX11_monthGoes_43 (fun s96 es96 hI => ?_)
      replace E := zLet_s es96 E
      have g97 := (zSame.rf (o := a0) (Wf := [56]) (Wa := []) (L := L) (kd := kd) (σ := t92)).f ha0 es96 rfl
      have hS := hS.tr g97 (by decide) (by decide)
      have Ms96 := (zM_same hI ha0 g97 (by decide)).trans Mt92
      have us96_49 := zp_same hI ha0 g97 49 rfl (by decide) (by decide)
      have as96_49 := us96_49.trans at92_49
      have gRs96 := gR.same hI ha0 g97 (by decide) gRt92
      have gLs96 := gL.same hI ha0 g97 (by decide) gLt92
      have e98 := g97.v e95 (by decide)
      have fs96_56 : (s96.1 a0 56).toInt = v93.toInt := by rw [es96]; exact congrArg _ (zu_s _ _ _ _)
      have e99 : v93 = s96.1 a0 56 := by rw [es96]; exact zm_s
      refine zg_aload_n X 0 rfl dX11_monthGoes_46 ?_
      refine fg_X11_377 X hI ha0 dX11_monthGoes_47 (fun v100 ev100 hv100 => ?_)
      replace E := zLet_s ev100 E
      have mv100 : v100.toInt = v93.toInt := by rw [ev100, ← e99]
      refine zg_if_lt X 110 dX11_monthGoes_50 (by decide) (fun c101 => ?_) (fun c101 => ?_)
      · skip
        replace E := zIf_t c101 E
        refine zg_aload_n X 0 rfl dX11_monthGoes_110 ?_
        refine fg_X11_110 X hI ha0 dX11_monthGoes_111 (fun v102 ev102 hv102 => ?_)
        replace E := zLet_s (zgr ev102) E
        refine zg_bipush X 48 dX11_monthGoes_114 (by decide) (fun v103 _ hv103 => ?_)
        replace E := zLet_s (zcst hv103 (by decide)) E
        refine zg_dup2 X dX11_monthGoes_116 rfl rfl ?_
        refine ag_149 X hI hv102 (by omega) (by omega) dX11_monthGoes_117 (fun v104 ev104 _ => ?_)
        replace E := zLet_s ev104 E
        have qv104 := zp_ld ev102 ev104
        rw [as96_49] at qv104
        rw [show v103.toInt = 48 by omega] at qv104
        refine zg_iconst X 1 dX11_monthGoes_118 (by decide) (fun v105 _ hv105 => ?_)
        replace E := zLet_s (zcst hv105 (by decide)) E
        refine zg_iaddW X dX11_monthGoes_119 (fun v106 ev106 => ?_)
        replace E := zLet_s ev106 E
        refine as_149 X hI hv102 (by omega) (by omega) dX11_monthGoes_120 (fun s107 es107 hI => ?_)
        replace E := zLet_s es107 E
        have g108 := (zSame.rf (o := a0) (Wf := []) (Wa := [149]) (L := L) (kd := kd) (σ := s96)).a ha0 hv102 es107 rfl (by decide)
        have rs107 := zp_st (σ := s96) (σ2 := s107) (i := v103) (x := v106) ev102 es107 (by omega)
        have ws107 := rs107
        rw [as96_49] at ws107
        have hS := hS.tr g108 (by decide) (by decide)
        have Ms107 := (zM_same hI ha0 g108 (by decide)).trans Ms96
        have gLs107 := gL.same hI ha0 g108 (by decide) gLs96
        have e109 := g108.v e98 (by decide)
        have e110 := g108.v ev100 (by decide)
        have gRs107 := gR_row hI ha0 g108 rs107 (by omega) gRs96
        refine zg_aload_n X 0 rfl dX11_monthGoes_121 ?_
        refine zg_iconst X 0 dX11_monthGoes_122 (by decide) (fun v111 _ hv111 => ?_)
        replace E := zLet_s (zcst hv111 (by decide)) E
        refine zg_cVv (As := [.int v111]) (st := []) X ha0 rfl (by decide) rfl (t_X11_fillsFlows l d L kd κ _ hI a0 ha0 v111   gRs107 gLs107) mk_X11_329 mc_X11_fillsFlows mz_X11 mi_X11_fillsFlows ml_X11_fillsFlows (na := 1) ⟨md_X11.1, md_X11.2, by decide +kernel⟩ rfl ⟨by decide, by decide⟩ (Nat.le_of_ble_eq_true rfl) dX11_monthGoes_123 (fun t112 hq => ?_)
        obtain ⟨hF, hI, g113⟩ := hq
        replace E := zLet_s hF E
        have hS := hS.tr g113 (by decide) (by decide)
        have Mt112 := (zM_same hI ha0 g113 (by decide)).trans Ms107
        have ut112_49 := zp_same hI ha0 g113 49 rfl (by decide) (by decide)
        have at112_49 := ut112_49
        have gLt112 := gL.same hI ha0 g113 (by decide) gLs107
        have gRt112 := gR.same hI ha0 g113 (by decide) gRs107
        have e114 := g113.v e109 (by decide)
        have e115 := g113.v e110 (by decide)
        exact ret _ _ _ dX11_monthGoes_126 ⟨E.symm.trans hR, ⟨gRt112, hI, hS⟩⟩
      · skip
        replace E := zIf_f (Int.not_lt.mpr c101) E
        refine zg_aload_n X 0 rfl dX11_monthGoes_53 ?_
        refine fg_X11_110 X hI ha0 dX11_monthGoes_54 (fun v116 ev116 hv116 => ?_)
        replace E := zLet_s (zgr ev116) E
        refine zg_bipush X 24 dX11_monthGoes_57 (by decide) (fun v117 _ hv117 => ?_)
        replace E := zLet_s (zcst hv117 (by decide)) E
        refine zg_aload_n X 0 rfl dX11_monthGoes_59 ?_
        refine fg_X11_377 X hI ha0 dX11_monthGoes_60 (fun v118 ev118 hv118 => ?_)
        replace E := zLet_s ev118 E
        have mv118 : v118.toInt = v100.toInt := by rw [ev118, ← ev100]
        refine zg_iadd X dX11_monthGoes_63 (by omega) (by omega) (fun v119 ev119 hv119 => ?_)
        replace E := zLet_s ev119 E
        refine zg_aload_n X 0 rfl dX11_monthGoes_64 ?_
        refine fg_X11_110 X hI ha0 dX11_monthGoes_65 (fun v120 ev120 hv120 => ?_)
        replace E := zLet_s (zgr ev120) E
        refine zg_bipush X 24 dX11_monthGoes_68 (by decide) (fun v121 _ hv121 => ?_)
        replace E := zLet_s (zcst hv121 (by decide)) E
        refine zg_aload_n X 0 rfl dX11_monthGoes_70 ?_
        refine fg_X11_377 X hI ha0 dX11_monthGoes_71 (fun v122 ev122 hv122 => ?_)
        replace E := zLet_s ev122 E
        have mv122 : v122.toInt = v118.toInt := by rw [ev122, ← ev118]
        refine zg_iadd X dX11_monthGoes_74 (by omega) (by omega) (fun v123 ev123 hv123 => ?_)
        replace E := zLet_s ev123 E
        refine ag_149 X hI hv120 (by omega) (by omega) dX11_monthGoes_75 (fun v124 ev124 _ => ?_)
        replace E := zLet_s ev124 E
        have qv124 := zp_ld ev120 ev124
        rw [as96_49] at qv124
        refine zg_iconst X 1 dX11_monthGoes_76 (by decide) (fun v125 _ hv125 => ?_)
        replace E := zLet_s (zcst hv125 (by decide)) E
        refine zg_iaddW X dX11_monthGoes_77 (fun v126 ev126 => ?_)
        replace E := zLet_s ev126 E
        refine zg_iconst X 0 dX11_monthGoes_78 (by decide) (fun v127 _ hv127 => ?_)
        replace E := zLet_s (zcst hv127 (by decide)) E
        refine zg_sipush X 999 dX11_monthGoes_79 (by decide) (fun v128 _ hv128 => ?_)
        replace E := zLet_s (zcst hv128 (by decide)) E
        refine zg_cSi (As := [.int v126, .int v127, .int v128]) (st := [.int v119, .ref v116]) X (t_X11_within l d L kd _ v126 v127 v128 ) mk_X11_357 mc_X11_within mz_X11 ms_X11_within (na := 3) ⟨md_X11.1, md_X11.2, by decide +kernel⟩ rfl ⟨by decide, by decide⟩ (Nat.le_of_ble_eq_true rfl) dX11_monthGoes_82 (fun v129 σ2 hq => ?_)
        obtain ⟨⟨hF, hv129⟩, rfl⟩ := hq
        replace E := zLet_s hF E
        refine as_149 X hI hv116 (by omega) (by omega) dX11_monthGoes_85 (fun s130 es130 hI => ?_)
        replace E := zLet_s es130 E
        have g131 := (zSame.rf (o := a0) (Wf := []) (Wa := [149]) (L := L) (kd := kd) (σ := s96)).a ha0 hv116 es130 rfl (by decide)
        have rs130 := zp_st (σ := s96) (σ2 := s130) (i := v119) (x := v129) ev116 es130 (by omega)
        have ws130 := rs130
        rw [as96_49] at ws130
        have hS := hS.tr g131 (by decide) (by decide)
        have Ms130 := (zM_same hI ha0 g131 (by decide)).trans Ms96
        have gLs130 := gL.same hI ha0 g131 (by decide) gLs96
        have e132 := g131.v e98 (by decide)
        have e133 := g131.v ev122 (by decide)
        have gRs130 := gR_row hI ha0 g131 rs130 (by omega) gRs96
        refine zg_aload_n X 0 rfl dX11_monthGoes_86 ?_
        refine fg_X11_110 X hI ha0 dX11_monthGoes_87 (fun v134 ev134 hv134 => ?_)
        replace E := zLet_s (zgr ev134) E
        refine zg_bipush X 36 dX11_monthGoes_90 (by decide) (fun v135 _ hv135 => ?_)
        replace E := zLet_s (zcst hv135 (by decide)) E
        refine zg_aload_n X 0 rfl dX11_monthGoes_92 ?_
        refine fg_X11_377 X hI ha0 dX11_monthGoes_93 (fun v136 ev136 hv136 => ?_)
        replace E := zLet_s ev136 E
        have mv136 : v136.toInt = v122.toInt := by rw [ev136, ← e133]
        refine zg_iadd X dX11_monthGoes_96 (by omega) (by omega) (fun v137 ev137 hv137 => ?_)
        replace E := zLet_s ev137 E
        refine zg_dup2 X dX11_monthGoes_97 rfl rfl ?_
        refine ag_149 X hI hv134 (by omega) (by omega) dX11_monthGoes_98 (fun v138 ev138 _ => ?_)
        replace E := zLet_s ev138 E
        have qv138 := zp_ld ev134 ev138
        refine zg_aload_n X 0 rfl dX11_monthGoes_99 ?_
        refine fg_X11_64 X hI ha0 dX11_monthGoes_100 (fun v139 ev139 hv139 => ?_)
        replace E := zLet_s (zgr ev139) E
        refine zg_aload_n X 0 rfl dX11_monthGoes_103 ?_
        refine fg_X11_236 X hI ha0 dX11_monthGoes_104 (fun v140 ev140 hv140 => ?_)
        replace E := zLet_s ev140 E
        refine ag_128 X hI hv139 (by omega) (by omega) dX11_monthGoes_107 (fun v141 ev141 _ => ?_)
        replace E := zLet_s ev141 E
        refine zg_iaddW X dX11_monthGoes_108 (fun v142 ev142 => ?_)
        replace E := zLet_s ev142 E
        refine as_149 X hI hv134 (by omega) (by omega) dX11_monthGoes_109 (fun s143 es143 hI => ?_)
        replace E := zLet_s es143 E
        have g144 := (zSame.rf (o := a0) (Wf := []) (Wa := [149]) (L := L) (kd := kd) (σ := s130)).a ha0 hv134 es143 rfl (by decide)
        have rs143 := zp_st (σ := s130) (σ2 := s143) (i := v137) (x := v142) ev134 es143 (by omega)
        have ws143 := rs143
        have hS := hS.tr g144 (by decide) (by decide)
        have Ms143 := (zM_same hI ha0 g144 (by decide)).trans Ms130
        have gLs143 := gL.same hI ha0 g144 (by decide) gLs130
        have e145 := g144.v e132 (by decide)
        have e146 := g144.v ev136 (by decide)
        have e147 := g144.v ev140 (by decide)
        have gRs143 := gR_row hI ha0 g144 rs143 (by omega) gRs130
        refine zg_aload_n X 0 rfl dX11_monthGoes_110 ?_
        refine fg_X11_110 X hI ha0 dX11_monthGoes_111 (fun v148 ev148 hv148 => ?_)
        replace E := zLet_s (zgr ev148) E
        refine zg_bipush X 48 dX11_monthGoes_114 (by decide) (fun v149 _ hv149 => ?_)
        replace E := zLet_s (zcst hv149 (by decide)) E
        refine zg_dup2 X dX11_monthGoes_116 rfl rfl ?_
        refine ag_149 X hI hv148 (by omega) (by omega) dX11_monthGoes_117 (fun v150 ev150 _ => ?_)
        replace E := zLet_s ev150 E
        have qv150 := zp_ld ev148 ev150
        rw [show v149.toInt = 48 by omega] at qv150
        refine zg_iconst X 1 dX11_monthGoes_118 (by decide) (fun v151 _ hv151 => ?_)
        replace E := zLet_s (zcst hv151 (by decide)) E
        refine zg_iaddW X dX11_monthGoes_119 (fun v152 ev152 => ?_)
        replace E := zLet_s ev152 E
        refine as_149 X hI hv148 (by omega) (by omega) dX11_monthGoes_120 (fun s153 es153 hI => ?_)
        replace E := zLet_s es153 E
        have g154 := (zSame.rf (o := a0) (Wf := []) (Wa := [149]) (L := L) (kd := kd) (σ := s143)).a ha0 hv148 es153 rfl (by decide)
        have rs153 := zp_st (σ := s143) (σ2 := s153) (i := v149) (x := v152) ev148 es153 (by omega)
        have ws153 := rs153
        have hS := hS.tr g154 (by decide) (by decide)
        have Ms153 := (zM_same hI ha0 g154 (by decide)).trans Ms143
        have gLs153 := gL.same hI ha0 g154 (by decide) gLs143
        have e155 := g154.v e145 (by decide)
        have e156 := g154.v e146 (by decide)
        have e157 := g154.v e147 (by decide)
        have gRs153 := gR_row hI ha0 g154 rs153 (by omega) gRs143
        refine zg_aload_n X 0 rfl dX11_monthGoes_121 ?_
        refine zg_iconst X 0 dX11_monthGoes_122 (by decide) (fun v158 _ hv158 => ?_)
        replace E := zLet_s (zcst hv158 (by decide)) E
        refine zg_cVv (As := [.int v158]) (st := []) X ha0 rfl (by decide) rfl (t_X11_fillsFlows l d L kd κ _ hI a0 ha0 v158   gRs153 gLs153) mk_X11_329 mc_X11_fillsFlows mz_X11 mi_X11_fillsFlows ml_X11_fillsFlows (na := 1) ⟨md_X11.1, md_X11.2, by decide +kernel⟩ rfl ⟨by decide, by decide⟩ (Nat.le_of_ble_eq_true rfl) dX11_monthGoes_123 (fun t159 hq => ?_)
        obtain ⟨hF, hI, g160⟩ := hq
        replace E := zLet_s hF E
        have hS := hS.tr g160 (by decide) (by decide)
        have Mt159 := (zM_same hI ha0 g160 (by decide)).trans Ms153
        have ut159_49 := zp_same hI ha0 g160 49 rfl (by decide) (by decide)
        have at159_49 := ut159_49
        have gLt159 := gL.same hI ha0 g160 (by decide) gLs153
        have gRt159 := gR.same hI ha0 g160 (by decide) gRs153
        have e161 := g160.v e155 (by decide)
        have e162 := g160.v e156 (by decide)
        have e163 := g160.v e157 (by decide)
        exact ret _ _ _ dX11_monthGoes_126 ⟨E.symm.trans hR, ⟨gRt159, hI, hS⟩⟩
    · skip
      replace E := zIf_f c84 E
      refine zg_aload_n X 0 rfl dX11_monthGoes_15 ?_
      refine fg_X11_61 X hI ha0 dX11_monthGoes_16 (fun v164 ev164 hv164 => ?_)
      replace E := zLet_s (zgr ev164) E
      refine zg_aload_n X 0 rfl dX11_monthGoes_19 ?_
      refine fg_X11_236 X hI ha0 dX11_monthGoes_20 (fun v165 ev165 hv165 => ?_)
      replace E := zLet_s ev165 E
      refine ag_127 X hI hv164 (by omega) (by omega) dX11_monthGoes_23 (fun v166 ev166 _ => ?_)
      replace E := zLet_s ev166 E
      refine zg_goto X 28 dX11_monthGoes_24 (by decide) ?_
      refine zg_cVv (As := [.int v166]) (st := []) X ha0 rfl (by decide) rfl (t_X11_fillsFlows l d L kd κ _ hI a0 ha0 v166   hgR hgL) mk_X11_329 mc_X11_fillsFlows mz_X11 mi_X11_fillsFlows ml_X11_fillsFlows (na := 1) ⟨md_X11.1, md_X11.2, by decide +kernel⟩ rfl ⟨by decide, by decide⟩ (Nat.le_of_ble_eq_true rfl) dX11_monthGoes_28 (fun t167 hq => ?_)
      obtain ⟨hF, hI, g168⟩ := hq
      replace E := zLet_s hF E
      have hS := hS.tr g168 (by decide) (by decide)
      have Mt167 := zM_same hI ha0 g168 (by decide)
      have ut167_49 := zp_same hI ha0 g168 49 rfl (by decide) (by decide)
      have at167_49 := ut167_49
      have gRt167 := gR.same hI ha0 g168 (by decide) hgR
      have gLt167 := gL.same hI ha0 g168 (by decide) hgL
      have e169 := g168.v ev1 (by decide)
      have e170 := g168.v ev165 (by decide)
      refine zg_aload_n X 0 rfl dX11_monthGoes_31 ?_
      refine zg_aload_n X 0 rfl dX11_monthGoes_32 ?_
      refine zg_aload_n X 0 rfl dX11_monthGoes_33 ?_
      refine fg_X11_110 X hI ha0 dX11_monthGoes_34 (fun v171 ev171 hv171 => ?_)
      replace E := zLet_s (zgr ev171) E
      refine zg_bipush X 49 dX11_monthGoes_37 (by decide) (fun v172 _ hv172 => ?_)
      replace E := zLet_s (zcst hv172 (by decide)) E
      refine ag_149 X hI hv171 (by omega) (by omega) dX11_monthGoes_39 (fun v173 ev173 _ => ?_)
      replace E := zLet_s ev173 E
      have qv173 := zp_ld ev171 ev173
      rw [at167_49] at qv173
      rw [show v172.toInt = 49 by omega] at qv173
      have zl := gR_law gRt167
      rw [at167_49] at zl
      refine zg_cVi (As := [.int v173]) (st := [.ref a0]) X ha0 rfl (by decide) rfl (t_X11_winnerBy l d L kd κ _ hI a0 ha0 v173  (by omega) gLt167) mk_X11_374 mc_X11_winnerBy mz_X11 mi_X11_winnerBy ml_X11_winnerBy (na := 1) ⟨md_X11.1, md_X11.2, by decide +kernel⟩ rfl ⟨by decide, by decide⟩ (Nat.le_of_ble_eq_true rfl) dX11_monthGoes_40 (fun v175 t174 hq => ?_)
      obtain ⟨hF, ⟨ht174_res, ht174_fact0, ht174_fact1⟩, hI, g176⟩ := hq
      replace E := zLet2_s hF E
      have hS := hS.tr g176 (by decide) (by decide)
      have Mt174 := (zM_same hI ha0 g176 (by decide)).trans Mt167
      have ut174_49 := zp_same hI ha0 g176 49 rfl (by decide) (by decide)
      have at174_49 := ut174_49.trans at167_49
      have gRt174 := gR.same hI ha0 g176 (by decide) gRt167
      have gLt174 := gL.same hI ha0 g176 (by decide) gLt167
      have e177 := g176.v e169 (by decide)
      have e178 := g176.v e170 (by decide)
      refine fp_X11_377 X hI ha0 ⟨by omega, by omega⟩ dX11_monthGoes_43 (fun s179 es179 hI => ?_)
      replace E := zLet_s es179 E
      have g180 := (zSame.rf (o := a0) (Wf := [56]) (Wa := []) (L := L) (kd := kd) (σ := t174)).f ha0 es179 rfl
      have hS := hS.tr g180 (by decide) (by decide)
      have Ms179 := (zM_same hI ha0 g180 (by decide)).trans Mt174
      have us179_49 := zp_same hI ha0 g180 49 rfl (by decide) (by decide)
      have as179_49 := us179_49.trans at174_49
      have gRs179 := gR.same hI ha0 g180 (by decide) gRt174
      have gLs179 := gL.same hI ha0 g180 (by decide) gLt174
      have e181 := g180.v e177 (by decide)
      have e182 := g180.v e178 (by decide)
      have fs179_56 : (s179.1 a0 56).toInt = v175.toInt := by rw [es179]; exact congrArg _ (zu_s _ _ _ _)
      have e183 : v175 = s179.1 a0 56 := by rw [es179]; exact zm_s
      refine zg_aload_n X 0 rfl dX11_monthGoes_46 ?_
      refine fg_X11_377 X hI ha0 dX11_monthGoes_47 (fun v184 ev184 hv184 => ?_)
      replace E := zLet_s ev184 E
      have mv184 : v184.toInt = v175.toInt := by rw [ev184, ← e183]
      refine zg_if_lt X 110 dX11_monthGoes_50 (by decide) (fun c185 => ?_) (fun c185 => ?_)
      · skip
        replace E := zIf_t c185 E
        refine zg_aload_n X 0 rfl dX11_monthGoes_110 ?_
        refine fg_X11_110 X hI ha0 dX11_monthGoes_111 (fun v186 ev186 hv186 => ?_)
        replace E := zLet_s (zgr ev186) E
        refine zg_bipush X 48 dX11_monthGoes_114 (by decide) (fun v187 _ hv187 => ?_)
        replace E := zLet_s (zcst hv187 (by decide)) E
        refine zg_dup2 X dX11_monthGoes_116 rfl rfl ?_
        refine ag_149 X hI hv186 (by omega) (by omega) dX11_monthGoes_117 (fun v188 ev188 _ => ?_)
        replace E := zLet_s ev188 E
        have qv188 := zp_ld ev186 ev188
        rw [as179_49] at qv188
        rw [show v187.toInt = 48 by omega] at qv188
        refine zg_iconst X 1 dX11_monthGoes_118 (by decide) (fun v189 _ hv189 => ?_)
        replace E := zLet_s (zcst hv189 (by decide)) E
        refine zg_iaddW X dX11_monthGoes_119 (fun v190 ev190 => ?_)
        replace E := zLet_s ev190 E
        refine as_149 X hI hv186 (by omega) (by omega) dX11_monthGoes_120 (fun s191 es191 hI => ?_)
        replace E := zLet_s es191 E
        have g192 := (zSame.rf (o := a0) (Wf := []) (Wa := [149]) (L := L) (kd := kd) (σ := s179)).a ha0 hv186 es191 rfl (by decide)
        have rs191 := zp_st (σ := s179) (σ2 := s191) (i := v187) (x := v190) ev186 es191 (by omega)
        have ws191 := rs191
        rw [as179_49] at ws191
        have hS := hS.tr g192 (by decide) (by decide)
        have Ms191 := (zM_same hI ha0 g192 (by decide)).trans Ms179
        have gLs191 := gL.same hI ha0 g192 (by decide) gLs179
        have e193 := g192.v e181 (by decide)
        have e194 := g192.v e182 (by decide)
        have e195 := g192.v ev184 (by decide)
        have gRs191 := gR_row hI ha0 g192 rs191 (by omega) gRs179
        refine zg_aload_n X 0 rfl dX11_monthGoes_121 ?_
        refine zg_iconst X 0 dX11_monthGoes_122 (by decide) (fun v196 _ hv196 => ?_)
        replace E := zLet_s (zcst hv196 (by decide)) E
        refine zg_cVv (As := [.int v196]) (st := []) X ha0 rfl (by decide) rfl (t_X11_fillsFlows l d L kd κ _ hI a0 ha0 v196   gRs191 gLs191) mk_X11_329 mc_X11_fillsFlows mz_X11 mi_X11_fillsFlows ml_X11_fillsFlows (na := 1) ⟨md_X11.1, md_X11.2, by decide +kernel⟩ rfl ⟨by decide, by decide⟩ (Nat.le_of_ble_eq_true rfl) dX11_monthGoes_123 (fun t197 hq => ?_)
        obtain ⟨hF, hI, g198⟩ := hq
        replace E := zLet_s hF E
        have hS := hS.tr g198 (by decide) (by decide)
        have Mt197 := (zM_same hI ha0 g198 (by decide)).trans Ms191
        have ut197_49 := zp_same hI ha0 g198 49 rfl (by decide) (by decide)
        have at197_49 := ut197_49
        have gLt197 := gL.same hI ha0 g198 (by decide) gLs191
        have gRt197 := gR.same hI ha0 g198 (by decide) gRs191
        have e199 := g198.v e193 (by decide)
        have e200 := g198.v e194 (by decide)
        have e201 := g198.v e195 (by decide)
        exact ret _ _ _ dX11_monthGoes_126 ⟨E.symm.trans hR, ⟨gRt197, hI, hS⟩⟩
      · skip
        replace E := zIf_f (Int.not_lt.mpr c185) E
        refine zg_aload_n X 0 rfl dX11_monthGoes_53 ?_
        refine fg_X11_110 X hI ha0 dX11_monthGoes_54 (fun v202 ev202 hv202 => ?_)
        replace E := zLet_s (zgr ev202) E
        refine zg_bipush X 24 dX11_monthGoes_57 (by decide) (fun v203 _ hv203 => ?_)
        replace E := zLet_s (zcst hv203 (by decide)) E
        refine zg_aload_n X 0 rfl dX11_monthGoes_59 ?_
        refine fg_X11_377 X hI ha0 dX11_monthGoes_60 (fun v204 ev204 hv204 => ?_)
        replace E := zLet_s ev204 E
        have mv204 : v204.toInt = v184.toInt := by rw [ev204, ← ev184]
        refine zg_iadd X dX11_monthGoes_63 (by omega) (by omega) (fun v205 ev205 hv205 => ?_)
        replace E := zLet_s ev205 E
        refine zg_aload_n X 0 rfl dX11_monthGoes_64 ?_
        refine fg_X11_110 X hI ha0 dX11_monthGoes_65 (fun v206 ev206 hv206 => ?_)
        replace E := zLet_s (zgr ev206) E
        refine zg_bipush X 24 dX11_monthGoes_68 (by decide) (fun v207 _ hv207 => ?_)
        replace E := zLet_s (zcst hv207 (by decide)) E
        refine zg_aload_n X 0 rfl dX11_monthGoes_70 ?_
        refine fg_X11_377 X hI ha0 dX11_monthGoes_71 (fun v208 ev208 hv208 => ?_)
        replace E := zLet_s ev208 E
        have mv208 : v208.toInt = v204.toInt := by rw [ev208, ← ev204]
        refine zg_iadd X dX11_monthGoes_74 (by omega) (by omega) (fun v209 ev209 hv209 => ?_)
        replace E := zLet_s ev209 E
        refine ag_149 X hI hv206 (by omega) (by omega) dX11_monthGoes_75 (fun v210 ev210 _ => ?_)
        replace E := zLet_s ev210 E
        have qv210 := zp_ld ev206 ev210
        rw [as179_49] at qv210
        refine zg_iconst X 1 dX11_monthGoes_76 (by decide) (fun v211 _ hv211 => ?_)
        replace E := zLet_s (zcst hv211 (by decide)) E
        refine zg_iaddW X dX11_monthGoes_77 (fun v212 ev212 => ?_)
        replace E := zLet_s ev212 E
        refine zg_iconst X 0 dX11_monthGoes_78 (by decide) (fun v213 _ hv213 => ?_)
        replace E := zLet_s (zcst hv213 (by decide)) E
        refine zg_sipush X 999 dX11_monthGoes_79 (by decide) (fun v214 _ hv214 => ?_)
        replace E := zLet_s (zcst hv214 (by decide)) E
        refine zg_cSi (As := [.int v212, .int v213, .int v214]) (st := [.int v205, .ref v202]) X (t_X11_within l d L kd _ v212 v213 v214 ) mk_X11_357 mc_X11_within mz_X11 ms_X11_within (na := 3) ⟨md_X11.1, md_X11.2, by decide +kernel⟩ rfl ⟨by decide, by decide⟩ (Nat.le_of_ble_eq_true rfl) dX11_monthGoes_82 (fun v215 σ2 hq => ?_)
        obtain ⟨⟨hF, hv215⟩, rfl⟩ := hq
        replace E := zLet_s hF E
        refine as_149 X hI hv202 (by omega) (by omega) dX11_monthGoes_85 (fun s216 es216 hI => ?_)
        replace E := zLet_s es216 E
        have g217 := (zSame.rf (o := a0) (Wf := []) (Wa := [149]) (L := L) (kd := kd) (σ := s179)).a ha0 hv202 es216 rfl (by decide)
        have rs216 := zp_st (σ := s179) (σ2 := s216) (i := v205) (x := v215) ev202 es216 (by omega)
        have ws216 := rs216
        rw [as179_49] at ws216
        have hS := hS.tr g217 (by decide) (by decide)
        have Ms216 := (zM_same hI ha0 g217 (by decide)).trans Ms179
        have gLs216 := gL.same hI ha0 g217 (by decide) gLs179
        have e218 := g217.v e181 (by decide)
        have e219 := g217.v e182 (by decide)
        have e220 := g217.v ev208 (by decide)
        have gRs216 := gR_row hI ha0 g217 rs216 (by omega) gRs179
        refine zg_aload_n X 0 rfl dX11_monthGoes_86 ?_
        refine fg_X11_110 X hI ha0 dX11_monthGoes_87 (fun v221 ev221 hv221 => ?_)
        replace E := zLet_s (zgr ev221) E
        refine zg_bipush X 36 dX11_monthGoes_90 (by decide) (fun v222 _ hv222 => ?_)
        replace E := zLet_s (zcst hv222 (by decide)) E
        refine zg_aload_n X 0 rfl dX11_monthGoes_92 ?_
        refine fg_X11_377 X hI ha0 dX11_monthGoes_93 (fun v223 ev223 hv223 => ?_)
        replace E := zLet_s ev223 E
        have mv223 : v223.toInt = v208.toInt := by rw [ev223, ← e220]
        refine zg_iadd X dX11_monthGoes_96 (by omega) (by omega) (fun v224 ev224 hv224 => ?_)
        replace E := zLet_s ev224 E
        refine zg_dup2 X dX11_monthGoes_97 rfl rfl ?_
        refine ag_149 X hI hv221 (by omega) (by omega) dX11_monthGoes_98 (fun v225 ev225 _ => ?_)
        replace E := zLet_s ev225 E
        have qv225 := zp_ld ev221 ev225
        refine zg_aload_n X 0 rfl dX11_monthGoes_99 ?_
        refine fg_X11_64 X hI ha0 dX11_monthGoes_100 (fun v226 ev226 hv226 => ?_)
        replace E := zLet_s (zgr ev226) E
        refine zg_aload_n X 0 rfl dX11_monthGoes_103 ?_
        refine fg_X11_236 X hI ha0 dX11_monthGoes_104 (fun v227 ev227 hv227 => ?_)
        replace E := zLet_s ev227 E
        have mv227 : v227.toInt = v165.toInt := by rw [ev227, ← e219]
        refine ag_128 X hI hv226 (by omega) (by omega) dX11_monthGoes_107 (fun v228 ev228 _ => ?_)
        replace E := zLet_s ev228 E
        refine zg_iaddW X dX11_monthGoes_108 (fun v229 ev229 => ?_)
        replace E := zLet_s ev229 E
        refine as_149 X hI hv221 (by omega) (by omega) dX11_monthGoes_109 (fun s230 es230 hI => ?_)
        replace E := zLet_s es230 E
        have g231 := (zSame.rf (o := a0) (Wf := []) (Wa := [149]) (L := L) (kd := kd) (σ := s216)).a ha0 hv221 es230 rfl (by decide)
        have rs230 := zp_st (σ := s216) (σ2 := s230) (i := v224) (x := v229) ev221 es230 (by omega)
        have ws230 := rs230
        have hS := hS.tr g231 (by decide) (by decide)
        have Ms230 := (zM_same hI ha0 g231 (by decide)).trans Ms216
        have gLs230 := gL.same hI ha0 g231 (by decide) gLs216
        have e232 := g231.v e218 (by decide)
        have e233 := g231.v ev227 (by decide)
        have e234 := g231.v ev223 (by decide)
        have gRs230 := gR_row hI ha0 g231 rs230 (by omega) gRs216
        refine zg_aload_n X 0 rfl dX11_monthGoes_110 ?_
        refine fg_X11_110 X hI ha0 dX11_monthGoes_111 (fun v235 ev235 hv235 => ?_)
        replace E := zLet_s (zgr ev235) E
        refine zg_bipush X 48 dX11_monthGoes_114 (by decide) (fun v236 _ hv236 => ?_)
        replace E := zLet_s (zcst hv236 (by decide)) E
        refine zg_dup2 X dX11_monthGoes_116 rfl rfl ?_
        refine ag_149 X hI hv235 (by omega) (by omega) dX11_monthGoes_117 (fun v237 ev237 _ => ?_)
        replace E := zLet_s ev237 E
        have qv237 := zp_ld ev235 ev237
        rw [show v236.toInt = 48 by omega] at qv237
        refine zg_iconst X 1 dX11_monthGoes_118 (by decide) (fun v238 _ hv238 => ?_)
        replace E := zLet_s (zcst hv238 (by decide)) E
        refine zg_iaddW X dX11_monthGoes_119 (fun v239 ev239 => ?_)
        replace E := zLet_s ev239 E
        refine as_149 X hI hv235 (by omega) (by omega) dX11_monthGoes_120 (fun s240 es240 hI => ?_)
        replace E := zLet_s es240 E
        have g241 := (zSame.rf (o := a0) (Wf := []) (Wa := [149]) (L := L) (kd := kd) (σ := s230)).a ha0 hv235 es240 rfl (by decide)
        have rs240 := zp_st (σ := s230) (σ2 := s240) (i := v236) (x := v239) ev235 es240 (by omega)
        have ws240 := rs240
        have hS := hS.tr g241 (by decide) (by decide)
        have Ms240 := (zM_same hI ha0 g241 (by decide)).trans Ms230
        have gLs240 := gL.same hI ha0 g241 (by decide) gLs230
        have e242 := g241.v e232 (by decide)
        have e243 := g241.v e233 (by decide)
        have e244 := g241.v e234 (by decide)
        have gRs240 := gR_row hI ha0 g241 rs240 (by omega) gRs230
        refine zg_aload_n X 0 rfl dX11_monthGoes_121 ?_
        refine zg_iconst X 0 dX11_monthGoes_122 (by decide) (fun v245 _ hv245 => ?_)
        replace E := zLet_s (zcst hv245 (by decide)) E
        refine zg_cVv (As := [.int v245]) (st := []) X ha0 rfl (by decide) rfl (t_X11_fillsFlows l d L kd κ _ hI a0 ha0 v245   gRs240 gLs240) mk_X11_329 mc_X11_fillsFlows mz_X11 mi_X11_fillsFlows ml_X11_fillsFlows (na := 1) ⟨md_X11.1, md_X11.2, by decide +kernel⟩ rfl ⟨by decide, by decide⟩ (Nat.le_of_ble_eq_true rfl) dX11_monthGoes_123 (fun t246 hq => ?_)
        obtain ⟨hF, hI, g247⟩ := hq
        replace E := zLet_s hF E
        have hS := hS.tr g247 (by decide) (by decide)
        have Mt246 := (zM_same hI ha0 g247 (by decide)).trans Ms240
        have ut246_49 := zp_same hI ha0 g247 49 rfl (by decide) (by decide)
        have at246_49 := ut246_49
        have gLt246 := gL.same hI ha0 g247 (by decide) gLs240
        have gRt246 := gR.same hI ha0 g247 (by decide) gRs240
        have e248 := g247.v e242 (by decide)
        have e249 := g247.v e243 (by decide)
        have e250 := g247.v e244 (by decide)
        exact ret _ _ _ dX11_monthGoes_126 ⟨E.symm.trans hR, ⟨gRt246, hI, hS⟩⟩
set_option maxHeartbeats 4000000 in
set_option maxRecDepth 100000 in
theorem t_X11_goes (l : Launch) (d : zD2) (L : List Nat) (kd : Nat → Nat) (κ : Int) (σ : zS) (hI : zJ κ L kd σ) (a0 : Nat) (ha0 : zT L kd a0 11) (p1 : Int32) (hgR : gR a0 σ) (hgL : gL a0 σ) : zMv l yX11_goes (Cond.code yX11_goes cX11_goes 3 none :: zWL) 5 [.ref a0, .int p1] d L kd σ (fun σ2 => σ2 = F_X11_goes a0 p1 σ ∧ ((gR a0 σ2) ∧ zJ κ L kd σ2 ∧ zSame a0 [47, 56] [145, 146, 149, 155] L kd σ σ2)) := by
  refine zMv.of (own := RX11) (by decide +kernel) rfl rfl (Nat.le_of_ble_eq_true rfl) ?_
  intro p e s m args below meth c A Q X ret
  have hS : zSame a0 [47, 56] [145, 146, 149, 155] L kd σ σ := zSame.rf
  refine zg_lv (lv2 := [(0, .ref a0), (1, .int p1)]) rfl ?_
  obtain ⟨R, hR⟩ : ∃ R, R = F_X11_goes a0 p1 σ := ⟨_, rfl⟩
  have E := hR
  unfold F_X11_goes at E
  refine zg_iconst X 0 dX11_goes_0 (by decide) (fun v1 _ hv1 => ?_)
  replace E := zLet_s (zcst hv1 (by decide)) E
  refine zg_istore_n X [(2, .int v1), (0, .ref a0), (1, .int p1)] dX11_goes_1 (by decide) rfl ?_
  have Lp3 : ∀ (nLp3 : Nat) (τ3 : zS) (x2 : Int32), zJ κ L kd τ3 → zSame a0 [47, 56] [145, 146, 149, 155] L kd σ τ3 → gL a0 τ3 → gR a0 τ3 → R = F_X11_goes_2 a0 p1  nLp3 x2 τ3 → 0 ≤ x2.toInt ∧ x2.toInt ≤ 2147483647 → (2147483647) - x2.toInt + 1 < (nLp3 : Int) → zG d L kd A 3 p l e (k2_rm 5 (100 * 5)) s m args below meth c Q τ3 2 [(2, .int x2), (0, .ref a0), (1, .int p1)] [] := by
    intro nLp3
    induction nLp3 with
    | zero => intro τ3 x2 hI hS gL_Lp3 gR_Lp3 E  hxLp3 hm ; exact absurd hm (by omega)
    | succ nLp3 ihLp3 =>
      intro τ3 x2 hI hS gL_Lp3 gR_Lp3 E  hxLp3 hmLp3 
      rw [F_X11_goes_2] at E
      refine zg_iload_n X 0 rfl dX11_goes_2 ?_
      refine zg_iload_n X 2 rfl dX11_goes_3 ?_
      have zx2_z4 := zb_rng x2
      have zp1_z5 := zb_rng p1
      refine zg_icmp_ge X 17 dX11_goes_4 (by decide) (fun c6 => ?_) (fun c6 => ?_)
      · skip
        replace E := zIf_f (Int.not_lt.mpr c6) E
        exact ret _ _ _ dX11_goes_17 ⟨E.symm.trans hR, ⟨gR_Lp3, hI, hS⟩⟩
      · skip
        replace E := zIf_t c6 E
        refine zg_aload_n X 1 rfl dX11_goes_7 ?_
        refine zg_cVv (As := []) (st := []) X ha0 rfl (by decide) rfl (t_X11_monthGoes l d L kd κ _ hI a0 ha0    gR_Lp3 gL_Lp3) mk_X11_380 mc_X11_monthGoes mz_X11 mi_X11_monthGoes ml_X11_monthGoes (na := 0) ⟨md_X11.1, md_X11.2, by decide +kernel⟩ rfl ⟨by decide, by decide⟩ (Nat.le_of_ble_eq_true rfl) dX11_goes_8 (fun t7 hq => ?_)
        obtain ⟨hF, gRt7, hI, g8⟩ := hq
        replace E := zLet_s hF E
        have hS := hS.tr g8 (by decide) (by decide)
        have gLt7 := gL.same hI ha0 g8 (by decide) gL_Lp3
        refine zg_iinc X 1 (fun v9 => [(2, .int v9), (0, .ref a0), (1, .int p1)]) 0 dX11_goes_11 rfl (by decide) (by decide) (by omega) (by omega) (fun _ => rfl) (fun v9 ev9 hv9 => ?_)
        replace E := zLet_s (zinc ev9 (by decide)) E
        refine zg_goto X 2 dX11_goes_14 (by decide) ?_
        refine zg_sub [0, 1, 2] rfl ?_
        exact ihLp3 _ v9 hI hS gLt7 gRt7 E  (by omega) (by omega) 
  have zrLp3 := zb_rng v1
  refine zg_sub [0, 1, 2] rfl ?_
  exact Lp3 4294967299 _ v1 hI hS hgL hgR E  (by omega) (by omega) 
set_option maxHeartbeats 4000000 in
set_option maxRecDepth 100000 in
theorem t_X11_begins (l : Launch) (d : zD2) (L : List Nat) (kd : Nat → Nat) (κ : Int) (σ : zS) (hI : zJ κ L kd σ) (a0 : Nat) (ha0 : zT L kd a0 11) (hgT : gT a0 σ) : zMv l yX11_begins (Cond.code yX11_begins cX11_begins 2 none :: zWL) 1 [.ref a0] d L kd σ (fun σ2 => σ2 = F_X11_begins a0 σ ∧ ((gR a0 σ2) ∧ zJ κ L kd σ2 ∧ zSame a0 [50, 51] [149] L kd σ σ2)) := by
  refine zMv.of (own := RX11) (by decide +kernel) rfl rfl (Nat.le_of_ble_eq_true rfl) ?_
  intro p e s m args below meth c A Q X ret
  have hS : zSame a0 [50, 51] [149] L kd σ σ := zSame.rf
  refine zg_lv (lv2 := [(0, .ref a0)]) rfl ?_
  have zm := zM_in hI ha0
  obtain ⟨R, hR⟩ : ∃ R, R = F_X11_begins a0 σ := ⟨_, rfl⟩
  have E := hR
  unfold F_X11_begins at E
  refine zg_iconst X 0 dX11_begins_0 (by decide) (fun v1 _ hv1 => ?_)
  replace E := zLet_s (zcst hv1 (by decide)) E
  refine zg_istore_n X [(1, .int v1), (0, .ref a0)] dX11_begins_1 (by decide) rfl ?_
  have Lp3 : ∀ (nLp3 : Nat) (τ3 : zS) (x2 : Int32), zJ κ L kd τ3 → zSame a0 [50, 51] [149] L kd σ τ3 → gT a0 τ3 → zM a0 τ3 = zM a0 σ → (τ3.1 a0 18).toInt = (σ.1 a0 18).toInt → zp a0 τ3 22 = zp a0 σ 22 → R = F_X11_begins_2 a0  nLp3 x2 τ3 → 0 ≤ x2.toInt ∧ x2.toInt ≤ 50 → (50) - x2.toInt + 1 < (nLp3 : Int) → (∀ j : Int, 0 ≤ j → j < x2.toInt → zp a0 τ3 49 j = 0) → zG d L kd A 2 p l e (k2_rm 1 (100 * 1)) s m args below meth c Q τ3 2 [(1, .int x2), (0, .ref a0)] [] := by
    intro nLp3
    induction nLp3 with
    | zero => intro τ3 x2 hI hS gT_Lp3 M_Lp3 T18_Lp3 A22_Lp3 E  hxLp3 hm _ ; exact absurd hm (by omega)
    | succ nLp3 ihLp3 =>
      intro τ3 x2 hI hS gT_Lp3 M_Lp3 T18_Lp3 A22_Lp3 E  hxLp3 hmLp3 hz
      rw [F_X11_begins_2] at E
      refine zg_iload_n X 0 rfl dX11_begins_2 ?_
      refine zg_bipush X 50 dX11_begins_3 (by decide) (fun v4 _ hv4 => ?_)
      replace E := zLet_s (zcst hv4 (by decide)) E
      refine zg_icmp_ge X 21 dX11_begins_5 (by decide) (fun c5 => ?_) (fun c5 => ?_)
      · skip
        replace E := zIf_f (Int.not_lt.mpr c5) E
        refine zg_iconst X 0 dX11_begins_21 (by decide) (fun v6 _ hv6 => ?_)
        replace E := zLet_s (zcst hv6 (by decide)) E
        refine zg_istore_n X [(1, .int v6), (0, .ref a0)] dX11_begins_22 (by decide) rfl ?_
        have Lp8 : ∀ (nLp8 : Nat) (τ8 : zS) (x7 : Int32), zJ κ L kd τ8 → zSame a0 [50, 51] [149] L kd σ τ8 → gT a0 τ8 → zM a0 τ8 = zM a0 σ → (τ8.1 a0 18).toInt = (σ.1 a0 18).toInt → zp a0 τ8 22 = zp a0 σ 22 → R = F_X11_begins_23 a0 (F_X11_begins_2 a0  nLp3) nLp8 x7 τ8 → 0 ≤ x7.toInt ∧ x7.toInt ≤ 12 ∧ x7.toInt ≤ zM a0 σ → (12) - x7.toInt + 1 < (nLp8 : Int) → (∀ j : Int, 0 ≤ j → j < 50 → (j < x7.toInt → zp a0 τ8 49 j = zp a0 σ 22 (12 * (σ.1 a0 18).toInt + j)) ∧ (x7.toInt ≤ j → zp a0 τ8 49 j = 0)) → zG d L kd A 2 p l e (k2_rm 1 (100 * 1)) s m args below meth c Q τ8 23 [(1, .int x7), (0, .ref a0)] [] := by
          intro nLp8
          induction nLp8 with
          | zero => intro τ8 x7 hI hS gT_Lp8 M_Lp8 T18_Lp8 A22_Lp8 E  hxLp8 hm _ ; exact absurd hm (by omega)
          | succ nLp8 ihLp8 =>
            intro τ8 x7 hI hS gT_Lp8 M_Lp8 T18_Lp8 A22_Lp8 E  hxLp8 hmLp8 hc
            rw [F_X11_begins_23] at E
            refine zg_iload_n X 0 rfl dX11_begins_23 ?_
            refine zg_aload_n X 1 rfl dX11_begins_24 ?_
            refine zg_cVi (As := []) (st := [.int x7]) X ha0 rfl (by decide) rfl (t_X11_many l d L kd κ _ hI a0 ha0   ) mk_X11_313 mc_X11_many mz_X11 mi_X11_many ml_X11_many (na := 0) ⟨md_X11.1, md_X11.2, by decide +kernel⟩ rfl ⟨by decide, by decide⟩ (Nat.le_of_ble_eq_true rfl) dX11_begins_25 (fun v10 t9 hq => ?_)
            obtain ⟨⟨hF, ⟨ht9_res, ht9_fact0⟩⟩, rfl⟩ := hq
            replace E := zLet_s hF E
            refine zg_icmp_ge X 57 dX11_begins_28 (by decide) (fun c11 => ?_) (fun c11 => ?_)
            · skip
              replace E := zIf_f (Int.not_lt.mpr c11) E
              refine zg_aload_n X 1 rfl dX11_begins_57 ?_
              refine zg_aload_n X 1 rfl dX11_begins_58 ?_
              refine fg_X11_67 X hI ha0 dX11_begins_59 (fun v12 ev12 hv12 => ?_)
              replace E := zLet_s (zgr ev12) E
              refine zg_aload_n X 1 rfl dX11_begins_62 ?_
              refine fg_X11_236 X hI ha0 dX11_begins_63 (fun v13 ev13 hv13 => ?_)
              replace E := zLet_s ev13 E
              have kv13 : (τ8.1 a0 18).toInt = v13.toInt := by rw [ev13]
              refine ag_129 X hI hv12 (by omega) (by omega) dX11_begins_66 (fun v14 ev14 _ => ?_)
              replace E := zLet_s ev14 E
              refine fp_X11_320 X hI ha0 (zb_rng _) dX11_begins_67 (fun s15 es15 hI => ?_)
              replace E := zLet_s es15 E
              have g16 := (zSame.rf (o := a0) (Wf := [50]) (Wa := []) (L := L) (kd := kd) (σ := τ8)).f ha0 es15 rfl
              have fs15_18 : (s15.1 a0 18).toInt = (τ8.1 a0 18).toInt := by rw [g16.2.1 18 (by decide)]
              have hS := hS.tr g16 (by decide) (by decide)
              have Ms15 := (zM_same hI ha0 g16 (by decide)).trans M_Lp8
              have us15_22 := zp_same hI ha0 g16 22 rfl (by decide) (by decide)
              have as15_22 := us15_22.trans A22_Lp8
              have us15_49 := zp_same hI ha0 g16 49 rfl (by decide) (by decide)
              have as15_49 := us15_49
              have gTs15 := gT.same hI ha0 g16 (by decide) gT_Lp8
              have e17 := g16.v ev13 (by decide)
              have fs15_50 : (s15.1 a0 50).toInt = v14.toInt := by rw [es15]; exact congrArg _ (zu_s _ _ _ _)
              have e18 : v14 = s15.1 a0 50 := by rw [es15]; exact zm_s
              refine zg_aload_n X 1 rfl dX11_begins_70 ?_
              refine zg_iconst X 0 dX11_begins_71 (by decide) (fun v19 _ hv19 => ?_)
              replace E := zLet_s (zcst hv19 (by decide)) E
              refine fp_X11_323 X hI ha0 ⟨by omega, by omega⟩ dX11_begins_72 (fun s20 es20 hI => ?_)
              replace E := zLet_s es20 E
              have g21 := (zSame.rf (o := a0) (Wf := [51]) (Wa := []) (L := L) (kd := kd) (σ := s15)).f ha0 es20 rfl
              have fs20_18 : (s20.1 a0 18).toInt = (s15.1 a0 18).toInt := by rw [g21.2.1 18 (by decide)]
              have hS := hS.tr g21 (by decide) (by decide)
              have Ms20 := (zM_same hI ha0 g21 (by decide)).trans Ms15
              have us20_22 := zp_same hI ha0 g21 22 rfl (by decide) (by decide)
              have as20_22 := us20_22.trans as15_22
              have us20_49 := zp_same hI ha0 g21 49 rfl (by decide) (by decide)
              have as20_49 := us20_49.trans as15_49
              have gTs20 := gT.same hI ha0 g21 (by decide) gTs15
              have e22 := g21.v e17 (by decide)
              have e23 := g21.v e18 (by decide)
              have fs20_51 : (s20.1 a0 51).toInt = v19.toInt := by rw [es20]; exact congrArg _ (zu_s _ _ _ _)
              have e24 : v19 = s20.1 a0 51 := by rw [es20]; exact zm_s
              exact ret _ _ _ dX11_begins_75 ⟨E.symm.trans hR, ⟨(by unfold gR; rw [Ms20, as20_49]; exact gRow.told zm.2 hgT (fun c h1 h2 => (hc c h1 (by omega)).1 (by omega)) ((hc 49 (by decide) (by decide)).2 (by omega))), hI, hS⟩⟩
            · skip
              replace E := zIf_t c11 E
              refine zg_aload_n X 1 rfl dX11_begins_31 ?_
              refine fg_X11_110 X hI ha0 dX11_begins_32 (fun v25 ev25 hv25 => ?_)
              replace E := zLet_s (zgr ev25) E
              refine zg_iload_n X 0 rfl dX11_begins_35 ?_
              refine zg_aload_n X 1 rfl dX11_begins_36 ?_
              refine fg_X11_46 X hI ha0 dX11_begins_37 (fun v26 ev26 hv26 => ?_)
              replace E := zLet_s (zgr ev26) E
              refine zg_bipush X 12 dX11_begins_40 (by decide) (fun v27 _ hv27 => ?_)
              replace E := zLet_s (zcst hv27 (by decide)) E
              refine zg_aload_n X 1 rfl dX11_begins_42 ?_
              refine fg_X11_236 X hI ha0 dX11_begins_43 (fun v28 ev28 hv28 => ?_)
              replace E := zLet_s ev28 E
              have kv28 : (τ8.1 a0 18).toInt = v28.toInt := by rw [ev28]
              refine zg_imulc X 12 dX11_begins_46 (by omega) (by omega) (by omega) (fun v29 ev29 hv29 => ?_)
              replace E := zLet_s ev29 E
              refine zg_iload_n X 0 rfl dX11_begins_47 ?_
              refine zg_iadd X dX11_begins_48 (by omega) (by omega) (fun v30 ev30 hv30 => ?_)
              replace E := zLet_s ev30 E
              refine ag_122 X hI hv26 (by omega) (by omega) dX11_begins_49 (fun v31 ev31 _ => ?_)
              replace E := zLet_s ev31 E
              have qv31 := zp_ld ev26 ev31
              rw [A22_Lp8] at qv31
              refine as_149 X hI hv25 (by omega) (by omega) dX11_begins_50 (fun s32 es32 hI => ?_)
              replace E := zLet_s es32 E
              have g33 := (zSame.rf (o := a0) (Wf := []) (Wa := [149]) (L := L) (kd := kd) (σ := τ8)).a ha0 hv25 es32 rfl (by decide)
              have rs32 := zp_st (σ := τ8) (σ2 := s32) (i := x7) (x := v31) ev25 es32 (by omega)
              have ws32 := rs32
              have fs32_18 : (s32.1 a0 18).toInt = (τ8.1 a0 18).toInt := by rw [g33.2.1 18 (by decide)]
              have hS := hS.tr g33 (by decide) (by decide)
              have Ms32 := (zM_same hI ha0 g33 (by decide)).trans M_Lp8
              have us32_22 := zp_same hI ha0 g33 22 rfl (by decide) (by decide)
              have as32_22 := us32_22.trans A22_Lp8
              have gTs32 := gT.same hI ha0 g33 (by decide) gT_Lp8
              have e34 := g33.v ev28 (by decide)
              refine zg_iinc X 1 (fun v35 => [(1, .int v35), (0, .ref a0)]) 0 dX11_begins_51 rfl (by decide) (by decide) (by omega) (by omega) (fun _ => rfl) (fun v35 ev35 hv35 => ?_)
              replace E := zLet_s (zinc ev35 (by decide)) E
              refine zg_goto X 23 dX11_begins_54 (by decide) ?_
              refine zg_sub [0, 1] rfl ?_
              exact ihLp8 _ v35 hI hS gTs32 Ms32 (by omega) as32_22 E  (by omega) (by omega) (fun j h0 h1 => by rw [ws32 j h0]; have zj := hc j h0 h1; split <;> rename_i hj <;> first | (refine ⟨fun h2 => ?_, fun h2 => absurd h2 (by omega)⟩; rw [qv31, hj]; congr 1; omega) | exact ⟨fun h2 => zj.1 (by omega), fun h2 => zj.2 (by omega)⟩)
        refine zg_sub [0, 1] rfl ?_
        exact Lp8 10000 _ v6 hI hS gT_Lp3 M_Lp3 (by omega) A22_Lp3 E  (by omega) (by omega) (fun j h0 h1 => ⟨fun h2 => absurd h2 (by omega), fun h2 => hz j h0 (by omega)⟩)
      · skip
        replace E := zIf_t c5 E
        refine zg_aload_n X 1 rfl dX11_begins_8 ?_
        refine fg_X11_110 X hI ha0 dX11_begins_9 (fun v36 ev36 hv36 => ?_)
        replace E := zLet_s (zgr ev36) E
        refine zg_iload_n X 0 rfl dX11_begins_12 ?_
        refine zg_iconst X 0 dX11_begins_13 (by decide) (fun v37 _ hv37 => ?_)
        replace E := zLet_s (zcst hv37 (by decide)) E
        refine as_149 X hI hv36 (by omega) (by omega) dX11_begins_14 (fun s38 es38 hI => ?_)
        replace E := zLet_s es38 E
        have g39 := (zSame.rf (o := a0) (Wf := []) (Wa := [149]) (L := L) (kd := kd) (σ := τ3)).a ha0 hv36 es38 rfl (by decide)
        have rs38 := zp_st (σ := τ3) (σ2 := s38) (i := x2) (x := v37) ev36 es38 (by omega)
        have ws38 := rs38
        have fs38_18 : (s38.1 a0 18).toInt = (τ3.1 a0 18).toInt := by rw [g39.2.1 18 (by decide)]
        have hS := hS.tr g39 (by decide) (by decide)
        have Ms38 := (zM_same hI ha0 g39 (by decide)).trans M_Lp3
        have us38_22 := zp_same hI ha0 g39 22 rfl (by decide) (by decide)
        have as38_22 := us38_22.trans A22_Lp3
        have gTs38 := gT.same hI ha0 g39 (by decide) gT_Lp3
        refine zg_iinc X 1 (fun v40 => [(1, .int v40), (0, .ref a0)]) 0 dX11_begins_15 rfl (by decide) (by decide) (by omega) (by omega) (fun _ => rfl) (fun v40 ev40 hv40 => ?_)
        replace E := zLet_s (zinc ev40 (by decide)) E
        refine zg_goto X 2 dX11_begins_18 (by decide) ?_
        refine zg_sub [0, 1] rfl ?_
        exact ihLp3 _ v40 hI hS gTs38 Ms38 (by omega) as38_22 E  (by omega) (by omega) (fun j h0 h1 => by rw [ws38 j h0]; split <;> rename_i hj <;> first | omega | exact hz j h0 (by omega))
  refine zg_sub [0, 1] rfl ?_
  exact Lp3 10000 _ v1 hI hS hgT rfl (by omega) rfl E  (by omega) (by omega) (fun j h0 h1 => absurd h1 (by omega))
set_option maxHeartbeats 4000000 in
set_option maxRecDepth 100000 in
theorem t_X11_copiesStill (l : Launch) (d : zD2) (L : List Nat) (kd : Nat → Nat) (κ : Int) (σ : zS) (hI : zJ κ L kd σ) (a0 : Nat) (ha0 : zT L kd a0 11) (hgN : gN a0 σ) (hgL : gL a0 σ) : zMv l yX11_copiesStill (Cond.code yX11_copiesStill cX11_copiesStill 1 none :: zWL) 5 [.ref a0] d L kd σ (fun σ2 => σ2 = F_X11_copiesStill a0 σ ∧ (((gR a0 σ2) ∧ (gB a0 σ2)) ∧ zJ κ L kd σ2 ∧ zSame a0 [47, 50, 51] [145, 146, 149, 152, 153, 154, 155] L kd σ σ2)) := by
  refine zMv.of (own := RX11) (by decide +kernel) rfl rfl (Nat.le_of_ble_eq_true rfl) ?_
  intro p e s m args below meth c A Q X ret
  have hS : zSame a0 [47, 50, 51] [145, 146, 149, 152, 153, 154, 155] L kd σ σ := zSame.rf
  refine zg_lv (lv2 := [(0, .ref a0)]) rfl ?_
  obtain ⟨R, hR⟩ : ∃ R, R = F_X11_copiesStill a0 σ := ⟨_, rfl⟩
  have E := hR
  unfold F_X11_copiesStill at E
  refine zg_aload_n X 0 rfl dX11_copiesStill_0 ?_
  refine zg_cVv (As := []) (st := []) X ha0 rfl (by decide) rfl (t_X11_copies l d L kd κ _ hI a0 ha0    hgN hgL) mk_X11_332 mc_X11_copies mz_X11 mi_X11_copies ml_X11_copies (na := 0) ⟨md_X11.1, md_X11.2, by decide +kernel⟩ rfl ⟨by decide, by decide⟩ (Nat.le_of_ble_eq_true rfl) dX11_copiesStill_1 (fun t1 hq => ?_)
  obtain ⟨hF, ⟨ht1_fact0, gRt1, gBt1⟩, hI, g2⟩ := hq
  replace E := zLet_s hF E
  have hS := hS.tr g2 (by decide) (by decide)
  have gNt1 := gN.same hI ha0 g2 (by decide) hgN
  have gLt1 := gL.same hI ha0 g2 (by decide) hgL
  refine zg_aload_n X 0 rfl dX11_copiesStill_4 ?_
  refine zg_iconst X 1 dX11_copiesStill_5 (by decide) (fun v3 _ hv3 => ?_)
  replace E := zLet_s (zcst hv3 (by decide)) E
  refine fp_X11_323 X hI ha0 ⟨by omega, by omega⟩ dX11_copiesStill_6 (fun s4 es4 hI => ?_)
  replace E := zLet_s es4 E
  have g5 := (zSame.rf (o := a0) (Wf := [51]) (Wa := []) (L := L) (kd := kd) (σ := t1)).f ha0 es4 rfl
  have hS := hS.tr g5 (by decide) (by decide)
  have gNs4 := gN.same hI ha0 g5 (by decide) gNt1
  have gLs4 := gL.same hI ha0 g5 (by decide) gLt1
  have gRs4 := gR.same hI ha0 g5 (by decide) gRt1
  have gBs4 := gB.same hI ha0 g5 (by decide) gBt1
  have fs4_51 : (s4.1 a0 51).toInt = v3.toInt := by rw [es4]; exact congrArg _ (zu_s _ _ _ _)
  have e6 : v3 = s4.1 a0 51 := by rw [es4]; exact zm_s
  exact ret _ _ _ dX11_copiesStill_9 ⟨E.symm.trans hR, ⟨⟨gRs4, gBs4⟩, hI, hS⟩⟩
set_option maxHeartbeats 4000000 in
set_option maxRecDepth 100000 in
theorem t_X11_records (l : Launch) (d : zD2) (L : List Nat) (kd : Nat → Nat) (κ : Int) (σ : zS) (hI : zJ κ L kd σ) (a0 : Nat) (ha0 : zT L kd a0 11) (hgR : gR a0 σ) (hgN : gN a0 σ) (hgH : gH a0 σ) : zMv l yX11_records (Cond.code yX11_records cX11_records 2 none :: zWL) 1 [.ref a0] d L kd σ (fun σ2 => σ2 = F_X11_records a0 σ ∧ (((gR a0 σ2) ∧ (gN a0 σ2) ∧ (gH a0 σ2)) ∧ zJ κ L kd σ2 ∧ zSame a0 [57] [148, 158] L kd σ σ2)) := by
  refine zMv.of (own := RX11) (by decide +kernel) rfl rfl (Nat.le_of_ble_eq_true rfl) ?_
  intro p e s m args below meth c A Q X ret
  have hS : zSame a0 [57] [148, 158] L kd σ σ := zSame.rf
  refine zg_lv (lv2 := [(0, .ref a0)]) rfl ?_
  have zm := zM_in hI ha0
  obtain ⟨R, hR⟩ : ∃ R, R = F_X11_records a0 σ := ⟨_, rfl⟩
  have E := hR
  unfold F_X11_records at E
  refine zg_aload_n X 0 rfl dX11_records_0 ?_
  refine fg_X11_258 X hI ha0 dX11_records_1 (fun v1 ev1 hv1 => ?_)
  replace E := zLet_s ev1 E
  have kv1 : (σ.1 a0 57).toInt = v1.toInt := by rw [ev1]
  refine zg_bipush X 40 dX11_records_4 (by decide) (fun v2 _ hv2 => ?_)
  replace E := zLet_s (zcst hv2 (by decide)) E
  refine zg_icmp_ne X 49 dX11_records_6 (by decide) (fun c3 => ?_) (fun c3 => ?_)
  · skip
    replace E := zIf_f c3 E
    have HH : ∀ i : Int, 0 ≤ i → i < (σ.1 a0 57).toInt → gRow (zM a0 σ) (fun j => zp a0 σ 58 (50 * i + j)) := hgH
    refine zg_iconst X 0 dX11_records_49 (by decide) (fun v4 _ hv4 => ?_)
    replace E := zLet_s (zcst hv4 (by decide)) E
    refine zg_istore_n X [(1, .int v4), (0, .ref a0)] dX11_records_50 (by decide) rfl ?_
    have Lp6 : ∀ (nLp6 : Nat) (τ6 : zS) (x5 : Int32), zJ κ L kd τ6 → zSame a0 [57] [148, 158] L kd σ τ6 → gR a0 τ6 → zM a0 τ6 = zM a0 σ → zp a0 τ6 48 = zp a0 σ 48 → zp a0 τ6 49 = zp a0 σ 49 → R = F_X11_records_51 a0  nLp6 x5 τ6 → 0 ≤ x5.toInt ∧ x5.toInt ≤ 50 ∧ (τ6.1 a0 57).toInt = (σ.1 a0 57).toInt ∧ 0 ≤ (τ6.1 a0 57).toInt ∧ (τ6.1 a0 57).toInt ≤ 39 → (50) - x5.toInt + 1 < (nLp6 : Int) → (∀ i : Int, 0 ≤ i → i < (σ.1 a0 57).toInt → gRow (zM a0 σ) (fun j => zp a0 τ6 58 (50 * i + j))) → (∀ j : Int, 0 ≤ j → j < x5.toInt → zp a0 τ6 58 (50 * (σ.1 a0 57).toInt + j) = zp a0 σ 48 j) → zG d L kd A 2 p l e (k2_rm 1 (100 * 1)) s m args below meth c Q τ6 51 [(1, .int x5), (0, .ref a0)] [] := by
      intro nLp6
      induction nLp6 with
      | zero => intro τ6 x5 hI hS gR_Lp6 M_Lp6 A48_Lp6 A49_Lp6 E  hxLp6 hm _ _ ; exact absurd hm (by omega)
      | succ nLp6 ihLp6 =>
        intro τ6 x5 hI hS gR_Lp6 M_Lp6 A48_Lp6 A49_Lp6 E  hxLp6 hmLp6 hH hn
        rw [F_X11_records_51] at E
        refine zg_iload_n X 0 rfl dX11_records_51 ?_
        refine zg_bipush X 50 dX11_records_52 (by decide) (fun v7 _ hv7 => ?_)
        replace E := zLet_s (zcst hv7 (by decide)) E
        refine zg_icmp_ge X 83 dX11_records_54 (by decide) (fun c8 => ?_) (fun c8 => ?_)
        · skip
          replace E := zIf_f (Int.not_lt.mpr c8) E
          refine zg_aload_n X 1 rfl dX11_records_83 ?_
          refine zg_dup X dX11_records_84 rfl ?_
          refine fg_X11_258 X hI ha0 dX11_records_85 (fun v9 ev9 hv9 => ?_)
          replace E := zLet_s ev9 E
          have kv9 : (τ6.1 a0 57).toInt = v9.toInt := by rw [ev9]
          refine zg_iconst X 1 dX11_records_88 (by decide) (fun v10 _ hv10 => ?_)
          replace E := zLet_s (zcst hv10 (by decide)) E
          refine zg_iadd X dX11_records_89 (by omega) (by omega) (fun v11 ev11 hv11 => ?_)
          replace E := zLet_s ev11 E
          refine fp_X11_258 X hI ha0 ⟨by omega, by omega⟩ dX11_records_90 (fun s12 es12 hI => ?_)
          replace E := zLet_s es12 E
          have g13 := (zSame.rf (o := a0) (Wf := [57]) (Wa := []) (L := L) (kd := kd) (σ := τ6)).f ha0 es12 rfl
          have hS := hS.tr g13 (by decide) (by decide)
          have Ms12 := (zM_same hI ha0 g13 (by decide)).trans M_Lp6
          have us12_48 := zp_same hI ha0 g13 48 rfl (by decide) (by decide)
          have as12_48 := us12_48.trans A48_Lp6
          have us12_49 := zp_same hI ha0 g13 49 rfl (by decide) (by decide)
          have as12_49 := us12_49.trans A49_Lp6
          have us12_58 := zp_same hI ha0 g13 58 rfl (by decide) (by decide)
          have as12_58 := us12_58
          have gRs12 := gR.same hI ha0 g13 (by decide) gR_Lp6
          have fs12_57 : (s12.1 a0 57).toInt = v11.toInt := by rw [es12]; exact congrArg _ (zu_s _ _ _ _)
          have e14 : v11 = s12.1 a0 57 := by rw [es12]; exact zm_s
          refine zg_aload_n X 1 rfl dX11_records_93 ?_
          refine zg_cVv (As := []) (st := []) X ha0 rfl (by decide) rfl (t_X11_keepsRow l d L kd κ _ hI a0 ha0   ) mk_X11_166 mc_X11_keepsRow mz_X11 mi_X11_keepsRow ml_X11_keepsRow (na := 0) ⟨md_X11.1, md_X11.2, by decide +kernel⟩ rfl ⟨by decide, by decide⟩ (Nat.le_of_ble_eq_true rfl) dX11_records_94 (fun t15 hq => ?_)
          obtain ⟨hF, ht15_fact0, hI, g16⟩ := hq
          replace E := zLet_s hF E
          have ft15_57 : (t15.1 a0 57).toInt = (s12.1 a0 57).toInt := by rw [g16.2.1 57 (by decide)]
          have hS := hS.tr g16 (by decide) (by decide)
          have Mt15 := (zM_same hI ha0 g16 (by decide)).trans Ms12
          have ut15_49 := zp_same hI ha0 g16 49 rfl (by decide) (by decide)
          have at15_49 := ut15_49.trans as12_49
          have ut15_58 := zp_same hI ha0 g16 58 rfl (by decide) (by decide)
          have at15_58 := ut15_58.trans as12_58
          have gRt15 := gR.same hI ha0 g16 (by decide) gRs12
          have e17 := g16.v e14 (by decide)
          exact ret _ _ _ dX11_records_97 ⟨E.symm.trans hR, ⟨⟨gRt15, (by unfold gN; rw [Mt15]; have z := gRt15; unfold gR at z; rw [Mt15] at z; exact gRow.congr zm.2 z (fun j h1 h2 => ht15_fact0 j (by omega) (by omega))), (by unfold gH; rw [Mt15]; intro i h0 h1; exact if z : i + 1 < (t15.1 a0 57).toInt then gRow.congr zm.2 (hH i h0 (by omega)) (fun j h2 h3 => by show zp a0 _ 58 (50 * i + j) = zp a0 _ 58 (50 * i + j); rw [at15_58]) else gRow.congr zm.2 (show gRow _ _ from hgN) (fun j h2 h3 => by show zp a0 _ 58 (50 * i + j) = zp a0 _ 48 j; rw [at15_58, ← hn j (by omega) (by omega)]; congr 1; omega))⟩, hI, hS⟩⟩
        · skip
          replace E := zIf_t c8 E
          refine zg_aload_n X 1 rfl dX11_records_57 ?_
          refine fg_X11_125 X hI ha0 dX11_records_58 (fun v18 ev18 hv18 => ?_)
          replace E := zLet_s (zgr ev18) E
          refine zg_bipush X 50 dX11_records_61 (by decide) (fun v19 _ hv19 => ?_)
          replace E := zLet_s (zcst hv19 (by decide)) E
          refine zg_aload_n X 1 rfl dX11_records_63 ?_
          refine fg_X11_258 X hI ha0 dX11_records_64 (fun v20 ev20 hv20 => ?_)
          replace E := zLet_s ev20 E
          have kv20 : (τ6.1 a0 57).toInt = v20.toInt := by rw [ev20]
          refine zg_imulc X 50 dX11_records_67 (by omega) (by omega) (by omega) (fun v21 ev21 hv21 => ?_)
          replace E := zLet_s ev21 E
          refine zg_iload_n X 0 rfl dX11_records_68 ?_
          refine zg_iadd X dX11_records_69 (by omega) (by omega) (fun v22 ev22 hv22 => ?_)
          replace E := zLet_s ev22 E
          refine zg_aload_n X 1 rfl dX11_records_70 ?_
          refine fg_X11_107 X hI ha0 dX11_records_71 (fun v23 ev23 hv23 => ?_)
          replace E := zLet_s (zgr ev23) E
          refine zg_iload_n X 0 rfl dX11_records_74 ?_
          refine ag_148 X hI hv23 (by omega) (by omega) dX11_records_75 (fun v24 ev24 _ => ?_)
          replace E := zLet_s ev24 E
          have qv24 := zp_ld ev23 ev24
          rw [A48_Lp6] at qv24
          refine as_158 X hI hv18 (by omega) (by omega) dX11_records_76 (fun s25 es25 hI => ?_)
          replace E := zLet_s es25 E
          have g26 := (zSame.rf (o := a0) (Wf := []) (Wa := [158]) (L := L) (kd := kd) (σ := τ6)).a ha0 hv18 es25 rfl (by decide)
          have rs25 := zp_st (σ := τ6) (σ2 := s25) (i := v22) (x := v24) ev18 es25 (by omega)
          have ws25 := rs25
          have fs25_57 : (s25.1 a0 57).toInt = (τ6.1 a0 57).toInt := by rw [g26.2.1 57 (by decide)]
          have hS := hS.tr g26 (by decide) (by decide)
          have Ms25 := (zM_same hI ha0 g26 (by decide)).trans M_Lp6
          have us25_48 := zp_same hI ha0 g26 48 rfl (by decide) (by decide)
          have as25_48 := us25_48.trans A48_Lp6
          have us25_49 := zp_same hI ha0 g26 49 rfl (by decide) (by decide)
          have as25_49 := us25_49.trans A49_Lp6
          have gRs25 := gR.same hI ha0 g26 (by decide) gR_Lp6
          have e27 := g26.v ev20 (by decide)
          refine zg_iinc X 1 (fun v28 => [(1, .int v28), (0, .ref a0)]) 0 dX11_records_77 rfl (by decide) (by decide) (by omega) (by omega) (fun _ => rfl) (fun v28 ev28 hv28 => ?_)
          replace E := zLet_s (zinc ev28 (by decide)) E
          refine zg_goto X 51 dX11_records_80 (by decide) ?_
          refine zg_sub [0, 1] rfl ?_
          exact ihLp6 _ v28 hI hS gRs25 Ms25 as25_48 as25_49 E  (by omega) (by omega) (fun i h0 h1 => gRow.congr zm.2 (hH i h0 h1) (fun j h2 h3 => by show zp a0 _ 58 (50 * i + j) = zp a0 _ 58 (50 * i + j); rw [ws25 _ (by omega), if_neg (by omega)])) (fun j h0 h1 => by rw [ws25 _ (by omega)]; split <;> rename_i hj <;> first | (rw [qv24]; congr 1; omega) | exact hn j h0 (by omega))
    refine zg_sub [0, 1] rfl ?_
    exact Lp6 10000 _ v4 hI hS hgR rfl rfl rfl E  (by omega) (by omega) (HH) (fun j h0 h1 => absurd h1 (by omega))
  · skip
    replace E := zIf_t c3 E
    refine zg_iconst X 0 dX11_records_9 (by decide) (fun v29 _ hv29 => ?_)
    replace E := zLet_s (zcst hv29 (by decide)) E
    refine zg_istore_n X [(1, .int v29), (0, .ref a0)] dX11_records_10 (by decide) rfl ?_
    have Lp31 : ∀ (nLp31 : Nat) (τ31 : zS) (x30 : Int32), zJ κ L kd τ31 → zSame a0 [57] [148, 158] L kd σ τ31 → gR a0 τ31 → zM a0 τ31 = zM a0 σ → zp a0 τ31 48 = zp a0 σ 48 → zp a0 τ31 49 = zp a0 σ 49 → R = F_X11_records_11 a0  nLp31 x30 τ31 → 0 ≤ x30.toInt ∧ x30.toInt ≤ 1950 ∧ (σ.1 a0 57).toInt = 40 ∧ (τ31.1 a0 57).toInt = 40 → (1950) - x30.toInt + 1 < (nLp31 : Int) → (∀ j : Int, 0 ≤ j → j < 2000 → (j < x30.toInt → zp a0 τ31 58 j = zp a0 σ 58 (j + 50)) ∧ (x30.toInt ≤ j → zp a0 τ31 58 j = zp a0 σ 58 j)) → zG d L kd A 2 p l e (k2_rm 1 (100 * 1)) s m args below meth c Q τ31 11 [(1, .int x30), (0, .ref a0)] [] := by
      intro nLp31
      induction nLp31 with
      | zero => intro τ31 x30 hI hS gR_Lp31 M_Lp31 A48_Lp31 A49_Lp31 E  hxLp31 hm _ ; exact absurd hm (by omega)
      | succ nLp31 ihLp31 =>
        intro τ31 x30 hI hS gR_Lp31 M_Lp31 A48_Lp31 A49_Lp31 E  hxLp31 hmLp31 hh
        rw [F_X11_records_11] at E
        refine zg_iload_n X 0 rfl dX11_records_11 ?_
        refine zg_sipush X 1950 dX11_records_12 (by decide) (fun v32 _ hv32 => ?_)
        replace E := zLet_s (zcst hv32 (by decide)) E
        refine zg_icmp_ge X 39 dX11_records_15 (by decide) (fun c33 => ?_) (fun c33 => ?_)
        · skip
          replace E := zIf_f (Int.not_lt.mpr c33) E
          refine zg_aload_n X 1 rfl dX11_records_39 ?_
          refine zg_dup X dX11_records_40 rfl ?_
          refine fg_X11_258 X hI ha0 dX11_records_41 (fun v34 ev34 hv34 => ?_)
          replace E := zLet_s ev34 E
          have kv34 : (τ31.1 a0 57).toInt = v34.toInt := by rw [ev34]
          refine zg_iconst X 1 dX11_records_44 (by decide) (fun v35 _ hv35 => ?_)
          replace E := zLet_s (zcst hv35 (by decide)) E
          refine zg_isub X dX11_records_45 (by omega) (by omega) (fun v36 ev36 hv36 => ?_)
          replace E := zLet_s ev36 E
          refine fp_X11_258 X hI ha0 ⟨by omega, by omega⟩ dX11_records_46 (fun s37 es37 hI => ?_)
          replace E := zLet_s es37 E
          have g38 := (zSame.rf (o := a0) (Wf := [57]) (Wa := []) (L := L) (kd := kd) (σ := τ31)).f ha0 es37 rfl
          have hS := hS.tr g38 (by decide) (by decide)
          have Ms37 := (zM_same hI ha0 g38 (by decide)).trans M_Lp31
          have us37_48 := zp_same hI ha0 g38 48 rfl (by decide) (by decide)
          have as37_48 := us37_48.trans A48_Lp31
          have us37_49 := zp_same hI ha0 g38 49 rfl (by decide) (by decide)
          have as37_49 := us37_49.trans A49_Lp31
          have us37_58 := zp_same hI ha0 g38 58 rfl (by decide) (by decide)
          have as37_58 := us37_58
          have gRs37 := gR.same hI ha0 g38 (by decide) gR_Lp31
          have fs37_57 : (s37.1 a0 57).toInt = v36.toInt := by rw [es37]; exact congrArg _ (zu_s _ _ _ _)
          have e39 : v36 = s37.1 a0 57 := by rw [es37]; exact zm_s
          have HH : ∀ i : Int, 0 ≤ i → i < (s37.1 a0 57).toInt → gRow (zM a0 σ) (fun j => zp a0 s37 58 (50 * i + j)) := fun i h0 h1 => gRow.congr zm.2 (hgH (i + 1) (by omega) (by omega)) (fun j h2 h3 => by show zp a0 _ 58 (50 * i + j) = zp a0 _ 58 (50 * (i + 1) + j); rw [as37_58, (hh _ (by omega) (by omega)).1 (by omega)]; congr 1; omega)
          refine zg_iconst X 0 dX11_records_49 (by decide) (fun v40 _ hv40 => ?_)
          replace E := zLet_s (zcst hv40 (by decide)) E
          refine zg_istore_n X [(1, .int v40), (0, .ref a0)] dX11_records_50 (by decide) rfl ?_
          have Lp42 : ∀ (nLp42 : Nat) (τ42 : zS) (x41 : Int32), zJ κ L kd τ42 → zSame a0 [57] [148, 158] L kd σ τ42 → gR a0 τ42 → zM a0 τ42 = zM a0 σ → zp a0 τ42 48 = zp a0 σ 48 → zp a0 τ42 49 = zp a0 σ 49 → R = F_X11_records_51_1 a0 (F_X11_records_11 a0  nLp31) nLp42 x41 τ42 → 0 ≤ x41.toInt ∧ x41.toInt ≤ 50 ∧ (τ42.1 a0 57).toInt = (s37.1 a0 57).toInt ∧ 0 ≤ (τ42.1 a0 57).toInt ∧ (τ42.1 a0 57).toInt ≤ 39 → (50) - x41.toInt + 1 < (nLp42 : Int) → (∀ i : Int, 0 ≤ i → i < (s37.1 a0 57).toInt → gRow (zM a0 σ) (fun j => zp a0 τ42 58 (50 * i + j))) → (∀ j : Int, 0 ≤ j → j < x41.toInt → zp a0 τ42 58 (50 * (s37.1 a0 57).toInt + j) = zp a0 σ 48 j) → zG d L kd A 2 p l e (k2_rm 1 (100 * 1)) s m args below meth c Q τ42 51 [(1, .int x41), (0, .ref a0)] [] := by
            intro nLp42
            induction nLp42 with
            | zero => intro τ42 x41 hI hS gR_Lp42 M_Lp42 A48_Lp42 A49_Lp42 E  hxLp42 hm _ _ ; exact absurd hm (by omega)
            | succ nLp42 ihLp42 =>
              intro τ42 x41 hI hS gR_Lp42 M_Lp42 A48_Lp42 A49_Lp42 E  hxLp42 hmLp42 hH hn
              rw [F_X11_records_51_1] at E
              refine zg_iload_n X 0 rfl dX11_records_51 ?_
              refine zg_bipush X 50 dX11_records_52 (by decide) (fun v43 _ hv43 => ?_)
              replace E := zLet_s (zcst hv43 (by decide)) E
              refine zg_icmp_ge X 83 dX11_records_54 (by decide) (fun c44 => ?_) (fun c44 => ?_)
              · skip
                replace E := zIf_f (Int.not_lt.mpr c44) E
                refine zg_aload_n X 1 rfl dX11_records_83 ?_
                refine zg_dup X dX11_records_84 rfl ?_
                refine fg_X11_258 X hI ha0 dX11_records_85 (fun v45 ev45 hv45 => ?_)
                replace E := zLet_s ev45 E
                have kv45 : (τ42.1 a0 57).toInt = v45.toInt := by rw [ev45]
                refine zg_iconst X 1 dX11_records_88 (by decide) (fun v46 _ hv46 => ?_)
                replace E := zLet_s (zcst hv46 (by decide)) E
                refine zg_iadd X dX11_records_89 (by omega) (by omega) (fun v47 ev47 hv47 => ?_)
                replace E := zLet_s ev47 E
                refine fp_X11_258 X hI ha0 ⟨by omega, by omega⟩ dX11_records_90 (fun s48 es48 hI => ?_)
                replace E := zLet_s es48 E
                have g49 := (zSame.rf (o := a0) (Wf := [57]) (Wa := []) (L := L) (kd := kd) (σ := τ42)).f ha0 es48 rfl
                have hS := hS.tr g49 (by decide) (by decide)
                have Ms48 := (zM_same hI ha0 g49 (by decide)).trans M_Lp42
                have us48_48 := zp_same hI ha0 g49 48 rfl (by decide) (by decide)
                have as48_48 := us48_48.trans A48_Lp42
                have us48_49 := zp_same hI ha0 g49 49 rfl (by decide) (by decide)
                have as48_49 := us48_49.trans A49_Lp42
                have us48_58 := zp_same hI ha0 g49 58 rfl (by decide) (by decide)
                have as48_58 := us48_58
                have gRs48 := gR.same hI ha0 g49 (by decide) gR_Lp42
                have fs48_57 : (s48.1 a0 57).toInt = v47.toInt := by rw [es48]; exact congrArg _ (zu_s _ _ _ _)
                have e50 : v47 = s48.1 a0 57 := by rw [es48]; exact zm_s
                refine zg_aload_n X 1 rfl dX11_records_93 ?_
                refine zg_cVv (As := []) (st := []) X ha0 rfl (by decide) rfl (t_X11_keepsRow l d L kd κ _ hI a0 ha0   ) mk_X11_166 mc_X11_keepsRow mz_X11 mi_X11_keepsRow ml_X11_keepsRow (na := 0) ⟨md_X11.1, md_X11.2, by decide +kernel⟩ rfl ⟨by decide, by decide⟩ (Nat.le_of_ble_eq_true rfl) dX11_records_94 (fun t51 hq => ?_)
                obtain ⟨hF, ht51_fact0, hI, g52⟩ := hq
                replace E := zLet_s hF E
                have ft51_57 : (t51.1 a0 57).toInt = (s48.1 a0 57).toInt := by rw [g52.2.1 57 (by decide)]
                have hS := hS.tr g52 (by decide) (by decide)
                have Mt51 := (zM_same hI ha0 g52 (by decide)).trans Ms48
                have ut51_49 := zp_same hI ha0 g52 49 rfl (by decide) (by decide)
                have at51_49 := ut51_49.trans as48_49
                have ut51_58 := zp_same hI ha0 g52 58 rfl (by decide) (by decide)
                have at51_58 := ut51_58.trans as48_58
                have gRt51 := gR.same hI ha0 g52 (by decide) gRs48
                have e53 := g52.v e50 (by decide)
                exact ret _ _ _ dX11_records_97 ⟨E.symm.trans hR, ⟨⟨gRt51, (by unfold gN; rw [Mt51]; have z := gRt51; unfold gR at z; rw [Mt51] at z; exact gRow.congr zm.2 z (fun j h1 h2 => ht51_fact0 j (by omega) (by omega))), (by unfold gH; rw [Mt51]; intro i h0 h1; exact if z : i + 1 < (t51.1 a0 57).toInt then gRow.congr zm.2 (hH i h0 (by omega)) (fun j h2 h3 => by show zp a0 _ 58 (50 * i + j) = zp a0 _ 58 (50 * i + j); rw [at51_58]) else gRow.congr zm.2 (show gRow _ _ from hgN) (fun j h2 h3 => by show zp a0 _ 58 (50 * i + j) = zp a0 _ 48 j; rw [at51_58, ← hn j (by omega) (by omega)]; congr 1; omega))⟩, hI, hS⟩⟩
              · skip
                replace E := zIf_t c44 E
                refine zg_aload_n X 1 rfl dX11_records_57 ?_
                refine fg_X11_125 X hI ha0 dX11_records_58 (fun v54 ev54 hv54 => ?_)
                replace E := zLet_s (zgr ev54) E
                refine zg_bipush X 50 dX11_records_61 (by decide) (fun v55 _ hv55 => ?_)
                replace E := zLet_s (zcst hv55 (by decide)) E
                refine zg_aload_n X 1 rfl dX11_records_63 ?_
                refine fg_X11_258 X hI ha0 dX11_records_64 (fun v56 ev56 hv56 => ?_)
                replace E := zLet_s ev56 E
                have kv56 : (τ42.1 a0 57).toInt = v56.toInt := by rw [ev56]
                refine zg_imulc X 50 dX11_records_67 (by omega) (by omega) (by omega) (fun v57 ev57 hv57 => ?_)
                replace E := zLet_s ev57 E
                refine zg_iload_n X 0 rfl dX11_records_68 ?_
                refine zg_iadd X dX11_records_69 (by omega) (by omega) (fun v58 ev58 hv58 => ?_)
                replace E := zLet_s ev58 E
                refine zg_aload_n X 1 rfl dX11_records_70 ?_
                refine fg_X11_107 X hI ha0 dX11_records_71 (fun v59 ev59 hv59 => ?_)
                replace E := zLet_s (zgr ev59) E
                refine zg_iload_n X 0 rfl dX11_records_74 ?_
                refine ag_148 X hI hv59 (by omega) (by omega) dX11_records_75 (fun v60 ev60 _ => ?_)
                replace E := zLet_s ev60 E
                have qv60 := zp_ld ev59 ev60
                rw [A48_Lp42] at qv60
                refine as_158 X hI hv54 (by omega) (by omega) dX11_records_76 (fun s61 es61 hI => ?_)
                replace E := zLet_s es61 E
                have g62 := (zSame.rf (o := a0) (Wf := []) (Wa := [158]) (L := L) (kd := kd) (σ := τ42)).a ha0 hv54 es61 rfl (by decide)
                have rs61 := zp_st (σ := τ42) (σ2 := s61) (i := v58) (x := v60) ev54 es61 (by omega)
                have ws61 := rs61
                have fs61_57 : (s61.1 a0 57).toInt = (τ42.1 a0 57).toInt := by rw [g62.2.1 57 (by decide)]
                have hS := hS.tr g62 (by decide) (by decide)
                have Ms61 := (zM_same hI ha0 g62 (by decide)).trans M_Lp42
                have us61_48 := zp_same hI ha0 g62 48 rfl (by decide) (by decide)
                have as61_48 := us61_48.trans A48_Lp42
                have us61_49 := zp_same hI ha0 g62 49 rfl (by decide) (by decide)
                have as61_49 := us61_49.trans A49_Lp42
                have gRs61 := gR.same hI ha0 g62 (by decide) gR_Lp42
                have e63 := g62.v ev56 (by decide)
                refine zg_iinc X 1 (fun v64 => [(1, .int v64), (0, .ref a0)]) 0 dX11_records_77 rfl (by decide) (by decide) (by omega) (by omega) (fun _ => rfl) (fun v64 ev64 hv64 => ?_)
                replace E := zLet_s (zinc ev64 (by decide)) E
                refine zg_goto X 51 dX11_records_80 (by decide) ?_
                refine zg_sub [0, 1] rfl ?_
                exact ihLp42 _ v64 hI hS gRs61 Ms61 as61_48 as61_49 E  (by omega) (by omega) (fun i h0 h1 => gRow.congr zm.2 (hH i h0 h1) (fun j h2 h3 => by show zp a0 _ 58 (50 * i + j) = zp a0 _ 58 (50 * i + j); rw [ws61 _ (by omega), if_neg (by omega)])) (fun j h0 h1 => by rw [ws61 _ (by omega)]; split <;> rename_i hj <;> first | (rw [qv60]; congr 1; omega) | exact hn j h0 (by omega))
          refine zg_sub [0, 1] rfl ?_
          exact Lp42 10000 _ v40 hI hS gRs37 Ms37 as37_48 as37_49 E  (by omega) (by omega) (HH) (fun j h0 h1 => absurd h1 (by omega))
        · skip
          replace E := zIf_t c33 E
          refine zg_aload_n X 1 rfl dX11_records_18 ?_
          refine fg_X11_125 X hI ha0 dX11_records_19 (fun v65 ev65 hv65 => ?_)
          replace E := zLet_s (zgr ev65) E
          refine zg_iload_n X 0 rfl dX11_records_22 ?_
          refine zg_aload_n X 1 rfl dX11_records_23 ?_
          refine fg_X11_125 X hI ha0 dX11_records_24 (fun v66 ev66 hv66 => ?_)
          replace E := zLet_s (zgr ev66) E
          refine zg_iload_n X 0 rfl dX11_records_27 ?_
          refine zg_bipush X 50 dX11_records_28 (by decide) (fun v67 _ hv67 => ?_)
          replace E := zLet_s (zcst hv67 (by decide)) E
          refine zg_iadd X dX11_records_30 (by omega) (by omega) (fun v68 ev68 hv68 => ?_)
          replace E := zLet_s ev68 E
          refine ag_158 X hI hv66 (by omega) (by omega) dX11_records_31 (fun v69 ev69 _ => ?_)
          replace E := zLet_s ev69 E
          have qv69 := zp_ld ev66 ev69
          refine as_158 X hI hv65 (by omega) (by omega) dX11_records_32 (fun s70 es70 hI => ?_)
          replace E := zLet_s es70 E
          have g71 := (zSame.rf (o := a0) (Wf := []) (Wa := [158]) (L := L) (kd := kd) (σ := τ31)).a ha0 hv65 es70 rfl (by decide)
          have rs70 := zp_st (σ := τ31) (σ2 := s70) (i := x30) (x := v69) ev65 es70 (by omega)
          have ws70 := rs70
          have fs70_57 : (s70.1 a0 57).toInt = (τ31.1 a0 57).toInt := by rw [g71.2.1 57 (by decide)]
          have hS := hS.tr g71 (by decide) (by decide)
          have Ms70 := (zM_same hI ha0 g71 (by decide)).trans M_Lp31
          have us70_48 := zp_same hI ha0 g71 48 rfl (by decide) (by decide)
          have as70_48 := us70_48.trans A48_Lp31
          have us70_49 := zp_same hI ha0 g71 49 rfl (by decide) (by decide)
          have as70_49 := us70_49.trans A49_Lp31
          have gRs70 := gR.same hI ha0 g71 (by decide) gR_Lp31
          refine zg_iinc X 1 (fun v72 => [(1, .int v72), (0, .ref a0)]) 0 dX11_records_33 rfl (by decide) (by decide) (by omega) (by omega) (fun _ => rfl) (fun v72 ev72 hv72 => ?_)
          replace E := zLet_s (zinc ev72 (by decide)) E
          refine zg_goto X 11 dX11_records_36 (by decide) ?_
          refine zg_sub [0, 1] rfl ?_
          exact ihLp31 _ v72 hI hS gRs70 Ms70 as70_48 as70_49 E  (by omega) (by omega) (fun j h0 h1 => by rw [ws70 j h0]; have zj := hh j h0 h1; split <;> rename_i hj <;> first | (refine ⟨fun h2 => ?_, fun h2 => absurd h2 (by omega)⟩; rw [qv69, (hh _ (by omega) (by omega)).2 (by omega)]; congr 1; omega) | exact ⟨fun h2 => zj.1 (by omega), fun h2 => zj.2 (by omega)⟩)
    refine zg_sub [0, 1] rfl ?_
    exact Lp31 10000 _ v29 hI hS hgR rfl rfl rfl E  (by omega) (by omega) (fun j h0 h1 => ⟨fun h2 => absurd h2 (by omega), fun h2 => rfl⟩)
set_option maxHeartbeats 4000000 in
set_option maxRecDepth 100000 in
theorem t_X11_does (l : Launch) (d : zD2) (L : List Nat) (kd : Nat → Nat) (κ : Int) (σ : zS) (hI : zJ κ L kd σ) (a0 : Nat) (ha0 : zT L kd a0 11) (p1 : Int32) (p2 : Int32) (hq0 : 0 ≤ p1.toInt ∧ p1.toInt ≤ 49) (hq1 : gRow (zM a0 σ) (fun j => if j = p1.toInt then p2.toInt else zp a0 σ 48 j)) (hgN : gN a0 σ) (hgH : gH a0 σ) (hgL : gL a0 σ) : zMv l yX11_does (Cond.code yX11_does cX11_does 3 none :: zWL) 5 [.ref a0, .int p1, .int p2] d L kd σ (fun σ2 => σ2 = F_X11_does a0 p1 p2 σ ∧ (((gN a0 σ2) ∧ (gH a0 σ2)) ∧ zJ κ L kd σ2 ∧ zSame a0 [47, 50, 51, 57] [145, 146, 148, 149, 152, 153, 154, 155, 158] L kd σ σ2)) := by
  refine zMv.of (own := RX11) (by decide +kernel) rfl rfl (Nat.le_of_ble_eq_true rfl) ?_
  intro p e s m args below meth c A Q X ret
  have hS : zSame a0 [47, 50, 51, 57] [145, 146, 148, 149, 152, 153, 154, 155, 158] L kd σ σ := zSame.rf
  refine zg_lv (lv2 := [(0, .ref a0), (1, .int p1), (2, .int p2)]) rfl ?_
  have zm := zM_in hI ha0
  obtain ⟨R, hR⟩ : ∃ R, R = F_X11_does a0 p1 p2 σ := ⟨_, rfl⟩
  have E := hR
  unfold F_X11_does at E
  refine zg_aload_n X 0 rfl dX11_does_0 ?_
  refine zg_cVv (As := []) (st := []) X ha0 rfl (by decide) rfl (t_X11_copies l d L kd κ _ hI a0 ha0    hgN hgL) mk_X11_332 mc_X11_copies mz_X11 mi_X11_copies ml_X11_copies (na := 0) ⟨md_X11.1, md_X11.2, by decide +kernel⟩ rfl ⟨by decide, by decide⟩ (Nat.le_of_ble_eq_true rfl) dX11_does_1 (fun t1 hq => ?_)
  obtain ⟨hF, ⟨ht1_fact0, gRt1, gBt1⟩, hI, g2⟩ := hq
  replace E := zLet_s hF E
  have hS := hS.tr g2 (by decide) (by decide)
  have Mt1 := zM_same hI ha0 g2 (by decide)
  have ut1_48 := zp_same hI ha0 g2 48 rfl (by decide) (by decide)
  have at1_48 := ut1_48
  have gNt1 := gN.same hI ha0 g2 (by decide) hgN
  have gHt1 := gH.same hI ha0 g2 (by decide) hgH
  have gLt1 := gL.same hI ha0 g2 (by decide) hgL
  have zaf := at1_48
  refine zg_aload_n X 0 rfl dX11_does_4 ?_
  refine fg_X11_110 X hI ha0 dX11_does_5 (fun v3 ev3 hv3 => ?_)
  replace E := zLet_s (zgr ev3) E
  refine zg_iload_n X 1 rfl dX11_does_8 ?_
  refine zg_iload_n X 2 rfl dX11_does_9 ?_
  refine as_149 X hI hv3 (by omega) (by omega) dX11_does_10 (fun s4 es4 hI => ?_)
  replace E := zLet_s es4 E
  have g5 := (zSame.rf (o := a0) (Wf := []) (Wa := [149]) (L := L) (kd := kd) (σ := t1)).a ha0 hv3 es4 rfl (by decide)
  have rs4 := zp_st (σ := t1) (σ2 := s4) (i := p1) (x := p2) ev3 es4 (by omega)
  have ws4 := rs4
  have hS := hS.tr g5 (by decide) (by decide)
  have Ms4 := (zM_same hI ha0 g5 (by decide)).trans Mt1
  have us4_48 := zp_same hI ha0 g5 48 rfl (by decide) (by decide)
  have as4_48 := us4_48.trans at1_48
  have gNs4 := gN.same hI ha0 g5 (by decide) gNt1
  have gHs4 := gH.same hI ha0 g5 (by decide) gHt1
  have gLs4 := gL.same hI ha0 g5 (by decide) gLt1
  have gR_1 : gR a0 s4 := by
    unfold gR
    rw [Ms4]
    refine gRow.congr zm.2 hq1 (fun j h1 h2 => ?_)
    show _ = if j = p1.toInt then p2.toInt else zp a0 σ 48 j
    rw [ws4 j (by omega)]
    split
    · rfl
    · rw [ht1_fact0 j (by omega) (by omega), zaf]
  refine zg_aload_n X 0 rfl dX11_does_11 ?_
  refine zg_cVv (As := []) (st := []) X ha0 rfl (by decide) rfl (t_X11_records l d L kd κ _ hI a0 ha0    gR_1 gNs4 gHs4) mk_X11_393 mc_X11_records mz_X11 mi_X11_records ml_X11_records (na := 0) ⟨md_X11.1, md_X11.2, by decide +kernel⟩ rfl ⟨by decide, by decide⟩ (Nat.le_of_ble_eq_true rfl) dX11_does_12 (fun t6 hq => ?_)
  obtain ⟨hF, ⟨gRt6, gNt6, gHt6⟩, hI, g7⟩ := hq
  replace E := zLet_s hF E
  have hS := hS.tr g7 (by decide) (by decide)
  have Mt6 := (zM_same hI ha0 g7 (by decide)).trans Ms4
  have ut6_49 := zp_same hI ha0 g7 49 rfl (by decide) (by decide)
  have at6_49 := ut6_49
  have gLt6 := gL.same hI ha0 g7 (by decide) gLs4
  have gRt6 := gR.same hI ha0 g7 (by decide) gR_1
  exact ret _ _ _ dX11_does_15 ⟨E.symm.trans hR, ⟨⟨gNt6, gHt6⟩, hI, hS⟩⟩
