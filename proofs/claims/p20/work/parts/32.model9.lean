set_option maxHeartbeats 4000000 in
set_option maxRecDepth 100000 in
theorem t_X11_tellMouth (l : Launch) (d : zD2) (L : List Nat) (kd : Nat → Nat) (κ : Int) (σ : zS) (hI : zJ κ L kd σ) (a0 : Nat) (ha0 : zT L kd a0 11) (hq0 : (σ.1 a0 19).toInt + (σ.1 a0 18).toInt = 1) (hgN : gN a0 σ) (hgH : gH a0 σ) (hgE : gE a0 σ) (hgL : gL a0 σ) (hgTr : gTr a0 σ) : zMv l yX11_tellMouth (Cond.code yX11_tellMouth cX11_tellMouth 3 none :: zWL) 4 [.ref a0] d L kd σ (fun σ2 => σ2 = F_X11_tellMouth a0 σ ∧ (((((σ.1 a0 11).toInt ≤ (σ2.1 a0 11).toInt ∧ (1 ≤ (σ2.1 a0 13).toInt ∨ ((σ.1 a0 13).toInt = 0 ∧ (σ2.1 a0 13).toInt = 0 ∧ (σ.1 a0 11).toInt < (σ2.1 a0 11).toInt)))) ∧ (((σ2.1 a0 13).toInt = 0 → gTr a0 σ2)) ∧ (gN a0 σ2) ∧ (gH a0 σ2) ∧ (gE a0 σ2) ∧ (gL a0 σ2)) ∧ zJ κ L kd σ2 ∧ zSame a0 [11, 13, 14, 15, 16, 41] [120, 121, 122, 123, 124, 125] L kd σ σ2)) := by
  refine zMv.of (own := RX11) (by decide +kernel) rfl rfl (Nat.le_of_ble_eq_true rfl) ?_
  intro p e s m args below meth c A Q X ret
  have hS : zSame a0 [11, 13, 14, 15, 16, 41] [120, 121, 122, 123, 124, 125] L kd σ σ := zSame.rf
  refine zg_lv (lv2 := [(0, .ref a0)]) rfl ?_
  have z11 : 0 ≤ (σ.1 a0 11).toInt ∧ (σ.1 a0 11).toInt ≤ 400 := zj_get hI ha0 rfl
  have z13 : 0 ≤ (σ.1 a0 13).toInt ∧ (σ.1 a0 13).toInt ≤ 2147483647 := zj_get hI ha0 rfl
  have z18 : 0 ≤ (σ.1 a0 18).toInt ∧ (σ.1 a0 18).toInt ≤ 1 := zj_get hI ha0 rfl
  have z19 : 0 ≤ (σ.1 a0 19).toInt ∧ (σ.1 a0 19).toInt ≤ 1 := zj_get hI ha0 rfl
  have z41 : 0 ≤ (σ.1 a0 41).toInt ∧ (σ.1 a0 41).toInt ≤ 1 := zj_get hI ha0 rfl
  have z42 : 0 ≤ (σ.1 a0 42).toInt ∧ (σ.1 a0 42).toInt ≤ 11 := zj_get hI ha0 rfl
  obtain ⟨R, hR⟩ : ∃ R, R = F_X11_tellMouth a0 σ := ⟨_, rfl⟩
  have E := hR
  unfold F_X11_tellMouth at E
  refine zg_aload_n X 0 rfl dX11_tellMouth_0 ?_
  refine zg_cVi (As := []) (st := []) X ha0 rfl (by decide) rfl (t_X11_named l d L kd κ _ hI a0 ha0   ) mk_X11_287 mc_X11_named mz_X11 mi_X11_named ml_X11_named (na := 0) ⟨md_X11.1, md_X11.2, by decide +kernel⟩ rfl ⟨by decide, by decide⟩ (Nat.le_of_ble_eq_true rfl) dX11_tellMouth_1 (fun v2 t1 hq => ?_)
  obtain ⟨hF, ⟨ht1_res, ht1_fact0, ht1_fact1, ht1_fact2⟩, hI, g3⟩ := hq
  replace E := zLet2_s hF E
  have ft1_18 : (t1.1 a0 18).toInt = (σ.1 a0 18).toInt := by rw [g3.2.1 18 (by decide)]
  have ft1_19 : (t1.1 a0 19).toInt = (σ.1 a0 19).toInt := by rw [g3.2.1 19 (by decide)]
  have ft1_41 : (t1.1 a0 41).toInt = (σ.1 a0 41).toInt := by rw [g3.2.1 41 (by decide)]
  have ft1_42 : (t1.1 a0 42).toInt = (σ.1 a0 42).toInt := by rw [g3.2.1 42 (by decide)]
  have hS := hS.tr g3 (by decide) (by decide)
  have at1_21 := zp_same hI ha0 g3 21 rfl (by decide) (by decide)
  have at1_22 := zp_same hI ha0 g3 22 rfl (by decide) (by decide)
  have gNt1 := gN.same hI ha0 g3 (by decide) hgN
  have gHt1 := gH.same hI ha0 g3 (by decide) hgH
  have gEt1 := gE.same hI ha0 g3 (by decide) hgE
  have gLt1 := gL.same hI ha0 g3 (by decide) hgL
  have gTrt1 := gTr.w hI ha0 g3 (by decide) ht1_fact2 hgTr
  have zw := ht1_fact2
  clear ht1_fact2
  refine zg_istore_n X [(1, .int v2), (0, .ref a0)] dX11_tellMouth_4 (by decide) rfl ?_
  refine zg_aload_n X 1 rfl dX11_tellMouth_5 ?_
  refine zg_iconst X 4 dX11_tellMouth_6 (by decide) (fun v4 _ hv4 => ?_)
  replace E := zLet_s (zcst hv4 (by decide)) E
  refine zg_cVv (As := [.int v4]) (st := []) X ha0 rfl (by decide) rfl (t_X11_must l d L kd κ _ hI a0 ha0 v4  ) mk_X11_274 mc_X11_must mz_X11 mi_X11_must ml_X11_must (na := 1) ⟨md_X11.1, md_X11.2, by decide +kernel⟩ rfl ⟨by decide, by decide⟩ (Nat.le_of_ble_eq_true rfl) dX11_tellMouth_7 (fun t5 hq => ?_)
  obtain ⟨hF, ht5_fact0, hI, g6⟩ := hq
  replace E := zLet_s hF E
  have ft5_15 : (t5.1 a0 15).toInt = (t1.1 a0 15).toInt := by rw [g6.2.1 15 (by decide)]
  have ft5_18 : (t5.1 a0 18).toInt = (t1.1 a0 18).toInt := by rw [g6.2.1 18 (by decide)]
  have ft5_19 : (t5.1 a0 19).toInt = (t1.1 a0 19).toInt := by rw [g6.2.1 19 (by decide)]
  have ft5_41 : (t5.1 a0 41).toInt = (t1.1 a0 41).toInt := by rw [g6.2.1 41 (by decide)]
  have ft5_42 : (t5.1 a0 42).toInt = (t1.1 a0 42).toInt := by rw [g6.2.1 42 (by decide)]
  have hS := hS.tr g6 (by decide) (by decide)
  have at5_21 := (zp_same hI ha0 g6 21 rfl (by decide) (by decide)).trans at1_21
  have at5_22 := (zp_same hI ha0 g6 22 rfl (by decide) (by decide)).trans at1_22
  have gNt5 := gN.same hI ha0 g6 (by decide) gNt1
  have gHt5 := gH.same hI ha0 g6 (by decide) gHt1
  have gEt5 := gE.same hI ha0 g6 (by decide) gEt1
  have gLt5 := gL.same hI ha0 g6 (by decide) gLt1
  have gTrt5 := gTr.same hI ha0 g6 (by decide) gTrt1
  refine zg_aload_n X 1 rfl dX11_tellMouth_10 ?_
  refine fg_X11_206 X hI ha0 dX11_tellMouth_11 (fun v7 ev7 hv7 => ?_)
  replace E := zLet_s ev7 E
  have kv7 : (t5.1 a0 13).toInt = v7.toInt := by rw [ev7]
  refine zg_if_le X 18 dX11_tellMouth_14 (by decide) (fun c8 => ?_) (fun c8 => ?_)
  · skip
    replace E := zIf_f (Int.not_lt.mpr c8) E
    refine zg_aload_n X 1 rfl dX11_tellMouth_18 ?_
    refine zg_iconst X 1 dX11_tellMouth_19 (by decide) (fun v9 _ hv9 => ?_)
    replace E := zLet_s (zcst hv9 (by decide)) E
    refine fp_X11_248 X hI ha0 ⟨by omega, by omega⟩ dX11_tellMouth_20 (fun s10 es10 hI => ?_)
    replace E := zLet_s es10 E
    have g11 := (zSame.rf (o := a0) (Wf := [41]) (Wa := []) (L := L) (kd := kd) (σ := t5)).f ha0 es10 rfl
    have fs10_11 : (s10.1 a0 11).toInt = (t5.1 a0 11).toInt := by rw [g11.2.1 11 (by decide)]
    have fs10_13 : (s10.1 a0 13).toInt = (t5.1 a0 13).toInt := by rw [g11.2.1 13 (by decide)]
    have fs10_15 : (s10.1 a0 15).toInt = (t5.1 a0 15).toInt := by rw [g11.2.1 15 (by decide)]
    have fs10_18 : (s10.1 a0 18).toInt = (t5.1 a0 18).toInt := by rw [g11.2.1 18 (by decide)]
    have fs10_19 : (s10.1 a0 19).toInt = (t5.1 a0 19).toInt := by rw [g11.2.1 19 (by decide)]
    have fs10_42 : (s10.1 a0 42).toInt = (t5.1 a0 42).toInt := by rw [g11.2.1 42 (by decide)]
    have hS := hS.tr g11 (by decide) (by decide)
    have as10_21 := (zp_same hI ha0 g11 21 rfl (by decide) (by decide)).trans at5_21
    have as10_22 := (zp_same hI ha0 g11 22 rfl (by decide) (by decide)).trans at5_22
    have gLs10 := gL.same hI ha0 g11 (by decide) gLt5
    have fs10_41 : (s10.1 a0 41).toInt = v9.toInt := by rw [es10]; exact congrArg _ (zu_s _ _ _ _)
    have e13 : v9 = s10.1 a0 41 := by rw [es10]; exact zm_s
    refine zg_aload_n X 1 rfl dX11_tellMouth_23 ?_
    refine fg_X11_40 X hI ha0 dX11_tellMouth_24 (fun v14 ev14 hv14 => ?_)
    replace E := zLet_s (zgr ev14) E
    refine zg_iconst X 0 dX11_tellMouth_27 (by decide) (fun v15 _ hv15 => ?_)
    replace E := zLet_s (zcst hv15 (by decide)) E
    refine zg_aload_n X 1 rfl dX11_tellMouth_28 ?_
    refine fg_X11_30 X hI ha0 dX11_tellMouth_29 (fun v16 ev16 hv16 => ?_)
    replace E := zLet_s (zgr ev16) E
    refine zg_iload_n X 0 rfl dX11_tellMouth_32 ?_
    refine ag_108 X hv16 (by omega) (by omega) dX11_tellMouth_33 (fun v17 ev17 => ?_)
    replace E := zLet_s ev17 E
    refine as_120 X hI hv14 (by omega) (by omega) dX11_tellMouth_34 (fun s18 es18 hI => ?_)
    replace E := zLet_s es18 E
    have g19 := (zSame.rf (o := a0) (Wf := []) (Wa := [120]) (L := L) (kd := kd) (σ := s10)).l hv14 es18 rfl
    have fs18_11 : (s18.1 a0 11).toInt = (s10.1 a0 11).toInt := by rw [g19.2.1 11 (by decide)]
    have fs18_13 : (s18.1 a0 13).toInt = (s10.1 a0 13).toInt := by rw [g19.2.1 13 (by decide)]
    have fs18_15 : (s18.1 a0 15).toInt = (s10.1 a0 15).toInt := by rw [g19.2.1 15 (by decide)]
    have fs18_18 : (s18.1 a0 18).toInt = (s10.1 a0 18).toInt := by rw [g19.2.1 18 (by decide)]
    have fs18_19 : (s18.1 a0 19).toInt = (s10.1 a0 19).toInt := by rw [g19.2.1 19 (by decide)]
    have fs18_41 : (s18.1 a0 41).toInt = (s10.1 a0 41).toInt := by rw [g19.2.1 41 (by decide)]
    have fs18_42 : (s18.1 a0 42).toInt = (s10.1 a0 42).toInt := by rw [g19.2.1 42 (by decide)]
    have hS := hS.tr g19 (by decide) (by decide)
    have as18_21 := (zp_same hI ha0 g19 21 rfl (by decide) (by decide)).trans as10_21
    have as18_22 := (zp_same hI ha0 g19 22 rfl (by decide) (by decide)).trans as10_22
    have gLs18 := gL.same hI ha0 g19 (by decide) gLs10
    refine zg_bipush X 12 dX11_tellMouth_35 (by decide) (fun v22 _ hv22 => ?_)
    replace E := zLet_s (zcst hv22 (by decide)) E
    refine zg_aload_n X 1 rfl dX11_tellMouth_37 ?_
    refine fg_X11_239 X hI ha0 dX11_tellMouth_38 (fun v23 ev23 hv23 => ?_)
    replace E := zLet_s ev23 E
    have kv23 : (s18.1 a0 19).toInt = v23.toInt := by rw [ev23]
    refine zg_imulc X 12 dX11_tellMouth_41 (by omega) (by omega) (by omega) (fun v24 ev24 hv24 => ?_)
    replace E := zLet_s ev24 E
    refine zg_istore_n X [(2, .int v24), (1, .int v2), (0, .ref a0)] dX11_tellMouth_42 (by decide) rfl ?_
    refine zg_aload_n X 2 rfl dX11_tellMouth_43 ?_
    refine fg_X11_46 X hI ha0 dX11_tellMouth_44 (fun v25 ev25 hv25 => ?_)
    replace E := zLet_s (zgr ev25) E
    refine zg_iload_n X 0 rfl dX11_tellMouth_47 ?_
    refine zg_bipush X (-2) dX11_tellMouth_48 (by decide) (fun v26 _ hv26 => ?_)
    replace E := zLet_s (zcst hv26 (by decide)) E
    refine as_122 X hI hv25 (by omega) (by omega) dX11_tellMouth_50 (fun s27 es27 hI => ?_)
    replace E := zLet_s es27 E
    have g28 := (zSame.rf (o := a0) (Wf := []) (Wa := [122]) (L := L) (kd := kd) (σ := s18)).a ha0 hv25 es27 rfl (by decide)
    have rs27 := zp_st (σ := s18) (σ2 := s27) (i := v24) (x := v26) ev25 es27 (by omega)
    have ws27 := rs27
    rw [as18_22] at ws27
    have fs27_11 : (s27.1 a0 11).toInt = (s18.1 a0 11).toInt := by rw [g28.2.1 11 (by decide)]
    have fs27_13 : (s27.1 a0 13).toInt = (s18.1 a0 13).toInt := by rw [g28.2.1 13 (by decide)]
    have fs27_15 : (s27.1 a0 15).toInt = (s18.1 a0 15).toInt := by rw [g28.2.1 15 (by decide)]
    have fs27_18 : (s27.1 a0 18).toInt = (s18.1 a0 18).toInt := by rw [g28.2.1 18 (by decide)]
    have fs27_19 : (s27.1 a0 19).toInt = (s18.1 a0 19).toInt := by rw [g28.2.1 19 (by decide)]
    have fs27_41 : (s27.1 a0 41).toInt = (s18.1 a0 41).toInt := by rw [g28.2.1 41 (by decide)]
    have fs27_42 : (s27.1 a0 42).toInt = (s18.1 a0 42).toInt := by rw [g28.2.1 42 (by decide)]
    have hS := hS.tr g28 (by decide) (by decide)
    have as27_21 := (zp_same hI ha0 g28 21 rfl (by decide) (by decide)).trans as18_21
    have gLs27 := gL.same hI ha0 g28 (by decide) gLs18
    have e31 := g28.v ev23 (by decide)
    refine zg_aload_n X 2 rfl dX11_tellMouth_51 ?_
    refine fg_X11_49 X hI ha0 dX11_tellMouth_52 (fun v32 ev32 hv32 => ?_)
    replace E := zLet_s (zgr ev32) E
    refine zg_iload_n X 0 rfl dX11_tellMouth_55 ?_
    refine zg_iconst X 0 dX11_tellMouth_56 (by decide) (fun v33 _ hv33 => ?_)
    replace E := zLet_s (zcst hv33 (by decide)) E
    refine as_123 X hI hv32 (by omega) (by omega) dX11_tellMouth_57 (fun s34 es34 hI => ?_)
    replace E := zLet_s es34 E
    have g35 := (zSame.rf (o := a0) (Wf := []) (Wa := [123]) (L := L) (kd := kd) (σ := s27)).a ha0 hv32 es34 rfl (by decide)
    have fs34_11 : (s34.1 a0 11).toInt = (s27.1 a0 11).toInt := by rw [g35.2.1 11 (by decide)]
    have fs34_13 : (s34.1 a0 13).toInt = (s27.1 a0 13).toInt := by rw [g35.2.1 13 (by decide)]
    have fs34_15 : (s34.1 a0 15).toInt = (s27.1 a0 15).toInt := by rw [g35.2.1 15 (by decide)]
    have fs34_18 : (s34.1 a0 18).toInt = (s27.1 a0 18).toInt := by rw [g35.2.1 18 (by decide)]
    have fs34_19 : (s34.1 a0 19).toInt = (s27.1 a0 19).toInt := by rw [g35.2.1 19 (by decide)]
    have fs34_41 : (s34.1 a0 41).toInt = (s27.1 a0 41).toInt := by rw [g35.2.1 41 (by decide)]
    have fs34_42 : (s34.1 a0 42).toInt = (s27.1 a0 42).toInt := by rw [g35.2.1 42 (by decide)]
    have hS := hS.tr g35 (by decide) (by decide)
    have as34_21 := (zp_same hI ha0 g35 21 rfl (by decide) (by decide)).trans as27_21
    have as34_22 := zp_same hI ha0 g35 22 rfl (by decide) (by decide)
    have gLs34 := gL.same hI ha0 g35 (by decide) gLs27
    have e38 := g35.v e31 (by decide)
    refine zg_aload_n X 2 rfl dX11_tellMouth_58 ?_
    refine fg_X11_52 X hI ha0 dX11_tellMouth_59 (fun v39 ev39 hv39 => ?_)
    replace E := zLet_s (zgr ev39) E
    refine zg_iload_n X 0 rfl dX11_tellMouth_62 ?_
    refine zg_iconst X 0 dX11_tellMouth_63 (by decide) (fun v40 _ hv40 => ?_)
    replace E := zLet_s (zcst hv40 (by decide)) E
    refine as_124 X hI hv39 (by omega) (by omega) dX11_tellMouth_64 (fun s41 es41 hI => ?_)
    replace E := zLet_s es41 E
    have g42 := (zSame.rf (o := a0) (Wf := []) (Wa := [124]) (L := L) (kd := kd) (σ := s34)).a ha0 hv39 es41 rfl (by decide)
    have fs41_11 : (s41.1 a0 11).toInt = (s34.1 a0 11).toInt := by rw [g42.2.1 11 (by decide)]
    have fs41_13 : (s41.1 a0 13).toInt = (s34.1 a0 13).toInt := by rw [g42.2.1 13 (by decide)]
    have fs41_15 : (s41.1 a0 15).toInt = (s34.1 a0 15).toInt := by rw [g42.2.1 15 (by decide)]
    have fs41_18 : (s41.1 a0 18).toInt = (s34.1 a0 18).toInt := by rw [g42.2.1 18 (by decide)]
    have fs41_19 : (s41.1 a0 19).toInt = (s34.1 a0 19).toInt := by rw [g42.2.1 19 (by decide)]
    have fs41_41 : (s41.1 a0 41).toInt = (s34.1 a0 41).toInt := by rw [g42.2.1 41 (by decide)]
    have fs41_42 : (s41.1 a0 42).toInt = (s34.1 a0 42).toInt := by rw [g42.2.1 42 (by decide)]
    have hS := hS.tr g42 (by decide) (by decide)
    have as41_21 := (zp_same hI ha0 g42 21 rfl (by decide) (by decide)).trans as34_21
    have as41_22 := (zp_same hI ha0 g42 22 rfl (by decide) (by decide)).trans as34_22
    have gLs41 := gL.same hI ha0 g42 (by decide) gLs34
    have e45 := g42.v e38 (by decide)
    refine zg_aload_n X 2 rfl dX11_tellMouth_65 ?_
    refine fg_X11_55 X hI ha0 dX11_tellMouth_66 (fun v46 ev46 hv46 => ?_)
    replace E := zLet_s (zgr ev46) E
    refine zg_iload_n X 0 rfl dX11_tellMouth_69 ?_
    refine zg_iconst X 0 dX11_tellMouth_70 (by decide) (fun v47 _ hv47 => ?_)
    replace E := zLet_s (zcst hv47 (by decide)) E
    refine as_125 X hI hv46 (by omega) (by omega) dX11_tellMouth_71 (fun s48 es48 hI => ?_)
    replace E := zLet_s es48 E
    have g49 := (zSame.rf (o := a0) (Wf := []) (Wa := [125]) (L := L) (kd := kd) (σ := s41)).a ha0 hv46 es48 rfl (by decide)
    have fs48_11 : (s48.1 a0 11).toInt = (s41.1 a0 11).toInt := by rw [g49.2.1 11 (by decide)]
    have fs48_13 : (s48.1 a0 13).toInt = (s41.1 a0 13).toInt := by rw [g49.2.1 13 (by decide)]
    have fs48_15 : (s48.1 a0 15).toInt = (s41.1 a0 15).toInt := by rw [g49.2.1 15 (by decide)]
    have fs48_18 : (s48.1 a0 18).toInt = (s41.1 a0 18).toInt := by rw [g49.2.1 18 (by decide)]
    have fs48_19 : (s48.1 a0 19).toInt = (s41.1 a0 19).toInt := by rw [g49.2.1 19 (by decide)]
    have fs48_41 : (s48.1 a0 41).toInt = (s41.1 a0 41).toInt := by rw [g49.2.1 41 (by decide)]
    have fs48_42 : (s48.1 a0 42).toInt = (s41.1 a0 42).toInt := by rw [g49.2.1 42 (by decide)]
    have hS := hS.tr g49 (by decide) (by decide)
    have as48_21 := (zp_same hI ha0 g49 21 rfl (by decide) (by decide)).trans as41_21
    have as48_22 := (zp_same hI ha0 g49 22 rfl (by decide) (by decide)).trans as41_22
    have gLs48 := gL.same hI ha0 g49 (by decide) gLs41
    have e52 := g49.v e45 (by decide)
    refine zg_aload_n X 2 rfl dX11_tellMouth_72 ?_
    refine fg_X11_43 X hI ha0 dX11_tellMouth_73 (fun v53 ev53 hv53 => ?_)
    replace E := zLet_s (zgr ev53) E
    refine zg_aload_n X 2 rfl dX11_tellMouth_76 ?_
    refine fg_X11_239 X hI ha0 dX11_tellMouth_77 (fun v54 ev54 hv54 => ?_)
    replace E := zLet_s ev54 E
    have kv54 : (s48.1 a0 19).toInt = v54.toInt := by rw [ev54]
    have mv54 : v54.toInt = v23.toInt := by rw [ev54, ← e52]
    refine zg_aload_n X 2 rfl dX11_tellMouth_80 ?_
    refine fg_X11_252 X hI ha0 dX11_tellMouth_81 (fun v55 ev55 hv55 => ?_)
    replace E := zLet_s ev55 E
    have kv55 : (s48.1 a0 42).toInt = v55.toInt := by rw [ev55]
    refine zg_iconst X 1 dX11_tellMouth_84 (by decide) (fun v56 _ hv56 => ?_)
    replace E := zLet_s (zcst hv56 (by decide)) E
    refine zg_iadd X dX11_tellMouth_85 (by omega) (by omega) (fun v57 ev57 hv57 => ?_)
    replace E := zLet_s ev57 E
    refine as_121 X hI hv53 (by omega) (by omega) ⟨by omega, by omega⟩ dX11_tellMouth_86 (fun s58 es58 hI => ?_)
    replace E := zLet_s es58 E
    have g59 := (zSame.rf (o := a0) (Wf := []) (Wa := [121]) (L := L) (kd := kd) (σ := s48)).a ha0 hv53 es58 rfl (by decide)
    have rs58 := zp_st (σ := s48) (σ2 := s58) (i := v54) (x := v57) ev53 es58 (by omega)
    have ws58 := rs58
    rw [as48_21] at ws58
    rw [← kv54] at ws58
    have fs58_11 : (s58.1 a0 11).toInt = (s48.1 a0 11).toInt := by rw [g59.2.1 11 (by decide)]
    have fs58_13 : (s58.1 a0 13).toInt = (s48.1 a0 13).toInt := by rw [g59.2.1 13 (by decide)]
    have fs58_15 : (s58.1 a0 15).toInt = (s48.1 a0 15).toInt := by rw [g59.2.1 15 (by decide)]
    have fs58_18 : (s58.1 a0 18).toInt = (s48.1 a0 18).toInt := by rw [g59.2.1 18 (by decide)]
    have fs58_19 : (s58.1 a0 19).toInt = (s48.1 a0 19).toInt := by rw [g59.2.1 19 (by decide)]
    have fs58_41 : (s58.1 a0 41).toInt = (s48.1 a0 41).toInt := by rw [g59.2.1 41 (by decide)]
    have fs58_42 : (s58.1 a0 42).toInt = (s48.1 a0 42).toInt := by rw [g59.2.1 42 (by decide)]
    have hS := hS.tr g59 (by decide) (by decide)
    have as58_22 := (zp_same hI ha0 g59 22 rfl (by decide) (by decide)).trans as48_22
    have gLs58 := gL.same hI ha0 g59 (by decide) gLs48
    have zME : zM a0 s58 = zM a0 σ := by unfold zM; rw [show (s58.1 a0 18).toInt = (σ.1 a0 18).toInt by omega, ws58 _ (by omega), if_neg (by omega)]
    have gN9 := gN.sm hI ha0 hS zME (by decide) hgN
    have gH9 := gH.sm hI ha0 hS zME (by decide) hgH
    have gE9 := gE.sm hI ha0 hS zME (by decide) hgE
    exact ret _ _ _ dX11_tellMouth_87 ⟨E.symm.trans hR, ⟨⟨(by omega), (fun _ => by
  obtain ⟨y1, y2, y3, y4⟩ := hgTr
  unfold gTr
  rw [show (s58.1 a0 19).toInt = (σ.1 a0 19).toInt by omega, show (s58.1 a0 42).toInt = (σ.1 a0 42).toInt by omega]
  have q4 := zw.2 y4
  refine ⟨fun hw c h1 h2 => ?_, Or.inr ?_, fun z => ?_, by omega⟩
  · rw [as58_22, ws27 _ (by omega), if_neg (by omega)]
    exact y1 (Classical.byContradiction (fun n => by have := zw.1 (by omega); omega)) c h1 h2
  · rw [ws58 _ (by omega), if_pos (by omega)]; omega
  · exfalso; omega), gN9, gH9, gE9, gLs58⟩, hI, hS⟩⟩
  · skip
    replace E := zIf_t c8 E
    exact ret _ _ _ dX11_tellMouth_17 ⟨E.symm.trans hR, ⟨⟨(by omega), (fun h0 => by exfalso; omega), gNt5, gHt5, gEt5, gLt5⟩, hI, hS⟩⟩
set_option maxHeartbeats 4000000 in
set_option maxRecDepth 100000 in
theorem t_X11_tellPlace (l : Launch) (d : zD2) (L : List Nat) (kd : Nat → Nat) (κ : Int) (σ : zS) (hI : zJ κ L kd σ) (a0 : Nat) (ha0 : zT L kd a0 11) (hq0 : (σ.1 a0 19).toInt + (σ.1 a0 18).toInt = 1) (hq1 : (σ.1 a0 42).toInt ≤ 10) (hgN : gN a0 σ) (hgH : gH a0 σ) (hgE : gE a0 σ) (hgL : gL a0 σ) (hgTr : gTr a0 σ) : zMv l yX11_tellPlace (Cond.code yX11_tellPlace cX11_tellPlace 4 none :: zWL) 4 [.ref a0] d L kd σ (fun σ2 => σ2 = F_X11_tellPlace a0 σ ∧ (((((σ.1 a0 11).toInt ≤ (σ2.1 a0 11).toInt ∧ (1 ≤ (σ2.1 a0 13).toInt ∨ ((σ.1 a0 13).toInt = 0 ∧ (σ2.1 a0 13).toInt = 0 ∧ (σ.1 a0 11).toInt < (σ2.1 a0 11).toInt)))) ∧ (((σ2.1 a0 13).toInt = 0 → gTr a0 σ2)) ∧ (gN a0 σ2) ∧ (gH a0 σ2) ∧ (gE a0 σ2) ∧ (gL a0 σ2)) ∧ zJ κ L kd σ2 ∧ zSame a0 [11, 13, 14, 15, 16, 42] [120, 121, 122, 123, 124, 125] L kd σ σ2)) := by
  refine zMv.of (own := RX11) (by decide +kernel) rfl rfl (Nat.le_of_ble_eq_true rfl) ?_
  intro p e s m args below meth c A Q X ret
  have hS : zSame a0 [11, 13, 14, 15, 16, 42] [120, 121, 122, 123, 124, 125] L kd σ σ := zSame.rf
  refine zg_lv (lv2 := [(0, .ref a0)]) rfl ?_
  have z11 : 0 ≤ (σ.1 a0 11).toInt ∧ (σ.1 a0 11).toInt ≤ 400 := zj_get hI ha0 rfl
  have z13 : 0 ≤ (σ.1 a0 13).toInt ∧ (σ.1 a0 13).toInt ≤ 2147483647 := zj_get hI ha0 rfl
  have z18 : 0 ≤ (σ.1 a0 18).toInt ∧ (σ.1 a0 18).toInt ≤ 1 := zj_get hI ha0 rfl
  have z19 : 0 ≤ (σ.1 a0 19).toInt ∧ (σ.1 a0 19).toInt ≤ 1 := zj_get hI ha0 rfl
  have z41 : 0 ≤ (σ.1 a0 41).toInt ∧ (σ.1 a0 41).toInt ≤ 1 := zj_get hI ha0 rfl
  have z42 : 0 ≤ (σ.1 a0 42).toInt ∧ (σ.1 a0 42).toInt ≤ 11 := zj_get hI ha0 rfl
  obtain ⟨R, hR⟩ : ∃ R, R = F_X11_tellPlace a0 σ := ⟨_, rfl⟩
  have E := hR
  unfold F_X11_tellPlace at E
  refine zg_bipush X 12 dX11_tellPlace_0 (by decide) (fun v1 _ hv1 => ?_)
  replace E := zLet_s (zcst hv1 (by decide)) E
  refine zg_aload_n X 0 rfl dX11_tellPlace_2 ?_
  refine fg_X11_239 X hI ha0 dX11_tellPlace_3 (fun v2 ev2 hv2 => ?_)
  replace E := zLet_s ev2 E
  have kv2 : (σ.1 a0 19).toInt = v2.toInt := by rw [ev2]
  refine zg_imulc X 12 dX11_tellPlace_6 (by omega) (by omega) (by omega) (fun v3 ev3 hv3 => ?_)
  replace E := zLet_s ev3 E
  refine zg_aload_n X 0 rfl dX11_tellPlace_7 ?_
  refine fg_X11_252 X hI ha0 dX11_tellPlace_8 (fun v4 ev4 hv4 => ?_)
  replace E := zLet_s ev4 E
  have kv4 : (σ.1 a0 42).toInt = v4.toInt := by rw [ev4]
  refine zg_iadd X dX11_tellPlace_11 (by omega) (by omega) (fun v5 ev5 hv5 => ?_)
  replace E := zLet_s ev5 E
  refine zg_iconst X 1 dX11_tellPlace_12 (by decide) (fun v6 _ hv6 => ?_)
  replace E := zLet_s (zcst hv6 (by decide)) E
  refine zg_iadd X dX11_tellPlace_13 (by omega) (by omega) (fun v7 ev7 hv7 => ?_)
  replace E := zLet_s ev7 E
  refine zg_istore_n X [(1, .int v7), (0, .ref a0)] dX11_tellPlace_14 (by decide) rfl ?_
  refine zg_aload_n X 1 rfl dX11_tellPlace_15 ?_
  refine zg_cVi (As := []) (st := []) X ha0 rfl (by decide) rfl (t_X11_named l d L kd κ _ hI a0 ha0   ) mk_X11_287 mc_X11_named mz_X11 mi_X11_named ml_X11_named (na := 0) ⟨md_X11.1, md_X11.2, by decide +kernel⟩ rfl ⟨by decide, by decide⟩ (Nat.le_of_ble_eq_true rfl) dX11_tellPlace_16 (fun v9 t8 hq => ?_)
  obtain ⟨hF, ⟨ht8_res, ht8_fact0, ht8_fact1, ht8_fact2⟩, hI, g10⟩ := hq
  replace E := zLet2_s hF E
  have ft8_18 : (t8.1 a0 18).toInt = (σ.1 a0 18).toInt := by rw [g10.2.1 18 (by decide)]
  have ft8_19 : (t8.1 a0 19).toInt = (σ.1 a0 19).toInt := by rw [g10.2.1 19 (by decide)]
  have ft8_41 : (t8.1 a0 41).toInt = (σ.1 a0 41).toInt := by rw [g10.2.1 41 (by decide)]
  have ft8_42 : (t8.1 a0 42).toInt = (σ.1 a0 42).toInt := by rw [g10.2.1 42 (by decide)]
  have hS := hS.tr g10 (by decide) (by decide)
  have at8_21 := zp_same hI ha0 g10 21 rfl (by decide) (by decide)
  have at8_22 := zp_same hI ha0 g10 22 rfl (by decide) (by decide)
  have gNt8 := gN.same hI ha0 g10 (by decide) hgN
  have gHt8 := gH.same hI ha0 g10 (by decide) hgH
  have gEt8 := gE.same hI ha0 g10 (by decide) hgE
  have gLt8 := gL.same hI ha0 g10 (by decide) hgL
  have e11 := g10.v ev2 (by decide)
  have e12 := g10.v ev4 (by decide)
  have gTrt8 := gTr.w hI ha0 g10 (by decide) ht8_fact2 hgTr
  have zbd : zHide ((1 ≤ (σ.1 a0 15).toInt → 1 ≤ (t8.1 a0 15).toInt) ∧ (0 ≤ (σ.1 a0 15).toInt → 0 ≤ (t8.1 a0 15).toInt)) := zHide.mk ht8_fact2
  clear ht8_fact2
  refine zg_istore_n X [(2, .int v9), (1, .int v7), (0, .ref a0)] dX11_tellPlace_19 (by decide) rfl ?_
  refine zg_aload_n X 2 rfl dX11_tellPlace_20 ?_
  refine fg_X11_209 X hI ha0 dX11_tellPlace_21 (fun v13 ev13 hv13 => ?_)
  replace E := zLet_s ev13 E
  have kv13 : (t8.1 a0 11).toInt = v13.toInt := by rw [ev13]
  refine zg_istore_n X [(3, .int v13), (2, .int v9), (1, .int v7), (0, .ref a0)] dX11_tellPlace_24 (by decide) rfl ?_
  refine zg_aload_n X 3 rfl dX11_tellPlace_25 ?_
  refine zg_iconst X 1 dX11_tellPlace_26 (by decide) (fun v14 _ hv14 => ?_)
  replace E := zLet_s (zcst hv14 (by decide)) E
  refine zg_cVv (As := [.int v14]) (st := []) X ha0 rfl (by decide) rfl (t_X11_must l d L kd κ _ hI a0 ha0 v14  ) mk_X11_274 mc_X11_must mz_X11 mi_X11_must ml_X11_must (na := 1) ⟨md_X11.1, md_X11.2, by decide +kernel⟩ rfl ⟨by decide, by decide⟩ (Nat.le_of_ble_eq_true rfl) dX11_tellPlace_27 (fun t15 hq => ?_)
  obtain ⟨hF, ht15_fact0, hI, g16⟩ := hq
  replace E := zLet_s hF E
  have ft15_15 : (t15.1 a0 15).toInt = (t8.1 a0 15).toInt := by rw [g16.2.1 15 (by decide)]
  have ft15_18 : (t15.1 a0 18).toInt = (t8.1 a0 18).toInt := by rw [g16.2.1 18 (by decide)]
  have ft15_19 : (t15.1 a0 19).toInt = (t8.1 a0 19).toInt := by rw [g16.2.1 19 (by decide)]
  have ft15_41 : (t15.1 a0 41).toInt = (t8.1 a0 41).toInt := by rw [g16.2.1 41 (by decide)]
  have ft15_42 : (t15.1 a0 42).toInt = (t8.1 a0 42).toInt := by rw [g16.2.1 42 (by decide)]
  have hS := hS.tr g16 (by decide) (by decide)
  have at15_21 := (zp_same hI ha0 g16 21 rfl (by decide) (by decide)).trans at8_21
  have at15_22 := (zp_same hI ha0 g16 22 rfl (by decide) (by decide)).trans at8_22
  have gNt15 := gN.same hI ha0 g16 (by decide) gNt8
  have gHt15 := gH.same hI ha0 g16 (by decide) gHt8
  have gEt15 := gE.same hI ha0 g16 (by decide) gEt8
  have gLt15 := gL.same hI ha0 g16 (by decide) gLt8
  have gTrt15 := gTr.same hI ha0 g16 (by decide) gTrt8
  have e17 := g16.v e11 (by decide)
  have e18 := g16.v e12 (by decide)
  refine zg_aload_n X 3 rfl dX11_tellPlace_30 ?_
  refine fg_X11_206 X hI ha0 dX11_tellPlace_31 (fun v19 ev19 hv19 => ?_)
  replace E := zLet_s ev19 E
  have kv19 : (t15.1 a0 13).toInt = v19.toInt := by rw [ev19]
  refine zg_if_le X 38 dX11_tellPlace_34 (by decide) (fun c20 => ?_) (fun c20 => ?_)
  · skip
    replace E := zIf_f (Int.not_lt.mpr c20) E
    refine zg_aload_n X 3 rfl dX11_tellPlace_38 ?_
    refine fg_X11_46 X hI ha0 dX11_tellPlace_39 (fun v21 ev21 hv21 => ?_)
    replace E := zLet_s (zgr ev21) E
    refine zg_iload_n X 2 rfl dX11_tellPlace_42 ?_
    refine zg_aload_n X 3 rfl dX11_tellPlace_43 ?_
    refine zg_iload_n X 0 rfl dX11_tellPlace_44 ?_
    refine zg_cVi (As := [.int v13]) (st := [.int v7, .ref v21]) X ha0 rfl (by decide) rfl (t_X11_numberOf l d L kd κ _ hI a0 ha0 v13  (by omega)) mk_X11_280 mc_X11_numberOf mz_X11 mi_X11_numberOf ml_X11_numberOf (na := 1) ⟨md_X11.1, md_X11.2, by decide +kernel⟩ rfl ⟨by decide, by decide⟩ (Nat.le_of_ble_eq_true rfl) dX11_tellPlace_45 (fun v23 t22 hq => ?_)
    obtain ⟨⟨hF, ht22_fact0⟩, rfl⟩ := hq
    replace E := zLet_s hF E
    have zno := ht22_fact0
    obtain ⟨x22, hx22⟩ : ∃ x : Int, x = v23.toInt := ⟨_, rfl⟩
    refine as_122 X hI hv21 (by omega) (by omega) dX11_tellPlace_48 (fun s24 es24 hI => ?_)
    replace E := zLet_s es24 E
    have g25 := (zSame.rf (o := a0) (Wf := []) (Wa := [122]) (L := L) (kd := kd) (σ := t15)).a ha0 hv21 es24 rfl (by decide)
    have rs24 := zp_st (σ := t15) (σ2 := s24) (i := v7) (x := v23) ev21 es24 (by omega)
    have ws24 := rs24
    rw [at15_22] at ws24
    have fs24_11 : (s24.1 a0 11).toInt = (t15.1 a0 11).toInt := by rw [g25.2.1 11 (by decide)]
    have fs24_13 : (s24.1 a0 13).toInt = (t15.1 a0 13).toInt := by rw [g25.2.1 13 (by decide)]
    have fs24_15 : (s24.1 a0 15).toInt = (t15.1 a0 15).toInt := by rw [g25.2.1 15 (by decide)]
    have fs24_18 : (s24.1 a0 18).toInt = (t15.1 a0 18).toInt := by rw [g25.2.1 18 (by decide)]
    have fs24_19 : (s24.1 a0 19).toInt = (t15.1 a0 19).toInt := by rw [g25.2.1 19 (by decide)]
    have fs24_41 : (s24.1 a0 41).toInt = (t15.1 a0 41).toInt := by rw [g25.2.1 41 (by decide)]
    have fs24_42 : (s24.1 a0 42).toInt = (t15.1 a0 42).toInt := by rw [g25.2.1 42 (by decide)]
    have hS := hS.tr g25 (by decide) (by decide)
    have as24_21 := (zp_same hI ha0 g25 21 rfl (by decide) (by decide)).trans at15_21
    have gNs24 := gN.same hI ha0 g25 (by decide) gNt15
    have gHs24 := gH.same hI ha0 g25 (by decide) gHt15
    have gEs24 := gE.same hI ha0 g25 (by decide) gEt15
    have gLs24 := gL.same hI ha0 g25 (by decide) gLt15
    have e26 := g25.v e17 (by decide)
    have e27 := g25.v e18 (by decide)
    refine zg_aload_n X 3 rfl dX11_tellPlace_49 ?_
    refine fg_X11_46 X hI ha0 dX11_tellPlace_50 (fun v29 ev29 hv29 => ?_)
    replace E := zLet_s (zgr ev29) E
    refine zg_iload_n X 2 rfl dX11_tellPlace_53 ?_
    refine ag_122 X hI hv29 (by omega) (by omega) dX11_tellPlace_54 (fun v30 ev30 _ => ?_)
    replace E := zLet_s ev30 E
    have qv30 := zp_ld ev29 ev30
    have zl := ws24 _ (show (0 : Int) ≤ v7.toInt by omega)
    rw [if_pos rfl] at zl
    refine zg_if_ge X 64 dX11_tellPlace_55 (by decide) (fun c31 => ?_) (fun c31 => ?_)
    · skip
      replace E := zIf_f (Int.not_lt.mpr c31) E
      have zv : zHide (x22 < 0 → 1 ≤ (s24.1 a0 15).toInt) := zHide.mk (fun z => by exfalso; omega)
      refine zg_aload_n X 3 rfl dX11_tellPlace_64 ?_
      refine fg_X11_49 X hI ha0 dX11_tellPlace_65 (fun v32 ev32 hv32 => ?_)
      replace E := zLet_s (zgr ev32) E
      refine zg_iload_n X 2 rfl dX11_tellPlace_68 ?_
      refine zg_aload_n X 3 rfl dX11_tellPlace_69 ?_
      refine zg_iconst X 1 dX11_tellPlace_70 (by decide) (fun v33 _ hv33 => ?_)
      replace E := zLet_s (zcst hv33 (by decide)) E
      refine zg_bipush X 99 dX11_tellPlace_71 (by decide) (fun v34 _ hv34 => ?_)
      replace E := zLet_s (zcst hv34 (by decide)) E
      refine zg_cVi (As := [.int v33, .int v34]) (st := [.int v7, .ref v32]) X ha0 rfl (by decide) rfl (t_X11_bounded l d L kd κ _ hI a0 ha0 v33 v34  ) mk_X11_270 mc_X11_bounded mz_X11 mi_X11_bounded ml_X11_bounded (na := 2) ⟨md_X11.1, md_X11.2, by decide +kernel⟩ rfl ⟨by decide, by decide⟩ (Nat.le_of_ble_eq_true rfl) dX11_tellPlace_73 (fun v36 t35 hq => ?_)
      obtain ⟨hF, ⟨ht35_fact0, ht35_fact1⟩, hI, g37⟩ := hq
      replace E := zLet2_s hF E
      have ft35_18 : (t35.1 a0 18).toInt = (s24.1 a0 18).toInt := by rw [g37.2.1 18 (by decide)]
      have ft35_19 : (t35.1 a0 19).toInt = (s24.1 a0 19).toInt := by rw [g37.2.1 19 (by decide)]
      have ft35_41 : (t35.1 a0 41).toInt = (s24.1 a0 41).toInt := by rw [g37.2.1 41 (by decide)]
      have ft35_42 : (t35.1 a0 42).toInt = (s24.1 a0 42).toInt := by rw [g37.2.1 42 (by decide)]
      have hS := hS.tr g37 (by decide) (by decide)
      have at35_21 := (zp_same hI ha0 g37 21 rfl (by decide) (by decide)).trans as24_21
      have at35_22 := zp_same hI ha0 g37 22 rfl (by decide) (by decide)
      have gNt35 := gN.same hI ha0 g37 (by decide) gNs24
      have gHt35 := gH.same hI ha0 g37 (by decide) gHs24
      have gEt35 := gE.same hI ha0 g37 (by decide) gEs24
      have gLt35 := gL.same hI ha0 g37 (by decide) gLs24
      have e39 := g37.v e26 (by decide)
      have e40 := g37.v e27 (by decide)
      replace zbd : zHide ((1 ≤ (σ.1 a0 15).toInt → 1 ≤ (t35.1 a0 15).toInt) ∧ (0 ≤ (σ.1 a0 15).toInt → 0 ≤ (t35.1 a0 15).toInt)) := zHide.mk ⟨fun z => ht35_fact1.1 (by have y := zbd.un.1 z; omega), fun z => ht35_fact1.2 (by have y := zbd.un.2 z; omega)⟩
      replace zv : zHide (x22 < 0 → 1 ≤ (t35.1 a0 15).toInt) := zHide.mk (fun z => ht35_fact1.1 (by have y := zv.un z; omega))
      clear ht35_fact1
      refine as_123 X hI hv32 (by omega) (by omega) dX11_tellPlace_76 (fun s41 es41 hI => ?_)
      replace E := zLet_s es41 E
      have g42 := (zSame.rf (o := a0) (Wf := []) (Wa := [123]) (L := L) (kd := kd) (σ := t35)).a ha0 hv32 es41 rfl (by decide)
      have fs41_11 : (s41.1 a0 11).toInt = (t35.1 a0 11).toInt := by rw [g42.2.1 11 (by decide)]
      have fs41_13 : (s41.1 a0 13).toInt = (t35.1 a0 13).toInt := by rw [g42.2.1 13 (by decide)]
      have fs41_15 : (s41.1 a0 15).toInt = (t35.1 a0 15).toInt := by rw [g42.2.1 15 (by decide)]
      have fs41_18 : (s41.1 a0 18).toInt = (t35.1 a0 18).toInt := by rw [g42.2.1 18 (by decide)]
      have fs41_19 : (s41.1 a0 19).toInt = (t35.1 a0 19).toInt := by rw [g42.2.1 19 (by decide)]
      have fs41_41 : (s41.1 a0 41).toInt = (t35.1 a0 41).toInt := by rw [g42.2.1 41 (by decide)]
      have fs41_42 : (s41.1 a0 42).toInt = (t35.1 a0 42).toInt := by rw [g42.2.1 42 (by decide)]
      have hS := hS.tr g42 (by decide) (by decide)
      have as41_21 := (zp_same hI ha0 g42 21 rfl (by decide) (by decide)).trans at35_21
      have as41_22 := (zp_same hI ha0 g42 22 rfl (by decide) (by decide)).trans at35_22
      have gNs41 := gN.same hI ha0 g42 (by decide) gNt35
      have gHs41 := gH.same hI ha0 g42 (by decide) gHt35
      have gEs41 := gE.same hI ha0 g42 (by decide) gEt35
      have gLs41 := gL.same hI ha0 g42 (by decide) gLt35
      have e43 := g42.v e39 (by decide)
      have e44 := g42.v e40 (by decide)
      refine zg_aload_n X 3 rfl dX11_tellPlace_77 ?_
      refine fg_X11_52 X hI ha0 dX11_tellPlace_78 (fun v45 ev45 hv45 => ?_)
      replace E := zLet_s (zgr ev45) E
      refine zg_iload_n X 2 rfl dX11_tellPlace_81 ?_
      refine zg_aload_n X 3 rfl dX11_tellPlace_82 ?_
      refine zg_iconst X 0 dX11_tellPlace_83 (by decide) (fun v46 _ hv46 => ?_)
      replace E := zLet_s (zcst hv46 (by decide)) E
      refine zg_bipush X 99 dX11_tellPlace_84 (by decide) (fun v47 _ hv47 => ?_)
      replace E := zLet_s (zcst hv47 (by decide)) E
      refine zg_cVi (As := [.int v46, .int v47]) (st := [.int v7, .ref v45]) X ha0 rfl (by decide) rfl (t_X11_bounded l d L kd κ _ hI a0 ha0 v46 v47  ) mk_X11_270 mc_X11_bounded mz_X11 mi_X11_bounded ml_X11_bounded (na := 2) ⟨md_X11.1, md_X11.2, by decide +kernel⟩ rfl ⟨by decide, by decide⟩ (Nat.le_of_ble_eq_true rfl) dX11_tellPlace_86 (fun v49 t48 hq => ?_)
      obtain ⟨hF, ⟨ht48_fact0, ht48_fact1⟩, hI, g50⟩ := hq
      replace E := zLet2_s hF E
      have ft48_18 : (t48.1 a0 18).toInt = (s41.1 a0 18).toInt := by rw [g50.2.1 18 (by decide)]
      have ft48_19 : (t48.1 a0 19).toInt = (s41.1 a0 19).toInt := by rw [g50.2.1 19 (by decide)]
      have ft48_41 : (t48.1 a0 41).toInt = (s41.1 a0 41).toInt := by rw [g50.2.1 41 (by decide)]
      have ft48_42 : (t48.1 a0 42).toInt = (s41.1 a0 42).toInt := by rw [g50.2.1 42 (by decide)]
      have hS := hS.tr g50 (by decide) (by decide)
      have at48_21 := (zp_same hI ha0 g50 21 rfl (by decide) (by decide)).trans as41_21
      have at48_22 := (zp_same hI ha0 g50 22 rfl (by decide) (by decide)).trans as41_22
      have gNt48 := gN.same hI ha0 g50 (by decide) gNs41
      have gHt48 := gH.same hI ha0 g50 (by decide) gHs41
      have gEt48 := gE.same hI ha0 g50 (by decide) gEs41
      have gLt48 := gL.same hI ha0 g50 (by decide) gLs41
      have e52 := g50.v e43 (by decide)
      have e53 := g50.v e44 (by decide)
      replace zbd : zHide ((1 ≤ (σ.1 a0 15).toInt → 1 ≤ (t48.1 a0 15).toInt) ∧ (0 ≤ (σ.1 a0 15).toInt → 0 ≤ (t48.1 a0 15).toInt)) := zHide.mk ⟨fun z => ht48_fact1.1 (by have y := zbd.un.1 z; omega), fun z => ht48_fact1.2 (by have y := zbd.un.2 z; omega)⟩
      replace zv : zHide (x22 < 0 → 1 ≤ (t48.1 a0 15).toInt) := zHide.mk (fun z => ht48_fact1.1 (by have y := zv.un z; omega))
      clear ht48_fact1
      refine as_124 X hI hv45 (by omega) (by omega) dX11_tellPlace_89 (fun s54 es54 hI => ?_)
      replace E := zLet_s es54 E
      have g55 := (zSame.rf (o := a0) (Wf := []) (Wa := [124]) (L := L) (kd := kd) (σ := t48)).a ha0 hv45 es54 rfl (by decide)
      have fs54_11 : (s54.1 a0 11).toInt = (t48.1 a0 11).toInt := by rw [g55.2.1 11 (by decide)]
      have fs54_13 : (s54.1 a0 13).toInt = (t48.1 a0 13).toInt := by rw [g55.2.1 13 (by decide)]
      have fs54_15 : (s54.1 a0 15).toInt = (t48.1 a0 15).toInt := by rw [g55.2.1 15 (by decide)]
      have fs54_18 : (s54.1 a0 18).toInt = (t48.1 a0 18).toInt := by rw [g55.2.1 18 (by decide)]
      have fs54_19 : (s54.1 a0 19).toInt = (t48.1 a0 19).toInt := by rw [g55.2.1 19 (by decide)]
      have fs54_41 : (s54.1 a0 41).toInt = (t48.1 a0 41).toInt := by rw [g55.2.1 41 (by decide)]
      have fs54_42 : (s54.1 a0 42).toInt = (t48.1 a0 42).toInt := by rw [g55.2.1 42 (by decide)]
      have hS := hS.tr g55 (by decide) (by decide)
      have as54_21 := (zp_same hI ha0 g55 21 rfl (by decide) (by decide)).trans at48_21
      have as54_22 := (zp_same hI ha0 g55 22 rfl (by decide) (by decide)).trans at48_22
      have gNs54 := gN.same hI ha0 g55 (by decide) gNt48
      have gHs54 := gH.same hI ha0 g55 (by decide) gHt48
      have gEs54 := gE.same hI ha0 g55 (by decide) gEt48
      have gLs54 := gL.same hI ha0 g55 (by decide) gLt48
      have e56 := g55.v e52 (by decide)
      have e57 := g55.v e53 (by decide)
      refine zg_aload_n X 3 rfl dX11_tellPlace_90 ?_
      refine fg_X11_55 X hI ha0 dX11_tellPlace_91 (fun v58 ev58 hv58 => ?_)
      replace E := zLet_s (zgr ev58) E
      refine zg_iload_n X 2 rfl dX11_tellPlace_94 ?_
      refine zg_aload_n X 3 rfl dX11_tellPlace_95 ?_
      refine zg_iconst X 0 dX11_tellPlace_96 (by decide) (fun v59 _ hv59 => ?_)
      replace E := zLet_s (zcst hv59 (by decide)) E
      refine zg_bipush X 99 dX11_tellPlace_97 (by decide) (fun v60 _ hv60 => ?_)
      replace E := zLet_s (zcst hv60 (by decide)) E
      refine zg_cVi (As := [.int v59, .int v60]) (st := [.int v7, .ref v58]) X ha0 rfl (by decide) rfl (t_X11_bounded l d L kd κ _ hI a0 ha0 v59 v60  ) mk_X11_270 mc_X11_bounded mz_X11 mi_X11_bounded ml_X11_bounded (na := 2) ⟨md_X11.1, md_X11.2, by decide +kernel⟩ rfl ⟨by decide, by decide⟩ (Nat.le_of_ble_eq_true rfl) dX11_tellPlace_99 (fun v62 t61 hq => ?_)
      obtain ⟨hF, ⟨ht61_fact0, ht61_fact1⟩, hI, g63⟩ := hq
      replace E := zLet2_s hF E
      have ft61_18 : (t61.1 a0 18).toInt = (s54.1 a0 18).toInt := by rw [g63.2.1 18 (by decide)]
      have ft61_19 : (t61.1 a0 19).toInt = (s54.1 a0 19).toInt := by rw [g63.2.1 19 (by decide)]
      have ft61_41 : (t61.1 a0 41).toInt = (s54.1 a0 41).toInt := by rw [g63.2.1 41 (by decide)]
      have ft61_42 : (t61.1 a0 42).toInt = (s54.1 a0 42).toInt := by rw [g63.2.1 42 (by decide)]
      have hS := hS.tr g63 (by decide) (by decide)
      have at61_21 := (zp_same hI ha0 g63 21 rfl (by decide) (by decide)).trans as54_21
      have at61_22 := (zp_same hI ha0 g63 22 rfl (by decide) (by decide)).trans as54_22
      have gNt61 := gN.same hI ha0 g63 (by decide) gNs54
      have gHt61 := gH.same hI ha0 g63 (by decide) gHs54
      have gEt61 := gE.same hI ha0 g63 (by decide) gEs54
      have gLt61 := gL.same hI ha0 g63 (by decide) gLs54
      have e65 := g63.v e56 (by decide)
      have e66 := g63.v e57 (by decide)
      replace zbd : zHide ((1 ≤ (σ.1 a0 15).toInt → 1 ≤ (t61.1 a0 15).toInt) ∧ (0 ≤ (σ.1 a0 15).toInt → 0 ≤ (t61.1 a0 15).toInt)) := zHide.mk ⟨fun z => ht61_fact1.1 (by have y := zbd.un.1 z; omega), fun z => ht61_fact1.2 (by have y := zbd.un.2 z; omega)⟩
      replace zv : zHide (x22 < 0 → 1 ≤ (t61.1 a0 15).toInt) := zHide.mk (fun z => ht61_fact1.1 (by have y := zv.un z; omega))
      clear ht61_fact1
      refine as_125 X hI hv58 (by omega) (by omega) dX11_tellPlace_102 (fun s67 es67 hI => ?_)
      replace E := zLet_s es67 E
      have g68 := (zSame.rf (o := a0) (Wf := []) (Wa := [125]) (L := L) (kd := kd) (σ := t61)).a ha0 hv58 es67 rfl (by decide)
      have fs67_11 : (s67.1 a0 11).toInt = (t61.1 a0 11).toInt := by rw [g68.2.1 11 (by decide)]
      have fs67_13 : (s67.1 a0 13).toInt = (t61.1 a0 13).toInt := by rw [g68.2.1 13 (by decide)]
      have fs67_15 : (s67.1 a0 15).toInt = (t61.1 a0 15).toInt := by rw [g68.2.1 15 (by decide)]
      have fs67_18 : (s67.1 a0 18).toInt = (t61.1 a0 18).toInt := by rw [g68.2.1 18 (by decide)]
      have fs67_19 : (s67.1 a0 19).toInt = (t61.1 a0 19).toInt := by rw [g68.2.1 19 (by decide)]
      have fs67_41 : (s67.1 a0 41).toInt = (t61.1 a0 41).toInt := by rw [g68.2.1 41 (by decide)]
      have fs67_42 : (s67.1 a0 42).toInt = (t61.1 a0 42).toInt := by rw [g68.2.1 42 (by decide)]
      have hS := hS.tr g68 (by decide) (by decide)
      have as67_21 := (zp_same hI ha0 g68 21 rfl (by decide) (by decide)).trans at61_21
      have as67_22 := (zp_same hI ha0 g68 22 rfl (by decide) (by decide)).trans at61_22
      have gNs67 := gN.same hI ha0 g68 (by decide) gNt61
      have gHs67 := gH.same hI ha0 g68 (by decide) gHt61
      have gEs67 := gE.same hI ha0 g68 (by decide) gEt61
      have gLs67 := gL.same hI ha0 g68 (by decide) gLt61
      have e69 := g68.v e65 (by decide)
      have e70 := g68.v e66 (by decide)
      refine zg_aload_n X 3 rfl dX11_tellPlace_103 ?_
      refine zg_iconst X 4 dX11_tellPlace_104 (by decide) (fun v71 _ hv71 => ?_)
      replace E := zLet_s (zcst hv71 (by decide)) E
      refine zg_cVv (As := [.int v71]) (st := []) X ha0 rfl (by decide) rfl (t_X11_must l d L kd κ _ hI a0 ha0 v71  ) mk_X11_274 mc_X11_must mz_X11 mi_X11_must ml_X11_must (na := 1) ⟨md_X11.1, md_X11.2, by decide +kernel⟩ rfl ⟨by decide, by decide⟩ (Nat.le_of_ble_eq_true rfl) dX11_tellPlace_105 (fun t72 hq => ?_)
      obtain ⟨hF, ht72_fact0, hI, g73⟩ := hq
      replace E := zLet_s hF E
      have ft72_15 : (t72.1 a0 15).toInt = (s67.1 a0 15).toInt := by rw [g73.2.1 15 (by decide)]
      have ft72_18 : (t72.1 a0 18).toInt = (s67.1 a0 18).toInt := by rw [g73.2.1 18 (by decide)]
      have ft72_19 : (t72.1 a0 19).toInt = (s67.1 a0 19).toInt := by rw [g73.2.1 19 (by decide)]
      have ft72_41 : (t72.1 a0 41).toInt = (s67.1 a0 41).toInt := by rw [g73.2.1 41 (by decide)]
      have ft72_42 : (t72.1 a0 42).toInt = (s67.1 a0 42).toInt := by rw [g73.2.1 42 (by decide)]
      have hS := hS.tr g73 (by decide) (by decide)
      have at72_21 := (zp_same hI ha0 g73 21 rfl (by decide) (by decide)).trans as67_21
      have at72_22 := (zp_same hI ha0 g73 22 rfl (by decide) (by decide)).trans as67_22
      have gNt72 := gN.same hI ha0 g73 (by decide) gNs67
      have gHt72 := gH.same hI ha0 g73 (by decide) gHs67
      have gEt72 := gE.same hI ha0 g73 (by decide) gEs67
      have gLt72 := gL.same hI ha0 g73 (by decide) gLs67
      have e74 := g73.v e69 (by decide)
      have e75 := g73.v e70 (by decide)
      refine zg_aload_n X 3 rfl dX11_tellPlace_108 ?_
      refine fg_X11_206 X hI ha0 dX11_tellPlace_109 (fun v76 ev76 hv76 => ?_)
      replace E := zLet_s ev76 E
      have kv76 : (t72.1 a0 13).toInt = v76.toInt := by rw [ev76]
      refine zg_if_le X 116 dX11_tellPlace_112 (by decide) (fun c77 => ?_) (fun c77 => ?_)
      · skip
        replace E := zIf_f (Int.not_lt.mpr c77) E
        refine zg_aload_n X 3 rfl dX11_tellPlace_116 ?_
        refine zg_dup X dX11_tellPlace_117 rfl ?_
        refine fg_X11_252 X hI ha0 dX11_tellPlace_118 (fun v78 ev78 hv78 => ?_)
        replace E := zLet_s ev78 E
        have kv78 : (t72.1 a0 42).toInt = v78.toInt := by rw [ev78]
        have mv78 : v78.toInt = v4.toInt := by rw [ev78, ← e75]
        refine zg_iconst X 1 dX11_tellPlace_121 (by decide) (fun v79 _ hv79 => ?_)
        replace E := zLet_s (zcst hv79 (by decide)) E
        refine zg_iadd X dX11_tellPlace_122 (by omega) (by omega) (fun v80 ev80 hv80 => ?_)
        replace E := zLet_s ev80 E
        refine fp_X11_252 X hI ha0 ⟨by omega, by omega⟩ dX11_tellPlace_123 (fun s81 es81 hI => ?_)
        replace E := zLet_s es81 E
        have g82 := (zSame.rf (o := a0) (Wf := [42]) (Wa := []) (L := L) (kd := kd) (σ := t72)).f ha0 es81 rfl
        have fs81_11 : (s81.1 a0 11).toInt = (t72.1 a0 11).toInt := by rw [g82.2.1 11 (by decide)]
        have fs81_13 : (s81.1 a0 13).toInt = (t72.1 a0 13).toInt := by rw [g82.2.1 13 (by decide)]
        have fs81_15 : (s81.1 a0 15).toInt = (t72.1 a0 15).toInt := by rw [g82.2.1 15 (by decide)]
        have fs81_18 : (s81.1 a0 18).toInt = (t72.1 a0 18).toInt := by rw [g82.2.1 18 (by decide)]
        have fs81_19 : (s81.1 a0 19).toInt = (t72.1 a0 19).toInt := by rw [g82.2.1 19 (by decide)]
        have fs81_41 : (s81.1 a0 41).toInt = (t72.1 a0 41).toInt := by rw [g82.2.1 41 (by decide)]
        have hS := hS.tr g82 (by decide) (by decide)
        have as81_21 := (zp_same hI ha0 g82 21 rfl (by decide) (by decide)).trans at72_21
        have as81_22 := (zp_same hI ha0 g82 22 rfl (by decide) (by decide)).trans at72_22
        have gNs81 := gN.same hI ha0 g82 (by decide) gNt72
        have gHs81 := gH.same hI ha0 g82 (by decide) gHt72
        have gEs81 := gE.same hI ha0 g82 (by decide) gEt72
        have gLs81 := gL.same hI ha0 g82 (by decide) gLt72
        have e83 := g82.v e74 (by decide)
        have fs81_42 : (s81.1 a0 42).toInt = v80.toInt := by rw [es81]; exact congrArg _ (zu_s _ _ _ _)
        have e85 : v80 = s81.1 a0 42 := by rw [es81]; exact zm_s
        refine zg_aload_n X 3 rfl dX11_tellPlace_126 ?_
        refine fg_X11_40 X hI ha0 dX11_tellPlace_127 (fun v86 ev86 hv86 => ?_)
        replace E := zLet_s (zgr ev86) E
        refine zg_aload_n X 3 rfl dX11_tellPlace_130 ?_
        refine fg_X11_252 X hI ha0 dX11_tellPlace_131 (fun v87 ev87 hv87 => ?_)
        replace E := zLet_s ev87 E
        have kv87 : (s81.1 a0 42).toInt = v87.toInt := by rw [ev87]
        have mv87 : v87.toInt = v80.toInt := by rw [ev87, ← e85]
        refine zg_aload_n X 3 rfl dX11_tellPlace_134 ?_
        refine fg_X11_30 X hI ha0 dX11_tellPlace_135 (fun v88 ev88 hv88 => ?_)
        replace E := zLet_s (zgr ev88) E
        refine zg_iload_n X 1 rfl dX11_tellPlace_138 ?_
        refine ag_108 X hv88 (by omega) (by omega) dX11_tellPlace_139 (fun v89 ev89 => ?_)
        replace E := zLet_s ev89 E
        refine as_120 X hI hv86 (by omega) (by omega) dX11_tellPlace_140 (fun s90 es90 hI => ?_)
        replace E := zLet_s es90 E
        have g91 := (zSame.rf (o := a0) (Wf := []) (Wa := [120]) (L := L) (kd := kd) (σ := s81)).l hv86 es90 rfl
        have fs90_11 : (s90.1 a0 11).toInt = (s81.1 a0 11).toInt := by rw [g91.2.1 11 (by decide)]
        have fs90_13 : (s90.1 a0 13).toInt = (s81.1 a0 13).toInt := by rw [g91.2.1 13 (by decide)]
        have fs90_15 : (s90.1 a0 15).toInt = (s81.1 a0 15).toInt := by rw [g91.2.1 15 (by decide)]
        have fs90_18 : (s90.1 a0 18).toInt = (s81.1 a0 18).toInt := by rw [g91.2.1 18 (by decide)]
        have fs90_19 : (s90.1 a0 19).toInt = (s81.1 a0 19).toInt := by rw [g91.2.1 19 (by decide)]
        have fs90_41 : (s90.1 a0 41).toInt = (s81.1 a0 41).toInt := by rw [g91.2.1 41 (by decide)]
        have fs90_42 : (s90.1 a0 42).toInt = (s81.1 a0 42).toInt := by rw [g91.2.1 42 (by decide)]
        have hS := hS.tr g91 (by decide) (by decide)
        have as90_21 := (zp_same hI ha0 g91 21 rfl (by decide) (by decide)).trans as81_21
        have as90_22 := (zp_same hI ha0 g91 22 rfl (by decide) (by decide)).trans as81_22
        have gNs90 := gN.same hI ha0 g91 (by decide) gNs81
        have gHs90 := gH.same hI ha0 g91 (by decide) gHs81
        have gEs90 := gE.same hI ha0 g91 (by decide) gEs81
        have gLs90 := gL.same hI ha0 g91 (by decide) gLs81
        have e92 := g91.v e83 (by decide)
        have e94 := g91.v ev87 (by decide)
        refine zg_aload_n X 3 rfl dX11_tellPlace_141 ?_
        refine fg_X11_248 X hI ha0 dX11_tellPlace_142 (fun v95 ev95 hv95 => ?_)
        replace E := zLet_s ev95 E
        have kv95 : (s90.1 a0 41).toInt = v95.toInt := by rw [ev95]
        refine zg_if_eq X 163 dX11_tellPlace_145 (by decide) (fun c96 => ?_) (fun c96 => ?_)
        · skip
          replace E := zIf_t c96 E
          skip
          exact ret _ _ _ dX11_tellPlace_163 ⟨E.symm.trans hR, ⟨⟨(by omega), (fun _ => by
  obtain ⟨y1, y2, y3, y4⟩ := hgTr
  have q4 := zbd.un.2 y4
  unfold gTr
  rw [show (s90.1 a0 19).toInt = (σ.1 a0 19).toInt by omega, show (s90.1 a0 42).toInt = (σ.1 a0 42).toInt + 1 by omega]
  refine ⟨fun hw c h1 h2 => ?_, ?_, ?_, by omega⟩
  · have q1 : (σ.1 a0 15).toInt = 0 := Classical.byContradiction (fun n => by have := zbd.un.1 (by omega); omega)
    have q2 : 0 ≤ x22 := Classical.byContradiction (fun n => by have := zv.un (by omega); omega)
    rw [as90_22, ws24 _ (by omega)]
    split
    · omega
    · exact y1 q1 c h1 (by omega)
  · first | (refine Or.inr ?_; rw [rfl _ (by omega), if_pos (by omega)]; omega) | exact Or.inl (by rw [as90_21]; exact y3 (by omega))
  · first | (intro z; exfalso; omega) | (intro _; rw [as90_21]; exact y3 (by omega))), gNs90, gHs90, gEs90, gLs90⟩, hI, hS⟩⟩
        · skip
          replace E := zIf_f c96 E
          refine zg_aload_n X 3 rfl dX11_tellPlace_148 ?_
          refine fg_X11_43 X hI ha0 dX11_tellPlace_149 (fun v97 ev97 hv97 => ?_)
          replace E := zLet_s (zgr ev97) E
          refine zg_aload_n X 3 rfl dX11_tellPlace_152 ?_
          refine fg_X11_239 X hI ha0 dX11_tellPlace_153 (fun v98 ev98 hv98 => ?_)
          replace E := zLet_s ev98 E
          have kv98 : (s90.1 a0 19).toInt = v98.toInt := by rw [ev98]
          have mv98 : v98.toInt = v2.toInt := by rw [ev98, ← e92]
          refine zg_aload_n X 3 rfl dX11_tellPlace_156 ?_
          refine fg_X11_252 X hI ha0 dX11_tellPlace_157 (fun v99 ev99 hv99 => ?_)
          replace E := zLet_s ev99 E
          have kv99 : (s90.1 a0 42).toInt = v99.toInt := by rw [ev99]
          have mv99 : v99.toInt = v87.toInt := by rw [ev99, ← e94]
          refine zg_iconst X 1 dX11_tellPlace_160 (by decide) (fun v100 _ hv100 => ?_)
          replace E := zLet_s (zcst hv100 (by decide)) E
          refine zg_iadd X dX11_tellPlace_161 (by omega) (by omega) (fun v101 ev101 hv101 => ?_)
          replace E := zLet_s ev101 E
          refine as_121 X hI hv97 (by omega) (by omega) ⟨by omega, by omega⟩ dX11_tellPlace_162 (fun s102 es102 hI => ?_)
          replace E := zLet_s es102 E
          have g103 := (zSame.rf (o := a0) (Wf := []) (Wa := [121]) (L := L) (kd := kd) (σ := s90)).a ha0 hv97 es102 rfl (by decide)
          have rs102 := zp_st (σ := s90) (σ2 := s102) (i := v98) (x := v101) ev97 es102 (by omega)
          have ws102 := rs102
          rw [as90_21] at ws102
          rw [← kv98] at ws102
          have fs102_11 : (s102.1 a0 11).toInt = (s90.1 a0 11).toInt := by rw [g103.2.1 11 (by decide)]
          have fs102_13 : (s102.1 a0 13).toInt = (s90.1 a0 13).toInt := by rw [g103.2.1 13 (by decide)]
          have fs102_15 : (s102.1 a0 15).toInt = (s90.1 a0 15).toInt := by rw [g103.2.1 15 (by decide)]
          have fs102_18 : (s102.1 a0 18).toInt = (s90.1 a0 18).toInt := by rw [g103.2.1 18 (by decide)]
          have fs102_19 : (s102.1 a0 19).toInt = (s90.1 a0 19).toInt := by rw [g103.2.1 19 (by decide)]
          have fs102_41 : (s102.1 a0 41).toInt = (s90.1 a0 41).toInt := by rw [g103.2.1 41 (by decide)]
          have fs102_42 : (s102.1 a0 42).toInt = (s90.1 a0 42).toInt := by rw [g103.2.1 42 (by decide)]
          have hS := hS.tr g103 (by decide) (by decide)
          have as102_22 := (zp_same hI ha0 g103 22 rfl (by decide) (by decide)).trans as90_22
          have gLs102 := gL.same hI ha0 g103 (by decide) gLs90
          have zME : zM a0 s102 = zM a0 σ := by unfold zM; rw [show (s102.1 a0 18).toInt = (σ.1 a0 18).toInt by omega, ws102 _ (by omega), if_neg (by omega)]
          have gN9 := gN.sm hI ha0 hS zME (by decide) hgN
          have gH9 := gH.sm hI ha0 hS zME (by decide) hgH
          have gE9 := gE.sm hI ha0 hS zME (by decide) hgE
          exact ret _ _ _ dX11_tellPlace_163 ⟨E.symm.trans hR, ⟨⟨(by omega), (fun _ => by
  obtain ⟨y1, y2, y3, y4⟩ := hgTr
  have q4 := zbd.un.2 y4
  unfold gTr
  rw [show (s102.1 a0 19).toInt = (σ.1 a0 19).toInt by omega, show (s102.1 a0 42).toInt = (σ.1 a0 42).toInt + 1 by omega]
  refine ⟨fun hw c h1 h2 => ?_, ?_, ?_, by omega⟩
  · have q1 : (σ.1 a0 15).toInt = 0 := Classical.byContradiction (fun n => by have := zbd.un.1 (by omega); omega)
    have q2 : 0 ≤ x22 := Classical.byContradiction (fun n => by have := zv.un (by omega); omega)
    rw [as102_22, ws24 _ (by omega)]
    split
    · omega
    · exact y1 q1 c h1 (by omega)
  · first | (refine Or.inr ?_; rw [ws102 _ (by omega), if_pos (by omega)]; omega) | exact Or.inl (by rw [rfl]; exact y3 (by omega))
  · first | (intro z; exfalso; omega) | (intro _; rw [rfl]; exact y3 (by omega))), gN9, gH9, gE9, gLs102⟩, hI, hS⟩⟩
      · skip
        replace E := zIf_t c77 E
        exact ret _ _ _ dX11_tellPlace_115 ⟨E.symm.trans hR, ⟨⟨(by omega), (fun h0 => by exfalso; omega), gNt72, gHt72, gEt72, gLt72⟩, hI, hS⟩⟩
    · skip
      replace E := zIf_t c31 E
      refine zg_aload_n X 3 rfl dX11_tellPlace_58 ?_
      refine zg_iconst X 4 dX11_tellPlace_59 (by decide) (fun v108 _ hv108 => ?_)
      replace E := zLet_s (zcst hv108 (by decide)) E
      refine zg_iload_n X 0 rfl dX11_tellPlace_60 ?_
      refine zg_cVv (As := [.int v108, .int v13]) (st := []) X ha0 rfl (by decide) rfl (t_X11_wrong l d L kd κ _ hI a0 ha0 v108 v13  (by omega) (by omega)) mk_X11_283 mc_X11_wrong mz_X11 mi_X11_wrong ml_X11_wrong (na := 2) ⟨md_X11.1, md_X11.2, by decide +kernel⟩ rfl ⟨by decide, by decide⟩ (Nat.le_of_ble_eq_true rfl) dX11_tellPlace_61 (fun t109 hq => ?_)
      obtain ⟨hF, ⟨ht109_fact0, ht109_fact1⟩, hI, g110⟩ := hq
      replace E := zLet_s hF E
      have ft109_11 : (t109.1 a0 11).toInt = (s24.1 a0 11).toInt := by rw [g110.2.1 11 (by decide)]
      have ft109_13 : (t109.1 a0 13).toInt = (s24.1 a0 13).toInt := by rw [g110.2.1 13 (by decide)]
      have ft109_18 : (t109.1 a0 18).toInt = (s24.1 a0 18).toInt := by rw [g110.2.1 18 (by decide)]
      have ft109_19 : (t109.1 a0 19).toInt = (s24.1 a0 19).toInt := by rw [g110.2.1 19 (by decide)]
      have ft109_41 : (t109.1 a0 41).toInt = (s24.1 a0 41).toInt := by rw [g110.2.1 41 (by decide)]
      have ft109_42 : (t109.1 a0 42).toInt = (s24.1 a0 42).toInt := by rw [g110.2.1 42 (by decide)]
      have hS := hS.tr g110 (by decide) (by decide)
      have at109_21 := (zp_same hI ha0 g110 21 rfl (by decide) (by decide)).trans as24_21
      have at109_22 := zp_same hI ha0 g110 22 rfl (by decide) (by decide)
      have gNt109 := gN.same hI ha0 g110 (by decide) gNs24
      have gHt109 := gH.same hI ha0 g110 (by decide) gHs24
      have gEt109 := gE.same hI ha0 g110 (by decide) gEs24
      have gLt109 := gL.same hI ha0 g110 (by decide) gLs24
      have e111 := g110.v e26 (by decide)
      have e112 := g110.v e27 (by decide)
      have zv : zHide (x22 < 0 → 1 ≤ (t109.1 a0 15).toInt) := zHide.mk (fun z => ht109_fact0.elim (fun y => by exfalso; omega) (fun y => y.elim (fun y => by exfalso; have := zbd.un.2 hgTr.2.2.2; omega) id))
      replace zbd : zHide ((1 ≤ (σ.1 a0 15).toInt → 1 ≤ (t109.1 a0 15).toInt) ∧ (0 ≤ (σ.1 a0 15).toInt → 0 ≤ (t109.1 a0 15).toInt)) := zHide.mk ⟨fun z => ht109_fact1.1 (by have y := zbd.un.1 z; omega), fun z => ht109_fact1.2 (by have y := zbd.un.2 z; omega)⟩
      clear ht109_fact1 ht109_fact0
      skip
      refine zg_aload_n X 3 rfl dX11_tellPlace_64 ?_
      refine fg_X11_49 X hI ha0 dX11_tellPlace_65 (fun v114 ev114 hv114 => ?_)
      replace E := zLet_s (zgr ev114) E
      refine zg_iload_n X 2 rfl dX11_tellPlace_68 ?_
      refine zg_aload_n X 3 rfl dX11_tellPlace_69 ?_
      refine zg_iconst X 1 dX11_tellPlace_70 (by decide) (fun v115 _ hv115 => ?_)
      replace E := zLet_s (zcst hv115 (by decide)) E
      refine zg_bipush X 99 dX11_tellPlace_71 (by decide) (fun v116 _ hv116 => ?_)
      replace E := zLet_s (zcst hv116 (by decide)) E
      refine zg_cVi (As := [.int v115, .int v116]) (st := [.int v7, .ref v114]) X ha0 rfl (by decide) rfl (t_X11_bounded l d L kd κ _ hI a0 ha0 v115 v116  ) mk_X11_270 mc_X11_bounded mz_X11 mi_X11_bounded ml_X11_bounded (na := 2) ⟨md_X11.1, md_X11.2, by decide +kernel⟩ rfl ⟨by decide, by decide⟩ (Nat.le_of_ble_eq_true rfl) dX11_tellPlace_73 (fun v118 t117 hq => ?_)
      obtain ⟨hF, ⟨ht117_fact0, ht117_fact1⟩, hI, g119⟩ := hq
      replace E := zLet2_s hF E
      have ft117_18 : (t117.1 a0 18).toInt = (t109.1 a0 18).toInt := by rw [g119.2.1 18 (by decide)]
      have ft117_19 : (t117.1 a0 19).toInt = (t109.1 a0 19).toInt := by rw [g119.2.1 19 (by decide)]
      have ft117_41 : (t117.1 a0 41).toInt = (t109.1 a0 41).toInt := by rw [g119.2.1 41 (by decide)]
      have ft117_42 : (t117.1 a0 42).toInt = (t109.1 a0 42).toInt := by rw [g119.2.1 42 (by decide)]
      have hS := hS.tr g119 (by decide) (by decide)
      have at117_21 := (zp_same hI ha0 g119 21 rfl (by decide) (by decide)).trans at109_21
      have at117_22 := (zp_same hI ha0 g119 22 rfl (by decide) (by decide)).trans at109_22
      have gNt117 := gN.same hI ha0 g119 (by decide) gNt109
      have gHt117 := gH.same hI ha0 g119 (by decide) gHt109
      have gEt117 := gE.same hI ha0 g119 (by decide) gEt109
      have gLt117 := gL.same hI ha0 g119 (by decide) gLt109
      have e121 := g119.v e111 (by decide)
      have e122 := g119.v e112 (by decide)
      replace zbd : zHide ((1 ≤ (σ.1 a0 15).toInt → 1 ≤ (t117.1 a0 15).toInt) ∧ (0 ≤ (σ.1 a0 15).toInt → 0 ≤ (t117.1 a0 15).toInt)) := zHide.mk ⟨fun z => ht117_fact1.1 (by have y := zbd.un.1 z; omega), fun z => ht117_fact1.2 (by have y := zbd.un.2 z; omega)⟩
      replace zv : zHide (x22 < 0 → 1 ≤ (t117.1 a0 15).toInt) := zHide.mk (fun z => ht117_fact1.1 (by have y := zv.un z; omega))
      clear ht117_fact1
      refine as_123 X hI hv114 (by omega) (by omega) dX11_tellPlace_76 (fun s123 es123 hI => ?_)
      replace E := zLet_s es123 E
      have g124 := (zSame.rf (o := a0) (Wf := []) (Wa := [123]) (L := L) (kd := kd) (σ := t117)).a ha0 hv114 es123 rfl (by decide)
      have fs123_11 : (s123.1 a0 11).toInt = (t117.1 a0 11).toInt := by rw [g124.2.1 11 (by decide)]
      have fs123_13 : (s123.1 a0 13).toInt = (t117.1 a0 13).toInt := by rw [g124.2.1 13 (by decide)]
      have fs123_15 : (s123.1 a0 15).toInt = (t117.1 a0 15).toInt := by rw [g124.2.1 15 (by decide)]
      have fs123_18 : (s123.1 a0 18).toInt = (t117.1 a0 18).toInt := by rw [g124.2.1 18 (by decide)]
      have fs123_19 : (s123.1 a0 19).toInt = (t117.1 a0 19).toInt := by rw [g124.2.1 19 (by decide)]
      have fs123_41 : (s123.1 a0 41).toInt = (t117.1 a0 41).toInt := by rw [g124.2.1 41 (by decide)]
      have fs123_42 : (s123.1 a0 42).toInt = (t117.1 a0 42).toInt := by rw [g124.2.1 42 (by decide)]
      have hS := hS.tr g124 (by decide) (by decide)
      have as123_21 := (zp_same hI ha0 g124 21 rfl (by decide) (by decide)).trans at117_21
      have as123_22 := (zp_same hI ha0 g124 22 rfl (by decide) (by decide)).trans at117_22
      have gNs123 := gN.same hI ha0 g124 (by decide) gNt117
      have gHs123 := gH.same hI ha0 g124 (by decide) gHt117
      have gEs123 := gE.same hI ha0 g124 (by decide) gEt117
      have gLs123 := gL.same hI ha0 g124 (by decide) gLt117
      have e125 := g124.v e121 (by decide)
      have e126 := g124.v e122 (by decide)
      refine zg_aload_n X 3 rfl dX11_tellPlace_77 ?_
      refine fg_X11_52 X hI ha0 dX11_tellPlace_78 (fun v127 ev127 hv127 => ?_)
      replace E := zLet_s (zgr ev127) E
      refine zg_iload_n X 2 rfl dX11_tellPlace_81 ?_
      refine zg_aload_n X 3 rfl dX11_tellPlace_82 ?_
      refine zg_iconst X 0 dX11_tellPlace_83 (by decide) (fun v128 _ hv128 => ?_)
      replace E := zLet_s (zcst hv128 (by decide)) E
      refine zg_bipush X 99 dX11_tellPlace_84 (by decide) (fun v129 _ hv129 => ?_)
      replace E := zLet_s (zcst hv129 (by decide)) E
      refine zg_cVi (As := [.int v128, .int v129]) (st := [.int v7, .ref v127]) X ha0 rfl (by decide) rfl (t_X11_bounded l d L kd κ _ hI a0 ha0 v128 v129  ) mk_X11_270 mc_X11_bounded mz_X11 mi_X11_bounded ml_X11_bounded (na := 2) ⟨md_X11.1, md_X11.2, by decide +kernel⟩ rfl ⟨by decide, by decide⟩ (Nat.le_of_ble_eq_true rfl) dX11_tellPlace_86 (fun v131 t130 hq => ?_)
      obtain ⟨hF, ⟨ht130_fact0, ht130_fact1⟩, hI, g132⟩ := hq
      replace E := zLet2_s hF E
      have ft130_18 : (t130.1 a0 18).toInt = (s123.1 a0 18).toInt := by rw [g132.2.1 18 (by decide)]
      have ft130_19 : (t130.1 a0 19).toInt = (s123.1 a0 19).toInt := by rw [g132.2.1 19 (by decide)]
      have ft130_41 : (t130.1 a0 41).toInt = (s123.1 a0 41).toInt := by rw [g132.2.1 41 (by decide)]
      have ft130_42 : (t130.1 a0 42).toInt = (s123.1 a0 42).toInt := by rw [g132.2.1 42 (by decide)]
      have hS := hS.tr g132 (by decide) (by decide)
      have at130_21 := (zp_same hI ha0 g132 21 rfl (by decide) (by decide)).trans as123_21
      have at130_22 := (zp_same hI ha0 g132 22 rfl (by decide) (by decide)).trans as123_22
      have gNt130 := gN.same hI ha0 g132 (by decide) gNs123
      have gHt130 := gH.same hI ha0 g132 (by decide) gHs123
      have gEt130 := gE.same hI ha0 g132 (by decide) gEs123
      have gLt130 := gL.same hI ha0 g132 (by decide) gLs123
      have e134 := g132.v e125 (by decide)
      have e135 := g132.v e126 (by decide)
      replace zbd : zHide ((1 ≤ (σ.1 a0 15).toInt → 1 ≤ (t130.1 a0 15).toInt) ∧ (0 ≤ (σ.1 a0 15).toInt → 0 ≤ (t130.1 a0 15).toInt)) := zHide.mk ⟨fun z => ht130_fact1.1 (by have y := zbd.un.1 z; omega), fun z => ht130_fact1.2 (by have y := zbd.un.2 z; omega)⟩
      replace zv : zHide (x22 < 0 → 1 ≤ (t130.1 a0 15).toInt) := zHide.mk (fun z => ht130_fact1.1 (by have y := zv.un z; omega))
      clear ht130_fact1
      refine as_124 X hI hv127 (by omega) (by omega) dX11_tellPlace_89 (fun s136 es136 hI => ?_)
      replace E := zLet_s es136 E
      have g137 := (zSame.rf (o := a0) (Wf := []) (Wa := [124]) (L := L) (kd := kd) (σ := t130)).a ha0 hv127 es136 rfl (by decide)
      have fs136_11 : (s136.1 a0 11).toInt = (t130.1 a0 11).toInt := by rw [g137.2.1 11 (by decide)]
      have fs136_13 : (s136.1 a0 13).toInt = (t130.1 a0 13).toInt := by rw [g137.2.1 13 (by decide)]
      have fs136_15 : (s136.1 a0 15).toInt = (t130.1 a0 15).toInt := by rw [g137.2.1 15 (by decide)]
      have fs136_18 : (s136.1 a0 18).toInt = (t130.1 a0 18).toInt := by rw [g137.2.1 18 (by decide)]
      have fs136_19 : (s136.1 a0 19).toInt = (t130.1 a0 19).toInt := by rw [g137.2.1 19 (by decide)]
      have fs136_41 : (s136.1 a0 41).toInt = (t130.1 a0 41).toInt := by rw [g137.2.1 41 (by decide)]
      have fs136_42 : (s136.1 a0 42).toInt = (t130.1 a0 42).toInt := by rw [g137.2.1 42 (by decide)]
      have hS := hS.tr g137 (by decide) (by decide)
      have as136_21 := (zp_same hI ha0 g137 21 rfl (by decide) (by decide)).trans at130_21
      have as136_22 := (zp_same hI ha0 g137 22 rfl (by decide) (by decide)).trans at130_22
      have gNs136 := gN.same hI ha0 g137 (by decide) gNt130
      have gHs136 := gH.same hI ha0 g137 (by decide) gHt130
      have gEs136 := gE.same hI ha0 g137 (by decide) gEt130
      have gLs136 := gL.same hI ha0 g137 (by decide) gLt130
      have e138 := g137.v e134 (by decide)
      have e139 := g137.v e135 (by decide)
      refine zg_aload_n X 3 rfl dX11_tellPlace_90 ?_
      refine fg_X11_55 X hI ha0 dX11_tellPlace_91 (fun v140 ev140 hv140 => ?_)
      replace E := zLet_s (zgr ev140) E
      refine zg_iload_n X 2 rfl dX11_tellPlace_94 ?_
      refine zg_aload_n X 3 rfl dX11_tellPlace_95 ?_
      refine zg_iconst X 0 dX11_tellPlace_96 (by decide) (fun v141 _ hv141 => ?_)
      replace E := zLet_s (zcst hv141 (by decide)) E
      refine zg_bipush X 99 dX11_tellPlace_97 (by decide) (fun v142 _ hv142 => ?_)
      replace E := zLet_s (zcst hv142 (by decide)) E
      refine zg_cVi (As := [.int v141, .int v142]) (st := [.int v7, .ref v140]) X ha0 rfl (by decide) rfl (t_X11_bounded l d L kd κ _ hI a0 ha0 v141 v142  ) mk_X11_270 mc_X11_bounded mz_X11 mi_X11_bounded ml_X11_bounded (na := 2) ⟨md_X11.1, md_X11.2, by decide +kernel⟩ rfl ⟨by decide, by decide⟩ (Nat.le_of_ble_eq_true rfl) dX11_tellPlace_99 (fun v144 t143 hq => ?_)
      obtain ⟨hF, ⟨ht143_fact0, ht143_fact1⟩, hI, g145⟩ := hq
      replace E := zLet2_s hF E
      have ft143_18 : (t143.1 a0 18).toInt = (s136.1 a0 18).toInt := by rw [g145.2.1 18 (by decide)]
      have ft143_19 : (t143.1 a0 19).toInt = (s136.1 a0 19).toInt := by rw [g145.2.1 19 (by decide)]
      have ft143_41 : (t143.1 a0 41).toInt = (s136.1 a0 41).toInt := by rw [g145.2.1 41 (by decide)]
      have ft143_42 : (t143.1 a0 42).toInt = (s136.1 a0 42).toInt := by rw [g145.2.1 42 (by decide)]
      have hS := hS.tr g145 (by decide) (by decide)
      have at143_21 := (zp_same hI ha0 g145 21 rfl (by decide) (by decide)).trans as136_21
      have at143_22 := (zp_same hI ha0 g145 22 rfl (by decide) (by decide)).trans as136_22
      have gNt143 := gN.same hI ha0 g145 (by decide) gNs136
      have gHt143 := gH.same hI ha0 g145 (by decide) gHs136
      have gEt143 := gE.same hI ha0 g145 (by decide) gEs136
      have gLt143 := gL.same hI ha0 g145 (by decide) gLs136
      have e147 := g145.v e138 (by decide)
      have e148 := g145.v e139 (by decide)
      replace zbd : zHide ((1 ≤ (σ.1 a0 15).toInt → 1 ≤ (t143.1 a0 15).toInt) ∧ (0 ≤ (σ.1 a0 15).toInt → 0 ≤ (t143.1 a0 15).toInt)) := zHide.mk ⟨fun z => ht143_fact1.1 (by have y := zbd.un.1 z; omega), fun z => ht143_fact1.2 (by have y := zbd.un.2 z; omega)⟩
      replace zv : zHide (x22 < 0 → 1 ≤ (t143.1 a0 15).toInt) := zHide.mk (fun z => ht143_fact1.1 (by have y := zv.un z; omega))
      clear ht143_fact1
      refine as_125 X hI hv140 (by omega) (by omega) dX11_tellPlace_102 (fun s149 es149 hI => ?_)
      replace E := zLet_s es149 E
      have g150 := (zSame.rf (o := a0) (Wf := []) (Wa := [125]) (L := L) (kd := kd) (σ := t143)).a ha0 hv140 es149 rfl (by decide)
      have fs149_11 : (s149.1 a0 11).toInt = (t143.1 a0 11).toInt := by rw [g150.2.1 11 (by decide)]
      have fs149_13 : (s149.1 a0 13).toInt = (t143.1 a0 13).toInt := by rw [g150.2.1 13 (by decide)]
      have fs149_15 : (s149.1 a0 15).toInt = (t143.1 a0 15).toInt := by rw [g150.2.1 15 (by decide)]
      have fs149_18 : (s149.1 a0 18).toInt = (t143.1 a0 18).toInt := by rw [g150.2.1 18 (by decide)]
      have fs149_19 : (s149.1 a0 19).toInt = (t143.1 a0 19).toInt := by rw [g150.2.1 19 (by decide)]
      have fs149_41 : (s149.1 a0 41).toInt = (t143.1 a0 41).toInt := by rw [g150.2.1 41 (by decide)]
      have fs149_42 : (s149.1 a0 42).toInt = (t143.1 a0 42).toInt := by rw [g150.2.1 42 (by decide)]
      have hS := hS.tr g150 (by decide) (by decide)
      have as149_21 := (zp_same hI ha0 g150 21 rfl (by decide) (by decide)).trans at143_21
      have as149_22 := (zp_same hI ha0 g150 22 rfl (by decide) (by decide)).trans at143_22
      have gNs149 := gN.same hI ha0 g150 (by decide) gNt143
      have gHs149 := gH.same hI ha0 g150 (by decide) gHt143
      have gEs149 := gE.same hI ha0 g150 (by decide) gEt143
      have gLs149 := gL.same hI ha0 g150 (by decide) gLt143
      have e151 := g150.v e147 (by decide)
      have e152 := g150.v e148 (by decide)
      refine zg_aload_n X 3 rfl dX11_tellPlace_103 ?_
      refine zg_iconst X 4 dX11_tellPlace_104 (by decide) (fun v153 _ hv153 => ?_)
      replace E := zLet_s (zcst hv153 (by decide)) E
      refine zg_cVv (As := [.int v153]) (st := []) X ha0 rfl (by decide) rfl (t_X11_must l d L kd κ _ hI a0 ha0 v153  ) mk_X11_274 mc_X11_must mz_X11 mi_X11_must ml_X11_must (na := 1) ⟨md_X11.1, md_X11.2, by decide +kernel⟩ rfl ⟨by decide, by decide⟩ (Nat.le_of_ble_eq_true rfl) dX11_tellPlace_105 (fun t154 hq => ?_)
      obtain ⟨hF, ht154_fact0, hI, g155⟩ := hq
      replace E := zLet_s hF E
      have ft154_15 : (t154.1 a0 15).toInt = (s149.1 a0 15).toInt := by rw [g155.2.1 15 (by decide)]
      have ft154_18 : (t154.1 a0 18).toInt = (s149.1 a0 18).toInt := by rw [g155.2.1 18 (by decide)]
      have ft154_19 : (t154.1 a0 19).toInt = (s149.1 a0 19).toInt := by rw [g155.2.1 19 (by decide)]
      have ft154_41 : (t154.1 a0 41).toInt = (s149.1 a0 41).toInt := by rw [g155.2.1 41 (by decide)]
      have ft154_42 : (t154.1 a0 42).toInt = (s149.1 a0 42).toInt := by rw [g155.2.1 42 (by decide)]
      have hS := hS.tr g155 (by decide) (by decide)
      have at154_21 := (zp_same hI ha0 g155 21 rfl (by decide) (by decide)).trans as149_21
      have at154_22 := (zp_same hI ha0 g155 22 rfl (by decide) (by decide)).trans as149_22
      have gNt154 := gN.same hI ha0 g155 (by decide) gNs149
      have gHt154 := gH.same hI ha0 g155 (by decide) gHs149
      have gEt154 := gE.same hI ha0 g155 (by decide) gEs149
      have gLt154 := gL.same hI ha0 g155 (by decide) gLs149
      have e156 := g155.v e151 (by decide)
      have e157 := g155.v e152 (by decide)
      refine zg_aload_n X 3 rfl dX11_tellPlace_108 ?_
      refine fg_X11_206 X hI ha0 dX11_tellPlace_109 (fun v158 ev158 hv158 => ?_)
      replace E := zLet_s ev158 E
      have kv158 : (t154.1 a0 13).toInt = v158.toInt := by rw [ev158]
      refine zg_if_le X 116 dX11_tellPlace_112 (by decide) (fun c159 => ?_) (fun c159 => ?_)
      · skip
        replace E := zIf_f (Int.not_lt.mpr c159) E
        refine zg_aload_n X 3 rfl dX11_tellPlace_116 ?_
        refine zg_dup X dX11_tellPlace_117 rfl ?_
        refine fg_X11_252 X hI ha0 dX11_tellPlace_118 (fun v160 ev160 hv160 => ?_)
        replace E := zLet_s ev160 E
        have kv160 : (t154.1 a0 42).toInt = v160.toInt := by rw [ev160]
        have mv160 : v160.toInt = v4.toInt := by rw [ev160, ← e157]
        refine zg_iconst X 1 dX11_tellPlace_121 (by decide) (fun v161 _ hv161 => ?_)
        replace E := zLet_s (zcst hv161 (by decide)) E
        refine zg_iadd X dX11_tellPlace_122 (by omega) (by omega) (fun v162 ev162 hv162 => ?_)
        replace E := zLet_s ev162 E
        refine fp_X11_252 X hI ha0 ⟨by omega, by omega⟩ dX11_tellPlace_123 (fun s163 es163 hI => ?_)
        replace E := zLet_s es163 E
        have g164 := (zSame.rf (o := a0) (Wf := [42]) (Wa := []) (L := L) (kd := kd) (σ := t154)).f ha0 es163 rfl
        have fs163_11 : (s163.1 a0 11).toInt = (t154.1 a0 11).toInt := by rw [g164.2.1 11 (by decide)]
        have fs163_13 : (s163.1 a0 13).toInt = (t154.1 a0 13).toInt := by rw [g164.2.1 13 (by decide)]
        have fs163_15 : (s163.1 a0 15).toInt = (t154.1 a0 15).toInt := by rw [g164.2.1 15 (by decide)]
        have fs163_18 : (s163.1 a0 18).toInt = (t154.1 a0 18).toInt := by rw [g164.2.1 18 (by decide)]
        have fs163_19 : (s163.1 a0 19).toInt = (t154.1 a0 19).toInt := by rw [g164.2.1 19 (by decide)]
        have fs163_41 : (s163.1 a0 41).toInt = (t154.1 a0 41).toInt := by rw [g164.2.1 41 (by decide)]
        have hS := hS.tr g164 (by decide) (by decide)
        have as163_21 := (zp_same hI ha0 g164 21 rfl (by decide) (by decide)).trans at154_21
        have as163_22 := (zp_same hI ha0 g164 22 rfl (by decide) (by decide)).trans at154_22
        have gNs163 := gN.same hI ha0 g164 (by decide) gNt154
        have gHs163 := gH.same hI ha0 g164 (by decide) gHt154
        have gEs163 := gE.same hI ha0 g164 (by decide) gEt154
        have gLs163 := gL.same hI ha0 g164 (by decide) gLt154
        have e165 := g164.v e156 (by decide)
        have fs163_42 : (s163.1 a0 42).toInt = v162.toInt := by rw [es163]; exact congrArg _ (zu_s _ _ _ _)
        have e167 : v162 = s163.1 a0 42 := by rw [es163]; exact zm_s
        refine zg_aload_n X 3 rfl dX11_tellPlace_126 ?_
        refine fg_X11_40 X hI ha0 dX11_tellPlace_127 (fun v168 ev168 hv168 => ?_)
        replace E := zLet_s (zgr ev168) E
        refine zg_aload_n X 3 rfl dX11_tellPlace_130 ?_
        refine fg_X11_252 X hI ha0 dX11_tellPlace_131 (fun v169 ev169 hv169 => ?_)
        replace E := zLet_s ev169 E
        have kv169 : (s163.1 a0 42).toInt = v169.toInt := by rw [ev169]
        have mv169 : v169.toInt = v162.toInt := by rw [ev169, ← e167]
        refine zg_aload_n X 3 rfl dX11_tellPlace_134 ?_
        refine fg_X11_30 X hI ha0 dX11_tellPlace_135 (fun v170 ev170 hv170 => ?_)
        replace E := zLet_s (zgr ev170) E
        refine zg_iload_n X 1 rfl dX11_tellPlace_138 ?_
        refine ag_108 X hv170 (by omega) (by omega) dX11_tellPlace_139 (fun v171 ev171 => ?_)
        replace E := zLet_s ev171 E
        refine as_120 X hI hv168 (by omega) (by omega) dX11_tellPlace_140 (fun s172 es172 hI => ?_)
        replace E := zLet_s es172 E
        have g173 := (zSame.rf (o := a0) (Wf := []) (Wa := [120]) (L := L) (kd := kd) (σ := s163)).l hv168 es172 rfl
        have fs172_11 : (s172.1 a0 11).toInt = (s163.1 a0 11).toInt := by rw [g173.2.1 11 (by decide)]
        have fs172_13 : (s172.1 a0 13).toInt = (s163.1 a0 13).toInt := by rw [g173.2.1 13 (by decide)]
        have fs172_15 : (s172.1 a0 15).toInt = (s163.1 a0 15).toInt := by rw [g173.2.1 15 (by decide)]
        have fs172_18 : (s172.1 a0 18).toInt = (s163.1 a0 18).toInt := by rw [g173.2.1 18 (by decide)]
        have fs172_19 : (s172.1 a0 19).toInt = (s163.1 a0 19).toInt := by rw [g173.2.1 19 (by decide)]
        have fs172_41 : (s172.1 a0 41).toInt = (s163.1 a0 41).toInt := by rw [g173.2.1 41 (by decide)]
        have fs172_42 : (s172.1 a0 42).toInt = (s163.1 a0 42).toInt := by rw [g173.2.1 42 (by decide)]
        have hS := hS.tr g173 (by decide) (by decide)
        have as172_21 := (zp_same hI ha0 g173 21 rfl (by decide) (by decide)).trans as163_21
        have as172_22 := (zp_same hI ha0 g173 22 rfl (by decide) (by decide)).trans as163_22
        have gNs172 := gN.same hI ha0 g173 (by decide) gNs163
        have gHs172 := gH.same hI ha0 g173 (by decide) gHs163
        have gEs172 := gE.same hI ha0 g173 (by decide) gEs163
        have gLs172 := gL.same hI ha0 g173 (by decide) gLs163
        have e174 := g173.v e165 (by decide)
        have e176 := g173.v ev169 (by decide)
        refine zg_aload_n X 3 rfl dX11_tellPlace_141 ?_
        refine fg_X11_248 X hI ha0 dX11_tellPlace_142 (fun v177 ev177 hv177 => ?_)
        replace E := zLet_s ev177 E
        have kv177 : (s172.1 a0 41).toInt = v177.toInt := by rw [ev177]
        refine zg_if_eq X 163 dX11_tellPlace_145 (by decide) (fun c178 => ?_) (fun c178 => ?_)
        · skip
          replace E := zIf_t c178 E
          skip
          exact ret _ _ _ dX11_tellPlace_163 ⟨E.symm.trans hR, ⟨⟨(by omega), (fun _ => by
  obtain ⟨y1, y2, y3, y4⟩ := hgTr
  have q4 := zbd.un.2 y4
  unfold gTr
  rw [show (s172.1 a0 19).toInt = (σ.1 a0 19).toInt by omega, show (s172.1 a0 42).toInt = (σ.1 a0 42).toInt + 1 by omega]
  refine ⟨fun hw c h1 h2 => ?_, ?_, ?_, by omega⟩
  · have q1 : (σ.1 a0 15).toInt = 0 := Classical.byContradiction (fun n => by have := zbd.un.1 (by omega); omega)
    have q2 : 0 ≤ x22 := Classical.byContradiction (fun n => by have := zv.un (by omega); omega)
    rw [as172_22, ws24 _ (by omega)]
    split
    · omega
    · exact y1 q1 c h1 (by omega)
  · first | (refine Or.inr ?_; rw [rfl _ (by omega), if_pos (by omega)]; omega) | exact Or.inl (by rw [as172_21]; exact y3 (by omega))
  · first | (intro z; exfalso; omega) | (intro _; rw [as172_21]; exact y3 (by omega))), gNs172, gHs172, gEs172, gLs172⟩, hI, hS⟩⟩
        · skip
          replace E := zIf_f c178 E
          refine zg_aload_n X 3 rfl dX11_tellPlace_148 ?_
          refine fg_X11_43 X hI ha0 dX11_tellPlace_149 (fun v179 ev179 hv179 => ?_)
          replace E := zLet_s (zgr ev179) E
          refine zg_aload_n X 3 rfl dX11_tellPlace_152 ?_
          refine fg_X11_239 X hI ha0 dX11_tellPlace_153 (fun v180 ev180 hv180 => ?_)
          replace E := zLet_s ev180 E
          have kv180 : (s172.1 a0 19).toInt = v180.toInt := by rw [ev180]
          have mv180 : v180.toInt = v2.toInt := by rw [ev180, ← e174]
          refine zg_aload_n X 3 rfl dX11_tellPlace_156 ?_
          refine fg_X11_252 X hI ha0 dX11_tellPlace_157 (fun v181 ev181 hv181 => ?_)
          replace E := zLet_s ev181 E
          have kv181 : (s172.1 a0 42).toInt = v181.toInt := by rw [ev181]
          have mv181 : v181.toInt = v169.toInt := by rw [ev181, ← e176]
          refine zg_iconst X 1 dX11_tellPlace_160 (by decide) (fun v182 _ hv182 => ?_)
          replace E := zLet_s (zcst hv182 (by decide)) E
          refine zg_iadd X dX11_tellPlace_161 (by omega) (by omega) (fun v183 ev183 hv183 => ?_)
          replace E := zLet_s ev183 E
          refine as_121 X hI hv179 (by omega) (by omega) ⟨by omega, by omega⟩ dX11_tellPlace_162 (fun s184 es184 hI => ?_)
          replace E := zLet_s es184 E
          have g185 := (zSame.rf (o := a0) (Wf := []) (Wa := [121]) (L := L) (kd := kd) (σ := s172)).a ha0 hv179 es184 rfl (by decide)
          have rs184 := zp_st (σ := s172) (σ2 := s184) (i := v180) (x := v183) ev179 es184 (by omega)
          have ws184 := rs184
          rw [as172_21] at ws184
          rw [← kv180] at ws184
          have fs184_11 : (s184.1 a0 11).toInt = (s172.1 a0 11).toInt := by rw [g185.2.1 11 (by decide)]
          have fs184_13 : (s184.1 a0 13).toInt = (s172.1 a0 13).toInt := by rw [g185.2.1 13 (by decide)]
          have fs184_15 : (s184.1 a0 15).toInt = (s172.1 a0 15).toInt := by rw [g185.2.1 15 (by decide)]
          have fs184_18 : (s184.1 a0 18).toInt = (s172.1 a0 18).toInt := by rw [g185.2.1 18 (by decide)]
          have fs184_19 : (s184.1 a0 19).toInt = (s172.1 a0 19).toInt := by rw [g185.2.1 19 (by decide)]
          have fs184_41 : (s184.1 a0 41).toInt = (s172.1 a0 41).toInt := by rw [g185.2.1 41 (by decide)]
          have fs184_42 : (s184.1 a0 42).toInt = (s172.1 a0 42).toInt := by rw [g185.2.1 42 (by decide)]
          have hS := hS.tr g185 (by decide) (by decide)
          have as184_22 := (zp_same hI ha0 g185 22 rfl (by decide) (by decide)).trans as172_22
          have gLs184 := gL.same hI ha0 g185 (by decide) gLs172
          have zME : zM a0 s184 = zM a0 σ := by unfold zM; rw [show (s184.1 a0 18).toInt = (σ.1 a0 18).toInt by omega, ws184 _ (by omega), if_neg (by omega)]
          have gN9 := gN.sm hI ha0 hS zME (by decide) hgN
          have gH9 := gH.sm hI ha0 hS zME (by decide) hgH
          have gE9 := gE.sm hI ha0 hS zME (by decide) hgE
          exact ret _ _ _ dX11_tellPlace_163 ⟨E.symm.trans hR, ⟨⟨(by omega), (fun _ => by
  obtain ⟨y1, y2, y3, y4⟩ := hgTr
  have q4 := zbd.un.2 y4
  unfold gTr
  rw [show (s184.1 a0 19).toInt = (σ.1 a0 19).toInt by omega, show (s184.1 a0 42).toInt = (σ.1 a0 42).toInt + 1 by omega]
  refine ⟨fun hw c h1 h2 => ?_, ?_, ?_, by omega⟩
  · have q1 : (σ.1 a0 15).toInt = 0 := Classical.byContradiction (fun n => by have := zbd.un.1 (by omega); omega)
    have q2 : 0 ≤ x22 := Classical.byContradiction (fun n => by have := zv.un (by omega); omega)
    rw [as184_22, ws24 _ (by omega)]
    split
    · omega
    · exact y1 q1 c h1 (by omega)
  · first | (refine Or.inr ?_; rw [ws184 _ (by omega), if_pos (by omega)]; omega) | exact Or.inl (by rw [rfl]; exact y3 (by omega))
  · first | (intro z; exfalso; omega) | (intro _; rw [rfl]; exact y3 (by omega))), gN9, gH9, gE9, gLs184⟩, hI, hS⟩⟩
      · skip
        replace E := zIf_t c159 E
        exact ret _ _ _ dX11_tellPlace_115 ⟨E.symm.trans hR, ⟨⟨(by omega), (fun h0 => by exfalso; omega), gNt154, gHt154, gEt154, gLt154⟩, hI, hS⟩⟩
  · skip
    replace E := zIf_t c20 E
    exact ret _ _ _ dX11_tellPlace_37 ⟨E.symm.trans hR, ⟨⟨(by omega), (fun h0 => by exfalso; omega), gNt15, gHt15, gEt15, gLt15⟩, hI, hS⟩⟩
