set_option maxHeartbeats 4000000 in
set_option maxRecDepth 100000 in
theorem t_X11_tellOne (l : Launch) (d : zD2) (L : List Nat) (kd : Nat → Nat) (κ : Int) (σ : zS) (hI : zJ κ L kd σ) (a0 : Nat) (ha0 : zT L kd a0 11) (hq0 : (σ.1 a0 19).toInt + (σ.1 a0 18).toInt = 1) (hq1 : (σ.1 a0 13).toInt = 0) (hq2 : (σ.1 a0 12).toInt = 0) (hq3 : (420 * (σ.1 a0 19).toInt ≤ (σ.1 a0 38).toInt ∧ (σ.1 a0 38).toInt ≤ 420 * (σ.1 a0 19).toInt + (σ.1 a0 11).toInt ∧ 130 * (σ.1 a0 19).toInt ≤ (σ.1 a0 32).toInt ∧ 4 * ((σ.1 a0 32).toInt - 130 * (σ.1 a0 19).toInt) ≤ (σ.1 a0 11).toInt)) (hgN : gN a0 σ) (hgH : gH a0 σ) (hgE : gE a0 σ) (hgL : gL a0 σ) (hgP : gP a0 σ) (hgTr : gTr a0 σ) (hgK : gK a0 σ) : zMv l yX11_tellOne (Cond.code yX11_tellOne cX11_tellOne 2 none :: zWL) 6 [.ref a0] d L kd σ (fun σ2 => σ2 = F_X11_tellOne a0 σ ∧ (((((σ.1 a0 11).toInt ≤ (σ2.1 a0 11).toInt ∧ (1 ≤ (σ2.1 a0 13).toInt ∨ ((σ2.1 a0 13).toInt = 0 ∧ (σ.1 a0 11).toInt < (σ2.1 a0 11).toInt ∧ (σ2.1 a0 12).toInt = 0 ∧ (420 * (σ.1 a0 19).toInt ≤ (σ2.1 a0 38).toInt ∧ (σ2.1 a0 38).toInt ≤ 420 * (σ.1 a0 19).toInt + (σ2.1 a0 11).toInt ∧ 130 * (σ.1 a0 19).toInt ≤ (σ2.1 a0 32).toInt ∧ 4 * ((σ2.1 a0 32).toInt - 130 * (σ.1 a0 19).toInt) ≤ (σ2.1 a0 11).toInt))))) ∧ (((σ2.1 a0 13).toInt = 0 → gP a0 σ2)) ∧ (((σ2.1 a0 13).toInt = 0 → gTr a0 σ2)) ∧ (zLkp a0 σ σ2) ∧ (gN a0 σ2) ∧ (gH a0 σ2) ∧ (gE a0 σ2) ∧ (gL a0 σ2)) ∧ zJ κ L kd σ2 ∧ zSame a0 [11, 12, 13, 14, 15, 16, 32, 38, 41, 42, 44] [120, 121, 122, 123, 124, 125, 126, 127, 128, 129, 130, 131, 133, 134, 135, 136, 137, 139, 140, 143] L kd σ σ2)) := by
  refine zMv.of (own := RX11) (by decide +kernel) rfl rfl (Nat.le_of_ble_eq_true rfl) ?_
  intro p e s m args below meth c A Q X ret
  have hS : zSame a0 [11, 12, 13, 14, 15, 16, 32, 38, 41, 42, 44] [120, 121, 122, 123, 124, 125, 126, 127, 128, 129, 130, 131, 133, 134, 135, 136, 137, 139, 140, 143] L kd σ σ := zSame.rf
  refine zg_lv (lv2 := [(0, .ref a0)]) rfl ?_
  have z11 : 0 ≤ (σ.1 a0 11).toInt ∧ (σ.1 a0 11).toInt ≤ 400 := zj_get hI ha0 rfl
  have z12 : 0 ≤ (σ.1 a0 12).toInt ∧ (σ.1 a0 12).toInt ≤ 7 := zj_get hI ha0 rfl
  have z13 : 0 ≤ (σ.1 a0 13).toInt ∧ (σ.1 a0 13).toInt ≤ 2147483647 := zj_get hI ha0 rfl
  have z18 : 0 ≤ (σ.1 a0 18).toInt ∧ (σ.1 a0 18).toInt ≤ 1 := zj_get hI ha0 rfl
  have z19 : 0 ≤ (σ.1 a0 19).toInt ∧ (σ.1 a0 19).toInt ≤ 1 := zj_get hI ha0 rfl
  have z32 : 0 ≤ (σ.1 a0 32).toInt ∧ (σ.1 a0 32).toInt ≤ 260 := zj_get hI ha0 rfl
  have z38 : 0 ≤ (σ.1 a0 38).toInt ∧ (σ.1 a0 38).toInt ≤ 840 := zj_get hI ha0 rfl
  have z41 : 0 ≤ (σ.1 a0 41).toInt ∧ (σ.1 a0 41).toInt ≤ 1 := zj_get hI ha0 rfl
  have z42 : 0 ≤ (σ.1 a0 42).toInt ∧ (σ.1 a0 42).toInt ≤ 11 := zj_get hI ha0 rfl
  obtain ⟨R, hR⟩ : ∃ R, R = F_X11_tellOne a0 σ := ⟨_, rfl⟩
  have E := hR
  unfold F_X11_tellOne at E
  refine zg_aload_n X 0 rfl dX11_tellOne_0 ?_
  refine fg_X11_20 X hI ha0 dX11_tellOne_1 (fun v1 ev1 hv1 => ?_)
  replace E := zLet_s (zgr ev1) E
  refine zg_aload_n X 0 rfl dX11_tellOne_4 ?_
  refine fg_X11_209 X hI ha0 dX11_tellOne_5 (fun v2 ev2 hv2 => ?_)
  replace E := zLet_s ev2 E
  have kv2 : (σ.1 a0 11).toInt = v2.toInt := by rw [ev2]
  refine ag_105 X hI hv1 (by omega) (by omega) dX11_tellOne_8 (fun v3 ev3 _ => ?_)
  replace E := zLet_s ev3 E
  have qv3 := zp_ld ev1 ev3
  rw [← kv2] at qv3
  have zk9 := hgK (σ.1 a0 11).toInt (by omega)
  by_cases q4 : v3.toInt = 20
  · refine zg_tabIn X 64 20 dX11_tellOne_9 q4 (by decide) (by decide) rfl (by decide) ?_
    replace E := zIf_t q4 E
    refine zg_aload_n X 0 rfl dX11_tellOne_64 ?_
    refine fg_X11_248 X hI ha0 dX11_tellOne_65 (fun v5 ev5 hv5 => ?_)
    replace E := zLet_s ev5 E
    have kv5 : (σ.1 a0 41).toInt = v5.toInt := by rw [ev5]
    refine zg_if_eq X 76 dX11_tellOne_68 (by decide) (fun c6 => ?_) (fun c6 => ?_)
    · skip
      replace E := zIf_t c6 E
      refine zg_aload_n X 0 rfl dX11_tellOne_76 ?_
      refine fg_X11_206 X hI ha0 dX11_tellOne_77 (fun v7 ev7 hv7 => ?_)
      replace E := zLet_s ev7 E
      have kv7 : (σ.1 a0 13).toInt = v7.toInt := by rw [ev7]
      refine zg_if_le X 84 dX11_tellOne_80 (by decide) (fun c8 => ?_) (fun c8 => ?_)
      · skip
        replace E := zIf_f (Int.not_lt.mpr c8) E
        refine zg_aload_n X 0 rfl dX11_tellOne_84 ?_
        refine zg_cVv (As := []) (st := []) X ha0 rfl (by decide) rfl (t_X11_goesOn l d L kd κ _ hI a0 ha0   ) mk_X11_227 mc_X11_goesOn mz_X11 mi_X11_goesOn ml_X11_goesOn (na := 0) ⟨md_X11.1, md_X11.2, by decide +kernel⟩ rfl ⟨by decide, by decide⟩ (Nat.le_of_ble_eq_true rfl) dX11_tellOne_85 (fun t9 hq => ?_)
        obtain ⟨hF, ht9_fact0, hI, g10⟩ := hq
        replace E := zLet_s hF E
        have ft9_12 : (t9.1 a0 12).toInt = (σ.1 a0 12).toInt := by rw [g10.2.1 12 (by decide)]
        have ft9_15 : (t9.1 a0 15).toInt = (σ.1 a0 15).toInt := by rw [g10.2.1 15 (by decide)]
        have ft9_18 : (t9.1 a0 18).toInt = (σ.1 a0 18).toInt := by rw [g10.2.1 18 (by decide)]
        have ft9_19 : (t9.1 a0 19).toInt = (σ.1 a0 19).toInt := by rw [g10.2.1 19 (by decide)]
        have ft9_32 : (t9.1 a0 32).toInt = (σ.1 a0 32).toInt := by rw [g10.2.1 32 (by decide)]
        have ft9_38 : (t9.1 a0 38).toInt = (σ.1 a0 38).toInt := by rw [g10.2.1 38 (by decide)]
        have ft9_41 : (t9.1 a0 41).toInt = (σ.1 a0 41).toInt := by rw [g10.2.1 41 (by decide)]
        have ft9_42 : (t9.1 a0 42).toInt = (σ.1 a0 42).toInt := by rw [g10.2.1 42 (by decide)]
        have hS := hS.tr g10 (by decide) (by decide)
        have at9_30 := zp_same hI ha0 g10 30 rfl (by decide) (by decide)
        have at9_31 := zp_same hI ha0 g10 31 rfl (by decide) (by decide)
        have at9_33 := zp_same hI ha0 g10 33 rfl (by decide) (by decide)
        have at9_34 := zp_same hI ha0 g10 34 rfl (by decide) (by decide)
        have at9_35 := zp_same hI ha0 g10 35 rfl (by decide) (by decide)
        have at9_36 := zp_same hI ha0 g10 36 rfl (by decide) (by decide)
        have at9_37 := zp_same hI ha0 g10 37 rfl (by decide) (by decide)
        have at9_39 := zp_same hI ha0 g10 39 rfl (by decide) (by decide)
        have at9_40 := zp_same hI ha0 g10 40 rfl (by decide) (by decide)
        have gNt9 := gN.same hI ha0 g10 (by decide) hgN
        have gHt9 := gH.same hI ha0 g10 (by decide) hgH
        have gEt9 := gE.same hI ha0 g10 (by decide) hgE
        have gLt9 := gL.same hI ha0 g10 (by decide) hgL
        have gPt9 := gP.same hI ha0 g10 (by decide) hgP
        have gTrt9 := gTr.same hI ha0 g10 (by decide) hgTr
        refine zg_aload_n X 0 rfl dX11_tellOne_88 ?_
        refine zg_cVv (As := []) (st := []) X ha0 rfl (by decide) rfl (t_X11_tellMouth l d L kd κ _ hI a0 ha0   (by omega) gNt9 gHt9 gEt9 gLt9 gTrt9) mk_X11_264 mc_X11_tellMouth mz_X11 mi_X11_tellMouth ml_X11_tellMouth (na := 0) ⟨md_X11.1, md_X11.2, by decide +kernel⟩ rfl ⟨by decide, by decide⟩ (Nat.le_of_ble_eq_true rfl) dX11_tellOne_89 (fun t12 hq => ?_)
        obtain ⟨hF, ⟨ht12_fact0, ht12_fact1, gNt12, gHt12, gEt12, gLt12⟩, hI, g13⟩ := hq
        replace E := zLet_s hF E
        have ft12_12 : (t12.1 a0 12).toInt = (t9.1 a0 12).toInt := by rw [g13.2.1 12 (by decide)]
        have ft12_18 : (t12.1 a0 18).toInt = (t9.1 a0 18).toInt := by rw [g13.2.1 18 (by decide)]
        have ft12_19 : (t12.1 a0 19).toInt = (t9.1 a0 19).toInt := by rw [g13.2.1 19 (by decide)]
        have ft12_32 : (t12.1 a0 32).toInt = (t9.1 a0 32).toInt := by rw [g13.2.1 32 (by decide)]
        have ft12_38 : (t12.1 a0 38).toInt = (t9.1 a0 38).toInt := by rw [g13.2.1 38 (by decide)]
        have ft12_42 : (t12.1 a0 42).toInt = (t9.1 a0 42).toInt := by rw [g13.2.1 42 (by decide)]
        have hS := hS.tr g13 (by decide) (by decide)
        have at12_30 := (zp_same hI ha0 g13 30 rfl (by decide) (by decide)).trans at9_30
        have at12_31 := (zp_same hI ha0 g13 31 rfl (by decide) (by decide)).trans at9_31
        have at12_33 := (zp_same hI ha0 g13 33 rfl (by decide) (by decide)).trans at9_33
        have at12_34 := (zp_same hI ha0 g13 34 rfl (by decide) (by decide)).trans at9_34
        have at12_35 := (zp_same hI ha0 g13 35 rfl (by decide) (by decide)).trans at9_35
        have at12_36 := (zp_same hI ha0 g13 36 rfl (by decide) (by decide)).trans at9_36
        have at12_37 := (zp_same hI ha0 g13 37 rfl (by decide) (by decide)).trans at9_37
        have at12_39 := (zp_same hI ha0 g13 39 rfl (by decide) (by decide)).trans at9_39
        have at12_40 := (zp_same hI ha0 g13 40 rfl (by decide) (by decide)).trans at9_40
        have gLt12 := gL.same hI ha0 g13 (by decide) gLt9
        have gPt12 := gP.same hI ha0 g13 (by decide) gPt9
        have zgt := ht12_fact1
        clear ht12_fact1
        refine zg_goto X 282 dX11_tellOne_92 (by decide) ?_
        exact ret _ _ _ dX11_tellOne_282 ⟨E.symm.trans hR, ⟨⟨(by omega), (fun h0 => by first | exact gPt12 | exact zgp h0), (fun h0 => by first | exact True.intro | exact zgt h0), (by first | exact zlk0.tr zgk (by omega) | exact zLkp.eq at12_30 at12_31 at12_33 at12_34 at12_35 at12_36 at12_37 at12_39 at12_40), gNt12, gHt12, gEt12, gLt12⟩, hI, hS⟩⟩
      · skip
        replace E := zIf_t c8 E
        exact ret _ _ _ dX11_tellOne_83 ⟨E.symm.trans hR, ⟨⟨(by omega), (fun h0 => by exfalso; omega), (fun h0 => by exfalso; omega), (by first | exact zlk0.tr zgk (by omega) | exact zLkp.eq rfl rfl rfl rfl rfl rfl rfl rfl rfl), hgN, hgH, hgE, hgL⟩, hI, hS⟩⟩
    · skip
      replace E := zIf_f c6 E
      refine zg_aload_n X 0 rfl dX11_tellOne_71 ?_
      refine zg_iconst X 2 dX11_tellOne_72 (by decide) (fun v14 _ hv14 => ?_)
      replace E := zLet_s (zcst hv14 (by decide)) E
      refine zg_cVv (As := [.int v14]) (st := []) X ha0 rfl (by decide) rfl (t_X11_fail l d L kd κ _ hI a0 ha0 v14  (by omega)) mk_X11_221 mc_X11_fail mz_X11 mi_X11_fail ml_X11_fail (na := 1) ⟨md_X11.1, md_X11.2, by decide +kernel⟩ rfl ⟨by decide, by decide⟩ (Nat.le_of_ble_eq_true rfl) dX11_tellOne_73 (fun t15 hq => ?_)
      obtain ⟨hF, ht15_fact0, hI, g16⟩ := hq
      replace E := zLet_s hF E
      have ft15_11 : (t15.1 a0 11).toInt = (σ.1 a0 11).toInt := by rw [g16.2.1 11 (by decide)]
      have ft15_12 : (t15.1 a0 12).toInt = (σ.1 a0 12).toInt := by rw [g16.2.1 12 (by decide)]
      have ft15_15 : (t15.1 a0 15).toInt = (σ.1 a0 15).toInt := by rw [g16.2.1 15 (by decide)]
      have ft15_18 : (t15.1 a0 18).toInt = (σ.1 a0 18).toInt := by rw [g16.2.1 18 (by decide)]
      have ft15_19 : (t15.1 a0 19).toInt = (σ.1 a0 19).toInt := by rw [g16.2.1 19 (by decide)]
      have ft15_32 : (t15.1 a0 32).toInt = (σ.1 a0 32).toInt := by rw [g16.2.1 32 (by decide)]
      have ft15_38 : (t15.1 a0 38).toInt = (σ.1 a0 38).toInt := by rw [g16.2.1 38 (by decide)]
      have ft15_41 : (t15.1 a0 41).toInt = (σ.1 a0 41).toInt := by rw [g16.2.1 41 (by decide)]
      have ft15_42 : (t15.1 a0 42).toInt = (σ.1 a0 42).toInt := by rw [g16.2.1 42 (by decide)]
      have hS := hS.tr g16 (by decide) (by decide)
      have at15_30 := zp_same hI ha0 g16 30 rfl (by decide) (by decide)
      have at15_31 := zp_same hI ha0 g16 31 rfl (by decide) (by decide)
      have at15_33 := zp_same hI ha0 g16 33 rfl (by decide) (by decide)
      have at15_34 := zp_same hI ha0 g16 34 rfl (by decide) (by decide)
      have at15_35 := zp_same hI ha0 g16 35 rfl (by decide) (by decide)
      have at15_36 := zp_same hI ha0 g16 36 rfl (by decide) (by decide)
      have at15_37 := zp_same hI ha0 g16 37 rfl (by decide) (by decide)
      have at15_39 := zp_same hI ha0 g16 39 rfl (by decide) (by decide)
      have at15_40 := zp_same hI ha0 g16 40 rfl (by decide) (by decide)
      have gNt15 := gN.same hI ha0 g16 (by decide) hgN
      have gHt15 := gH.same hI ha0 g16 (by decide) hgH
      have gEt15 := gE.same hI ha0 g16 (by decide) hgE
      have gLt15 := gL.same hI ha0 g16 (by decide) hgL
      have gPt15 := gP.same hI ha0 g16 (by decide) hgP
      have gTrt15 := gTr.same hI ha0 g16 (by decide) hgTr
      refine zg_aload_n X 0 rfl dX11_tellOne_76 ?_
      refine fg_X11_206 X hI ha0 dX11_tellOne_77 (fun v19 ev19 hv19 => ?_)
      replace E := zLet_s ev19 E
      have kv19 : (t15.1 a0 13).toInt = v19.toInt := by rw [ev19]
      refine zg_if_le X 84 dX11_tellOne_80 (by decide) (fun c20 => ?_) (fun c20 => ?_)
      · skip
        replace E := zIf_f (Int.not_lt.mpr c20) E
        refine zg_aload_n X 0 rfl dX11_tellOne_84 ?_
        refine zg_cVv (As := []) (st := []) X ha0 rfl (by decide) rfl (t_X11_goesOn l d L kd κ _ hI a0 ha0   ) mk_X11_227 mc_X11_goesOn mz_X11 mi_X11_goesOn ml_X11_goesOn (na := 0) ⟨md_X11.1, md_X11.2, by decide +kernel⟩ rfl ⟨by decide, by decide⟩ (Nat.le_of_ble_eq_true rfl) dX11_tellOne_85 (fun t21 hq => ?_)
        obtain ⟨hF, ht21_fact0, hI, g22⟩ := hq
        replace E := zLet_s hF E
        have ft21_12 : (t21.1 a0 12).toInt = (t15.1 a0 12).toInt := by rw [g22.2.1 12 (by decide)]
        have ft21_15 : (t21.1 a0 15).toInt = (t15.1 a0 15).toInt := by rw [g22.2.1 15 (by decide)]
        have ft21_18 : (t21.1 a0 18).toInt = (t15.1 a0 18).toInt := by rw [g22.2.1 18 (by decide)]
        have ft21_19 : (t21.1 a0 19).toInt = (t15.1 a0 19).toInt := by rw [g22.2.1 19 (by decide)]
        have ft21_32 : (t21.1 a0 32).toInt = (t15.1 a0 32).toInt := by rw [g22.2.1 32 (by decide)]
        have ft21_38 : (t21.1 a0 38).toInt = (t15.1 a0 38).toInt := by rw [g22.2.1 38 (by decide)]
        have ft21_41 : (t21.1 a0 41).toInt = (t15.1 a0 41).toInt := by rw [g22.2.1 41 (by decide)]
        have ft21_42 : (t21.1 a0 42).toInt = (t15.1 a0 42).toInt := by rw [g22.2.1 42 (by decide)]
        have hS := hS.tr g22 (by decide) (by decide)
        have at21_30 := (zp_same hI ha0 g22 30 rfl (by decide) (by decide)).trans at15_30
        have at21_31 := (zp_same hI ha0 g22 31 rfl (by decide) (by decide)).trans at15_31
        have at21_33 := (zp_same hI ha0 g22 33 rfl (by decide) (by decide)).trans at15_33
        have at21_34 := (zp_same hI ha0 g22 34 rfl (by decide) (by decide)).trans at15_34
        have at21_35 := (zp_same hI ha0 g22 35 rfl (by decide) (by decide)).trans at15_35
        have at21_36 := (zp_same hI ha0 g22 36 rfl (by decide) (by decide)).trans at15_36
        have at21_37 := (zp_same hI ha0 g22 37 rfl (by decide) (by decide)).trans at15_37
        have at21_39 := (zp_same hI ha0 g22 39 rfl (by decide) (by decide)).trans at15_39
        have at21_40 := (zp_same hI ha0 g22 40 rfl (by decide) (by decide)).trans at15_40
        have gNt21 := gN.same hI ha0 g22 (by decide) gNt15
        have gHt21 := gH.same hI ha0 g22 (by decide) gHt15
        have gEt21 := gE.same hI ha0 g22 (by decide) gEt15
        have gLt21 := gL.same hI ha0 g22 (by decide) gLt15
        have gPt21 := gP.same hI ha0 g22 (by decide) gPt15
        have gTrt21 := gTr.same hI ha0 g22 (by decide) gTrt15
        refine zg_aload_n X 0 rfl dX11_tellOne_88 ?_
        refine zg_cVv (As := []) (st := []) X ha0 rfl (by decide) rfl (t_X11_tellMouth l d L kd κ _ hI a0 ha0   (by omega) gNt21 gHt21 gEt21 gLt21 gTrt21) mk_X11_264 mc_X11_tellMouth mz_X11 mi_X11_tellMouth ml_X11_tellMouth (na := 0) ⟨md_X11.1, md_X11.2, by decide +kernel⟩ rfl ⟨by decide, by decide⟩ (Nat.le_of_ble_eq_true rfl) dX11_tellOne_89 (fun t24 hq => ?_)
        obtain ⟨hF, ⟨ht24_fact0, ht24_fact1, gNt24, gHt24, gEt24, gLt24⟩, hI, g25⟩ := hq
        replace E := zLet_s hF E
        have ft24_12 : (t24.1 a0 12).toInt = (t21.1 a0 12).toInt := by rw [g25.2.1 12 (by decide)]
        have ft24_18 : (t24.1 a0 18).toInt = (t21.1 a0 18).toInt := by rw [g25.2.1 18 (by decide)]
        have ft24_19 : (t24.1 a0 19).toInt = (t21.1 a0 19).toInt := by rw [g25.2.1 19 (by decide)]
        have ft24_32 : (t24.1 a0 32).toInt = (t21.1 a0 32).toInt := by rw [g25.2.1 32 (by decide)]
        have ft24_38 : (t24.1 a0 38).toInt = (t21.1 a0 38).toInt := by rw [g25.2.1 38 (by decide)]
        have ft24_42 : (t24.1 a0 42).toInt = (t21.1 a0 42).toInt := by rw [g25.2.1 42 (by decide)]
        have hS := hS.tr g25 (by decide) (by decide)
        have at24_30 := (zp_same hI ha0 g25 30 rfl (by decide) (by decide)).trans at21_30
        have at24_31 := (zp_same hI ha0 g25 31 rfl (by decide) (by decide)).trans at21_31
        have at24_33 := (zp_same hI ha0 g25 33 rfl (by decide) (by decide)).trans at21_33
        have at24_34 := (zp_same hI ha0 g25 34 rfl (by decide) (by decide)).trans at21_34
        have at24_35 := (zp_same hI ha0 g25 35 rfl (by decide) (by decide)).trans at21_35
        have at24_36 := (zp_same hI ha0 g25 36 rfl (by decide) (by decide)).trans at21_36
        have at24_37 := (zp_same hI ha0 g25 37 rfl (by decide) (by decide)).trans at21_37
        have at24_39 := (zp_same hI ha0 g25 39 rfl (by decide) (by decide)).trans at21_39
        have at24_40 := (zp_same hI ha0 g25 40 rfl (by decide) (by decide)).trans at21_40
        have gLt24 := gL.same hI ha0 g25 (by decide) gLt21
        have gPt24 := gP.same hI ha0 g25 (by decide) gPt21
        have zgt := ht24_fact1
        clear ht24_fact1
        refine zg_goto X 282 dX11_tellOne_92 (by decide) ?_
        exact ret _ _ _ dX11_tellOne_282 ⟨E.symm.trans hR, ⟨⟨(by omega), (fun h0 => by first | exact gPt24 | exact zgp h0), (fun h0 => by first | exact True.intro | exact zgt h0), (by first | exact zlk0.tr zgk (by omega) | exact zLkp.eq at24_30 at24_31 at24_33 at24_34 at24_35 at24_36 at24_37 at24_39 at24_40), gNt24, gHt24, gEt24, gLt24⟩, hI, hS⟩⟩
      · skip
        replace E := zIf_t c20 E
        exact ret _ _ _ dX11_tellOne_83 ⟨E.symm.trans hR, ⟨⟨(by omega), (fun h0 => by exfalso; omega), (fun h0 => by exfalso; omega), (by first | exact zlk0.tr zgk (by omega) | exact zLkp.eq at15_30 at15_31 at15_33 at15_34 at15_35 at15_36 at15_37 at15_39 at15_40), gNt15, gHt15, gEt15, gLt15⟩, hI, hS⟩⟩
  · skip
    replace E := zIf_f q4 E
    by_cases q26 : v3.toInt = 21
    · refine zg_tabIn X 95 21 dX11_tellOne_9 q26 (by decide) (by decide) rfl (by decide) ?_
      replace E := zIf_t q26 E
      refine zg_aload_n X 0 rfl dX11_tellOne_95 ?_
      refine fg_X11_252 X hI ha0 dX11_tellOne_96 (fun v27 ev27 hv27 => ?_)
      replace E := zLet_s ev27 E
      have kv27 : (σ.1 a0 42).toInt = v27.toInt := by rw [ev27]
      refine zg_bipush X 11 dX11_tellOne_99 (by decide) (fun v28 _ hv28 => ?_)
      replace E := zLet_s (zcst hv28 (by decide)) E
      refine zg_icmp_ne X 109 dX11_tellOne_101 (by decide) (fun c29 => ?_) (fun c29 => ?_)
      · skip
        replace E := zIf_f c29 E
        refine zg_aload_n X 0 rfl dX11_tellOne_109 ?_
        refine fg_X11_206 X hI ha0 dX11_tellOne_110 (fun v30 ev30 hv30 => ?_)
        replace E := zLet_s ev30 E
        have kv30 : (σ.1 a0 13).toInt = v30.toInt := by rw [ev30]
        refine zg_if_le X 117 dX11_tellOne_113 (by decide) (fun c31 => ?_) (fun c31 => ?_)
        · skip
          replace E := zIf_f (Int.not_lt.mpr c31) E
          refine zg_aload_n X 0 rfl dX11_tellOne_117 ?_
          refine zg_cVv (As := []) (st := []) X ha0 rfl (by decide) rfl (t_X11_goesOn l d L kd κ _ hI a0 ha0   ) mk_X11_227 mc_X11_goesOn mz_X11 mi_X11_goesOn ml_X11_goesOn (na := 0) ⟨md_X11.1, md_X11.2, by decide +kernel⟩ rfl ⟨by decide, by decide⟩ (Nat.le_of_ble_eq_true rfl) dX11_tellOne_118 (fun t32 hq => ?_)
          obtain ⟨hF, ht32_fact0, hI, g33⟩ := hq
          replace E := zLet_s hF E
          have ft32_12 : (t32.1 a0 12).toInt = (σ.1 a0 12).toInt := by rw [g33.2.1 12 (by decide)]
          have ft32_15 : (t32.1 a0 15).toInt = (σ.1 a0 15).toInt := by rw [g33.2.1 15 (by decide)]
          have ft32_18 : (t32.1 a0 18).toInt = (σ.1 a0 18).toInt := by rw [g33.2.1 18 (by decide)]
          have ft32_19 : (t32.1 a0 19).toInt = (σ.1 a0 19).toInt := by rw [g33.2.1 19 (by decide)]
          have ft32_32 : (t32.1 a0 32).toInt = (σ.1 a0 32).toInt := by rw [g33.2.1 32 (by decide)]
          have ft32_38 : (t32.1 a0 38).toInt = (σ.1 a0 38).toInt := by rw [g33.2.1 38 (by decide)]
          have ft32_41 : (t32.1 a0 41).toInt = (σ.1 a0 41).toInt := by rw [g33.2.1 41 (by decide)]
          have ft32_42 : (t32.1 a0 42).toInt = (σ.1 a0 42).toInt := by rw [g33.2.1 42 (by decide)]
          have hS := hS.tr g33 (by decide) (by decide)
          have at32_30 := zp_same hI ha0 g33 30 rfl (by decide) (by decide)
          have at32_31 := zp_same hI ha0 g33 31 rfl (by decide) (by decide)
          have at32_33 := zp_same hI ha0 g33 33 rfl (by decide) (by decide)
          have at32_34 := zp_same hI ha0 g33 34 rfl (by decide) (by decide)
          have at32_35 := zp_same hI ha0 g33 35 rfl (by decide) (by decide)
          have at32_36 := zp_same hI ha0 g33 36 rfl (by decide) (by decide)
          have at32_37 := zp_same hI ha0 g33 37 rfl (by decide) (by decide)
          have at32_39 := zp_same hI ha0 g33 39 rfl (by decide) (by decide)
          have at32_40 := zp_same hI ha0 g33 40 rfl (by decide) (by decide)
          have gNt32 := gN.same hI ha0 g33 (by decide) hgN
          have gHt32 := gH.same hI ha0 g33 (by decide) hgH
          have gEt32 := gE.same hI ha0 g33 (by decide) hgE
          have gLt32 := gL.same hI ha0 g33 (by decide) hgL
          have gPt32 := gP.same hI ha0 g33 (by decide) hgP
          have gTrt32 := gTr.same hI ha0 g33 (by decide) hgTr
          refine zg_aload_n X 0 rfl dX11_tellOne_121 ?_
          refine zg_cVv (As := []) (st := []) X ha0 rfl (by decide) rfl (t_X11_tellPlace l d L kd κ _ hI a0 ha0   (by omega) (by omega) gNt32 gHt32 gEt32 gLt32 gTrt32) mk_X11_267 mc_X11_tellPlace mz_X11 mi_X11_tellPlace ml_X11_tellPlace (na := 0) ⟨md_X11.1, md_X11.2, by decide +kernel⟩ rfl ⟨by decide, by decide⟩ (Nat.le_of_ble_eq_true rfl) dX11_tellOne_122 (fun t35 hq => ?_)
          obtain ⟨hF, ⟨ht35_fact0, ht35_fact1, gNt35, gHt35, gEt35, gLt35⟩, hI, g36⟩ := hq
          replace E := zLet_s hF E
          have ft35_12 : (t35.1 a0 12).toInt = (t32.1 a0 12).toInt := by rw [g36.2.1 12 (by decide)]
          have ft35_18 : (t35.1 a0 18).toInt = (t32.1 a0 18).toInt := by rw [g36.2.1 18 (by decide)]
          have ft35_19 : (t35.1 a0 19).toInt = (t32.1 a0 19).toInt := by rw [g36.2.1 19 (by decide)]
          have ft35_32 : (t35.1 a0 32).toInt = (t32.1 a0 32).toInt := by rw [g36.2.1 32 (by decide)]
          have ft35_38 : (t35.1 a0 38).toInt = (t32.1 a0 38).toInt := by rw [g36.2.1 38 (by decide)]
          have ft35_41 : (t35.1 a0 41).toInt = (t32.1 a0 41).toInt := by rw [g36.2.1 41 (by decide)]
          have hS := hS.tr g36 (by decide) (by decide)
          have at35_30 := (zp_same hI ha0 g36 30 rfl (by decide) (by decide)).trans at32_30
          have at35_31 := (zp_same hI ha0 g36 31 rfl (by decide) (by decide)).trans at32_31
          have at35_33 := (zp_same hI ha0 g36 33 rfl (by decide) (by decide)).trans at32_33
          have at35_34 := (zp_same hI ha0 g36 34 rfl (by decide) (by decide)).trans at32_34
          have at35_35 := (zp_same hI ha0 g36 35 rfl (by decide) (by decide)).trans at32_35
          have at35_36 := (zp_same hI ha0 g36 36 rfl (by decide) (by decide)).trans at32_36
          have at35_37 := (zp_same hI ha0 g36 37 rfl (by decide) (by decide)).trans at32_37
          have at35_39 := (zp_same hI ha0 g36 39 rfl (by decide) (by decide)).trans at32_39
          have at35_40 := (zp_same hI ha0 g36 40 rfl (by decide) (by decide)).trans at32_40
          have gLt35 := gL.same hI ha0 g36 (by decide) gLt32
          have gPt35 := gP.same hI ha0 g36 (by decide) gPt32
          have zgt := ht35_fact1
          clear ht35_fact1
          refine zg_goto X 282 dX11_tellOne_125 (by decide) ?_
          exact ret _ _ _ dX11_tellOne_282 ⟨E.symm.trans hR, ⟨⟨(by omega), (fun h0 => by first | exact gPt35 | exact zgp h0), (fun h0 => by first | exact True.intro | exact zgt h0), (by first | exact zlk0.tr zgk (by omega) | exact zLkp.eq at35_30 at35_31 at35_33 at35_34 at35_35 at35_36 at35_37 at35_39 at35_40), gNt35, gHt35, gEt35, gLt35⟩, hI, hS⟩⟩
        · skip
          replace E := zIf_t c31 E
          exact ret _ _ _ dX11_tellOne_116 ⟨E.symm.trans hR, ⟨⟨(by omega), (fun h0 => by exfalso; omega), (fun h0 => by exfalso; omega), (by first | exact zlk0.tr zgk (by omega) | exact zLkp.eq rfl rfl rfl rfl rfl rfl rfl rfl rfl), hgN, hgH, hgE, hgL⟩, hI, hS⟩⟩
      · skip
        replace E := zIf_t c29 E
        refine zg_aload_n X 0 rfl dX11_tellOne_104 ?_
        refine zg_iconst X 2 dX11_tellOne_105 (by decide) (fun v37 _ hv37 => ?_)
        replace E := zLet_s (zcst hv37 (by decide)) E
        refine zg_cVv (As := [.int v37]) (st := []) X ha0 rfl (by decide) rfl (t_X11_fail l d L kd κ _ hI a0 ha0 v37  (by omega)) mk_X11_221 mc_X11_fail mz_X11 mi_X11_fail ml_X11_fail (na := 1) ⟨md_X11.1, md_X11.2, by decide +kernel⟩ rfl ⟨by decide, by decide⟩ (Nat.le_of_ble_eq_true rfl) dX11_tellOne_106 (fun t38 hq => ?_)
        obtain ⟨hF, ht38_fact0, hI, g39⟩ := hq
        replace E := zLet_s hF E
        have ft38_11 : (t38.1 a0 11).toInt = (σ.1 a0 11).toInt := by rw [g39.2.1 11 (by decide)]
        have ft38_12 : (t38.1 a0 12).toInt = (σ.1 a0 12).toInt := by rw [g39.2.1 12 (by decide)]
        have ft38_15 : (t38.1 a0 15).toInt = (σ.1 a0 15).toInt := by rw [g39.2.1 15 (by decide)]
        have ft38_18 : (t38.1 a0 18).toInt = (σ.1 a0 18).toInt := by rw [g39.2.1 18 (by decide)]
        have ft38_19 : (t38.1 a0 19).toInt = (σ.1 a0 19).toInt := by rw [g39.2.1 19 (by decide)]
        have ft38_32 : (t38.1 a0 32).toInt = (σ.1 a0 32).toInt := by rw [g39.2.1 32 (by decide)]
        have ft38_38 : (t38.1 a0 38).toInt = (σ.1 a0 38).toInt := by rw [g39.2.1 38 (by decide)]
        have ft38_41 : (t38.1 a0 41).toInt = (σ.1 a0 41).toInt := by rw [g39.2.1 41 (by decide)]
        have ft38_42 : (t38.1 a0 42).toInt = (σ.1 a0 42).toInt := by rw [g39.2.1 42 (by decide)]
        have hS := hS.tr g39 (by decide) (by decide)
        have at38_30 := zp_same hI ha0 g39 30 rfl (by decide) (by decide)
        have at38_31 := zp_same hI ha0 g39 31 rfl (by decide) (by decide)
        have at38_33 := zp_same hI ha0 g39 33 rfl (by decide) (by decide)
        have at38_34 := zp_same hI ha0 g39 34 rfl (by decide) (by decide)
        have at38_35 := zp_same hI ha0 g39 35 rfl (by decide) (by decide)
        have at38_36 := zp_same hI ha0 g39 36 rfl (by decide) (by decide)
        have at38_37 := zp_same hI ha0 g39 37 rfl (by decide) (by decide)
        have at38_39 := zp_same hI ha0 g39 39 rfl (by decide) (by decide)
        have at38_40 := zp_same hI ha0 g39 40 rfl (by decide) (by decide)
        have gNt38 := gN.same hI ha0 g39 (by decide) hgN
        have gHt38 := gH.same hI ha0 g39 (by decide) hgH
        have gEt38 := gE.same hI ha0 g39 (by decide) hgE
        have gLt38 := gL.same hI ha0 g39 (by decide) hgL
        have gPt38 := gP.same hI ha0 g39 (by decide) hgP
        have gTrt38 := gTr.same hI ha0 g39 (by decide) hgTr
        refine zg_aload_n X 0 rfl dX11_tellOne_109 ?_
        refine fg_X11_206 X hI ha0 dX11_tellOne_110 (fun v42 ev42 hv42 => ?_)
        replace E := zLet_s ev42 E
        have kv42 : (t38.1 a0 13).toInt = v42.toInt := by rw [ev42]
        refine zg_if_le X 117 dX11_tellOne_113 (by decide) (fun c43 => ?_) (fun c43 => ?_)
        · skip
          replace E := zIf_f (Int.not_lt.mpr c43) E
          refine zg_aload_n X 0 rfl dX11_tellOne_117 ?_
          refine zg_cVv (As := []) (st := []) X ha0 rfl (by decide) rfl (t_X11_goesOn l d L kd κ _ hI a0 ha0   ) mk_X11_227 mc_X11_goesOn mz_X11 mi_X11_goesOn ml_X11_goesOn (na := 0) ⟨md_X11.1, md_X11.2, by decide +kernel⟩ rfl ⟨by decide, by decide⟩ (Nat.le_of_ble_eq_true rfl) dX11_tellOne_118 (fun t44 hq => ?_)
          obtain ⟨hF, ht44_fact0, hI, g45⟩ := hq
          replace E := zLet_s hF E
          have ft44_12 : (t44.1 a0 12).toInt = (t38.1 a0 12).toInt := by rw [g45.2.1 12 (by decide)]
          have ft44_15 : (t44.1 a0 15).toInt = (t38.1 a0 15).toInt := by rw [g45.2.1 15 (by decide)]
          have ft44_18 : (t44.1 a0 18).toInt = (t38.1 a0 18).toInt := by rw [g45.2.1 18 (by decide)]
          have ft44_19 : (t44.1 a0 19).toInt = (t38.1 a0 19).toInt := by rw [g45.2.1 19 (by decide)]
          have ft44_32 : (t44.1 a0 32).toInt = (t38.1 a0 32).toInt := by rw [g45.2.1 32 (by decide)]
          have ft44_38 : (t44.1 a0 38).toInt = (t38.1 a0 38).toInt := by rw [g45.2.1 38 (by decide)]
          have ft44_41 : (t44.1 a0 41).toInt = (t38.1 a0 41).toInt := by rw [g45.2.1 41 (by decide)]
          have ft44_42 : (t44.1 a0 42).toInt = (t38.1 a0 42).toInt := by rw [g45.2.1 42 (by decide)]
          have hS := hS.tr g45 (by decide) (by decide)
          have at44_30 := (zp_same hI ha0 g45 30 rfl (by decide) (by decide)).trans at38_30
          have at44_31 := (zp_same hI ha0 g45 31 rfl (by decide) (by decide)).trans at38_31
          have at44_33 := (zp_same hI ha0 g45 33 rfl (by decide) (by decide)).trans at38_33
          have at44_34 := (zp_same hI ha0 g45 34 rfl (by decide) (by decide)).trans at38_34
          have at44_35 := (zp_same hI ha0 g45 35 rfl (by decide) (by decide)).trans at38_35
          have at44_36 := (zp_same hI ha0 g45 36 rfl (by decide) (by decide)).trans at38_36
          have at44_37 := (zp_same hI ha0 g45 37 rfl (by decide) (by decide)).trans at38_37
          have at44_39 := (zp_same hI ha0 g45 39 rfl (by decide) (by decide)).trans at38_39
          have at44_40 := (zp_same hI ha0 g45 40 rfl (by decide) (by decide)).trans at38_40
          have gNt44 := gN.same hI ha0 g45 (by decide) gNt38
          have gHt44 := gH.same hI ha0 g45 (by decide) gHt38
          have gEt44 := gE.same hI ha0 g45 (by decide) gEt38
          have gLt44 := gL.same hI ha0 g45 (by decide) gLt38
          have gPt44 := gP.same hI ha0 g45 (by decide) gPt38
          have gTrt44 := gTr.same hI ha0 g45 (by decide) gTrt38
          refine zg_aload_n X 0 rfl dX11_tellOne_121 ?_
          refine zg_cVv (As := []) (st := []) X ha0 rfl (by decide) rfl (t_X11_tellPlace l d L kd κ _ hI a0 ha0   (by omega) (by omega) gNt44 gHt44 gEt44 gLt44 gTrt44) mk_X11_267 mc_X11_tellPlace mz_X11 mi_X11_tellPlace ml_X11_tellPlace (na := 0) ⟨md_X11.1, md_X11.2, by decide +kernel⟩ rfl ⟨by decide, by decide⟩ (Nat.le_of_ble_eq_true rfl) dX11_tellOne_122 (fun t47 hq => ?_)
          obtain ⟨hF, ⟨ht47_fact0, ht47_fact1, gNt47, gHt47, gEt47, gLt47⟩, hI, g48⟩ := hq
          replace E := zLet_s hF E
          have ft47_12 : (t47.1 a0 12).toInt = (t44.1 a0 12).toInt := by rw [g48.2.1 12 (by decide)]
          have ft47_18 : (t47.1 a0 18).toInt = (t44.1 a0 18).toInt := by rw [g48.2.1 18 (by decide)]
          have ft47_19 : (t47.1 a0 19).toInt = (t44.1 a0 19).toInt := by rw [g48.2.1 19 (by decide)]
          have ft47_32 : (t47.1 a0 32).toInt = (t44.1 a0 32).toInt := by rw [g48.2.1 32 (by decide)]
          have ft47_38 : (t47.1 a0 38).toInt = (t44.1 a0 38).toInt := by rw [g48.2.1 38 (by decide)]
          have ft47_41 : (t47.1 a0 41).toInt = (t44.1 a0 41).toInt := by rw [g48.2.1 41 (by decide)]
          have hS := hS.tr g48 (by decide) (by decide)
          have at47_30 := (zp_same hI ha0 g48 30 rfl (by decide) (by decide)).trans at44_30
          have at47_31 := (zp_same hI ha0 g48 31 rfl (by decide) (by decide)).trans at44_31
          have at47_33 := (zp_same hI ha0 g48 33 rfl (by decide) (by decide)).trans at44_33
          have at47_34 := (zp_same hI ha0 g48 34 rfl (by decide) (by decide)).trans at44_34
          have at47_35 := (zp_same hI ha0 g48 35 rfl (by decide) (by decide)).trans at44_35
          have at47_36 := (zp_same hI ha0 g48 36 rfl (by decide) (by decide)).trans at44_36
          have at47_37 := (zp_same hI ha0 g48 37 rfl (by decide) (by decide)).trans at44_37
          have at47_39 := (zp_same hI ha0 g48 39 rfl (by decide) (by decide)).trans at44_39
          have at47_40 := (zp_same hI ha0 g48 40 rfl (by decide) (by decide)).trans at44_40
          have gLt47 := gL.same hI ha0 g48 (by decide) gLt44
          have gPt47 := gP.same hI ha0 g48 (by decide) gPt44
          have zgt := ht47_fact1
          clear ht47_fact1
          refine zg_goto X 282 dX11_tellOne_125 (by decide) ?_
          exact ret _ _ _ dX11_tellOne_282 ⟨E.symm.trans hR, ⟨⟨(by omega), (fun h0 => by first | exact gPt47 | exact zgp h0), (fun h0 => by first | exact True.intro | exact zgt h0), (by first | exact zlk0.tr zgk (by omega) | exact zLkp.eq at47_30 at47_31 at47_33 at47_34 at47_35 at47_36 at47_37 at47_39 at47_40), gNt47, gHt47, gEt47, gLt47⟩, hI, hS⟩⟩
        · skip
          replace E := zIf_t c43 E
          exact ret _ _ _ dX11_tellOne_116 ⟨E.symm.trans hR, ⟨⟨(by omega), (fun h0 => by exfalso; omega), (fun h0 => by exfalso; omega), (by first | exact zlk0.tr zgk (by omega) | exact zLkp.eq at38_30 at38_31 at38_33 at38_34 at38_35 at38_36 at38_37 at38_39 at38_40), gNt38, gHt38, gEt38, gLt38⟩, hI, hS⟩⟩
    · skip
      replace E := zIf_f q26 E
      by_cases q49 : v3.toInt = 22
      · refine zg_tabIn X 229 22 dX11_tellOne_9 q49 (by decide) (by decide) rfl (by decide) ?_
        replace E := zIf_t q49 E
        refine zg_aload_n X 0 rfl dX11_tellOne_229 ?_
        refine fg_X11_20 X hI ha0 dX11_tellOne_230 (fun v50 ev50 hv50 => ?_)
        replace E := zLet_s (zgr ev50) E
        refine zg_aload_n X 0 rfl dX11_tellOne_233 ?_
        refine fg_X11_209 X hI ha0 dX11_tellOne_234 (fun v51 ev51 hv51 => ?_)
        replace E := zLet_s ev51 E
        have kv51 : (σ.1 a0 11).toInt = v51.toInt := by rw [ev51]
        have mv51 : v51.toInt = v2.toInt := by rw [ev51, ← ev2]
        refine ag_105 X hI hv50 (by omega) (by omega) dX11_tellOne_237 (fun v52 ev52 _ => ?_)
        replace E := zLet_s ev52 E
        have qv52 := zp_ld ev50 ev52
        rw [← kv51] at qv52
        refine zg_bipush X 22 dX11_tellOne_238 (by decide) (fun v53 _ hv53 => ?_)
        replace E := zLet_s (zcst hv53 (by decide)) E
        refine zg_isub X dX11_tellOne_240 (by omega) (by omega) (fun v54 ev54 hv54 => ?_)
        replace E := zLet_s ev54 E
        refine zg_istore_n X [(1, .int v54), (0, .ref a0)] dX11_tellOne_241 (by decide) rfl ?_
        refine zg_iload_n X 0 rfl dX11_tellOne_242 ?_
        refine zg_if_lt X 260 dX11_tellOne_243 (by decide) (fun c55 => ?_) (fun c55 => ?_)
        · skip
          replace E := zIf_t c55 E
          refine zg_aload_n X 1 rfl dX11_tellOne_260 ?_
          refine zg_iconst X 1 dX11_tellOne_261 (by decide) (fun v56 _ hv56 => ?_)
          replace E := zLet_s (zcst hv56 (by decide)) E
          refine zg_cVv (As := [.int v56]) (st := []) X ha0 rfl (by decide) rfl (t_X11_fail l d L kd κ _ hI a0 ha0 v56  (by omega)) mk_X11_221 mc_X11_fail mz_X11 mi_X11_fail ml_X11_fail (na := 1) ⟨md_X11.1, md_X11.2, by decide +kernel⟩ rfl ⟨by decide, by decide⟩ (Nat.le_of_ble_eq_true rfl) dX11_tellOne_262 (fun t57 hq => ?_)
          obtain ⟨hF, ht57_fact0, hI, g58⟩ := hq
          replace E := zLet_s hF E
          have ft57_11 : (t57.1 a0 11).toInt = (σ.1 a0 11).toInt := by rw [g58.2.1 11 (by decide)]
          have ft57_12 : (t57.1 a0 12).toInt = (σ.1 a0 12).toInt := by rw [g58.2.1 12 (by decide)]
          have ft57_15 : (t57.1 a0 15).toInt = (σ.1 a0 15).toInt := by rw [g58.2.1 15 (by decide)]
          have ft57_18 : (t57.1 a0 18).toInt = (σ.1 a0 18).toInt := by rw [g58.2.1 18 (by decide)]
          have ft57_19 : (t57.1 a0 19).toInt = (σ.1 a0 19).toInt := by rw [g58.2.1 19 (by decide)]
          have ft57_32 : (t57.1 a0 32).toInt = (σ.1 a0 32).toInt := by rw [g58.2.1 32 (by decide)]
          have ft57_38 : (t57.1 a0 38).toInt = (σ.1 a0 38).toInt := by rw [g58.2.1 38 (by decide)]
          have ft57_41 : (t57.1 a0 41).toInt = (σ.1 a0 41).toInt := by rw [g58.2.1 41 (by decide)]
          have ft57_42 : (t57.1 a0 42).toInt = (σ.1 a0 42).toInt := by rw [g58.2.1 42 (by decide)]
          have hS := hS.tr g58 (by decide) (by decide)
          have at57_30 := zp_same hI ha0 g58 30 rfl (by decide) (by decide)
          have at57_31 := zp_same hI ha0 g58 31 rfl (by decide) (by decide)
          have at57_33 := zp_same hI ha0 g58 33 rfl (by decide) (by decide)
          have at57_34 := zp_same hI ha0 g58 34 rfl (by decide) (by decide)
          have at57_35 := zp_same hI ha0 g58 35 rfl (by decide) (by decide)
          have at57_36 := zp_same hI ha0 g58 36 rfl (by decide) (by decide)
          have at57_37 := zp_same hI ha0 g58 37 rfl (by decide) (by decide)
          have at57_39 := zp_same hI ha0 g58 39 rfl (by decide) (by decide)
          have at57_40 := zp_same hI ha0 g58 40 rfl (by decide) (by decide)
          have gNt57 := gN.same hI ha0 g58 (by decide) hgN
          have gHt57 := gH.same hI ha0 g58 (by decide) hgH
          have gEt57 := gE.same hI ha0 g58 (by decide) hgE
          have gLt57 := gL.same hI ha0 g58 (by decide) hgL
          have gPt57 := gP.same hI ha0 g58 (by decide) hgP
          have gTrt57 := gTr.same hI ha0 g58 (by decide) hgTr
          refine zg_aload_n X 1 rfl dX11_tellOne_265 ?_
          refine fg_X11_206 X hI ha0 dX11_tellOne_266 (fun v60 ev60 hv60 => ?_)
          replace E := zLet_s ev60 E
          have kv60 : (t57.1 a0 13).toInt = v60.toInt := by rw [ev60]
          refine zg_if_le X 273 dX11_tellOne_269 (by decide) (fun c61 => ?_) (fun c61 => ?_)
          · skip
            replace E := zIf_f (Int.not_lt.mpr c61) E
            refine zg_aload_n X 1 rfl dX11_tellOne_273 ?_
            refine zg_cVv (As := []) (st := []) X ha0 rfl (by decide) rfl (t_X11_goesOn l d L kd κ _ hI a0 ha0   ) mk_X11_227 mc_X11_goesOn mz_X11 mi_X11_goesOn ml_X11_goesOn (na := 0) ⟨md_X11.1, md_X11.2, by decide +kernel⟩ rfl ⟨by decide, by decide⟩ (Nat.le_of_ble_eq_true rfl) dX11_tellOne_274 (fun t62 hq => ?_)
            obtain ⟨hF, ht62_fact0, hI, g63⟩ := hq
            replace E := zLet_s hF E
            have ft62_12 : (t62.1 a0 12).toInt = (t57.1 a0 12).toInt := by rw [g63.2.1 12 (by decide)]
            have ft62_15 : (t62.1 a0 15).toInt = (t57.1 a0 15).toInt := by rw [g63.2.1 15 (by decide)]
            have ft62_18 : (t62.1 a0 18).toInt = (t57.1 a0 18).toInt := by rw [g63.2.1 18 (by decide)]
            have ft62_19 : (t62.1 a0 19).toInt = (t57.1 a0 19).toInt := by rw [g63.2.1 19 (by decide)]
            have ft62_32 : (t62.1 a0 32).toInt = (t57.1 a0 32).toInt := by rw [g63.2.1 32 (by decide)]
            have ft62_38 : (t62.1 a0 38).toInt = (t57.1 a0 38).toInt := by rw [g63.2.1 38 (by decide)]
            have ft62_41 : (t62.1 a0 41).toInt = (t57.1 a0 41).toInt := by rw [g63.2.1 41 (by decide)]
            have ft62_42 : (t62.1 a0 42).toInt = (t57.1 a0 42).toInt := by rw [g63.2.1 42 (by decide)]
            have hS := hS.tr g63 (by decide) (by decide)
            have at62_30 := (zp_same hI ha0 g63 30 rfl (by decide) (by decide)).trans at57_30
            have at62_31 := (zp_same hI ha0 g63 31 rfl (by decide) (by decide)).trans at57_31
            have at62_33 := (zp_same hI ha0 g63 33 rfl (by decide) (by decide)).trans at57_33
            have at62_34 := (zp_same hI ha0 g63 34 rfl (by decide) (by decide)).trans at57_34
            have at62_35 := (zp_same hI ha0 g63 35 rfl (by decide) (by decide)).trans at57_35
            have at62_36 := (zp_same hI ha0 g63 36 rfl (by decide) (by decide)).trans at57_36
            have at62_37 := (zp_same hI ha0 g63 37 rfl (by decide) (by decide)).trans at57_37
            have at62_39 := (zp_same hI ha0 g63 39 rfl (by decide) (by decide)).trans at57_39
            have at62_40 := (zp_same hI ha0 g63 40 rfl (by decide) (by decide)).trans at57_40
            have gNt62 := gN.same hI ha0 g63 (by decide) gNt57
            have gHt62 := gH.same hI ha0 g63 (by decide) gHt57
            have gEt62 := gE.same hI ha0 g63 (by decide) gEt57
            have gLt62 := gL.same hI ha0 g63 (by decide) gLt57
            have gPt62 := gP.same hI ha0 g63 (by decide) gPt57
            have gTrt62 := gTr.same hI ha0 g63 (by decide) gTrt57
            refine zg_aload_n X 1 rfl dX11_tellOne_277 ?_
            refine zg_iload_n X 0 rfl dX11_tellOne_278 ?_
            have zlk0 : zLkp a0 σ t62 := zLkp.eq at62_30 at62_31 at62_33 at62_34 at62_35 at62_36 at62_37 at62_39 at62_40
            refine zg_cVv (As := [.int v54]) (st := []) X ha0 rfl (by decide) rfl (t_X11_tellLaw l d L kd κ _ hI a0 ha0 v54  (by omega) (by omega) (by omega) (by omega) (by omega) gPt62 gLt62) mk_X11_277 mc_X11_tellLaw mz_X11 mi_X11_tellLaw ml_X11_tellLaw (na := 1) ⟨md_X11.1, md_X11.2, by decide +kernel⟩ rfl ⟨by decide, by decide⟩ (Nat.le_of_ble_eq_true rfl) dX11_tellOne_279 (fun t64 hq => ?_)
            obtain ⟨hF, ⟨ht64_fact0, ht64_fact1, ht64_fact2, gLt64⟩, hI, g65⟩ := hq
            replace E := zLet_s hF E
            have ft64_15 : (t64.1 a0 15).toInt = (t62.1 a0 15).toInt := by rw [g65.2.1 15 (by decide)]
            have ft64_18 : (t64.1 a0 18).toInt = (t62.1 a0 18).toInt := by rw [g65.2.1 18 (by decide)]
            have ft64_19 : (t64.1 a0 19).toInt = (t62.1 a0 19).toInt := by rw [g65.2.1 19 (by decide)]
            have ft64_41 : (t64.1 a0 41).toInt = (t62.1 a0 41).toInt := by rw [g65.2.1 41 (by decide)]
            have ft64_42 : (t64.1 a0 42).toInt = (t62.1 a0 42).toInt := by rw [g65.2.1 42 (by decide)]
            have hS := hS.tr g65 (by decide) (by decide)
            have gNt64 := gN.same hI ha0 g65 (by decide) gNt62
            have gHt64 := gH.same hI ha0 g65 (by decide) gHt62
            have gEt64 := gE.same hI ha0 g65 (by decide) gEt62
            have gTrt64 := gTr.same hI ha0 g65 (by decide) gTrt62
            have zgp := ht64_fact1
            have zgk := ht64_fact2
            clear ht64_fact2 ht64_fact1
            exact ret _ _ _ dX11_tellOne_282 ⟨E.symm.trans hR, ⟨⟨(by omega), (fun h0 => by first | exact True.intro | exact zgp h0), (fun h0 => by first | exact gTrt64 | exact zgt h0), (by first | exact zlk0.tr zgk (by omega) | exact zLkp.eq rfl rfl rfl rfl rfl rfl rfl rfl rfl), gNt64, gHt64, gEt64, gLt64⟩, hI, hS⟩⟩
          · skip
            replace E := zIf_t c61 E
            exact ret _ _ _ dX11_tellOne_272 ⟨E.symm.trans hR, ⟨⟨(by omega), (fun h0 => by exfalso; omega), (fun h0 => by exfalso; omega), (by first | exact zlk0.tr zgk (by omega) | exact zLkp.eq at57_30 at57_31 at57_33 at57_34 at57_35 at57_36 at57_37 at57_39 at57_40), gNt57, gHt57, gEt57, gLt57⟩, hI, hS⟩⟩
        · skip
          replace E := zIf_f (Int.not_lt.mpr c55) E
          refine zg_aload_n X 1 rfl dX11_tellOne_246 ?_
          refine fg_X11_20 X hI ha0 dX11_tellOne_247 (fun v66 ev66 hv66 => ?_)
          replace E := zLet_s (zgr ev66) E
          refine zg_aload_n X 1 rfl dX11_tellOne_250 ?_
          refine fg_X11_209 X hI ha0 dX11_tellOne_251 (fun v67 ev67 hv67 => ?_)
          replace E := zLet_s ev67 E
          have kv67 : (σ.1 a0 11).toInt = v67.toInt := by rw [ev67]
          have mv67 : v67.toInt = v51.toInt := by rw [ev67, ← ev51]
          refine ag_105 X hI hv66 (by omega) (by omega) dX11_tellOne_254 (fun v68 ev68 _ => ?_)
          replace E := zLet_s ev68 E
          have qv68 := zp_ld ev66 ev68
          rw [← kv67] at qv68
          refine zg_bipush X 26 dX11_tellOne_255 (by decide) (fun v69 _ hv69 => ?_)
          replace E := zLet_s (zcst hv69 (by decide)) E
          have zv68_z70 := zb_rng v68
          refine zg_icmp_le X 265 dX11_tellOne_257 (by decide) (fun c71 => ?_) (fun c71 => ?_)
          · skip
            replace E := zIf_f (Int.not_lt.mpr c71) E
            refine zg_aload_n X 1 rfl dX11_tellOne_265 ?_
            refine fg_X11_206 X hI ha0 dX11_tellOne_266 (fun v72 ev72 hv72 => ?_)
            replace E := zLet_s ev72 E
            have kv72 : (σ.1 a0 13).toInt = v72.toInt := by rw [ev72]
            refine zg_if_le X 273 dX11_tellOne_269 (by decide) (fun c73 => ?_) (fun c73 => ?_)
            · skip
              replace E := zIf_f (Int.not_lt.mpr c73) E
              refine zg_aload_n X 1 rfl dX11_tellOne_273 ?_
              refine zg_cVv (As := []) (st := []) X ha0 rfl (by decide) rfl (t_X11_goesOn l d L kd κ _ hI a0 ha0   ) mk_X11_227 mc_X11_goesOn mz_X11 mi_X11_goesOn ml_X11_goesOn (na := 0) ⟨md_X11.1, md_X11.2, by decide +kernel⟩ rfl ⟨by decide, by decide⟩ (Nat.le_of_ble_eq_true rfl) dX11_tellOne_274 (fun t74 hq => ?_)
              obtain ⟨hF, ht74_fact0, hI, g75⟩ := hq
              replace E := zLet_s hF E
              have ft74_12 : (t74.1 a0 12).toInt = (σ.1 a0 12).toInt := by rw [g75.2.1 12 (by decide)]
              have ft74_15 : (t74.1 a0 15).toInt = (σ.1 a0 15).toInt := by rw [g75.2.1 15 (by decide)]
              have ft74_18 : (t74.1 a0 18).toInt = (σ.1 a0 18).toInt := by rw [g75.2.1 18 (by decide)]
              have ft74_19 : (t74.1 a0 19).toInt = (σ.1 a0 19).toInt := by rw [g75.2.1 19 (by decide)]
              have ft74_32 : (t74.1 a0 32).toInt = (σ.1 a0 32).toInt := by rw [g75.2.1 32 (by decide)]
              have ft74_38 : (t74.1 a0 38).toInt = (σ.1 a0 38).toInt := by rw [g75.2.1 38 (by decide)]
              have ft74_41 : (t74.1 a0 41).toInt = (σ.1 a0 41).toInt := by rw [g75.2.1 41 (by decide)]
              have ft74_42 : (t74.1 a0 42).toInt = (σ.1 a0 42).toInt := by rw [g75.2.1 42 (by decide)]
              have hS := hS.tr g75 (by decide) (by decide)
              have at74_30 := zp_same hI ha0 g75 30 rfl (by decide) (by decide)
              have at74_31 := zp_same hI ha0 g75 31 rfl (by decide) (by decide)
              have at74_33 := zp_same hI ha0 g75 33 rfl (by decide) (by decide)
              have at74_34 := zp_same hI ha0 g75 34 rfl (by decide) (by decide)
              have at74_35 := zp_same hI ha0 g75 35 rfl (by decide) (by decide)
              have at74_36 := zp_same hI ha0 g75 36 rfl (by decide) (by decide)
              have at74_37 := zp_same hI ha0 g75 37 rfl (by decide) (by decide)
              have at74_39 := zp_same hI ha0 g75 39 rfl (by decide) (by decide)
              have at74_40 := zp_same hI ha0 g75 40 rfl (by decide) (by decide)
              have gNt74 := gN.same hI ha0 g75 (by decide) hgN
              have gHt74 := gH.same hI ha0 g75 (by decide) hgH
              have gEt74 := gE.same hI ha0 g75 (by decide) hgE
              have gLt74 := gL.same hI ha0 g75 (by decide) hgL
              have gPt74 := gP.same hI ha0 g75 (by decide) hgP
              have gTrt74 := gTr.same hI ha0 g75 (by decide) hgTr
              refine zg_aload_n X 1 rfl dX11_tellOne_277 ?_
              refine zg_iload_n X 0 rfl dX11_tellOne_278 ?_
              have zlk0 : zLkp a0 σ t74 := zLkp.eq at74_30 at74_31 at74_33 at74_34 at74_35 at74_36 at74_37 at74_39 at74_40
              refine zg_cVv (As := [.int v54]) (st := []) X ha0 rfl (by decide) rfl (t_X11_tellLaw l d L kd κ _ hI a0 ha0 v54  (by omega) (by omega) (by omega) (by omega) (by omega) gPt74 gLt74) mk_X11_277 mc_X11_tellLaw mz_X11 mi_X11_tellLaw ml_X11_tellLaw (na := 1) ⟨md_X11.1, md_X11.2, by decide +kernel⟩ rfl ⟨by decide, by decide⟩ (Nat.le_of_ble_eq_true rfl) dX11_tellOne_279 (fun t76 hq => ?_)
              obtain ⟨hF, ⟨ht76_fact0, ht76_fact1, ht76_fact2, gLt76⟩, hI, g77⟩ := hq
              replace E := zLet_s hF E
              have ft76_15 : (t76.1 a0 15).toInt = (t74.1 a0 15).toInt := by rw [g77.2.1 15 (by decide)]
              have ft76_18 : (t76.1 a0 18).toInt = (t74.1 a0 18).toInt := by rw [g77.2.1 18 (by decide)]
              have ft76_19 : (t76.1 a0 19).toInt = (t74.1 a0 19).toInt := by rw [g77.2.1 19 (by decide)]
              have ft76_41 : (t76.1 a0 41).toInt = (t74.1 a0 41).toInt := by rw [g77.2.1 41 (by decide)]
              have ft76_42 : (t76.1 a0 42).toInt = (t74.1 a0 42).toInt := by rw [g77.2.1 42 (by decide)]
              have hS := hS.tr g77 (by decide) (by decide)
              have gNt76 := gN.same hI ha0 g77 (by decide) gNt74
              have gHt76 := gH.same hI ha0 g77 (by decide) gHt74
              have gEt76 := gE.same hI ha0 g77 (by decide) gEt74
              have gTrt76 := gTr.same hI ha0 g77 (by decide) gTrt74
              have zgp := ht76_fact1
              have zgk := ht76_fact2
              clear ht76_fact2 ht76_fact1
              exact ret _ _ _ dX11_tellOne_282 ⟨E.symm.trans hR, ⟨⟨(by omega), (fun h0 => by first | exact True.intro | exact zgp h0), (fun h0 => by first | exact gTrt76 | exact zgt h0), (by first | exact zlk0.tr zgk (by omega) | exact zLkp.eq rfl rfl rfl rfl rfl rfl rfl rfl rfl), gNt76, gHt76, gEt76, gLt76⟩, hI, hS⟩⟩
            · skip
              replace E := zIf_t c73 E
              exact ret _ _ _ dX11_tellOne_272 ⟨E.symm.trans hR, ⟨⟨(by omega), (fun h0 => by exfalso; omega), (fun h0 => by exfalso; omega), (by first | exact zlk0.tr zgk (by omega) | exact zLkp.eq rfl rfl rfl rfl rfl rfl rfl rfl rfl), hgN, hgH, hgE, hgL⟩, hI, hS⟩⟩
          · skip
            replace E := zIf_t c71 E
            refine zg_aload_n X 1 rfl dX11_tellOne_260 ?_
            refine zg_iconst X 1 dX11_tellOne_261 (by decide) (fun v78 _ hv78 => ?_)
            replace E := zLet_s (zcst hv78 (by decide)) E
            refine zg_cVv (As := [.int v78]) (st := []) X ha0 rfl (by decide) rfl (t_X11_fail l d L kd κ _ hI a0 ha0 v78  (by omega)) mk_X11_221 mc_X11_fail mz_X11 mi_X11_fail ml_X11_fail (na := 1) ⟨md_X11.1, md_X11.2, by decide +kernel⟩ rfl ⟨by decide, by decide⟩ (Nat.le_of_ble_eq_true rfl) dX11_tellOne_262 (fun t79 hq => ?_)
            obtain ⟨hF, ht79_fact0, hI, g80⟩ := hq
            replace E := zLet_s hF E
            have ft79_11 : (t79.1 a0 11).toInt = (σ.1 a0 11).toInt := by rw [g80.2.1 11 (by decide)]
            have ft79_12 : (t79.1 a0 12).toInt = (σ.1 a0 12).toInt := by rw [g80.2.1 12 (by decide)]
            have ft79_15 : (t79.1 a0 15).toInt = (σ.1 a0 15).toInt := by rw [g80.2.1 15 (by decide)]
            have ft79_18 : (t79.1 a0 18).toInt = (σ.1 a0 18).toInt := by rw [g80.2.1 18 (by decide)]
            have ft79_19 : (t79.1 a0 19).toInt = (σ.1 a0 19).toInt := by rw [g80.2.1 19 (by decide)]
            have ft79_32 : (t79.1 a0 32).toInt = (σ.1 a0 32).toInt := by rw [g80.2.1 32 (by decide)]
            have ft79_38 : (t79.1 a0 38).toInt = (σ.1 a0 38).toInt := by rw [g80.2.1 38 (by decide)]
            have ft79_41 : (t79.1 a0 41).toInt = (σ.1 a0 41).toInt := by rw [g80.2.1 41 (by decide)]
            have ft79_42 : (t79.1 a0 42).toInt = (σ.1 a0 42).toInt := by rw [g80.2.1 42 (by decide)]
            have hS := hS.tr g80 (by decide) (by decide)
            have at79_30 := zp_same hI ha0 g80 30 rfl (by decide) (by decide)
            have at79_31 := zp_same hI ha0 g80 31 rfl (by decide) (by decide)
            have at79_33 := zp_same hI ha0 g80 33 rfl (by decide) (by decide)
            have at79_34 := zp_same hI ha0 g80 34 rfl (by decide) (by decide)
            have at79_35 := zp_same hI ha0 g80 35 rfl (by decide) (by decide)
            have at79_36 := zp_same hI ha0 g80 36 rfl (by decide) (by decide)
            have at79_37 := zp_same hI ha0 g80 37 rfl (by decide) (by decide)
            have at79_39 := zp_same hI ha0 g80 39 rfl (by decide) (by decide)
            have at79_40 := zp_same hI ha0 g80 40 rfl (by decide) (by decide)
            have gNt79 := gN.same hI ha0 g80 (by decide) hgN
            have gHt79 := gH.same hI ha0 g80 (by decide) hgH
            have gEt79 := gE.same hI ha0 g80 (by decide) hgE
            have gLt79 := gL.same hI ha0 g80 (by decide) hgL
            have gPt79 := gP.same hI ha0 g80 (by decide) hgP
            have gTrt79 := gTr.same hI ha0 g80 (by decide) hgTr
            refine zg_aload_n X 1 rfl dX11_tellOne_265 ?_
            refine fg_X11_206 X hI ha0 dX11_tellOne_266 (fun v82 ev82 hv82 => ?_)
            replace E := zLet_s ev82 E
            have kv82 : (t79.1 a0 13).toInt = v82.toInt := by rw [ev82]
            refine zg_if_le X 273 dX11_tellOne_269 (by decide) (fun c83 => ?_) (fun c83 => ?_)
            · skip
              replace E := zIf_f (Int.not_lt.mpr c83) E
              refine zg_aload_n X 1 rfl dX11_tellOne_273 ?_
              refine zg_cVv (As := []) (st := []) X ha0 rfl (by decide) rfl (t_X11_goesOn l d L kd κ _ hI a0 ha0   ) mk_X11_227 mc_X11_goesOn mz_X11 mi_X11_goesOn ml_X11_goesOn (na := 0) ⟨md_X11.1, md_X11.2, by decide +kernel⟩ rfl ⟨by decide, by decide⟩ (Nat.le_of_ble_eq_true rfl) dX11_tellOne_274 (fun t84 hq => ?_)
              obtain ⟨hF, ht84_fact0, hI, g85⟩ := hq
              replace E := zLet_s hF E
              have ft84_12 : (t84.1 a0 12).toInt = (t79.1 a0 12).toInt := by rw [g85.2.1 12 (by decide)]
              have ft84_15 : (t84.1 a0 15).toInt = (t79.1 a0 15).toInt := by rw [g85.2.1 15 (by decide)]
              have ft84_18 : (t84.1 a0 18).toInt = (t79.1 a0 18).toInt := by rw [g85.2.1 18 (by decide)]
              have ft84_19 : (t84.1 a0 19).toInt = (t79.1 a0 19).toInt := by rw [g85.2.1 19 (by decide)]
              have ft84_32 : (t84.1 a0 32).toInt = (t79.1 a0 32).toInt := by rw [g85.2.1 32 (by decide)]
              have ft84_38 : (t84.1 a0 38).toInt = (t79.1 a0 38).toInt := by rw [g85.2.1 38 (by decide)]
              have ft84_41 : (t84.1 a0 41).toInt = (t79.1 a0 41).toInt := by rw [g85.2.1 41 (by decide)]
              have ft84_42 : (t84.1 a0 42).toInt = (t79.1 a0 42).toInt := by rw [g85.2.1 42 (by decide)]
              have hS := hS.tr g85 (by decide) (by decide)
              have at84_30 := (zp_same hI ha0 g85 30 rfl (by decide) (by decide)).trans at79_30
              have at84_31 := (zp_same hI ha0 g85 31 rfl (by decide) (by decide)).trans at79_31
              have at84_33 := (zp_same hI ha0 g85 33 rfl (by decide) (by decide)).trans at79_33
              have at84_34 := (zp_same hI ha0 g85 34 rfl (by decide) (by decide)).trans at79_34
              have at84_35 := (zp_same hI ha0 g85 35 rfl (by decide) (by decide)).trans at79_35
              have at84_36 := (zp_same hI ha0 g85 36 rfl (by decide) (by decide)).trans at79_36
              have at84_37 := (zp_same hI ha0 g85 37 rfl (by decide) (by decide)).trans at79_37
              have at84_39 := (zp_same hI ha0 g85 39 rfl (by decide) (by decide)).trans at79_39
              have at84_40 := (zp_same hI ha0 g85 40 rfl (by decide) (by decide)).trans at79_40
              have gNt84 := gN.same hI ha0 g85 (by decide) gNt79
              have gHt84 := gH.same hI ha0 g85 (by decide) gHt79
              have gEt84 := gE.same hI ha0 g85 (by decide) gEt79
              have gLt84 := gL.same hI ha0 g85 (by decide) gLt79
              have gPt84 := gP.same hI ha0 g85 (by decide) gPt79
              have gTrt84 := gTr.same hI ha0 g85 (by decide) gTrt79
              refine zg_aload_n X 1 rfl dX11_tellOne_277 ?_
              refine zg_iload_n X 0 rfl dX11_tellOne_278 ?_
              have zlk0 : zLkp a0 σ t84 := zLkp.eq at84_30 at84_31 at84_33 at84_34 at84_35 at84_36 at84_37 at84_39 at84_40
              refine zg_cVv (As := [.int v54]) (st := []) X ha0 rfl (by decide) rfl (t_X11_tellLaw l d L kd κ _ hI a0 ha0 v54  (by omega) (by omega) (by omega) (by omega) (by omega) gPt84 gLt84) mk_X11_277 mc_X11_tellLaw mz_X11 mi_X11_tellLaw ml_X11_tellLaw (na := 1) ⟨md_X11.1, md_X11.2, by decide +kernel⟩ rfl ⟨by decide, by decide⟩ (Nat.le_of_ble_eq_true rfl) dX11_tellOne_279 (fun t86 hq => ?_)
              obtain ⟨hF, ⟨ht86_fact0, ht86_fact1, ht86_fact2, gLt86⟩, hI, g87⟩ := hq
              replace E := zLet_s hF E
              have ft86_15 : (t86.1 a0 15).toInt = (t84.1 a0 15).toInt := by rw [g87.2.1 15 (by decide)]
              have ft86_18 : (t86.1 a0 18).toInt = (t84.1 a0 18).toInt := by rw [g87.2.1 18 (by decide)]
              have ft86_19 : (t86.1 a0 19).toInt = (t84.1 a0 19).toInt := by rw [g87.2.1 19 (by decide)]
              have ft86_41 : (t86.1 a0 41).toInt = (t84.1 a0 41).toInt := by rw [g87.2.1 41 (by decide)]
              have ft86_42 : (t86.1 a0 42).toInt = (t84.1 a0 42).toInt := by rw [g87.2.1 42 (by decide)]
              have hS := hS.tr g87 (by decide) (by decide)
              have gNt86 := gN.same hI ha0 g87 (by decide) gNt84
              have gHt86 := gH.same hI ha0 g87 (by decide) gHt84
              have gEt86 := gE.same hI ha0 g87 (by decide) gEt84
              have gTrt86 := gTr.same hI ha0 g87 (by decide) gTrt84
              have zgp := ht86_fact1
              have zgk := ht86_fact2
              clear ht86_fact2 ht86_fact1
              exact ret _ _ _ dX11_tellOne_282 ⟨E.symm.trans hR, ⟨⟨(by omega), (fun h0 => by first | exact True.intro | exact zgp h0), (fun h0 => by first | exact gTrt86 | exact zgt h0), (by first | exact zlk0.tr zgk (by omega) | exact zLkp.eq rfl rfl rfl rfl rfl rfl rfl rfl rfl), gNt86, gHt86, gEt86, gLt86⟩, hI, hS⟩⟩
            · skip
              replace E := zIf_t c83 E
              exact ret _ _ _ dX11_tellOne_272 ⟨E.symm.trans hR, ⟨⟨(by omega), (fun h0 => by exfalso; omega), (fun h0 => by exfalso; omega), (by first | exact zlk0.tr zgk (by omega) | exact zLkp.eq at79_30 at79_31 at79_33 at79_34 at79_35 at79_36 at79_37 at79_39 at79_40), gNt79, gHt79, gEt79, gLt79⟩, hI, hS⟩⟩
      · skip
        replace E := zIf_f q49 E
        by_cases q88 : v3.toInt = 23
        · refine zg_tabIn X 229 23 dX11_tellOne_9 q88 (by decide) (by decide) rfl (by decide) ?_
          replace E := zIf_t q88 E
          refine zg_aload_n X 0 rfl dX11_tellOne_229 ?_
          refine fg_X11_20 X hI ha0 dX11_tellOne_230 (fun v89 ev89 hv89 => ?_)
          replace E := zLet_s (zgr ev89) E
          refine zg_aload_n X 0 rfl dX11_tellOne_233 ?_
          refine fg_X11_209 X hI ha0 dX11_tellOne_234 (fun v90 ev90 hv90 => ?_)
          replace E := zLet_s ev90 E
          have kv90 : (σ.1 a0 11).toInt = v90.toInt := by rw [ev90]
          have mv90 : v90.toInt = v2.toInt := by rw [ev90, ← ev2]
          refine ag_105 X hI hv89 (by omega) (by omega) dX11_tellOne_237 (fun v91 ev91 _ => ?_)
          replace E := zLet_s ev91 E
          have qv91 := zp_ld ev89 ev91
          rw [← kv90] at qv91
          refine zg_bipush X 22 dX11_tellOne_238 (by decide) (fun v92 _ hv92 => ?_)
          replace E := zLet_s (zcst hv92 (by decide)) E
          refine zg_isub X dX11_tellOne_240 (by omega) (by omega) (fun v93 ev93 hv93 => ?_)
          replace E := zLet_s ev93 E
          refine zg_istore_n X [(1, .int v93), (0, .ref a0)] dX11_tellOne_241 (by decide) rfl ?_
          refine zg_iload_n X 0 rfl dX11_tellOne_242 ?_
          refine zg_if_lt X 260 dX11_tellOne_243 (by decide) (fun c94 => ?_) (fun c94 => ?_)
          · skip
            replace E := zIf_t c94 E
            refine zg_aload_n X 1 rfl dX11_tellOne_260 ?_
            refine zg_iconst X 1 dX11_tellOne_261 (by decide) (fun v95 _ hv95 => ?_)
            replace E := zLet_s (zcst hv95 (by decide)) E
            refine zg_cVv (As := [.int v95]) (st := []) X ha0 rfl (by decide) rfl (t_X11_fail l d L kd κ _ hI a0 ha0 v95  (by omega)) mk_X11_221 mc_X11_fail mz_X11 mi_X11_fail ml_X11_fail (na := 1) ⟨md_X11.1, md_X11.2, by decide +kernel⟩ rfl ⟨by decide, by decide⟩ (Nat.le_of_ble_eq_true rfl) dX11_tellOne_262 (fun t96 hq => ?_)
            obtain ⟨hF, ht96_fact0, hI, g97⟩ := hq
            replace E := zLet_s hF E
            have ft96_11 : (t96.1 a0 11).toInt = (σ.1 a0 11).toInt := by rw [g97.2.1 11 (by decide)]
            have ft96_12 : (t96.1 a0 12).toInt = (σ.1 a0 12).toInt := by rw [g97.2.1 12 (by decide)]
            have ft96_15 : (t96.1 a0 15).toInt = (σ.1 a0 15).toInt := by rw [g97.2.1 15 (by decide)]
            have ft96_18 : (t96.1 a0 18).toInt = (σ.1 a0 18).toInt := by rw [g97.2.1 18 (by decide)]
            have ft96_19 : (t96.1 a0 19).toInt = (σ.1 a0 19).toInt := by rw [g97.2.1 19 (by decide)]
            have ft96_32 : (t96.1 a0 32).toInt = (σ.1 a0 32).toInt := by rw [g97.2.1 32 (by decide)]
            have ft96_38 : (t96.1 a0 38).toInt = (σ.1 a0 38).toInt := by rw [g97.2.1 38 (by decide)]
            have ft96_41 : (t96.1 a0 41).toInt = (σ.1 a0 41).toInt := by rw [g97.2.1 41 (by decide)]
            have ft96_42 : (t96.1 a0 42).toInt = (σ.1 a0 42).toInt := by rw [g97.2.1 42 (by decide)]
            have hS := hS.tr g97 (by decide) (by decide)
            have at96_30 := zp_same hI ha0 g97 30 rfl (by decide) (by decide)
            have at96_31 := zp_same hI ha0 g97 31 rfl (by decide) (by decide)
            have at96_33 := zp_same hI ha0 g97 33 rfl (by decide) (by decide)
            have at96_34 := zp_same hI ha0 g97 34 rfl (by decide) (by decide)
            have at96_35 := zp_same hI ha0 g97 35 rfl (by decide) (by decide)
            have at96_36 := zp_same hI ha0 g97 36 rfl (by decide) (by decide)
            have at96_37 := zp_same hI ha0 g97 37 rfl (by decide) (by decide)
            have at96_39 := zp_same hI ha0 g97 39 rfl (by decide) (by decide)
            have at96_40 := zp_same hI ha0 g97 40 rfl (by decide) (by decide)
            have gNt96 := gN.same hI ha0 g97 (by decide) hgN
            have gHt96 := gH.same hI ha0 g97 (by decide) hgH
            have gEt96 := gE.same hI ha0 g97 (by decide) hgE
            have gLt96 := gL.same hI ha0 g97 (by decide) hgL
            have gPt96 := gP.same hI ha0 g97 (by decide) hgP
            have gTrt96 := gTr.same hI ha0 g97 (by decide) hgTr
            refine zg_aload_n X 1 rfl dX11_tellOne_265 ?_
            refine fg_X11_206 X hI ha0 dX11_tellOne_266 (fun v99 ev99 hv99 => ?_)
            replace E := zLet_s ev99 E
            have kv99 : (t96.1 a0 13).toInt = v99.toInt := by rw [ev99]
            refine zg_if_le X 273 dX11_tellOne_269 (by decide) (fun c100 => ?_) (fun c100 => ?_)
            · skip
              replace E := zIf_f (Int.not_lt.mpr c100) E
              refine zg_aload_n X 1 rfl dX11_tellOne_273 ?_
              refine zg_cVv (As := []) (st := []) X ha0 rfl (by decide) rfl (t_X11_goesOn l d L kd κ _ hI a0 ha0   ) mk_X11_227 mc_X11_goesOn mz_X11 mi_X11_goesOn ml_X11_goesOn (na := 0) ⟨md_X11.1, md_X11.2, by decide +kernel⟩ rfl ⟨by decide, by decide⟩ (Nat.le_of_ble_eq_true rfl) dX11_tellOne_274 (fun t101 hq => ?_)
              obtain ⟨hF, ht101_fact0, hI, g102⟩ := hq
              replace E := zLet_s hF E
              have ft101_12 : (t101.1 a0 12).toInt = (t96.1 a0 12).toInt := by rw [g102.2.1 12 (by decide)]
              have ft101_15 : (t101.1 a0 15).toInt = (t96.1 a0 15).toInt := by rw [g102.2.1 15 (by decide)]
              have ft101_18 : (t101.1 a0 18).toInt = (t96.1 a0 18).toInt := by rw [g102.2.1 18 (by decide)]
              have ft101_19 : (t101.1 a0 19).toInt = (t96.1 a0 19).toInt := by rw [g102.2.1 19 (by decide)]
              have ft101_32 : (t101.1 a0 32).toInt = (t96.1 a0 32).toInt := by rw [g102.2.1 32 (by decide)]
              have ft101_38 : (t101.1 a0 38).toInt = (t96.1 a0 38).toInt := by rw [g102.2.1 38 (by decide)]
              have ft101_41 : (t101.1 a0 41).toInt = (t96.1 a0 41).toInt := by rw [g102.2.1 41 (by decide)]
              have ft101_42 : (t101.1 a0 42).toInt = (t96.1 a0 42).toInt := by rw [g102.2.1 42 (by decide)]
              have hS := hS.tr g102 (by decide) (by decide)
              have at101_30 := (zp_same hI ha0 g102 30 rfl (by decide) (by decide)).trans at96_30
              have at101_31 := (zp_same hI ha0 g102 31 rfl (by decide) (by decide)).trans at96_31
              have at101_33 := (zp_same hI ha0 g102 33 rfl (by decide) (by decide)).trans at96_33
              have at101_34 := (zp_same hI ha0 g102 34 rfl (by decide) (by decide)).trans at96_34
              have at101_35 := (zp_same hI ha0 g102 35 rfl (by decide) (by decide)).trans at96_35
              have at101_36 := (zp_same hI ha0 g102 36 rfl (by decide) (by decide)).trans at96_36
              have at101_37 := (zp_same hI ha0 g102 37 rfl (by decide) (by decide)).trans at96_37
              have at101_39 := (zp_same hI ha0 g102 39 rfl (by decide) (by decide)).trans at96_39
              have at101_40 := (zp_same hI ha0 g102 40 rfl (by decide) (by decide)).trans at96_40
              have gNt101 := gN.same hI ha0 g102 (by decide) gNt96
              have gHt101 := gH.same hI ha0 g102 (by decide) gHt96
              have gEt101 := gE.same hI ha0 g102 (by decide) gEt96
              have gLt101 := gL.same hI ha0 g102 (by decide) gLt96
              have gPt101 := gP.same hI ha0 g102 (by decide) gPt96
              have gTrt101 := gTr.same hI ha0 g102 (by decide) gTrt96
              refine zg_aload_n X 1 rfl dX11_tellOne_277 ?_
              refine zg_iload_n X 0 rfl dX11_tellOne_278 ?_
              have zlk0 : zLkp a0 σ t101 := zLkp.eq at101_30 at101_31 at101_33 at101_34 at101_35 at101_36 at101_37 at101_39 at101_40
              refine zg_cVv (As := [.int v93]) (st := []) X ha0 rfl (by decide) rfl (t_X11_tellLaw l d L kd κ _ hI a0 ha0 v93  (by omega) (by omega) (by omega) (by omega) (by omega) gPt101 gLt101) mk_X11_277 mc_X11_tellLaw mz_X11 mi_X11_tellLaw ml_X11_tellLaw (na := 1) ⟨md_X11.1, md_X11.2, by decide +kernel⟩ rfl ⟨by decide, by decide⟩ (Nat.le_of_ble_eq_true rfl) dX11_tellOne_279 (fun t103 hq => ?_)
              obtain ⟨hF, ⟨ht103_fact0, ht103_fact1, ht103_fact2, gLt103⟩, hI, g104⟩ := hq
              replace E := zLet_s hF E
              have ft103_15 : (t103.1 a0 15).toInt = (t101.1 a0 15).toInt := by rw [g104.2.1 15 (by decide)]
              have ft103_18 : (t103.1 a0 18).toInt = (t101.1 a0 18).toInt := by rw [g104.2.1 18 (by decide)]
              have ft103_19 : (t103.1 a0 19).toInt = (t101.1 a0 19).toInt := by rw [g104.2.1 19 (by decide)]
              have ft103_41 : (t103.1 a0 41).toInt = (t101.1 a0 41).toInt := by rw [g104.2.1 41 (by decide)]
              have ft103_42 : (t103.1 a0 42).toInt = (t101.1 a0 42).toInt := by rw [g104.2.1 42 (by decide)]
              have hS := hS.tr g104 (by decide) (by decide)
              have gNt103 := gN.same hI ha0 g104 (by decide) gNt101
              have gHt103 := gH.same hI ha0 g104 (by decide) gHt101
              have gEt103 := gE.same hI ha0 g104 (by decide) gEt101
              have gTrt103 := gTr.same hI ha0 g104 (by decide) gTrt101
              have zgp := ht103_fact1
              have zgk := ht103_fact2
              clear ht103_fact2 ht103_fact1
              exact ret _ _ _ dX11_tellOne_282 ⟨E.symm.trans hR, ⟨⟨(by omega), (fun h0 => by first | exact True.intro | exact zgp h0), (fun h0 => by first | exact gTrt103 | exact zgt h0), (by first | exact zlk0.tr zgk (by omega) | exact zLkp.eq rfl rfl rfl rfl rfl rfl rfl rfl rfl), gNt103, gHt103, gEt103, gLt103⟩, hI, hS⟩⟩
            · skip
              replace E := zIf_t c100 E
              exact ret _ _ _ dX11_tellOne_272 ⟨E.symm.trans hR, ⟨⟨(by omega), (fun h0 => by exfalso; omega), (fun h0 => by exfalso; omega), (by first | exact zlk0.tr zgk (by omega) | exact zLkp.eq at96_30 at96_31 at96_33 at96_34 at96_35 at96_36 at96_37 at96_39 at96_40), gNt96, gHt96, gEt96, gLt96⟩, hI, hS⟩⟩
          · skip
            replace E := zIf_f (Int.not_lt.mpr c94) E
            refine zg_aload_n X 1 rfl dX11_tellOne_246 ?_
            refine fg_X11_20 X hI ha0 dX11_tellOne_247 (fun v105 ev105 hv105 => ?_)
            replace E := zLet_s (zgr ev105) E
            refine zg_aload_n X 1 rfl dX11_tellOne_250 ?_
            refine fg_X11_209 X hI ha0 dX11_tellOne_251 (fun v106 ev106 hv106 => ?_)
            replace E := zLet_s ev106 E
            have kv106 : (σ.1 a0 11).toInt = v106.toInt := by rw [ev106]
            have mv106 : v106.toInt = v90.toInt := by rw [ev106, ← ev90]
            refine ag_105 X hI hv105 (by omega) (by omega) dX11_tellOne_254 (fun v107 ev107 _ => ?_)
            replace E := zLet_s ev107 E
            have qv107 := zp_ld ev105 ev107
            rw [← kv106] at qv107
            refine zg_bipush X 26 dX11_tellOne_255 (by decide) (fun v108 _ hv108 => ?_)
            replace E := zLet_s (zcst hv108 (by decide)) E
            have zv107_z109 := zb_rng v107
            refine zg_icmp_le X 265 dX11_tellOne_257 (by decide) (fun c110 => ?_) (fun c110 => ?_)
            · skip
              replace E := zIf_f (Int.not_lt.mpr c110) E
              refine zg_aload_n X 1 rfl dX11_tellOne_265 ?_
              refine fg_X11_206 X hI ha0 dX11_tellOne_266 (fun v111 ev111 hv111 => ?_)
              replace E := zLet_s ev111 E
              have kv111 : (σ.1 a0 13).toInt = v111.toInt := by rw [ev111]
              refine zg_if_le X 273 dX11_tellOne_269 (by decide) (fun c112 => ?_) (fun c112 => ?_)
              · skip
                replace E := zIf_f (Int.not_lt.mpr c112) E
                refine zg_aload_n X 1 rfl dX11_tellOne_273 ?_
                refine zg_cVv (As := []) (st := []) X ha0 rfl (by decide) rfl (t_X11_goesOn l d L kd κ _ hI a0 ha0   ) mk_X11_227 mc_X11_goesOn mz_X11 mi_X11_goesOn ml_X11_goesOn (na := 0) ⟨md_X11.1, md_X11.2, by decide +kernel⟩ rfl ⟨by decide, by decide⟩ (Nat.le_of_ble_eq_true rfl) dX11_tellOne_274 (fun t113 hq => ?_)
                obtain ⟨hF, ht113_fact0, hI, g114⟩ := hq
                replace E := zLet_s hF E
                have ft113_12 : (t113.1 a0 12).toInt = (σ.1 a0 12).toInt := by rw [g114.2.1 12 (by decide)]
                have ft113_15 : (t113.1 a0 15).toInt = (σ.1 a0 15).toInt := by rw [g114.2.1 15 (by decide)]
                have ft113_18 : (t113.1 a0 18).toInt = (σ.1 a0 18).toInt := by rw [g114.2.1 18 (by decide)]
                have ft113_19 : (t113.1 a0 19).toInt = (σ.1 a0 19).toInt := by rw [g114.2.1 19 (by decide)]
                have ft113_32 : (t113.1 a0 32).toInt = (σ.1 a0 32).toInt := by rw [g114.2.1 32 (by decide)]
                have ft113_38 : (t113.1 a0 38).toInt = (σ.1 a0 38).toInt := by rw [g114.2.1 38 (by decide)]
                have ft113_41 : (t113.1 a0 41).toInt = (σ.1 a0 41).toInt := by rw [g114.2.1 41 (by decide)]
                have ft113_42 : (t113.1 a0 42).toInt = (σ.1 a0 42).toInt := by rw [g114.2.1 42 (by decide)]
                have hS := hS.tr g114 (by decide) (by decide)
                have at113_30 := zp_same hI ha0 g114 30 rfl (by decide) (by decide)
                have at113_31 := zp_same hI ha0 g114 31 rfl (by decide) (by decide)
                have at113_33 := zp_same hI ha0 g114 33 rfl (by decide) (by decide)
                have at113_34 := zp_same hI ha0 g114 34 rfl (by decide) (by decide)
                have at113_35 := zp_same hI ha0 g114 35 rfl (by decide) (by decide)
                have at113_36 := zp_same hI ha0 g114 36 rfl (by decide) (by decide)
                have at113_37 := zp_same hI ha0 g114 37 rfl (by decide) (by decide)
                have at113_39 := zp_same hI ha0 g114 39 rfl (by decide) (by decide)
                have at113_40 := zp_same hI ha0 g114 40 rfl (by decide) (by decide)
                have gNt113 := gN.same hI ha0 g114 (by decide) hgN
                have gHt113 := gH.same hI ha0 g114 (by decide) hgH
                have gEt113 := gE.same hI ha0 g114 (by decide) hgE
                have gLt113 := gL.same hI ha0 g114 (by decide) hgL
                have gPt113 := gP.same hI ha0 g114 (by decide) hgP
                have gTrt113 := gTr.same hI ha0 g114 (by decide) hgTr
                refine zg_aload_n X 1 rfl dX11_tellOne_277 ?_
                refine zg_iload_n X 0 rfl dX11_tellOne_278 ?_
                have zlk0 : zLkp a0 σ t113 := zLkp.eq at113_30 at113_31 at113_33 at113_34 at113_35 at113_36 at113_37 at113_39 at113_40
                refine zg_cVv (As := [.int v93]) (st := []) X ha0 rfl (by decide) rfl (t_X11_tellLaw l d L kd κ _ hI a0 ha0 v93  (by omega) (by omega) (by omega) (by omega) (by omega) gPt113 gLt113) mk_X11_277 mc_X11_tellLaw mz_X11 mi_X11_tellLaw ml_X11_tellLaw (na := 1) ⟨md_X11.1, md_X11.2, by decide +kernel⟩ rfl ⟨by decide, by decide⟩ (Nat.le_of_ble_eq_true rfl) dX11_tellOne_279 (fun t115 hq => ?_)
                obtain ⟨hF, ⟨ht115_fact0, ht115_fact1, ht115_fact2, gLt115⟩, hI, g116⟩ := hq
                replace E := zLet_s hF E
                have ft115_15 : (t115.1 a0 15).toInt = (t113.1 a0 15).toInt := by rw [g116.2.1 15 (by decide)]
                have ft115_18 : (t115.1 a0 18).toInt = (t113.1 a0 18).toInt := by rw [g116.2.1 18 (by decide)]
                have ft115_19 : (t115.1 a0 19).toInt = (t113.1 a0 19).toInt := by rw [g116.2.1 19 (by decide)]
                have ft115_41 : (t115.1 a0 41).toInt = (t113.1 a0 41).toInt := by rw [g116.2.1 41 (by decide)]
                have ft115_42 : (t115.1 a0 42).toInt = (t113.1 a0 42).toInt := by rw [g116.2.1 42 (by decide)]
                have hS := hS.tr g116 (by decide) (by decide)
                have gNt115 := gN.same hI ha0 g116 (by decide) gNt113
                have gHt115 := gH.same hI ha0 g116 (by decide) gHt113
                have gEt115 := gE.same hI ha0 g116 (by decide) gEt113
                have gTrt115 := gTr.same hI ha0 g116 (by decide) gTrt113
                have zgp := ht115_fact1
                have zgk := ht115_fact2
                clear ht115_fact2 ht115_fact1
                exact ret _ _ _ dX11_tellOne_282 ⟨E.symm.trans hR, ⟨⟨(by omega), (fun h0 => by first | exact True.intro | exact zgp h0), (fun h0 => by first | exact gTrt115 | exact zgt h0), (by first | exact zlk0.tr zgk (by omega) | exact zLkp.eq rfl rfl rfl rfl rfl rfl rfl rfl rfl), gNt115, gHt115, gEt115, gLt115⟩, hI, hS⟩⟩
              · skip
                replace E := zIf_t c112 E
                exact ret _ _ _ dX11_tellOne_272 ⟨E.symm.trans hR, ⟨⟨(by omega), (fun h0 => by exfalso; omega), (fun h0 => by exfalso; omega), (by first | exact zlk0.tr zgk (by omega) | exact zLkp.eq rfl rfl rfl rfl rfl rfl rfl rfl rfl), hgN, hgH, hgE, hgL⟩, hI, hS⟩⟩
            · skip
              replace E := zIf_t c110 E
              refine zg_aload_n X 1 rfl dX11_tellOne_260 ?_
              refine zg_iconst X 1 dX11_tellOne_261 (by decide) (fun v117 _ hv117 => ?_)
              replace E := zLet_s (zcst hv117 (by decide)) E
              refine zg_cVv (As := [.int v117]) (st := []) X ha0 rfl (by decide) rfl (t_X11_fail l d L kd κ _ hI a0 ha0 v117  (by omega)) mk_X11_221 mc_X11_fail mz_X11 mi_X11_fail ml_X11_fail (na := 1) ⟨md_X11.1, md_X11.2, by decide +kernel⟩ rfl ⟨by decide, by decide⟩ (Nat.le_of_ble_eq_true rfl) dX11_tellOne_262 (fun t118 hq => ?_)
              obtain ⟨hF, ht118_fact0, hI, g119⟩ := hq
              replace E := zLet_s hF E
              have ft118_11 : (t118.1 a0 11).toInt = (σ.1 a0 11).toInt := by rw [g119.2.1 11 (by decide)]
              have ft118_12 : (t118.1 a0 12).toInt = (σ.1 a0 12).toInt := by rw [g119.2.1 12 (by decide)]
              have ft118_15 : (t118.1 a0 15).toInt = (σ.1 a0 15).toInt := by rw [g119.2.1 15 (by decide)]
              have ft118_18 : (t118.1 a0 18).toInt = (σ.1 a0 18).toInt := by rw [g119.2.1 18 (by decide)]
              have ft118_19 : (t118.1 a0 19).toInt = (σ.1 a0 19).toInt := by rw [g119.2.1 19 (by decide)]
              have ft118_32 : (t118.1 a0 32).toInt = (σ.1 a0 32).toInt := by rw [g119.2.1 32 (by decide)]
              have ft118_38 : (t118.1 a0 38).toInt = (σ.1 a0 38).toInt := by rw [g119.2.1 38 (by decide)]
              have ft118_41 : (t118.1 a0 41).toInt = (σ.1 a0 41).toInt := by rw [g119.2.1 41 (by decide)]
              have ft118_42 : (t118.1 a0 42).toInt = (σ.1 a0 42).toInt := by rw [g119.2.1 42 (by decide)]
              have hS := hS.tr g119 (by decide) (by decide)
              have at118_30 := zp_same hI ha0 g119 30 rfl (by decide) (by decide)
              have at118_31 := zp_same hI ha0 g119 31 rfl (by decide) (by decide)
              have at118_33 := zp_same hI ha0 g119 33 rfl (by decide) (by decide)
              have at118_34 := zp_same hI ha0 g119 34 rfl (by decide) (by decide)
              have at118_35 := zp_same hI ha0 g119 35 rfl (by decide) (by decide)
              have at118_36 := zp_same hI ha0 g119 36 rfl (by decide) (by decide)
              have at118_37 := zp_same hI ha0 g119 37 rfl (by decide) (by decide)
              have at118_39 := zp_same hI ha0 g119 39 rfl (by decide) (by decide)
              have at118_40 := zp_same hI ha0 g119 40 rfl (by decide) (by decide)
              have gNt118 := gN.same hI ha0 g119 (by decide) hgN
              have gHt118 := gH.same hI ha0 g119 (by decide) hgH
              have gEt118 := gE.same hI ha0 g119 (by decide) hgE
              have gLt118 := gL.same hI ha0 g119 (by decide) hgL
              have gPt118 := gP.same hI ha0 g119 (by decide) hgP
              have gTrt118 := gTr.same hI ha0 g119 (by decide) hgTr
              refine zg_aload_n X 1 rfl dX11_tellOne_265 ?_
              refine fg_X11_206 X hI ha0 dX11_tellOne_266 (fun v121 ev121 hv121 => ?_)
              replace E := zLet_s ev121 E
              have kv121 : (t118.1 a0 13).toInt = v121.toInt := by rw [ev121]
              refine zg_if_le X 273 dX11_tellOne_269 (by decide) (fun c122 => ?_) (fun c122 => ?_)
              · skip
                replace E := zIf_f (Int.not_lt.mpr c122) E
                refine zg_aload_n X 1 rfl dX11_tellOne_273 ?_
                refine zg_cVv (As := []) (st := []) X ha0 rfl (by decide) rfl (t_X11_goesOn l d L kd κ _ hI a0 ha0   ) mk_X11_227 mc_X11_goesOn mz_X11 mi_X11_goesOn ml_X11_goesOn (na := 0) ⟨md_X11.1, md_X11.2, by decide +kernel⟩ rfl ⟨by decide, by decide⟩ (Nat.le_of_ble_eq_true rfl) dX11_tellOne_274 (fun t123 hq => ?_)
                obtain ⟨hF, ht123_fact0, hI, g124⟩ := hq
                replace E := zLet_s hF E
                have ft123_12 : (t123.1 a0 12).toInt = (t118.1 a0 12).toInt := by rw [g124.2.1 12 (by decide)]
                have ft123_15 : (t123.1 a0 15).toInt = (t118.1 a0 15).toInt := by rw [g124.2.1 15 (by decide)]
                have ft123_18 : (t123.1 a0 18).toInt = (t118.1 a0 18).toInt := by rw [g124.2.1 18 (by decide)]
                have ft123_19 : (t123.1 a0 19).toInt = (t118.1 a0 19).toInt := by rw [g124.2.1 19 (by decide)]
                have ft123_32 : (t123.1 a0 32).toInt = (t118.1 a0 32).toInt := by rw [g124.2.1 32 (by decide)]
                have ft123_38 : (t123.1 a0 38).toInt = (t118.1 a0 38).toInt := by rw [g124.2.1 38 (by decide)]
                have ft123_41 : (t123.1 a0 41).toInt = (t118.1 a0 41).toInt := by rw [g124.2.1 41 (by decide)]
                have ft123_42 : (t123.1 a0 42).toInt = (t118.1 a0 42).toInt := by rw [g124.2.1 42 (by decide)]
                have hS := hS.tr g124 (by decide) (by decide)
                have at123_30 := (zp_same hI ha0 g124 30 rfl (by decide) (by decide)).trans at118_30
                have at123_31 := (zp_same hI ha0 g124 31 rfl (by decide) (by decide)).trans at118_31
                have at123_33 := (zp_same hI ha0 g124 33 rfl (by decide) (by decide)).trans at118_33
                have at123_34 := (zp_same hI ha0 g124 34 rfl (by decide) (by decide)).trans at118_34
                have at123_35 := (zp_same hI ha0 g124 35 rfl (by decide) (by decide)).trans at118_35
                have at123_36 := (zp_same hI ha0 g124 36 rfl (by decide) (by decide)).trans at118_36
                have at123_37 := (zp_same hI ha0 g124 37 rfl (by decide) (by decide)).trans at118_37
                have at123_39 := (zp_same hI ha0 g124 39 rfl (by decide) (by decide)).trans at118_39
                have at123_40 := (zp_same hI ha0 g124 40 rfl (by decide) (by decide)).trans at118_40
                have gNt123 := gN.same hI ha0 g124 (by decide) gNt118
                have gHt123 := gH.same hI ha0 g124 (by decide) gHt118
                have gEt123 := gE.same hI ha0 g124 (by decide) gEt118
                have gLt123 := gL.same hI ha0 g124 (by decide) gLt118
                have gPt123 := gP.same hI ha0 g124 (by decide) gPt118
                have gTrt123 := gTr.same hI ha0 g124 (by decide) gTrt118
                refine zg_aload_n X 1 rfl dX11_tellOne_277 ?_
                refine zg_iload_n X 0 rfl dX11_tellOne_278 ?_
                have zlk0 : zLkp a0 σ t123 := zLkp.eq at123_30 at123_31 at123_33 at123_34 at123_35 at123_36 at123_37 at123_39 at123_40
                refine zg_cVv (As := [.int v93]) (st := []) X ha0 rfl (by decide) rfl (t_X11_tellLaw l d L kd κ _ hI a0 ha0 v93  (by omega) (by omega) (by omega) (by omega) (by omega) gPt123 gLt123) mk_X11_277 mc_X11_tellLaw mz_X11 mi_X11_tellLaw ml_X11_tellLaw (na := 1) ⟨md_X11.1, md_X11.2, by decide +kernel⟩ rfl ⟨by decide, by decide⟩ (Nat.le_of_ble_eq_true rfl) dX11_tellOne_279 (fun t125 hq => ?_)
                obtain ⟨hF, ⟨ht125_fact0, ht125_fact1, ht125_fact2, gLt125⟩, hI, g126⟩ := hq
                replace E := zLet_s hF E
                have ft125_15 : (t125.1 a0 15).toInt = (t123.1 a0 15).toInt := by rw [g126.2.1 15 (by decide)]
                have ft125_18 : (t125.1 a0 18).toInt = (t123.1 a0 18).toInt := by rw [g126.2.1 18 (by decide)]
                have ft125_19 : (t125.1 a0 19).toInt = (t123.1 a0 19).toInt := by rw [g126.2.1 19 (by decide)]
                have ft125_41 : (t125.1 a0 41).toInt = (t123.1 a0 41).toInt := by rw [g126.2.1 41 (by decide)]
                have ft125_42 : (t125.1 a0 42).toInt = (t123.1 a0 42).toInt := by rw [g126.2.1 42 (by decide)]
                have hS := hS.tr g126 (by decide) (by decide)
                have gNt125 := gN.same hI ha0 g126 (by decide) gNt123
                have gHt125 := gH.same hI ha0 g126 (by decide) gHt123
                have gEt125 := gE.same hI ha0 g126 (by decide) gEt123
                have gTrt125 := gTr.same hI ha0 g126 (by decide) gTrt123
                have zgp := ht125_fact1
                have zgk := ht125_fact2
                clear ht125_fact2 ht125_fact1
                exact ret _ _ _ dX11_tellOne_282 ⟨E.symm.trans hR, ⟨⟨(by omega), (fun h0 => by first | exact True.intro | exact zgp h0), (fun h0 => by first | exact gTrt125 | exact zgt h0), (by first | exact zlk0.tr zgk (by omega) | exact zLkp.eq rfl rfl rfl rfl rfl rfl rfl rfl rfl), gNt125, gHt125, gEt125, gLt125⟩, hI, hS⟩⟩
              · skip
                replace E := zIf_t c122 E
                exact ret _ _ _ dX11_tellOne_272 ⟨E.symm.trans hR, ⟨⟨(by omega), (fun h0 => by exfalso; omega), (fun h0 => by exfalso; omega), (by first | exact zlk0.tr zgk (by omega) | exact zLkp.eq at118_30 at118_31 at118_33 at118_34 at118_35 at118_36 at118_37 at118_39 at118_40), gNt118, gHt118, gEt118, gLt118⟩, hI, hS⟩⟩
        · skip
          replace E := zIf_f q88 E
          by_cases q127 : v3.toInt = 24
          · refine zg_tabIn X 229 24 dX11_tellOne_9 q127 (by decide) (by decide) rfl (by decide) ?_
            replace E := zIf_t q127 E
            refine zg_aload_n X 0 rfl dX11_tellOne_229 ?_
            refine fg_X11_20 X hI ha0 dX11_tellOne_230 (fun v128 ev128 hv128 => ?_)
            replace E := zLet_s (zgr ev128) E
            refine zg_aload_n X 0 rfl dX11_tellOne_233 ?_
            refine fg_X11_209 X hI ha0 dX11_tellOne_234 (fun v129 ev129 hv129 => ?_)
            replace E := zLet_s ev129 E
            have kv129 : (σ.1 a0 11).toInt = v129.toInt := by rw [ev129]
            have mv129 : v129.toInt = v2.toInt := by rw [ev129, ← ev2]
            refine ag_105 X hI hv128 (by omega) (by omega) dX11_tellOne_237 (fun v130 ev130 _ => ?_)
            replace E := zLet_s ev130 E
            have qv130 := zp_ld ev128 ev130
            rw [← kv129] at qv130
            refine zg_bipush X 22 dX11_tellOne_238 (by decide) (fun v131 _ hv131 => ?_)
            replace E := zLet_s (zcst hv131 (by decide)) E
            refine zg_isub X dX11_tellOne_240 (by omega) (by omega) (fun v132 ev132 hv132 => ?_)
            replace E := zLet_s ev132 E
            refine zg_istore_n X [(1, .int v132), (0, .ref a0)] dX11_tellOne_241 (by decide) rfl ?_
            refine zg_iload_n X 0 rfl dX11_tellOne_242 ?_
            refine zg_if_lt X 260 dX11_tellOne_243 (by decide) (fun c133 => ?_) (fun c133 => ?_)
            · skip
              replace E := zIf_t c133 E
              refine zg_aload_n X 1 rfl dX11_tellOne_260 ?_
              refine zg_iconst X 1 dX11_tellOne_261 (by decide) (fun v134 _ hv134 => ?_)
              replace E := zLet_s (zcst hv134 (by decide)) E
              refine zg_cVv (As := [.int v134]) (st := []) X ha0 rfl (by decide) rfl (t_X11_fail l d L kd κ _ hI a0 ha0 v134  (by omega)) mk_X11_221 mc_X11_fail mz_X11 mi_X11_fail ml_X11_fail (na := 1) ⟨md_X11.1, md_X11.2, by decide +kernel⟩ rfl ⟨by decide, by decide⟩ (Nat.le_of_ble_eq_true rfl) dX11_tellOne_262 (fun t135 hq => ?_)
              obtain ⟨hF, ht135_fact0, hI, g136⟩ := hq
              replace E := zLet_s hF E
              have ft135_11 : (t135.1 a0 11).toInt = (σ.1 a0 11).toInt := by rw [g136.2.1 11 (by decide)]
              have ft135_12 : (t135.1 a0 12).toInt = (σ.1 a0 12).toInt := by rw [g136.2.1 12 (by decide)]
              have ft135_15 : (t135.1 a0 15).toInt = (σ.1 a0 15).toInt := by rw [g136.2.1 15 (by decide)]
              have ft135_18 : (t135.1 a0 18).toInt = (σ.1 a0 18).toInt := by rw [g136.2.1 18 (by decide)]
              have ft135_19 : (t135.1 a0 19).toInt = (σ.1 a0 19).toInt := by rw [g136.2.1 19 (by decide)]
              have ft135_32 : (t135.1 a0 32).toInt = (σ.1 a0 32).toInt := by rw [g136.2.1 32 (by decide)]
              have ft135_38 : (t135.1 a0 38).toInt = (σ.1 a0 38).toInt := by rw [g136.2.1 38 (by decide)]
              have ft135_41 : (t135.1 a0 41).toInt = (σ.1 a0 41).toInt := by rw [g136.2.1 41 (by decide)]
              have ft135_42 : (t135.1 a0 42).toInt = (σ.1 a0 42).toInt := by rw [g136.2.1 42 (by decide)]
              have hS := hS.tr g136 (by decide) (by decide)
              have at135_30 := zp_same hI ha0 g136 30 rfl (by decide) (by decide)
              have at135_31 := zp_same hI ha0 g136 31 rfl (by decide) (by decide)
              have at135_33 := zp_same hI ha0 g136 33 rfl (by decide) (by decide)
              have at135_34 := zp_same hI ha0 g136 34 rfl (by decide) (by decide)
              have at135_35 := zp_same hI ha0 g136 35 rfl (by decide) (by decide)
              have at135_36 := zp_same hI ha0 g136 36 rfl (by decide) (by decide)
              have at135_37 := zp_same hI ha0 g136 37 rfl (by decide) (by decide)
              have at135_39 := zp_same hI ha0 g136 39 rfl (by decide) (by decide)
              have at135_40 := zp_same hI ha0 g136 40 rfl (by decide) (by decide)
              have gNt135 := gN.same hI ha0 g136 (by decide) hgN
              have gHt135 := gH.same hI ha0 g136 (by decide) hgH
              have gEt135 := gE.same hI ha0 g136 (by decide) hgE
              have gLt135 := gL.same hI ha0 g136 (by decide) hgL
              have gPt135 := gP.same hI ha0 g136 (by decide) hgP
              have gTrt135 := gTr.same hI ha0 g136 (by decide) hgTr
              refine zg_aload_n X 1 rfl dX11_tellOne_265 ?_
              refine fg_X11_206 X hI ha0 dX11_tellOne_266 (fun v138 ev138 hv138 => ?_)
              replace E := zLet_s ev138 E
              have kv138 : (t135.1 a0 13).toInt = v138.toInt := by rw [ev138]
              refine zg_if_le X 273 dX11_tellOne_269 (by decide) (fun c139 => ?_) (fun c139 => ?_)
              · skip
                replace E := zIf_f (Int.not_lt.mpr c139) E
                refine zg_aload_n X 1 rfl dX11_tellOne_273 ?_
                refine zg_cVv (As := []) (st := []) X ha0 rfl (by decide) rfl (t_X11_goesOn l d L kd κ _ hI a0 ha0   ) mk_X11_227 mc_X11_goesOn mz_X11 mi_X11_goesOn ml_X11_goesOn (na := 0) ⟨md_X11.1, md_X11.2, by decide +kernel⟩ rfl ⟨by decide, by decide⟩ (Nat.le_of_ble_eq_true rfl) dX11_tellOne_274 (fun t140 hq => ?_)
                obtain ⟨hF, ht140_fact0, hI, g141⟩ := hq
                replace E := zLet_s hF E
                have ft140_12 : (t140.1 a0 12).toInt = (t135.1 a0 12).toInt := by rw [g141.2.1 12 (by decide)]
                have ft140_15 : (t140.1 a0 15).toInt = (t135.1 a0 15).toInt := by rw [g141.2.1 15 (by decide)]
                have ft140_18 : (t140.1 a0 18).toInt = (t135.1 a0 18).toInt := by rw [g141.2.1 18 (by decide)]
                have ft140_19 : (t140.1 a0 19).toInt = (t135.1 a0 19).toInt := by rw [g141.2.1 19 (by decide)]
                have ft140_32 : (t140.1 a0 32).toInt = (t135.1 a0 32).toInt := by rw [g141.2.1 32 (by decide)]
                have ft140_38 : (t140.1 a0 38).toInt = (t135.1 a0 38).toInt := by rw [g141.2.1 38 (by decide)]
                have ft140_41 : (t140.1 a0 41).toInt = (t135.1 a0 41).toInt := by rw [g141.2.1 41 (by decide)]
                have ft140_42 : (t140.1 a0 42).toInt = (t135.1 a0 42).toInt := by rw [g141.2.1 42 (by decide)]
                have hS := hS.tr g141 (by decide) (by decide)
                have at140_30 := (zp_same hI ha0 g141 30 rfl (by decide) (by decide)).trans at135_30
                have at140_31 := (zp_same hI ha0 g141 31 rfl (by decide) (by decide)).trans at135_31
                have at140_33 := (zp_same hI ha0 g141 33 rfl (by decide) (by decide)).trans at135_33
                have at140_34 := (zp_same hI ha0 g141 34 rfl (by decide) (by decide)).trans at135_34
                have at140_35 := (zp_same hI ha0 g141 35 rfl (by decide) (by decide)).trans at135_35
                have at140_36 := (zp_same hI ha0 g141 36 rfl (by decide) (by decide)).trans at135_36
                have at140_37 := (zp_same hI ha0 g141 37 rfl (by decide) (by decide)).trans at135_37
                have at140_39 := (zp_same hI ha0 g141 39 rfl (by decide) (by decide)).trans at135_39
                have at140_40 := (zp_same hI ha0 g141 40 rfl (by decide) (by decide)).trans at135_40
                have gNt140 := gN.same hI ha0 g141 (by decide) gNt135
                have gHt140 := gH.same hI ha0 g141 (by decide) gHt135
                have gEt140 := gE.same hI ha0 g141 (by decide) gEt135
                have gLt140 := gL.same hI ha0 g141 (by decide) gLt135
                have gPt140 := gP.same hI ha0 g141 (by decide) gPt135
                have gTrt140 := gTr.same hI ha0 g141 (by decide) gTrt135
                refine zg_aload_n X 1 rfl dX11_tellOne_277 ?_
                refine zg_iload_n X 0 rfl dX11_tellOne_278 ?_
                have zlk0 : zLkp a0 σ t140 := zLkp.eq at140_30 at140_31 at140_33 at140_34 at140_35 at140_36 at140_37 at140_39 at140_40
                refine zg_cVv (As := [.int v132]) (st := []) X ha0 rfl (by decide) rfl (t_X11_tellLaw l d L kd κ _ hI a0 ha0 v132  (by omega) (by omega) (by omega) (by omega) (by omega) gPt140 gLt140) mk_X11_277 mc_X11_tellLaw mz_X11 mi_X11_tellLaw ml_X11_tellLaw (na := 1) ⟨md_X11.1, md_X11.2, by decide +kernel⟩ rfl ⟨by decide, by decide⟩ (Nat.le_of_ble_eq_true rfl) dX11_tellOne_279 (fun t142 hq => ?_)
                obtain ⟨hF, ⟨ht142_fact0, ht142_fact1, ht142_fact2, gLt142⟩, hI, g143⟩ := hq
                replace E := zLet_s hF E
                have ft142_15 : (t142.1 a0 15).toInt = (t140.1 a0 15).toInt := by rw [g143.2.1 15 (by decide)]
                have ft142_18 : (t142.1 a0 18).toInt = (t140.1 a0 18).toInt := by rw [g143.2.1 18 (by decide)]
                have ft142_19 : (t142.1 a0 19).toInt = (t140.1 a0 19).toInt := by rw [g143.2.1 19 (by decide)]
                have ft142_41 : (t142.1 a0 41).toInt = (t140.1 a0 41).toInt := by rw [g143.2.1 41 (by decide)]
                have ft142_42 : (t142.1 a0 42).toInt = (t140.1 a0 42).toInt := by rw [g143.2.1 42 (by decide)]
                have hS := hS.tr g143 (by decide) (by decide)
                have gNt142 := gN.same hI ha0 g143 (by decide) gNt140
                have gHt142 := gH.same hI ha0 g143 (by decide) gHt140
                have gEt142 := gE.same hI ha0 g143 (by decide) gEt140
                have gTrt142 := gTr.same hI ha0 g143 (by decide) gTrt140
                have zgp := ht142_fact1
                have zgk := ht142_fact2
                clear ht142_fact2 ht142_fact1
                exact ret _ _ _ dX11_tellOne_282 ⟨E.symm.trans hR, ⟨⟨(by omega), (fun h0 => by first | exact True.intro | exact zgp h0), (fun h0 => by first | exact gTrt142 | exact zgt h0), (by first | exact zlk0.tr zgk (by omega) | exact zLkp.eq rfl rfl rfl rfl rfl rfl rfl rfl rfl), gNt142, gHt142, gEt142, gLt142⟩, hI, hS⟩⟩
              · skip
                replace E := zIf_t c139 E
                exact ret _ _ _ dX11_tellOne_272 ⟨E.symm.trans hR, ⟨⟨(by omega), (fun h0 => by exfalso; omega), (fun h0 => by exfalso; omega), (by first | exact zlk0.tr zgk (by omega) | exact zLkp.eq at135_30 at135_31 at135_33 at135_34 at135_35 at135_36 at135_37 at135_39 at135_40), gNt135, gHt135, gEt135, gLt135⟩, hI, hS⟩⟩
            · skip
              replace E := zIf_f (Int.not_lt.mpr c133) E
              refine zg_aload_n X 1 rfl dX11_tellOne_246 ?_
              refine fg_X11_20 X hI ha0 dX11_tellOne_247 (fun v144 ev144 hv144 => ?_)
              replace E := zLet_s (zgr ev144) E
              refine zg_aload_n X 1 rfl dX11_tellOne_250 ?_
              refine fg_X11_209 X hI ha0 dX11_tellOne_251 (fun v145 ev145 hv145 => ?_)
              replace E := zLet_s ev145 E
              have kv145 : (σ.1 a0 11).toInt = v145.toInt := by rw [ev145]
              have mv145 : v145.toInt = v129.toInt := by rw [ev145, ← ev129]
              refine ag_105 X hI hv144 (by omega) (by omega) dX11_tellOne_254 (fun v146 ev146 _ => ?_)
              replace E := zLet_s ev146 E
              have qv146 := zp_ld ev144 ev146
              rw [← kv145] at qv146
              refine zg_bipush X 26 dX11_tellOne_255 (by decide) (fun v147 _ hv147 => ?_)
              replace E := zLet_s (zcst hv147 (by decide)) E
              have zv146_z148 := zb_rng v146
              refine zg_icmp_le X 265 dX11_tellOne_257 (by decide) (fun c149 => ?_) (fun c149 => ?_)
              · skip
                replace E := zIf_f (Int.not_lt.mpr c149) E
                refine zg_aload_n X 1 rfl dX11_tellOne_265 ?_
                refine fg_X11_206 X hI ha0 dX11_tellOne_266 (fun v150 ev150 hv150 => ?_)
                replace E := zLet_s ev150 E
                have kv150 : (σ.1 a0 13).toInt = v150.toInt := by rw [ev150]
                refine zg_if_le X 273 dX11_tellOne_269 (by decide) (fun c151 => ?_) (fun c151 => ?_)
                · skip
                  replace E := zIf_f (Int.not_lt.mpr c151) E
                  refine zg_aload_n X 1 rfl dX11_tellOne_273 ?_
                  refine zg_cVv (As := []) (st := []) X ha0 rfl (by decide) rfl (t_X11_goesOn l d L kd κ _ hI a0 ha0   ) mk_X11_227 mc_X11_goesOn mz_X11 mi_X11_goesOn ml_X11_goesOn (na := 0) ⟨md_X11.1, md_X11.2, by decide +kernel⟩ rfl ⟨by decide, by decide⟩ (Nat.le_of_ble_eq_true rfl) dX11_tellOne_274 (fun t152 hq => ?_)
                  obtain ⟨hF, ht152_fact0, hI, g153⟩ := hq
                  replace E := zLet_s hF E
                  have ft152_12 : (t152.1 a0 12).toInt = (σ.1 a0 12).toInt := by rw [g153.2.1 12 (by decide)]
                  have ft152_15 : (t152.1 a0 15).toInt = (σ.1 a0 15).toInt := by rw [g153.2.1 15 (by decide)]
                  have ft152_18 : (t152.1 a0 18).toInt = (σ.1 a0 18).toInt := by rw [g153.2.1 18 (by decide)]
                  have ft152_19 : (t152.1 a0 19).toInt = (σ.1 a0 19).toInt := by rw [g153.2.1 19 (by decide)]
                  have ft152_32 : (t152.1 a0 32).toInt = (σ.1 a0 32).toInt := by rw [g153.2.1 32 (by decide)]
                  have ft152_38 : (t152.1 a0 38).toInt = (σ.1 a0 38).toInt := by rw [g153.2.1 38 (by decide)]
                  have ft152_41 : (t152.1 a0 41).toInt = (σ.1 a0 41).toInt := by rw [g153.2.1 41 (by decide)]
                  have ft152_42 : (t152.1 a0 42).toInt = (σ.1 a0 42).toInt := by rw [g153.2.1 42 (by decide)]
                  have hS := hS.tr g153 (by decide) (by decide)
                  have at152_30 := zp_same hI ha0 g153 30 rfl (by decide) (by decide)
                  have at152_31 := zp_same hI ha0 g153 31 rfl (by decide) (by decide)
                  have at152_33 := zp_same hI ha0 g153 33 rfl (by decide) (by decide)
                  have at152_34 := zp_same hI ha0 g153 34 rfl (by decide) (by decide)
                  have at152_35 := zp_same hI ha0 g153 35 rfl (by decide) (by decide)
                  have at152_36 := zp_same hI ha0 g153 36 rfl (by decide) (by decide)
                  have at152_37 := zp_same hI ha0 g153 37 rfl (by decide) (by decide)
                  have at152_39 := zp_same hI ha0 g153 39 rfl (by decide) (by decide)
                  have at152_40 := zp_same hI ha0 g153 40 rfl (by decide) (by decide)
                  have gNt152 := gN.same hI ha0 g153 (by decide) hgN
                  have gHt152 := gH.same hI ha0 g153 (by decide) hgH
                  have gEt152 := gE.same hI ha0 g153 (by decide) hgE
                  have gLt152 := gL.same hI ha0 g153 (by decide) hgL
                  have gPt152 := gP.same hI ha0 g153 (by decide) hgP
                  have gTrt152 := gTr.same hI ha0 g153 (by decide) hgTr
                  refine zg_aload_n X 1 rfl dX11_tellOne_277 ?_
                  refine zg_iload_n X 0 rfl dX11_tellOne_278 ?_
                  have zlk0 : zLkp a0 σ t152 := zLkp.eq at152_30 at152_31 at152_33 at152_34 at152_35 at152_36 at152_37 at152_39 at152_40
                  refine zg_cVv (As := [.int v132]) (st := []) X ha0 rfl (by decide) rfl (t_X11_tellLaw l d L kd κ _ hI a0 ha0 v132  (by omega) (by omega) (by omega) (by omega) (by omega) gPt152 gLt152) mk_X11_277 mc_X11_tellLaw mz_X11 mi_X11_tellLaw ml_X11_tellLaw (na := 1) ⟨md_X11.1, md_X11.2, by decide +kernel⟩ rfl ⟨by decide, by decide⟩ (Nat.le_of_ble_eq_true rfl) dX11_tellOne_279 (fun t154 hq => ?_)
                  obtain ⟨hF, ⟨ht154_fact0, ht154_fact1, ht154_fact2, gLt154⟩, hI, g155⟩ := hq
                  replace E := zLet_s hF E
                  have ft154_15 : (t154.1 a0 15).toInt = (t152.1 a0 15).toInt := by rw [g155.2.1 15 (by decide)]
                  have ft154_18 : (t154.1 a0 18).toInt = (t152.1 a0 18).toInt := by rw [g155.2.1 18 (by decide)]
                  have ft154_19 : (t154.1 a0 19).toInt = (t152.1 a0 19).toInt := by rw [g155.2.1 19 (by decide)]
                  have ft154_41 : (t154.1 a0 41).toInt = (t152.1 a0 41).toInt := by rw [g155.2.1 41 (by decide)]
                  have ft154_42 : (t154.1 a0 42).toInt = (t152.1 a0 42).toInt := by rw [g155.2.1 42 (by decide)]
                  have hS := hS.tr g155 (by decide) (by decide)
                  have gNt154 := gN.same hI ha0 g155 (by decide) gNt152
                  have gHt154 := gH.same hI ha0 g155 (by decide) gHt152
                  have gEt154 := gE.same hI ha0 g155 (by decide) gEt152
                  have gTrt154 := gTr.same hI ha0 g155 (by decide) gTrt152
                  have zgp := ht154_fact1
                  have zgk := ht154_fact2
                  clear ht154_fact2 ht154_fact1
                  exact ret _ _ _ dX11_tellOne_282 ⟨E.symm.trans hR, ⟨⟨(by omega), (fun h0 => by first | exact True.intro | exact zgp h0), (fun h0 => by first | exact gTrt154 | exact zgt h0), (by first | exact zlk0.tr zgk (by omega) | exact zLkp.eq rfl rfl rfl rfl rfl rfl rfl rfl rfl), gNt154, gHt154, gEt154, gLt154⟩, hI, hS⟩⟩
                · skip
                  replace E := zIf_t c151 E
                  exact ret _ _ _ dX11_tellOne_272 ⟨E.symm.trans hR, ⟨⟨(by omega), (fun h0 => by exfalso; omega), (fun h0 => by exfalso; omega), (by first | exact zlk0.tr zgk (by omega) | exact zLkp.eq rfl rfl rfl rfl rfl rfl rfl rfl rfl), hgN, hgH, hgE, hgL⟩, hI, hS⟩⟩
              · skip
                replace E := zIf_t c149 E
                refine zg_aload_n X 1 rfl dX11_tellOne_260 ?_
                refine zg_iconst X 1 dX11_tellOne_261 (by decide) (fun v156 _ hv156 => ?_)
                replace E := zLet_s (zcst hv156 (by decide)) E
                refine zg_cVv (As := [.int v156]) (st := []) X ha0 rfl (by decide) rfl (t_X11_fail l d L kd κ _ hI a0 ha0 v156  (by omega)) mk_X11_221 mc_X11_fail mz_X11 mi_X11_fail ml_X11_fail (na := 1) ⟨md_X11.1, md_X11.2, by decide +kernel⟩ rfl ⟨by decide, by decide⟩ (Nat.le_of_ble_eq_true rfl) dX11_tellOne_262 (fun t157 hq => ?_)
                obtain ⟨hF, ht157_fact0, hI, g158⟩ := hq
                replace E := zLet_s hF E
                have ft157_11 : (t157.1 a0 11).toInt = (σ.1 a0 11).toInt := by rw [g158.2.1 11 (by decide)]
                have ft157_12 : (t157.1 a0 12).toInt = (σ.1 a0 12).toInt := by rw [g158.2.1 12 (by decide)]
                have ft157_15 : (t157.1 a0 15).toInt = (σ.1 a0 15).toInt := by rw [g158.2.1 15 (by decide)]
                have ft157_18 : (t157.1 a0 18).toInt = (σ.1 a0 18).toInt := by rw [g158.2.1 18 (by decide)]
                have ft157_19 : (t157.1 a0 19).toInt = (σ.1 a0 19).toInt := by rw [g158.2.1 19 (by decide)]
                have ft157_32 : (t157.1 a0 32).toInt = (σ.1 a0 32).toInt := by rw [g158.2.1 32 (by decide)]
                have ft157_38 : (t157.1 a0 38).toInt = (σ.1 a0 38).toInt := by rw [g158.2.1 38 (by decide)]
                have ft157_41 : (t157.1 a0 41).toInt = (σ.1 a0 41).toInt := by rw [g158.2.1 41 (by decide)]
                have ft157_42 : (t157.1 a0 42).toInt = (σ.1 a0 42).toInt := by rw [g158.2.1 42 (by decide)]
                have hS := hS.tr g158 (by decide) (by decide)
                have at157_30 := zp_same hI ha0 g158 30 rfl (by decide) (by decide)
                have at157_31 := zp_same hI ha0 g158 31 rfl (by decide) (by decide)
                have at157_33 := zp_same hI ha0 g158 33 rfl (by decide) (by decide)
                have at157_34 := zp_same hI ha0 g158 34 rfl (by decide) (by decide)
                have at157_35 := zp_same hI ha0 g158 35 rfl (by decide) (by decide)
                have at157_36 := zp_same hI ha0 g158 36 rfl (by decide) (by decide)
                have at157_37 := zp_same hI ha0 g158 37 rfl (by decide) (by decide)
                have at157_39 := zp_same hI ha0 g158 39 rfl (by decide) (by decide)
                have at157_40 := zp_same hI ha0 g158 40 rfl (by decide) (by decide)
                have gNt157 := gN.same hI ha0 g158 (by decide) hgN
                have gHt157 := gH.same hI ha0 g158 (by decide) hgH
                have gEt157 := gE.same hI ha0 g158 (by decide) hgE
                have gLt157 := gL.same hI ha0 g158 (by decide) hgL
                have gPt157 := gP.same hI ha0 g158 (by decide) hgP
                have gTrt157 := gTr.same hI ha0 g158 (by decide) hgTr
                refine zg_aload_n X 1 rfl dX11_tellOne_265 ?_
                refine fg_X11_206 X hI ha0 dX11_tellOne_266 (fun v160 ev160 hv160 => ?_)
                replace E := zLet_s ev160 E
                have kv160 : (t157.1 a0 13).toInt = v160.toInt := by rw [ev160]
                refine zg_if_le X 273 dX11_tellOne_269 (by decide) (fun c161 => ?_) (fun c161 => ?_)
                · skip
                  replace E := zIf_f (Int.not_lt.mpr c161) E
                  refine zg_aload_n X 1 rfl dX11_tellOne_273 ?_
                  refine zg_cVv (As := []) (st := []) X ha0 rfl (by decide) rfl (t_X11_goesOn l d L kd κ _ hI a0 ha0   ) mk_X11_227 mc_X11_goesOn mz_X11 mi_X11_goesOn ml_X11_goesOn (na := 0) ⟨md_X11.1, md_X11.2, by decide +kernel⟩ rfl ⟨by decide, by decide⟩ (Nat.le_of_ble_eq_true rfl) dX11_tellOne_274 (fun t162 hq => ?_)
                  obtain ⟨hF, ht162_fact0, hI, g163⟩ := hq
                  replace E := zLet_s hF E
                  have ft162_12 : (t162.1 a0 12).toInt = (t157.1 a0 12).toInt := by rw [g163.2.1 12 (by decide)]
                  have ft162_15 : (t162.1 a0 15).toInt = (t157.1 a0 15).toInt := by rw [g163.2.1 15 (by decide)]
                  have ft162_18 : (t162.1 a0 18).toInt = (t157.1 a0 18).toInt := by rw [g163.2.1 18 (by decide)]
                  have ft162_19 : (t162.1 a0 19).toInt = (t157.1 a0 19).toInt := by rw [g163.2.1 19 (by decide)]
                  have ft162_32 : (t162.1 a0 32).toInt = (t157.1 a0 32).toInt := by rw [g163.2.1 32 (by decide)]
                  have ft162_38 : (t162.1 a0 38).toInt = (t157.1 a0 38).toInt := by rw [g163.2.1 38 (by decide)]
                  have ft162_41 : (t162.1 a0 41).toInt = (t157.1 a0 41).toInt := by rw [g163.2.1 41 (by decide)]
                  have ft162_42 : (t162.1 a0 42).toInt = (t157.1 a0 42).toInt := by rw [g163.2.1 42 (by decide)]
                  have hS := hS.tr g163 (by decide) (by decide)
                  have at162_30 := (zp_same hI ha0 g163 30 rfl (by decide) (by decide)).trans at157_30
                  have at162_31 := (zp_same hI ha0 g163 31 rfl (by decide) (by decide)).trans at157_31
                  have at162_33 := (zp_same hI ha0 g163 33 rfl (by decide) (by decide)).trans at157_33
                  have at162_34 := (zp_same hI ha0 g163 34 rfl (by decide) (by decide)).trans at157_34
                  have at162_35 := (zp_same hI ha0 g163 35 rfl (by decide) (by decide)).trans at157_35
                  have at162_36 := (zp_same hI ha0 g163 36 rfl (by decide) (by decide)).trans at157_36
                  have at162_37 := (zp_same hI ha0 g163 37 rfl (by decide) (by decide)).trans at157_37
                  have at162_39 := (zp_same hI ha0 g163 39 rfl (by decide) (by decide)).trans at157_39
                  have at162_40 := (zp_same hI ha0 g163 40 rfl (by decide) (by decide)).trans at157_40
                  have gNt162 := gN.same hI ha0 g163 (by decide) gNt157
                  have gHt162 := gH.same hI ha0 g163 (by decide) gHt157
                  have gEt162 := gE.same hI ha0 g163 (by decide) gEt157
                  have gLt162 := gL.same hI ha0 g163 (by decide) gLt157
                  have gPt162 := gP.same hI ha0 g163 (by decide) gPt157
                  have gTrt162 := gTr.same hI ha0 g163 (by decide) gTrt157
                  refine zg_aload_n X 1 rfl dX11_tellOne_277 ?_
                  refine zg_iload_n X 0 rfl dX11_tellOne_278 ?_
                  have zlk0 : zLkp a0 σ t162 := zLkp.eq at162_30 at162_31 at162_33 at162_34 at162_35 at162_36 at162_37 at162_39 at162_40
                  refine zg_cVv (As := [.int v132]) (st := []) X ha0 rfl (by decide) rfl (t_X11_tellLaw l d L kd κ _ hI a0 ha0 v132  (by omega) (by omega) (by omega) (by omega) (by omega) gPt162 gLt162) mk_X11_277 mc_X11_tellLaw mz_X11 mi_X11_tellLaw ml_X11_tellLaw (na := 1) ⟨md_X11.1, md_X11.2, by decide +kernel⟩ rfl ⟨by decide, by decide⟩ (Nat.le_of_ble_eq_true rfl) dX11_tellOne_279 (fun t164 hq => ?_)
                  obtain ⟨hF, ⟨ht164_fact0, ht164_fact1, ht164_fact2, gLt164⟩, hI, g165⟩ := hq
                  replace E := zLet_s hF E
                  have ft164_15 : (t164.1 a0 15).toInt = (t162.1 a0 15).toInt := by rw [g165.2.1 15 (by decide)]
                  have ft164_18 : (t164.1 a0 18).toInt = (t162.1 a0 18).toInt := by rw [g165.2.1 18 (by decide)]
                  have ft164_19 : (t164.1 a0 19).toInt = (t162.1 a0 19).toInt := by rw [g165.2.1 19 (by decide)]
                  have ft164_41 : (t164.1 a0 41).toInt = (t162.1 a0 41).toInt := by rw [g165.2.1 41 (by decide)]
                  have ft164_42 : (t164.1 a0 42).toInt = (t162.1 a0 42).toInt := by rw [g165.2.1 42 (by decide)]
                  have hS := hS.tr g165 (by decide) (by decide)
                  have gNt164 := gN.same hI ha0 g165 (by decide) gNt162
                  have gHt164 := gH.same hI ha0 g165 (by decide) gHt162
                  have gEt164 := gE.same hI ha0 g165 (by decide) gEt162
                  have gTrt164 := gTr.same hI ha0 g165 (by decide) gTrt162
                  have zgp := ht164_fact1
                  have zgk := ht164_fact2
                  clear ht164_fact2 ht164_fact1
                  exact ret _ _ _ dX11_tellOne_282 ⟨E.symm.trans hR, ⟨⟨(by omega), (fun h0 => by first | exact True.intro | exact zgp h0), (fun h0 => by first | exact gTrt164 | exact zgt h0), (by first | exact zlk0.tr zgk (by omega) | exact zLkp.eq rfl rfl rfl rfl rfl rfl rfl rfl rfl), gNt164, gHt164, gEt164, gLt164⟩, hI, hS⟩⟩
                · skip
                  replace E := zIf_t c161 E
                  exact ret _ _ _ dX11_tellOne_272 ⟨E.symm.trans hR, ⟨⟨(by omega), (fun h0 => by exfalso; omega), (fun h0 => by exfalso; omega), (by first | exact zlk0.tr zgk (by omega) | exact zLkp.eq at157_30 at157_31 at157_33 at157_34 at157_35 at157_36 at157_37 at157_39 at157_40), gNt157, gHt157, gEt157, gLt157⟩, hI, hS⟩⟩
          · skip
            replace E := zIf_f q127 E
            by_cases q166 : v3.toInt = 25
            · refine zg_tabIn X 229 25 dX11_tellOne_9 q166 (by decide) (by decide) rfl (by decide) ?_
              replace E := zIf_t q166 E
              refine zg_aload_n X 0 rfl dX11_tellOne_229 ?_
              refine fg_X11_20 X hI ha0 dX11_tellOne_230 (fun v167 ev167 hv167 => ?_)
              replace E := zLet_s (zgr ev167) E
              refine zg_aload_n X 0 rfl dX11_tellOne_233 ?_
              refine fg_X11_209 X hI ha0 dX11_tellOne_234 (fun v168 ev168 hv168 => ?_)
              replace E := zLet_s ev168 E
              have kv168 : (σ.1 a0 11).toInt = v168.toInt := by rw [ev168]
              have mv168 : v168.toInt = v2.toInt := by rw [ev168, ← ev2]
              refine ag_105 X hI hv167 (by omega) (by omega) dX11_tellOne_237 (fun v169 ev169 _ => ?_)
              replace E := zLet_s ev169 E
              have qv169 := zp_ld ev167 ev169
              rw [← kv168] at qv169
              refine zg_bipush X 22 dX11_tellOne_238 (by decide) (fun v170 _ hv170 => ?_)
              replace E := zLet_s (zcst hv170 (by decide)) E
              refine zg_isub X dX11_tellOne_240 (by omega) (by omega) (fun v171 ev171 hv171 => ?_)
              replace E := zLet_s ev171 E
              refine zg_istore_n X [(1, .int v171), (0, .ref a0)] dX11_tellOne_241 (by decide) rfl ?_
              refine zg_iload_n X 0 rfl dX11_tellOne_242 ?_
              refine zg_if_lt X 260 dX11_tellOne_243 (by decide) (fun c172 => ?_) (fun c172 => ?_)
              · skip
                replace E := zIf_t c172 E
                refine zg_aload_n X 1 rfl dX11_tellOne_260 ?_
                refine zg_iconst X 1 dX11_tellOne_261 (by decide) (fun v173 _ hv173 => ?_)
                replace E := zLet_s (zcst hv173 (by decide)) E
                refine zg_cVv (As := [.int v173]) (st := []) X ha0 rfl (by decide) rfl (t_X11_fail l d L kd κ _ hI a0 ha0 v173  (by omega)) mk_X11_221 mc_X11_fail mz_X11 mi_X11_fail ml_X11_fail (na := 1) ⟨md_X11.1, md_X11.2, by decide +kernel⟩ rfl ⟨by decide, by decide⟩ (Nat.le_of_ble_eq_true rfl) dX11_tellOne_262 (fun t174 hq => ?_)
                obtain ⟨hF, ht174_fact0, hI, g175⟩ := hq
                replace E := zLet_s hF E
                have ft174_11 : (t174.1 a0 11).toInt = (σ.1 a0 11).toInt := by rw [g175.2.1 11 (by decide)]
                have ft174_12 : (t174.1 a0 12).toInt = (σ.1 a0 12).toInt := by rw [g175.2.1 12 (by decide)]
                have ft174_15 : (t174.1 a0 15).toInt = (σ.1 a0 15).toInt := by rw [g175.2.1 15 (by decide)]
                have ft174_18 : (t174.1 a0 18).toInt = (σ.1 a0 18).toInt := by rw [g175.2.1 18 (by decide)]
                have ft174_19 : (t174.1 a0 19).toInt = (σ.1 a0 19).toInt := by rw [g175.2.1 19 (by decide)]
                have ft174_32 : (t174.1 a0 32).toInt = (σ.1 a0 32).toInt := by rw [g175.2.1 32 (by decide)]
                have ft174_38 : (t174.1 a0 38).toInt = (σ.1 a0 38).toInt := by rw [g175.2.1 38 (by decide)]
                have ft174_41 : (t174.1 a0 41).toInt = (σ.1 a0 41).toInt := by rw [g175.2.1 41 (by decide)]
                have ft174_42 : (t174.1 a0 42).toInt = (σ.1 a0 42).toInt := by rw [g175.2.1 42 (by decide)]
                have hS := hS.tr g175 (by decide) (by decide)
                have at174_30 := zp_same hI ha0 g175 30 rfl (by decide) (by decide)
                have at174_31 := zp_same hI ha0 g175 31 rfl (by decide) (by decide)
                have at174_33 := zp_same hI ha0 g175 33 rfl (by decide) (by decide)
                have at174_34 := zp_same hI ha0 g175 34 rfl (by decide) (by decide)
                have at174_35 := zp_same hI ha0 g175 35 rfl (by decide) (by decide)
                have at174_36 := zp_same hI ha0 g175 36 rfl (by decide) (by decide)
                have at174_37 := zp_same hI ha0 g175 37 rfl (by decide) (by decide)
                have at174_39 := zp_same hI ha0 g175 39 rfl (by decide) (by decide)
                have at174_40 := zp_same hI ha0 g175 40 rfl (by decide) (by decide)
                have gNt174 := gN.same hI ha0 g175 (by decide) hgN
                have gHt174 := gH.same hI ha0 g175 (by decide) hgH
                have gEt174 := gE.same hI ha0 g175 (by decide) hgE
                have gLt174 := gL.same hI ha0 g175 (by decide) hgL
                have gPt174 := gP.same hI ha0 g175 (by decide) hgP
                have gTrt174 := gTr.same hI ha0 g175 (by decide) hgTr
                refine zg_aload_n X 1 rfl dX11_tellOne_265 ?_
                refine fg_X11_206 X hI ha0 dX11_tellOne_266 (fun v177 ev177 hv177 => ?_)
                replace E := zLet_s ev177 E
                have kv177 : (t174.1 a0 13).toInt = v177.toInt := by rw [ev177]
                refine zg_if_le X 273 dX11_tellOne_269 (by decide) (fun c178 => ?_) (fun c178 => ?_)
                · skip
                  replace E := zIf_f (Int.not_lt.mpr c178) E
                  refine zg_aload_n X 1 rfl dX11_tellOne_273 ?_
                  refine zg_cVv (As := []) (st := []) X ha0 rfl (by decide) rfl (t_X11_goesOn l d L kd κ _ hI a0 ha0   ) mk_X11_227 mc_X11_goesOn mz_X11 mi_X11_goesOn ml_X11_goesOn (na := 0) ⟨md_X11.1, md_X11.2, by decide +kernel⟩ rfl ⟨by decide, by decide⟩ (Nat.le_of_ble_eq_true rfl) dX11_tellOne_274 (fun t179 hq => ?_)
                  obtain ⟨hF, ht179_fact0, hI, g180⟩ := hq
                  replace E := zLet_s hF E
                  have ft179_12 : (t179.1 a0 12).toInt = (t174.1 a0 12).toInt := by rw [g180.2.1 12 (by decide)]
                  have ft179_15 : (t179.1 a0 15).toInt = (t174.1 a0 15).toInt := by rw [g180.2.1 15 (by decide)]
                  have ft179_18 : (t179.1 a0 18).toInt = (t174.1 a0 18).toInt := by rw [g180.2.1 18 (by decide)]
                  have ft179_19 : (t179.1 a0 19).toInt = (t174.1 a0 19).toInt := by rw [g180.2.1 19 (by decide)]
                  have ft179_32 : (t179.1 a0 32).toInt = (t174.1 a0 32).toInt := by rw [g180.2.1 32 (by decide)]
                  have ft179_38 : (t179.1 a0 38).toInt = (t174.1 a0 38).toInt := by rw [g180.2.1 38 (by decide)]
                  have ft179_41 : (t179.1 a0 41).toInt = (t174.1 a0 41).toInt := by rw [g180.2.1 41 (by decide)]
                  have ft179_42 : (t179.1 a0 42).toInt = (t174.1 a0 42).toInt := by rw [g180.2.1 42 (by decide)]
                  have hS := hS.tr g180 (by decide) (by decide)
                  have at179_30 := (zp_same hI ha0 g180 30 rfl (by decide) (by decide)).trans at174_30
                  have at179_31 := (zp_same hI ha0 g180 31 rfl (by decide) (by decide)).trans at174_31
                  have at179_33 := (zp_same hI ha0 g180 33 rfl (by decide) (by decide)).trans at174_33
                  have at179_34 := (zp_same hI ha0 g180 34 rfl (by decide) (by decide)).trans at174_34
                  have at179_35 := (zp_same hI ha0 g180 35 rfl (by decide) (by decide)).trans at174_35
                  have at179_36 := (zp_same hI ha0 g180 36 rfl (by decide) (by decide)).trans at174_36
                  have at179_37 := (zp_same hI ha0 g180 37 rfl (by decide) (by decide)).trans at174_37
                  have at179_39 := (zp_same hI ha0 g180 39 rfl (by decide) (by decide)).trans at174_39
                  have at179_40 := (zp_same hI ha0 g180 40 rfl (by decide) (by decide)).trans at174_40
                  have gNt179 := gN.same hI ha0 g180 (by decide) gNt174
                  have gHt179 := gH.same hI ha0 g180 (by decide) gHt174
                  have gEt179 := gE.same hI ha0 g180 (by decide) gEt174
                  have gLt179 := gL.same hI ha0 g180 (by decide) gLt174
                  have gPt179 := gP.same hI ha0 g180 (by decide) gPt174
                  have gTrt179 := gTr.same hI ha0 g180 (by decide) gTrt174
                  refine zg_aload_n X 1 rfl dX11_tellOne_277 ?_
                  refine zg_iload_n X 0 rfl dX11_tellOne_278 ?_
                  have zlk0 : zLkp a0 σ t179 := zLkp.eq at179_30 at179_31 at179_33 at179_34 at179_35 at179_36 at179_37 at179_39 at179_40
                  refine zg_cVv (As := [.int v171]) (st := []) X ha0 rfl (by decide) rfl (t_X11_tellLaw l d L kd κ _ hI a0 ha0 v171  (by omega) (by omega) (by omega) (by omega) (by omega) gPt179 gLt179) mk_X11_277 mc_X11_tellLaw mz_X11 mi_X11_tellLaw ml_X11_tellLaw (na := 1) ⟨md_X11.1, md_X11.2, by decide +kernel⟩ rfl ⟨by decide, by decide⟩ (Nat.le_of_ble_eq_true rfl) dX11_tellOne_279 (fun t181 hq => ?_)
                  obtain ⟨hF, ⟨ht181_fact0, ht181_fact1, ht181_fact2, gLt181⟩, hI, g182⟩ := hq
                  replace E := zLet_s hF E
                  have ft181_15 : (t181.1 a0 15).toInt = (t179.1 a0 15).toInt := by rw [g182.2.1 15 (by decide)]
                  have ft181_18 : (t181.1 a0 18).toInt = (t179.1 a0 18).toInt := by rw [g182.2.1 18 (by decide)]
                  have ft181_19 : (t181.1 a0 19).toInt = (t179.1 a0 19).toInt := by rw [g182.2.1 19 (by decide)]
                  have ft181_41 : (t181.1 a0 41).toInt = (t179.1 a0 41).toInt := by rw [g182.2.1 41 (by decide)]
                  have ft181_42 : (t181.1 a0 42).toInt = (t179.1 a0 42).toInt := by rw [g182.2.1 42 (by decide)]
                  have hS := hS.tr g182 (by decide) (by decide)
                  have gNt181 := gN.same hI ha0 g182 (by decide) gNt179
                  have gHt181 := gH.same hI ha0 g182 (by decide) gHt179
                  have gEt181 := gE.same hI ha0 g182 (by decide) gEt179
                  have gTrt181 := gTr.same hI ha0 g182 (by decide) gTrt179
                  have zgp := ht181_fact1
                  have zgk := ht181_fact2
                  clear ht181_fact2 ht181_fact1
                  exact ret _ _ _ dX11_tellOne_282 ⟨E.symm.trans hR, ⟨⟨(by omega), (fun h0 => by first | exact True.intro | exact zgp h0), (fun h0 => by first | exact gTrt181 | exact zgt h0), (by first | exact zlk0.tr zgk (by omega) | exact zLkp.eq rfl rfl rfl rfl rfl rfl rfl rfl rfl), gNt181, gHt181, gEt181, gLt181⟩, hI, hS⟩⟩
                · skip
                  replace E := zIf_t c178 E
                  exact ret _ _ _ dX11_tellOne_272 ⟨E.symm.trans hR, ⟨⟨(by omega), (fun h0 => by exfalso; omega), (fun h0 => by exfalso; omega), (by first | exact zlk0.tr zgk (by omega) | exact zLkp.eq at174_30 at174_31 at174_33 at174_34 at174_35 at174_36 at174_37 at174_39 at174_40), gNt174, gHt174, gEt174, gLt174⟩, hI, hS⟩⟩
              · skip
                replace E := zIf_f (Int.not_lt.mpr c172) E
                refine zg_aload_n X 1 rfl dX11_tellOne_246 ?_
                refine fg_X11_20 X hI ha0 dX11_tellOne_247 (fun v183 ev183 hv183 => ?_)
                replace E := zLet_s (zgr ev183) E
                refine zg_aload_n X 1 rfl dX11_tellOne_250 ?_
                refine fg_X11_209 X hI ha0 dX11_tellOne_251 (fun v184 ev184 hv184 => ?_)
                replace E := zLet_s ev184 E
                have kv184 : (σ.1 a0 11).toInt = v184.toInt := by rw [ev184]
                have mv184 : v184.toInt = v168.toInt := by rw [ev184, ← ev168]
                refine ag_105 X hI hv183 (by omega) (by omega) dX11_tellOne_254 (fun v185 ev185 _ => ?_)
                replace E := zLet_s ev185 E
                have qv185 := zp_ld ev183 ev185
                rw [← kv184] at qv185
                refine zg_bipush X 26 dX11_tellOne_255 (by decide) (fun v186 _ hv186 => ?_)
                replace E := zLet_s (zcst hv186 (by decide)) E
                have zv185_z187 := zb_rng v185
                refine zg_icmp_le X 265 dX11_tellOne_257 (by decide) (fun c188 => ?_) (fun c188 => ?_)
                · skip
                  replace E := zIf_f (Int.not_lt.mpr c188) E
                  refine zg_aload_n X 1 rfl dX11_tellOne_265 ?_
                  refine fg_X11_206 X hI ha0 dX11_tellOne_266 (fun v189 ev189 hv189 => ?_)
                  replace E := zLet_s ev189 E
                  have kv189 : (σ.1 a0 13).toInt = v189.toInt := by rw [ev189]
                  refine zg_if_le X 273 dX11_tellOne_269 (by decide) (fun c190 => ?_) (fun c190 => ?_)
                  · skip
                    replace E := zIf_f (Int.not_lt.mpr c190) E
                    refine zg_aload_n X 1 rfl dX11_tellOne_273 ?_
                    refine zg_cVv (As := []) (st := []) X ha0 rfl (by decide) rfl (t_X11_goesOn l d L kd κ _ hI a0 ha0   ) mk_X11_227 mc_X11_goesOn mz_X11 mi_X11_goesOn ml_X11_goesOn (na := 0) ⟨md_X11.1, md_X11.2, by decide +kernel⟩ rfl ⟨by decide, by decide⟩ (Nat.le_of_ble_eq_true rfl) dX11_tellOne_274 (fun t191 hq => ?_)
                    obtain ⟨hF, ht191_fact0, hI, g192⟩ := hq
                    replace E := zLet_s hF E
                    have ft191_12 : (t191.1 a0 12).toInt = (σ.1 a0 12).toInt := by rw [g192.2.1 12 (by decide)]
                    have ft191_15 : (t191.1 a0 15).toInt = (σ.1 a0 15).toInt := by rw [g192.2.1 15 (by decide)]
                    have ft191_18 : (t191.1 a0 18).toInt = (σ.1 a0 18).toInt := by rw [g192.2.1 18 (by decide)]
                    have ft191_19 : (t191.1 a0 19).toInt = (σ.1 a0 19).toInt := by rw [g192.2.1 19 (by decide)]
                    have ft191_32 : (t191.1 a0 32).toInt = (σ.1 a0 32).toInt := by rw [g192.2.1 32 (by decide)]
                    have ft191_38 : (t191.1 a0 38).toInt = (σ.1 a0 38).toInt := by rw [g192.2.1 38 (by decide)]
                    have ft191_41 : (t191.1 a0 41).toInt = (σ.1 a0 41).toInt := by rw [g192.2.1 41 (by decide)]
                    have ft191_42 : (t191.1 a0 42).toInt = (σ.1 a0 42).toInt := by rw [g192.2.1 42 (by decide)]
                    have hS := hS.tr g192 (by decide) (by decide)
                    have at191_30 := zp_same hI ha0 g192 30 rfl (by decide) (by decide)
                    have at191_31 := zp_same hI ha0 g192 31 rfl (by decide) (by decide)
                    have at191_33 := zp_same hI ha0 g192 33 rfl (by decide) (by decide)
                    have at191_34 := zp_same hI ha0 g192 34 rfl (by decide) (by decide)
                    have at191_35 := zp_same hI ha0 g192 35 rfl (by decide) (by decide)
                    have at191_36 := zp_same hI ha0 g192 36 rfl (by decide) (by decide)
                    have at191_37 := zp_same hI ha0 g192 37 rfl (by decide) (by decide)
                    have at191_39 := zp_same hI ha0 g192 39 rfl (by decide) (by decide)
                    have at191_40 := zp_same hI ha0 g192 40 rfl (by decide) (by decide)
                    have gNt191 := gN.same hI ha0 g192 (by decide) hgN
                    have gHt191 := gH.same hI ha0 g192 (by decide) hgH
                    have gEt191 := gE.same hI ha0 g192 (by decide) hgE
                    have gLt191 := gL.same hI ha0 g192 (by decide) hgL
                    have gPt191 := gP.same hI ha0 g192 (by decide) hgP
                    have gTrt191 := gTr.same hI ha0 g192 (by decide) hgTr
                    refine zg_aload_n X 1 rfl dX11_tellOne_277 ?_
                    refine zg_iload_n X 0 rfl dX11_tellOne_278 ?_
                    have zlk0 : zLkp a0 σ t191 := zLkp.eq at191_30 at191_31 at191_33 at191_34 at191_35 at191_36 at191_37 at191_39 at191_40
                    refine zg_cVv (As := [.int v171]) (st := []) X ha0 rfl (by decide) rfl (t_X11_tellLaw l d L kd κ _ hI a0 ha0 v171  (by omega) (by omega) (by omega) (by omega) (by omega) gPt191 gLt191) mk_X11_277 mc_X11_tellLaw mz_X11 mi_X11_tellLaw ml_X11_tellLaw (na := 1) ⟨md_X11.1, md_X11.2, by decide +kernel⟩ rfl ⟨by decide, by decide⟩ (Nat.le_of_ble_eq_true rfl) dX11_tellOne_279 (fun t193 hq => ?_)
                    obtain ⟨hF, ⟨ht193_fact0, ht193_fact1, ht193_fact2, gLt193⟩, hI, g194⟩ := hq
                    replace E := zLet_s hF E
                    have ft193_15 : (t193.1 a0 15).toInt = (t191.1 a0 15).toInt := by rw [g194.2.1 15 (by decide)]
                    have ft193_18 : (t193.1 a0 18).toInt = (t191.1 a0 18).toInt := by rw [g194.2.1 18 (by decide)]
                    have ft193_19 : (t193.1 a0 19).toInt = (t191.1 a0 19).toInt := by rw [g194.2.1 19 (by decide)]
                    have ft193_41 : (t193.1 a0 41).toInt = (t191.1 a0 41).toInt := by rw [g194.2.1 41 (by decide)]
                    have ft193_42 : (t193.1 a0 42).toInt = (t191.1 a0 42).toInt := by rw [g194.2.1 42 (by decide)]
                    have hS := hS.tr g194 (by decide) (by decide)
                    have gNt193 := gN.same hI ha0 g194 (by decide) gNt191
                    have gHt193 := gH.same hI ha0 g194 (by decide) gHt191
                    have gEt193 := gE.same hI ha0 g194 (by decide) gEt191
                    have gTrt193 := gTr.same hI ha0 g194 (by decide) gTrt191
                    have zgp := ht193_fact1
                    have zgk := ht193_fact2
                    clear ht193_fact2 ht193_fact1
                    exact ret _ _ _ dX11_tellOne_282 ⟨E.symm.trans hR, ⟨⟨(by omega), (fun h0 => by first | exact True.intro | exact zgp h0), (fun h0 => by first | exact gTrt193 | exact zgt h0), (by first | exact zlk0.tr zgk (by omega) | exact zLkp.eq rfl rfl rfl rfl rfl rfl rfl rfl rfl), gNt193, gHt193, gEt193, gLt193⟩, hI, hS⟩⟩
                  · skip
                    replace E := zIf_t c190 E
                    exact ret _ _ _ dX11_tellOne_272 ⟨E.symm.trans hR, ⟨⟨(by omega), (fun h0 => by exfalso; omega), (fun h0 => by exfalso; omega), (by first | exact zlk0.tr zgk (by omega) | exact zLkp.eq rfl rfl rfl rfl rfl rfl rfl rfl rfl), hgN, hgH, hgE, hgL⟩, hI, hS⟩⟩
                · skip
                  replace E := zIf_t c188 E
                  refine zg_aload_n X 1 rfl dX11_tellOne_260 ?_
                  refine zg_iconst X 1 dX11_tellOne_261 (by decide) (fun v195 _ hv195 => ?_)
                  replace E := zLet_s (zcst hv195 (by decide)) E
                  refine zg_cVv (As := [.int v195]) (st := []) X ha0 rfl (by decide) rfl (t_X11_fail l d L kd κ _ hI a0 ha0 v195  (by omega)) mk_X11_221 mc_X11_fail mz_X11 mi_X11_fail ml_X11_fail (na := 1) ⟨md_X11.1, md_X11.2, by decide +kernel⟩ rfl ⟨by decide, by decide⟩ (Nat.le_of_ble_eq_true rfl) dX11_tellOne_262 (fun t196 hq => ?_)
                  obtain ⟨hF, ht196_fact0, hI, g197⟩ := hq
                  replace E := zLet_s hF E
                  have ft196_11 : (t196.1 a0 11).toInt = (σ.1 a0 11).toInt := by rw [g197.2.1 11 (by decide)]
                  have ft196_12 : (t196.1 a0 12).toInt = (σ.1 a0 12).toInt := by rw [g197.2.1 12 (by decide)]
                  have ft196_15 : (t196.1 a0 15).toInt = (σ.1 a0 15).toInt := by rw [g197.2.1 15 (by decide)]
                  have ft196_18 : (t196.1 a0 18).toInt = (σ.1 a0 18).toInt := by rw [g197.2.1 18 (by decide)]
                  have ft196_19 : (t196.1 a0 19).toInt = (σ.1 a0 19).toInt := by rw [g197.2.1 19 (by decide)]
                  have ft196_32 : (t196.1 a0 32).toInt = (σ.1 a0 32).toInt := by rw [g197.2.1 32 (by decide)]
                  have ft196_38 : (t196.1 a0 38).toInt = (σ.1 a0 38).toInt := by rw [g197.2.1 38 (by decide)]
                  have ft196_41 : (t196.1 a0 41).toInt = (σ.1 a0 41).toInt := by rw [g197.2.1 41 (by decide)]
                  have ft196_42 : (t196.1 a0 42).toInt = (σ.1 a0 42).toInt := by rw [g197.2.1 42 (by decide)]
                  have hS := hS.tr g197 (by decide) (by decide)
                  have at196_30 := zp_same hI ha0 g197 30 rfl (by decide) (by decide)
                  have at196_31 := zp_same hI ha0 g197 31 rfl (by decide) (by decide)
                  have at196_33 := zp_same hI ha0 g197 33 rfl (by decide) (by decide)
                  have at196_34 := zp_same hI ha0 g197 34 rfl (by decide) (by decide)
                  have at196_35 := zp_same hI ha0 g197 35 rfl (by decide) (by decide)
                  have at196_36 := zp_same hI ha0 g197 36 rfl (by decide) (by decide)
                  have at196_37 := zp_same hI ha0 g197 37 rfl (by decide) (by decide)
                  have at196_39 := zp_same hI ha0 g197 39 rfl (by decide) (by decide)
                  have at196_40 := zp_same hI ha0 g197 40 rfl (by decide) (by decide)
                  have gNt196 := gN.same hI ha0 g197 (by decide) hgN
                  have gHt196 := gH.same hI ha0 g197 (by decide) hgH
                  have gEt196 := gE.same hI ha0 g197 (by decide) hgE
                  have gLt196 := gL.same hI ha0 g197 (by decide) hgL
                  have gPt196 := gP.same hI ha0 g197 (by decide) hgP
                  have gTrt196 := gTr.same hI ha0 g197 (by decide) hgTr
                  refine zg_aload_n X 1 rfl dX11_tellOne_265 ?_
                  refine fg_X11_206 X hI ha0 dX11_tellOne_266 (fun v199 ev199 hv199 => ?_)
                  replace E := zLet_s ev199 E
                  have kv199 : (t196.1 a0 13).toInt = v199.toInt := by rw [ev199]
                  refine zg_if_le X 273 dX11_tellOne_269 (by decide) (fun c200 => ?_) (fun c200 => ?_)
                  · skip
                    replace E := zIf_f (Int.not_lt.mpr c200) E
                    refine zg_aload_n X 1 rfl dX11_tellOne_273 ?_
                    refine zg_cVv (As := []) (st := []) X ha0 rfl (by decide) rfl (t_X11_goesOn l d L kd κ _ hI a0 ha0   ) mk_X11_227 mc_X11_goesOn mz_X11 mi_X11_goesOn ml_X11_goesOn (na := 0) ⟨md_X11.1, md_X11.2, by decide +kernel⟩ rfl ⟨by decide, by decide⟩ (Nat.le_of_ble_eq_true rfl) dX11_tellOne_274 (fun t201 hq => ?_)
                    obtain ⟨hF, ht201_fact0, hI, g202⟩ := hq
                    replace E := zLet_s hF E
                    have ft201_12 : (t201.1 a0 12).toInt = (t196.1 a0 12).toInt := by rw [g202.2.1 12 (by decide)]
                    have ft201_15 : (t201.1 a0 15).toInt = (t196.1 a0 15).toInt := by rw [g202.2.1 15 (by decide)]
                    have ft201_18 : (t201.1 a0 18).toInt = (t196.1 a0 18).toInt := by rw [g202.2.1 18 (by decide)]
                    have ft201_19 : (t201.1 a0 19).toInt = (t196.1 a0 19).toInt := by rw [g202.2.1 19 (by decide)]
                    have ft201_32 : (t201.1 a0 32).toInt = (t196.1 a0 32).toInt := by rw [g202.2.1 32 (by decide)]
                    have ft201_38 : (t201.1 a0 38).toInt = (t196.1 a0 38).toInt := by rw [g202.2.1 38 (by decide)]
                    have ft201_41 : (t201.1 a0 41).toInt = (t196.1 a0 41).toInt := by rw [g202.2.1 41 (by decide)]
                    have ft201_42 : (t201.1 a0 42).toInt = (t196.1 a0 42).toInt := by rw [g202.2.1 42 (by decide)]
                    have hS := hS.tr g202 (by decide) (by decide)
                    have at201_30 := (zp_same hI ha0 g202 30 rfl (by decide) (by decide)).trans at196_30
                    have at201_31 := (zp_same hI ha0 g202 31 rfl (by decide) (by decide)).trans at196_31
                    have at201_33 := (zp_same hI ha0 g202 33 rfl (by decide) (by decide)).trans at196_33
                    have at201_34 := (zp_same hI ha0 g202 34 rfl (by decide) (by decide)).trans at196_34
                    have at201_35 := (zp_same hI ha0 g202 35 rfl (by decide) (by decide)).trans at196_35
                    have at201_36 := (zp_same hI ha0 g202 36 rfl (by decide) (by decide)).trans at196_36
                    have at201_37 := (zp_same hI ha0 g202 37 rfl (by decide) (by decide)).trans at196_37
                    have at201_39 := (zp_same hI ha0 g202 39 rfl (by decide) (by decide)).trans at196_39
                    have at201_40 := (zp_same hI ha0 g202 40 rfl (by decide) (by decide)).trans at196_40
                    have gNt201 := gN.same hI ha0 g202 (by decide) gNt196
                    have gHt201 := gH.same hI ha0 g202 (by decide) gHt196
                    have gEt201 := gE.same hI ha0 g202 (by decide) gEt196
                    have gLt201 := gL.same hI ha0 g202 (by decide) gLt196
                    have gPt201 := gP.same hI ha0 g202 (by decide) gPt196
                    have gTrt201 := gTr.same hI ha0 g202 (by decide) gTrt196
                    refine zg_aload_n X 1 rfl dX11_tellOne_277 ?_
                    refine zg_iload_n X 0 rfl dX11_tellOne_278 ?_
                    have zlk0 : zLkp a0 σ t201 := zLkp.eq at201_30 at201_31 at201_33 at201_34 at201_35 at201_36 at201_37 at201_39 at201_40
                    refine zg_cVv (As := [.int v171]) (st := []) X ha0 rfl (by decide) rfl (t_X11_tellLaw l d L kd κ _ hI a0 ha0 v171  (by omega) (by omega) (by omega) (by omega) (by omega) gPt201 gLt201) mk_X11_277 mc_X11_tellLaw mz_X11 mi_X11_tellLaw ml_X11_tellLaw (na := 1) ⟨md_X11.1, md_X11.2, by decide +kernel⟩ rfl ⟨by decide, by decide⟩ (Nat.le_of_ble_eq_true rfl) dX11_tellOne_279 (fun t203 hq => ?_)
                    obtain ⟨hF, ⟨ht203_fact0, ht203_fact1, ht203_fact2, gLt203⟩, hI, g204⟩ := hq
                    replace E := zLet_s hF E
                    have ft203_15 : (t203.1 a0 15).toInt = (t201.1 a0 15).toInt := by rw [g204.2.1 15 (by decide)]
                    have ft203_18 : (t203.1 a0 18).toInt = (t201.1 a0 18).toInt := by rw [g204.2.1 18 (by decide)]
                    have ft203_19 : (t203.1 a0 19).toInt = (t201.1 a0 19).toInt := by rw [g204.2.1 19 (by decide)]
                    have ft203_41 : (t203.1 a0 41).toInt = (t201.1 a0 41).toInt := by rw [g204.2.1 41 (by decide)]
                    have ft203_42 : (t203.1 a0 42).toInt = (t201.1 a0 42).toInt := by rw [g204.2.1 42 (by decide)]
                    have hS := hS.tr g204 (by decide) (by decide)
                    have gNt203 := gN.same hI ha0 g204 (by decide) gNt201
                    have gHt203 := gH.same hI ha0 g204 (by decide) gHt201
                    have gEt203 := gE.same hI ha0 g204 (by decide) gEt201
                    have gTrt203 := gTr.same hI ha0 g204 (by decide) gTrt201
                    have zgp := ht203_fact1
                    have zgk := ht203_fact2
                    clear ht203_fact2 ht203_fact1
                    exact ret _ _ _ dX11_tellOne_282 ⟨E.symm.trans hR, ⟨⟨(by omega), (fun h0 => by first | exact True.intro | exact zgp h0), (fun h0 => by first | exact gTrt203 | exact zgt h0), (by first | exact zlk0.tr zgk (by omega) | exact zLkp.eq rfl rfl rfl rfl rfl rfl rfl rfl rfl), gNt203, gHt203, gEt203, gLt203⟩, hI, hS⟩⟩
                  · skip
                    replace E := zIf_t c200 E
                    exact ret _ _ _ dX11_tellOne_272 ⟨E.symm.trans hR, ⟨⟨(by omega), (fun h0 => by exfalso; omega), (fun h0 => by exfalso; omega), (by first | exact zlk0.tr zgk (by omega) | exact zLkp.eq at196_30 at196_31 at196_33 at196_34 at196_35 at196_36 at196_37 at196_39 at196_40), gNt196, gHt196, gEt196, gLt196⟩, hI, hS⟩⟩
            · skip
              replace E := zIf_f q166 E
              by_cases q205 : v3.toInt = 26
              · refine zg_tabIn X 229 26 dX11_tellOne_9 q205 (by decide) (by decide) rfl (by decide) ?_
                replace E := zIf_t q205 E
                refine zg_aload_n X 0 rfl dX11_tellOne_229 ?_
                refine fg_X11_20 X hI ha0 dX11_tellOne_230 (fun v206 ev206 hv206 => ?_)
                replace E := zLet_s (zgr ev206) E
                refine zg_aload_n X 0 rfl dX11_tellOne_233 ?_
                refine fg_X11_209 X hI ha0 dX11_tellOne_234 (fun v207 ev207 hv207 => ?_)
                replace E := zLet_s ev207 E
                have kv207 : (σ.1 a0 11).toInt = v207.toInt := by rw [ev207]
                have mv207 : v207.toInt = v2.toInt := by rw [ev207, ← ev2]
                refine ag_105 X hI hv206 (by omega) (by omega) dX11_tellOne_237 (fun v208 ev208 _ => ?_)
                replace E := zLet_s ev208 E
                have qv208 := zp_ld ev206 ev208
                rw [← kv207] at qv208
                refine zg_bipush X 22 dX11_tellOne_238 (by decide) (fun v209 _ hv209 => ?_)
                replace E := zLet_s (zcst hv209 (by decide)) E
                refine zg_isub X dX11_tellOne_240 (by omega) (by omega) (fun v210 ev210 hv210 => ?_)
                replace E := zLet_s ev210 E
                refine zg_istore_n X [(1, .int v210), (0, .ref a0)] dX11_tellOne_241 (by decide) rfl ?_
                refine zg_iload_n X 0 rfl dX11_tellOne_242 ?_
                refine zg_if_lt X 260 dX11_tellOne_243 (by decide) (fun c211 => ?_) (fun c211 => ?_)
                · skip
                  replace E := zIf_t c211 E
                  refine zg_aload_n X 1 rfl dX11_tellOne_260 ?_
                  refine zg_iconst X 1 dX11_tellOne_261 (by decide) (fun v212 _ hv212 => ?_)
                  replace E := zLet_s (zcst hv212 (by decide)) E
                  refine zg_cVv (As := [.int v212]) (st := []) X ha0 rfl (by decide) rfl (t_X11_fail l d L kd κ _ hI a0 ha0 v212  (by omega)) mk_X11_221 mc_X11_fail mz_X11 mi_X11_fail ml_X11_fail (na := 1) ⟨md_X11.1, md_X11.2, by decide +kernel⟩ rfl ⟨by decide, by decide⟩ (Nat.le_of_ble_eq_true rfl) dX11_tellOne_262 (fun t213 hq => ?_)
                  obtain ⟨hF, ht213_fact0, hI, g214⟩ := hq
                  replace E := zLet_s hF E
                  have ft213_11 : (t213.1 a0 11).toInt = (σ.1 a0 11).toInt := by rw [g214.2.1 11 (by decide)]
                  have ft213_12 : (t213.1 a0 12).toInt = (σ.1 a0 12).toInt := by rw [g214.2.1 12 (by decide)]
                  have ft213_15 : (t213.1 a0 15).toInt = (σ.1 a0 15).toInt := by rw [g214.2.1 15 (by decide)]
                  have ft213_18 : (t213.1 a0 18).toInt = (σ.1 a0 18).toInt := by rw [g214.2.1 18 (by decide)]
                  have ft213_19 : (t213.1 a0 19).toInt = (σ.1 a0 19).toInt := by rw [g214.2.1 19 (by decide)]
                  have ft213_32 : (t213.1 a0 32).toInt = (σ.1 a0 32).toInt := by rw [g214.2.1 32 (by decide)]
                  have ft213_38 : (t213.1 a0 38).toInt = (σ.1 a0 38).toInt := by rw [g214.2.1 38 (by decide)]
                  have ft213_41 : (t213.1 a0 41).toInt = (σ.1 a0 41).toInt := by rw [g214.2.1 41 (by decide)]
                  have ft213_42 : (t213.1 a0 42).toInt = (σ.1 a0 42).toInt := by rw [g214.2.1 42 (by decide)]
                  have hS := hS.tr g214 (by decide) (by decide)
                  have at213_30 := zp_same hI ha0 g214 30 rfl (by decide) (by decide)
                  have at213_31 := zp_same hI ha0 g214 31 rfl (by decide) (by decide)
                  have at213_33 := zp_same hI ha0 g214 33 rfl (by decide) (by decide)
                  have at213_34 := zp_same hI ha0 g214 34 rfl (by decide) (by decide)
                  have at213_35 := zp_same hI ha0 g214 35 rfl (by decide) (by decide)
                  have at213_36 := zp_same hI ha0 g214 36 rfl (by decide) (by decide)
                  have at213_37 := zp_same hI ha0 g214 37 rfl (by decide) (by decide)
                  have at213_39 := zp_same hI ha0 g214 39 rfl (by decide) (by decide)
                  have at213_40 := zp_same hI ha0 g214 40 rfl (by decide) (by decide)
                  have gNt213 := gN.same hI ha0 g214 (by decide) hgN
                  have gHt213 := gH.same hI ha0 g214 (by decide) hgH
                  have gEt213 := gE.same hI ha0 g214 (by decide) hgE
                  have gLt213 := gL.same hI ha0 g214 (by decide) hgL
                  have gPt213 := gP.same hI ha0 g214 (by decide) hgP
                  have gTrt213 := gTr.same hI ha0 g214 (by decide) hgTr
                  refine zg_aload_n X 1 rfl dX11_tellOne_265 ?_
                  refine fg_X11_206 X hI ha0 dX11_tellOne_266 (fun v216 ev216 hv216 => ?_)
                  replace E := zLet_s ev216 E
                  have kv216 : (t213.1 a0 13).toInt = v216.toInt := by rw [ev216]
                  refine zg_if_le X 273 dX11_tellOne_269 (by decide) (fun c217 => ?_) (fun c217 => ?_)
                  · skip
                    replace E := zIf_f (Int.not_lt.mpr c217) E
                    refine zg_aload_n X 1 rfl dX11_tellOne_273 ?_
                    refine zg_cVv (As := []) (st := []) X ha0 rfl (by decide) rfl (t_X11_goesOn l d L kd κ _ hI a0 ha0   ) mk_X11_227 mc_X11_goesOn mz_X11 mi_X11_goesOn ml_X11_goesOn (na := 0) ⟨md_X11.1, md_X11.2, by decide +kernel⟩ rfl ⟨by decide, by decide⟩ (Nat.le_of_ble_eq_true rfl) dX11_tellOne_274 (fun t218 hq => ?_)
                    obtain ⟨hF, ht218_fact0, hI, g219⟩ := hq
                    replace E := zLet_s hF E
                    have ft218_12 : (t218.1 a0 12).toInt = (t213.1 a0 12).toInt := by rw [g219.2.1 12 (by decide)]
                    have ft218_15 : (t218.1 a0 15).toInt = (t213.1 a0 15).toInt := by rw [g219.2.1 15 (by decide)]
                    have ft218_18 : (t218.1 a0 18).toInt = (t213.1 a0 18).toInt := by rw [g219.2.1 18 (by decide)]
                    have ft218_19 : (t218.1 a0 19).toInt = (t213.1 a0 19).toInt := by rw [g219.2.1 19 (by decide)]
                    have ft218_32 : (t218.1 a0 32).toInt = (t213.1 a0 32).toInt := by rw [g219.2.1 32 (by decide)]
                    have ft218_38 : (t218.1 a0 38).toInt = (t213.1 a0 38).toInt := by rw [g219.2.1 38 (by decide)]
                    have ft218_41 : (t218.1 a0 41).toInt = (t213.1 a0 41).toInt := by rw [g219.2.1 41 (by decide)]
                    have ft218_42 : (t218.1 a0 42).toInt = (t213.1 a0 42).toInt := by rw [g219.2.1 42 (by decide)]
                    have hS := hS.tr g219 (by decide) (by decide)
                    have at218_30 := (zp_same hI ha0 g219 30 rfl (by decide) (by decide)).trans at213_30
                    have at218_31 := (zp_same hI ha0 g219 31 rfl (by decide) (by decide)).trans at213_31
                    have at218_33 := (zp_same hI ha0 g219 33 rfl (by decide) (by decide)).trans at213_33
                    have at218_34 := (zp_same hI ha0 g219 34 rfl (by decide) (by decide)).trans at213_34
                    have at218_35 := (zp_same hI ha0 g219 35 rfl (by decide) (by decide)).trans at213_35
                    have at218_36 := (zp_same hI ha0 g219 36 rfl (by decide) (by decide)).trans at213_36
                    have at218_37 := (zp_same hI ha0 g219 37 rfl (by decide) (by decide)).trans at213_37
                    have at218_39 := (zp_same hI ha0 g219 39 rfl (by decide) (by decide)).trans at213_39
                    have at218_40 := (zp_same hI ha0 g219 40 rfl (by decide) (by decide)).trans at213_40
                    have gNt218 := gN.same hI ha0 g219 (by decide) gNt213
                    have gHt218 := gH.same hI ha0 g219 (by decide) gHt213
                    have gEt218 := gE.same hI ha0 g219 (by decide) gEt213
                    have gLt218 := gL.same hI ha0 g219 (by decide) gLt213
                    have gPt218 := gP.same hI ha0 g219 (by decide) gPt213
                    have gTrt218 := gTr.same hI ha0 g219 (by decide) gTrt213
                    refine zg_aload_n X 1 rfl dX11_tellOne_277 ?_
                    refine zg_iload_n X 0 rfl dX11_tellOne_278 ?_
                    have zlk0 : zLkp a0 σ t218 := zLkp.eq at218_30 at218_31 at218_33 at218_34 at218_35 at218_36 at218_37 at218_39 at218_40
                    refine zg_cVv (As := [.int v210]) (st := []) X ha0 rfl (by decide) rfl (t_X11_tellLaw l d L kd κ _ hI a0 ha0 v210  (by omega) (by omega) (by omega) (by omega) (by omega) gPt218 gLt218) mk_X11_277 mc_X11_tellLaw mz_X11 mi_X11_tellLaw ml_X11_tellLaw (na := 1) ⟨md_X11.1, md_X11.2, by decide +kernel⟩ rfl ⟨by decide, by decide⟩ (Nat.le_of_ble_eq_true rfl) dX11_tellOne_279 (fun t220 hq => ?_)
                    obtain ⟨hF, ⟨ht220_fact0, ht220_fact1, ht220_fact2, gLt220⟩, hI, g221⟩ := hq
                    replace E := zLet_s hF E
                    have ft220_15 : (t220.1 a0 15).toInt = (t218.1 a0 15).toInt := by rw [g221.2.1 15 (by decide)]
                    have ft220_18 : (t220.1 a0 18).toInt = (t218.1 a0 18).toInt := by rw [g221.2.1 18 (by decide)]
                    have ft220_19 : (t220.1 a0 19).toInt = (t218.1 a0 19).toInt := by rw [g221.2.1 19 (by decide)]
                    have ft220_41 : (t220.1 a0 41).toInt = (t218.1 a0 41).toInt := by rw [g221.2.1 41 (by decide)]
                    have ft220_42 : (t220.1 a0 42).toInt = (t218.1 a0 42).toInt := by rw [g221.2.1 42 (by decide)]
                    have hS := hS.tr g221 (by decide) (by decide)
                    have gNt220 := gN.same hI ha0 g221 (by decide) gNt218
                    have gHt220 := gH.same hI ha0 g221 (by decide) gHt218
                    have gEt220 := gE.same hI ha0 g221 (by decide) gEt218
                    have gTrt220 := gTr.same hI ha0 g221 (by decide) gTrt218
                    have zgp := ht220_fact1
                    have zgk := ht220_fact2
                    clear ht220_fact2 ht220_fact1
                    exact ret _ _ _ dX11_tellOne_282 ⟨E.symm.trans hR, ⟨⟨(by omega), (fun h0 => by first | exact True.intro | exact zgp h0), (fun h0 => by first | exact gTrt220 | exact zgt h0), (by first | exact zlk0.tr zgk (by omega) | exact zLkp.eq rfl rfl rfl rfl rfl rfl rfl rfl rfl), gNt220, gHt220, gEt220, gLt220⟩, hI, hS⟩⟩
                  · skip
                    replace E := zIf_t c217 E
                    exact ret _ _ _ dX11_tellOne_272 ⟨E.symm.trans hR, ⟨⟨(by omega), (fun h0 => by exfalso; omega), (fun h0 => by exfalso; omega), (by first | exact zlk0.tr zgk (by omega) | exact zLkp.eq at213_30 at213_31 at213_33 at213_34 at213_35 at213_36 at213_37 at213_39 at213_40), gNt213, gHt213, gEt213, gLt213⟩, hI, hS⟩⟩
                · skip
                  replace E := zIf_f (Int.not_lt.mpr c211) E
                  refine zg_aload_n X 1 rfl dX11_tellOne_246 ?_
                  refine fg_X11_20 X hI ha0 dX11_tellOne_247 (fun v222 ev222 hv222 => ?_)
                  replace E := zLet_s (zgr ev222) E
                  refine zg_aload_n X 1 rfl dX11_tellOne_250 ?_
                  refine fg_X11_209 X hI ha0 dX11_tellOne_251 (fun v223 ev223 hv223 => ?_)
                  replace E := zLet_s ev223 E
                  have kv223 : (σ.1 a0 11).toInt = v223.toInt := by rw [ev223]
                  have mv223 : v223.toInt = v207.toInt := by rw [ev223, ← ev207]
                  refine ag_105 X hI hv222 (by omega) (by omega) dX11_tellOne_254 (fun v224 ev224 _ => ?_)
                  replace E := zLet_s ev224 E
                  have qv224 := zp_ld ev222 ev224
                  rw [← kv223] at qv224
                  refine zg_bipush X 26 dX11_tellOne_255 (by decide) (fun v225 _ hv225 => ?_)
                  replace E := zLet_s (zcst hv225 (by decide)) E
                  have zv224_z226 := zb_rng v224
                  refine zg_icmp_le X 265 dX11_tellOne_257 (by decide) (fun c227 => ?_) (fun c227 => ?_)
                  · skip
                    replace E := zIf_f (Int.not_lt.mpr c227) E
                    refine zg_aload_n X 1 rfl dX11_tellOne_265 ?_
                    refine fg_X11_206 X hI ha0 dX11_tellOne_266 (fun v228 ev228 hv228 => ?_)
                    replace E := zLet_s ev228 E
                    have kv228 : (σ.1 a0 13).toInt = v228.toInt := by rw [ev228]
                    refine zg_if_le X 273 dX11_tellOne_269 (by decide) (fun c229 => ?_) (fun c229 => ?_)
                    · skip
                      replace E := zIf_f (Int.not_lt.mpr c229) E
                      refine zg_aload_n X 1 rfl dX11_tellOne_273 ?_
                      refine zg_cVv (As := []) (st := []) X ha0 rfl (by decide) rfl (t_X11_goesOn l d L kd κ _ hI a0 ha0   ) mk_X11_227 mc_X11_goesOn mz_X11 mi_X11_goesOn ml_X11_goesOn (na := 0) ⟨md_X11.1, md_X11.2, by decide +kernel⟩ rfl ⟨by decide, by decide⟩ (Nat.le_of_ble_eq_true rfl) dX11_tellOne_274 (fun t230 hq => ?_)
                      obtain ⟨hF, ht230_fact0, hI, g231⟩ := hq
                      replace E := zLet_s hF E
                      have ft230_12 : (t230.1 a0 12).toInt = (σ.1 a0 12).toInt := by rw [g231.2.1 12 (by decide)]
                      have ft230_15 : (t230.1 a0 15).toInt = (σ.1 a0 15).toInt := by rw [g231.2.1 15 (by decide)]
                      have ft230_18 : (t230.1 a0 18).toInt = (σ.1 a0 18).toInt := by rw [g231.2.1 18 (by decide)]
                      have ft230_19 : (t230.1 a0 19).toInt = (σ.1 a0 19).toInt := by rw [g231.2.1 19 (by decide)]
                      have ft230_32 : (t230.1 a0 32).toInt = (σ.1 a0 32).toInt := by rw [g231.2.1 32 (by decide)]
                      have ft230_38 : (t230.1 a0 38).toInt = (σ.1 a0 38).toInt := by rw [g231.2.1 38 (by decide)]
                      have ft230_41 : (t230.1 a0 41).toInt = (σ.1 a0 41).toInt := by rw [g231.2.1 41 (by decide)]
                      have ft230_42 : (t230.1 a0 42).toInt = (σ.1 a0 42).toInt := by rw [g231.2.1 42 (by decide)]
                      have hS := hS.tr g231 (by decide) (by decide)
                      have at230_30 := zp_same hI ha0 g231 30 rfl (by decide) (by decide)
                      have at230_31 := zp_same hI ha0 g231 31 rfl (by decide) (by decide)
                      have at230_33 := zp_same hI ha0 g231 33 rfl (by decide) (by decide)
                      have at230_34 := zp_same hI ha0 g231 34 rfl (by decide) (by decide)
                      have at230_35 := zp_same hI ha0 g231 35 rfl (by decide) (by decide)
                      have at230_36 := zp_same hI ha0 g231 36 rfl (by decide) (by decide)
                      have at230_37 := zp_same hI ha0 g231 37 rfl (by decide) (by decide)
                      have at230_39 := zp_same hI ha0 g231 39 rfl (by decide) (by decide)
                      have at230_40 := zp_same hI ha0 g231 40 rfl (by decide) (by decide)
                      have gNt230 := gN.same hI ha0 g231 (by decide) hgN
                      have gHt230 := gH.same hI ha0 g231 (by decide) hgH
                      have gEt230 := gE.same hI ha0 g231 (by decide) hgE
                      have gLt230 := gL.same hI ha0 g231 (by decide) hgL
                      have gPt230 := gP.same hI ha0 g231 (by decide) hgP
                      have gTrt230 := gTr.same hI ha0 g231 (by decide) hgTr
                      refine zg_aload_n X 1 rfl dX11_tellOne_277 ?_
                      refine zg_iload_n X 0 rfl dX11_tellOne_278 ?_
                      have zlk0 : zLkp a0 σ t230 := zLkp.eq at230_30 at230_31 at230_33 at230_34 at230_35 at230_36 at230_37 at230_39 at230_40
                      refine zg_cVv (As := [.int v210]) (st := []) X ha0 rfl (by decide) rfl (t_X11_tellLaw l d L kd κ _ hI a0 ha0 v210  (by omega) (by omega) (by omega) (by omega) (by omega) gPt230 gLt230) mk_X11_277 mc_X11_tellLaw mz_X11 mi_X11_tellLaw ml_X11_tellLaw (na := 1) ⟨md_X11.1, md_X11.2, by decide +kernel⟩ rfl ⟨by decide, by decide⟩ (Nat.le_of_ble_eq_true rfl) dX11_tellOne_279 (fun t232 hq => ?_)
                      obtain ⟨hF, ⟨ht232_fact0, ht232_fact1, ht232_fact2, gLt232⟩, hI, g233⟩ := hq
                      replace E := zLet_s hF E
                      have ft232_15 : (t232.1 a0 15).toInt = (t230.1 a0 15).toInt := by rw [g233.2.1 15 (by decide)]
                      have ft232_18 : (t232.1 a0 18).toInt = (t230.1 a0 18).toInt := by rw [g233.2.1 18 (by decide)]
                      have ft232_19 : (t232.1 a0 19).toInt = (t230.1 a0 19).toInt := by rw [g233.2.1 19 (by decide)]
                      have ft232_41 : (t232.1 a0 41).toInt = (t230.1 a0 41).toInt := by rw [g233.2.1 41 (by decide)]
                      have ft232_42 : (t232.1 a0 42).toInt = (t230.1 a0 42).toInt := by rw [g233.2.1 42 (by decide)]
                      have hS := hS.tr g233 (by decide) (by decide)
                      have gNt232 := gN.same hI ha0 g233 (by decide) gNt230
                      have gHt232 := gH.same hI ha0 g233 (by decide) gHt230
                      have gEt232 := gE.same hI ha0 g233 (by decide) gEt230
                      have gTrt232 := gTr.same hI ha0 g233 (by decide) gTrt230
                      have zgp := ht232_fact1
                      have zgk := ht232_fact2
                      clear ht232_fact2 ht232_fact1
                      exact ret _ _ _ dX11_tellOne_282 ⟨E.symm.trans hR, ⟨⟨(by omega), (fun h0 => by first | exact True.intro | exact zgp h0), (fun h0 => by first | exact gTrt232 | exact zgt h0), (by first | exact zlk0.tr zgk (by omega) | exact zLkp.eq rfl rfl rfl rfl rfl rfl rfl rfl rfl), gNt232, gHt232, gEt232, gLt232⟩, hI, hS⟩⟩
                    · skip
                      replace E := zIf_t c229 E
                      exact ret _ _ _ dX11_tellOne_272 ⟨E.symm.trans hR, ⟨⟨(by omega), (fun h0 => by exfalso; omega), (fun h0 => by exfalso; omega), (by first | exact zlk0.tr zgk (by omega) | exact zLkp.eq rfl rfl rfl rfl rfl rfl rfl rfl rfl), hgN, hgH, hgE, hgL⟩, hI, hS⟩⟩
                  · skip
                    replace E := zIf_t c227 E
                    refine zg_aload_n X 1 rfl dX11_tellOne_260 ?_
                    refine zg_iconst X 1 dX11_tellOne_261 (by decide) (fun v234 _ hv234 => ?_)
                    replace E := zLet_s (zcst hv234 (by decide)) E
                    refine zg_cVv (As := [.int v234]) (st := []) X ha0 rfl (by decide) rfl (t_X11_fail l d L kd κ _ hI a0 ha0 v234  (by omega)) mk_X11_221 mc_X11_fail mz_X11 mi_X11_fail ml_X11_fail (na := 1) ⟨md_X11.1, md_X11.2, by decide +kernel⟩ rfl ⟨by decide, by decide⟩ (Nat.le_of_ble_eq_true rfl) dX11_tellOne_262 (fun t235 hq => ?_)
                    obtain ⟨hF, ht235_fact0, hI, g236⟩ := hq
                    replace E := zLet_s hF E
                    have ft235_11 : (t235.1 a0 11).toInt = (σ.1 a0 11).toInt := by rw [g236.2.1 11 (by decide)]
                    have ft235_12 : (t235.1 a0 12).toInt = (σ.1 a0 12).toInt := by rw [g236.2.1 12 (by decide)]
                    have ft235_15 : (t235.1 a0 15).toInt = (σ.1 a0 15).toInt := by rw [g236.2.1 15 (by decide)]
                    have ft235_18 : (t235.1 a0 18).toInt = (σ.1 a0 18).toInt := by rw [g236.2.1 18 (by decide)]
                    have ft235_19 : (t235.1 a0 19).toInt = (σ.1 a0 19).toInt := by rw [g236.2.1 19 (by decide)]
                    have ft235_32 : (t235.1 a0 32).toInt = (σ.1 a0 32).toInt := by rw [g236.2.1 32 (by decide)]
                    have ft235_38 : (t235.1 a0 38).toInt = (σ.1 a0 38).toInt := by rw [g236.2.1 38 (by decide)]
                    have ft235_41 : (t235.1 a0 41).toInt = (σ.1 a0 41).toInt := by rw [g236.2.1 41 (by decide)]
                    have ft235_42 : (t235.1 a0 42).toInt = (σ.1 a0 42).toInt := by rw [g236.2.1 42 (by decide)]
                    have hS := hS.tr g236 (by decide) (by decide)
                    have at235_30 := zp_same hI ha0 g236 30 rfl (by decide) (by decide)
                    have at235_31 := zp_same hI ha0 g236 31 rfl (by decide) (by decide)
                    have at235_33 := zp_same hI ha0 g236 33 rfl (by decide) (by decide)
                    have at235_34 := zp_same hI ha0 g236 34 rfl (by decide) (by decide)
                    have at235_35 := zp_same hI ha0 g236 35 rfl (by decide) (by decide)
                    have at235_36 := zp_same hI ha0 g236 36 rfl (by decide) (by decide)
                    have at235_37 := zp_same hI ha0 g236 37 rfl (by decide) (by decide)
                    have at235_39 := zp_same hI ha0 g236 39 rfl (by decide) (by decide)
                    have at235_40 := zp_same hI ha0 g236 40 rfl (by decide) (by decide)
                    have gNt235 := gN.same hI ha0 g236 (by decide) hgN
                    have gHt235 := gH.same hI ha0 g236 (by decide) hgH
                    have gEt235 := gE.same hI ha0 g236 (by decide) hgE
                    have gLt235 := gL.same hI ha0 g236 (by decide) hgL
                    have gPt235 := gP.same hI ha0 g236 (by decide) hgP
                    have gTrt235 := gTr.same hI ha0 g236 (by decide) hgTr
                    refine zg_aload_n X 1 rfl dX11_tellOne_265 ?_
                    refine fg_X11_206 X hI ha0 dX11_tellOne_266 (fun v238 ev238 hv238 => ?_)
                    replace E := zLet_s ev238 E
                    have kv238 : (t235.1 a0 13).toInt = v238.toInt := by rw [ev238]
                    refine zg_if_le X 273 dX11_tellOne_269 (by decide) (fun c239 => ?_) (fun c239 => ?_)
                    · skip
                      replace E := zIf_f (Int.not_lt.mpr c239) E
                      refine zg_aload_n X 1 rfl dX11_tellOne_273 ?_
                      refine zg_cVv (As := []) (st := []) X ha0 rfl (by decide) rfl (t_X11_goesOn l d L kd κ _ hI a0 ha0   ) mk_X11_227 mc_X11_goesOn mz_X11 mi_X11_goesOn ml_X11_goesOn (na := 0) ⟨md_X11.1, md_X11.2, by decide +kernel⟩ rfl ⟨by decide, by decide⟩ (Nat.le_of_ble_eq_true rfl) dX11_tellOne_274 (fun t240 hq => ?_)
                      obtain ⟨hF, ht240_fact0, hI, g241⟩ := hq
                      replace E := zLet_s hF E
                      have ft240_12 : (t240.1 a0 12).toInt = (t235.1 a0 12).toInt := by rw [g241.2.1 12 (by decide)]
                      have ft240_15 : (t240.1 a0 15).toInt = (t235.1 a0 15).toInt := by rw [g241.2.1 15 (by decide)]
                      have ft240_18 : (t240.1 a0 18).toInt = (t235.1 a0 18).toInt := by rw [g241.2.1 18 (by decide)]
                      have ft240_19 : (t240.1 a0 19).toInt = (t235.1 a0 19).toInt := by rw [g241.2.1 19 (by decide)]
                      have ft240_32 : (t240.1 a0 32).toInt = (t235.1 a0 32).toInt := by rw [g241.2.1 32 (by decide)]
                      have ft240_38 : (t240.1 a0 38).toInt = (t235.1 a0 38).toInt := by rw [g241.2.1 38 (by decide)]
                      have ft240_41 : (t240.1 a0 41).toInt = (t235.1 a0 41).toInt := by rw [g241.2.1 41 (by decide)]
                      have ft240_42 : (t240.1 a0 42).toInt = (t235.1 a0 42).toInt := by rw [g241.2.1 42 (by decide)]
                      have hS := hS.tr g241 (by decide) (by decide)
                      have at240_30 := (zp_same hI ha0 g241 30 rfl (by decide) (by decide)).trans at235_30
                      have at240_31 := (zp_same hI ha0 g241 31 rfl (by decide) (by decide)).trans at235_31
                      have at240_33 := (zp_same hI ha0 g241 33 rfl (by decide) (by decide)).trans at235_33
                      have at240_34 := (zp_same hI ha0 g241 34 rfl (by decide) (by decide)).trans at235_34
                      have at240_35 := (zp_same hI ha0 g241 35 rfl (by decide) (by decide)).trans at235_35
                      have at240_36 := (zp_same hI ha0 g241 36 rfl (by decide) (by decide)).trans at235_36
                      have at240_37 := (zp_same hI ha0 g241 37 rfl (by decide) (by decide)).trans at235_37
                      have at240_39 := (zp_same hI ha0 g241 39 rfl (by decide) (by decide)).trans at235_39
                      have at240_40 := (zp_same hI ha0 g241 40 rfl (by decide) (by decide)).trans at235_40
                      have gNt240 := gN.same hI ha0 g241 (by decide) gNt235
                      have gHt240 := gH.same hI ha0 g241 (by decide) gHt235
                      have gEt240 := gE.same hI ha0 g241 (by decide) gEt235
                      have gLt240 := gL.same hI ha0 g241 (by decide) gLt235
                      have gPt240 := gP.same hI ha0 g241 (by decide) gPt235
                      have gTrt240 := gTr.same hI ha0 g241 (by decide) gTrt235
                      refine zg_aload_n X 1 rfl dX11_tellOne_277 ?_
                      refine zg_iload_n X 0 rfl dX11_tellOne_278 ?_
                      have zlk0 : zLkp a0 σ t240 := zLkp.eq at240_30 at240_31 at240_33 at240_34 at240_35 at240_36 at240_37 at240_39 at240_40
                      refine zg_cVv (As := [.int v210]) (st := []) X ha0 rfl (by decide) rfl (t_X11_tellLaw l d L kd κ _ hI a0 ha0 v210  (by omega) (by omega) (by omega) (by omega) (by omega) gPt240 gLt240) mk_X11_277 mc_X11_tellLaw mz_X11 mi_X11_tellLaw ml_X11_tellLaw (na := 1) ⟨md_X11.1, md_X11.2, by decide +kernel⟩ rfl ⟨by decide, by decide⟩ (Nat.le_of_ble_eq_true rfl) dX11_tellOne_279 (fun t242 hq => ?_)
                      obtain ⟨hF, ⟨ht242_fact0, ht242_fact1, ht242_fact2, gLt242⟩, hI, g243⟩ := hq
                      replace E := zLet_s hF E
                      have ft242_15 : (t242.1 a0 15).toInt = (t240.1 a0 15).toInt := by rw [g243.2.1 15 (by decide)]
                      have ft242_18 : (t242.1 a0 18).toInt = (t240.1 a0 18).toInt := by rw [g243.2.1 18 (by decide)]
                      have ft242_19 : (t242.1 a0 19).toInt = (t240.1 a0 19).toInt := by rw [g243.2.1 19 (by decide)]
                      have ft242_41 : (t242.1 a0 41).toInt = (t240.1 a0 41).toInt := by rw [g243.2.1 41 (by decide)]
                      have ft242_42 : (t242.1 a0 42).toInt = (t240.1 a0 42).toInt := by rw [g243.2.1 42 (by decide)]
                      have hS := hS.tr g243 (by decide) (by decide)
                      have gNt242 := gN.same hI ha0 g243 (by decide) gNt240
                      have gHt242 := gH.same hI ha0 g243 (by decide) gHt240
                      have gEt242 := gE.same hI ha0 g243 (by decide) gEt240
                      have gTrt242 := gTr.same hI ha0 g243 (by decide) gTrt240
                      have zgp := ht242_fact1
                      have zgk := ht242_fact2
                      clear ht242_fact2 ht242_fact1
                      exact ret _ _ _ dX11_tellOne_282 ⟨E.symm.trans hR, ⟨⟨(by omega), (fun h0 => by first | exact True.intro | exact zgp h0), (fun h0 => by first | exact gTrt242 | exact zgt h0), (by first | exact zlk0.tr zgk (by omega) | exact zLkp.eq rfl rfl rfl rfl rfl rfl rfl rfl rfl), gNt242, gHt242, gEt242, gLt242⟩, hI, hS⟩⟩
                    · skip
                      replace E := zIf_t c239 E
                      exact ret _ _ _ dX11_tellOne_272 ⟨E.symm.trans hR, ⟨⟨(by omega), (fun h0 => by exfalso; omega), (fun h0 => by exfalso; omega), (by first | exact zlk0.tr zgk (by omega) | exact zLkp.eq at235_30 at235_31 at235_33 at235_34 at235_35 at235_36 at235_37 at235_39 at235_40), gNt235, gHt235, gEt235, gLt235⟩, hI, hS⟩⟩
              · skip
                replace E := zIf_f q205 E
                by_cases q244 : v3.toInt = 27
                · refine zg_tabIn X 128 27 dX11_tellOne_9 q244 (by decide) (by decide) rfl (by decide) ?_
                  replace E := zIf_t q244 E
                  refine zg_aload_n X 0 rfl dX11_tellOne_128 ?_
                  refine zg_cVv (As := []) (st := []) X ha0 rfl (by decide) rfl (t_X11_goesOn l d L kd κ _ hI a0 ha0   ) mk_X11_227 mc_X11_goesOn mz_X11 mi_X11_goesOn ml_X11_goesOn (na := 0) ⟨md_X11.1, md_X11.2, by decide +kernel⟩ rfl ⟨by decide, by decide⟩ (Nat.le_of_ble_eq_true rfl) dX11_tellOne_129 (fun t245 hq => ?_)
                  obtain ⟨hF, ht245_fact0, hI, g246⟩ := hq
                  replace E := zLet_s hF E
                  have ft245_12 : (t245.1 a0 12).toInt = (σ.1 a0 12).toInt := by rw [g246.2.1 12 (by decide)]
                  have ft245_15 : (t245.1 a0 15).toInt = (σ.1 a0 15).toInt := by rw [g246.2.1 15 (by decide)]
                  have ft245_18 : (t245.1 a0 18).toInt = (σ.1 a0 18).toInt := by rw [g246.2.1 18 (by decide)]
                  have ft245_19 : (t245.1 a0 19).toInt = (σ.1 a0 19).toInt := by rw [g246.2.1 19 (by decide)]
                  have ft245_32 : (t245.1 a0 32).toInt = (σ.1 a0 32).toInt := by rw [g246.2.1 32 (by decide)]
                  have ft245_38 : (t245.1 a0 38).toInt = (σ.1 a0 38).toInt := by rw [g246.2.1 38 (by decide)]
                  have ft245_41 : (t245.1 a0 41).toInt = (σ.1 a0 41).toInt := by rw [g246.2.1 41 (by decide)]
                  have ft245_42 : (t245.1 a0 42).toInt = (σ.1 a0 42).toInt := by rw [g246.2.1 42 (by decide)]
                  have hS := hS.tr g246 (by decide) (by decide)
                  have at245_30 := zp_same hI ha0 g246 30 rfl (by decide) (by decide)
                  have at245_31 := zp_same hI ha0 g246 31 rfl (by decide) (by decide)
                  have at245_33 := zp_same hI ha0 g246 33 rfl (by decide) (by decide)
                  have at245_34 := zp_same hI ha0 g246 34 rfl (by decide) (by decide)
                  have at245_35 := zp_same hI ha0 g246 35 rfl (by decide) (by decide)
                  have at245_36 := zp_same hI ha0 g246 36 rfl (by decide) (by decide)
                  have at245_37 := zp_same hI ha0 g246 37 rfl (by decide) (by decide)
                  have at245_39 := zp_same hI ha0 g246 39 rfl (by decide) (by decide)
                  have at245_40 := zp_same hI ha0 g246 40 rfl (by decide) (by decide)
                  have gNt245 := gN.same hI ha0 g246 (by decide) hgN
                  have gHt245 := gH.same hI ha0 g246 (by decide) hgH
                  have gEt245 := gE.same hI ha0 g246 (by decide) hgE
                  have gLt245 := gL.same hI ha0 g246 (by decide) hgL
                  have gPt245 := gP.same hI ha0 g246 (by decide) hgP
                  have gTrt245 := gTr.same hI ha0 g246 (by decide) hgTr
                  refine zg_aload_n X 0 rfl dX11_tellOne_132 ?_
                  refine fg_X11_58 X hI ha0 dX11_tellOne_133 (fun v247 ev247 hv247 => ?_)
                  replace E := zLet_s (zgr ev247) E
                  refine zg_aload_n X 0 rfl dX11_tellOne_136 ?_
                  refine fg_X11_239 X hI ha0 dX11_tellOne_137 (fun v248 ev248 hv248 => ?_)
                  replace E := zLet_s ev248 E
                  have kv248 : (t245.1 a0 19).toInt = v248.toInt := by rw [ev248]
                  refine zg_aload_n X 0 rfl dX11_tellOne_140 ?_
                  refine zg_iconst X 0 dX11_tellOne_141 (by decide) (fun v249 _ hv249 => ?_)
                  replace E := zLet_s (zcst hv249 (by decide)) E
                  refine zg_bipush X 100 dX11_tellOne_142 (by decide) (fun v250 _ hv250 => ?_)
                  replace E := zLet_s (zcst hv250 (by decide)) E
                  refine zg_cVi (As := [.int v249, .int v250]) (st := [.int v248, .ref v247]) X ha0 rfl (by decide) rfl (t_X11_bounded l d L kd κ _ hI a0 ha0 v249 v250  ) mk_X11_270 mc_X11_bounded mz_X11 mi_X11_bounded ml_X11_bounded (na := 2) ⟨md_X11.1, md_X11.2, by decide +kernel⟩ rfl ⟨by decide, by decide⟩ (Nat.le_of_ble_eq_true rfl) dX11_tellOne_144 (fun v252 t251 hq => ?_)
                  obtain ⟨hF, ⟨ht251_fact0, ht251_fact1⟩, hI, g253⟩ := hq
                  replace E := zLet2_s hF E
                  have ft251_12 : (t251.1 a0 12).toInt = (t245.1 a0 12).toInt := by rw [g253.2.1 12 (by decide)]
                  have ft251_18 : (t251.1 a0 18).toInt = (t245.1 a0 18).toInt := by rw [g253.2.1 18 (by decide)]
                  have ft251_19 : (t251.1 a0 19).toInt = (t245.1 a0 19).toInt := by rw [g253.2.1 19 (by decide)]
                  have ft251_32 : (t251.1 a0 32).toInt = (t245.1 a0 32).toInt := by rw [g253.2.1 32 (by decide)]
                  have ft251_38 : (t251.1 a0 38).toInt = (t245.1 a0 38).toInt := by rw [g253.2.1 38 (by decide)]
                  have ft251_41 : (t251.1 a0 41).toInt = (t245.1 a0 41).toInt := by rw [g253.2.1 41 (by decide)]
                  have ft251_42 : (t251.1 a0 42).toInt = (t245.1 a0 42).toInt := by rw [g253.2.1 42 (by decide)]
                  have hS := hS.tr g253 (by decide) (by decide)
                  have at251_30 := (zp_same hI ha0 g253 30 rfl (by decide) (by decide)).trans at245_30
                  have at251_31 := (zp_same hI ha0 g253 31 rfl (by decide) (by decide)).trans at245_31
                  have at251_33 := (zp_same hI ha0 g253 33 rfl (by decide) (by decide)).trans at245_33
                  have at251_34 := (zp_same hI ha0 g253 34 rfl (by decide) (by decide)).trans at245_34
                  have at251_35 := (zp_same hI ha0 g253 35 rfl (by decide) (by decide)).trans at245_35
                  have at251_36 := (zp_same hI ha0 g253 36 rfl (by decide) (by decide)).trans at245_36
                  have at251_37 := (zp_same hI ha0 g253 37 rfl (by decide) (by decide)).trans at245_37
                  have at251_39 := (zp_same hI ha0 g253 39 rfl (by decide) (by decide)).trans at245_39
                  have at251_40 := (zp_same hI ha0 g253 40 rfl (by decide) (by decide)).trans at245_40
                  have gNt251 := gN.same hI ha0 g253 (by decide) gNt245
                  have gHt251 := gH.same hI ha0 g253 (by decide) gHt245
                  have gEt251 := gE.same hI ha0 g253 (by decide) gEt245
                  have gLt251 := gL.same hI ha0 g253 (by decide) gLt245
                  have gPt251 := gP.same hI ha0 g253 (by decide) gPt245
                  have e255 := g253.v ev248 (by decide)
                  have gTrt251 := gTr.w hI ha0 g253 (by decide) ht251_fact1 gTrt245
                  refine as_126 X hI hv247 (by omega) (by omega) dX11_tellOne_147 (fun s256 es256 hI => ?_)
                  replace E := zLet_s es256 E
                  have g257 := (zSame.rf (o := a0) (Wf := []) (Wa := [126]) (L := L) (kd := kd) (σ := t251)).a ha0 hv247 es256 rfl (by decide)
                  have fs256_11 : (s256.1 a0 11).toInt = (t251.1 a0 11).toInt := by rw [g257.2.1 11 (by decide)]
                  have fs256_12 : (s256.1 a0 12).toInt = (t251.1 a0 12).toInt := by rw [g257.2.1 12 (by decide)]
                  have fs256_13 : (s256.1 a0 13).toInt = (t251.1 a0 13).toInt := by rw [g257.2.1 13 (by decide)]
                  have fs256_15 : (s256.1 a0 15).toInt = (t251.1 a0 15).toInt := by rw [g257.2.1 15 (by decide)]
                  have fs256_18 : (s256.1 a0 18).toInt = (t251.1 a0 18).toInt := by rw [g257.2.1 18 (by decide)]
                  have fs256_19 : (s256.1 a0 19).toInt = (t251.1 a0 19).toInt := by rw [g257.2.1 19 (by decide)]
                  have fs256_32 : (s256.1 a0 32).toInt = (t251.1 a0 32).toInt := by rw [g257.2.1 32 (by decide)]
                  have fs256_38 : (s256.1 a0 38).toInt = (t251.1 a0 38).toInt := by rw [g257.2.1 38 (by decide)]
                  have fs256_41 : (s256.1 a0 41).toInt = (t251.1 a0 41).toInt := by rw [g257.2.1 41 (by decide)]
                  have fs256_42 : (s256.1 a0 42).toInt = (t251.1 a0 42).toInt := by rw [g257.2.1 42 (by decide)]
                  have hS := hS.tr g257 (by decide) (by decide)
                  have as256_30 := (zp_same hI ha0 g257 30 rfl (by decide) (by decide)).trans at251_30
                  have as256_31 := (zp_same hI ha0 g257 31 rfl (by decide) (by decide)).trans at251_31
                  have as256_33 := (zp_same hI ha0 g257 33 rfl (by decide) (by decide)).trans at251_33
                  have as256_34 := (zp_same hI ha0 g257 34 rfl (by decide) (by decide)).trans at251_34
                  have as256_35 := (zp_same hI ha0 g257 35 rfl (by decide) (by decide)).trans at251_35
                  have as256_36 := (zp_same hI ha0 g257 36 rfl (by decide) (by decide)).trans at251_36
                  have as256_37 := (zp_same hI ha0 g257 37 rfl (by decide) (by decide)).trans at251_37
                  have as256_39 := (zp_same hI ha0 g257 39 rfl (by decide) (by decide)).trans at251_39
                  have as256_40 := (zp_same hI ha0 g257 40 rfl (by decide) (by decide)).trans at251_40
                  have gNs256 := gN.same hI ha0 g257 (by decide) gNt251
                  have gHs256 := gH.same hI ha0 g257 (by decide) gHt251
                  have gEs256 := gE.same hI ha0 g257 (by decide) gEt251
                  have gLs256 := gL.same hI ha0 g257 (by decide) gLt251
                  have gPs256 := gP.same hI ha0 g257 (by decide) gPt251
                  have gTrs256 := gTr.same hI ha0 g257 (by decide) gTrt251
                  have e258 := g257.v e255 (by decide)
                  refine zg_aload_n X 0 rfl dX11_tellOne_148 ?_
                  refine fg_X11_61 X hI ha0 dX11_tellOne_149 (fun v259 ev259 hv259 => ?_)
                  replace E := zLet_s (zgr ev259) E
                  refine zg_aload_n X 0 rfl dX11_tellOne_152 ?_
                  refine fg_X11_239 X hI ha0 dX11_tellOne_153 (fun v260 ev260 hv260 => ?_)
                  replace E := zLet_s ev260 E
                  have kv260 : (s256.1 a0 19).toInt = v260.toInt := by rw [ev260]
                  have mv260 : v260.toInt = v248.toInt := by rw [ev260, ← e258]
                  refine zg_aload_n X 0 rfl dX11_tellOne_156 ?_
                  refine zg_iconst X 0 dX11_tellOne_157 (by decide) (fun v261 _ hv261 => ?_)
                  replace E := zLet_s (zcst hv261 (by decide)) E
                  refine zg_bipush X 99 dX11_tellOne_158 (by decide) (fun v262 _ hv262 => ?_)
                  replace E := zLet_s (zcst hv262 (by decide)) E
                  refine zg_cVi (As := [.int v261, .int v262]) (st := [.int v260, .ref v259]) X ha0 rfl (by decide) rfl (t_X11_bounded l d L kd κ _ hI a0 ha0 v261 v262  ) mk_X11_270 mc_X11_bounded mz_X11 mi_X11_bounded ml_X11_bounded (na := 2) ⟨md_X11.1, md_X11.2, by decide +kernel⟩ rfl ⟨by decide, by decide⟩ (Nat.le_of_ble_eq_true rfl) dX11_tellOne_160 (fun v264 t263 hq => ?_)
                  obtain ⟨hF, ⟨ht263_fact0, ht263_fact1⟩, hI, g265⟩ := hq
                  replace E := zLet2_s hF E
                  have ft263_12 : (t263.1 a0 12).toInt = (s256.1 a0 12).toInt := by rw [g265.2.1 12 (by decide)]
                  have ft263_18 : (t263.1 a0 18).toInt = (s256.1 a0 18).toInt := by rw [g265.2.1 18 (by decide)]
                  have ft263_19 : (t263.1 a0 19).toInt = (s256.1 a0 19).toInt := by rw [g265.2.1 19 (by decide)]
                  have ft263_32 : (t263.1 a0 32).toInt = (s256.1 a0 32).toInt := by rw [g265.2.1 32 (by decide)]
                  have ft263_38 : (t263.1 a0 38).toInt = (s256.1 a0 38).toInt := by rw [g265.2.1 38 (by decide)]
                  have ft263_41 : (t263.1 a0 41).toInt = (s256.1 a0 41).toInt := by rw [g265.2.1 41 (by decide)]
                  have ft263_42 : (t263.1 a0 42).toInt = (s256.1 a0 42).toInt := by rw [g265.2.1 42 (by decide)]
                  have hS := hS.tr g265 (by decide) (by decide)
                  have at263_30 := (zp_same hI ha0 g265 30 rfl (by decide) (by decide)).trans as256_30
                  have at263_31 := (zp_same hI ha0 g265 31 rfl (by decide) (by decide)).trans as256_31
                  have at263_33 := (zp_same hI ha0 g265 33 rfl (by decide) (by decide)).trans as256_33
                  have at263_34 := (zp_same hI ha0 g265 34 rfl (by decide) (by decide)).trans as256_34
                  have at263_35 := (zp_same hI ha0 g265 35 rfl (by decide) (by decide)).trans as256_35
                  have at263_36 := (zp_same hI ha0 g265 36 rfl (by decide) (by decide)).trans as256_36
                  have at263_37 := (zp_same hI ha0 g265 37 rfl (by decide) (by decide)).trans as256_37
                  have at263_39 := (zp_same hI ha0 g265 39 rfl (by decide) (by decide)).trans as256_39
                  have at263_40 := (zp_same hI ha0 g265 40 rfl (by decide) (by decide)).trans as256_40
                  have gNt263 := gN.same hI ha0 g265 (by decide) gNs256
                  have gHt263 := gH.same hI ha0 g265 (by decide) gHs256
                  have gEt263 := gE.same hI ha0 g265 (by decide) gEs256
                  have gLt263 := gL.same hI ha0 g265 (by decide) gLs256
                  have gPt263 := gP.same hI ha0 g265 (by decide) gPs256
                  have gTrt263 := gTr.w hI ha0 g265 (by decide) ht263_fact1 gTrs256
                  refine as_127 X hI hv259 (by omega) (by omega) dX11_tellOne_163 (fun s268 es268 hI => ?_)
                  replace E := zLet_s es268 E
                  have g269 := (zSame.rf (o := a0) (Wf := []) (Wa := [127]) (L := L) (kd := kd) (σ := t263)).a ha0 hv259 es268 rfl (by decide)
                  have fs268_11 : (s268.1 a0 11).toInt = (t263.1 a0 11).toInt := by rw [g269.2.1 11 (by decide)]
                  have fs268_12 : (s268.1 a0 12).toInt = (t263.1 a0 12).toInt := by rw [g269.2.1 12 (by decide)]
                  have fs268_13 : (s268.1 a0 13).toInt = (t263.1 a0 13).toInt := by rw [g269.2.1 13 (by decide)]
                  have fs268_15 : (s268.1 a0 15).toInt = (t263.1 a0 15).toInt := by rw [g269.2.1 15 (by decide)]
                  have fs268_18 : (s268.1 a0 18).toInt = (t263.1 a0 18).toInt := by rw [g269.2.1 18 (by decide)]
                  have fs268_19 : (s268.1 a0 19).toInt = (t263.1 a0 19).toInt := by rw [g269.2.1 19 (by decide)]
                  have fs268_32 : (s268.1 a0 32).toInt = (t263.1 a0 32).toInt := by rw [g269.2.1 32 (by decide)]
                  have fs268_38 : (s268.1 a0 38).toInt = (t263.1 a0 38).toInt := by rw [g269.2.1 38 (by decide)]
                  have fs268_41 : (s268.1 a0 41).toInt = (t263.1 a0 41).toInt := by rw [g269.2.1 41 (by decide)]
                  have fs268_42 : (s268.1 a0 42).toInt = (t263.1 a0 42).toInt := by rw [g269.2.1 42 (by decide)]
                  have hS := hS.tr g269 (by decide) (by decide)
                  have as268_30 := (zp_same hI ha0 g269 30 rfl (by decide) (by decide)).trans at263_30
                  have as268_31 := (zp_same hI ha0 g269 31 rfl (by decide) (by decide)).trans at263_31
                  have as268_33 := (zp_same hI ha0 g269 33 rfl (by decide) (by decide)).trans at263_33
                  have as268_34 := (zp_same hI ha0 g269 34 rfl (by decide) (by decide)).trans at263_34
                  have as268_35 := (zp_same hI ha0 g269 35 rfl (by decide) (by decide)).trans at263_35
                  have as268_36 := (zp_same hI ha0 g269 36 rfl (by decide) (by decide)).trans at263_36
                  have as268_37 := (zp_same hI ha0 g269 37 rfl (by decide) (by decide)).trans at263_37
                  have as268_39 := (zp_same hI ha0 g269 39 rfl (by decide) (by decide)).trans at263_39
                  have as268_40 := (zp_same hI ha0 g269 40 rfl (by decide) (by decide)).trans at263_40
                  have gNs268 := gN.same hI ha0 g269 (by decide) gNt263
                  have gHs268 := gH.same hI ha0 g269 (by decide) gHt263
                  have gEs268 := gE.same hI ha0 g269 (by decide) gEt263
                  have gLs268 := gL.same hI ha0 g269 (by decide) gLt263
                  have gPs268 := gP.same hI ha0 g269 (by decide) gPt263
                  have gTrs268 := gTr.same hI ha0 g269 (by decide) gTrt263
                  refine zg_aload_n X 0 rfl dX11_tellOne_164 ?_
                  refine zg_iconst X 4 dX11_tellOne_165 (by decide) (fun v271 _ hv271 => ?_)
                  replace E := zLet_s (zcst hv271 (by decide)) E
                  refine zg_cVv (As := [.int v271]) (st := []) X ha0 rfl (by decide) rfl (t_X11_must l d L kd κ _ hI a0 ha0 v271  ) mk_X11_274 mc_X11_must mz_X11 mi_X11_must ml_X11_must (na := 1) ⟨md_X11.1, md_X11.2, by decide +kernel⟩ rfl ⟨by decide, by decide⟩ (Nat.le_of_ble_eq_true rfl) dX11_tellOne_166 (fun t272 hq => ?_)
                  obtain ⟨hF, ht272_fact0, hI, g273⟩ := hq
                  replace E := zLet_s hF E
                  have ft272_12 : (t272.1 a0 12).toInt = (s268.1 a0 12).toInt := by rw [g273.2.1 12 (by decide)]
                  have ft272_15 : (t272.1 a0 15).toInt = (s268.1 a0 15).toInt := by rw [g273.2.1 15 (by decide)]
                  have ft272_18 : (t272.1 a0 18).toInt = (s268.1 a0 18).toInt := by rw [g273.2.1 18 (by decide)]
                  have ft272_19 : (t272.1 a0 19).toInt = (s268.1 a0 19).toInt := by rw [g273.2.1 19 (by decide)]
                  have ft272_32 : (t272.1 a0 32).toInt = (s268.1 a0 32).toInt := by rw [g273.2.1 32 (by decide)]
                  have ft272_38 : (t272.1 a0 38).toInt = (s268.1 a0 38).toInt := by rw [g273.2.1 38 (by decide)]
                  have ft272_41 : (t272.1 a0 41).toInt = (s268.1 a0 41).toInt := by rw [g273.2.1 41 (by decide)]
                  have ft272_42 : (t272.1 a0 42).toInt = (s268.1 a0 42).toInt := by rw [g273.2.1 42 (by decide)]
                  have hS := hS.tr g273 (by decide) (by decide)
                  have at272_30 := (zp_same hI ha0 g273 30 rfl (by decide) (by decide)).trans as268_30
                  have at272_31 := (zp_same hI ha0 g273 31 rfl (by decide) (by decide)).trans as268_31
                  have at272_33 := (zp_same hI ha0 g273 33 rfl (by decide) (by decide)).trans as268_33
                  have at272_34 := (zp_same hI ha0 g273 34 rfl (by decide) (by decide)).trans as268_34
                  have at272_35 := (zp_same hI ha0 g273 35 rfl (by decide) (by decide)).trans as268_35
                  have at272_36 := (zp_same hI ha0 g273 36 rfl (by decide) (by decide)).trans as268_36
                  have at272_37 := (zp_same hI ha0 g273 37 rfl (by decide) (by decide)).trans as268_37
                  have at272_39 := (zp_same hI ha0 g273 39 rfl (by decide) (by decide)).trans as268_39
                  have at272_40 := (zp_same hI ha0 g273 40 rfl (by decide) (by decide)).trans as268_40
                  have gNt272 := gN.same hI ha0 g273 (by decide) gNs268
                  have gHt272 := gH.same hI ha0 g273 (by decide) gHs268
                  have gEt272 := gE.same hI ha0 g273 (by decide) gEs268
                  have gLt272 := gL.same hI ha0 g273 (by decide) gLs268
                  have gPt272 := gP.same hI ha0 g273 (by decide) gPs268
                  have gTrt272 := gTr.same hI ha0 g273 (by decide) gTrs268
                  refine zg_goto X 282 dX11_tellOne_169 (by decide) ?_
                  exact ret _ _ _ dX11_tellOne_282 ⟨E.symm.trans hR, ⟨⟨(by omega), (fun h0 => by first | exact gPt272 | exact zgp h0), (fun h0 => by first | exact gTrt272 | exact zgt h0), (by first | exact zlk0.tr zgk (by omega) | exact zLkp.eq at272_30 at272_31 at272_33 at272_34 at272_35 at272_36 at272_37 at272_39 at272_40), gNt272, gHt272, gEt272, gLt272⟩, hI, hS⟩⟩
                · skip
                  replace E := zIf_f q244 E
                  by_cases q275 : v3.toInt = 28
                  · refine zg_tabIn X 172 28 dX11_tellOne_9 q275 (by decide) (by decide) rfl (by decide) ?_
                    replace E := zIf_t q275 E
                    refine zg_aload_n X 0 rfl dX11_tellOne_172 ?_
                    refine zg_cVv (As := []) (st := []) X ha0 rfl (by decide) rfl (t_X11_goesOn l d L kd κ _ hI a0 ha0   ) mk_X11_227 mc_X11_goesOn mz_X11 mi_X11_goesOn ml_X11_goesOn (na := 0) ⟨md_X11.1, md_X11.2, by decide +kernel⟩ rfl ⟨by decide, by decide⟩ (Nat.le_of_ble_eq_true rfl) dX11_tellOne_173 (fun t276 hq => ?_)
                    obtain ⟨hF, ht276_fact0, hI, g277⟩ := hq
                    replace E := zLet_s hF E
                    have ft276_12 : (t276.1 a0 12).toInt = (σ.1 a0 12).toInt := by rw [g277.2.1 12 (by decide)]
                    have ft276_15 : (t276.1 a0 15).toInt = (σ.1 a0 15).toInt := by rw [g277.2.1 15 (by decide)]
                    have ft276_18 : (t276.1 a0 18).toInt = (σ.1 a0 18).toInt := by rw [g277.2.1 18 (by decide)]
                    have ft276_19 : (t276.1 a0 19).toInt = (σ.1 a0 19).toInt := by rw [g277.2.1 19 (by decide)]
                    have ft276_32 : (t276.1 a0 32).toInt = (σ.1 a0 32).toInt := by rw [g277.2.1 32 (by decide)]
                    have ft276_38 : (t276.1 a0 38).toInt = (σ.1 a0 38).toInt := by rw [g277.2.1 38 (by decide)]
                    have ft276_41 : (t276.1 a0 41).toInt = (σ.1 a0 41).toInt := by rw [g277.2.1 41 (by decide)]
                    have ft276_42 : (t276.1 a0 42).toInt = (σ.1 a0 42).toInt := by rw [g277.2.1 42 (by decide)]
                    have hS := hS.tr g277 (by decide) (by decide)
                    have at276_30 := zp_same hI ha0 g277 30 rfl (by decide) (by decide)
                    have at276_31 := zp_same hI ha0 g277 31 rfl (by decide) (by decide)
                    have at276_33 := zp_same hI ha0 g277 33 rfl (by decide) (by decide)
                    have at276_34 := zp_same hI ha0 g277 34 rfl (by decide) (by decide)
                    have at276_35 := zp_same hI ha0 g277 35 rfl (by decide) (by decide)
                    have at276_36 := zp_same hI ha0 g277 36 rfl (by decide) (by decide)
                    have at276_37 := zp_same hI ha0 g277 37 rfl (by decide) (by decide)
                    have at276_39 := zp_same hI ha0 g277 39 rfl (by decide) (by decide)
                    have at276_40 := zp_same hI ha0 g277 40 rfl (by decide) (by decide)
                    have gNt276 := gN.same hI ha0 g277 (by decide) hgN
                    have gHt276 := gH.same hI ha0 g277 (by decide) hgH
                    have gEt276 := gE.same hI ha0 g277 (by decide) hgE
                    have gLt276 := gL.same hI ha0 g277 (by decide) hgL
                    have gPt276 := gP.same hI ha0 g277 (by decide) hgP
                    have gTrt276 := gTr.same hI ha0 g277 (by decide) hgTr
                    refine zg_aload_n X 0 rfl dX11_tellOne_176 ?_
                    refine fg_X11_64 X hI ha0 dX11_tellOne_177 (fun v278 ev278 hv278 => ?_)
                    replace E := zLet_s (zgr ev278) E
                    refine zg_aload_n X 0 rfl dX11_tellOne_180 ?_
                    refine fg_X11_239 X hI ha0 dX11_tellOne_181 (fun v279 ev279 hv279 => ?_)
                    replace E := zLet_s ev279 E
                    have kv279 : (t276.1 a0 19).toInt = v279.toInt := by rw [ev279]
                    refine zg_aload_n X 0 rfl dX11_tellOne_184 ?_
                    refine zg_iconst X 0 dX11_tellOne_185 (by decide) (fun v280 _ hv280 => ?_)
                    replace E := zLet_s (zcst hv280 (by decide)) E
                    refine zg_bipush X 99 dX11_tellOne_186 (by decide) (fun v281 _ hv281 => ?_)
                    replace E := zLet_s (zcst hv281 (by decide)) E
                    refine zg_cVi (As := [.int v280, .int v281]) (st := [.int v279, .ref v278]) X ha0 rfl (by decide) rfl (t_X11_bounded l d L kd κ _ hI a0 ha0 v280 v281  ) mk_X11_270 mc_X11_bounded mz_X11 mi_X11_bounded ml_X11_bounded (na := 2) ⟨md_X11.1, md_X11.2, by decide +kernel⟩ rfl ⟨by decide, by decide⟩ (Nat.le_of_ble_eq_true rfl) dX11_tellOne_188 (fun v283 t282 hq => ?_)
                    obtain ⟨hF, ⟨ht282_fact0, ht282_fact1⟩, hI, g284⟩ := hq
                    replace E := zLet2_s hF E
                    have ft282_12 : (t282.1 a0 12).toInt = (t276.1 a0 12).toInt := by rw [g284.2.1 12 (by decide)]
                    have ft282_18 : (t282.1 a0 18).toInt = (t276.1 a0 18).toInt := by rw [g284.2.1 18 (by decide)]
                    have ft282_19 : (t282.1 a0 19).toInt = (t276.1 a0 19).toInt := by rw [g284.2.1 19 (by decide)]
                    have ft282_32 : (t282.1 a0 32).toInt = (t276.1 a0 32).toInt := by rw [g284.2.1 32 (by decide)]
                    have ft282_38 : (t282.1 a0 38).toInt = (t276.1 a0 38).toInt := by rw [g284.2.1 38 (by decide)]
                    have ft282_41 : (t282.1 a0 41).toInt = (t276.1 a0 41).toInt := by rw [g284.2.1 41 (by decide)]
                    have ft282_42 : (t282.1 a0 42).toInt = (t276.1 a0 42).toInt := by rw [g284.2.1 42 (by decide)]
                    have hS := hS.tr g284 (by decide) (by decide)
                    have at282_30 := (zp_same hI ha0 g284 30 rfl (by decide) (by decide)).trans at276_30
                    have at282_31 := (zp_same hI ha0 g284 31 rfl (by decide) (by decide)).trans at276_31
                    have at282_33 := (zp_same hI ha0 g284 33 rfl (by decide) (by decide)).trans at276_33
                    have at282_34 := (zp_same hI ha0 g284 34 rfl (by decide) (by decide)).trans at276_34
                    have at282_35 := (zp_same hI ha0 g284 35 rfl (by decide) (by decide)).trans at276_35
                    have at282_36 := (zp_same hI ha0 g284 36 rfl (by decide) (by decide)).trans at276_36
                    have at282_37 := (zp_same hI ha0 g284 37 rfl (by decide) (by decide)).trans at276_37
                    have at282_39 := (zp_same hI ha0 g284 39 rfl (by decide) (by decide)).trans at276_39
                    have at282_40 := (zp_same hI ha0 g284 40 rfl (by decide) (by decide)).trans at276_40
                    have gNt282 := gN.same hI ha0 g284 (by decide) gNt276
                    have gHt282 := gH.same hI ha0 g284 (by decide) gHt276
                    have gEt282 := gE.same hI ha0 g284 (by decide) gEt276
                    have gLt282 := gL.same hI ha0 g284 (by decide) gLt276
                    have gPt282 := gP.same hI ha0 g284 (by decide) gPt276
                    have gTrt282 := gTr.w hI ha0 g284 (by decide) ht282_fact1 gTrt276
                    refine as_128 X hI hv278 (by omega) (by omega) dX11_tellOne_191 (fun s287 es287 hI => ?_)
                    replace E := zLet_s es287 E
                    have g288 := (zSame.rf (o := a0) (Wf := []) (Wa := [128]) (L := L) (kd := kd) (σ := t282)).a ha0 hv278 es287 rfl (by decide)
                    have fs287_11 : (s287.1 a0 11).toInt = (t282.1 a0 11).toInt := by rw [g288.2.1 11 (by decide)]
                    have fs287_12 : (s287.1 a0 12).toInt = (t282.1 a0 12).toInt := by rw [g288.2.1 12 (by decide)]
                    have fs287_13 : (s287.1 a0 13).toInt = (t282.1 a0 13).toInt := by rw [g288.2.1 13 (by decide)]
                    have fs287_15 : (s287.1 a0 15).toInt = (t282.1 a0 15).toInt := by rw [g288.2.1 15 (by decide)]
                    have fs287_18 : (s287.1 a0 18).toInt = (t282.1 a0 18).toInt := by rw [g288.2.1 18 (by decide)]
                    have fs287_19 : (s287.1 a0 19).toInt = (t282.1 a0 19).toInt := by rw [g288.2.1 19 (by decide)]
                    have fs287_32 : (s287.1 a0 32).toInt = (t282.1 a0 32).toInt := by rw [g288.2.1 32 (by decide)]
                    have fs287_38 : (s287.1 a0 38).toInt = (t282.1 a0 38).toInt := by rw [g288.2.1 38 (by decide)]
                    have fs287_41 : (s287.1 a0 41).toInt = (t282.1 a0 41).toInt := by rw [g288.2.1 41 (by decide)]
                    have fs287_42 : (s287.1 a0 42).toInt = (t282.1 a0 42).toInt := by rw [g288.2.1 42 (by decide)]
                    have hS := hS.tr g288 (by decide) (by decide)
                    have as287_30 := (zp_same hI ha0 g288 30 rfl (by decide) (by decide)).trans at282_30
                    have as287_31 := (zp_same hI ha0 g288 31 rfl (by decide) (by decide)).trans at282_31
                    have as287_33 := (zp_same hI ha0 g288 33 rfl (by decide) (by decide)).trans at282_33
                    have as287_34 := (zp_same hI ha0 g288 34 rfl (by decide) (by decide)).trans at282_34
                    have as287_35 := (zp_same hI ha0 g288 35 rfl (by decide) (by decide)).trans at282_35
                    have as287_36 := (zp_same hI ha0 g288 36 rfl (by decide) (by decide)).trans at282_36
                    have as287_37 := (zp_same hI ha0 g288 37 rfl (by decide) (by decide)).trans at282_37
                    have as287_39 := (zp_same hI ha0 g288 39 rfl (by decide) (by decide)).trans at282_39
                    have as287_40 := (zp_same hI ha0 g288 40 rfl (by decide) (by decide)).trans at282_40
                    have gNs287 := gN.same hI ha0 g288 (by decide) gNt282
                    have gHs287 := gH.same hI ha0 g288 (by decide) gHt282
                    have gEs287 := gE.same hI ha0 g288 (by decide) gEt282
                    have gLs287 := gL.same hI ha0 g288 (by decide) gLt282
                    have gPs287 := gP.same hI ha0 g288 (by decide) gPt282
                    have gTrs287 := gTr.same hI ha0 g288 (by decide) gTrt282
                    refine zg_aload_n X 0 rfl dX11_tellOne_192 ?_
                    refine zg_iconst X 4 dX11_tellOne_193 (by decide) (fun v290 _ hv290 => ?_)
                    replace E := zLet_s (zcst hv290 (by decide)) E
                    refine zg_cVv (As := [.int v290]) (st := []) X ha0 rfl (by decide) rfl (t_X11_must l d L kd κ _ hI a0 ha0 v290  ) mk_X11_274 mc_X11_must mz_X11 mi_X11_must ml_X11_must (na := 1) ⟨md_X11.1, md_X11.2, by decide +kernel⟩ rfl ⟨by decide, by decide⟩ (Nat.le_of_ble_eq_true rfl) dX11_tellOne_194 (fun t291 hq => ?_)
                    obtain ⟨hF, ht291_fact0, hI, g292⟩ := hq
                    replace E := zLet_s hF E
                    have ft291_12 : (t291.1 a0 12).toInt = (s287.1 a0 12).toInt := by rw [g292.2.1 12 (by decide)]
                    have ft291_15 : (t291.1 a0 15).toInt = (s287.1 a0 15).toInt := by rw [g292.2.1 15 (by decide)]
                    have ft291_18 : (t291.1 a0 18).toInt = (s287.1 a0 18).toInt := by rw [g292.2.1 18 (by decide)]
                    have ft291_19 : (t291.1 a0 19).toInt = (s287.1 a0 19).toInt := by rw [g292.2.1 19 (by decide)]
                    have ft291_32 : (t291.1 a0 32).toInt = (s287.1 a0 32).toInt := by rw [g292.2.1 32 (by decide)]
                    have ft291_38 : (t291.1 a0 38).toInt = (s287.1 a0 38).toInt := by rw [g292.2.1 38 (by decide)]
                    have ft291_41 : (t291.1 a0 41).toInt = (s287.1 a0 41).toInt := by rw [g292.2.1 41 (by decide)]
                    have ft291_42 : (t291.1 a0 42).toInt = (s287.1 a0 42).toInt := by rw [g292.2.1 42 (by decide)]
                    have hS := hS.tr g292 (by decide) (by decide)
                    have at291_30 := (zp_same hI ha0 g292 30 rfl (by decide) (by decide)).trans as287_30
                    have at291_31 := (zp_same hI ha0 g292 31 rfl (by decide) (by decide)).trans as287_31
                    have at291_33 := (zp_same hI ha0 g292 33 rfl (by decide) (by decide)).trans as287_33
                    have at291_34 := (zp_same hI ha0 g292 34 rfl (by decide) (by decide)).trans as287_34
                    have at291_35 := (zp_same hI ha0 g292 35 rfl (by decide) (by decide)).trans as287_35
                    have at291_36 := (zp_same hI ha0 g292 36 rfl (by decide) (by decide)).trans as287_36
                    have at291_37 := (zp_same hI ha0 g292 37 rfl (by decide) (by decide)).trans as287_37
                    have at291_39 := (zp_same hI ha0 g292 39 rfl (by decide) (by decide)).trans as287_39
                    have at291_40 := (zp_same hI ha0 g292 40 rfl (by decide) (by decide)).trans as287_40
                    have gNt291 := gN.same hI ha0 g292 (by decide) gNs287
                    have gHt291 := gH.same hI ha0 g292 (by decide) gHs287
                    have gEt291 := gE.same hI ha0 g292 (by decide) gEs287
                    have gLt291 := gL.same hI ha0 g292 (by decide) gLs287
                    have gPt291 := gP.same hI ha0 g292 (by decide) gPs287
                    have gTrt291 := gTr.same hI ha0 g292 (by decide) gTrs287
                    refine zg_goto X 282 dX11_tellOne_197 (by decide) ?_
                    exact ret _ _ _ dX11_tellOne_282 ⟨E.symm.trans hR, ⟨⟨(by omega), (fun h0 => by first | exact gPt291 | exact zgp h0), (fun h0 => by first | exact gTrt291 | exact zgt h0), (by first | exact zlk0.tr zgk (by omega) | exact zLkp.eq at291_30 at291_31 at291_33 at291_34 at291_35 at291_36 at291_37 at291_39 at291_40), gNt291, gHt291, gEt291, gLt291⟩, hI, hS⟩⟩
                  · skip
                    replace E := zIf_f q275 E
                    by_cases q294 : v3.toInt = 29
                    · refine zg_tabIn X 200 29 dX11_tellOne_9 q294 (by decide) (by decide) rfl (by decide) ?_
                      replace E := zIf_t q294 E
                      refine zg_aload_n X 0 rfl dX11_tellOne_200 ?_
                      refine zg_cVv (As := []) (st := []) X ha0 rfl (by decide) rfl (t_X11_goesOn l d L kd κ _ hI a0 ha0   ) mk_X11_227 mc_X11_goesOn mz_X11 mi_X11_goesOn ml_X11_goesOn (na := 0) ⟨md_X11.1, md_X11.2, by decide +kernel⟩ rfl ⟨by decide, by decide⟩ (Nat.le_of_ble_eq_true rfl) dX11_tellOne_201 (fun t295 hq => ?_)
                      obtain ⟨hF, ht295_fact0, hI, g296⟩ := hq
                      replace E := zLet_s hF E
                      have ft295_12 : (t295.1 a0 12).toInt = (σ.1 a0 12).toInt := by rw [g296.2.1 12 (by decide)]
                      have ft295_15 : (t295.1 a0 15).toInt = (σ.1 a0 15).toInt := by rw [g296.2.1 15 (by decide)]
                      have ft295_18 : (t295.1 a0 18).toInt = (σ.1 a0 18).toInt := by rw [g296.2.1 18 (by decide)]
                      have ft295_19 : (t295.1 a0 19).toInt = (σ.1 a0 19).toInt := by rw [g296.2.1 19 (by decide)]
                      have ft295_32 : (t295.1 a0 32).toInt = (σ.1 a0 32).toInt := by rw [g296.2.1 32 (by decide)]
                      have ft295_38 : (t295.1 a0 38).toInt = (σ.1 a0 38).toInt := by rw [g296.2.1 38 (by decide)]
                      have ft295_41 : (t295.1 a0 41).toInt = (σ.1 a0 41).toInt := by rw [g296.2.1 41 (by decide)]
                      have ft295_42 : (t295.1 a0 42).toInt = (σ.1 a0 42).toInt := by rw [g296.2.1 42 (by decide)]
                      have hS := hS.tr g296 (by decide) (by decide)
                      have at295_30 := zp_same hI ha0 g296 30 rfl (by decide) (by decide)
                      have at295_31 := zp_same hI ha0 g296 31 rfl (by decide) (by decide)
                      have at295_33 := zp_same hI ha0 g296 33 rfl (by decide) (by decide)
                      have at295_34 := zp_same hI ha0 g296 34 rfl (by decide) (by decide)
                      have at295_35 := zp_same hI ha0 g296 35 rfl (by decide) (by decide)
                      have at295_36 := zp_same hI ha0 g296 36 rfl (by decide) (by decide)
                      have at295_37 := zp_same hI ha0 g296 37 rfl (by decide) (by decide)
                      have at295_39 := zp_same hI ha0 g296 39 rfl (by decide) (by decide)
                      have at295_40 := zp_same hI ha0 g296 40 rfl (by decide) (by decide)
                      have gNt295 := gN.same hI ha0 g296 (by decide) hgN
                      have gHt295 := gH.same hI ha0 g296 (by decide) hgH
                      have gEt295 := gE.same hI ha0 g296 (by decide) hgE
                      have gLt295 := gL.same hI ha0 g296 (by decide) hgL
                      have gPt295 := gP.same hI ha0 g296 (by decide) hgP
                      have gTrt295 := gTr.same hI ha0 g296 (by decide) hgTr
                      refine zg_aload_n X 0 rfl dX11_tellOne_204 ?_
                      refine fg_X11_67 X hI ha0 dX11_tellOne_205 (fun v297 ev297 hv297 => ?_)
                      replace E := zLet_s (zgr ev297) E
                      refine zg_aload_n X 0 rfl dX11_tellOne_208 ?_
                      refine fg_X11_239 X hI ha0 dX11_tellOne_209 (fun v298 ev298 hv298 => ?_)
                      replace E := zLet_s ev298 E
                      have kv298 : (t295.1 a0 19).toInt = v298.toInt := by rw [ev298]
                      refine zg_aload_n X 0 rfl dX11_tellOne_212 ?_
                      refine zg_iconst X 0 dX11_tellOne_213 (by decide) (fun v299 _ hv299 => ?_)
                      replace E := zLet_s (zcst hv299 (by decide)) E
                      refine zg_sipush X 9999 dX11_tellOne_214 (by decide) (fun v300 _ hv300 => ?_)
                      replace E := zLet_s (zcst hv300 (by decide)) E
                      refine zg_cVi (As := [.int v299, .int v300]) (st := [.int v298, .ref v297]) X ha0 rfl (by decide) rfl (t_X11_bounded l d L kd κ _ hI a0 ha0 v299 v300  ) mk_X11_270 mc_X11_bounded mz_X11 mi_X11_bounded ml_X11_bounded (na := 2) ⟨md_X11.1, md_X11.2, by decide +kernel⟩ rfl ⟨by decide, by decide⟩ (Nat.le_of_ble_eq_true rfl) dX11_tellOne_217 (fun v302 t301 hq => ?_)
                      obtain ⟨hF, ⟨ht301_fact0, ht301_fact1⟩, hI, g303⟩ := hq
                      replace E := zLet2_s hF E
                      have ft301_12 : (t301.1 a0 12).toInt = (t295.1 a0 12).toInt := by rw [g303.2.1 12 (by decide)]
                      have ft301_18 : (t301.1 a0 18).toInt = (t295.1 a0 18).toInt := by rw [g303.2.1 18 (by decide)]
                      have ft301_19 : (t301.1 a0 19).toInt = (t295.1 a0 19).toInt := by rw [g303.2.1 19 (by decide)]
                      have ft301_32 : (t301.1 a0 32).toInt = (t295.1 a0 32).toInt := by rw [g303.2.1 32 (by decide)]
                      have ft301_38 : (t301.1 a0 38).toInt = (t295.1 a0 38).toInt := by rw [g303.2.1 38 (by decide)]
                      have ft301_41 : (t301.1 a0 41).toInt = (t295.1 a0 41).toInt := by rw [g303.2.1 41 (by decide)]
                      have ft301_42 : (t301.1 a0 42).toInt = (t295.1 a0 42).toInt := by rw [g303.2.1 42 (by decide)]
                      have hS := hS.tr g303 (by decide) (by decide)
                      have at301_30 := (zp_same hI ha0 g303 30 rfl (by decide) (by decide)).trans at295_30
                      have at301_31 := (zp_same hI ha0 g303 31 rfl (by decide) (by decide)).trans at295_31
                      have at301_33 := (zp_same hI ha0 g303 33 rfl (by decide) (by decide)).trans at295_33
                      have at301_34 := (zp_same hI ha0 g303 34 rfl (by decide) (by decide)).trans at295_34
                      have at301_35 := (zp_same hI ha0 g303 35 rfl (by decide) (by decide)).trans at295_35
                      have at301_36 := (zp_same hI ha0 g303 36 rfl (by decide) (by decide)).trans at295_36
                      have at301_37 := (zp_same hI ha0 g303 37 rfl (by decide) (by decide)).trans at295_37
                      have at301_39 := (zp_same hI ha0 g303 39 rfl (by decide) (by decide)).trans at295_39
                      have at301_40 := (zp_same hI ha0 g303 40 rfl (by decide) (by decide)).trans at295_40
                      have gNt301 := gN.same hI ha0 g303 (by decide) gNt295
                      have gHt301 := gH.same hI ha0 g303 (by decide) gHt295
                      have gEt301 := gE.same hI ha0 g303 (by decide) gEt295
                      have gLt301 := gL.same hI ha0 g303 (by decide) gLt295
                      have gPt301 := gP.same hI ha0 g303 (by decide) gPt295
                      have gTrt301 := gTr.w hI ha0 g303 (by decide) ht301_fact1 gTrt295
                      refine as_129 X hI hv297 (by omega) (by omega) dX11_tellOne_220 (fun s306 es306 hI => ?_)
                      replace E := zLet_s es306 E
                      have g307 := (zSame.rf (o := a0) (Wf := []) (Wa := [129]) (L := L) (kd := kd) (σ := t301)).a ha0 hv297 es306 rfl (by decide)
                      have fs306_11 : (s306.1 a0 11).toInt = (t301.1 a0 11).toInt := by rw [g307.2.1 11 (by decide)]
                      have fs306_12 : (s306.1 a0 12).toInt = (t301.1 a0 12).toInt := by rw [g307.2.1 12 (by decide)]
                      have fs306_13 : (s306.1 a0 13).toInt = (t301.1 a0 13).toInt := by rw [g307.2.1 13 (by decide)]
                      have fs306_15 : (s306.1 a0 15).toInt = (t301.1 a0 15).toInt := by rw [g307.2.1 15 (by decide)]
                      have fs306_18 : (s306.1 a0 18).toInt = (t301.1 a0 18).toInt := by rw [g307.2.1 18 (by decide)]
                      have fs306_19 : (s306.1 a0 19).toInt = (t301.1 a0 19).toInt := by rw [g307.2.1 19 (by decide)]
                      have fs306_32 : (s306.1 a0 32).toInt = (t301.1 a0 32).toInt := by rw [g307.2.1 32 (by decide)]
                      have fs306_38 : (s306.1 a0 38).toInt = (t301.1 a0 38).toInt := by rw [g307.2.1 38 (by decide)]
                      have fs306_41 : (s306.1 a0 41).toInt = (t301.1 a0 41).toInt := by rw [g307.2.1 41 (by decide)]
                      have fs306_42 : (s306.1 a0 42).toInt = (t301.1 a0 42).toInt := by rw [g307.2.1 42 (by decide)]
                      have hS := hS.tr g307 (by decide) (by decide)
                      have as306_30 := (zp_same hI ha0 g307 30 rfl (by decide) (by decide)).trans at301_30
                      have as306_31 := (zp_same hI ha0 g307 31 rfl (by decide) (by decide)).trans at301_31
                      have as306_33 := (zp_same hI ha0 g307 33 rfl (by decide) (by decide)).trans at301_33
                      have as306_34 := (zp_same hI ha0 g307 34 rfl (by decide) (by decide)).trans at301_34
                      have as306_35 := (zp_same hI ha0 g307 35 rfl (by decide) (by decide)).trans at301_35
                      have as306_36 := (zp_same hI ha0 g307 36 rfl (by decide) (by decide)).trans at301_36
                      have as306_37 := (zp_same hI ha0 g307 37 rfl (by decide) (by decide)).trans at301_37
                      have as306_39 := (zp_same hI ha0 g307 39 rfl (by decide) (by decide)).trans at301_39
                      have as306_40 := (zp_same hI ha0 g307 40 rfl (by decide) (by decide)).trans at301_40
                      have gNs306 := gN.same hI ha0 g307 (by decide) gNt301
                      have gHs306 := gH.same hI ha0 g307 (by decide) gHt301
                      have gEs306 := gE.same hI ha0 g307 (by decide) gEt301
                      have gLs306 := gL.same hI ha0 g307 (by decide) gLt301
                      have gPs306 := gP.same hI ha0 g307 (by decide) gPt301
                      have gTrs306 := gTr.same hI ha0 g307 (by decide) gTrt301
                      refine zg_aload_n X 0 rfl dX11_tellOne_221 ?_
                      refine zg_iconst X 4 dX11_tellOne_222 (by decide) (fun v309 _ hv309 => ?_)
                      replace E := zLet_s (zcst hv309 (by decide)) E
                      refine zg_cVv (As := [.int v309]) (st := []) X ha0 rfl (by decide) rfl (t_X11_must l d L kd κ _ hI a0 ha0 v309  ) mk_X11_274 mc_X11_must mz_X11 mi_X11_must ml_X11_must (na := 1) ⟨md_X11.1, md_X11.2, by decide +kernel⟩ rfl ⟨by decide, by decide⟩ (Nat.le_of_ble_eq_true rfl) dX11_tellOne_223 (fun t310 hq => ?_)
                      obtain ⟨hF, ht310_fact0, hI, g311⟩ := hq
                      replace E := zLet_s hF E
                      have ft310_12 : (t310.1 a0 12).toInt = (s306.1 a0 12).toInt := by rw [g311.2.1 12 (by decide)]
                      have ft310_15 : (t310.1 a0 15).toInt = (s306.1 a0 15).toInt := by rw [g311.2.1 15 (by decide)]
                      have ft310_18 : (t310.1 a0 18).toInt = (s306.1 a0 18).toInt := by rw [g311.2.1 18 (by decide)]
                      have ft310_19 : (t310.1 a0 19).toInt = (s306.1 a0 19).toInt := by rw [g311.2.1 19 (by decide)]
                      have ft310_32 : (t310.1 a0 32).toInt = (s306.1 a0 32).toInt := by rw [g311.2.1 32 (by decide)]
                      have ft310_38 : (t310.1 a0 38).toInt = (s306.1 a0 38).toInt := by rw [g311.2.1 38 (by decide)]
                      have ft310_41 : (t310.1 a0 41).toInt = (s306.1 a0 41).toInt := by rw [g311.2.1 41 (by decide)]
                      have ft310_42 : (t310.1 a0 42).toInt = (s306.1 a0 42).toInt := by rw [g311.2.1 42 (by decide)]
                      have hS := hS.tr g311 (by decide) (by decide)
                      have at310_30 := (zp_same hI ha0 g311 30 rfl (by decide) (by decide)).trans as306_30
                      have at310_31 := (zp_same hI ha0 g311 31 rfl (by decide) (by decide)).trans as306_31
                      have at310_33 := (zp_same hI ha0 g311 33 rfl (by decide) (by decide)).trans as306_33
                      have at310_34 := (zp_same hI ha0 g311 34 rfl (by decide) (by decide)).trans as306_34
                      have at310_35 := (zp_same hI ha0 g311 35 rfl (by decide) (by decide)).trans as306_35
                      have at310_36 := (zp_same hI ha0 g311 36 rfl (by decide) (by decide)).trans as306_36
                      have at310_37 := (zp_same hI ha0 g311 37 rfl (by decide) (by decide)).trans as306_37
                      have at310_39 := (zp_same hI ha0 g311 39 rfl (by decide) (by decide)).trans as306_39
                      have at310_40 := (zp_same hI ha0 g311 40 rfl (by decide) (by decide)).trans as306_40
                      have gNt310 := gN.same hI ha0 g311 (by decide) gNs306
                      have gHt310 := gH.same hI ha0 g311 (by decide) gHs306
                      have gEt310 := gE.same hI ha0 g311 (by decide) gEs306
                      have gLt310 := gL.same hI ha0 g311 (by decide) gLs306
                      have gPt310 := gP.same hI ha0 g311 (by decide) gPs306
                      have gTrt310 := gTr.same hI ha0 g311 (by decide) gTrs306
                      refine zg_goto X 282 dX11_tellOne_226 (by decide) ?_
                      exact ret _ _ _ dX11_tellOne_282 ⟨E.symm.trans hR, ⟨⟨(by omega), (fun h0 => by first | exact gPt310 | exact zgp h0), (fun h0 => by first | exact gTrt310 | exact zgt h0), (by first | exact zlk0.tr zgk (by omega) | exact zLkp.eq at310_30 at310_31 at310_33 at310_34 at310_35 at310_36 at310_37 at310_39 at310_40), gNt310, gHt310, gEt310, gLt310⟩, hI, hS⟩⟩
                    · skip
                      replace E := zIf_f q294 E
                      refine zg_tabOut X 229 dX11_tellOne_9 (by omega) (by decide) ?_
                      refine zg_aload_n X 0 rfl dX11_tellOne_229 ?_
                      refine fg_X11_20 X hI ha0 dX11_tellOne_230 (fun v313 ev313 hv313 => ?_)
                      replace E := zLet_s (zgr ev313) E
                      refine zg_aload_n X 0 rfl dX11_tellOne_233 ?_
                      refine fg_X11_209 X hI ha0 dX11_tellOne_234 (fun v314 ev314 hv314 => ?_)
                      replace E := zLet_s ev314 E
                      have kv314 : (σ.1 a0 11).toInt = v314.toInt := by rw [ev314]
                      have mv314 : v314.toInt = v2.toInt := by rw [ev314, ← ev2]
                      refine ag_105 X hI hv313 (by omega) (by omega) dX11_tellOne_237 (fun v315 ev315 _ => ?_)
                      replace E := zLet_s ev315 E
                      have qv315 := zp_ld ev313 ev315
                      rw [← kv314] at qv315
                      refine zg_bipush X 22 dX11_tellOne_238 (by decide) (fun v316 _ hv316 => ?_)
                      replace E := zLet_s (zcst hv316 (by decide)) E
                      refine zg_isub X dX11_tellOne_240 (by omega) (by omega) (fun v317 ev317 hv317 => ?_)
                      replace E := zLet_s ev317 E
                      refine zg_istore_n X [(1, .int v317), (0, .ref a0)] dX11_tellOne_241 (by decide) rfl ?_
                      refine zg_iload_n X 0 rfl dX11_tellOne_242 ?_
                      refine zg_if_lt X 260 dX11_tellOne_243 (by decide) (fun c318 => ?_) (fun c318 => ?_)
                      · skip
                        replace E := zIf_t c318 E
                        refine zg_aload_n X 1 rfl dX11_tellOne_260 ?_
                        refine zg_iconst X 1 dX11_tellOne_261 (by decide) (fun v319 _ hv319 => ?_)
                        replace E := zLet_s (zcst hv319 (by decide)) E
                        refine zg_cVv (As := [.int v319]) (st := []) X ha0 rfl (by decide) rfl (t_X11_fail l d L kd κ _ hI a0 ha0 v319  (by omega)) mk_X11_221 mc_X11_fail mz_X11 mi_X11_fail ml_X11_fail (na := 1) ⟨md_X11.1, md_X11.2, by decide +kernel⟩ rfl ⟨by decide, by decide⟩ (Nat.le_of_ble_eq_true rfl) dX11_tellOne_262 (fun t320 hq => ?_)
                        obtain ⟨hF, ht320_fact0, hI, g321⟩ := hq
                        replace E := zLet_s hF E
                        have ft320_11 : (t320.1 a0 11).toInt = (σ.1 a0 11).toInt := by rw [g321.2.1 11 (by decide)]
                        have ft320_12 : (t320.1 a0 12).toInt = (σ.1 a0 12).toInt := by rw [g321.2.1 12 (by decide)]
                        have ft320_15 : (t320.1 a0 15).toInt = (σ.1 a0 15).toInt := by rw [g321.2.1 15 (by decide)]
                        have ft320_18 : (t320.1 a0 18).toInt = (σ.1 a0 18).toInt := by rw [g321.2.1 18 (by decide)]
                        have ft320_19 : (t320.1 a0 19).toInt = (σ.1 a0 19).toInt := by rw [g321.2.1 19 (by decide)]
                        have ft320_32 : (t320.1 a0 32).toInt = (σ.1 a0 32).toInt := by rw [g321.2.1 32 (by decide)]
                        have ft320_38 : (t320.1 a0 38).toInt = (σ.1 a0 38).toInt := by rw [g321.2.1 38 (by decide)]
                        have ft320_41 : (t320.1 a0 41).toInt = (σ.1 a0 41).toInt := by rw [g321.2.1 41 (by decide)]
                        have ft320_42 : (t320.1 a0 42).toInt = (σ.1 a0 42).toInt := by rw [g321.2.1 42 (by decide)]
                        have hS := hS.tr g321 (by decide) (by decide)
                        have at320_30 := zp_same hI ha0 g321 30 rfl (by decide) (by decide)
                        have at320_31 := zp_same hI ha0 g321 31 rfl (by decide) (by decide)
                        have at320_33 := zp_same hI ha0 g321 33 rfl (by decide) (by decide)
                        have at320_34 := zp_same hI ha0 g321 34 rfl (by decide) (by decide)
                        have at320_35 := zp_same hI ha0 g321 35 rfl (by decide) (by decide)
                        have at320_36 := zp_same hI ha0 g321 36 rfl (by decide) (by decide)
                        have at320_37 := zp_same hI ha0 g321 37 rfl (by decide) (by decide)
                        have at320_39 := zp_same hI ha0 g321 39 rfl (by decide) (by decide)
                        have at320_40 := zp_same hI ha0 g321 40 rfl (by decide) (by decide)
                        have gNt320 := gN.same hI ha0 g321 (by decide) hgN
                        have gHt320 := gH.same hI ha0 g321 (by decide) hgH
                        have gEt320 := gE.same hI ha0 g321 (by decide) hgE
                        have gLt320 := gL.same hI ha0 g321 (by decide) hgL
                        have gPt320 := gP.same hI ha0 g321 (by decide) hgP
                        have gTrt320 := gTr.same hI ha0 g321 (by decide) hgTr
                        refine zg_aload_n X 1 rfl dX11_tellOne_265 ?_
                        refine fg_X11_206 X hI ha0 dX11_tellOne_266 (fun v323 ev323 hv323 => ?_)
                        replace E := zLet_s ev323 E
                        have kv323 : (t320.1 a0 13).toInt = v323.toInt := by rw [ev323]
                        refine zg_if_le X 273 dX11_tellOne_269 (by decide) (fun c324 => ?_) (fun c324 => ?_)
                        · skip
                          replace E := zIf_f (Int.not_lt.mpr c324) E
                          refine zg_aload_n X 1 rfl dX11_tellOne_273 ?_
                          refine zg_cVv (As := []) (st := []) X ha0 rfl (by decide) rfl (t_X11_goesOn l d L kd κ _ hI a0 ha0   ) mk_X11_227 mc_X11_goesOn mz_X11 mi_X11_goesOn ml_X11_goesOn (na := 0) ⟨md_X11.1, md_X11.2, by decide +kernel⟩ rfl ⟨by decide, by decide⟩ (Nat.le_of_ble_eq_true rfl) dX11_tellOne_274 (fun t325 hq => ?_)
                          obtain ⟨hF, ht325_fact0, hI, g326⟩ := hq
                          replace E := zLet_s hF E
                          have ft325_12 : (t325.1 a0 12).toInt = (t320.1 a0 12).toInt := by rw [g326.2.1 12 (by decide)]
                          have ft325_15 : (t325.1 a0 15).toInt = (t320.1 a0 15).toInt := by rw [g326.2.1 15 (by decide)]
                          have ft325_18 : (t325.1 a0 18).toInt = (t320.1 a0 18).toInt := by rw [g326.2.1 18 (by decide)]
                          have ft325_19 : (t325.1 a0 19).toInt = (t320.1 a0 19).toInt := by rw [g326.2.1 19 (by decide)]
                          have ft325_32 : (t325.1 a0 32).toInt = (t320.1 a0 32).toInt := by rw [g326.2.1 32 (by decide)]
                          have ft325_38 : (t325.1 a0 38).toInt = (t320.1 a0 38).toInt := by rw [g326.2.1 38 (by decide)]
                          have ft325_41 : (t325.1 a0 41).toInt = (t320.1 a0 41).toInt := by rw [g326.2.1 41 (by decide)]
                          have ft325_42 : (t325.1 a0 42).toInt = (t320.1 a0 42).toInt := by rw [g326.2.1 42 (by decide)]
                          have hS := hS.tr g326 (by decide) (by decide)
                          have at325_30 := (zp_same hI ha0 g326 30 rfl (by decide) (by decide)).trans at320_30
                          have at325_31 := (zp_same hI ha0 g326 31 rfl (by decide) (by decide)).trans at320_31
                          have at325_33 := (zp_same hI ha0 g326 33 rfl (by decide) (by decide)).trans at320_33
                          have at325_34 := (zp_same hI ha0 g326 34 rfl (by decide) (by decide)).trans at320_34
                          have at325_35 := (zp_same hI ha0 g326 35 rfl (by decide) (by decide)).trans at320_35
                          have at325_36 := (zp_same hI ha0 g326 36 rfl (by decide) (by decide)).trans at320_36
                          have at325_37 := (zp_same hI ha0 g326 37 rfl (by decide) (by decide)).trans at320_37
                          have at325_39 := (zp_same hI ha0 g326 39 rfl (by decide) (by decide)).trans at320_39
                          have at325_40 := (zp_same hI ha0 g326 40 rfl (by decide) (by decide)).trans at320_40
                          have gNt325 := gN.same hI ha0 g326 (by decide) gNt320
                          have gHt325 := gH.same hI ha0 g326 (by decide) gHt320
                          have gEt325 := gE.same hI ha0 g326 (by decide) gEt320
                          have gLt325 := gL.same hI ha0 g326 (by decide) gLt320
                          have gPt325 := gP.same hI ha0 g326 (by decide) gPt320
                          have gTrt325 := gTr.same hI ha0 g326 (by decide) gTrt320
                          refine zg_aload_n X 1 rfl dX11_tellOne_277 ?_
                          refine zg_iload_n X 0 rfl dX11_tellOne_278 ?_
                          have zlk0 : zLkp a0 σ t325 := zLkp.eq at325_30 at325_31 at325_33 at325_34 at325_35 at325_36 at325_37 at325_39 at325_40
                          refine zg_cVv (As := [.int v317]) (st := []) X ha0 rfl (by decide) rfl (t_X11_tellLaw l d L kd κ _ hI a0 ha0 v317  (by omega) (by omega) (by omega) (by omega) (by omega) gPt325 gLt325) mk_X11_277 mc_X11_tellLaw mz_X11 mi_X11_tellLaw ml_X11_tellLaw (na := 1) ⟨md_X11.1, md_X11.2, by decide +kernel⟩ rfl ⟨by decide, by decide⟩ (Nat.le_of_ble_eq_true rfl) dX11_tellOne_279 (fun t327 hq => ?_)
                          obtain ⟨hF, ⟨ht327_fact0, ht327_fact1, ht327_fact2, gLt327⟩, hI, g328⟩ := hq
                          replace E := zLet_s hF E
                          have ft327_15 : (t327.1 a0 15).toInt = (t325.1 a0 15).toInt := by rw [g328.2.1 15 (by decide)]
                          have ft327_18 : (t327.1 a0 18).toInt = (t325.1 a0 18).toInt := by rw [g328.2.1 18 (by decide)]
                          have ft327_19 : (t327.1 a0 19).toInt = (t325.1 a0 19).toInt := by rw [g328.2.1 19 (by decide)]
                          have ft327_41 : (t327.1 a0 41).toInt = (t325.1 a0 41).toInt := by rw [g328.2.1 41 (by decide)]
                          have ft327_42 : (t327.1 a0 42).toInt = (t325.1 a0 42).toInt := by rw [g328.2.1 42 (by decide)]
                          have hS := hS.tr g328 (by decide) (by decide)
                          have gNt327 := gN.same hI ha0 g328 (by decide) gNt325
                          have gHt327 := gH.same hI ha0 g328 (by decide) gHt325
                          have gEt327 := gE.same hI ha0 g328 (by decide) gEt325
                          have gTrt327 := gTr.same hI ha0 g328 (by decide) gTrt325
                          have zgp := ht327_fact1
                          have zgk := ht327_fact2
                          clear ht327_fact2 ht327_fact1
                          exact ret _ _ _ dX11_tellOne_282 ⟨E.symm.trans hR, ⟨⟨(by omega), (fun h0 => by first | exact True.intro | exact zgp h0), (fun h0 => by first | exact gTrt327 | exact zgt h0), (by first | exact zlk0.tr zgk (by omega) | exact zLkp.eq rfl rfl rfl rfl rfl rfl rfl rfl rfl), gNt327, gHt327, gEt327, gLt327⟩, hI, hS⟩⟩
                        · skip
                          replace E := zIf_t c324 E
                          exact ret _ _ _ dX11_tellOne_272 ⟨E.symm.trans hR, ⟨⟨(by omega), (fun h0 => by exfalso; omega), (fun h0 => by exfalso; omega), (by first | exact zlk0.tr zgk (by omega) | exact zLkp.eq at320_30 at320_31 at320_33 at320_34 at320_35 at320_36 at320_37 at320_39 at320_40), gNt320, gHt320, gEt320, gLt320⟩, hI, hS⟩⟩
                      · skip
                        replace E := zIf_f (Int.not_lt.mpr c318) E
                        refine zg_aload_n X 1 rfl dX11_tellOne_246 ?_
                        refine fg_X11_20 X hI ha0 dX11_tellOne_247 (fun v329 ev329 hv329 => ?_)
                        replace E := zLet_s (zgr ev329) E
                        refine zg_aload_n X 1 rfl dX11_tellOne_250 ?_
                        refine fg_X11_209 X hI ha0 dX11_tellOne_251 (fun v330 ev330 hv330 => ?_)
                        replace E := zLet_s ev330 E
                        have kv330 : (σ.1 a0 11).toInt = v330.toInt := by rw [ev330]
                        have mv330 : v330.toInt = v314.toInt := by rw [ev330, ← ev314]
                        refine ag_105 X hI hv329 (by omega) (by omega) dX11_tellOne_254 (fun v331 ev331 _ => ?_)
                        replace E := zLet_s ev331 E
                        have qv331 := zp_ld ev329 ev331
                        rw [← kv330] at qv331
                        refine zg_bipush X 26 dX11_tellOne_255 (by decide) (fun v332 _ hv332 => ?_)
                        replace E := zLet_s (zcst hv332 (by decide)) E
                        have zv331_z333 := zb_rng v331
                        refine zg_icmp_le X 265 dX11_tellOne_257 (by decide) (fun c334 => ?_) (fun c334 => ?_)
                        · skip
                          replace E := zIf_f (Int.not_lt.mpr c334) E
                          refine zg_aload_n X 1 rfl dX11_tellOne_265 ?_
                          refine fg_X11_206 X hI ha0 dX11_tellOne_266 (fun v335 ev335 hv335 => ?_)
                          replace E := zLet_s ev335 E
                          have kv335 : (σ.1 a0 13).toInt = v335.toInt := by rw [ev335]
                          refine zg_if_le X 273 dX11_tellOne_269 (by decide) (fun c336 => ?_) (fun c336 => ?_)
                          · skip
                            replace E := zIf_f (Int.not_lt.mpr c336) E
                            refine zg_aload_n X 1 rfl dX11_tellOne_273 ?_
                            refine zg_cVv (As := []) (st := []) X ha0 rfl (by decide) rfl (t_X11_goesOn l d L kd κ _ hI a0 ha0   ) mk_X11_227 mc_X11_goesOn mz_X11 mi_X11_goesOn ml_X11_goesOn (na := 0) ⟨md_X11.1, md_X11.2, by decide +kernel⟩ rfl ⟨by decide, by decide⟩ (Nat.le_of_ble_eq_true rfl) dX11_tellOne_274 (fun t337 hq => ?_)
                            obtain ⟨hF, ht337_fact0, hI, g338⟩ := hq
                            replace E := zLet_s hF E
                            have ft337_12 : (t337.1 a0 12).toInt = (σ.1 a0 12).toInt := by rw [g338.2.1 12 (by decide)]
                            have ft337_15 : (t337.1 a0 15).toInt = (σ.1 a0 15).toInt := by rw [g338.2.1 15 (by decide)]
                            have ft337_18 : (t337.1 a0 18).toInt = (σ.1 a0 18).toInt := by rw [g338.2.1 18 (by decide)]
                            have ft337_19 : (t337.1 a0 19).toInt = (σ.1 a0 19).toInt := by rw [g338.2.1 19 (by decide)]
                            have ft337_32 : (t337.1 a0 32).toInt = (σ.1 a0 32).toInt := by rw [g338.2.1 32 (by decide)]
                            have ft337_38 : (t337.1 a0 38).toInt = (σ.1 a0 38).toInt := by rw [g338.2.1 38 (by decide)]
                            have ft337_41 : (t337.1 a0 41).toInt = (σ.1 a0 41).toInt := by rw [g338.2.1 41 (by decide)]
                            have ft337_42 : (t337.1 a0 42).toInt = (σ.1 a0 42).toInt := by rw [g338.2.1 42 (by decide)]
                            have hS := hS.tr g338 (by decide) (by decide)
                            have at337_30 := zp_same hI ha0 g338 30 rfl (by decide) (by decide)
                            have at337_31 := zp_same hI ha0 g338 31 rfl (by decide) (by decide)
                            have at337_33 := zp_same hI ha0 g338 33 rfl (by decide) (by decide)
                            have at337_34 := zp_same hI ha0 g338 34 rfl (by decide) (by decide)
                            have at337_35 := zp_same hI ha0 g338 35 rfl (by decide) (by decide)
                            have at337_36 := zp_same hI ha0 g338 36 rfl (by decide) (by decide)
                            have at337_37 := zp_same hI ha0 g338 37 rfl (by decide) (by decide)
                            have at337_39 := zp_same hI ha0 g338 39 rfl (by decide) (by decide)
                            have at337_40 := zp_same hI ha0 g338 40 rfl (by decide) (by decide)
                            have gNt337 := gN.same hI ha0 g338 (by decide) hgN
                            have gHt337 := gH.same hI ha0 g338 (by decide) hgH
                            have gEt337 := gE.same hI ha0 g338 (by decide) hgE
                            have gLt337 := gL.same hI ha0 g338 (by decide) hgL
                            have gPt337 := gP.same hI ha0 g338 (by decide) hgP
                            have gTrt337 := gTr.same hI ha0 g338 (by decide) hgTr
                            refine zg_aload_n X 1 rfl dX11_tellOne_277 ?_
                            refine zg_iload_n X 0 rfl dX11_tellOne_278 ?_
                            have zlk0 : zLkp a0 σ t337 := zLkp.eq at337_30 at337_31 at337_33 at337_34 at337_35 at337_36 at337_37 at337_39 at337_40
                            refine zg_cVv (As := [.int v317]) (st := []) X ha0 rfl (by decide) rfl (t_X11_tellLaw l d L kd κ _ hI a0 ha0 v317  (by omega) (by omega) (by omega) (by omega) (by omega) gPt337 gLt337) mk_X11_277 mc_X11_tellLaw mz_X11 mi_X11_tellLaw ml_X11_tellLaw (na := 1) ⟨md_X11.1, md_X11.2, by decide +kernel⟩ rfl ⟨by decide, by decide⟩ (Nat.le_of_ble_eq_true rfl) dX11_tellOne_279 (fun t339 hq => ?_)
                            obtain ⟨hF, ⟨ht339_fact0, ht339_fact1, ht339_fact2, gLt339⟩, hI, g340⟩ := hq
                            replace E := zLet_s hF E
                            have ft339_15 : (t339.1 a0 15).toInt = (t337.1 a0 15).toInt := by rw [g340.2.1 15 (by decide)]
                            have ft339_18 : (t339.1 a0 18).toInt = (t337.1 a0 18).toInt := by rw [g340.2.1 18 (by decide)]
                            have ft339_19 : (t339.1 a0 19).toInt = (t337.1 a0 19).toInt := by rw [g340.2.1 19 (by decide)]
                            have ft339_41 : (t339.1 a0 41).toInt = (t337.1 a0 41).toInt := by rw [g340.2.1 41 (by decide)]
                            have ft339_42 : (t339.1 a0 42).toInt = (t337.1 a0 42).toInt := by rw [g340.2.1 42 (by decide)]
                            have hS := hS.tr g340 (by decide) (by decide)
                            have gNt339 := gN.same hI ha0 g340 (by decide) gNt337
                            have gHt339 := gH.same hI ha0 g340 (by decide) gHt337
                            have gEt339 := gE.same hI ha0 g340 (by decide) gEt337
                            have gTrt339 := gTr.same hI ha0 g340 (by decide) gTrt337
                            have zgp := ht339_fact1
                            have zgk := ht339_fact2
                            clear ht339_fact2 ht339_fact1
                            exact ret _ _ _ dX11_tellOne_282 ⟨E.symm.trans hR, ⟨⟨(by omega), (fun h0 => by first | exact True.intro | exact zgp h0), (fun h0 => by first | exact gTrt339 | exact zgt h0), (by first | exact zlk0.tr zgk (by omega) | exact zLkp.eq rfl rfl rfl rfl rfl rfl rfl rfl rfl), gNt339, gHt339, gEt339, gLt339⟩, hI, hS⟩⟩
                          · skip
                            replace E := zIf_t c336 E
                            exact ret _ _ _ dX11_tellOne_272 ⟨E.symm.trans hR, ⟨⟨(by omega), (fun h0 => by exfalso; omega), (fun h0 => by exfalso; omega), (by first | exact zlk0.tr zgk (by omega) | exact zLkp.eq rfl rfl rfl rfl rfl rfl rfl rfl rfl), hgN, hgH, hgE, hgL⟩, hI, hS⟩⟩
                        · skip
                          replace E := zIf_t c334 E
                          refine zg_aload_n X 1 rfl dX11_tellOne_260 ?_
                          refine zg_iconst X 1 dX11_tellOne_261 (by decide) (fun v341 _ hv341 => ?_)
                          replace E := zLet_s (zcst hv341 (by decide)) E
                          refine zg_cVv (As := [.int v341]) (st := []) X ha0 rfl (by decide) rfl (t_X11_fail l d L kd κ _ hI a0 ha0 v341  (by omega)) mk_X11_221 mc_X11_fail mz_X11 mi_X11_fail ml_X11_fail (na := 1) ⟨md_X11.1, md_X11.2, by decide +kernel⟩ rfl ⟨by decide, by decide⟩ (Nat.le_of_ble_eq_true rfl) dX11_tellOne_262 (fun t342 hq => ?_)
                          obtain ⟨hF, ht342_fact0, hI, g343⟩ := hq
                          replace E := zLet_s hF E
                          have ft342_11 : (t342.1 a0 11).toInt = (σ.1 a0 11).toInt := by rw [g343.2.1 11 (by decide)]
                          have ft342_12 : (t342.1 a0 12).toInt = (σ.1 a0 12).toInt := by rw [g343.2.1 12 (by decide)]
                          have ft342_15 : (t342.1 a0 15).toInt = (σ.1 a0 15).toInt := by rw [g343.2.1 15 (by decide)]
                          have ft342_18 : (t342.1 a0 18).toInt = (σ.1 a0 18).toInt := by rw [g343.2.1 18 (by decide)]
                          have ft342_19 : (t342.1 a0 19).toInt = (σ.1 a0 19).toInt := by rw [g343.2.1 19 (by decide)]
                          have ft342_32 : (t342.1 a0 32).toInt = (σ.1 a0 32).toInt := by rw [g343.2.1 32 (by decide)]
                          have ft342_38 : (t342.1 a0 38).toInt = (σ.1 a0 38).toInt := by rw [g343.2.1 38 (by decide)]
                          have ft342_41 : (t342.1 a0 41).toInt = (σ.1 a0 41).toInt := by rw [g343.2.1 41 (by decide)]
                          have ft342_42 : (t342.1 a0 42).toInt = (σ.1 a0 42).toInt := by rw [g343.2.1 42 (by decide)]
                          have hS := hS.tr g343 (by decide) (by decide)
                          have at342_30 := zp_same hI ha0 g343 30 rfl (by decide) (by decide)
                          have at342_31 := zp_same hI ha0 g343 31 rfl (by decide) (by decide)
                          have at342_33 := zp_same hI ha0 g343 33 rfl (by decide) (by decide)
                          have at342_34 := zp_same hI ha0 g343 34 rfl (by decide) (by decide)
                          have at342_35 := zp_same hI ha0 g343 35 rfl (by decide) (by decide)
                          have at342_36 := zp_same hI ha0 g343 36 rfl (by decide) (by decide)
                          have at342_37 := zp_same hI ha0 g343 37 rfl (by decide) (by decide)
                          have at342_39 := zp_same hI ha0 g343 39 rfl (by decide) (by decide)
                          have at342_40 := zp_same hI ha0 g343 40 rfl (by decide) (by decide)
                          have gNt342 := gN.same hI ha0 g343 (by decide) hgN
                          have gHt342 := gH.same hI ha0 g343 (by decide) hgH
                          have gEt342 := gE.same hI ha0 g343 (by decide) hgE
                          have gLt342 := gL.same hI ha0 g343 (by decide) hgL
                          have gPt342 := gP.same hI ha0 g343 (by decide) hgP
                          have gTrt342 := gTr.same hI ha0 g343 (by decide) hgTr
                          refine zg_aload_n X 1 rfl dX11_tellOne_265 ?_
                          refine fg_X11_206 X hI ha0 dX11_tellOne_266 (fun v345 ev345 hv345 => ?_)
                          replace E := zLet_s ev345 E
                          have kv345 : (t342.1 a0 13).toInt = v345.toInt := by rw [ev345]
                          refine zg_if_le X 273 dX11_tellOne_269 (by decide) (fun c346 => ?_) (fun c346 => ?_)
                          · skip
                            replace E := zIf_f (Int.not_lt.mpr c346) E
                            refine zg_aload_n X 1 rfl dX11_tellOne_273 ?_
                            refine zg_cVv (As := []) (st := []) X ha0 rfl (by decide) rfl (t_X11_goesOn l d L kd κ _ hI a0 ha0   ) mk_X11_227 mc_X11_goesOn mz_X11 mi_X11_goesOn ml_X11_goesOn (na := 0) ⟨md_X11.1, md_X11.2, by decide +kernel⟩ rfl ⟨by decide, by decide⟩ (Nat.le_of_ble_eq_true rfl) dX11_tellOne_274 (fun t347 hq => ?_)
                            obtain ⟨hF, ht347_fact0, hI, g348⟩ := hq
                            replace E := zLet_s hF E
                            have ft347_12 : (t347.1 a0 12).toInt = (t342.1 a0 12).toInt := by rw [g348.2.1 12 (by decide)]
                            have ft347_15 : (t347.1 a0 15).toInt = (t342.1 a0 15).toInt := by rw [g348.2.1 15 (by decide)]
                            have ft347_18 : (t347.1 a0 18).toInt = (t342.1 a0 18).toInt := by rw [g348.2.1 18 (by decide)]
                            have ft347_19 : (t347.1 a0 19).toInt = (t342.1 a0 19).toInt := by rw [g348.2.1 19 (by decide)]
                            have ft347_32 : (t347.1 a0 32).toInt = (t342.1 a0 32).toInt := by rw [g348.2.1 32 (by decide)]
                            have ft347_38 : (t347.1 a0 38).toInt = (t342.1 a0 38).toInt := by rw [g348.2.1 38 (by decide)]
                            have ft347_41 : (t347.1 a0 41).toInt = (t342.1 a0 41).toInt := by rw [g348.2.1 41 (by decide)]
                            have ft347_42 : (t347.1 a0 42).toInt = (t342.1 a0 42).toInt := by rw [g348.2.1 42 (by decide)]
                            have hS := hS.tr g348 (by decide) (by decide)
                            have at347_30 := (zp_same hI ha0 g348 30 rfl (by decide) (by decide)).trans at342_30
                            have at347_31 := (zp_same hI ha0 g348 31 rfl (by decide) (by decide)).trans at342_31
                            have at347_33 := (zp_same hI ha0 g348 33 rfl (by decide) (by decide)).trans at342_33
                            have at347_34 := (zp_same hI ha0 g348 34 rfl (by decide) (by decide)).trans at342_34
                            have at347_35 := (zp_same hI ha0 g348 35 rfl (by decide) (by decide)).trans at342_35
                            have at347_36 := (zp_same hI ha0 g348 36 rfl (by decide) (by decide)).trans at342_36
                            have at347_37 := (zp_same hI ha0 g348 37 rfl (by decide) (by decide)).trans at342_37
                            have at347_39 := (zp_same hI ha0 g348 39 rfl (by decide) (by decide)).trans at342_39
                            have at347_40 := (zp_same hI ha0 g348 40 rfl (by decide) (by decide)).trans at342_40
                            have gNt347 := gN.same hI ha0 g348 (by decide) gNt342
                            have gHt347 := gH.same hI ha0 g348 (by decide) gHt342
                            have gEt347 := gE.same hI ha0 g348 (by decide) gEt342
                            have gLt347 := gL.same hI ha0 g348 (by decide) gLt342
                            have gPt347 := gP.same hI ha0 g348 (by decide) gPt342
                            have gTrt347 := gTr.same hI ha0 g348 (by decide) gTrt342
                            refine zg_aload_n X 1 rfl dX11_tellOne_277 ?_
                            refine zg_iload_n X 0 rfl dX11_tellOne_278 ?_
                            have zlk0 : zLkp a0 σ t347 := zLkp.eq at347_30 at347_31 at347_33 at347_34 at347_35 at347_36 at347_37 at347_39 at347_40
                            refine zg_cVv (As := [.int v317]) (st := []) X ha0 rfl (by decide) rfl (t_X11_tellLaw l d L kd κ _ hI a0 ha0 v317  (by omega) (by omega) (by omega) (by omega) (by omega) gPt347 gLt347) mk_X11_277 mc_X11_tellLaw mz_X11 mi_X11_tellLaw ml_X11_tellLaw (na := 1) ⟨md_X11.1, md_X11.2, by decide +kernel⟩ rfl ⟨by decide, by decide⟩ (Nat.le_of_ble_eq_true rfl) dX11_tellOne_279 (fun t349 hq => ?_)
                            obtain ⟨hF, ⟨ht349_fact0, ht349_fact1, ht349_fact2, gLt349⟩, hI, g350⟩ := hq
                            replace E := zLet_s hF E
                            have ft349_15 : (t349.1 a0 15).toInt = (t347.1 a0 15).toInt := by rw [g350.2.1 15 (by decide)]
                            have ft349_18 : (t349.1 a0 18).toInt = (t347.1 a0 18).toInt := by rw [g350.2.1 18 (by decide)]
                            have ft349_19 : (t349.1 a0 19).toInt = (t347.1 a0 19).toInt := by rw [g350.2.1 19 (by decide)]
                            have ft349_41 : (t349.1 a0 41).toInt = (t347.1 a0 41).toInt := by rw [g350.2.1 41 (by decide)]
                            have ft349_42 : (t349.1 a0 42).toInt = (t347.1 a0 42).toInt := by rw [g350.2.1 42 (by decide)]
                            have hS := hS.tr g350 (by decide) (by decide)
                            have gNt349 := gN.same hI ha0 g350 (by decide) gNt347
                            have gHt349 := gH.same hI ha0 g350 (by decide) gHt347
                            have gEt349 := gE.same hI ha0 g350 (by decide) gEt347
                            have gTrt349 := gTr.same hI ha0 g350 (by decide) gTrt347
                            have zgp := ht349_fact1
                            have zgk := ht349_fact2
                            clear ht349_fact2 ht349_fact1
                            exact ret _ _ _ dX11_tellOne_282 ⟨E.symm.trans hR, ⟨⟨(by omega), (fun h0 => by first | exact True.intro | exact zgp h0), (fun h0 => by first | exact gTrt349 | exact zgt h0), (by first | exact zlk0.tr zgk (by omega) | exact zLkp.eq rfl rfl rfl rfl rfl rfl rfl rfl rfl), gNt349, gHt349, gEt349, gLt349⟩, hI, hS⟩⟩
                          · skip
                            replace E := zIf_t c346 E
                            exact ret _ _ _ dX11_tellOne_272 ⟨E.symm.trans hR, ⟨⟨(by omega), (fun h0 => by exfalso; omega), (fun h0 => by exfalso; omega), (by first | exact zlk0.tr zgk (by omega) | exact zLkp.eq at342_30 at342_31 at342_33 at342_34 at342_35 at342_36 at342_37 at342_39 at342_40), gNt342, gHt342, gEt342, gLt342⟩, hI, hS⟩⟩
