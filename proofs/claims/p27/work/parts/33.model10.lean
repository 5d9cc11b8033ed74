set_option maxHeartbeats 4000000 in
set_option maxRecDepth 100000 in
theorem t_X11_tellOne (l : Launch) (d : zD2) (L : List Nat) (kd : Nat → Nat) (κ : Int) (σ : zS) (hI : zJ κ L kd σ) (a0 : Nat) (ha0 : zT L kd a0 11) (hq0 : (σ.1 a0 19).toInt + (σ.1 a0 18).toInt = 1) (hq1 : (σ.1 a0 13).toInt = 0) (hq2 : (σ.1 a0 12).toInt = 0) (hq3 : (420 * (σ.1 a0 19).toInt ≤ (σ.1 a0 38).toInt ∧ (σ.1 a0 38).toInt ≤ 420 * (σ.1 a0 19).toInt + (σ.1 a0 11).toInt ∧ 130 * (σ.1 a0 19).toInt ≤ (σ.1 a0 32).toInt ∧ 4 * ((σ.1 a0 32).toInt - 130 * (σ.1 a0 19).toInt) ≤ (σ.1 a0 11).toInt)) (hgN : gN a0 σ) (hgH : gH a0 σ) (hgE : gE a0 σ) (hgL : gL a0 σ) (hgP : gP a0 σ) (hgTr : gTr a0 σ) (hgK : gK a0 σ) : zMv l yX11_tellOne (Cond.code yX11_tellOne cX11_tellOne 2 none :: zWL) 6 [.ref a0] d L kd σ (fun σ2 => σ2 = F_X11_tellOne a0 σ ∧ (((((σ.1 a0 11).toInt ≤ (σ2.1 a0 11).toInt ∧ (1 ≤ (σ2.1 a0 13).toInt ∨ ((σ2.1 a0 13).toInt = 0 ∧ (σ.1 a0 11).toInt < (σ2.1 a0 11).toInt ∧ (σ2.1 a0 12).toInt = 0 ∧ (420 * (σ.1 a0 19).toInt ≤ (σ2.1 a0 38).toInt ∧ (σ2.1 a0 38).toInt ≤ 420 * (σ.1 a0 19).toInt + (σ2.1 a0 11).toInt ∧ 130 * (σ.1 a0 19).toInt ≤ (σ2.1 a0 32).toInt ∧ 4 * ((σ2.1 a0 32).toInt - 130 * (σ.1 a0 19).toInt) ≤ (σ2.1 a0 11).toInt))))) ∧ (((σ2.1 a0 13).toInt = 0 → gP a0 σ2)) ∧ (((σ2.1 a0 13).toInt = 0 → gTr a0 σ2)) ∧ (gN a0 σ2) ∧ (gH a0 σ2) ∧ (gE a0 σ2) ∧ (gL a0 σ2)) ∧ zJ κ L kd σ2 ∧ zSame a0 [11, 12, 13, 14, 15, 16, 32, 38, 41, 42, 44] [120, 121, 122, 123, 124, 125, 126, 127, 128, 129, 130, 131, 133, 134, 135, 136, 137, 139, 140, 143] L kd σ σ2)) := by
  refine zMv.of (own := RX11) (by decide +kernel) rfl rfl (Nat.le_of_ble_eq_true rfl) ?_
  intro p e s m args below meth c A Q X ret
  have hS : zSame a0 [11, 12, 13, 14, 15, 16, 32, 38, 41, 42, 44] [120, 121, 122, 123, 124, 125, 126, 127, 128, 129, 130, 131, 133, 134, 135, 136, 137, 139, 140, 143] L kd σ σ := zSame.rf
  refine zg_lv (lv2 := [(0, .ref a0)]) rfl ?_
  have z11 : 0 ≤ (σ.1 a0 11).toInt ∧ (σ.1 a0 11).toInt ≤ 400 := zj_get hI ha0 rfl
  have z12 : 0 ≤ (σ.1 a0 12).toInt ∧ (σ.1 a0 12).toInt ≤ 7 := zj_get hI ha0 rfl
  have z13 : 0 ≤ (σ.1 a0 13).toInt ∧ (σ.1 a0 13).toInt ≤ 2147483647 := zj_get hI ha0 rfl
  have z18 : 0 ≤ (σ.1 a0 18).toInt ∧ (σ.1 a0 18).toInt ≤ 1 := zj_get hI ha0 rfl
  have z19 : 0 ≤ (σ.1 a0 19).toInt ∧ (σ.1 a0 19).toInt ≤ 1 := zj_get hI ha0 rfl
  have z32 : 0 ≤ (σ.1 a0 32).toInt ∧ (σ.1 a0 32).toInt ≤ 260 := zj_get hI ha0 rfl
  have z38 : 0 ≤ (σ.1 a0 38).toInt ∧ (σ.1 a0 38).toInt ≤ 840 := zj_get hI ha0 rfl
  have z41 : 0 ≤ (σ.1 a0 41).toInt ∧ (σ.1 a0 41).toInt ≤ 1 := zj_get hI ha0 rfl
  have z42 : 0 ≤ (σ.1 a0 42).toInt ∧ (σ.1 a0 42).toInt ≤ 11 := zj_get hI ha0 rfl
  obtain ⟨R, hR⟩ : ∃ R, R = F_X11_tellOne a0 σ := ⟨_, rfl⟩
  have E := hR
  unfold F_X11_tellOne at E
  refine zg_aload_n X 0 rfl dX11_tellOne_0 ?_
  refine fg_X11_20 X hI ha0 dX11_tellOne_1 (fun v1 ev1 hv1 => ?_)
  replace E := zLet_s (zgr ev1) E
  refine zg_aload_n X 0 rfl dX11_tellOne_4 ?_
  refine fg_X11_209 X hI ha0 dX11_tellOne_5 (fun v2 ev2 hv2 => ?_)
  replace E := zLet_s ev2 E
  have kv2 : (σ.1 a0 11).toInt = v2.toInt := by rw [ev2]
  refine ag_105 X hI hv1 (by omega) (by omega) dX11_tellOne_8 (fun v3 ev3 _ => ?_)
  replace E := zLet_s ev3 E
  have qv3 := zp_ld ev1 ev3
  rw [← kv2] at qv3
  have zk9 := hgK (σ.1 a0 11).toInt (by omega)
  by_cases q4 : v3.toInt = 20
  · refine zg_tabIn X 64 20 dX11_tellOne_9 q4 (by decide) (by decide) rfl (by decide) ?_
    replace E := zIf_t q4 E
    refine zg_aload_n X 0 rfl dX11_tellOne_64 ?_
    refine fg_X11_248 X hI ha0 dX11_tellOne_65 (fun v5 ev5 hv5 => ?_)
    replace E := zLet_s ev5 E
    have kv5 : (σ.1 a0 41).toInt = v5.toInt := by rw [ev5]
    refine zg_if_eq X 76 dX11_tellOne_68 (by decide) (fun c6 => ?_) (fun c6 => ?_)
    · skip
      replace E := zIf_t c6 E
      refine zg_aload_n X 0 rfl dX11_tellOne_76 ?_
      refine fg_X11_206 X hI ha0 dX11_tellOne_77 (fun v7 ev7 hv7 => ?_)
      replace E := zLet_s ev7 E
      have kv7 : (σ.1 a0 13).toInt = v7.toInt := by rw [ev7]
      refine zg_if_le X 84 dX11_tellOne_80 (by decide) (fun c8 => ?_) (fun c8 => ?_)
      · skip
        replace E := zIf_f (Int.not_lt.mpr c8) E
        refine zg_aload_n X 0 rfl dX11_tellOne_84 ?_
        refine zg_cVv (As := []) (st := []) X ha0 rfl (by decide) rfl (t_X11_goesOn l d L kd κ _ hI a0 ha0   ) mk_X11_227 mc_X11_goesOn mz_X11 mi_X11_goesOn ml_X11_goesOn (na := 0) ⟨md_X11.1, md_X11.2, by decide +kernel⟩ rfl ⟨by decide, by decide⟩ (Nat.le_of_ble_eq_true rfl) dX11_tellOne_85 (fun t9 hq => ?_)
        obtain ⟨hF, ht9_fact0, hI, g10⟩ := hq
        replace E := zLet_s hF E
        have ft9_12 : (t9.1 a0 12).toInt = (σ.1 a0 12).toInt := by rw [g10.2.1 12 (by decide)]
        have ft9_15 : (t9.1 a0 15).toInt = (σ.1 a0 15).toInt := by rw [g10.2.1 15 (by decide)]
        have ft9_18 : (t9.1 a0 18).toInt = (σ.1 a0 18).toInt := by rw [g10.2.1 18 (by decide)]
        have ft9_19 : (t9.1 a0 19).toInt = (σ.1 a0 19).toInt := by rw [g10.2.1 19 (by decide)]
        have ft9_32 : (t9.1 a0 32).toInt = (σ.1 a0 32).toInt := by rw [g10.2.1 32 (by decide)]
        have ft9_38 : (t9.1 a0 38).toInt = (σ.1 a0 38).toInt := by rw [g10.2.1 38 (by decide)]
        have ft9_41 : (t9.1 a0 41).toInt = (σ.1 a0 41).toInt := by rw [g10.2.1 41 (by decide)]
        have ft9_42 : (t9.1 a0 42).toInt = (σ.1 a0 42).toInt := by rw [g10.2.1 42 (by decide)]
        have hS := hS.tr g10 (by decide) (by decide)
        have ut9_5 := zp_same hI ha0 g10 5 rfl (by decide) (by decide)
        have at9_5 := ut9_5
        have gNt9 := gN.same hI ha0 g10 (by decide) hgN
        have gHt9 := gH.same hI ha0 g10 (by decide) hgH
        have gEt9 := gE.same hI ha0 g10 (by decide) hgE
        have gLt9 := gL.same hI ha0 g10 (by decide) hgL
        have gPt9 := gP.same hI ha0 g10 (by decide) hgP
        have gTrt9 := gTr.same hI ha0 g10 (by decide) hgTr
        have gKt9 := gK.same hI ha0 g10 (by decide) hgK
        have e11 := g10.v ev5 (by decide)
        refine zg_aload_n X 0 rfl dX11_tellOne_88 ?_
        refine zg_cVv (As := []) (st := []) X ha0 rfl (by decide) rfl (t_X11_tellMouth l d L kd κ _ hI a0 ha0   (by omega) gNt9 gHt9 gEt9 gLt9 gTrt9) mk_X11_264 mc_X11_tellMouth mz_X11 mi_X11_tellMouth ml_X11_tellMouth (na := 0) ⟨md_X11.1, md_X11.2, by decide +kernel⟩ rfl ⟨by decide, by decide⟩ (Nat.le_of_ble_eq_true rfl) dX11_tellOne_89 (fun t12 hq => ?_)
        obtain ⟨hF, ⟨ht12_fact0, ht12_fact1, gNt12, gHt12, gEt12, gLt12⟩, hI, g13⟩ := hq
        replace E := zLet_s hF E
        have ft12_12 : (t12.1 a0 12).toInt = (t9.1 a0 12).toInt := by rw [g13.2.1 12 (by decide)]
        have ft12_18 : (t12.1 a0 18).toInt = (t9.1 a0 18).toInt := by rw [g13.2.1 18 (by decide)]
        have ft12_19 : (t12.1 a0 19).toInt = (t9.1 a0 19).toInt := by rw [g13.2.1 19 (by decide)]
        have ft12_32 : (t12.1 a0 32).toInt = (t9.1 a0 32).toInt := by rw [g13.2.1 32 (by decide)]
        have ft12_38 : (t12.1 a0 38).toInt = (t9.1 a0 38).toInt := by rw [g13.2.1 38 (by decide)]
        have ft12_42 : (t12.1 a0 42).toInt = (t9.1 a0 42).toInt := by rw [g13.2.1 42 (by decide)]
        have hS := hS.tr g13 (by decide) (by decide)
        have ut12_5 := zp_same hI ha0 g13 5 rfl (by decide) (by decide)
        have at12_5 := ut12_5.trans at9_5
        have gLt12 := gL.same hI ha0 g13 (by decide) gLt9
        have gPt12 := gP.same hI ha0 g13 (by decide) gPt9
        have gKt12 := gK.same hI ha0 g13 (by decide) gKt9
        have zgt := ht12_fact1
        clear ht12_fact1
        refine zg_goto X 282 dX11_tellOne_92 (by decide) ?_
        exact ret _ _ _ dX11_tellOne_282 ⟨E.symm.trans hR, ⟨⟨(by omega), (fun h0 => by first | exact gPt12 | exact zgp h0), (fun h0 => by first | exact True.intro | exact zgt h0), gNt12, gHt12, gEt12, gLt12⟩, hI, hS⟩⟩
      · skip
        replace E := zIf_t c8 E
        exact ret _ _ _ dX11_tellOne_83 ⟨E.symm.trans hR, ⟨⟨(by omega), (fun h0 => by exfalso; omega), (fun h0 => by exfalso; omega), hgN, hgH, hgE, hgL⟩, hI, hS⟩⟩
    · skip
      replace E := zIf_f c6 E
      refine zg_aload_n X 0 rfl dX11_tellOne_71 ?_
      refine zg_iconst X 2 dX11_tellOne_72 (by decide) (fun v14 _ hv14 => ?_)
      replace E := zLet_s (zcst hv14 (by decide)) E
      refine zg_cVv (As := [.int v14]) (st := []) X ha0 rfl (by decide) rfl (t_X11_fail l d L kd κ _ hI a0 ha0 v14  (by omega)) mk_X11_221 mc_X11_fail mz_X11 mi_X11_fail ml_X11_fail (na := 1) ⟨md_X11.1, md_X11.2, by decide +kernel⟩ rfl ⟨by decide, by decide⟩ (Nat.le_of_ble_eq_true rfl) dX11_tellOne_73 (fun t15 hq => ?_)
      obtain ⟨hF, ht15_fact0, hI, g16⟩ := hq
      replace E := zLet_s hF E
      have ft15_11 : (t15.1 a0 11).toInt = (σ.1 a0 11).toInt := by rw [g16.2.1 11 (by decide)]
      have ft15_12 : (t15.1 a0 12).toInt = (σ.1 a0 12).toInt := by rw [g16.2.1 12 (by decide)]
      have ft15_15 : (t15.1 a0 15).toInt = (σ.1 a0 15).toInt := by rw [g16.2.1 15 (by decide)]
      have ft15_18 : (t15.1 a0 18).toInt = (σ.1 a0 18).toInt := by rw [g16.2.1 18 (by decide)]
      have ft15_19 : (t15.1 a0 19).toInt = (σ.1 a0 19).toInt := by rw [g16.2.1 19 (by decide)]
      have ft15_32 : (t15.1 a0 32).toInt = (σ.1 a0 32).toInt := by rw [g16.2.1 32 (by decide)]
      have ft15_38 : (t15.1 a0 38).toInt = (σ.1 a0 38).toInt := by rw [g16.2.1 38 (by decide)]
      have ft15_41 : (t15.1 a0 41).toInt = (σ.1 a0 41).toInt := by rw [g16.2.1 41 (by decide)]
      have ft15_42 : (t15.1 a0 42).toInt = (σ.1 a0 42).toInt := by rw [g16.2.1 42 (by decide)]
      have hS := hS.tr g16 (by decide) (by decide)
      have ut15_5 := zp_same hI ha0 g16 5 rfl (by decide) (by decide)
      have at15_5 := ut15_5
      have gNt15 := gN.same hI ha0 g16 (by decide) hgN
      have gHt15 := gH.same hI ha0 g16 (by decide) hgH
      have gEt15 := gE.same hI ha0 g16 (by decide) hgE
      have gLt15 := gL.same hI ha0 g16 (by decide) hgL
      have gPt15 := gP.same hI ha0 g16 (by decide) hgP
      have gTrt15 := gTr.same hI ha0 g16 (by decide) hgTr
      have gKt15 := gK.same hI ha0 g16 (by decide) hgK
      have e17 := g16.v ev2 (by decide)
      have e18 := g16.v ev5 (by decide)
      refine zg_aload_n X 0 rfl dX11_tellOne_76 ?_
      refine fg_X11_206 X hI ha0 dX11_tellOne_77 (fun v19 ev19 hv19 => ?_)
      replace E := zLet_s ev19 E
      have kv19 : (t15.1 a0 13).toInt = v19.toInt := by rw [ev19]
      refine zg_if_le X 84 dX11_tellOne_80 (by decide) (fun c20 => ?_) (fun c20 => ?_)
      · skip
        replace E := zIf_f (Int.not_lt.mpr c20) E
        refine zg_aload_n X 0 rfl dX11_tellOne_84 ?_
        refine zg_cVv (As := []) (st := []) X ha0 rfl (by decide) rfl (t_X11_goesOn l d L kd κ _ hI a0 ha0   ) mk_X11_227 mc_X11_goesOn mz_X11 mi_X11_goesOn ml_X11_goesOn (na := 0) ⟨md_X11.1, md_X11.2, by decide +kernel⟩ rfl ⟨by decide, by decide⟩ (Nat.le_of_ble_eq_true rfl) dX11_tellOne_85 (fun t21 hq => ?_)
        obtain ⟨hF, ht21_fact0, hI, g22⟩ := hq
        replace E := zLet_s hF E
        have ft21_12 : (t21.1 a0 12).toInt = (t15.1 a0 12).toInt := by rw [g22.2.1 12 (by decide)]
        have ft21_15 : (t21.1 a0 15).toInt = (t15.1 a0 15).toInt := by rw [g22.2.1 15 (by decide)]
        have ft21_18 : (t21.1 a0 18).toInt = (t15.1 a0 18).toInt := by rw [g22.2.1 18 (by decide)]
        have ft21_19 : (t21.1 a0 19).toInt = (t15.1 a0 19).toInt := by rw [g22.2.1 19 (by decide)]
        have ft21_32 : (t21.1 a0 32).toInt = (t15.1 a0 32).toInt := by rw [g22.2.1 32 (by decide)]
        have ft21_38 : (t21.1 a0 38).toInt = (t15.1 a0 38).toInt := by rw [g22.2.1 38 (by decide)]
        have ft21_41 : (t21.1 a0 41).toInt = (t15.1 a0 41).toInt := by rw [g22.2.1 41 (by decide)]
        have ft21_42 : (t21.1 a0 42).toInt = (t15.1 a0 42).toInt := by rw [g22.2.1 42 (by decide)]
        have hS := hS.tr g22 (by decide) (by decide)
        have ut21_5 := zp_same hI ha0 g22 5 rfl (by decide) (by decide)
        have at21_5 := ut21_5.trans at15_5
        have gNt21 := gN.same hI ha0 g22 (by decide) gNt15
        have gHt21 := gH.same hI ha0 g22 (by decide) gHt15
        have gEt21 := gE.same hI ha0 g22 (by decide) gEt15
        have gLt21 := gL.same hI ha0 g22 (by decide) gLt15
        have gPt21 := gP.same hI ha0 g22 (by decide) gPt15
        have gTrt21 := gTr.same hI ha0 g22 (by decide) gTrt15
        have gKt21 := gK.same hI ha0 g22 (by decide) gKt15
        have e23 := g22.v e18 (by decide)
        refine zg_aload_n X 0 rfl dX11_tellOne_88 ?_
        refine zg_cVv (As := []) (st := []) X ha0 rfl (by decide) rfl (t_X11_tellMouth l d L kd κ _ hI a0 ha0   (by omega) gNt21 gHt21 gEt21 gLt21 gTrt21) mk_X11_264 mc_X11_tellMouth mz_X11 mi_X11_tellMouth ml_X11_tellMouth (na := 0) ⟨md_X11.1, md_X11.2, by decide +kernel⟩ rfl ⟨by decide, by decide⟩ (Nat.le_of_ble_eq_true rfl) dX11_tellOne_89 (fun t24 hq => ?_)
        obtain ⟨hF, ⟨ht24_fact0, ht24_fact1, gNt24, gHt24, gEt24, gLt24⟩, hI, g25⟩ := hq
        replace E := zLet_s hF E
        have ft24_12 : (t24.1 a0 12).toInt = (t21.1 a0 12).toInt := by rw [g25.2.1 12 (by decide)]
        have ft24_18 : (t24.1 a0 18).toInt = (t21.1 a0 18).toInt := by rw [g25.2.1 18 (by decide)]
        have ft24_19 : (t24.1 a0 19).toInt = (t21.1 a0 19).toInt := by rw [g25.2.1 19 (by decide)]
        have ft24_32 : (t24.1 a0 32).toInt = (t21.1 a0 32).toInt := by rw [g25.2.1 32 (by decide)]
        have ft24_38 : (t24.1 a0 38).toInt = (t21.1 a0 38).toInt := by rw [g25.2.1 38 (by decide)]
        have ft24_42 : (t24.1 a0 42).toInt = (t21.1 a0 42).toInt := by rw [g25.2.1 42 (by decide)]
        have hS := hS.tr g25 (by decide) (by decide)
        have ut24_5 := zp_same hI ha0 g25 5 rfl (by decide) (by decide)
        have at24_5 := ut24_5.trans at21_5
        have gLt24 := gL.same hI ha0 g25 (by decide) gLt21
        have gPt24 := gP.same hI ha0 g25 (by decide) gPt21
        have gKt24 := gK.same hI ha0 g25 (by decide) gKt21
        have zgt := ht24_fact1
        clear ht24_fact1
        refine zg_goto X 282 dX11_tellOne_92 (by decide) ?_
        exact ret _ _ _ dX11_tellOne_282 ⟨E.symm.trans hR, ⟨⟨(by omega), (fun h0 => by first | exact gPt24 | exact zgp h0), (fun h0 => by first | exact True.intro | exact zgt h0), gNt24, gHt24, gEt24, gLt24⟩, hI, hS⟩⟩
      · skip
        replace E := zIf_t c20 E
        exact ret _ _ _ dX11_tellOne_83 ⟨E.symm.trans hR, ⟨⟨(by omega), (fun h0 => by exfalso; omega), (fun h0 => by exfalso; omega), gNt15, gHt15, gEt15, gLt15⟩, hI, hS⟩⟩
  · skip
    replace E := zIf_f q4 E
    by_cases q26 : v3.toInt = 21
    · refine zg_tabIn X 95 21 dX11_tellOne_9 q26 (by decide) (by decide) rfl (by decide) ?_
      replace E := zIf_t q26 E
      refine zg_aload_n X 0 rfl dX11_tellOne_95 ?_
      refine fg_X11_252 X hI ha0 dX11_tellOne_96 (fun v27 ev27 hv27 => ?_)
      replace E := zLet_s ev27 E
      have kv27 : (σ.1 a0 42).toInt = v27.toInt := by rw [ev27]
      refine zg_bipush X 11 dX11_tellOne_99 (by decide) (fun v28 _ hv28 => ?_)
      replace E := zLet_s (zcst hv28 (by decide)) E
      refine zg_icmp_ne X 109 dX11_tellOne_101 (by decide) (fun c29 => ?_) (fun c29 => ?_)
      · skip
        replace E := zIf_f c29 E
        refine zg_aload_n X 0 rfl dX11_tellOne_109 ?_
        refine fg_X11_206 X hI ha0 dX11_tellOne_110 (fun v30 ev30 hv30 => ?_)
        replace E := zLet_s ev30 E
        have kv30 : (σ.1 a0 13).toInt = v30.toInt := by rw [ev30]
        refine zg_if_le X 117 dX11_tellOne_113 (by decide) (fun c31 => ?_) (fun c31 => ?_)
        · skip
          replace E := zIf_f (Int.not_lt.mpr c31) E
          refine zg_aload_n X 0 rfl dX11_tellOne_117 ?_
          refine zg_cVv (As := []) (st := []) X ha0 rfl (by decide) rfl (t_X11_goesOn l d L kd κ _ hI a0 ha0   ) mk_X11_227 mc_X11_goesOn mz_X11 mi_X11_goesOn ml_X11_goesOn (na := 0) ⟨md_X11.1, md_X11.2, by decide +kernel⟩ rfl ⟨by decide, by decide⟩ (Nat.le_of_ble_eq_true rfl) dX11_tellOne_118 (fun t32 hq => ?_)
          obtain ⟨hF, ht32_fact0, hI, g33⟩ := hq
          replace E := zLet_s hF E
          have ft32_12 : (t32.1 a0 12).toInt = (σ.1 a0 12).toInt := by rw [g33.2.1 12 (by decide)]
          have ft32_15 : (t32.1 a0 15).toInt = (σ.1 a0 15).toInt := by rw [g33.2.1 15 (by decide)]
          have ft32_18 : (t32.1 a0 18).toInt = (σ.1 a0 18).toInt := by rw [g33.2.1 18 (by decide)]
          have ft32_19 : (t32.1 a0 19).toInt = (σ.1 a0 19).toInt := by rw [g33.2.1 19 (by decide)]
          have ft32_32 : (t32.1 a0 32).toInt = (σ.1 a0 32).toInt := by rw [g33.2.1 32 (by decide)]
          have ft32_38 : (t32.1 a0 38).toInt = (σ.1 a0 38).toInt := by rw [g33.2.1 38 (by decide)]
          have ft32_41 : (t32.1 a0 41).toInt = (σ.1 a0 41).toInt := by rw [g33.2.1 41 (by decide)]
          have ft32_42 : (t32.1 a0 42).toInt = (σ.1 a0 42).toInt := by rw [g33.2.1 42 (by decide)]
          have hS := hS.tr g33 (by decide) (by decide)
          have ut32_5 := zp_same hI ha0 g33 5 rfl (by decide) (by decide)
          have at32_5 := ut32_5
          have gNt32 := gN.same hI ha0 g33 (by decide) hgN
          have gHt32 := gH.same hI ha0 g33 (by decide) hgH
          have gEt32 := gE.same hI ha0 g33 (by decide) hgE
          have gLt32 := gL.same hI ha0 g33 (by decide) hgL
          have gPt32 := gP.same hI ha0 g33 (by decide) hgP
          have gTrt32 := gTr.same hI ha0 g33 (by decide) hgTr
          have gKt32 := gK.same hI ha0 g33 (by decide) hgK
          have e34 := g33.v ev27 (by decide)
          refine zg_aload_n X 0 rfl dX11_tellOne_121 ?_
          refine zg_cVv (As := []) (st := []) X ha0 rfl (by decide) rfl (t_X11_tellPlace l d L kd κ _ hI a0 ha0   (by omega) (by omega) gNt32 gHt32 gEt32 gLt32 gTrt32) mk_X11_267 mc_X11_tellPlace mz_X11 mi_X11_tellPlace ml_X11_tellPlace (na := 0) ⟨md_X11.1, md_X11.2, by decide +kernel⟩ rfl ⟨by decide, by decide⟩ (Nat.le_of_ble_eq_true rfl) dX11_tellOne_122 (fun t35 hq => ?_)
          obtain ⟨hF, ⟨ht35_fact0, ht35_fact1, gNt35, gHt35, gEt35, gLt35⟩, hI, g36⟩ := hq
          replace E := zLet_s hF E
          have ft35_12 : (t35.1 a0 12).toInt = (t32.1 a0 12).toInt := by rw [g36.2.1 12 (by decide)]
          have ft35_18 : (t35.1 a0 18).toInt = (t32.1 a0 18).toInt := by rw [g36.2.1 18 (by decide)]
          have ft35_19 : (t35.1 a0 19).toInt = (t32.1 a0 19).toInt := by rw [g36.2.1 19 (by decide)]
          have ft35_32 : (t35.1 a0 32).toInt = (t32.1 a0 32).toInt := by rw [g36.2.1 32 (by decide)]
          have ft35_38 : (t35.1 a0 38).toInt = (t32.1 a0 38).toInt := by rw [g36.2.1 38 (by decide)]
          have ft35_41 : (t35.1 a0 41).toInt = (t32.1 a0 41).toInt := by rw [g36.2.1 41 (by decide)]
          have hS := hS.tr g36 (by decide) (by decide)
          have ut35_5 := zp_same hI ha0 g36 5 rfl (by decide) (by decide)
          have at35_5 := ut35_5.trans at32_5
          have gLt35 := gL.same hI ha0 g36 (by decide) gLt32
          have gPt35 := gP.same hI ha0 g36 (by decide) gPt32
          have gKt35 := gK.same hI ha0 g36 (by decide) gKt32
          have zgt := ht35_fact1
          clear ht35_fact1
          refine zg_goto X 282 dX11_tellOne_125 (by decide) ?_
          exact ret _ _ _ dX11_tellOne_282 ⟨E.symm.trans hR, ⟨⟨(by omega), (fun h0 => by first | exact gPt35 | exact zgp h0), (fun h0 => by first | exact True.intro | exact zgt h0), gNt35, gHt35, gEt35, gLt35⟩, hI, hS⟩⟩
        · skip
          replace E := zIf_t c31 E
          exact ret _ _ _ dX11_tellOne_116 ⟨E.symm.trans hR, ⟨⟨(by omega), (fun h0 => by exfalso; omega), (fun h0 => by exfalso; omega), hgN, hgH, hgE, hgL⟩, hI, hS⟩⟩
      · skip
        replace E := zIf_t c29 E
        refine zg_aload_n X 0 rfl dX11_tellOne_104 ?_
        refine zg_iconst X 2 dX11_tellOne_105 (by decide) (fun v37 _ hv37 => ?_)
        replace E := zLet_s (zcst hv37 (by decide)) E
        refine zg_cVv (As := [.int v37]) (st := []) X ha0 rfl (by decide) rfl (t_X11_fail l d L kd κ _ hI a0 ha0 v37  (by omega)) mk_X11_221 mc_X11_fail mz_X11 mi_X11_fail ml_X11_fail (na := 1) ⟨md_X11.1, md_X11.2, by decide +kernel⟩ rfl ⟨by decide, by decide⟩ (Nat.le_of_ble_eq_true rfl) dX11_tellOne_106 (fun t38 hq => ?_)
        obtain ⟨hF, ht38_fact0, hI, g39⟩ := hq
        replace E := zLet_s hF E
        have ft38_11 : (t38.1 a0 11).toInt = (σ.1 a0 11).toInt := by rw [g39.2.1 11 (by decide)]
        have ft38_12 : (t38.1 a0 12).toInt = (σ.1 a0 12).toInt := by rw [g39.2.1 12 (by decide)]
        have ft38_15 : (t38.1 a0 15).toInt = (σ.1 a0 15).toInt := by rw [g39.2.1 15 (by decide)]
        have ft38_18 : (t38.1 a0 18).toInt = (σ.1 a0 18).toInt := by rw [g39.2.1 18 (by decide)]
        have ft38_19 : (t38.1 a0 19).toInt = (σ.1 a0 19).toInt := by rw [g39.2.1 19 (by decide)]
        have ft38_32 : (t38.1 a0 32).toInt = (σ.1 a0 32).toInt := by rw [g39.2.1 32 (by decide)]
        have ft38_38 : (t38.1 a0 38).toInt = (σ.1 a0 38).toInt := by rw [g39.2.1 38 (by decide)]
        have ft38_41 : (t38.1 a0 41).toInt = (σ.1 a0 41).toInt := by rw [g39.2.1 41 (by decide)]
        have ft38_42 : (t38.1 a0 42).toInt = (σ.1 a0 42).toInt := by rw [g39.2.1 42 (by decide)]
        have hS := hS.tr g39 (by decide) (by decide)
        have ut38_5 := zp_same hI ha0 g39 5 rfl (by decide) (by decide)
        have at38_5 := ut38_5
        have gNt38 := gN.same hI ha0 g39 (by decide) hgN
        have gHt38 := gH.same hI ha0 g39 (by decide) hgH
        have gEt38 := gE.same hI ha0 g39 (by decide) hgE
        have gLt38 := gL.same hI ha0 g39 (by decide) hgL
        have gPt38 := gP.same hI ha0 g39 (by decide) hgP
        have gTrt38 := gTr.same hI ha0 g39 (by decide) hgTr
        have gKt38 := gK.same hI ha0 g39 (by decide) hgK
        have e40 := g39.v ev2 (by decide)
        have e41 := g39.v ev27 (by decide)
        refine zg_aload_n X 0 rfl dX11_tellOne_109 ?_
        refine fg_X11_206 X hI ha0 dX11_tellOne_110 (fun v42 ev42 hv42 => ?_)
        replace E := zLet_s ev42 E
        have kv42 : (t38.1 a0 13).toInt = v42.toInt := by rw [ev42]
        refine zg_if_le X 117 dX11_tellOne_113 (by decide) (fun c43 => ?_) (fun c43 => ?_)
        · skip
          replace E := zIf_f (Int.not_lt.mpr c43) E
          refine zg_aload_n X 0 rfl dX11_tellOne_117 ?_
          refine zg_cVv (As := []) (st := []) X ha0 rfl (by decide) rfl (t_X11_goesOn l d L kd κ _ hI a0 ha0   ) mk_X11_227 mc_X11_goesOn mz_X11 mi_X11_goesOn ml_X11_goesOn (na := 0) ⟨md_X11.1, md_X11.2, by decide +kernel⟩ rfl ⟨by decide, by decide⟩ (Nat.le_of_ble_eq_true rfl) dX11_tellOne_118 (fun t44 hq => ?_)
          obtain ⟨hF, ht44_fact0, hI, g45⟩ := hq
          replace E := zLet_s hF E
          have ft44_12 : (t44.1 a0 12).toInt = (t38.1 a0 12).toInt := by rw [g45.2.1 12 (by decide)]
          have ft44_15 : (t44.1 a0 15).toInt = (t38.1 a0 15).toInt := by rw [g45.2.1 15 (by decide)]
          have ft44_18 : (t44.1 a0 18).toInt = (t38.1 a0 18).toInt := by rw [g45.2.1 18 (by decide)]
          have ft44_19 : (t44.1 a0 19).toInt = (t38.1 a0 19).toInt := by rw [g45.2.1 19 (by decide)]
          have ft44_32 : (t44.1 a0 32).toInt = (t38.1 a0 32).toInt := by rw [g45.2.1 32 (by decide)]
          have ft44_38 : (t44.1 a0 38).toInt = (t38.1 a0 38).toInt := by rw [g45.2.1 38 (by decide)]
          have ft44_41 : (t44.1 a0 41).toInt = (t38.1 a0 41).toInt := by rw [g45.2.1 41 (by decide)]
          have ft44_42 : (t44.1 a0 42).toInt = (t38.1 a0 42).toInt := by rw [g45.2.1 42 (by decide)]
          have hS := hS.tr g45 (by decide) (by decide)
          have ut44_5 := zp_same hI ha0 g45 5 rfl (by decide) (by decide)
          have at44_5 := ut44_5.trans at38_5
          have gNt44 := gN.same hI ha0 g45 (by decide) gNt38
          have gHt44 := gH.same hI ha0 g45 (by decide) gHt38
          have gEt44 := gE.same hI ha0 g45 (by decide) gEt38
          have gLt44 := gL.same hI ha0 g45 (by decide) gLt38
          have gPt44 := gP.same hI ha0 g45 (by decide) gPt38
          have gTrt44 := gTr.same hI ha0 g45 (by decide) gTrt38
          have gKt44 := gK.same hI ha0 g45 (by decide) gKt38
          have e46 := g45.v e41 (by decide)
          refine zg_aload_n X 0 rfl dX11_tellOne_121 ?_
          refine zg_cVv (As := []) (st := []) X ha0 rfl (by decide) rfl (t_X11_tellPlace l d L kd κ _ hI a0 ha0   (by omega) (by omega) gNt44 gHt44 gEt44 gLt44 gTrt44) mk_X11_267 mc_X11_tellPlace mz_X11 mi_X11_tellPlace ml_X11_tellPlace (na := 0) ⟨md_X11.1, md_X11.2, by decide +kernel⟩ rfl ⟨by decide, by decide⟩ (Nat.le_of_ble_eq_true rfl) dX11_tellOne_122 (fun t47 hq => ?_)
          obtain ⟨hF, ⟨ht47_fact0, ht47_fact1, gNt47, gHt47, gEt47, gLt47⟩, hI, g48⟩ := hq
          replace E := zLet_s hF E
          have ft47_12 : (t47.1 a0 12).toInt = (t44.1 a0 12).toInt := by rw [g48.2.1 12 (by decide)]
          have ft47_18 : (t47.1 a0 18).toInt = (t44.1 a0 18).toInt := by rw [g48.2.1 18 (by decide)]
          have ft47_19 : (t47.1 a0 19).toInt = (t44.1 a0 19).toInt := by rw [g48.2.1 19 (by decide)]
          have ft47_32 : (t47.1 a0 32).toInt = (t44.1 a0 32).toInt := by rw [g48.2.1 32 (by decide)]
          have ft47_38 : (t47.1 a0 38).toInt = (t44.1 a0 38).toInt := by rw [g48.2.1 38 (by decide)]
          have ft47_41 : (t47.1 a0 41).toInt = (t44.1 a0 41).toInt := by rw [g48.2.1 41 (by decide)]
          have hS := hS.tr g48 (by decide) (by decide)
          have ut47_5 := zp_same hI ha0 g48 5 rfl (by decide) (by decide)
          have at47_5 := ut47_5.trans at44_5
          have gLt47 := gL.same hI ha0 g48 (by decide) gLt44
          have gPt47 := gP.same hI ha0 g48 (by decide) gPt44
          have gKt47 := gK.same hI ha0 g48 (by decide) gKt44
          have zgt := ht47_fact1
          clear ht47_fact1
          refine zg_goto X 282 dX11_tellOne_125 (by decide) ?_
          exact ret _ _ _ dX11_tellOne_282 ⟨E.symm.trans hR, ⟨⟨(by omega), (fun h0 => by first | exact gPt47 | exact zgp h0), (fun h0 => by first | exact True.intro | exact zgt h0), gNt47, gHt47, gEt47, gLt47⟩, hI, hS⟩⟩
        · skip
          replace E := zIf_t c43 E
          exact ret _ _ _ dX11_tellOne_116 ⟨E.symm.trans hR, ⟨⟨(by omega), (fun h0 => by exfalso; omega), (fun h0 => by exfalso; omega), gNt38, gHt38, gEt38, gLt38⟩, hI, hS⟩⟩
    · skip
      replace E := zIf_f q26 E
      by_cases q49 : v3.toInt = 22
      · refine zg_tabIn X 229 22 dX11_tellOne_9 q49 (by decide) (by decide) rfl (by decide) ?_
        replace E := zIf_t q49 E
        refine zg_aload_n X 0 rfl dX11_tellOne_229 ?_
        refine fg_X11_20 X hI ha0 dX11_tellOne_230 (fun v50 ev50 hv50 => ?_)
        replace E := zLet_s (zgr ev50) E
        refine zg_aload_n X 0 rfl dX11_tellOne_233 ?_
        refine fg_X11_209 X hI ha0 dX11_tellOne_234 (fun v51 ev51 hv51 => ?_)
        replace E := zLet_s ev51 E
        have kv51 : (σ.1 a0 11).toInt = v51.toInt := by rw [ev51]
        have mv51 : v51.toInt = v2.toInt := by rw [ev51, ← ev2]
        refine ag_105 X hI hv50 (by omega) (by omega) dX11_tellOne_237 (fun v52 ev52 _ => ?_)
        replace E := zLet_s ev52 E
        have qv52 := zp_ld ev50 ev52
        rw [← kv51] at qv52
        refine zg_bipush X 22 dX11_tellOne_238 (by decide) (fun v53 _ hv53 => ?_)
        replace E := zLet_s (zcst hv53 (by decide)) E
        refine zg_isub X dX11_tellOne_240 (by omega) (by omega) (fun v54 ev54 hv54 => ?_)
        replace E := zLet_s ev54 E
        refine zg_istore_n X [(1, .int v54), (0, .ref a0)] dX11_tellOne_241 (by decide) rfl ?_
        refine zg_iload_n X 0 rfl dX11_tellOne_242 ?_
        refine zg_if_lt X 260 dX11_tellOne_243 (by decide) (fun c55 => ?_) (fun c55 => ?_)
        · skip
          replace E := zIf_t c55 E
          refine zg_aload_n X 1 rfl dX11_tellOne_260 ?_
          refine zg_iconst X 1 dX11_tellOne_261 (by decide) (fun v56 _ hv56 => ?_)
          replace E := zLet_s (zcst hv56 (by decide)) E
          refine zg_cVv (As := [.int v56]) (st := []) X ha0 rfl (by decide) rfl (t_X11_fail l d L kd κ _ hI a0 ha0 v56  (by omega)) mk_X11_221 mc_X11_fail mz_X11 mi_X11_fail ml_X11_fail (na := 1) ⟨md_X11.1, md_X11.2, by decide +kernel⟩ rfl ⟨by decide, by decide⟩ (Nat.le_of_ble_eq_true rfl) dX11_tellOne_262 (fun t57 hq => ?_)
          obtain ⟨hF, ht57_fact0, hI, g58⟩ := hq
          replace E := zLet_s hF E
          have ft57_11 : (t57.1 a0 11).toInt = (σ.1 a0 11).toInt := by rw [g58.2.1 11 (by decide)]
          have ft57_12 : (t57.1 a0 12).toInt = (σ.1 a0 12).toInt := by rw [g58.2.1 12 (by decide)]
          have ft57_15 : (t57.1 a0 15).toInt = (σ.1 a0 15).toInt := by rw [g58.2.1 15 (by decide)]
          have ft57_18 : (t57.1 a0 18).toInt = (σ.1 a0 18).toInt := by rw [g58.2.1 18 (by decide)]
          have ft57_19 : (t57.1 a0 19).toInt = (σ.1 a0 19).toInt := by rw [g58.2.1 19 (by decide)]
          have ft57_32 : (t57.1 a0 32).toInt = (σ.1 a0 32).toInt := by rw [g58.2.1 32 (by decide)]
          have ft57_38 : (t57.1 a0 38).toInt = (σ.1 a0 38).toInt := by rw [g58.2.1 38 (by decide)]
          have ft57_41 : (t57.1 a0 41).toInt = (σ.1 a0 41).toInt := by rw [g58.2.1 41 (by decide)]
          have ft57_42 : (t57.1 a0 42).toInt = (σ.1 a0 42).toInt := by rw [g58.2.1 42 (by decide)]
          have hS := hS.tr g58 (by decide) (by decide)
          have ut57_5 := zp_same hI ha0 g58 5 rfl (by decide) (by decide)
          have at57_5 := ut57_5
          have gNt57 := gN.same hI ha0 g58 (by decide) hgN
          have gHt57 := gH.same hI ha0 g58 (by decide) hgH
          have gEt57 := gE.same hI ha0 g58 (by decide) hgE
          have gLt57 := gL.same hI ha0 g58 (by decide) hgL
          have gPt57 := gP.same hI ha0 g58 (by decide) hgP
          have gTrt57 := gTr.same hI ha0 g58 (by decide) hgTr
          have gKt57 := gK.same hI ha0 g58 (by decide) hgK
          have e59 := g58.v ev51 (by decide)
          refine zg_aload_n X 1 rfl dX11_tellOne_265 ?_
          refine fg_X11_206 X hI ha0 dX11_tellOne_266 (fun v60 ev60 hv60 => ?_)
          replace E := zLet_s ev60 E
          have kv60 : (t57.1 a0 13).toInt = v60.toInt := by rw [ev60]
          refine zg_if_le X 273 dX11_tellOne_269 (by decide) (fun c61 => ?_) (fun c61 => ?_)
          · skip
            replace E := zIf_f (Int.not_lt.mpr c61) E
            refine zg_aload_n X 1 rfl dX11_tellOne_273 ?_
            refine zg_cVv (As := []) (st := []) X ha0 rfl (by decide) rfl (t_X11_goesOn l d L kd κ _ hI a0 ha0   ) mk_X11_227 mc_X11_goesOn mz_X11 mi_X11_goesOn ml_X11_goesOn (na := 0) ⟨md_X11.1, md_X11.2, by decide +kernel⟩ rfl ⟨by decide, by decide⟩ (Nat.le_of_ble_eq_true rfl) dX11_tellOne_274 (fun t62 hq => ?_)
            obtain ⟨hF, ht62_fact0, hI, g63⟩ := hq
            replace E := zLet_s hF E
            have ft62_12 : (t62.1 a0 12).toInt = (t57.1 a0 12).toInt := by rw [g63.2.1 12 (by decide)]
            have ft62_15 : (t62.1 a0 15).toInt = (t57.1 a0 15).toInt := by rw [g63.2.1 15 (by decide)]
            have ft62_18 : (t62.1 a0 18).toInt = (t57.1 a0 18).toInt := by rw [g63.2.1 18 (by decide)]
            have ft62_19 : (t62.1 a0 19).toInt = (t57.1 a0 19).toInt := by rw [g63.2.1 19 (by decide)]
            have ft62_32 : (t62.1 a0 32).toInt = (t57.1 a0 32).toInt := by rw [g63.2.1 32 (by decide)]
            have ft62_38 : (t62.1 a0 38).toInt = (t57.1 a0 38).toInt := by rw [g63.2.1 38 (by decide)]
            have ft62_41 : (t62.1 a0 41).toInt = (t57.1 a0 41).toInt := by rw [g63.2.1 41 (by decide)]
            have ft62_42 : (t62.1 a0 42).toInt = (t57.1 a0 42).toInt := by rw [g63.2.1 42 (by decide)]
            have hS := hS.tr g63 (by decide) (by decide)
            have ut62_5 := zp_same hI ha0 g63 5 rfl (by decide) (by decide)
            have at62_5 := ut62_5.trans at57_5
            have gNt62 := gN.same hI ha0 g63 (by decide) gNt57
            have gHt62 := gH.same hI ha0 g63 (by decide) gHt57
            have gEt62 := gE.same hI ha0 g63 (by decide) gEt57
            have gLt62 := gL.same hI ha0 g63 (by decide) gLt57
            have gPt62 := gP.same hI ha0 g63 (by decide) gPt57
            have gTrt62 := gTr.same hI ha0 g63 (by decide) gTrt57
            have gKt62 := gK.same hI ha0 g63 (by decide) gKt57
            refine zg_aload_n X 1 rfl dX11_tellOne_277 ?_
            refine zg_iload_n X 0 rfl dX11_tellOne_278 ?_
            refine zg_cVv (As := [.int v54]) (st := []) X ha0 rfl (by decide) rfl (t_X11_tellLaw l d L kd κ _ hI a0 ha0 v54  (by omega) (by omega) (by omega) (by omega) (by omega) gPt62 gLt62) mk_X11_277 mc_X11_tellLaw mz_X11 mi_X11_tellLaw ml_X11_tellLaw (na := 1) ⟨md_X11.1, md_X11.2, by decide +kernel⟩ rfl ⟨by decide, by decide⟩ (Nat.le_of_ble_eq_true rfl) dX11_tellOne_279 (fun t64 hq => ?_)
            obtain ⟨hF, ⟨ht64_fact0, ht64_fact1, gLt64⟩, hI, g65⟩ := hq
            replace E := zLet_s hF E
            have ft64_15 : (t64.1 a0 15).toInt = (t62.1 a0 15).toInt := by rw [g65.2.1 15 (by decide)]
            have ft64_18 : (t64.1 a0 18).toInt = (t62.1 a0 18).toInt := by rw [g65.2.1 18 (by decide)]
            have ft64_19 : (t64.1 a0 19).toInt = (t62.1 a0 19).toInt := by rw [g65.2.1 19 (by decide)]
            have ft64_41 : (t64.1 a0 41).toInt = (t62.1 a0 41).toInt := by rw [g65.2.1 41 (by decide)]
            have ft64_42 : (t64.1 a0 42).toInt = (t62.1 a0 42).toInt := by rw [g65.2.1 42 (by decide)]
            have hS := hS.tr g65 (by decide) (by decide)
            have ut64_5 := zp_same hI ha0 g65 5 rfl (by decide) (by decide)
            have at64_5 := ut64_5.trans at62_5
            have gNt64 := gN.same hI ha0 g65 (by decide) gNt62
            have gHt64 := gH.same hI ha0 g65 (by decide) gHt62
            have gEt64 := gE.same hI ha0 g65 (by decide) gEt62
            have gTrt64 := gTr.same hI ha0 g65 (by decide) gTrt62
            have gKt64 := gK.same hI ha0 g65 (by decide) gKt62
            have zgp := ht64_fact1
            clear ht64_fact1
            exact ret _ _ _ dX11_tellOne_282 ⟨E.symm.trans hR, ⟨⟨(by omega), (fun h0 => by first | exact True.intro | exact zgp h0), (fun h0 => by first | exact gTrt64 | exact zgt h0), gNt64, gHt64, gEt64, gLt64⟩, hI, hS⟩⟩
          · skip
            replace E := zIf_t c61 E
            exact ret _ _ _ dX11_tellOne_272 ⟨E.symm.trans hR, ⟨⟨(by omega), (fun h0 => by exfalso; omega), (fun h0 => by exfalso; omega), gNt57, gHt57, gEt57, gLt57⟩, hI, hS⟩⟩
        · skip
          replace E := zIf_f (Int.not_lt.mpr c55) E
          refine zg_aload_n X 1 rfl dX11_tellOne_246 ?_
          refine fg_X11_20 X hI ha0 dX11_tellOne_247 (fun v66 ev66 hv66 => ?_)
          replace E := zLet_s (zgr ev66) E
          refine zg_aload_n X 1 rfl dX11_tellOne_250 ?_
          refine fg_X11_209 X hI ha0 dX11_tellOne_251 (fun v67 ev67 hv67 => ?_)
          replace E := zLet_s ev67 E
          have kv67 : (σ.1 a0 11).toInt = v67.toInt := by rw [ev67]
          have mv67 : v67.toInt = v51.toInt := by rw [ev67, ← ev51]
          refine ag_105 X hI hv66 (by omega) (by omega) dX11_tellOne_254 (fun v68 ev68 _ => ?_)
          replace E := zLet_s ev68 E
          have qv68 := zp_ld ev66 ev68
          rw [← kv67] at qv68
          refine zg_bipush X 26 dX11_tellOne_255 (by decide) (fun v69 _ hv69 => ?_)
          replace E := zLet_s (zcst hv69 (by decide)) E
          have zv68_z70 := zb_rng v68
          refine zg_icmp_le X 265 dX11_tellOne_257 (by decide) (fun c71 => ?_) (fun c71 => ?_)
          · skip
            replace E := zIf_f (Int.not_lt.mpr c71) E
            refine zg_aload_n X 1 rfl dX11_tellOne_265 ?_
            refine fg_X11_206 X hI ha0 dX11_tellOne_266 (fun v72 ev72 hv72 => ?_)
            replace E := zLet_s ev72 E
            have kv72 : (σ.1 a0 13).toInt = v72.toInt := by rw [ev72]
            refine zg_if_le X 273 dX11_tellOne_269 (by decide) (fun c73 => ?_) (fun c73 => ?_)
            · skip
              replace E := zIf_f (Int.not_lt.mpr c73) E
              refine zg_aload_n X 1 rfl dX11_tellOne_273 ?_
              refine zg_cVv (As := []) (st := []) X ha0 rfl (by decide) rfl (t_X11_goesOn l d L kd κ _ hI a0 ha0   ) mk_X11_227 mc_X11_goesOn mz_X11 mi_X11_goesOn ml_X11_goesOn (na := 0) ⟨md_X11.1, md_X11.2, by decide +kernel⟩ rfl ⟨by decide, by decide⟩ (Nat.le_of_ble_eq_true rfl) dX11_tellOne_274 (fun t74 hq => ?_)
              obtain ⟨hF, ht74_fact0, hI, g75⟩ := hq
              replace E := zLet_s hF E
              have ft74_12 : (t74.1 a0 12).toInt = (σ.1 a0 12).toInt := by rw [g75.2.1 12 (by decide)]
              have ft74_15 : (t74.1 a0 15).toInt = (σ.1 a0 15).toInt := by rw [g75.2.1 15 (by decide)]
              have ft74_18 : (t74.1 a0 18).toInt = (σ.1 a0 18).toInt := by rw [g75.2.1 18 (by decide)]
              have ft74_19 : (t74.1 a0 19).toInt = (σ.1 a0 19).toInt := by rw [g75.2.1 19 (by decide)]
              have ft74_32 : (t74.1 a0 32).toInt = (σ.1 a0 32).toInt := by rw [g75.2.1 32 (by decide)]
              have ft74_38 : (t74.1 a0 38).toInt = (σ.1 a0 38).toInt := by rw [g75.2.1 38 (by decide)]
              have ft74_41 : (t74.1 a0 41).toInt = (σ.1 a0 41).toInt := by rw [g75.2.1 41 (by decide)]
              have ft74_42 : (t74.1 a0 42).toInt = (σ.1 a0 42).toInt := by rw [g75.2.1 42 (by decide)]
              have hS := hS.tr g75 (by decide) (by decide)
              have ut74_5 := zp_same hI ha0 g75 5 rfl (by decide) (by decide)
              have at74_5 := ut74_5
              have gNt74 := gN.same hI ha0 g75 (by decide) hgN
              have gHt74 := gH.same hI ha0 g75 (by decide) hgH
              have gEt74 := gE.same hI ha0 g75 (by decide) hgE
              have gLt74 := gL.same hI ha0 g75 (by decide) hgL
              have gPt74 := gP.same hI ha0 g75 (by decide) hgP
              have gTrt74 := gTr.same hI ha0 g75 (by decide) hgTr
              have gKt74 := gK.same hI ha0 g75 (by decide) hgK
              refine zg_aload_n X 1 rfl dX11_tellOne_277 ?_
              refine zg_iload_n X 0 rfl dX11_tellOne_278 ?_
              refine zg_cVv (As := [.int v54]) (st := []) X ha0 rfl (by decide) rfl (t_X11_tellLaw l d L kd κ _ hI a0 ha0 v54  (by omega) (by omega) (by omega) (by omega) (by omega) gPt74 gLt74) mk_X11_277 mc_X11_tellLaw mz_X11 mi_X11_tellLaw ml_X11_tellLaw (na := 1) ⟨md_X11.1, md_X11.2, by decide +kernel⟩ rfl ⟨by decide, by decide⟩ (Nat.le_of_ble_eq_true rfl) dX11_tellOne_279 (fun t76 hq => ?_)
              obtain ⟨hF, ⟨ht76_fact0, ht76_fact1, gLt76⟩, hI, g77⟩ := hq
              replace E := zLet_s hF E
              have ft76_15 : (t76.1 a0 15).toInt = (t74.1 a0 15).toInt := by rw [g77.2.1 15 (by decide)]
              have ft76_18 : (t76.1 a0 18).toInt = (t74.1 a0 18).toInt := by rw [g77.2.1 18 (by decide)]
              have ft76_19 : (t76.1 a0 19).toInt = (t74.1 a0 19).toInt := by rw [g77.2.1 19 (by decide)]
              have ft76_41 : (t76.1 a0 41).toInt = (t74.1 a0 41).toInt := by rw [g77.2.1 41 (by decide)]
              have ft76_42 : (t76.1 a0 42).toInt = (t74.1 a0 42).toInt := by rw [g77.2.1 42 (by decide)]
              have hS := hS.tr g77 (by decide) (by decide)
              have ut76_5 := zp_same hI ha0 g77 5 rfl (by decide) (by decide)
              have at76_5 := ut76_5.trans at74_5
              have gNt76 := gN.same hI ha0 g77 (by decide) gNt74
              have gHt76 := gH.same hI ha0 g77 (by decide) gHt74
              have gEt76 := gE.same hI ha0 g77 (by decide) gEt74
              have gTrt76 := gTr.same hI ha0 g77 (by decide) gTrt74
              have gKt76 := gK.same hI ha0 g77 (by decide) gKt74
              have zgp := ht76_fact1
              clear ht76_fact1
              exact ret _ _ _ dX11_tellOne_282 ⟨E.symm.trans hR, ⟨⟨(by omega), (fun h0 => by first | exact True.intro | exact zgp h0), (fun h0 => by first | exact gTrt76 | exact zgt h0), gNt76, gHt76, gEt76, gLt76⟩, hI, hS⟩⟩
            · skip
              replace E := zIf_t c73 E
              exact ret _ _ _ dX11_tellOne_272 ⟨E.symm.trans hR, ⟨⟨(by omega), (fun h0 => by exfalso; omega), (fun h0 => by exfalso; omega), hgN, hgH, hgE, hgL⟩, hI, hS⟩⟩
          · skip
            replace E := zIf_t c71 E
            refine zg_aload_n X 1 rfl dX11_tellOne_260 ?_
            refine zg_iconst X 1 dX11_tellOne_261 (by decide) (fun v78 _ hv78 => ?_)
            replace E := zLet_s (zcst hv78 (by decide)) E
            refine zg_cVv (As := [.int v78]) (st := []) X ha0 rfl (by decide) rfl (t_X11_fail l d L kd κ _ hI a0 ha0 v78  (by omega)) mk_X11_221 mc_X11_fail mz_X11 mi_X11_fail ml_X11_fail (na := 1) ⟨md_X11.1, md_X11.2, by decide +kernel⟩ rfl ⟨by decide, by decide⟩ (Nat.le_of_ble_eq_true rfl) dX11_tellOne_262 (fun t79 hq => ?_)
            obtain ⟨hF, ht79_fact0, hI, g80⟩ := hq
            replace E := zLet_s hF E
            have ft79_11 : (t79.1 a0 11).toInt = (σ.1 a0 11).toInt := by rw [g80.2.1 11 (by decide)]
            have ft79_12 : (t79.1 a0 12).toInt = (σ.1 a0 12).toInt := by rw [g80.2.1 12 (by decide)]
            have ft79_15 : (t79.1 a0 15).toInt = (σ.1 a0 15).toInt := by rw [g80.2.1 15 (by decide)]
            have ft79_18 : (t79.1 a0 18).toInt = (σ.1 a0 18).toInt := by rw [g80.2.1 18 (by decide)]
            have ft79_19 : (t79.1 a0 19).toInt = (σ.1 a0 19).toInt := by rw [g80.2.1 19 (by decide)]
            have ft79_32 : (t79.1 a0 32).toInt = (σ.1 a0 32).toInt := by rw [g80.2.1 32 (by decide)]
            have ft79_38 : (t79.1 a0 38).toInt = (σ.1 a0 38).toInt := by rw [g80.2.1 38 (by decide)]
            have ft79_41 : (t79.1 a0 41).toInt = (σ.1 a0 41).toInt := by rw [g80.2.1 41 (by decide)]
            have ft79_42 : (t79.1 a0 42).toInt = (σ.1 a0 42).toInt := by rw [g80.2.1 42 (by decide)]
            have hS := hS.tr g80 (by decide) (by decide)
            have ut79_5 := zp_same hI ha0 g80 5 rfl (by decide) (by decide)
            have at79_5 := ut79_5
            have gNt79 := gN.same hI ha0 g80 (by decide) hgN
            have gHt79 := gH.same hI ha0 g80 (by decide) hgH
            have gEt79 := gE.same hI ha0 g80 (by decide) hgE
            have gLt79 := gL.same hI ha0 g80 (by decide) hgL
            have gPt79 := gP.same hI ha0 g80 (by decide) hgP
            have gTrt79 := gTr.same hI ha0 g80 (by decide) hgTr
            have gKt79 := gK.same hI ha0 g80 (by decide) hgK
            have e81 := g80.v ev67 (by decide)
            refine zg_aload_n X 1 rfl dX11_tellOne_265 ?_
            refine fg_X11_206 X hI ha0 dX11_tellOne_266 (fun v82 ev82 hv82 => ?_)
            replace E := zLet_s ev82 E
            have kv82 : (t79.1 a0 13).toInt = v82.toInt := by rw [ev82]
            refine zg_if_le X 273 dX11_tellOne_269 (by decide) (fun c83 => ?_) (fun c83 => ?_)
            · skip
              replace E := zIf_f (Int.not_lt.mpr c83) E
              refine zg_aload_n X 1 rfl dX11_tellOne_273 ?_
              refine zg_cVv (As := []) (st := []) X ha0 rfl (by decide) rfl (t_X11_goesOn l d L kd κ _ hI a0 ha0   ) mk_X11_227 mc_X11_goesOn mz_X11 mi_X11_goesOn ml_X11_goesOn (na := 0) ⟨md_X11.1, md_X11.2, by decide +kernel⟩ rfl ⟨by decide, by decide⟩ (Nat.le_of_ble_eq_true rfl) dX11_tellOne_274 (fun t84 hq => ?_)
              obtain ⟨hF, ht84_fact0, hI, g85⟩ := hq
              replace E := zLet_s hF E
              have ft84_12 : (t84.1 a0 12).toInt = (t79.1 a0 12).toInt := by rw [g85.2.1 12 (by decide)]
              have ft84_15 : (t84.1 a0 15).toInt = (t79.1 a0 15).toInt := by rw [g85.2.1 15 (by decide)]
              have ft84_18 : (t84.1 a0 18).toInt = (t79.1 a0 18).toInt := by rw [g85.2.1 18 (by decide)]
              have ft84_19 : (t84.1 a0 19).toInt = (t79.1 a0 19).toInt := by rw [g85.2.1 19 (by decide)]
              have ft84_32 : (t84.1 a0 32).toInt = (t79.1 a0 32).toInt := by rw [g85.2.1 32 (by decide)]
              have ft84_38 : (t84.1 a0 38).toInt = (t79.1 a0 38).toInt := by rw [g85.2.1 38 (by decide)]
              have ft84_41 : (t84.1 a0 41).toInt = (t79.1 a0 41).toInt := by rw [g85.2.1 41 (by decide)]
              have ft84_42 : (t84.1 a0 42).toInt = (t79.1 a0 42).toInt := by rw [g85.2.1 42 (by decide)]
              have hS := hS.tr g85 (by decide) (by decide)
              have ut84_5 := zp_same hI ha0 g85 5 rfl (by decide) (by decide)
              have at84_5 := ut84_5.trans at79_5
              have gNt84 := gN.same hI ha0 g85 (by decide) gNt79
              have gHt84 := gH.same hI ha0 g85 (by decide) gHt79
              have gEt84 := gE.same hI ha0 g85 (by decide) gEt79
              have gLt84 := gL.same hI ha0 g85 (by decide) gLt79
              have gPt84 := gP.same hI ha0 g85 (by decide) gPt79
              have gTrt84 := gTr.same hI ha0 g85 (by decide) gTrt79
              have gKt84 := gK.same hI ha0 g85 (by decide) gKt79
              refine zg_aload_n X 1 rfl dX11_tellOne_277 ?_
              refine zg_iload_n X 0 rfl dX11_tellOne_278 ?_
              refine zg_cVv (As := [.int v54]) (st := []) X ha0 rfl (by decide) rfl (t_X11_tellLaw l d L kd κ _ hI a0 ha0 v54  (by omega) (by omega) (by omega) (by omega) (by omega) gPt84 gLt84) mk_X11_277 mc_X11_tellLaw mz_X11 mi_X11_tellLaw ml_X11_tellLaw (na := 1) ⟨md_X11.1, md_X11.2, by decide +kernel⟩ rfl ⟨by decide, by decide⟩ (Nat.le_of_ble_eq_true rfl) dX11_tellOne_279 (fun t86 hq => ?_)
              obtain ⟨hF, ⟨ht86_fact0, ht86_fact1, gLt86⟩, hI, g87⟩ := hq
              replace E := zLet_s hF E
              have ft86_15 : (t86.1 a0 15).toInt = (t84.1 a0 15).toInt := by rw [g87.2.1 15 (by decide)]
              have ft86_18 : (t86.1 a0 18).toInt = (t84.1 a0 18).toInt := by rw [g87.2.1 18 (by decide)]
              have ft86_19 : (t86.1 a0 19).toInt = (t84.1 a0 19).toInt := by rw [g87.2.1 19 (by decide)]
              have ft86_41 : (t86.1 a0 41).toInt = (t84.1 a0 41).toInt := by rw [g87.2.1 41 (by decide)]
              have ft86_42 : (t86.1 a0 42).toInt = (t84.1 a0 42).toInt := by rw [g87.2.1 42 (by decide)]
              have hS := hS.tr g87 (by decide) (by decide)
              have ut86_5 := zp_same hI ha0 g87 5 rfl (by decide) (by decide)
              have at86_5 := ut86_5.trans at84_5
              have gNt86 := gN.same hI ha0 g87 (by decide) gNt84
              have gHt86 := gH.same hI ha0 g87 (by decide) gHt84
              have gEt86 := gE.same hI ha0 g87 (by decide) gEt84
              have gTrt86 := gTr.same hI ha0 g87 (by decide) gTrt84
              have gKt86 := gK.same hI ha0 g87 (by decide) gKt84
              have zgp := ht86_fact1
              clear ht86_fact1
              exact ret _ _ _ dX11_tellOne_282 ⟨E.symm.trans hR, ⟨⟨(by omega), (fun h0 => by first | exact True.intro | exact zgp h0), (fun h0 => by first | exact gTrt86 | exact zgt h0), gNt86, gHt86, gEt86, gLt86⟩, hI, hS⟩⟩
            · skip
              replace E := zIf_t c83 E
              exact ret _ _ _ dX11_tellOne_272 ⟨E.symm.trans hR, ⟨⟨(by omega), (fun h0 => by exfalso; omega), (fun h0 => by exfalso; omega), gNt79, gHt79, gEt79, gLt79⟩, hI, hS⟩⟩
      · skip
        replace E := zIf_f q49 E
        by_cases q88 : v3.toInt = 23
        · refine zg_tabIn X 229 23 dX11_tellOne_9 q88 (by decide) (by decide) rfl (by decide) ?_
          replace E := zIf_t q88 E
          refine zg_aload_n X 0 rfl dX11_tellOne_229 ?_
          refine fg_X11_20 X hI ha0 dX11_tellOne_230 (fun v89 ev89 hv89 => ?_)
          replace E := zLet_s (zgr ev89) E
          refine zg_aload_n X 0 rfl dX11_tellOne_233 ?_
          refine fg_X11_209 X hI ha0 dX11_tellOne_234 (fun v90 ev90 hv90 => ?_)
          replace E := zLet_s ev90 E
          have kv90 : (σ.1 a0 11).toInt = v90.toInt := by rw [ev90]
          have mv90 : v90.toInt = v2.toInt := by rw [ev90, ← ev2]
          refine ag_105 X hI hv89 (by omega) (by omega) dX11_tellOne_237 (fun v91 ev91 _ => ?_)
          replace E := zLet_s ev91 E
          have qv91 := zp_ld ev89 ev91
          rw [← kv90] at qv91
          refine zg_bipush X 22 dX11_tellOne_238 (by decide) (fun v92 _ hv92 => ?_)
          replace E := zLet_s (zcst hv92 (by decide)) E
          refine zg_isub X dX11_tellOne_240 (by omega) (by omega) (fun v93 ev93 hv93 => ?_)
          replace E := zLet_s ev93 E
          refine zg_istore_n X [(1, .int v93), (0, .ref a0)] dX11_tellOne_241 (by decide) rfl ?_
          refine zg_iload_n X 0 rfl dX11_tellOne_242 ?_
          refine zg_if_lt X 260 dX11_tellOne_243 (by decide) (fun c94 => ?_) (fun c94 => ?_)
          · skip
            replace E := zIf_t c94 E
            refine zg_aload_n X 1 rfl dX11_tellOne_260 ?_
            refine zg_iconst X 1 dX11_tellOne_261 (by decide) (fun v95 _ hv95 => ?_)
            replace E := zLet_s (zcst hv95 (by decide)) E
            refine zg_cVv (As := [.int v95]) (st := []) X ha0 rfl (by decide) rfl (t_X11_fail l d L kd κ _ hI a0 ha0 v95  (by omega)) mk_X11_221 mc_X11_fail mz_X11 mi_X11_fail ml_X11_fail (na := 1) ⟨md_X11.1, md_X11.2, by decide +kernel⟩ rfl ⟨by decide, by decide⟩ (Nat.le_of_ble_eq_true rfl) dX11_tellOne_262 (fun t96 hq => ?_)
            obtain ⟨hF, ht96_fact0, hI, g97⟩ := hq
            replace E := zLet_s hF E
            have ft96_11 : (t96.1 a0 11).toInt = (σ.1 a0 11).toInt := by rw [g97.2.1 11 (by decide)]
            have ft96_12 : (t96.1 a0 12).toInt = (σ.1 a0 12).toInt := by rw [g97.2.1 12 (by decide)]
            have ft96_15 : (t96.1 a0 15).toInt = (σ.1 a0 15).toInt := by rw [g97.2.1 15 (by decide)]
            have ft96_18 : (t96.1 a0 18).toInt = (σ.1 a0 18).toInt := by rw [g97.2.1 18 (by decide)]
            have ft96_19 : (t96.1 a0 19).toInt = (σ.1 a0 19).toInt := by rw [g97.2.1 19 (by decide)]
            have ft96_32 : (t96.1 a0 32).toInt = (σ.1 a0 32).toInt := by rw [g97.2.1 32 (by decide)]
            have ft96_38 : (t96.1 a0 38).toInt = (σ.1 a0 38).toInt := by rw [g97.2.1 38 (by decide)]
            have ft96_41 : (t96.1 a0 41).toInt = (σ.1 a0 41).toInt := by rw [g97.2.1 41 (by decide)]
            have ft96_42 : (t96.1 a0 42).toInt = (σ.1 a0 42).toInt := by rw [g97.2.1 42 (by decide)]
            have hS := hS.tr g97 (by decide) (by decide)
            have ut96_5 := zp_same hI ha0 g97 5 rfl (by decide) (by decide)
            have at96_5 := ut96_5
            have gNt96 := gN.same hI ha0 g97 (by decide) hgN
            have gHt96 := gH.same hI ha0 g97 (by decide) hgH
            have gEt96 := gE.same hI ha0 g97 (by decide) hgE
            have gLt96 := gL.same hI ha0 g97 (by decide) hgL
            have gPt96 := gP.same hI ha0 g97 (by decide) hgP
            have gTrt96 := gTr.same hI ha0 g97 (by decide) hgTr
            have gKt96 := gK.same hI ha0 g97 (by decide) hgK
            have e98 := g97.v ev90 (by decide)
            refine zg_aload_n X 1 rfl dX11_tellOne_265 ?_
            refine fg_X11_206 X hI ha0 dX11_tellOne_266 (fun v99 ev99 hv99 => ?_)
            replace E := zLet_s ev99 E
            have kv99 : (t96.1 a0 13).toInt = v99.toInt := by rw [ev99]
            refine zg_if_le X 273 dX11_tellOne_269 (by decide) (fun c100 => ?_) (fun c100 => ?_)
            · skip
              replace E := zIf_f (Int.not_lt.mpr c100) E
              refine zg_aload_n X 1 rfl dX11_tellOne_273 ?_
              refine zg_cVv (As := []) (st := []) X ha0 rfl (by decide) rfl (t_X11_goesOn l d L kd κ _ hI a0 ha0   ) mk_X11_227 mc_X11_goesOn mz_X11 mi_X11_goesOn ml_X11_goesOn (na := 0) ⟨md_X11.1, md_X11.2, by decide +kernel⟩ rfl ⟨by decide, by decide⟩ (Nat.le_of_ble_eq_true rfl) dX11_tellOne_274 (fun t101 hq => ?_)
              obtain ⟨hF, ht101_fact0, hI, g102⟩ := hq
              replace E := zLet_s hF E
              have ft101_12 : (t101.1 a0 12).toInt = (t96.1 a0 12).toInt := by rw [g102.2.1 12 (by decide)]
              have ft101_15 : (t101.1 a0 15).toInt = (t96.1 a0 15).toInt := by rw [g102.2.1 15 (by decide)]
              have ft101_18 : (t101.1 a0 18).toInt = (t96.1 a0 18).toInt := by rw [g102.2.1 18 (by decide)]
              have ft101_19 : (t101.1 a0 19).toInt = (t96.1 a0 19).toInt := by rw [g102.2.1 19 (by decide)]
              have ft101_32 : (t101.1 a0 32).toInt = (t96.1 a0 32).toInt := by rw [g102.2.1 32 (by decide)]
              have ft101_38 : (t101.1 a0 38).toInt = (t96.1 a0 38).toInt := by rw [g102.2.1 38 (by decide)]
              have ft101_41 : (t101.1 a0 41).toInt = (t96.1 a0 41).toInt := by rw [g102.2.1 41 (by decide)]
              have ft101_42 : (t101.1 a0 42).toInt = (t96.1 a0 42).toInt := by rw [g102.2.1 42 (by decide)]
              have hS := hS.tr g102 (by decide) (by decide)
              have ut101_5 := zp_same hI ha0 g102 5 rfl (by decide) (by decide)
              have at101_5 := ut101_5.trans at96_5
              have gNt101 := gN.same hI ha0 g102 (by decide) gNt96
              have gHt101 := gH.same hI ha0 g102 (by decide) gHt96
              have gEt101 := gE.same hI ha0 g102 (by decide) gEt96
              have gLt101 := gL.same hI ha0 g102 (by decide) gLt96
              have gPt101 := gP.same hI ha0 g102 (by decide) gPt96
              have gTrt101 := gTr.same hI ha0 g102 (by decide) gTrt96
              have gKt101 := gK.same hI ha0 g102 (by decide) gKt96
              refine zg_aload_n X 1 rfl dX11_tellOne_277 ?_
              refine zg_iload_n X 0 rfl dX11_tellOne_278 ?_
              refine zg_cVv (As := [.int v93]) (st := []) X ha0 rfl (by decide) rfl (t_X11_tellLaw l d L kd κ _ hI a0 ha0 v93  (by omega) (by omega) (by omega) (by omega) (by omega) gPt101 gLt101) mk_X11_277 mc_X11_tellLaw mz_X11 mi_X11_tellLaw ml_X11_tellLaw (na := 1) ⟨md_X11.1, md_X11.2, by decide +kernel⟩ rfl ⟨by decide, by decide⟩ (Nat.le_of_ble_eq_true rfl) dX11_tellOne_279 (fun t103 hq => ?_)
              obtain ⟨hF, ⟨ht103_fact0, ht103_fact1, gLt103⟩, hI, g104⟩ := hq
              replace E := zLet_s hF E
              have ft103_15 : (t103.1 a0 15).toInt = (t101.1 a0 15).toInt := by rw [g104.2.1 15 (by decide)]
              have ft103_18 : (t103.1 a0 18).toInt = (t101.1 a0 18).toInt := by rw [g104.2.1 18 (by decide)]
              have ft103_19 : (t103.1 a0 19).toInt = (t101.1 a0 19).toInt := by rw [g104.2.1 19 (by decide)]
              have ft103_41 : (t103.1 a0 41).toInt = (t101.1 a0 41).toInt := by rw [g104.2.1 41 (by decide)]
              have ft103_42 : (t103.1 a0 42).toInt = (t101.1 a0 42).toInt := by rw [g104.2.1 42 (by decide)]
              have hS := hS.tr g104 (by decide) (by decide)
              have ut103_5 := zp_same hI ha0 g104 5 rfl (by decide) (by decide)
              have at103_5 := ut103_5.trans at101_5
              have gNt103 := gN.same hI ha0 g104 (by decide) gNt101
              have gHt103 := gH.same hI ha0 g104 (by decide) gHt101
              have gEt103 := gE.same hI ha0 g104 (by decide) gEt101
              have gTrt103 := gTr.same hI ha0 g104 (by decide) gTrt101
              have gKt103 := gK.same hI ha0 g104 (by decide) gKt101
              have zgp := ht103_fact1
              clear ht103_fact1
              exact ret _ _ _ dX11_tellOne_282 ⟨E.symm.trans hR, ⟨⟨(by omega), (fun h0 => by first | exact True.intro | exact zgp h0), (fun h0 => by first | exact gTrt103 | exact zgt h0), gNt103, gHt103, gEt103, gLt103⟩, hI, hS⟩⟩
            · skip
              replace E := zIf_t c100 E
              exact ret _ _ _ dX11_tellOne_272 ⟨E.symm.trans hR, ⟨⟨(by omega), (fun h0 => by exfalso; omega), (fun h0 => by exfalso; omega), gNt96, gHt96, gEt96, gLt96⟩, hI, hS⟩⟩
          · skip
            replace E := zIf_f (Int.not_lt.mpr c94) E
            refine zg_aload_n X 1 rfl dX11_tellOne_246 ?_
            refine fg_X11_20 X hI ha0 dX11_tellOne_247 (fun v105 ev105 hv105 => ?_)
            replace E := zLet_s (zgr ev105) E
            refine zg_aload_n X 1 rfl dX11_tellOne_250 ?_
            refine fg_X11_209 X hI ha0 dX11_tellOne_251 (fun v106 ev106 hv106 => ?_)
            replace E := zLet_s ev106 E
            have kv106 : (σ.1 a0 11).toInt = v106.toInt := by rw [ev106]
            have mv106 : v106.toInt = v90.toInt := by rw [ev106, ← ev90]
            refine ag_105 X hI hv105 (by omega) (by omega) dX11_tellOne_254 (fun v107 ev107 _ => ?_)
            replace E := zLet_s ev107 E
            have qv107 := zp_ld ev105 ev107
            rw [← kv106] at qv107
            refine zg_bipush X 26 dX11_tellOne_255 (by decide) (fun v108 _ hv108 => ?_)
            replace E := zLet_s (zcst hv108 (by decide)) E
            have zv107_z109 := zb_rng v107
            refine zg_icmp_le X 265 dX11_tellOne_257 (by decide) (fun c110 => ?_) (fun c110 => ?_)
            · skip
              replace E := zIf_f (Int.not_lt.mpr c110) E
              refine zg_aload_n X 1 rfl dX11_tellOne_265 ?_
              refine fg_X11_206 X hI ha0 dX11_tellOne_266 (fun v111 ev111 hv111 => ?_)
              replace E := zLet_s ev111 E
              have kv111 : (σ.1 a0 13).toInt = v111.toInt := by rw [ev111]
              refine zg_if_le X 273 dX11_tellOne_269 (by decide) (fun c112 => ?_) (fun c112 => ?_)
              · skip
                replace E := zIf_f (Int.not_lt.mpr c112) E
                refine zg_aload_n X 1 rfl dX11_tellOne_273 ?_
                refine zg_cVv (As := []) (st := []) X ha0 rfl (by decide) rfl (t_X11_goesOn l d L kd κ _ hI a0 ha0   ) mk_X11_227 mc_X11_goesOn mz_X11 mi_X11_goesOn ml_X11_goesOn (na := 0) ⟨md_X11.1, md_X11.2, by decide +kernel⟩ rfl ⟨by decide, by decide⟩ (Nat.le_of_ble_eq_true rfl) dX11_tellOne_274 (fun t113 hq => ?_)
                obtain ⟨hF, ht113_fact0, hI, g114⟩ := hq
                replace E := zLet_s hF E
                have ft113_12 : (t113.1 a0 12).toInt = (σ.1 a0 12).toInt := by rw [g114.2.1 12 (by decide)]
                have ft113_15 : (t113.1 a0 15).toInt = (σ.1 a0 15).toInt := by rw [g114.2.1 15 (by decide)]
                have ft113_18 : (t113.1 a0 18).toInt = (σ.1 a0 18).toInt := by rw [g114.2.1 18 (by decide)]
                have ft113_19 : (t113.1 a0 19).toInt = (σ.1 a0 19).toInt := by rw [g114.2.1 19 (by decide)]
                have ft113_32 : (t113.1 a0 32).toInt = (σ.1 a0 32).toInt := by rw [g114.2.1 32 (by decide)]
                have ft113_38 : (t113.1 a0 38).toInt = (σ.1 a0 38).toInt := by rw [g114.2.1 38 (by decide)]
                have ft113_41 : (t113.1 a0 41).toInt = (σ.1 a0 41).toInt := by rw [g114.2.1 41 (by decide)]
                have ft113_42 : (t113.1 a0 42).toInt = (σ.1 a0 42).toInt := by rw [g114.2.1 42 (by decide)]
                have hS := hS.tr g114 (by decide) (by decide)
                have ut113_5 := zp_same hI ha0 g114 5 rfl (by decide) (by decide)
                have at113_5 := ut113_5
                have gNt113 := gN.same hI ha0 g114 (by decide) hgN
                have gHt113 := gH.same hI ha0 g114 (by decide) hgH
                have gEt113 := gE.same hI ha0 g114 (by decide) hgE
                have gLt113 := gL.same hI ha0 g114 (by decide) hgL
                have gPt113 := gP.same hI ha0 g114 (by decide) hgP
                have gTrt113 := gTr.same hI ha0 g114 (by decide) hgTr
                have gKt113 := gK.same hI ha0 g114 (by decide) hgK
                refine zg_aload_n X 1 rfl dX11_tellOne_277 ?_
                refine zg_iload_n X 0 rfl dX11_tellOne_278 ?_
                refine zg_cVv (As := [.int v93]) (st := []) X ha0 rfl (by decide) rfl (t_X11_tellLaw l d L kd κ _ hI a0 ha0 v93  (by omega) (by omega) (by omega) (by omega) (by omega) gPt113 gLt113) mk_X11_277 mc_X11_tellLaw mz_X11 mi_X11_tellLaw ml_X11_tellLaw (na := 1) ⟨md_X11.1, md_X11.2, by decide +kernel⟩ rfl ⟨by decide, by decide⟩ (Nat.le_of_ble_eq_true rfl) dX11_tellOne_279 (fun t115 hq => ?_)
                obtain ⟨hF, ⟨ht115_fact0, ht115_fact1, gLt115⟩, hI, g116⟩ := hq
                replace E := zLet_s hF E
                have ft115_15 : (t115.1 a0 15).toInt = (t113.1 a0 15).toInt := by rw [g116.2.1 15 (by decide)]
                have ft115_18 : (t115.1 a0 18).toInt = (t113.1 a0 18).toInt := by rw [g116.2.1 18 (by decide)]
                have ft115_19 : (t115.1 a0 19).toInt = (t113.1 a0 19).toInt := by rw [g116.2.1 19 (by decide)]
                have ft115_41 : (t115.1 a0 41).toInt = (t113.1 a0 41).toInt := by rw [g116.2.1 41 (by decide)]
                have ft115_42 : (t115.1 a0 42).toInt = (t113.1 a0 42).toInt := by rw [g116.2.1 42 (by decide)]
                have hS := hS.tr g116 (by decide) (by decide)
                have ut115_5 := zp_same hI ha0 g116 5 rfl (by decide) (by decide)
                have at115_5 := ut115_5.trans at113_5
                have gNt115 := gN.same hI ha0 g116 (by decide) gNt113
                have gHt115 := gH.same hI ha0 g116 (by decide) gHt113
                have gEt115 := gE.same hI ha0 g116 (by decide) gEt113
                have gTrt115 := gTr.same hI ha0 g116 (by decide) gTrt113
                have gKt115 := gK.same hI ha0 g116 (by decide) gKt113
                have zgp := ht115_fact1
                clear ht115_fact1
                exact ret _ _ _ dX11_tellOne_282 ⟨E.symm.trans hR, ⟨⟨(by omega), (fun h0 => by first | exact True.intro | exact zgp h0), (fun h0 => by first | exact gTrt115 | exact zgt h0), gNt115, gHt115, gEt115, gLt115⟩, hI, hS⟩⟩
              · skip
                replace E := zIf_t c112 E
                exact ret _ _ _ dX11_tellOne_272 ⟨E.symm.trans hR, ⟨⟨(by omega), (fun h0 => by exfalso; omega), (fun h0 => by exfalso; omega), hgN, hgH, hgE, hgL⟩, hI, hS⟩⟩
            · skip
              replace E := zIf_t c110 E
              refine zg_aload_n X 1 rfl dX11_tellOne_260 ?_
              refine zg_iconst X 1 dX11_tellOne_261 (by decide) (fun v117 _ hv117 => ?_)
              replace E := zLet_s (zcst hv117 (by decide)) E
              refine zg_cVv (As := [.int v117]) (st := []) X ha0 rfl (by decide) rfl (t_X11_fail l d L kd κ _ hI a0 ha0 v117  (by omega)) mk_X11_221 mc_X11_fail mz_X11 mi_X11_fail ml_X11_fail (na := 1) ⟨md_X11.1, md_X11.2, by decide +kernel⟩ rfl ⟨by decide, by decide⟩ (Nat.le_of_ble_eq_true rfl) dX11_tellOne_262 (fun t118 hq => ?_)
              obtain ⟨hF, ht118_fact0, hI, g119⟩ := hq
              replace E := zLet_s hF E
              have ft118_11 : (t118.1 a0 11).toInt = (σ.1 a0 11).toInt := by rw [g119.2.1 11 (by decide)]
              have ft118_12 : (t118.1 a0 12).toInt = (σ.1 a0 12).toInt := by rw [g119.2.1 12 (by decide)]
              have ft118_15 : (t118.1 a0 15).toInt = (σ.1 a0 15).toInt := by rw [g119.2.1 15 (by decide)]
              have ft118_18 : (t118.1 a0 18).toInt = (σ.1 a0 18).toInt := by rw [g119.2.1 18 (by decide)]
              have ft118_19 : (t118.1 a0 19).toInt = (σ.1 a0 19).toInt := by rw [g119.2.1 19 (by decide)]
              have ft118_32 : (t118.1 a0 32).toInt = (σ.1 a0 32).toInt := by rw [g119.2.1 32 (by decide)]
              have ft118_38 : (t118.1 a0 38).toInt = (σ.1 a0 38).toInt := by rw [g119.2.1 38 (by decide)]
              have ft118_41 : (t118.1 a0 41).toInt = (σ.1 a0 41).toInt := by rw [g119.2.1 41 (by decide)]
              have ft118_42 : (t118.1 a0 42).toInt = (σ.1 a0 42).toInt := by rw [g119.2.1 42 (by decide)]
              have hS := hS.tr g119 (by decide) (by decide)
              have ut118_5 := zp_same hI ha0 g119 5 rfl (by decide) (by decide)
              have at118_5 := ut118_5
              have gNt118 := gN.same hI ha0 g119 (by decide) hgN
              have gHt118 := gH.same hI ha0 g119 (by decide) hgH
              have gEt118 := gE.same hI ha0 g119 (by decide) hgE
              have gLt118 := gL.same hI ha0 g119 (by decide) hgL
              have gPt118 := gP.same hI ha0 g119 (by decide) hgP
              have gTrt118 := gTr.same hI ha0 g119 (by decide) hgTr
              have gKt118 := gK.same hI ha0 g119 (by decide) hgK
              have e120 := g119.v ev106 (by decide)
              refine zg_aload_n X 1 rfl dX11_tellOne_265 ?_
              refine fg_X11_206 X hI ha0 dX11_tellOne_266 (fun v121 ev121 hv121 => ?_)
              replace E := zLet_s ev121 E
              have kv121 : (t118.1 a0 13).toInt = v121.toInt := by rw [ev121]
              refine zg_if_le X 273 dX11_tellOne_269 (by decide) (fun c122 => ?_) (fun c122 => ?_)
              · skip
                replace E := zIf_f (Int.not_lt.mpr c122) E
                refine zg_aload_n X 1 rfl dX11_tellOne_273 ?_
                refine zg_cVv (As := []) (st := []) X ha0 rfl (by decide) rfl (t_X11_goesOn l d L kd κ _ hI a0 ha0   ) mk_X11_227 mc_X11_goesOn mz_X11 mi_X11_goesOn ml_X11_goesOn (na := 0) ⟨md_X11.1, md_X11.2, by decide +kernel⟩ rfl ⟨by decide, by decide⟩ (Nat.le_of_ble_eq_true rfl) dX11_tellOne_274 (fun t123 hq => ?_)
                obtain ⟨hF, ht123_fact0, hI, g124⟩ := hq
                replace E := zLet_s hF E
                have ft123_12 : (t123.1 a0 12).toInt = (t118.1 a0 12).toInt := by rw [g124.2.1 12 (by decide)]
                have ft123_15 : (t123.1 a0 15).toInt = (t118.1 a0 15).toInt := by rw [g124.2.1 15 (by decide)]
                have ft123_18 : (t123.1 a0 18).toInt = (t118.1 a0 18).toInt := by rw [g124.2.1 18 (by decide)]
                have ft123_19 : (t123.1 a0 19).toInt = (t118.1 a0 19).toInt := by rw [g124.2.1 19 (by decide)]
                have ft123_32 : (t123.1 a0 32).toInt = (t118.1 a0 32).toInt := by rw [g124.2.1 32 (by decide)]
                have ft123_38 : (t123.1 a0 38).toInt = (t118.1 a0 38).toInt := by rw [g124.2.1 38 (by decide)]
                have ft123_41 : (t123.1 a0 41).toInt = (t118.1 a0 41).toInt := by rw [g124.2.1 41 (by decide)]
                have ft123_42 : (t123.1 a0 42).toInt = (t118.1 a0 42).toInt := by rw [g124.2.1 42 (by decide)]
                have hS := hS.tr g124 (by decide) (by decide)
                have ut123_5 := zp_same hI ha0 g124 5 rfl (by decide) (by decide)
                have at123_5 := ut123_5.trans at118_5
                have gNt123 := gN.same hI ha0 g124 (by decide) gNt118
                have gHt123 := gH.same hI ha0 g124 (by decide) gHt118
                have gEt123 := gE.same hI ha0 g124 (by decide) gEt118
                have gLt123 := gL.same hI ha0 g124 (by decide) gLt118
                have gPt123 := gP.same hI ha0 g124 (by decide) gPt118
                have gTrt123 := gTr.same hI ha0 g124 (by decide) gTrt118
                have gKt123 := gK.same hI ha0 g124 (by decide) gKt118
                refine zg_aload_n X 1 rfl dX11_tellOne_277 ?_
                refine zg_iload_n X 0 rfl dX11_tellOne_278 ?_
                refine zg_cVv (As := [.int v93]) (st := []) X ha0 rfl (by decide) rfl (t_X11_tellLaw l d L kd κ _ hI a0 ha0 v93  (by omega) (by omega) (by omega) (by omega) (by omega) gPt123 gLt123) mk_X11_277 mc_X11_tellLaw mz_X11 mi_X11_tellLaw ml_X11_tellLaw (na := 1) ⟨md_X11.1, md_X11.2, by decide +kernel⟩ rfl ⟨by decide, by decide⟩ (Nat.le_of_ble_eq_true rfl) dX11_tellOne_279 (fun t125 hq => ?_)
                obtain ⟨hF, ⟨ht125_fact0, ht125_fact1, gLt125⟩, hI, g126⟩ := hq
                replace E := zLet_s hF E
                have ft125_15 : (t125.1 a0 15).toInt = (t123.1 a0 15).toInt := by rw [g126.2.1 15 (by decide)]
                have ft125_18 : (t125.1 a0 18).toInt = (t123.1 a0 18).toInt := by rw [g126.2.1 18 (by decide)]
                have ft125_19 : (t125.1 a0 19).toInt = (t123.1 a0 19).toInt := by rw [g126.2.1 19 (by decide)]
                have ft125_41 : (t125.1 a0 41).toInt = (t123.1 a0 41).toInt := by rw [g126.2.1 41 (by decide)]
                have ft125_42 : (t125.1 a0 42).toInt = (t123.1 a0 42).toInt := by rw [g126.2.1 42 (by decide)]
                have hS := hS.tr g126 (by decide) (by decide)
                have ut125_5 := zp_same hI ha0 g126 5 rfl (by decide) (by decide)
                have at125_5 := ut125_5.trans at123_5
                have gNt125 := gN.same hI ha0 g126 (by decide) gNt123
                have gHt125 := gH.same hI ha0 g126 (by decide) gHt123
                have gEt125 := gE.same hI ha0 g126 (by decide) gEt123
                have gTrt125 := gTr.same hI ha0 g126 (by decide) gTrt123
                have gKt125 := gK.same hI ha0 g126 (by decide) gKt123
                have zgp := ht125_fact1
                clear ht125_fact1
                exact ret _ _ _ dX11_tellOne_282 ⟨E.symm.trans hR, ⟨⟨(by omega), (fun h0 => by first | exact True.intro | exact zgp h0), (fun h0 => by first | exact gTrt125 | exact zgt h0), gNt125, gHt125, gEt125, gLt125⟩, hI, hS⟩⟩
              · skip
                replace E := zIf_t c122 E
                exact ret _ _ _ dX11_tellOne_272 ⟨E.symm.trans hR, ⟨⟨(by omega), (fun h0 => by exfalso; omega), (fun h0 => by exfalso; omega), gNt118, gHt118, gEt118, gLt118⟩, hI, hS⟩⟩
        · skip
          replace E := zIf_f q88 E
          by_cases q127 : v3.toInt = 24
          · refine zg_tabIn X 229 24 dX11_tellOne_9 q127 (by decide) (by decide) rfl (by decide) ?_
            replace E := zIf_t q127 E
            refine zg_aload_n X 0 rfl dX11_tellOne_229 ?_
            refine fg_X11_20 X hI ha0 dX11_tellOne_230 (fun v128 ev128 hv128 => ?_)
            replace E := zLet_s (zgr ev128) E
            refine zg_aload_n X 0 rfl dX11_tellOne_233 ?_
            refine fg_X11_209 X hI ha0 dX11_tellOne_234 (fun v129 ev129 hv129 => ?_)
            replace E := zLet_s ev129 E
            have kv129 : (σ.1 a0 11).toInt = v129.toInt := by rw [ev129]
            have mv129 : v129.toInt = v2.toInt := by rw [ev129, ← ev2]
            refine ag_105 X hI hv128 (by omega) (by omega) dX11_tellOne_237 (fun v130 ev130 _ => ?_)
            replace E := zLet_s ev130 E
            have qv130 := zp_ld ev128 ev130
            rw [← kv129] at qv130
            refine zg_bipush X 22 dX11_tellOne_238 (by decide) (fun v131 _ hv131 => ?_)
            replace E := zLet_s (zcst hv131 (by decide)) E
            refine zg_isub X dX11_tellOne_240 (by omega) (by omega) (fun v132 ev132 hv132 => ?_)
            replace E := zLet_s ev132 E
            refine zg_istore_n X [(1, .int v132), (0, .ref a0)] dX11_tellOne_241 (by decide) rfl ?_
            refine zg_iload_n X 0 rfl dX11_tellOne_242 ?_
            refine zg_if_lt X 260 dX11_tellOne_243 (by decide) (fun c133 => ?_) (fun c133 => ?_)
            · skip
              replace E := zIf_t c133 E
              refine zg_aload_n X 1 rfl dX11_tellOne_260 ?_
              refine zg_iconst X 1 dX11_tellOne_261 (by decide) (fun v134 _ hv134 => ?_)
              replace E := zLet_s (zcst hv134 (by decide)) E
              refine zg_cVv (As := [.int v134]) (st := []) X ha0 rfl (by decide) rfl (t_X11_fail l d L kd κ _ hI a0 ha0 v134  (by omega)) mk_X11_221 mc_X11_fail mz_X11 mi_X11_fail ml_X11_fail (na := 1) ⟨md_X11.1, md_X11.2, by decide +kernel⟩ rfl ⟨by decide, by decide⟩ (Nat.le_of_ble_eq_true rfl) dX11_tellOne_262 (fun t135 hq => ?_)
              obtain ⟨hF, ht135_fact0, hI, g136⟩ := hq
              replace E := zLet_s hF E
              have ft135_11 : (t135.1 a0 11).toInt = (σ.1 a0 11).toInt := by rw [g136.2.1 11 (by decide)]
              have ft135_12 : (t135.1 a0 12).toInt = (σ.1 a0 12).toInt := by rw [g136.2.1 12 (by decide)]
              have ft135_15 : (t135.1 a0 15).toInt = (σ.1 a0 15).toInt := by rw [g136.2.1 15 (by decide)]
              have ft135_18 : (t135.1 a0 18).toInt = (σ.1 a0 18).toInt := by rw [g136.2.1 18 (by decide)]
              have ft135_19 : (t135.1 a0 19).toInt = (σ.1 a0 19).toInt := by rw [g136.2.1 19 (by decide)]
              have ft135_32 : (t135.1 a0 32).toInt = (σ.1 a0 32).toInt := by rw [g136.2.1 32 (by decide)]
              have ft135_38 : (t135.1 a0 38).toInt = (σ.1 a0 38).toInt := by rw [g136.2.1 38 (by decide)]
              have ft135_41 : (t135.1 a0 41).toInt = (σ.1 a0 41).toInt := by rw [g136.2.1 41 (by decide)]
              have ft135_42 : (t135.1 a0 42).toInt = (σ.1 a0 42).toInt := by rw [g136.2.1 42 (by decide)]
              have hS := hS.tr g136 (by decide) (by decide)
              have ut135_5 := zp_same hI ha0 g136 5 rfl (by decide) (by decide)
              have at135_5 := ut135_5
              have gNt135 := gN.same hI ha0 g136 (by decide) hgN
              have gHt135 := gH.same hI ha0 g136 (by decide) hgH
              have gEt135 := gE.same hI ha0 g136 (by decide) hgE
              have gLt135 := gL.same hI ha0 g136 (by decide) hgL
              have gPt135 := gP.same hI ha0 g136 (by decide) hgP
              have gTrt135 := gTr.same hI ha0 g136 (by decide) hgTr
              have gKt135 := gK.same hI ha0 g136 (by decide) hgK
              have e137 := g136.v ev129 (by decide)
              refine zg_aload_n X 1 rfl dX11_tellOne_265 ?_
              refine fg_X11_206 X hI ha0 dX11_tellOne_266 (fun v138 ev138 hv138 => ?_)
              replace E := zLet_s ev138 E
              have kv138 : (t135.1 a0 13).toInt = v138.toInt := by rw [ev138]
              refine zg_if_le X 273 dX11_tellOne_269 (by decide) (fun c139 => ?_) (fun c139 => ?_)
              · skip
                replace E := zIf_f (Int.not_lt.mpr c139) E
                refine zg_aload_n X 1 rfl dX11_tellOne_273 ?_
                refine zg_cVv (As := []) (st := []) X ha0 rfl (by decide) rfl (t_X11_goesOn l d L kd κ _ hI a0 ha0   ) mk_X11_227 mc_X11_goesOn mz_X11 mi_X11_goesOn ml_X11_goesOn (na := 0) ⟨md_X11.1, md_X11.2, by decide +kernel⟩ rfl ⟨by decide, by decide⟩ (Nat.le_of_ble_eq_true rfl) dX11_tellOne_274 (fun t140 hq => ?_)
                obtain ⟨hF, ht140_fact0, hI, g141⟩ := hq
                replace E := zLet_s hF E
                have ft140_12 : (t140.1 a0 12).toInt = (t135.1 a0 12).toInt := by rw [g141.2.1 12 (by decide)]
                have ft140_15 : (t140.1 a0 15).toInt = (t135.1 a0 15).toInt := by rw [g141.2.1 15 (by decide)]
                have ft140_18 : (t140.1 a0 18).toInt = (t135.1 a0 18).toInt := by rw [g141.2.1 18 (by decide)]
                have ft140_19 : (t140.1 a0 19).toInt = (t135.1 a0 19).toInt := by rw [g141.2.1 19 (by decide)]
                have ft140_32 : (t140.1 a0 32).toInt = (t135.1 a0 32).toInt := by rw [g141.2.1 32 (by decide)]
                have ft140_38 : (t140.1 a0 38).toInt = (t135.1 a0 38).toInt := by rw [g141.2.1 38 (by decide)]
                have ft140_41 : (t140.1 a0 41).toInt = (t135.1 a0 41).toInt := by rw [g141.2.1 41 (by decide)]
                have ft140_42 : (t140.1 a0 42).toInt = (t135.1 a0 42).toInt := by rw [g141.2.1 42 (by decide)]
                have hS := hS.tr g141 (by decide) (by decide)
                have ut140_5 := zp_same hI ha0 g141 5 rfl (by decide) (by decide)
                have at140_5 := ut140_5.trans at135_5
                have gNt140 := gN.same hI ha0 g141 (by decide) gNt135
                have gHt140 := gH.same hI ha0 g141 (by decide) gHt135
                have gEt140 := gE.same hI ha0 g141 (by decide) gEt135
                have gLt140 := gL.same hI ha0 g141 (by decide) gLt135
                have gPt140 := gP.same hI ha0 g141 (by decide) gPt135
                have gTrt140 := gTr.same hI ha0 g141 (by decide) gTrt135
                have gKt140 := gK.same hI ha0 g141 (by decide) gKt135
                refine zg_aload_n X 1 rfl dX11_tellOne_277 ?_
                refine zg_iload_n X 0 rfl dX11_tellOne_278 ?_
                refine zg_cVv (As := [.int v132]) (st := []) X ha0 rfl (by decide) rfl (t_X11_tellLaw l d L kd κ _ hI a0 ha0 v132  (by omega) (by omega) (by omega) (by omega) (by omega) gPt140 gLt140) mk_X11_277 mc_X11_tellLaw mz_X11 mi_X11_tellLaw ml_X11_tellLaw (na := 1) ⟨md_X11.1, md_X11.2, by decide +kernel⟩ rfl ⟨by decide, by decide⟩ (Nat.le_of_ble_eq_true rfl) dX11_tellOne_279 (fun t142 hq => ?_)
                obtain ⟨hF, ⟨ht142_fact0, ht142_fact1, gLt142⟩, hI, g143⟩ := hq
                replace E := zLet_s hF E
                have ft142_15 : (t142.1 a0 15).toInt = (t140.1 a0 15).toInt := by rw [g143.2.1 15 (by decide)]
                have ft142_18 : (t142.1 a0 18).toInt = (t140.1 a0 18).toInt := by rw [g143.2.1 18 (by decide)]
                have ft142_19 : (t142.1 a0 19).toInt = (t140.1 a0 19).toInt := by rw [g143.2.1 19 (by decide)]
                have ft142_41 : (t142.1 a0 41).toInt = (t140.1 a0 41).toInt := by rw [g143.2.1 41 (by decide)]
                have ft142_42 : (t142.1 a0 42).toInt = (t140.1 a0 42).toInt := by rw [g143.2.1 42 (by decide)]
                have hS := hS.tr g143 (by decide) (by decide)
                have ut142_5 := zp_same hI ha0 g143 5 rfl (by decide) (by decide)
                have at142_5 := ut142_5.trans at140_5
                have gNt142 := gN.same hI ha0 g143 (by decide) gNt140
                have gHt142 := gH.same hI ha0 g143 (by decide) gHt140
                have gEt142 := gE.same hI ha0 g143 (by decide) gEt140
                have gTrt142 := gTr.same hI ha0 g143 (by decide) gTrt140
                have gKt142 := gK.same hI ha0 g143 (by decide) gKt140
                have zgp := ht142_fact1
                clear ht142_fact1
                exact ret _ _ _ dX11_tellOne_282 ⟨E.symm.trans hR, ⟨⟨(by omega), (fun h0 => by first | exact True.intro | exact zgp h0), (fun h0 => by first | exact gTrt142 | exact zgt h0), gNt142, gHt142, gEt142, gLt142⟩, hI, hS⟩⟩
              · skip
                replace E := zIf_t c139 E
                exact ret _ _ _ dX11_tellOne_272 ⟨E.symm.trans hR, ⟨⟨(by omega), (fun h0 => by exfalso; omega), (fun h0 => by exfalso; omega), gNt135, gHt135, gEt135, gLt135⟩, hI, hS⟩⟩
            · skip
              replace E := zIf_f (Int.not_lt.mpr c133) E
              refine zg_aload_n X 1 rfl dX11_tellOne_246 ?_
              refine fg_X11_20 X hI ha0 dX11_tellOne_247 (fun v144 ev144 hv144 => ?_)
              replace E := zLet_s (zgr ev144) E
              refine zg_aload_n X 1 rfl dX11_tellOne_250 ?_
              refine fg_X11_209 X hI ha0 dX11_tellOne_251 (fun v145 ev145 hv145 => ?_)
              replace E := zLet_s ev145 E
              have kv145 : (σ.1 a0 11).toInt = v145.toInt := by rw [ev145]
              have mv145 : v145.toInt = v129.toInt := by rw [ev145, ← ev129]
              refine ag_105 X hI hv144 (by omega) (by omega) dX11_tellOne_254 (fun v146 ev146 _ => ?_)
              replace E := zLet_s ev146 E
              have qv146 := zp_ld ev144 ev146
              rw [← kv145] at qv146
              refine zg_bipush X 26 dX11_tellOne_255 (by decide) (fun v147 _ hv147 => ?_)
              replace E := zLet_s (zcst hv147 (by decide)) E
              have zv146_z148 := zb_rng v146
              refine zg_icmp_le X 265 dX11_tellOne_257 (by decide) (fun c149 => ?_) (fun c149 => ?_)
              · skip
                replace E := zIf_f (Int.not_lt.mpr c149) E
                refine zg_aload_n X 1 rfl dX11_tellOne_265 ?_
                refine fg_X11_206 X hI ha0 dX11_tellOne_266 (fun v150 ev150 hv150 => ?_)
                replace E := zLet_s ev150 E
                have kv150 : (σ.1 a0 13).toInt = v150.toInt := by rw [ev150]
                refine zg_if_le X 273 dX11_tellOne_269 (by decide) (fun c151 => ?_) (fun c151 => ?_)
                · skip
                  replace E := zIf_f (Int.not_lt.mpr c151) E
                  refine zg_aload_n X 1 rfl dX11_tellOne_273 ?_
                  refine zg_cVv (As := []) (st := []) X ha0 rfl (by decide) rfl (t_X11_goesOn l d L kd κ _ hI a0 ha0   ) mk_X11_227 mc_X11_goesOn mz_X11 mi_X11_goesOn ml_X11_goesOn (na := 0) ⟨md_X11.1, md_X11.2, by decide +kernel⟩ rfl ⟨by decide, by decide⟩ (Nat.le_of_ble_eq_true rfl) dX11_tellOne_274 (fun t152 hq => ?_)
                  obtain ⟨hF, ht152_fact0, hI, g153⟩ := hq
                  replace E := zLet_s hF E
                  have ft152_12 : (t152.1 a0 12).toInt = (σ.1 a0 12).toInt := by rw [g153.2.1 12 (by decide)]
                  have ft152_15 : (t152.1 a0 15).toInt = (σ.1 a0 15).toInt := by rw [g153.2.1 15 (by decide)]
                  have ft152_18 : (t152.1 a0 18).toInt = (σ.1 a0 18).toInt := by rw [g153.2.1 18 (by decide)]
                  have ft152_19 : (t152.1 a0 19).toInt = (σ.1 a0 19).toInt := by rw [g153.2.1 19 (by decide)]
                  have ft152_32 : (t152.1 a0 32).toInt = (σ.1 a0 32).toInt := by rw [g153.2.1 32 (by decide)]
                  have ft152_38 : (t152.1 a0 38).toInt = (σ.1 a0 38).toInt := by rw [g153.2.1 38 (by decide)]
                  have ft152_41 : (t152.1 a0 41).toInt = (σ.1 a0 41).toInt := by rw [g153.2.1 41 (by decide)]
                  have ft152_42 : (t152.1 a0 42).toInt = (σ.1 a0 42).toInt := by rw [g153.2.1 42 (by decide)]
                  have hS := hS.tr g153 (by decide) (by decide)
                  have ut152_5 := zp_same hI ha0 g153 5 rfl (by decide) (by decide)
                  have at152_5 := ut152_5
                  have gNt152 := gN.same hI ha0 g153 (by decide) hgN
                  have gHt152 := gH.same hI ha0 g153 (by decide) hgH
                  have gEt152 := gE.same hI ha0 g153 (by decide) hgE
                  have gLt152 := gL.same hI ha0 g153 (by decide) hgL
                  have gPt152 := gP.same hI ha0 g153 (by decide) hgP
                  have gTrt152 := gTr.same hI ha0 g153 (by decide) hgTr
                  have gKt152 := gK.same hI ha0 g153 (by decide) hgK
                  refine zg_aload_n X 1 rfl dX11_tellOne_277 ?_
                  refine zg_iload_n X 0 rfl dX11_tellOne_278 ?_
                  refine zg_cVv (As := [.int v132]) (st := []) X ha0 rfl (by decide) rfl (t_X11_tellLaw l d L kd κ _ hI a0 ha0 v132  (by omega) (by omega) (by omega) (by omega) (by omega) gPt152 gLt152) mk_X11_277 mc_X11_tellLaw mz_X11 mi_X11_tellLaw ml_X11_tellLaw (na := 1) ⟨md_X11.1, md_X11.2, by decide +kernel⟩ rfl ⟨by decide, by decide⟩ (Nat.le_of_ble_eq_true rfl) dX11_tellOne_279 (fun t154 hq => ?_)
                  obtain ⟨hF, ⟨ht154_fact0, ht154_fact1, gLt154⟩, hI, g155⟩ := hq
                  replace E := zLet_s hF E
                  have ft154_15 : (t154.1 a0 15).toInt = (t152.1 a0 15).toInt := by rw [g155.2.1 15 (by decide)]
                  have ft154_18 : (t154.1 a0 18).toInt = (t152.1 a0 18).toInt := by rw [g155.2.1 18 (by decide)]
                  have ft154_19 : (t154.1 a0 19).toInt = (t152.1 a0 19).toInt := by rw [g155.2.1 19 (by decide)]
                  have ft154_41 : (t154.1 a0 41).toInt = (t152.1 a0 41).toInt := by rw [g155.2.1 41 (by decide)]
                  have ft154_42 : (t154.1 a0 42).toInt = (t152.1 a0 42).toInt := by rw [g155.2.1 42 (by decide)]
                  have hS := hS.tr g155 (by decide) (by decide)
                  have ut154_5 := zp_same hI ha0 g155 5 rfl (by decide) (by decide)
                  have at154_5 := ut154_5.trans at152_5
                  have gNt154 := gN.same hI ha0 g155 (by decide) gNt152
                  have gHt154 := gH.same hI ha0 g155 (by decide) gHt152
                  have gEt154 := gE.same hI ha0 g155 (by decide) gEt152
                  have gTrt154 := gTr.same hI ha0 g155 (by decide) gTrt152
                  have gKt154 := gK.same hI ha0 g155 (by decide) gKt152
                  have zgp := ht154_fact1
                  clear ht154_fact1
                  exact ret _ _ _ dX11_tellOne_282 ⟨E.symm.trans hR, ⟨⟨(by omega), (fun h0 => by first | exact True.intro | exact zgp h0), (fun h0 => by first | exact gTrt154 | exact zgt h0), gNt154, gHt154, gEt154, gLt154⟩, hI, hS⟩⟩
                · skip
                  replace E := zIf_t c151 E
                  exact ret _ _ _ dX11_tellOne_272 ⟨E.symm.trans hR, ⟨⟨(by omega), (fun h0 => by exfalso; omega), (fun h0 => by exfalso; omega), hgN, hgH, hgE, hgL⟩, hI, hS⟩⟩
              · skip
                replace E := zIf_t c149 E
                refine zg_aload_n X 1 rfl dX11_tellOne_260 ?_
                refine zg_iconst X 1 dX11_tellOne_261 (by decide) (fun v156 _ hv156 => ?_)
                replace E := zLet_s (zcst hv156 (by decide)) E
                refine zg_cVv (As := [.int v156]) (st := []) X ha0 rfl (by decide) rfl (t_X11_fail l d L kd κ _ hI a0 ha0 v156  (by omega)) mk_X11_221 mc_X11_fail mz_X11 mi_X11_fail ml_X11_fail (na := 1) ⟨md_X11.1, md_X11.2, by decide +kernel⟩ rfl ⟨by decide, by decide⟩ (Nat.le_of_ble_eq_true rfl) dX11_tellOne_262 (fun t157 hq => ?_)
                obtain ⟨hF, ht157_fact0, hI, g158⟩ := hq
                replace E := zLet_s hF E
                have ft157_11 : (t157.1 a0 11).toInt = (σ.1 a0 11).toInt := by rw [g158.2.1 11 (by decide)]
                have ft157_12 : (t157.1 a0 12).toInt = (σ.1 a0 12).toInt := by rw [g158.2.1 12 (by decide)]
                have ft157_15 : (t157.1 a0 15).toInt = (σ.1 a0 15).toInt := by rw [g158.2.1 15 (by decide)]
                have ft157_18 : (t157.1 a0 18).toInt = (σ.1 a0 18).toInt := by rw [g158.2.1 18 (by decide)]
                have ft157_19 : (t157.1 a0 19).toInt = (σ.1 a0 19).toInt := by rw [g158.2.1 19 (by decide)]
                have ft157_32 : (t157.1 a0 32).toInt = (σ.1 a0 32).toInt := by rw [g158.2.1 32 (by decide)]
                have ft157_38 : (t157.1 a0 38).toInt = (σ.1 a0 38).toInt := by rw [g158.2.1 38 (by decide)]
                have ft157_41 : (t157.1 a0 41).toInt = (σ.1 a0 41).toInt := by rw [g158.2.1 41 (by decide)]
                have ft157_42 : (t157.1 a0 42).toInt = (σ.1 a0 42).toInt := by rw [g158.2.1 42 (by decide)]
                have hS := hS.tr g158 (by decide) (by decide)
                have ut157_5 := zp_same hI ha0 g158 5 rfl (by decide) (by decide)
                have at157_5 := ut157_5
                have gNt157 := gN.same hI ha0 g158 (by decide) hgN
                have gHt157 := gH.same hI ha0 g158 (by decide) hgH
                have gEt157 := gE.same hI ha0 g158 (by decide) hgE
                have gLt157 := gL.same hI ha0 g158 (by decide) hgL
                have gPt157 := gP.same hI ha0 g158 (by decide) hgP
                have gTrt157 := gTr.same hI ha0 g158 (by decide) hgTr
                have gKt157 := gK.same hI ha0 g158 (by decide) hgK
                have e159 := g158.v ev145 (by decide)
                refine zg_aload_n X 1 rfl dX11_tellOne_265 ?_
                refine fg_X11_206 X hI ha0 dX11_tellOne_266 (fun v160 ev160 hv160 => ?_)
                replace E := zLet_s ev160 E
                have kv160 : (t157.1 a0 13).toInt = v160.toInt := by rw [ev160]
                refine zg_if_le X 273 dX11_tellOne_269 (by decide) (fun c161 => ?_) (fun c161 => ?_)
                · skip
                  replace E := zIf_f (Int.not_lt.mpr c161) E
                  refine zg_aload_n X 1 rfl dX11_tellOne_273 ?_
                  refine zg_cVv (As := []) (st := []) X ha0 rfl (by decide) rfl (t_X11_goesOn l d L kd κ _ hI a0 ha0   ) mk_X11_227 mc_X11_goesOn mz_X11 mi_X11_goesOn ml_X11_goesOn (na := 0) ⟨md_X11.1, md_X11.2, by decide +kernel⟩ rfl ⟨by decide, by decide⟩ (Nat.le_of_ble_eq_true rfl) dX11_tellOne_274 (fun t162 hq => ?_)
                  obtain ⟨hF, ht162_fact0, hI, g163⟩ := hq
                  replace E := zLet_s hF E
                  have ft162_12 : (t162.1 a0 12).toInt = (t157.1 a0 12).toInt := by rw [g163.2.1 12 (by decide)]
                  have ft162_15 : (t162.1 a0 15).toInt = (t157.1 a0 15).toInt := by rw [g163.2.1 15 (by decide)]
                  have ft162_18 : (t162.1 a0 18).toInt = (t157.1 a0 18).toInt := by rw [g163.2.1 18 (by decide)]
                  have ft162_19 : (t162.1 a0 19).toInt = (t157.1 a0 19).toInt := by rw [g163.2.1 19 (by decide)]
                  have ft162_32 : (t162.1 a0 32).toInt = (t157.1 a0 32).toInt := by rw [g163.2.1 32 (by decide)]
                  have ft162_38 : (t162.1 a0 38).toInt = (t157.1 a0 38).toInt := by rw [g163.2.1 38 (by decide)]
                  have ft162_41 : (t162.1 a0 41).toInt = (t157.1 a0 41).toInt := by rw [g163.2.1 41 (by decide)]
                  have ft162_42 : (t162.1 a0 42).toInt = (t157.1 a0 42).toInt := by rw [g163.2.1 42 (by decide)]
                  have hS := hS.tr g163 (by decide) (by decide)
                  have ut162_5 := zp_same hI ha0 g163 5 rfl (by decide) (by decide)
                  have at162_5 := ut162_5.trans at157_5
                  have gNt162 := gN.same hI ha0 g163 (by decide) gNt157
                  have gHt162 := gH.same hI ha0 g163 (by decide) gHt157
                  have gEt162 := gE.same hI ha0 g163 (by decide) gEt157
                  have gLt162 := gL.same hI ha0 g163 (by decide) gLt157
                  have gPt162 := gP.same hI ha0 g163 (by decide) gPt157
                  have gTrt162 := gTr.same hI ha0 g163 (by decide) gTrt157
                  have gKt162 := gK.same hI ha0 g163 (by decide) gKt157
                  refine zg_aload_n X 1 rfl dX11_tellOne_277 ?_
                  refine zg_iload_n X 0 rfl dX11_tellOne_278 ?_
                  refine zg_cVv (As := [.int v132]) (st := []) X ha0 rfl (by decide) rfl (t_X11_tellLaw l d L kd κ _ hI a0 ha0 v132  (by omega) (by omega) (by omega) (by omega) (by omega) gPt162 gLt162) mk_X11_277 mc_X11_tellLaw mz_X11 mi_X11_tellLaw ml_X11_tellLaw (na := 1) ⟨md_X11.1, md_X11.2, by decide +kernel⟩ rfl ⟨by decide, by decide⟩ (Nat.le_of_ble_eq_true rfl) dX11_tellOne_279 (fun t164 hq => ?_)
                  obtain ⟨hF, ⟨ht164_fact0, ht164_fact1, gLt164⟩, hI, g165⟩ := hq
                  replace E := zLet_s hF E
                  have ft164_15 : (t164.1 a0 15).toInt = (t162.1 a0 15).toInt := by rw [g165.2.1 15 (by decide)]
                  have ft164_18 : (t164.1 a0 18).toInt = (t162.1 a0 18).toInt := by rw [g165.2.1 18 (by decide)]
                  have ft164_19 : (t164.1 a0 19).toInt = (t162.1 a0 19).toInt := by rw [g165.2.1 19 (by decide)]
                  have ft164_41 : (t164.1 a0 41).toInt = (t162.1 a0 41).toInt := by rw [g165.2.1 41 (by decide)]
                  have ft164_42 : (t164.1 a0 42).toInt = (t162.1 a0 42).toInt := by rw [g165.2.1 42 (by decide)]
                  have hS := hS.tr g165 (by decide) (by decide)
                  have ut164_5 := zp_same hI ha0 g165 5 rfl (by decide) (by decide)
                  have at164_5 := ut164_5.trans at162_5
                  have gNt164 := gN.same hI ha0 g165 (by decide) gNt162
                  have gHt164 := gH.same hI ha0 g165 (by decide) gHt162
                  have gEt164 := gE.same hI ha0 g165 (by decide) gEt162
                  have gTrt164 := gTr.same hI ha0 g165 (by decide) gTrt162
                  have gKt164 := gK.same hI ha0 g165 (by decide) gKt162
                  have zgp := ht164_fact1
                  clear ht164_fact1
                  exact ret _ _ _ dX11_tellOne_282 ⟨E.symm.trans hR, ⟨⟨(by omega), (fun h0 => by first | exact True.intro | exact zgp h0), (fun h0 => by first | exact gTrt164 | exact zgt h0), gNt164, gHt164, gEt164, gLt164⟩, hI, hS⟩⟩
                · skip
                  replace E := zIf_t c161 E
                  exact ret _ _ _ dX11_tellOne_272 ⟨E.symm.trans hR, ⟨⟨(by omega), (fun h0 => by exfalso; omega), (fun h0 => by exfalso; omega), gNt157, gHt157, gEt157, gLt157⟩, hI, hS⟩⟩
          · skip
            replace E := zIf_f q127 E
            by_cases q166 : v3.toInt = 25
            · refine zg_tabIn X 229 25 dX11_tellOne_9 q166 (by decide) (by decide) rfl (by decide) ?_
              replace E := zIf_t q166 E
              refine zg_aload_n X 0 rfl dX11_tellOne_229 ?_
              refine fg_X11_20 X hI ha0 dX11_tellOne_230 (fun v167 ev167 hv167 => ?_)
              replace E := zLet_s (zgr ev167) E
              refine zg_aload_n X 0 rfl dX11_tellOne_233 ?_
              refine fg_X11_209 X hI ha0 dX11_tellOne_234 (fun v168 ev168 hv168 => ?_)
              replace E := zLet_s ev168 E
              have kv168 : (σ.1 a0 11).toInt = v168.toInt := by rw [ev168]
              have mv168 : v168.toInt = v2.toInt := by rw [ev168, ← ev2]
              refine ag_105 X hI hv167 (by omega) (by omega) dX11_tellOne_237 (fun v169 ev169 _ => ?_)
              replace E := zLet_s ev169 E
              have qv169 := zp_ld ev167 ev169
              rw [← kv168] at qv169
              refine zg_bipush X 22 dX11_tellOne_238 (by decide) (fun v170 _ hv170 => ?_)
              replace E := zLet_s (zcst hv170 (by decide)) E
              refine zg_isub X dX11_tellOne_240 (by omega) (by omega) (fun v171 ev171 hv171 => ?_)
              replace E := zLet_s ev171 E
              refine zg_istore_n X [(1, .int v171), (0, .ref a0)] dX11_tellOne_241 (by decide) rfl ?_
              refine zg_iload_n X 0 rfl dX11_tellOne_242 ?_
              refine zg_if_lt X 260 dX11_tellOne_243 (by decide) (fun c172 => ?_) (fun c172 => ?_)
              · skip
                replace E := zIf_t c172 E
                refine zg_aload_n X 1 rfl dX11_tellOne_260 ?_
                refine zg_iconst X 1 dX11_tellOne_261 (by decide) (fun v173 _ hv173 => ?_)
                replace E := zLet_s (zcst hv173 (by decide)) E
                refine zg_cVv (As := [.int v173]) (st := []) X ha0 rfl (by decide) rfl (t_X11_fail l d L kd κ _ hI a0 ha0 v173  (by omega)) mk_X11_221 mc_X11_fail mz_X11 mi_X11_fail ml_X11_fail (na := 1) ⟨md_X11.1, md_X11.2, by decide +kernel⟩ rfl ⟨by decide, by decide⟩ (Nat.le_of_ble_eq_true rfl) dX11_tellOne_262 (fun t174 hq => ?_)
                obtain ⟨hF, ht174_fact0, hI, g175⟩ := hq
                replace E := zLet_s hF E
                have ft174_11 : (t174.1 a0 11).toInt = (σ.1 a0 11).toInt := by rw [g175.2.1 11 (by decide)]
                have ft174_12 : (t174.1 a0 12).toInt = (σ.1 a0 12).toInt := by rw [g175.2.1 12 (by decide)]
                have ft174_15 : (t174.1 a0 15).toInt = (σ.1 a0 15).toInt := by rw [g175.2.1 15 (by decide)]
                have ft174_18 : (t174.1 a0 18).toInt = (σ.1 a0 18).toInt := by rw [g175.2.1 18 (by decide)]
                have ft174_19 : (t174.1 a0 19).toInt = (σ.1 a0 19).toInt := by rw [g175.2.1 19 (by decide)]
                have ft174_32 : (t174.1 a0 32).toInt = (σ.1 a0 32).toInt := by rw [g175.2.1 32 (by decide)]
                have ft174_38 : (t174.1 a0 38).toInt = (σ.1 a0 38).toInt := by rw [g175.2.1 38 (by decide)]
                have ft174_41 : (t174.1 a0 41).toInt = (σ.1 a0 41).toInt := by rw [g175.2.1 41 (by decide)]
                have ft174_42 : (t174.1 a0 42).toInt = (σ.1 a0 42).toInt := by rw [g175.2.1 42 (by decide)]
                have hS := hS.tr g175 (by decide) (by decide)
                have ut174_5 := zp_same hI ha0 g175 5 rfl (by decide) (by decide)
                have at174_5 := ut174_5
                have gNt174 := gN.same hI ha0 g175 (by decide) hgN
                have gHt174 := gH.same hI ha0 g175 (by decide) hgH
                have gEt174 := gE.same hI ha0 g175 (by decide) hgE
                have gLt174 := gL.same hI ha0 g175 (by decide) hgL
                have gPt174 := gP.same hI ha0 g175 (by decide) hgP
                have gTrt174 := gTr.same hI ha0 g175 (by decide) hgTr
                have gKt174 := gK.same hI ha0 g175 (by decide) hgK
                have e176 := g175.v ev168 (by decide)
                refine zg_aload_n X 1 rfl dX11_tellOne_265 ?_
                refine fg_X11_206 X hI ha0 dX11_tellOne_266 (fun v177 ev177 hv177 => ?_)
                replace E := zLet_s ev177 E
                have kv177 : (t174.1 a0 13).toInt = v177.toInt := by rw [ev177]
                refine zg_if_le X 273 dX11_tellOne_269 (by decide) (fun c178 => ?_) (fun c178 => ?_)
                · skip
                  replace E := zIf_f (Int.not_lt.mpr c178) E
                  refine zg_aload_n X 1 rfl dX11_tellOne_273 ?_
                  refine zg_cVv (As := []) (st := []) X ha0 rfl (by decide) rfl (t_X11_goesOn l d L kd κ _ hI a0 ha0   ) mk_X11_227 mc_X11_goesOn mz_X11 mi_X11_goesOn ml_X11_goesOn (na := 0) ⟨md_X11.1, md_X11.2, by decide +kernel⟩ rfl ⟨by decide, by decide⟩ (Nat.le_of_ble_eq_true rfl) dX11_tellOne_274 (fun t179 hq => ?_)
                  obtain ⟨hF, ht179_fact0, hI, g180⟩ := hq
                  replace E := zLet_s hF E
                  have ft179_12 : (t179.1 a0 12).toInt = (t174.1 a0 12).toInt := by rw [g180.2.1 12 (by decide)]
                  have ft179_15 : (t179.1 a0 15).toInt = (t174.1 a0 15).toInt := by rw [g180.2.1 15 (by decide)]
                  have ft179_18 : (t179.1 a0 18).toInt = (t174.1 a0 18).toInt := by rw [g180.2.1 18 (by decide)]
                  have ft179_19 : (t179.1 a0 19).toInt = (t174.1 a0 19).toInt := by rw [g180.2.1 19 (by decide)]
                  have ft179_32 : (t179.1 a0 32).toInt = (t174.1 a0 32).toInt := by rw [g180.2.1 32 (by decide)]
                  have ft179_38 : (t179.1 a0 38).toInt = (t174.1 a0 38).toInt := by rw [g180.2.1 38 (by decide)]
                  have ft179_41 : (t179.1 a0 41).toInt = (t174.1 a0 41).toInt := by rw [g180.2.1 41 (by decide)]
                  have ft179_42 : (t179.1 a0 42).toInt = (t174.1 a0 42).toInt := by rw [g180.2.1 42 (by decide)]
                  have hS := hS.tr g180 (by decide) (by decide)
                  have ut179_5 := zp_same hI ha0 g180 5 rfl (by decide) (by decide)
                  have at179_5 := ut179_5.trans at174_5
                  have gNt179 := gN.same hI ha0 g180 (by decide) gNt174
                  have gHt179 := gH.same hI ha0 g180 (by decide) gHt174
                  have gEt179 := gE.same hI ha0 g180 (by decide) gEt174
                  have gLt179 := gL.same hI ha0 g180 (by decide) gLt174
                  have gPt179 := gP.same hI ha0 g180 (by decide) gPt174
                  have gTrt179 := gTr.same hI ha0 g180 (by decide) gTrt174
                  have gKt179 := gK.same hI ha0 g180 (by decide) gKt174
                  refine zg_aload_n X 1 rfl dX11_tellOne_277 ?_
                  refine zg_iload_n X 0 rfl dX11_tellOne_278 ?_
                  refine zg_cVv (As := [.int v171]) (st := []) X ha0 rfl (by decide) rfl (t_X11_tellLaw l d L kd κ _ hI a0 ha0 v171  (by omega) (by omega) (by omega) (by omega) (by omega) gPt179 gLt179) mk_X11_277 mc_X11_tellLaw mz_X11 mi_X11_tellLaw ml_X11_tellLaw (na := 1) ⟨md_X11.1, md_X11.2, by decide +kernel⟩ rfl ⟨by decide, by decide⟩ (Nat.le_of_ble_eq_true rfl) dX11_tellOne_279 (fun t181 hq => ?_)
                  obtain ⟨hF, ⟨ht181_fact0, ht181_fact1, gLt181⟩, hI, g182⟩ := hq
                  replace E := zLet_s hF E
                  have ft181_15 : (t181.1 a0 15).toInt = (t179.1 a0 15).toInt := by rw [g182.2.1 15 (by decide)]
                  have ft181_18 : (t181.1 a0 18).toInt = (t179.1 a0 18).toInt := by rw [g182.2.1 18 (by decide)]
                  have ft181_19 : (t181.1 a0 19).toInt = (t179.1 a0 19).toInt := by rw [g182.2.1 19 (by decide)]
                  have ft181_41 : (t181.1 a0 41).toInt = (t179.1 a0 41).toInt := by rw [g182.2.1 41 (by decide)]
                  have ft181_42 : (t181.1 a0 42).toInt = (t179.1 a0 42).toInt := by rw [g182.2.1 42 (by decide)]
                  have hS := hS.tr g182 (by decide) (by decide)
                  have ut181_5 := zp_same hI ha0 g182 5 rfl (by decide) (by decide)
                  have at181_5 := ut181_5.trans at179_5
                  have gNt181 := gN.same hI ha0 g182 (by decide) gNt179
                  have gHt181 := gH.same hI ha0 g182 (by decide) gHt179
                  have gEt181 := gE.same hI ha0 g182 (by decide) gEt179
                  have gTrt181 := gTr.same hI ha0 g182 (by decide) gTrt179
                  have gKt181 := gK.same hI ha0 g182 (by decide) gKt179
                  have zgp := ht181_fact1
                  clear ht181_fact1
                  exact ret _ _ _ dX11_tellOne_282 ⟨E.symm.trans hR, ⟨⟨(by omega), (fun h0 => by first | exact True.intro | exact zgp h0), (fun h0 => by first | exact gTrt181 | exact zgt h0), gNt181, gHt181, gEt181, gLt181⟩, hI, hS⟩⟩
                · skip
                  replace E := zIf_t c178 E
                  exact ret _ _ _ dX11_tellOne_272 ⟨E.symm.trans hR, ⟨⟨(by omega), (fun h0 => by exfalso; omega), (fun h0 => by exfalso; omega), gNt174, gHt174, gEt174, gLt174⟩, hI, hS⟩⟩
              · skip
                replace E := zIf_f (Int.not_lt.mpr c172) E
                refine zg_aload_n X 1 rfl dX11_tellOne_246 ?_
                refine fg_X11_20 X hI ha0 dX11_tellOne_247 (fun v183 ev183 hv183 => ?_)
                replace E := zLet_s (zgr ev183) E
                refine zg_aload_n X 1 rfl dX11_tellOne_250 ?_
                refine fg_X11_209 X hI ha0 dX11_tellOne_251 (fun v184 ev184 hv184 => ?_)
                replace E := zLet_s ev184 E
                have kv184 : (σ.1 a0 11).toInt = v184.toInt := by rw [ev184]
                have mv184 : v184.toInt = v168.toInt := by rw [ev184, ← ev168]
                refine ag_105 X hI hv183 (by omega) (by omega) dX11_tellOne_254 (fun v185 ev185 _ => ?_)
                replace E := zLet_s ev185 E
                have qv185 := zp_ld ev183 ev185
                rw [← kv184] at qv185
                refine zg_bipush X 26 dX11_tellOne_255 (by decide) (fun v186 _ hv186 => ?_)
                replace E := zLet_s (zcst hv186 (by decide)) E
                have zv185_z187 := zb_rng v185
                refine zg_icmp_le X 265 dX11_tellOne_257 (by decide) (fun c188 => ?_) (fun c188 => ?_)
                · skip
                  replace E := zIf_f (Int.not_lt.mpr c188) E
                  refine zg_aload_n X 1 rfl dX11_tellOne_265 ?_
                  refine fg_X11_206 X hI ha0 dX11_tellOne_266 (fun v189 ev189 hv189 => ?_)
                  replace E := zLet_s ev189 E
                  have kv189 : (σ.1 a0 13).toInt = v189.toInt := by rw [ev189]
                  refine zg_if_le X 273 dX11_tellOne_269 (by decide) (fun c190 => ?_) (fun c190 => ?_)
                  · skip
                    replace E := zIf_f (Int.not_lt.mpr c190) E
                    refine zg_aload_n X 1 rfl dX11_tellOne_273 ?_
                    refine zg_cVv (As := []) (st := []) X ha0 rfl (by decide) rfl (t_X11_goesOn l d L kd κ _ hI a0 ha0   ) mk_X11_227 mc_X11_goesOn mz_X11 mi_X11_goesOn ml_X11_goesOn (na := 0) ⟨md_X11.1, md_X11.2, by decide +kernel⟩ rfl ⟨by decide, by decide⟩ (Nat.le_of_ble_eq_true rfl) dX11_tellOne_274 (fun t191 hq => ?_)
                    obtain ⟨hF, ht191_fact0, hI, g192⟩ := hq
                    replace E := zLet_s hF E
                    have ft191_12 : (t191.1 a0 12).toInt = (σ.1 a0 12).toInt := by rw [g192.2.1 12 (by decide)]
                    have ft191_15 : (t191.1 a0 15).toInt = (σ.1 a0 15).toInt := by rw [g192.2.1 15 (by decide)]
                    have ft191_18 : (t191.1 a0 18).toInt = (σ.1 a0 18).toInt := by rw [g192.2.1 18 (by decide)]
                    have ft191_19 : (t191.1 a0 19).toInt = (σ.1 a0 19).toInt := by rw [g192.2.1 19 (by decide)]
                    have ft191_32 : (t191.1 a0 32).toInt = (σ.1 a0 32).toInt := by rw [g192.2.1 32 (by decide)]
                    have ft191_38 : (t191.1 a0 38).toInt = (σ.1 a0 38).toInt := by rw [g192.2.1 38 (by decide)]
                    have ft191_41 : (t191.1 a0 41).toInt = (σ.1 a0 41).toInt := by rw [g192.2.1 41 (by decide)]
                    have ft191_42 : (t191.1 a0 42).toInt = (σ.1 a0 42).toInt := by rw [g192.2.1 42 (by decide)]
                    have hS := hS.tr g192 (by decide) (by decide)
                    have ut191_5 := zp_same hI ha0 g192 5 rfl (by decide) (by decide)
                    have at191_5 := ut191_5
                    have gNt191 := gN.same hI ha0 g192 (by decide) hgN
                    have gHt191 := gH.same hI ha0 g192 (by decide) hgH
                    have gEt191 := gE.same hI ha0 g192 (by decide) hgE
                    have gLt191 := gL.same hI ha0 g192 (by decide) hgL
                    have gPt191 := gP.same hI ha0 g192 (by decide) hgP
                    have gTrt191 := gTr.same hI ha0 g192 (by decide) hgTr
                    have gKt191 := gK.same hI ha0 g192 (by decide) hgK
                    refine zg_aload_n X 1 rfl dX11_tellOne_277 ?_
                    refine zg_iload_n X 0 rfl dX11_tellOne_278 ?_
                    refine zg_cVv (As := [.int v171]) (st := []) X ha0 rfl (by decide) rfl (t_X11_tellLaw l d L kd κ _ hI a0 ha0 v171  (by omega) (by omega) (by omega) (by omega) (by omega) gPt191 gLt191) mk_X11_277 mc_X11_tellLaw mz_X11 mi_X11_tellLaw ml_X11_tellLaw (na := 1) ⟨md_X11.1, md_X11.2, by decide +kernel⟩ rfl ⟨by decide, by decide⟩ (Nat.le_of_ble_eq_true rfl) dX11_tellOne_279 (fun t193 hq => ?_)
                    obtain ⟨hF, ⟨ht193_fact0, ht193_fact1, gLt193⟩, hI, g194⟩ := hq
                    replace E := zLet_s hF E
                    have ft193_15 : (t193.1 a0 15).toInt = (t191.1 a0 15).toInt := by rw [g194.2.1 15 (by decide)]
                    have ft193_18 : (t193.1 a0 18).toInt = (t191.1 a0 18).toInt := by rw [g194.2.1 18 (by decide)]
                    have ft193_19 : (t193.1 a0 19).toInt = (t191.1 a0 19).toInt := by rw [g194.2.1 19 (by decide)]
                    have ft193_41 : (t193.1 a0 41).toInt = (t191.1 a0 41).toInt := by rw [g194.2.1 41 (by decide)]
                    have ft193_42 : (t193.1 a0 42).toInt = (t191.1 a0 42).toInt := by rw [g194.2.1 42 (by decide)]
                    have hS := hS.tr g194 (by decide) (by decide)
                    have ut193_5 := zp_same hI ha0 g194 5 rfl (by decide) (by decide)
                    have at193_5 := ut193_5.trans at191_5
                    have gNt193 := gN.same hI ha0 g194 (by decide) gNt191
                    have gHt193 := gH.same hI ha0 g194 (by decide) gHt191
                    have gEt193 := gE.same hI ha0 g194 (by decide) gEt191
                    have gTrt193 := gTr.same hI ha0 g194 (by decide) gTrt191
                    have gKt193 := gK.same hI ha0 g194 (by decide) gKt191
                    have zgp := ht193_fact1
                    clear ht193_fact1
                    exact ret _ _ _ dX11_tellOne_282 ⟨E.symm.trans hR, ⟨⟨(by omega), (fun h0 => by first | exact True.intro | exact zgp h0), (fun h0 => by first | exact gTrt193 | exact zgt h0), gNt193, gHt193, gEt193, gLt193⟩, hI, hS⟩⟩
                  · skip
                    replace E := zIf_t c190 E
                    exact ret _ _ _ dX11_tellOne_272 ⟨E.symm.trans hR, ⟨⟨(by omega), (fun h0 => by exfalso; omega), (fun h0 => by exfalso; omega), hgN, hgH, hgE, hgL⟩, hI, hS⟩⟩
                · skip
                  replace E := zIf_t c188 E
                  refine zg_aload_n X 1 rfl dX11_tellOne_260 ?_
                  refine zg_iconst X 1 dX11_tellOne_261 (by decide) (fun v195 _ hv195 => ?_)
                  replace E := zLet_s (zcst hv195 (by decide)) E
                  refine zg_cVv (As := [.int v195]) (st := []) X ha0 rfl (by decide) rfl (t_X11_fail l d L kd κ _ hI a0 ha0 v195  (by omega)) mk_X11_221 mc_X11_fail mz_X11 mi_X11_fail ml_X11_fail (na := 1) ⟨md_X11.1, md_X11.2, by decide +kernel⟩ rfl ⟨by decide, by decide⟩ (Nat.le_of_ble_eq_true rfl) dX11_tellOne_262 (fun t196 hq => ?_)
                  obtain ⟨hF, ht196_fact0, hI, g197⟩ := hq
                  replace E := zLet_s hF E
                  have ft196_11 : (t196.1 a0 11).toInt = (σ.1 a0 11).toInt := by rw [g197.2.1 11 (by decide)]
                  have ft196_12 : (t196.1 a0 12).toInt = (σ.1 a0 12).toInt := by rw [g197.2.1 12 (by decide)]
                  have ft196_15 : (t196.1 a0 15).toInt = (σ.1 a0 15).toInt := by rw [g197.2.1 15 (by decide)]
                  have ft196_18 : (t196.1 a0 18).toInt = (σ.1 a0 18).toInt := by rw [g197.2.1 18 (by decide)]
                  have ft196_19 : (t196.1 a0 19).toInt = (σ.1 a0 19).toInt := by rw [g197.2.1 19 (by decide)]
                  have ft196_32 : (t196.1 a0 32).toInt = (σ.1 a0 32).toInt := by rw [g197.2.1 32 (by decide)]
                  have ft196_38 : (t196.1 a0 38).toInt = (σ.1 a0 38).toInt := by rw [g197.2.1 38 (by decide)]
                  have ft196_41 : (t196.1 a0 41).toInt = (σ.1 a0 41).toInt := by rw [g197.2.1 41 (by decide)]
                  have ft196_42 : (t196.1 a0 42).toInt = (σ.1 a0 42).toInt := by rw [g197.2.1 42 (by decide)]
                  have hS := hS.tr g197 (by decide) (by decide)
                  have ut196_5 := zp_same hI ha0 g197 5 rfl (by decide) (by decide)
                  have at196_5 := ut196_5
                  have gNt196 := gN.same hI ha0 g197 (by decide) hgN
                  have gHt196 := gH.same hI ha0 g197 (by decide) hgH
                  have gEt196 := gE.same hI ha0 g197 (by decide) hgE
                  have gLt196 := gL.same hI ha0 g197 (by decide) hgL
                  have gPt196 := gP.same hI ha0 g197 (by decide) hgP
                  have gTrt196 := gTr.same hI ha0 g197 (by decide) hgTr
                  have gKt196 := gK.same hI ha0 g197 (by decide) hgK
                  have e198 := g197.v ev184 (by decide)
                  refine zg_aload_n X 1 rfl dX11_tellOne_265 ?_
                  refine fg_X11_206 X hI ha0 dX11_tellOne_266 (fun v199 ev199 hv199 => ?_)
                  replace E := zLet_s ev199 E
                  have kv199 : (t196.1 a0 13).toInt = v199.toInt := by rw [ev199]
                  refine zg_if_le X 273 dX11_tellOne_269 (by decide) (fun c200 => ?_) (fun c200 => ?_)
                  · skip
                    replace E := zIf_f (Int.not_lt.mpr c200) E
                    refine zg_aload_n X 1 rfl dX11_tellOne_273 ?_
                    refine zg_cVv (As := []) (st := []) X ha0 rfl (by decide) rfl (t_X11_goesOn l d L kd κ _ hI a0 ha0   ) mk_X11_227 mc_X11_goesOn mz_X11 mi_X11_goesOn ml_X11_goesOn (na := 0) ⟨md_X11.1, md_X11.2, by decide +kernel⟩ rfl ⟨by decide, by decide⟩ (Nat.le_of_ble_eq_true rfl) dX11_tellOne_274 (fun t201 hq => ?_)
                    obtain ⟨hF, ht201_fact0, hI, g202⟩ := hq
                    replace E := zLet_s hF E
                    have ft201_12 : (t201.1 a0 12).toInt = (t196.1 a0 12).toInt := by rw [g202.2.1 12 (by decide)]
                    have ft201_15 : (t201.1 a0 15).toInt = (t196.1 a0 15).toInt := by rw [g202.2.1 15 (by decide)]
                    have ft201_18 : (t201.1 a0 18).toInt = (t196.1 a0 18).toInt := by rw [g202.2.1 18 (by decide)]
                    have ft201_19 : (t201.1 a0 19).toInt = (t196.1 a0 19).toInt := by rw [g202.2.1 19 (by decide)]
                    have ft201_32 : (t201.1 a0 32).toInt = (t196.1 a0 32).toInt := by rw [g202.2.1 32 (by decide)]
                    have ft201_38 : (t201.1 a0 38).toInt = (t196.1 a0 38).toInt := by rw [g202.2.1 38 (by decide)]
                    have ft201_41 : (t201.1 a0 41).toInt = (t196.1 a0 41).toInt := by rw [g202.2.1 41 (by decide)]
                    have ft201_42 : (t201.1 a0 42).toInt = (t196.1 a0 42).toInt := by rw [g202.2.1 42 (by decide)]
                    have hS := hS.tr g202 (by decide) (by decide)
                    have ut201_5 := zp_same hI ha0 g202 5 rfl (by decide) (by decide)
                    have at201_5 := ut201_5.trans at196_5
                    have gNt201 := gN.same hI ha0 g202 (by decide) gNt196
                    have gHt201 := gH.same hI ha0 g202 (by decide) gHt196
                    have gEt201 := gE.same hI ha0 g202 (by decide) gEt196
                    have gLt201 := gL.same hI ha0 g202 (by decide) gLt196
                    have gPt201 := gP.same hI ha0 g202 (by decide) gPt196
                    have gTrt201 := gTr.same hI ha0 g202 (by decide) gTrt196
                    have gKt201 := gK.same hI ha0 g202 (by decide) gKt196
                    refine zg_aload_n X 1 rfl dX11_tellOne_277 ?_
                    refine zg_iload_n X 0 rfl dX11_tellOne_278 ?_
                    refine zg_cVv (As := [.int v171]) (st := []) X ha0 rfl (by decide) rfl (t_X11_tellLaw l d L kd κ _ hI a0 ha0 v171  (by omega) (by omega) (by omega) (by omega) (by omega) gPt201 gLt201) mk_X11_277 mc_X11_tellLaw mz_X11 mi_X11_tellLaw ml_X11_tellLaw (na := 1) ⟨md_X11.1, md_X11.2, by decide +kernel⟩ rfl ⟨by decide, by decide⟩ (Nat.le_of_ble_eq_true rfl) dX11_tellOne_279 (fun t203 hq => ?_)
                    obtain ⟨hF, ⟨ht203_fact0, ht203_fact1, gLt203⟩, hI, g204⟩ := hq
                    replace E := zLet_s hF E
                    have ft203_15 : (t203.1 a0 15).toInt = (t201.1 a0 15).toInt := by rw [g204.2.1 15 (by decide)]
                    have ft203_18 : (t203.1 a0 18).toInt = (t201.1 a0 18).toInt := by rw [g204.2.1 18 (by decide)]
                    have ft203_19 : (t203.1 a0 19).toInt = (t201.1 a0 19).toInt := by rw [g204.2.1 19 (by decide)]
                    have ft203_41 : (t203.1 a0 41).toInt = (t201.1 a0 41).toInt := by rw [g204.2.1 41 (by decide)]
                    have ft203_42 : (t203.1 a0 42).toInt = (t201.1 a0 42).toInt := by rw [g204.2.1 42 (by decide)]
                    have hS := hS.tr g204 (by decide) (by decide)
                    have ut203_5 := zp_same hI ha0 g204 5 rfl (by decide) (by decide)
                    have at203_5 := ut203_5.trans at201_5
                    have gNt203 := gN.same hI ha0 g204 (by decide) gNt201
                    have gHt203 := gH.same hI ha0 g204 (by decide) gHt201
                    have gEt203 := gE.same hI ha0 g204 (by decide) gEt201
                    have gTrt203 := gTr.same hI ha0 g204 (by decide) gTrt201
                    have gKt203 := gK.same hI ha0 g204 (by decide) gKt201
                    have zgp := ht203_fact1
                    clear ht203_fact1
                    exact ret _ _ _ dX11_tellOne_282 ⟨E.symm.trans hR, ⟨⟨(by omega), (fun h0 => by first | exact True.intro | exact zgp h0), (fun h0 => by first | exact gTrt203 | exact zgt h0), gNt203, gHt203, gEt203, gLt203⟩, hI, hS⟩⟩
                  · skip
                    replace E := zIf_t c200 E
                    exact ret _ _ _ dX11_tellOne_272 ⟨E.symm.trans hR, ⟨⟨(by omega), (fun h0 => by exfalso; omega), (fun h0 => by exfalso; omega), gNt196, gHt196, gEt196, gLt196⟩, hI, hS⟩⟩
            · skip
              replace E := zIf_f q166 E
              by_cases q205 : v3.toInt = 26
              · refine zg_tabIn X 229 26 dX11_tellOne_9 q205 (by decide) (by decide) rfl (by decide) ?_
                replace E := zIf_t q205 E
                refine zg_aload_n X 0 rfl dX11_tellOne_229 ?_
                refine fg_X11_20 X hI ha0 dX11_tellOne_230 (fun v206 ev206 hv206 => ?_)
                replace E := zLet_s (zgr ev206) E
                refine zg_aload_n X 0 rfl dX11_tellOne_233 ?_
                refine fg_X11_209 X hI ha0 dX11_tellOne_234 (fun v207 ev207 hv207 => ?_)
                replace E := zLet_s ev207 E
                have kv207 : (σ.1 a0 11).toInt = v207.toInt := by rw [ev207]
                have mv207 : v207.toInt = v2.toInt := by rw [ev207, ← ev2]
                refine ag_105 X hI hv206 (by omega) (by omega) dX11_tellOne_237 (fun v208 ev208 _ => ?_)
                replace E := zLet_s ev208 E
                have qv208 := zp_ld ev206 ev208
                rw [← kv207] at qv208
                refine zg_bipush X 22 dX11_tellOne_238 (by decide) (fun v209 _ hv209 => ?_)
                replace E := zLet_s (zcst hv209 (by decide)) E
                refine zg_isub X dX11_tellOne_240 (by omega) (by omega) (fun v210 ev210 hv210 => ?_)
                replace E := zLet_s ev210 E
                refine zg_istore_n X [(1, .int v210), (0, .ref a0)] dX11_tellOne_241 (by decide) rfl ?_
                refine zg_iload_n X 0 rfl dX11_tellOne_242 ?_
                refine zg_if_lt X 260 dX11_tellOne_243 (by decide) (fun c211 => ?_) (fun c211 => ?_)
                · skip
                  replace E := zIf_t c211 E
                  refine zg_aload_n X 1 rfl dX11_tellOne_260 ?_
                  refine zg_iconst X 1 dX11_tellOne_261 (by decide) (fun v212 _ hv212 => ?_)
                  replace E := zLet_s (zcst hv212 (by decide)) E
                  refine zg_cVv (As := [.int v212]) (st := []) X ha0 rfl (by decide) rfl (t_X11_fail l d L kd κ _ hI a0 ha0 v212  (by omega)) mk_X11_221 mc_X11_fail mz_X11 mi_X11_fail ml_X11_fail (na := 1) ⟨md_X11.1, md_X11.2, by decide +kernel⟩ rfl ⟨by decide, by decide⟩ (Nat.le_of_ble_eq_true rfl) dX11_tellOne_262 (fun t213 hq => ?_)
                  obtain ⟨hF, ht213_fact0, hI, g214⟩ := hq
                  replace E := zLet_s hF E
                  have ft213_11 : (t213.1 a0 11).toInt = (σ.1 a0 11).toInt := by rw [g214.2.1 11 (by decide)]
                  have ft213_12 : (t213.1 a0 12).toInt = (σ.1 a0 12).toInt := by rw [g214.2.1 12 (by decide)]
                  have ft213_15 : (t213.1 a0 15).toInt = (σ.1 a0 15).toInt := by rw [g214.2.1 15 (by decide)]
                  have ft213_18 : (t213.1 a0 18).toInt = (σ.1 a0 18).toInt := by rw [g214.2.1 18 (by decide)]
                  have ft213_19 : (t213.1 a0 19).toInt = (σ.1 a0 19).toInt := by rw [g214.2.1 19 (by decide)]
                  have ft213_32 : (t213.1 a0 32).toInt = (σ.1 a0 32).toInt := by rw [g214.2.1 32 (by decide)]
                  have ft213_38 : (t213.1 a0 38).toInt = (σ.1 a0 38).toInt := by rw [g214.2.1 38 (by decide)]
                  have ft213_41 : (t213.1 a0 41).toInt = (σ.1 a0 41).toInt := by rw [g214.2.1 41 (by decide)]
                  have ft213_42 : (t213.1 a0 42).toInt = (σ.1 a0 42).toInt := by rw [g214.2.1 42 (by decide)]
                  have hS := hS.tr g214 (by decide) (by decide)
                  have ut213_5 := zp_same hI ha0 g214 5 rfl (by decide) (by decide)
                  have at213_5 := ut213_5
                  have gNt213 := gN.same hI ha0 g214 (by decide) hgN
                  have gHt213 := gH.same hI ha0 g214 (by decide) hgH
                  have gEt213 := gE.same hI ha0 g214 (by decide) hgE
                  have gLt213 := gL.same hI ha0 g214 (by decide) hgL
                  have gPt213 := gP.same hI ha0 g214 (by decide) hgP
                  have gTrt213 := gTr.same hI ha0 g214 (by decide) hgTr
                  have gKt213 := gK.same hI ha0 g214 (by decide) hgK
                  have e215 := g214.v ev207 (by decide)
                  refine zg_aload_n X 1 rfl dX11_tellOne_265 ?_
                  refine fg_X11_206 X hI ha0 dX11_tellOne_266 (fun v216 ev216 hv216 => ?_)
                  replace E := zLet_s ev216 E
                  have kv216 : (t213.1 a0 13).toInt = v216.toInt := by rw [ev216]
                  refine zg_if_le X 273 dX11_tellOne_269 (by decide) (fun c217 => ?_) (fun c217 => ?_)
                  · skip
                    replace E := zIf_f (Int.not_lt.mpr c217) E
                    refine zg_aload_n X 1 rfl dX11_tellOne_273 ?_
                    refine zg_cVv (As := []) (st := []) X ha0 rfl (by decide) rfl (t_X11_goesOn l d L kd κ _ hI a0 ha0   ) mk_X11_227 mc_X11_goesOn mz_X11 mi_X11_goesOn ml_X11_goesOn (na := 0) ⟨md_X11.1, md_X11.2, by decide +kernel⟩ rfl ⟨by decide, by decide⟩ (Nat.le_of_ble_eq_true rfl) dX11_tellOne_274 (fun t218 hq => ?_)
                    obtain ⟨hF, ht218_fact0, hI, g219⟩ := hq
                    replace E := zLet_s hF E
                    have ft218_12 : (t218.1 a0 12).toInt = (t213.1 a0 12).toInt := by rw [g219.2.1 12 (by decide)]
                    have ft218_15 : (t218.1 a0 15).toInt = (t213.1 a0 15).toInt := by rw [g219.2.1 15 (by decide)]
                    have ft218_18 : (t218.1 a0 18).toInt = (t213.1 a0 18).toInt := by rw [g219.2.1 18 (by decide)]
                    have ft218_19 : (t218.1 a0 19).toInt = (t213.1 a0 19).toInt := by rw [g219.2.1 19 (by decide)]
                    have ft218_32 : (t218.1 a0 32).toInt = (t213.1 a0 32).toInt := by rw [g219.2.1 32 (by decide)]
                    have ft218_38 : (t218.1 a0 38).toInt = (t213.1 a0 38).toInt := by rw [g219.2.1 38 (by decide)]
                    have ft218_41 : (t218.1 a0 41).toInt = (t213.1 a0 41).toInt := by rw [g219.2.1 41 (by decide)]
                    have ft218_42 : (t218.1 a0 42).toInt = (t213.1 a0 42).toInt := by rw [g219.2.1 42 (by decide)]
                    have hS := hS.tr g219 (by decide) (by decide)
                    have ut218_5 := zp_same hI ha0 g219 5 rfl (by decide) (by decide)
                    have at218_5 := ut218_5.trans at213_5
                    have gNt218 := gN.same hI ha0 g219 (by decide) gNt213
                    have gHt218 := gH.same hI ha0 g219 (by decide) gHt213
                    have gEt218 := gE.same hI ha0 g219 (by decide) gEt213
                    have gLt218 := gL.same hI ha0 g219 (by decide) gLt213
                    have gPt218 := gP.same hI ha0 g219 (by decide) gPt213
                    have gTrt218 := gTr.same hI ha0 g219 (by decide) gTrt213
                    have gKt218 := gK.same hI ha0 g219 (by decide) gKt213
                    refine zg_aload_n X 1 rfl dX11_tellOne_277 ?_
                    refine zg_iload_n X 0 rfl dX11_tellOne_278 ?_
                    refine zg_cVv (As := [.int v210]) (st := []) X ha0 rfl (by decide) rfl (t_X11_tellLaw l d L kd κ _ hI a0 ha0 v210  (by omega) (by omega) (by omega) (by omega) (by omega) gPt218 gLt218) mk_X11_277 mc_X11_tellLaw mz_X11 mi_X11_tellLaw ml_X11_tellLaw (na := 1) ⟨md_X11.1, md_X11.2, by decide +kernel⟩ rfl ⟨by decide, by decide⟩ (Nat.le_of_ble_eq_true rfl) dX11_tellOne_279 (fun t220 hq => ?_)
                    obtain ⟨hF, ⟨ht220_fact0, ht220_fact1, gLt220⟩, hI, g221⟩ := hq
                    replace E := zLet_s hF E
                    have ft220_15 : (t220.1 a0 15).toInt = (t218.1 a0 15).toInt := by rw [g221.2.1 15 (by decide)]
                    have ft220_18 : (t220.1 a0 18).toInt = (t218.1 a0 18).toInt := by rw [g221.2.1 18 (by decide)]
                    have ft220_19 : (t220.1 a0 19).toInt = (t218.1 a0 19).toInt := by rw [g221.2.1 19 (by decide)]
                    have ft220_41 : (t220.1 a0 41).toInt = (t218.1 a0 41).toInt := by rw [g221.2.1 41 (by decide)]
                    have ft220_42 : (t220.1 a0 42).toInt = (t218.1 a0 42).toInt := by rw [g221.2.1 42 (by decide)]
                    have hS := hS.tr g221 (by decide) (by decide)
                    have ut220_5 := zp_same hI ha0 g221 5 rfl (by decide) (by decide)
                    have at220_5 := ut220_5.trans at218_5
                    have gNt220 := gN.same hI ha0 g221 (by decide) gNt218
                    have gHt220 := gH.same hI ha0 g221 (by decide) gHt218
                    have gEt220 := gE.same hI ha0 g221 (by decide) gEt218
                    have gTrt220 := gTr.same hI ha0 g221 (by decide) gTrt218
                    have gKt220 := gK.same hI ha0 g221 (by decide) gKt218
                    have zgp := ht220_fact1
                    clear ht220_fact1
                    exact ret _ _ _ dX11_tellOne_282 ⟨E.symm.trans hR, ⟨⟨(by omega), (fun h0 => by first | exact True.intro | exact zgp h0), (fun h0 => by first | exact gTrt220 | exact zgt h0), gNt220, gHt220, gEt220, gLt220⟩, hI, hS⟩⟩
                  · skip
                    replace E := zIf_t c217 E
                    exact ret _ _ _ dX11_tellOne_272 ⟨E.symm.trans hR, ⟨⟨(by omega), (fun h0 => by exfalso; omega), (fun h0 => by exfalso; omega), gNt213, gHt213, gEt213, gLt213⟩, hI, hS⟩⟩
                · skip
                  replace E := zIf_f (Int.not_lt.mpr c211) E
                  refine zg_aload_n X 1 rfl dX11_tellOne_246 ?_
                  refine fg_X11_20 X hI ha0 dX11_tellOne_247 (fun v222 ev222 hv222 => ?_)
                  replace E := zLet_s (zgr ev222) E
                  refine zg_aload_n X 1 rfl dX11_tellOne_250 ?_
                  refine fg_X11_209 X hI ha0 dX11_tellOne_251 (fun v223 ev223 hv223 => ?_)
                  replace E := zLet_s ev223 E
                  have kv223 : (σ.1 a0 11).toInt = v223.toInt := by rw [ev223]
                  have mv223 : v223.toInt = v207.toInt := by rw [ev223, ← ev207]
                  refine ag_105 X hI hv222 (by omega) (by omega) dX11_tellOne_254 (fun v224 ev224 _ => ?_)
                  replace E := zLet_s ev224 E
                  have qv224 := zp_ld ev222 ev224
                  rw [← kv223] at qv224
                  refine zg_bipush X 26 dX11_tellOne_255 (by decide) (fun v225 _ hv225 => ?_)
                  replace E := zLet_s (zcst hv225 (by decide)) E
                  have zv224_z226 := zb_rng v224
                  refine zg_icmp_le X 265 dX11_tellOne_257 (by decide) (fun c227 => ?_) (fun c227 => ?_)
                  · skip
                    replace E := zIf_f (Int.not_lt.mpr c227) E
                    refine zg_aload_n X 1 rfl dX11_tellOne_265 ?_
                    refine fg_X11_206 X hI ha0 dX11_tellOne_266 (fun v228 ev228 hv228 => ?_)
                    replace E := zLet_s ev228 E
                    have kv228 : (σ.1 a0 13).toInt = v228.toInt := by rw [ev228]
                    refine zg_if_le X 273 dX11_tellOne_269 (by decide) (fun c229 => ?_) (fun c229 => ?_)
                    · skip
                      replace E := zIf_f (Int.not_lt.mpr c229) E
                      refine zg_aload_n X 1 rfl dX11_tellOne_273 ?_
                      refine zg_cVv (As := []) (st := []) X ha0 rfl (by decide) rfl (t_X11_goesOn l d L kd κ _ hI a0 ha0   ) mk_X11_227 mc_X11_goesOn mz_X11 mi_X11_goesOn ml_X11_goesOn (na := 0) ⟨md_X11.1, md_X11.2, by decide +kernel⟩ rfl ⟨by decide, by decide⟩ (Nat.le_of_ble_eq_true rfl) dX11_tellOne_274 (fun t230 hq => ?_)
                      obtain ⟨hF, ht230_fact0, hI, g231⟩ := hq
                      replace E := zLet_s hF E
                      have ft230_12 : (t230.1 a0 12).toInt = (σ.1 a0 12).toInt := by rw [g231.2.1 12 (by decide)]
                      have ft230_15 : (t230.1 a0 15).toInt = (σ.1 a0 15).toInt := by rw [g231.2.1 15 (by decide)]
                      have ft230_18 : (t230.1 a0 18).toInt = (σ.1 a0 18).toInt := by rw [g231.2.1 18 (by decide)]
                      have ft230_19 : (t230.1 a0 19).toInt = (σ.1 a0 19).toInt := by rw [g231.2.1 19 (by decide)]
                      have ft230_32 : (t230.1 a0 32).toInt = (σ.1 a0 32).toInt := by rw [g231.2.1 32 (by decide)]
                      have ft230_38 : (t230.1 a0 38).toInt = (σ.1 a0 38).toInt := by rw [g231.2.1 38 (by decide)]
                      have ft230_41 : (t230.1 a0 41).toInt = (σ.1 a0 41).toInt := by rw [g231.2.1 41 (by decide)]
                      have ft230_42 : (t230.1 a0 42).toInt = (σ.1 a0 42).toInt := by rw [g231.2.1 42 (by decide)]
                      have hS := hS.tr g231 (by decide) (by decide)
                      have ut230_5 := zp_same hI ha0 g231 5 rfl (by decide) (by decide)
                      have at230_5 := ut230_5
                      have gNt230 := gN.same hI ha0 g231 (by decide) hgN
                      have gHt230 := gH.same hI ha0 g231 (by decide) hgH
                      have gEt230 := gE.same hI ha0 g231 (by decide) hgE
                      have gLt230 := gL.same hI ha0 g231 (by decide) hgL
                      have gPt230 := gP.same hI ha0 g231 (by decide) hgP
                      have gTrt230 := gTr.same hI ha0 g231 (by decide) hgTr
                      have gKt230 := gK.same hI ha0 g231 (by decide) hgK
                      refine zg_aload_n X 1 rfl dX11_tellOne_277 ?_
                      refine zg_iload_n X 0 rfl dX11_tellOne_278 ?_
                      refine zg_cVv (As := [.int v210]) (st := []) X ha0 rfl (by decide) rfl (t_X11_tellLaw l d L kd κ _ hI a0 ha0 v210  (by omega) (by omega) (by omega) (by omega) (by omega) gPt230 gLt230) mk_X11_277 mc_X11_tellLaw mz_X11 mi_X11_tellLaw ml_X11_tellLaw (na := 1) ⟨md_X11.1, md_X11.2, by decide +kernel⟩ rfl ⟨by decide, by decide⟩ (Nat.le_of_ble_eq_true rfl) dX11_tellOne_279 (fun t232 hq => ?_)
                      obtain ⟨hF, ⟨ht232_fact0, ht232_fact1, gLt232⟩, hI, g233⟩ := hq
                      replace E := zLet_s hF E
                      have ft232_15 : (t232.1 a0 15).toInt = (t230.1 a0 15).toInt := by rw [g233.2.1 15 (by decide)]
                      have ft232_18 : (t232.1 a0 18).toInt = (t230.1 a0 18).toInt := by rw [g233.2.1 18 (by decide)]
                      have ft232_19 : (t232.1 a0 19).toInt = (t230.1 a0 19).toInt := by rw [g233.2.1 19 (by decide)]
                      have ft232_41 : (t232.1 a0 41).toInt = (t230.1 a0 41).toInt := by rw [g233.2.1 41 (by decide)]
                      have ft232_42 : (t232.1 a0 42).toInt = (t230.1 a0 42).toInt := by rw [g233.2.1 42 (by decide)]
                      have hS := hS.tr g233 (by decide) (by decide)
                      have ut232_5 := zp_same hI ha0 g233 5 rfl (by decide) (by decide)
                      have at232_5 := ut232_5.trans at230_5
                      have gNt232 := gN.same hI ha0 g233 (by decide) gNt230
                      have gHt232 := gH.same hI ha0 g233 (by decide) gHt230
                      have gEt232 := gE.same hI ha0 g233 (by decide) gEt230
                      have gTrt232 := gTr.same hI ha0 g233 (by decide) gTrt230
                      have gKt232 := gK.same hI ha0 g233 (by decide) gKt230
                      have zgp := ht232_fact1
                      clear ht232_fact1
                      exact ret _ _ _ dX11_tellOne_282 ⟨E.symm.trans hR, ⟨⟨(by omega), (fun h0 => by first | exact True.intro | exact zgp h0), (fun h0 => by first | exact gTrt232 | exact zgt h0), gNt232, gHt232, gEt232, gLt232⟩, hI, hS⟩⟩
                    · skip
                      replace E := zIf_t c229 E
                      exact ret _ _ _ dX11_tellOne_272 ⟨E.symm.trans hR, ⟨⟨(by omega), (fun h0 => by exfalso; omega), (fun h0 => by exfalso; omega), hgN, hgH, hgE, hgL⟩, hI, hS⟩⟩
                  · skip
                    replace E := zIf_t c227 E
                    refine zg_aload_n X 1 rfl dX11_tellOne_260 ?_
                    refine zg_iconst X 1 dX11_tellOne_261 (by decide) (fun v234 _ hv234 => ?_)
                    replace E := zLet_s (zcst hv234 (by decide)) E
                    refine zg_cVv (As := [.int v234]) (st := []) X ha0 rfl (by decide) rfl (t_X11_fail l d L kd κ _ hI a0 ha0 v234  (by omega)) mk_X11_221 mc_X11_fail mz_X11 mi_X11_fail ml_X11_fail (na := 1) ⟨md_X11.1, md_X11.2, by decide +kernel⟩ rfl ⟨by decide, by decide⟩ (Nat.le_of_ble_eq_true rfl) dX11_tellOne_262 (fun t235 hq => ?_)
                    obtain ⟨hF, ht235_fact0, hI, g236⟩ := hq
                    replace E := zLet_s hF E
                    have ft235_11 : (t235.1 a0 11).toInt = (σ.1 a0 11).toInt := by rw [g236.2.1 11 (by decide)]
                    have ft235_12 : (t235.1 a0 12).toInt = (σ.1 a0 12).toInt := by rw [g236.2.1 12 (by decide)]
                    have ft235_15 : (t235.1 a0 15).toInt = (σ.1 a0 15).toInt := by rw [g236.2.1 15 (by decide)]
                    have ft235_18 : (t235.1 a0 18).toInt = (σ.1 a0 18).toInt := by rw [g236.2.1 18 (by decide)]
                    have ft235_19 : (t235.1 a0 19).toInt = (σ.1 a0 19).toInt := by rw [g236.2.1 19 (by decide)]
                    have ft235_32 : (t235.1 a0 32).toInt = (σ.1 a0 32).toInt := by rw [g236.2.1 32 (by decide)]
                    have ft235_38 : (t235.1 a0 38).toInt = (σ.1 a0 38).toInt := by rw [g236.2.1 38 (by decide)]
                    have ft235_41 : (t235.1 a0 41).toInt = (σ.1 a0 41).toInt := by rw [g236.2.1 41 (by decide)]
                    have ft235_42 : (t235.1 a0 42).toInt = (σ.1 a0 42).toInt := by rw [g236.2.1 42 (by decide)]
                    have hS := hS.tr g236 (by decide) (by decide)
                    have ut235_5 := zp_same hI ha0 g236 5 rfl (by decide) (by decide)
                    have at235_5 := ut235_5
                    have gNt235 := gN.same hI ha0 g236 (by decide) hgN
                    have gHt235 := gH.same hI ha0 g236 (by decide) hgH
                    have gEt235 := gE.same hI ha0 g236 (by decide) hgE
                    have gLt235 := gL.same hI ha0 g236 (by decide) hgL
                    have gPt235 := gP.same hI ha0 g236 (by decide) hgP
                    have gTrt235 := gTr.same hI ha0 g236 (by decide) hgTr
                    have gKt235 := gK.same hI ha0 g236 (by decide) hgK
                    have e237 := g236.v ev223 (by decide)
                    refine zg_aload_n X 1 rfl dX11_tellOne_265 ?_
                    refine fg_X11_206 X hI ha0 dX11_tellOne_266 (fun v238 ev238 hv238 => ?_)
                    replace E := zLet_s ev238 E
                    have kv238 : (t235.1 a0 13).toInt = v238.toInt := by rw [ev238]
                    refine zg_if_le X 273 dX11_tellOne_269 (by decide) (fun c239 => ?_) (fun c239 => ?_)
                    · skip
                      replace E := zIf_f (Int.not_lt.mpr c239) E
                      refine zg_aload_n X 1 rfl dX11_tellOne_273 ?_
                      refine zg_cVv (As := []) (st := []) X ha0 rfl (by decide) rfl (t_X11_goesOn l d L kd κ _ hI a0 ha0   ) mk_X11_227 mc_X11_goesOn mz_X11 mi_X11_goesOn ml_X11_goesOn (na := 0) ⟨md_X11.1, md_X11.2, by decide +kernel⟩ rfl ⟨by decide, by decide⟩ (Nat.le_of_ble_eq_true rfl) dX11_tellOne_274 (fun t240 hq => ?_)
                      obtain ⟨hF, ht240_fact0, hI, g241⟩ := hq
                      replace E := zLet_s hF E
                      have ft240_12 : (t240.1 a0 12).toInt = (t235.1 a0 12).toInt := by rw [g241.2.1 12 (by decide)]
                      have ft240_15 : (t240.1 a0 15).toInt = (t235.1 a0 15).toInt := by rw [g241.2.1 15 (by decide)]
                      have ft240_18 : (t240.1 a0 18).toInt = (t235.1 a0 18).toInt := by rw [g241.2.1 18 (by decide)]
                      have ft240_19 : (t240.1 a0 19).toInt = (t235.1 a0 19).toInt := by rw [g241.2.1 19 (by decide)]
                      have ft240_32 : (t240.1 a0 32).toInt = (t235.1 a0 32).toInt := by rw [g241.2.1 32 (by decide)]
                      have ft240_38 : (t240.1 a0 38).toInt = (t235.1 a0 38).toInt := by rw [g241.2.1 38 (by decide)]
                      have ft240_41 : (t240.1 a0 41).toInt = (t235.1 a0 41).toInt := by rw [g241.2.1 41 (by decide)]
                      have ft240_42 : (t240.1 a0 42).toInt = (t235.1 a0 42).toInt := by rw [g241.2.1 42 (by decide)]
                      have hS := hS.tr g241 (by decide) (by decide)
                      have ut240_5 := zp_same hI ha0 g241 5 rfl (by decide) (by decide)
                      have at240_5 := ut240_5.trans at235_5
                      have gNt240 := gN.same hI ha0 g241 (by decide) gNt235
                      have gHt240 := gH.same hI ha0 g241 (by decide) gHt235
                      have gEt240 := gE.same hI ha0 g241 (by decide) gEt235
                      have gLt240 := gL.same hI ha0 g241 (by decide) gLt235
                      have gPt240 := gP.same hI ha0 g241 (by decide) gPt235
                      have gTrt240 := gTr.same hI ha0 g241 (by decide) gTrt235
                      have gKt240 := gK.same hI ha0 g241 (by decide) gKt235
                      refine zg_aload_n X 1 rfl dX11_tellOne_277 ?_
                      refine zg_iload_n X 0 rfl dX11_tellOne_278 ?_
                      refine zg_cVv (As := [.int v210]) (st := []) X ha0 rfl (by decide) rfl (t_X11_tellLaw l d L kd κ _ hI a0 ha0 v210  (by omega) (by omega) (by omega) (by omega) (by omega) gPt240 gLt240) mk_X11_277 mc_X11_tellLaw mz_X11 mi_X11_tellLaw ml_X11_tellLaw (na := 1) ⟨md_X11.1, md_X11.2, by decide +kernel⟩ rfl ⟨by decide, by decide⟩ (Nat.le_of_ble_eq_true rfl) dX11_tellOne_279 (fun t242 hq => ?_)
                      obtain ⟨hF, ⟨ht242_fact0, ht242_fact1, gLt242⟩, hI, g243⟩ := hq
                      replace E := zLet_s hF E
                      have ft242_15 : (t242.1 a0 15).toInt = (t240.1 a0 15).toInt := by rw [g243.2.1 15 (by decide)]
                      have ft242_18 : (t242.1 a0 18).toInt = (t240.1 a0 18).toInt := by rw [g243.2.1 18 (by decide)]
                      have ft242_19 : (t242.1 a0 19).toInt = (t240.1 a0 19).toInt := by rw [g243.2.1 19 (by decide)]
                      have ft242_41 : (t242.1 a0 41).toInt = (t240.1 a0 41).toInt := by rw [g243.2.1 41 (by decide)]
                      have ft242_42 : (t242.1 a0 42).toInt = (t240.1 a0 42).toInt := by rw [g243.2.1 42 (by decide)]
                      have hS := hS.tr g243 (by decide) (by decide)
                      have ut242_5 := zp_same hI ha0 g243 5 rfl (by decide) (by decide)
                      have at242_5 := ut242_5.trans at240_5
                      have gNt242 := gN.same hI ha0 g243 (by decide) gNt240
                      have gHt242 := gH.same hI ha0 g243 (by decide) gHt240
                      have gEt242 := gE.same hI ha0 g243 (by decide) gEt240
                      have gTrt242 := gTr.same hI ha0 g243 (by decide) gTrt240
                      have gKt242 := gK.same hI ha0 g243 (by decide) gKt240
                      have zgp := ht242_fact1
                      clear ht242_fact1
                      exact ret _ _ _ dX11_tellOne_282 ⟨E.symm.trans hR, ⟨⟨(by omega), (fun h0 => by first | exact True.intro | exact zgp h0), (fun h0 => by first | exact gTrt242 | exact zgt h0), gNt242, gHt242, gEt242, gLt242⟩, hI, hS⟩⟩
                    · skip
                      replace E := zIf_t c239 E
                      exact ret _ _ _ dX11_tellOne_272 ⟨E.symm.trans hR, ⟨⟨(by omega), (fun h0 => by exfalso; omega), (fun h0 => by exfalso; omega), gNt235, gHt235, gEt235, gLt235⟩, hI, hS⟩⟩
              · skip
                replace E := zIf_f q205 E
                by_cases q244 : v3.toInt = 27
                · refine zg_tabIn X 128 27 dX11_tellOne_9 q244 (by decide) (by decide) rfl (by decide) ?_
                  replace E := zIf_t q244 E
                  refine zg_aload_n X 0 rfl dX11_tellOne_128 ?_
                  refine zg_cVv (As := []) (st := []) X ha0 rfl (by decide) rfl (t_X11_goesOn l d L kd κ _ hI a0 ha0   ) mk_X11_227 mc_X11_goesOn mz_X11 mi_X11_goesOn ml_X11_goesOn (na := 0) ⟨md_X11.1, md_X11.2, by decide +kernel⟩ rfl ⟨by decide, by decide⟩ (Nat.le_of_ble_eq_true rfl) dX11_tellOne_129 (fun t245 hq => ?_)
                  obtain ⟨hF, ht245_fact0, hI, g246⟩ := hq
                  replace E := zLet_s hF E
                  have ft245_12 : (t245.1 a0 12).toInt = (σ.1 a0 12).toInt := by rw [g246.2.1 12 (by decide)]
                  have ft245_15 : (t245.1 a0 15).toInt = (σ.1 a0 15).toInt := by rw [g246.2.1 15 (by decide)]
                  have ft245_18 : (t245.1 a0 18).toInt = (σ.1 a0 18).toInt := by rw [g246.2.1 18 (by decide)]
                  have ft245_19 : (t245.1 a0 19).toInt = (σ.1 a0 19).toInt := by rw [g246.2.1 19 (by decide)]
                  have ft245_32 : (t245.1 a0 32).toInt = (σ.1 a0 32).toInt := by rw [g246.2.1 32 (by decide)]
                  have ft245_38 : (t245.1 a0 38).toInt = (σ.1 a0 38).toInt := by rw [g246.2.1 38 (by decide)]
                  have ft245_41 : (t245.1 a0 41).toInt = (σ.1 a0 41).toInt := by rw [g246.2.1 41 (by decide)]
                  have ft245_42 : (t245.1 a0 42).toInt = (σ.1 a0 42).toInt := by rw [g246.2.1 42 (by decide)]
                  have hS := hS.tr g246 (by decide) (by decide)
                  have ut245_5 := zp_same hI ha0 g246 5 rfl (by decide) (by decide)
                  have at245_5 := ut245_5
                  have gNt245 := gN.same hI ha0 g246 (by decide) hgN
                  have gHt245 := gH.same hI ha0 g246 (by decide) hgH
                  have gEt245 := gE.same hI ha0 g246 (by decide) hgE
                  have gLt245 := gL.same hI ha0 g246 (by decide) hgL
                  have gPt245 := gP.same hI ha0 g246 (by decide) hgP
                  have gTrt245 := gTr.same hI ha0 g246 (by decide) hgTr
                  have gKt245 := gK.same hI ha0 g246 (by decide) hgK
                  refine zg_aload_n X 0 rfl dX11_tellOne_132 ?_
                  refine fg_X11_58 X hI ha0 dX11_tellOne_133 (fun v247 ev247 hv247 => ?_)
                  replace E := zLet_s (zgr ev247) E
                  refine zg_aload_n X 0 rfl dX11_tellOne_136 ?_
                  refine fg_X11_239 X hI ha0 dX11_tellOne_137 (fun v248 ev248 hv248 => ?_)
                  replace E := zLet_s ev248 E
                  have kv248 : (t245.1 a0 19).toInt = v248.toInt := by rw [ev248]
                  refine zg_aload_n X 0 rfl dX11_tellOne_140 ?_
                  refine zg_iconst X 0 dX11_tellOne_141 (by decide) (fun v249 _ hv249 => ?_)
                  replace E := zLet_s (zcst hv249 (by decide)) E
                  refine zg_bipush X 100 dX11_tellOne_142 (by decide) (fun v250 _ hv250 => ?_)
                  replace E := zLet_s (zcst hv250 (by decide)) E
                  refine zg_cVi (As := [.int v249, .int v250]) (st := [.int v248, .ref v247]) X ha0 rfl (by decide) rfl (t_X11_bounded l d L kd κ _ hI a0 ha0 v249 v250  ) mk_X11_270 mc_X11_bounded mz_X11 mi_X11_bounded ml_X11_bounded (na := 2) ⟨md_X11.1, md_X11.2, by decide +kernel⟩ rfl ⟨by decide, by decide⟩ (Nat.le_of_ble_eq_true rfl) dX11_tellOne_144 (fun v252 t251 hq => ?_)
                  obtain ⟨hF, ⟨ht251_fact0, ht251_fact1⟩, hI, g253⟩ := hq
                  replace E := zLet2_s hF E
                  have ft251_12 : (t251.1 a0 12).toInt = (t245.1 a0 12).toInt := by rw [g253.2.1 12 (by decide)]
                  have ft251_18 : (t251.1 a0 18).toInt = (t245.1 a0 18).toInt := by rw [g253.2.1 18 (by decide)]
                  have ft251_19 : (t251.1 a0 19).toInt = (t245.1 a0 19).toInt := by rw [g253.2.1 19 (by decide)]
                  have ft251_32 : (t251.1 a0 32).toInt = (t245.1 a0 32).toInt := by rw [g253.2.1 32 (by decide)]
                  have ft251_38 : (t251.1 a0 38).toInt = (t245.1 a0 38).toInt := by rw [g253.2.1 38 (by decide)]
                  have ft251_41 : (t251.1 a0 41).toInt = (t245.1 a0 41).toInt := by rw [g253.2.1 41 (by decide)]
                  have ft251_42 : (t251.1 a0 42).toInt = (t245.1 a0 42).toInt := by rw [g253.2.1 42 (by decide)]
                  have hS := hS.tr g253 (by decide) (by decide)
                  have e254 := (congrFun (congrFun g253.2.2 a0) 26).trans ev247
                  have ut251_5 := zp_same hI ha0 g253 5 rfl (by decide) (by decide)
                  have at251_5 := ut251_5.trans at245_5
                  have gNt251 := gN.same hI ha0 g253 (by decide) gNt245
                  have gHt251 := gH.same hI ha0 g253 (by decide) gHt245
                  have gEt251 := gE.same hI ha0 g253 (by decide) gEt245
                  have gLt251 := gL.same hI ha0 g253 (by decide) gLt245
                  have gPt251 := gP.same hI ha0 g253 (by decide) gPt245
                  have gKt251 := gK.same hI ha0 g253 (by decide) gKt245
                  have e255 := g253.v ev248 (by decide)
                  have gTrt251 := gTr.w hI ha0 g253 (by decide) ht251_fact1 gTrt245
                  refine as_126 X hI hv247 (by omega) (by omega) dX11_tellOne_147 (fun s256 es256 hI => ?_)
                  replace E := zLet_s es256 E
                  have g257 := (zSame.rf (o := a0) (Wf := []) (Wa := [126]) (L := L) (kd := kd) (σ := t251)).a ha0 hv247 es256 rfl (by decide)
                  have fs256_11 : (s256.1 a0 11).toInt = (t251.1 a0 11).toInt := by rw [g257.2.1 11 (by decide)]
                  have fs256_12 : (s256.1 a0 12).toInt = (t251.1 a0 12).toInt := by rw [g257.2.1 12 (by decide)]
                  have fs256_13 : (s256.1 a0 13).toInt = (t251.1 a0 13).toInt := by rw [g257.2.1 13 (by decide)]
                  have fs256_15 : (s256.1 a0 15).toInt = (t251.1 a0 15).toInt := by rw [g257.2.1 15 (by decide)]
                  have fs256_18 : (s256.1 a0 18).toInt = (t251.1 a0 18).toInt := by rw [g257.2.1 18 (by decide)]
                  have fs256_19 : (s256.1 a0 19).toInt = (t251.1 a0 19).toInt := by rw [g257.2.1 19 (by decide)]
                  have fs256_32 : (s256.1 a0 32).toInt = (t251.1 a0 32).toInt := by rw [g257.2.1 32 (by decide)]
                  have fs256_38 : (s256.1 a0 38).toInt = (t251.1 a0 38).toInt := by rw [g257.2.1 38 (by decide)]
                  have fs256_41 : (s256.1 a0 41).toInt = (t251.1 a0 41).toInt := by rw [g257.2.1 41 (by decide)]
                  have fs256_42 : (s256.1 a0 42).toInt = (t251.1 a0 42).toInt := by rw [g257.2.1 42 (by decide)]
                  have hS := hS.tr g257 (by decide) (by decide)
                  have us256_5 := zp_same hI ha0 g257 5 rfl (by decide) (by decide)
                  have as256_5 := us256_5.trans at251_5
                  have gNs256 := gN.same hI ha0 g257 (by decide) gNt251
                  have gHs256 := gH.same hI ha0 g257 (by decide) gHt251
                  have gEs256 := gE.same hI ha0 g257 (by decide) gEt251
                  have gLs256 := gL.same hI ha0 g257 (by decide) gLt251
                  have gPs256 := gP.same hI ha0 g257 (by decide) gPt251
                  have gKs256 := gK.same hI ha0 g257 (by decide) gKt251
                  have gTrs256 := gTr.same hI ha0 g257 (by decide) gTrt251
                  have e258 := g257.v e255 (by decide)
                  refine zg_aload_n X 0 rfl dX11_tellOne_148 ?_
                  refine fg_X11_61 X hI ha0 dX11_tellOne_149 (fun v259 ev259 hv259 => ?_)
                  replace E := zLet_s (zgr ev259) E
                  refine zg_aload_n X 0 rfl dX11_tellOne_152 ?_
                  refine fg_X11_239 X hI ha0 dX11_tellOne_153 (fun v260 ev260 hv260 => ?_)
                  replace E := zLet_s ev260 E
                  have kv260 : (s256.1 a0 19).toInt = v260.toInt := by rw [ev260]
                  have mv260 : v260.toInt = v248.toInt := by rw [ev260, ← e258]
                  refine zg_aload_n X 0 rfl dX11_tellOne_156 ?_
                  refine zg_iconst X 0 dX11_tellOne_157 (by decide) (fun v261 _ hv261 => ?_)
                  replace E := zLet_s (zcst hv261 (by decide)) E
                  refine zg_bipush X 99 dX11_tellOne_158 (by decide) (fun v262 _ hv262 => ?_)
                  replace E := zLet_s (zcst hv262 (by decide)) E
                  refine zg_cVi (As := [.int v261, .int v262]) (st := [.int v260, .ref v259]) X ha0 rfl (by decide) rfl (t_X11_bounded l d L kd κ _ hI a0 ha0 v261 v262  ) mk_X11_270 mc_X11_bounded mz_X11 mi_X11_bounded ml_X11_bounded (na := 2) ⟨md_X11.1, md_X11.2, by decide +kernel⟩ rfl ⟨by decide, by decide⟩ (Nat.le_of_ble_eq_true rfl) dX11_tellOne_160 (fun v264 t263 hq => ?_)
                  obtain ⟨hF, ⟨ht263_fact0, ht263_fact1⟩, hI, g265⟩ := hq
                  replace E := zLet2_s hF E
                  have ft263_12 : (t263.1 a0 12).toInt = (s256.1 a0 12).toInt := by rw [g265.2.1 12 (by decide)]
                  have ft263_18 : (t263.1 a0 18).toInt = (s256.1 a0 18).toInt := by rw [g265.2.1 18 (by decide)]
                  have ft263_19 : (t263.1 a0 19).toInt = (s256.1 a0 19).toInt := by rw [g265.2.1 19 (by decide)]
                  have ft263_32 : (t263.1 a0 32).toInt = (s256.1 a0 32).toInt := by rw [g265.2.1 32 (by decide)]
                  have ft263_38 : (t263.1 a0 38).toInt = (s256.1 a0 38).toInt := by rw [g265.2.1 38 (by decide)]
                  have ft263_41 : (t263.1 a0 41).toInt = (s256.1 a0 41).toInt := by rw [g265.2.1 41 (by decide)]
                  have ft263_42 : (t263.1 a0 42).toInt = (s256.1 a0 42).toInt := by rw [g265.2.1 42 (by decide)]
                  have hS := hS.tr g265 (by decide) (by decide)
                  have e266 := (congrFun (congrFun g265.2.2 a0) 27).trans ev259
                  have ut263_5 := zp_same hI ha0 g265 5 rfl (by decide) (by decide)
                  have at263_5 := ut263_5.trans as256_5
                  have gNt263 := gN.same hI ha0 g265 (by decide) gNs256
                  have gHt263 := gH.same hI ha0 g265 (by decide) gHs256
                  have gEt263 := gE.same hI ha0 g265 (by decide) gEs256
                  have gLt263 := gL.same hI ha0 g265 (by decide) gLs256
                  have gPt263 := gP.same hI ha0 g265 (by decide) gPs256
                  have gKt263 := gK.same hI ha0 g265 (by decide) gKs256
                  have e267 := g265.v ev260 (by decide)
                  have gTrt263 := gTr.w hI ha0 g265 (by decide) ht263_fact1 gTrs256
                  refine as_127 X hI hv259 (by omega) (by omega) dX11_tellOne_163 (fun s268 es268 hI => ?_)
                  replace E := zLet_s es268 E
                  have g269 := (zSame.rf (o := a0) (Wf := []) (Wa := [127]) (L := L) (kd := kd) (σ := t263)).a ha0 hv259 es268 rfl (by decide)
                  have fs268_11 : (s268.1 a0 11).toInt = (t263.1 a0 11).toInt := by rw [g269.2.1 11 (by decide)]
                  have fs268_12 : (s268.1 a0 12).toInt = (t263.1 a0 12).toInt := by rw [g269.2.1 12 (by decide)]
                  have fs268_13 : (s268.1 a0 13).toInt = (t263.1 a0 13).toInt := by rw [g269.2.1 13 (by decide)]
                  have fs268_15 : (s268.1 a0 15).toInt = (t263.1 a0 15).toInt := by rw [g269.2.1 15 (by decide)]
                  have fs268_18 : (s268.1 a0 18).toInt = (t263.1 a0 18).toInt := by rw [g269.2.1 18 (by decide)]
                  have fs268_19 : (s268.1 a0 19).toInt = (t263.1 a0 19).toInt := by rw [g269.2.1 19 (by decide)]
                  have fs268_32 : (s268.1 a0 32).toInt = (t263.1 a0 32).toInt := by rw [g269.2.1 32 (by decide)]
                  have fs268_38 : (s268.1 a0 38).toInt = (t263.1 a0 38).toInt := by rw [g269.2.1 38 (by decide)]
                  have fs268_41 : (s268.1 a0 41).toInt = (t263.1 a0 41).toInt := by rw [g269.2.1 41 (by decide)]
                  have fs268_42 : (s268.1 a0 42).toInt = (t263.1 a0 42).toInt := by rw [g269.2.1 42 (by decide)]
                  have hS := hS.tr g269 (by decide) (by decide)
                  have us268_5 := zp_same hI ha0 g269 5 rfl (by decide) (by decide)
                  have as268_5 := us268_5.trans at263_5
                  have gNs268 := gN.same hI ha0 g269 (by decide) gNt263
                  have gHs268 := gH.same hI ha0 g269 (by decide) gHt263
                  have gEs268 := gE.same hI ha0 g269 (by decide) gEt263
                  have gLs268 := gL.same hI ha0 g269 (by decide) gLt263
                  have gPs268 := gP.same hI ha0 g269 (by decide) gPt263
                  have gKs268 := gK.same hI ha0 g269 (by decide) gKt263
                  have gTrs268 := gTr.same hI ha0 g269 (by decide) gTrt263
                  have e270 := g269.v e267 (by decide)
                  refine zg_aload_n X 0 rfl dX11_tellOne_164 ?_
                  refine zg_iconst X 4 dX11_tellOne_165 (by decide) (fun v271 _ hv271 => ?_)
                  replace E := zLet_s (zcst hv271 (by decide)) E
                  refine zg_cVv (As := [.int v271]) (st := []) X ha0 rfl (by decide) rfl (t_X11_must l d L kd κ _ hI a0 ha0 v271  ) mk_X11_274 mc_X11_must mz_X11 mi_X11_must ml_X11_must (na := 1) ⟨md_X11.1, md_X11.2, by decide +kernel⟩ rfl ⟨by decide, by decide⟩ (Nat.le_of_ble_eq_true rfl) dX11_tellOne_166 (fun t272 hq => ?_)
                  obtain ⟨hF, ht272_fact0, hI, g273⟩ := hq
                  replace E := zLet_s hF E
                  have ft272_12 : (t272.1 a0 12).toInt = (s268.1 a0 12).toInt := by rw [g273.2.1 12 (by decide)]
                  have ft272_15 : (t272.1 a0 15).toInt = (s268.1 a0 15).toInt := by rw [g273.2.1 15 (by decide)]
                  have ft272_18 : (t272.1 a0 18).toInt = (s268.1 a0 18).toInt := by rw [g273.2.1 18 (by decide)]
                  have ft272_19 : (t272.1 a0 19).toInt = (s268.1 a0 19).toInt := by rw [g273.2.1 19 (by decide)]
                  have ft272_32 : (t272.1 a0 32).toInt = (s268.1 a0 32).toInt := by rw [g273.2.1 32 (by decide)]
                  have ft272_38 : (t272.1 a0 38).toInt = (s268.1 a0 38).toInt := by rw [g273.2.1 38 (by decide)]
                  have ft272_41 : (t272.1 a0 41).toInt = (s268.1 a0 41).toInt := by rw [g273.2.1 41 (by decide)]
                  have ft272_42 : (t272.1 a0 42).toInt = (s268.1 a0 42).toInt := by rw [g273.2.1 42 (by decide)]
                  have hS := hS.tr g273 (by decide) (by decide)
                  have ut272_5 := zp_same hI ha0 g273 5 rfl (by decide) (by decide)
                  have at272_5 := ut272_5.trans as268_5
                  have gNt272 := gN.same hI ha0 g273 (by decide) gNs268
                  have gHt272 := gH.same hI ha0 g273 (by decide) gHs268
                  have gEt272 := gE.same hI ha0 g273 (by decide) gEs268
                  have gLt272 := gL.same hI ha0 g273 (by decide) gLs268
                  have gPt272 := gP.same hI ha0 g273 (by decide) gPs268
                  have gKt272 := gK.same hI ha0 g273 (by decide) gKs268
                  have gTrt272 := gTr.same hI ha0 g273 (by decide) gTrs268
                  have e274 := g273.v e270 (by decide)
                  refine zg_goto X 282 dX11_tellOne_169 (by decide) ?_
                  exact ret _ _ _ dX11_tellOne_282 ⟨E.symm.trans hR, ⟨⟨(by omega), (fun h0 => by first | exact gPt272 | exact zgp h0), (fun h0 => by first | exact gTrt272 | exact zgt h0), gNt272, gHt272, gEt272, gLt272⟩, hI, hS⟩⟩
                · skip
                  replace E := zIf_f q244 E
                  by_cases q275 : v3.toInt = 28
                  · refine zg_tabIn X 172 28 dX11_tellOne_9 q275 (by decide) (by decide) rfl (by decide) ?_
                    replace E := zIf_t q275 E
                    refine zg_aload_n X 0 rfl dX11_tellOne_172 ?_
                    refine zg_cVv (As := []) (st := []) X ha0 rfl (by decide) rfl (t_X11_goesOn l d L kd κ _ hI a0 ha0   ) mk_X11_227 mc_X11_goesOn mz_X11 mi_X11_goesOn ml_X11_goesOn (na := 0) ⟨md_X11.1, md_X11.2, by decide +kernel⟩ rfl ⟨by decide, by decide⟩ (Nat.le_of_ble_eq_true rfl) dX11_tellOne_173 (fun t276 hq => ?_)
                    obtain ⟨hF, ht276_fact0, hI, g277⟩ := hq
                    replace E := zLet_s hF E
                    have ft276_12 : (t276.1 a0 12).toInt = (σ.1 a0 12).toInt := by rw [g277.2.1 12 (by decide)]
                    have ft276_15 : (t276.1 a0 15).toInt = (σ.1 a0 15).toInt := by rw [g277.2.1 15 (by decide)]
                    have ft276_18 : (t276.1 a0 18).toInt = (σ.1 a0 18).toInt := by rw [g277.2.1 18 (by decide)]
                    have ft276_19 : (t276.1 a0 19).toInt = (σ.1 a0 19).toInt := by rw [g277.2.1 19 (by decide)]
                    have ft276_32 : (t276.1 a0 32).toInt = (σ.1 a0 32).toInt := by rw [g277.2.1 32 (by decide)]
                    have ft276_38 : (t276.1 a0 38).toInt = (σ.1 a0 38).toInt := by rw [g277.2.1 38 (by decide)]
                    have ft276_41 : (t276.1 a0 41).toInt = (σ.1 a0 41).toInt := by rw [g277.2.1 41 (by decide)]
                    have ft276_42 : (t276.1 a0 42).toInt = (σ.1 a0 42).toInt := by rw [g277.2.1 42 (by decide)]
                    have hS := hS.tr g277 (by decide) (by decide)
                    have ut276_5 := zp_same hI ha0 g277 5 rfl (by decide) (by decide)
                    have at276_5 := ut276_5
                    have gNt276 := gN.same hI ha0 g277 (by decide) hgN
                    have gHt276 := gH.same hI ha0 g277 (by decide) hgH
                    have gEt276 := gE.same hI ha0 g277 (by decide) hgE
                    have gLt276 := gL.same hI ha0 g277 (by decide) hgL
                    have gPt276 := gP.same hI ha0 g277 (by decide) hgP
                    have gTrt276 := gTr.same hI ha0 g277 (by decide) hgTr
                    have gKt276 := gK.same hI ha0 g277 (by decide) hgK
                    refine zg_aload_n X 0 rfl dX11_tellOne_176 ?_
                    refine fg_X11_64 X hI ha0 dX11_tellOne_177 (fun v278 ev278 hv278 => ?_)
                    replace E := zLet_s (zgr ev278) E
                    refine zg_aload_n X 0 rfl dX11_tellOne_180 ?_
                    refine fg_X11_239 X hI ha0 dX11_tellOne_181 (fun v279 ev279 hv279 => ?_)
                    replace E := zLet_s ev279 E
                    have kv279 : (t276.1 a0 19).toInt = v279.toInt := by rw [ev279]
                    refine zg_aload_n X 0 rfl dX11_tellOne_184 ?_
                    refine zg_iconst X 0 dX11_tellOne_185 (by decide) (fun v280 _ hv280 => ?_)
                    replace E := zLet_s (zcst hv280 (by decide)) E
                    refine zg_bipush X 99 dX11_tellOne_186 (by decide) (fun v281 _ hv281 => ?_)
                    replace E := zLet_s (zcst hv281 (by decide)) E
                    refine zg_cVi (As := [.int v280, .int v281]) (st := [.int v279, .ref v278]) X ha0 rfl (by decide) rfl (t_X11_bounded l d L kd κ _ hI a0 ha0 v280 v281  ) mk_X11_270 mc_X11_bounded mz_X11 mi_X11_bounded ml_X11_bounded (na := 2) ⟨md_X11.1, md_X11.2, by decide +kernel⟩ rfl ⟨by decide, by decide⟩ (Nat.le_of_ble_eq_true rfl) dX11_tellOne_188 (fun v283 t282 hq => ?_)
                    obtain ⟨hF, ⟨ht282_fact0, ht282_fact1⟩, hI, g284⟩ := hq
                    replace E := zLet2_s hF E
                    have ft282_12 : (t282.1 a0 12).toInt = (t276.1 a0 12).toInt := by rw [g284.2.1 12 (by decide)]
                    have ft282_18 : (t282.1 a0 18).toInt = (t276.1 a0 18).toInt := by rw [g284.2.1 18 (by decide)]
                    have ft282_19 : (t282.1 a0 19).toInt = (t276.1 a0 19).toInt := by rw [g284.2.1 19 (by decide)]
                    have ft282_32 : (t282.1 a0 32).toInt = (t276.1 a0 32).toInt := by rw [g284.2.1 32 (by decide)]
                    have ft282_38 : (t282.1 a0 38).toInt = (t276.1 a0 38).toInt := by rw [g284.2.1 38 (by decide)]
                    have ft282_41 : (t282.1 a0 41).toInt = (t276.1 a0 41).toInt := by rw [g284.2.1 41 (by decide)]
                    have ft282_42 : (t282.1 a0 42).toInt = (t276.1 a0 42).toInt := by rw [g284.2.1 42 (by decide)]
                    have hS := hS.tr g284 (by decide) (by decide)
                    have e285 := (congrFun (congrFun g284.2.2 a0) 28).trans ev278
                    have ut282_5 := zp_same hI ha0 g284 5 rfl (by decide) (by decide)
                    have at282_5 := ut282_5.trans at276_5
                    have gNt282 := gN.same hI ha0 g284 (by decide) gNt276
                    have gHt282 := gH.same hI ha0 g284 (by decide) gHt276
                    have gEt282 := gE.same hI ha0 g284 (by decide) gEt276
                    have gLt282 := gL.same hI ha0 g284 (by decide) gLt276
                    have gPt282 := gP.same hI ha0 g284 (by decide) gPt276
                    have gKt282 := gK.same hI ha0 g284 (by decide) gKt276
                    have e286 := g284.v ev279 (by decide)
                    have gTrt282 := gTr.w hI ha0 g284 (by decide) ht282_fact1 gTrt276
                    refine as_128 X hI hv278 (by omega) (by omega) dX11_tellOne_191 (fun s287 es287 hI => ?_)
                    replace E := zLet_s es287 E
                    have g288 := (zSame.rf (o := a0) (Wf := []) (Wa := [128]) (L := L) (kd := kd) (σ := t282)).a ha0 hv278 es287 rfl (by decide)
                    have fs287_11 : (s287.1 a0 11).toInt = (t282.1 a0 11).toInt := by rw [g288.2.1 11 (by decide)]
                    have fs287_12 : (s287.1 a0 12).toInt = (t282.1 a0 12).toInt := by rw [g288.2.1 12 (by decide)]
                    have fs287_13 : (s287.1 a0 13).toInt = (t282.1 a0 13).toInt := by rw [g288.2.1 13 (by decide)]
                    have fs287_15 : (s287.1 a0 15).toInt = (t282.1 a0 15).toInt := by rw [g288.2.1 15 (by decide)]
                    have fs287_18 : (s287.1 a0 18).toInt = (t282.1 a0 18).toInt := by rw [g288.2.1 18 (by decide)]
                    have fs287_19 : (s287.1 a0 19).toInt = (t282.1 a0 19).toInt := by rw [g288.2.1 19 (by decide)]
                    have fs287_32 : (s287.1 a0 32).toInt = (t282.1 a0 32).toInt := by rw [g288.2.1 32 (by decide)]
                    have fs287_38 : (s287.1 a0 38).toInt = (t282.1 a0 38).toInt := by rw [g288.2.1 38 (by decide)]
                    have fs287_41 : (s287.1 a0 41).toInt = (t282.1 a0 41).toInt := by rw [g288.2.1 41 (by decide)]
                    have fs287_42 : (s287.1 a0 42).toInt = (t282.1 a0 42).toInt := by rw [g288.2.1 42 (by decide)]
                    have hS := hS.tr g288 (by decide) (by decide)
                    have us287_5 := zp_same hI ha0 g288 5 rfl (by decide) (by decide)
                    have as287_5 := us287_5.trans at282_5
                    have gNs287 := gN.same hI ha0 g288 (by decide) gNt282
                    have gHs287 := gH.same hI ha0 g288 (by decide) gHt282
                    have gEs287 := gE.same hI ha0 g288 (by decide) gEt282
                    have gLs287 := gL.same hI ha0 g288 (by decide) gLt282
                    have gPs287 := gP.same hI ha0 g288 (by decide) gPt282
                    have gKs287 := gK.same hI ha0 g288 (by decide) gKt282
                    have gTrs287 := gTr.same hI ha0 g288 (by decide) gTrt282
                    have e289 := g288.v e286 (by decide)
                    refine zg_aload_n X 0 rfl dX11_tellOne_192 ?_
                    refine zg_iconst X 4 dX11_tellOne_193 (by decide) (fun v290 _ hv290 => ?_)
                    replace E := zLet_s (zcst hv290 (by decide)) E
                    refine zg_cVv (As := [.int v290]) (st := []) X ha0 rfl (by decide) rfl (t_X11_must l d L kd κ _ hI a0 ha0 v290  ) mk_X11_274 mc_X11_must mz_X11 mi_X11_must ml_X11_must (na := 1) ⟨md_X11.1, md_X11.2, by decide +kernel⟩ rfl ⟨by decide, by decide⟩ (Nat.le_of_ble_eq_true rfl) dX11_tellOne_194 (fun t291 hq => ?_)
                    obtain ⟨hF, ht291_fact0, hI, g292⟩ := hq
                    replace E := zLet_s hF E
                    have ft291_12 : (t291.1 a0 12).toInt = (s287.1 a0 12).toInt := by rw [g292.2.1 12 (by decide)]
                    have ft291_15 : (t291.1 a0 15).toInt = (s287.1 a0 15).toInt := by rw [g292.2.1 15 (by decide)]
                    have ft291_18 : (t291.1 a0 18).toInt = (s287.1 a0 18).toInt := by rw [g292.2.1 18 (by decide)]
                    have ft291_19 : (t291.1 a0 19).toInt = (s287.1 a0 19).toInt := by rw [g292.2.1 19 (by decide)]
                    have ft291_32 : (t291.1 a0 32).toInt = (s287.1 a0 32).toInt := by rw [g292.2.1 32 (by decide)]
                    have ft291_38 : (t291.1 a0 38).toInt = (s287.1 a0 38).toInt := by rw [g292.2.1 38 (by decide)]
                    have ft291_41 : (t291.1 a0 41).toInt = (s287.1 a0 41).toInt := by rw [g292.2.1 41 (by decide)]
                    have ft291_42 : (t291.1 a0 42).toInt = (s287.1 a0 42).toInt := by rw [g292.2.1 42 (by decide)]
                    have hS := hS.tr g292 (by decide) (by decide)
                    have ut291_5 := zp_same hI ha0 g292 5 rfl (by decide) (by decide)
                    have at291_5 := ut291_5.trans as287_5
                    have gNt291 := gN.same hI ha0 g292 (by decide) gNs287
                    have gHt291 := gH.same hI ha0 g292 (by decide) gHs287
                    have gEt291 := gE.same hI ha0 g292 (by decide) gEs287
                    have gLt291 := gL.same hI ha0 g292 (by decide) gLs287
                    have gPt291 := gP.same hI ha0 g292 (by decide) gPs287
                    have gKt291 := gK.same hI ha0 g292 (by decide) gKs287
                    have gTrt291 := gTr.same hI ha0 g292 (by decide) gTrs287
                    have e293 := g292.v e289 (by decide)
                    refine zg_goto X 282 dX11_tellOne_197 (by decide) ?_
                    exact ret _ _ _ dX11_tellOne_282 ⟨E.symm.trans hR, ⟨⟨(by omega), (fun h0 => by first | exact gPt291 | exact zgp h0), (fun h0 => by first | exact gTrt291 | exact zgt h0), gNt291, gHt291, gEt291, gLt291⟩, hI, hS⟩⟩
                  · skip
                    replace E := zIf_f q275 E
                    by_cases q294 : v3.toInt = 29
                    · refine zg_tabIn X 200 29 dX11_tellOne_9 q294 (by decide) (by decide) rfl (by decide) ?_
                      replace E := zIf_t q294 E
                      refine zg_aload_n X 0 rfl dX11_tellOne_200 ?_
                      refine zg_cVv (As := []) (st := []) X ha0 rfl (by decide) rfl (t_X11_goesOn l d L kd κ _ hI a0 ha0   ) mk_X11_227 mc_X11_goesOn mz_X11 mi_X11_goesOn ml_X11_goesOn (na := 0) ⟨md_X11.1, md_X11.2, by decide +kernel⟩ rfl ⟨by decide, by decide⟩ (Nat.le_of_ble_eq_true rfl) dX11_tellOne_201 (fun t295 hq => ?_)
                      obtain ⟨hF, ht295_fact0, hI, g296⟩ := hq
                      replace E := zLet_s hF E
                      have ft295_12 : (t295.1 a0 12).toInt = (σ.1 a0 12).toInt := by rw [g296.2.1 12 (by decide)]
                      have ft295_15 : (t295.1 a0 15).toInt = (σ.1 a0 15).toInt := by rw [g296.2.1 15 (by decide)]
                      have ft295_18 : (t295.1 a0 18).toInt = (σ.1 a0 18).toInt := by rw [g296.2.1 18 (by decide)]
                      have ft295_19 : (t295.1 a0 19).toInt = (σ.1 a0 19).toInt := by rw [g296.2.1 19 (by decide)]
                      have ft295_32 : (t295.1 a0 32).toInt = (σ.1 a0 32).toInt := by rw [g296.2.1 32 (by decide)]
                      have ft295_38 : (t295.1 a0 38).toInt = (σ.1 a0 38).toInt := by rw [g296.2.1 38 (by decide)]
                      have ft295_41 : (t295.1 a0 41).toInt = (σ.1 a0 41).toInt := by rw [g296.2.1 41 (by decide)]
                      have ft295_42 : (t295.1 a0 42).toInt = (σ.1 a0 42).toInt := by rw [g296.2.1 42 (by decide)]
                      have hS := hS.tr g296 (by decide) (by decide)
                      have ut295_5 := zp_same hI ha0 g296 5 rfl (by decide) (by decide)
                      have at295_5 := ut295_5
                      have gNt295 := gN.same hI ha0 g296 (by decide) hgN
                      have gHt295 := gH.same hI ha0 g296 (by decide) hgH
                      have gEt295 := gE.same hI ha0 g296 (by decide) hgE
                      have gLt295 := gL.same hI ha0 g296 (by decide) hgL
                      have gPt295 := gP.same hI ha0 g296 (by decide) hgP
                      have gTrt295 := gTr.same hI ha0 g296 (by decide) hgTr
                      have gKt295 := gK.same hI ha0 g296 (by decide) hgK
                      refine zg_aload_n X 0 rfl dX11_tellOne_204 ?_
                      refine fg_X11_67 X hI ha0 dX11_tellOne_205 (fun v297 ev297 hv297 => ?_)
                      replace E := zLet_s (zgr ev297) E
                      refine zg_aload_n X 0 rfl dX11_tellOne_208 ?_
                      refine fg_X11_239 X hI ha0 dX11_tellOne_209 (fun v298 ev298 hv298 => ?_)
                      replace E := zLet_s ev298 E
                      have kv298 : (t295.1 a0 19).toInt = v298.toInt := by rw [ev298]
                      refine zg_aload_n X 0 rfl dX11_tellOne_212 ?_
                      refine zg_iconst X 0 dX11_tellOne_213 (by decide) (fun v299 _ hv299 => ?_)
                      replace E := zLet_s (zcst hv299 (by decide)) E
                      refine zg_sipush X 9999 dX11_tellOne_214 (by decide) (fun v300 _ hv300 => ?_)
                      replace E := zLet_s (zcst hv300 (by decide)) E
                      refine zg_cVi (As := [.int v299, .int v300]) (st := [.int v298, .ref v297]) X ha0 rfl (by decide) rfl (t_X11_bounded l d L kd κ _ hI a0 ha0 v299 v300  ) mk_X11_270 mc_X11_bounded mz_X11 mi_X11_bounded ml_X11_bounded (na := 2) ⟨md_X11.1, md_X11.2, by decide +kernel⟩ rfl ⟨by decide, by decide⟩ (Nat.le_of_ble_eq_true rfl) dX11_tellOne_217 (fun v302 t301 hq => ?_)
                      obtain ⟨hF, ⟨ht301_fact0, ht301_fact1⟩, hI, g303⟩ := hq
                      replace E := zLet2_s hF E
                      have ft301_12 : (t301.1 a0 12).toInt = (t295.1 a0 12).toInt := by rw [g303.2.1 12 (by decide)]
                      have ft301_18 : (t301.1 a0 18).toInt = (t295.1 a0 18).toInt := by rw [g303.2.1 18 (by decide)]
                      have ft301_19 : (t301.1 a0 19).toInt = (t295.1 a0 19).toInt := by rw [g303.2.1 19 (by decide)]
                      have ft301_32 : (t301.1 a0 32).toInt = (t295.1 a0 32).toInt := by rw [g303.2.1 32 (by decide)]
                      have ft301_38 : (t301.1 a0 38).toInt = (t295.1 a0 38).toInt := by rw [g303.2.1 38 (by decide)]
                      have ft301_41 : (t301.1 a0 41).toInt = (t295.1 a0 41).toInt := by rw [g303.2.1 41 (by decide)]
                      have ft301_42 : (t301.1 a0 42).toInt = (t295.1 a0 42).toInt := by rw [g303.2.1 42 (by decide)]
                      have hS := hS.tr g303 (by decide) (by decide)
                      have e304 := (congrFun (congrFun g303.2.2 a0) 29).trans ev297
                      have ut301_5 := zp_same hI ha0 g303 5 rfl (by decide) (by decide)
                      have at301_5 := ut301_5.trans at295_5
                      have gNt301 := gN.same hI ha0 g303 (by decide) gNt295
                      have gHt301 := gH.same hI ha0 g303 (by decide) gHt295
                      have gEt301 := gE.same hI ha0 g303 (by decide) gEt295
                      have gLt301 := gL.same hI ha0 g303 (by decide) gLt295
                      have gPt301 := gP.same hI ha0 g303 (by decide) gPt295
                      have gKt301 := gK.same hI ha0 g303 (by decide) gKt295
                      have e305 := g303.v ev298 (by decide)
                      have gTrt301 := gTr.w hI ha0 g303 (by decide) ht301_fact1 gTrt295
                      refine as_129 X hI hv297 (by omega) (by omega) dX11_tellOne_220 (fun s306 es306 hI => ?_)
                      replace E := zLet_s es306 E
                      have g307 := (zSame.rf (o := a0) (Wf := []) (Wa := [129]) (L := L) (kd := kd) (σ := t301)).a ha0 hv297 es306 rfl (by decide)
                      have fs306_11 : (s306.1 a0 11).toInt = (t301.1 a0 11).toInt := by rw [g307.2.1 11 (by decide)]
                      have fs306_12 : (s306.1 a0 12).toInt = (t301.1 a0 12).toInt := by rw [g307.2.1 12 (by decide)]
                      have fs306_13 : (s306.1 a0 13).toInt = (t301.1 a0 13).toInt := by rw [g307.2.1 13 (by decide)]
                      have fs306_15 : (s306.1 a0 15).toInt = (t301.1 a0 15).toInt := by rw [g307.2.1 15 (by decide)]
                      have fs306_18 : (s306.1 a0 18).toInt = (t301.1 a0 18).toInt := by rw [g307.2.1 18 (by decide)]
                      have fs306_19 : (s306.1 a0 19).toInt = (t301.1 a0 19).toInt := by rw [g307.2.1 19 (by decide)]
                      have fs306_32 : (s306.1 a0 32).toInt = (t301.1 a0 32).toInt := by rw [g307.2.1 32 (by decide)]
                      have fs306_38 : (s306.1 a0 38).toInt = (t301.1 a0 38).toInt := by rw [g307.2.1 38 (by decide)]
                      have fs306_41 : (s306.1 a0 41).toInt = (t301.1 a0 41).toInt := by rw [g307.2.1 41 (by decide)]
                      have fs306_42 : (s306.1 a0 42).toInt = (t301.1 a0 42).toInt := by rw [g307.2.1 42 (by decide)]
                      have hS := hS.tr g307 (by decide) (by decide)
                      have us306_5 := zp_same hI ha0 g307 5 rfl (by decide) (by decide)
                      have as306_5 := us306_5.trans at301_5
                      have gNs306 := gN.same hI ha0 g307 (by decide) gNt301
                      have gHs306 := gH.same hI ha0 g307 (by decide) gHt301
                      have gEs306 := gE.same hI ha0 g307 (by decide) gEt301
                      have gLs306 := gL.same hI ha0 g307 (by decide) gLt301
                      have gPs306 := gP.same hI ha0 g307 (by decide) gPt301
                      have gKs306 := gK.same hI ha0 g307 (by decide) gKt301
                      have gTrs306 := gTr.same hI ha0 g307 (by decide) gTrt301
                      have e308 := g307.v e305 (by decide)
                      refine zg_aload_n X 0 rfl dX11_tellOne_221 ?_
                      refine zg_iconst X 4 dX11_tellOne_222 (by decide) (fun v309 _ hv309 => ?_)
                      replace E := zLet_s (zcst hv309 (by decide)) E
                      refine zg_cVv (As := [.int v309]) (st := []) X ha0 rfl (by decide) rfl (t_X11_must l d L kd κ _ hI a0 ha0 v309  ) mk_X11_274 mc_X11_must mz_X11 mi_X11_must ml_X11_must (na := 1) ⟨md_X11.1, md_X11.2, by decide +kernel⟩ rfl ⟨by decide, by decide⟩ (Nat.le_of_ble_eq_true rfl) dX11_tellOne_223 (fun t310 hq => ?_)
                      obtain ⟨hF, ht310_fact0, hI, g311⟩ := hq
                      replace E := zLet_s hF E
                      have ft310_12 : (t310.1 a0 12).toInt = (s306.1 a0 12).toInt := by rw [g311.2.1 12 (by decide)]
                      have ft310_15 : (t310.1 a0 15).toInt = (s306.1 a0 15).toInt := by rw [g311.2.1 15 (by decide)]
                      have ft310_18 : (t310.1 a0 18).toInt = (s306.1 a0 18).toInt := by rw [g311.2.1 18 (by decide)]
                      have ft310_19 : (t310.1 a0 19).toInt = (s306.1 a0 19).toInt := by rw [g311.2.1 19 (by decide)]
                      have ft310_32 : (t310.1 a0 32).toInt = (s306.1 a0 32).toInt := by rw [g311.2.1 32 (by decide)]
                      have ft310_38 : (t310.1 a0 38).toInt = (s306.1 a0 38).toInt := by rw [g311.2.1 38 (by decide)]
                      have ft310_41 : (t310.1 a0 41).toInt = (s306.1 a0 41).toInt := by rw [g311.2.1 41 (by decide)]
                      have ft310_42 : (t310.1 a0 42).toInt = (s306.1 a0 42).toInt := by rw [g311.2.1 42 (by decide)]
                      have hS := hS.tr g311 (by decide) (by decide)
                      have ut310_5 := zp_same hI ha0 g311 5 rfl (by decide) (by decide)
                      have at310_5 := ut310_5.trans as306_5
                      have gNt310 := gN.same hI ha0 g311 (by decide) gNs306
                      have gHt310 := gH.same hI ha0 g311 (by decide) gHs306
                      have gEt310 := gE.same hI ha0 g311 (by decide) gEs306
                      have gLt310 := gL.same hI ha0 g311 (by decide) gLs306
                      have gPt310 := gP.same hI ha0 g311 (by decide) gPs306
                      have gKt310 := gK.same hI ha0 g311 (by decide) gKs306
                      have gTrt310 := gTr.same hI ha0 g311 (by decide) gTrs306
                      have e312 := g311.v e308 (by decide)
                      refine zg_goto X 282 dX11_tellOne_226 (by decide) ?_
                      exact ret _ _ _ dX11_tellOne_282 ⟨E.symm.trans hR, ⟨⟨(by omega), (fun h0 => by first | exact gPt310 | exact zgp h0), (fun h0 => by first | exact gTrt310 | exact zgt h0), gNt310, gHt310, gEt310, gLt310⟩, hI, hS⟩⟩
                    · skip
                      replace E := zIf_f q294 E
                      refine zg_tabOut X 229 dX11_tellOne_9 (by omega) (by decide) ?_
                      refine zg_aload_n X 0 rfl dX11_tellOne_229 ?_
                      refine fg_X11_20 X hI ha0 dX11_tellOne_230 (fun v313 ev313 hv313 => ?_)
                      replace E := zLet_s (zgr ev313) E
                      refine zg_aload_n X 0 rfl dX11_tellOne_233 ?_
                      refine fg_X11_209 X hI ha0 dX11_tellOne_234 (fun v314 ev314 hv314 => ?_)
                      replace E := zLet_s ev314 E
                      have kv314 : (σ.1 a0 11).toInt = v314.toInt := by rw [ev314]
                      have mv314 : v314.toInt = v2.toInt := by rw [ev314, ← ev2]
                      refine ag_105 X hI hv313 (by omega) (by omega) dX11_tellOne_237 (fun v315 ev315 _ => ?_)
                      replace E := zLet_s ev315 E
                      have qv315 := zp_ld ev313 ev315
                      rw [← kv314] at qv315
                      refine zg_bipush X 22 dX11_tellOne_238 (by decide) (fun v316 _ hv316 => ?_)
                      replace E := zLet_s (zcst hv316 (by decide)) E
                      refine zg_isub X dX11_tellOne_240 (by omega) (by omega) (fun v317 ev317 hv317 => ?_)
                      replace E := zLet_s ev317 E
                      refine zg_istore_n X [(1, .int v317), (0, .ref a0)] dX11_tellOne_241 (by decide) rfl ?_
                      refine zg_iload_n X 0 rfl dX11_tellOne_242 ?_
                      refine zg_if_lt X 260 dX11_tellOne_243 (by decide) (fun c318 => ?_) (fun c318 => ?_)
                      · skip
                        replace E := zIf_t c318 E
                        refine zg_aload_n X 1 rfl dX11_tellOne_260 ?_
                        refine zg_iconst X 1 dX11_tellOne_261 (by decide) (fun v319 _ hv319 => ?_)
                        replace E := zLet_s (zcst hv319 (by decide)) E
                        refine zg_cVv (As := [.int v319]) (st := []) X ha0 rfl (by decide) rfl (t_X11_fail l d L kd κ _ hI a0 ha0 v319  (by omega)) mk_X11_221 mc_X11_fail mz_X11 mi_X11_fail ml_X11_fail (na := 1) ⟨md_X11.1, md_X11.2, by decide +kernel⟩ rfl ⟨by decide, by decide⟩ (Nat.le_of_ble_eq_true rfl) dX11_tellOne_262 (fun t320 hq => ?_)
                        obtain ⟨hF, ht320_fact0, hI, g321⟩ := hq
                        replace E := zLet_s hF E
                        have ft320_11 : (t320.1 a0 11).toInt = (σ.1 a0 11).toInt := by rw [g321.2.1 11 (by decide)]
                        have ft320_12 : (t320.1 a0 12).toInt = (σ.1 a0 12).toInt := by rw [g321.2.1 12 (by decide)]
                        have ft320_15 : (t320.1 a0 15).toInt = (σ.1 a0 15).toInt := by rw [g321.2.1 15 (by decide)]
                        have ft320_18 : (t320.1 a0 18).toInt = (σ.1 a0 18).toInt := by rw [g321.2.1 18 (by decide)]
                        have ft320_19 : (t320.1 a0 19).toInt = (σ.1 a0 19).toInt := by rw [g321.2.1 19 (by decide)]
                        have ft320_32 : (t320.1 a0 32).toInt = (σ.1 a0 32).toInt := by rw [g321.2.1 32 (by decide)]
                        have ft320_38 : (t320.1 a0 38).toInt = (σ.1 a0 38).toInt := by rw [g321.2.1 38 (by decide)]
                        have ft320_41 : (t320.1 a0 41).toInt = (σ.1 a0 41).toInt := by rw [g321.2.1 41 (by decide)]
                        have ft320_42 : (t320.1 a0 42).toInt = (σ.1 a0 42).toInt := by rw [g321.2.1 42 (by decide)]
                        have hS := hS.tr g321 (by decide) (by decide)
                        have ut320_5 := zp_same hI ha0 g321 5 rfl (by decide) (by decide)
                        have at320_5 := ut320_5
                        have gNt320 := gN.same hI ha0 g321 (by decide) hgN
                        have gHt320 := gH.same hI ha0 g321 (by decide) hgH
                        have gEt320 := gE.same hI ha0 g321 (by decide) hgE
                        have gLt320 := gL.same hI ha0 g321 (by decide) hgL
                        have gPt320 := gP.same hI ha0 g321 (by decide) hgP
                        have gTrt320 := gTr.same hI ha0 g321 (by decide) hgTr
                        have gKt320 := gK.same hI ha0 g321 (by decide) hgK
                        have e322 := g321.v ev314 (by decide)
                        refine zg_aload_n X 1 rfl dX11_tellOne_265 ?_
                        refine fg_X11_206 X hI ha0 dX11_tellOne_266 (fun v323 ev323 hv323 => ?_)
                        replace E := zLet_s ev323 E
                        have kv323 : (t320.1 a0 13).toInt = v323.toInt := by rw [ev323]
                        refine zg_if_le X 273 dX11_tellOne_269 (by decide) (fun c324 => ?_) (fun c324 => ?_)
                        · skip
                          replace E := zIf_f (Int.not_lt.mpr c324) E
                          refine zg_aload_n X 1 rfl dX11_tellOne_273 ?_
                          refine zg_cVv (As := []) (st := []) X ha0 rfl (by decide) rfl (t_X11_goesOn l d L kd κ _ hI a0 ha0   ) mk_X11_227 mc_X11_goesOn mz_X11 mi_X11_goesOn ml_X11_goesOn (na := 0) ⟨md_X11.1, md_X11.2, by decide +kernel⟩ rfl ⟨by decide, by decide⟩ (Nat.le_of_ble_eq_true rfl) dX11_tellOne_274 (fun t325 hq => ?_)
                          obtain ⟨hF, ht325_fact0, hI, g326⟩ := hq
                          replace E := zLet_s hF E
                          have ft325_12 : (t325.1 a0 12).toInt = (t320.1 a0 12).toInt := by rw [g326.2.1 12 (by decide)]
                          have ft325_15 : (t325.1 a0 15).toInt = (t320.1 a0 15).toInt := by rw [g326.2.1 15 (by decide)]
                          have ft325_18 : (t325.1 a0 18).toInt = (t320.1 a0 18).toInt := by rw [g326.2.1 18 (by decide)]
                          have ft325_19 : (t325.1 a0 19).toInt = (t320.1 a0 19).toInt := by rw [g326.2.1 19 (by decide)]
                          have ft325_32 : (t325.1 a0 32).toInt = (t320.1 a0 32).toInt := by rw [g326.2.1 32 (by decide)]
                          have ft325_38 : (t325.1 a0 38).toInt = (t320.1 a0 38).toInt := by rw [g326.2.1 38 (by decide)]
                          have ft325_41 : (t325.1 a0 41).toInt = (t320.1 a0 41).toInt := by rw [g326.2.1 41 (by decide)]
                          have ft325_42 : (t325.1 a0 42).toInt = (t320.1 a0 42).toInt := by rw [g326.2.1 42 (by decide)]
                          have hS := hS.tr g326 (by decide) (by decide)
                          have ut325_5 := zp_same hI ha0 g326 5 rfl (by decide) (by decide)
                          have at325_5 := ut325_5.trans at320_5
                          have gNt325 := gN.same hI ha0 g326 (by decide) gNt320
                          have gHt325 := gH.same hI ha0 g326 (by decide) gHt320
                          have gEt325 := gE.same hI ha0 g326 (by decide) gEt320
                          have gLt325 := gL.same hI ha0 g326 (by decide) gLt320
                          have gPt325 := gP.same hI ha0 g326 (by decide) gPt320
                          have gTrt325 := gTr.same hI ha0 g326 (by decide) gTrt320
                          have gKt325 := gK.same hI ha0 g326 (by decide) gKt320
                          refine zg_aload_n X 1 rfl dX11_tellOne_277 ?_
                          refine zg_iload_n X 0 rfl dX11_tellOne_278 ?_
                          refine zg_cVv (As := [.int v317]) (st := []) X ha0 rfl (by decide) rfl (t_X11_tellLaw l d L kd κ _ hI a0 ha0 v317  (by omega) (by omega) (by omega) (by omega) (by omega) gPt325 gLt325) mk_X11_277 mc_X11_tellLaw mz_X11 mi_X11_tellLaw ml_X11_tellLaw (na := 1) ⟨md_X11.1, md_X11.2, by decide +kernel⟩ rfl ⟨by decide, by decide⟩ (Nat.le_of_ble_eq_true rfl) dX11_tellOne_279 (fun t327 hq => ?_)
                          obtain ⟨hF, ⟨ht327_fact0, ht327_fact1, gLt327⟩, hI, g328⟩ := hq
                          replace E := zLet_s hF E
                          have ft327_15 : (t327.1 a0 15).toInt = (t325.1 a0 15).toInt := by rw [g328.2.1 15 (by decide)]
                          have ft327_18 : (t327.1 a0 18).toInt = (t325.1 a0 18).toInt := by rw [g328.2.1 18 (by decide)]
                          have ft327_19 : (t327.1 a0 19).toInt = (t325.1 a0 19).toInt := by rw [g328.2.1 19 (by decide)]
                          have ft327_41 : (t327.1 a0 41).toInt = (t325.1 a0 41).toInt := by rw [g328.2.1 41 (by decide)]
                          have ft327_42 : (t327.1 a0 42).toInt = (t325.1 a0 42).toInt := by rw [g328.2.1 42 (by decide)]
                          have hS := hS.tr g328 (by decide) (by decide)
                          have ut327_5 := zp_same hI ha0 g328 5 rfl (by decide) (by decide)
                          have at327_5 := ut327_5.trans at325_5
                          have gNt327 := gN.same hI ha0 g328 (by decide) gNt325
                          have gHt327 := gH.same hI ha0 g328 (by decide) gHt325
                          have gEt327 := gE.same hI ha0 g328 (by decide) gEt325
                          have gTrt327 := gTr.same hI ha0 g328 (by decide) gTrt325
                          have gKt327 := gK.same hI ha0 g328 (by decide) gKt325
                          have zgp := ht327_fact1
                          clear ht327_fact1
                          exact ret _ _ _ dX11_tellOne_282 ⟨E.symm.trans hR, ⟨⟨(by omega), (fun h0 => by first | exact True.intro | exact zgp h0), (fun h0 => by first | exact gTrt327 | exact zgt h0), gNt327, gHt327, gEt327, gLt327⟩, hI, hS⟩⟩
                        · skip
                          replace E := zIf_t c324 E
                          exact ret _ _ _ dX11_tellOne_272 ⟨E.symm.trans hR, ⟨⟨(by omega), (fun h0 => by exfalso; omega), (fun h0 => by exfalso; omega), gNt320, gHt320, gEt320, gLt320⟩, hI, hS⟩⟩
                      · skip
                        replace E := zIf_f (Int.not_lt.mpr c318) E
                        refine zg_aload_n X 1 rfl dX11_tellOne_246 ?_
                        refine fg_X11_20 X hI ha0 dX11_tellOne_247 (fun v329 ev329 hv329 => ?_)
                        replace E := zLet_s (zgr ev329) E
                        refine zg_aload_n X 1 rfl dX11_tellOne_250 ?_
                        refine fg_X11_209 X hI ha0 dX11_tellOne_251 (fun v330 ev330 hv330 => ?_)
                        replace E := zLet_s ev330 E
                        have kv330 : (σ.1 a0 11).toInt = v330.toInt := by rw [ev330]
                        have mv330 : v330.toInt = v314.toInt := by rw [ev330, ← ev314]
                        refine ag_105 X hI hv329 (by omega) (by omega) dX11_tellOne_254 (fun v331 ev331 _ => ?_)
                        replace E := zLet_s ev331 E
                        have qv331 := zp_ld ev329 ev331
                        rw [← kv330] at qv331
                        refine zg_bipush X 26 dX11_tellOne_255 (by decide) (fun v332 _ hv332 => ?_)
                        replace E := zLet_s (zcst hv332 (by decide)) E
                        have zv331_z333 := zb_rng v331
                        refine zg_icmp_le X 265 dX11_tellOne_257 (by decide) (fun c334 => ?_) (fun c334 => ?_)
                        · skip
                          replace E := zIf_f (Int.not_lt.mpr c334) E
                          refine zg_aload_n X 1 rfl dX11_tellOne_265 ?_
                          refine fg_X11_206 X hI ha0 dX11_tellOne_266 (fun v335 ev335 hv335 => ?_)
                          replace E := zLet_s ev335 E
                          have kv335 : (σ.1 a0 13).toInt = v335.toInt := by rw [ev335]
                          refine zg_if_le X 273 dX11_tellOne_269 (by decide) (fun c336 => ?_) (fun c336 => ?_)
                          · skip
                            replace E := zIf_f (Int.not_lt.mpr c336) E
                            refine zg_aload_n X 1 rfl dX11_tellOne_273 ?_
                            refine zg_cVv (As := []) (st := []) X ha0 rfl (by decide) rfl (t_X11_goesOn l d L kd κ _ hI a0 ha0   ) mk_X11_227 mc_X11_goesOn mz_X11 mi_X11_goesOn ml_X11_goesOn (na := 0) ⟨md_X11.1, md_X11.2, by decide +kernel⟩ rfl ⟨by decide, by decide⟩ (Nat.le_of_ble_eq_true rfl) dX11_tellOne_274 (fun t337 hq => ?_)
                            obtain ⟨hF, ht337_fact0, hI, g338⟩ := hq
                            replace E := zLet_s hF E
                            have ft337_12 : (t337.1 a0 12).toInt = (σ.1 a0 12).toInt := by rw [g338.2.1 12 (by decide)]
                            have ft337_15 : (t337.1 a0 15).toInt = (σ.1 a0 15).toInt := by rw [g338.2.1 15 (by decide)]
                            have ft337_18 : (t337.1 a0 18).toInt = (σ.1 a0 18).toInt := by rw [g338.2.1 18 (by decide)]
                            have ft337_19 : (t337.1 a0 19).toInt = (σ.1 a0 19).toInt := by rw [g338.2.1 19 (by decide)]
                            have ft337_32 : (t337.1 a0 32).toInt = (σ.1 a0 32).toInt := by rw [g338.2.1 32 (by decide)]
                            have ft337_38 : (t337.1 a0 38).toInt = (σ.1 a0 38).toInt := by rw [g338.2.1 38 (by decide)]
                            have ft337_41 : (t337.1 a0 41).toInt = (σ.1 a0 41).toInt := by rw [g338.2.1 41 (by decide)]
                            have ft337_42 : (t337.1 a0 42).toInt = (σ.1 a0 42).toInt := by rw [g338.2.1 42 (by decide)]
                            have hS := hS.tr g338 (by decide) (by decide)
                            have ut337_5 := zp_same hI ha0 g338 5 rfl (by decide) (by decide)
                            have at337_5 := ut337_5
                            have gNt337 := gN.same hI ha0 g338 (by decide) hgN
                            have gHt337 := gH.same hI ha0 g338 (by decide) hgH
                            have gEt337 := gE.same hI ha0 g338 (by decide) hgE
                            have gLt337 := gL.same hI ha0 g338 (by decide) hgL
                            have gPt337 := gP.same hI ha0 g338 (by decide) hgP
                            have gTrt337 := gTr.same hI ha0 g338 (by decide) hgTr
                            have gKt337 := gK.same hI ha0 g338 (by decide) hgK
                            refine zg_aload_n X 1 rfl dX11_tellOne_277 ?_
                            refine zg_iload_n X 0 rfl dX11_tellOne_278 ?_
                            refine zg_cVv (As := [.int v317]) (st := []) X ha0 rfl (by decide) rfl (t_X11_tellLaw l d L kd κ _ hI a0 ha0 v317  (by omega) (by omega) (by omega) (by omega) (by omega) gPt337 gLt337) mk_X11_277 mc_X11_tellLaw mz_X11 mi_X11_tellLaw ml_X11_tellLaw (na := 1) ⟨md_X11.1, md_X11.2, by decide +kernel⟩ rfl ⟨by decide, by decide⟩ (Nat.le_of_ble_eq_true rfl) dX11_tellOne_279 (fun t339 hq => ?_)
                            obtain ⟨hF, ⟨ht339_fact0, ht339_fact1, gLt339⟩, hI, g340⟩ := hq
                            replace E := zLet_s hF E
                            have ft339_15 : (t339.1 a0 15).toInt = (t337.1 a0 15).toInt := by rw [g340.2.1 15 (by decide)]
                            have ft339_18 : (t339.1 a0 18).toInt = (t337.1 a0 18).toInt := by rw [g340.2.1 18 (by decide)]
                            have ft339_19 : (t339.1 a0 19).toInt = (t337.1 a0 19).toInt := by rw [g340.2.1 19 (by decide)]
                            have ft339_41 : (t339.1 a0 41).toInt = (t337.1 a0 41).toInt := by rw [g340.2.1 41 (by decide)]
                            have ft339_42 : (t339.1 a0 42).toInt = (t337.1 a0 42).toInt := by rw [g340.2.1 42 (by decide)]
                            have hS := hS.tr g340 (by decide) (by decide)
                            have ut339_5 := zp_same hI ha0 g340 5 rfl (by decide) (by decide)
                            have at339_5 := ut339_5.trans at337_5
                            have gNt339 := gN.same hI ha0 g340 (by decide) gNt337
                            have gHt339 := gH.same hI ha0 g340 (by decide) gHt337
                            have gEt339 := gE.same hI ha0 g340 (by decide) gEt337
                            have gTrt339 := gTr.same hI ha0 g340 (by decide) gTrt337
                            have gKt339 := gK.same hI ha0 g340 (by decide) gKt337
                            have zgp := ht339_fact1
                            clear ht339_fact1
                            exact ret _ _ _ dX11_tellOne_282 ⟨E.symm.trans hR, ⟨⟨(by omega), (fun h0 => by first | exact True.intro | exact zgp h0), (fun h0 => by first | exact gTrt339 | exact zgt h0), gNt339, gHt339, gEt339, gLt339⟩, hI, hS⟩⟩
                          · skip
                            replace E := zIf_t c336 E
                            exact ret _ _ _ dX11_tellOne_272 ⟨E.symm.trans hR, ⟨⟨(by omega), (fun h0 => by exfalso; omega), (fun h0 => by exfalso; omega), hgN, hgH, hgE, hgL⟩, hI, hS⟩⟩
                        · skip
                          replace E := zIf_t c334 E
                          refine zg_aload_n X 1 rfl dX11_tellOne_260 ?_
                          refine zg_iconst X 1 dX11_tellOne_261 (by decide) (fun v341 _ hv341 => ?_)
                          replace E := zLet_s (zcst hv341 (by decide)) E
                          refine zg_cVv (As := [.int v341]) (st := []) X ha0 rfl (by decide) rfl (t_X11_fail l d L kd κ _ hI a0 ha0 v341  (by omega)) mk_X11_221 mc_X11_fail mz_X11 mi_X11_fail ml_X11_fail (na := 1) ⟨md_X11.1, md_X11.2, by decide +kernel⟩ rfl ⟨by decide, by decide⟩ (Nat.le_of_ble_eq_true rfl) dX11_tellOne_262 (fun t342 hq => ?_)
                          obtain ⟨hF, ht342_fact0, hI, g343⟩ := hq
                          replace E := zLet_s hF E
                          have ft342_11 : (t342.1 a0 11).toInt = (σ.1 a0 11).toInt := by rw [g343.2.1 11 (by decide)]
                          have ft342_12 : (t342.1 a0 12).toInt = (σ.1 a0 12).toInt := by rw [g343.2.1 12 (by decide)]
                          have ft342_15 : (t342.1 a0 15).toInt = (σ.1 a0 15).toInt := by rw [g343.2.1 15 (by decide)]
                          have ft342_18 : (t342.1 a0 18).toInt = (σ.1 a0 18).toInt := by rw [g343.2.1 18 (by decide)]
                          have ft342_19 : (t342.1 a0 19).toInt = (σ.1 a0 19).toInt := by rw [g343.2.1 19 (by decide)]
                          have ft342_32 : (t342.1 a0 32).toInt = (σ.1 a0 32).toInt := by rw [g343.2.1 32 (by decide)]
                          have ft342_38 : (t342.1 a0 38).toInt = (σ.1 a0 38).toInt := by rw [g343.2.1 38 (by decide)]
                          have ft342_41 : (t342.1 a0 41).toInt = (σ.1 a0 41).toInt := by rw [g343.2.1 41 (by decide)]
                          have ft342_42 : (t342.1 a0 42).toInt = (σ.1 a0 42).toInt := by rw [g343.2.1 42 (by decide)]
                          have hS := hS.tr g343 (by decide) (by decide)
                          have ut342_5 := zp_same hI ha0 g343 5 rfl (by decide) (by decide)
                          have at342_5 := ut342_5
                          have gNt342 := gN.same hI ha0 g343 (by decide) hgN
                          have gHt342 := gH.same hI ha0 g343 (by decide) hgH
                          have gEt342 := gE.same hI ha0 g343 (by decide) hgE
                          have gLt342 := gL.same hI ha0 g343 (by decide) hgL
                          have gPt342 := gP.same hI ha0 g343 (by decide) hgP
                          have gTrt342 := gTr.same hI ha0 g343 (by decide) hgTr
                          have gKt342 := gK.same hI ha0 g343 (by decide) hgK
                          have e344 := g343.v ev330 (by decide)
                          refine zg_aload_n X 1 rfl dX11_tellOne_265 ?_
                          refine fg_X11_206 X hI ha0 dX11_tellOne_266 (fun v345 ev345 hv345 => ?_)
                          replace E := zLet_s ev345 E
                          have kv345 : (t342.1 a0 13).toInt = v345.toInt := by rw [ev345]
                          refine zg_if_le X 273 dX11_tellOne_269 (by decide) (fun c346 => ?_) (fun c346 => ?_)
                          · skip
                            replace E := zIf_f (Int.not_lt.mpr c346) E
                            refine zg_aload_n X 1 rfl dX11_tellOne_273 ?_
                            refine zg_cVv (As := []) (st := []) X ha0 rfl (by decide) rfl (t_X11_goesOn l d L kd κ _ hI a0 ha0   ) mk_X11_227 mc_X11_goesOn mz_X11 mi_X11_goesOn ml_X11_goesOn (na := 0) ⟨md_X11.1, md_X11.2, by decide +kernel⟩ rfl ⟨by decide, by decide⟩ (Nat.le_of_ble_eq_true rfl) dX11_tellOne_274 (fun t347 hq => ?_)
                            obtain ⟨hF, ht347_fact0, hI, g348⟩ := hq
                            replace E := zLet_s hF E
                            have ft347_12 : (t347.1 a0 12).toInt = (t342.1 a0 12).toInt := by rw [g348.2.1 12 (by decide)]
                            have ft347_15 : (t347.1 a0 15).toInt = (t342.1 a0 15).toInt := by rw [g348.2.1 15 (by decide)]
                            have ft347_18 : (t347.1 a0 18).toInt = (t342.1 a0 18).toInt := by rw [g348.2.1 18 (by decide)]
                            have ft347_19 : (t347.1 a0 19).toInt = (t342.1 a0 19).toInt := by rw [g348.2.1 19 (by decide)]
                            have ft347_32 : (t347.1 a0 32).toInt = (t342.1 a0 32).toInt := by rw [g348.2.1 32 (by decide)]
                            have ft347_38 : (t347.1 a0 38).toInt = (t342.1 a0 38).toInt := by rw [g348.2.1 38 (by decide)]
                            have ft347_41 : (t347.1 a0 41).toInt = (t342.1 a0 41).toInt := by rw [g348.2.1 41 (by decide)]
                            have ft347_42 : (t347.1 a0 42).toInt = (t342.1 a0 42).toInt := by rw [g348.2.1 42 (by decide)]
                            have hS := hS.tr g348 (by decide) (by decide)
                            have ut347_5 := zp_same hI ha0 g348 5 rfl (by decide) (by decide)
                            have at347_5 := ut347_5.trans at342_5
                            have gNt347 := gN.same hI ha0 g348 (by decide) gNt342
                            have gHt347 := gH.same hI ha0 g348 (by decide) gHt342
                            have gEt347 := gE.same hI ha0 g348 (by decide) gEt342
                            have gLt347 := gL.same hI ha0 g348 (by decide) gLt342
                            have gPt347 := gP.same hI ha0 g348 (by decide) gPt342
                            have gTrt347 := gTr.same hI ha0 g348 (by decide) gTrt342
                            have gKt347 := gK.same hI ha0 g348 (by decide) gKt342
                            refine zg_aload_n X 1 rfl dX11_tellOne_277 ?_
                            refine zg_iload_n X 0 rfl dX11_tellOne_278 ?_
                            refine zg_cVv (As := [.int v317]) (st := []) X ha0 rfl (by decide) rfl (t_X11_tellLaw l d L kd κ _ hI a0 ha0 v317  (by omega) (by omega) (by omega) (by omega) (by omega) gPt347 gLt347) mk_X11_277 mc_X11_tellLaw mz_X11 mi_X11_tellLaw ml_X11_tellLaw (na := 1) ⟨md_X11.1, md_X11.2, by decide +kernel⟩ rfl ⟨by decide, by decide⟩ (Nat.le_of_ble_eq_true rfl) dX11_tellOne_279 (fun t349 hq => ?_)
                            obtain ⟨hF, ⟨ht349_fact0, ht349_fact1, gLt349⟩, hI, g350⟩ := hq
                            replace E := zLet_s hF E
                            have ft349_15 : (t349.1 a0 15).toInt = (t347.1 a0 15).toInt := by rw [g350.2.1 15 (by decide)]
                            have ft349_18 : (t349.1 a0 18).toInt = (t347.1 a0 18).toInt := by rw [g350.2.1 18 (by decide)]
                            have ft349_19 : (t349.1 a0 19).toInt = (t347.1 a0 19).toInt := by rw [g350.2.1 19 (by decide)]
                            have ft349_41 : (t349.1 a0 41).toInt = (t347.1 a0 41).toInt := by rw [g350.2.1 41 (by decide)]
                            have ft349_42 : (t349.1 a0 42).toInt = (t347.1 a0 42).toInt := by rw [g350.2.1 42 (by decide)]
                            have hS := hS.tr g350 (by decide) (by decide)
                            have ut349_5 := zp_same hI ha0 g350 5 rfl (by decide) (by decide)
                            have at349_5 := ut349_5.trans at347_5
                            have gNt349 := gN.same hI ha0 g350 (by decide) gNt347
                            have gHt349 := gH.same hI ha0 g350 (by decide) gHt347
                            have gEt349 := gE.same hI ha0 g350 (by decide) gEt347
                            have gTrt349 := gTr.same hI ha0 g350 (by decide) gTrt347
                            have gKt349 := gK.same hI ha0 g350 (by decide) gKt347
                            have zgp := ht349_fact1
                            clear ht349_fact1
                            exact ret _ _ _ dX11_tellOne_282 ⟨E.symm.trans hR, ⟨⟨(by omega), (fun h0 => by first | exact True.intro | exact zgp h0), (fun h0 => by first | exact gTrt349 | exact zgt h0), gNt349, gHt349, gEt349, gLt349⟩, hI, hS⟩⟩
                          · skip
                            replace E := zIf_t c346 E
                            exact ret _ _ _ dX11_tellOne_272 ⟨E.symm.trans hR, ⟨⟨(by omega), (fun h0 => by exfalso; omega), (fun h0 => by exfalso; omega), gNt342, gHt342, gEt342, gLt342⟩, hI, hS⟩⟩
set_option maxHeartbeats 4000000 in
set_option maxRecDepth 100000 in
theorem t_X11_read (l : Launch) (d : zD2) (L : List Nat) (kd : Nat → Nat) (κ : Int) (σ : zS) (hI : zJ κ L kd σ) (a0 : Nat) (ha0 : zT L kd a0 11) (hgN : gN a0 σ) (hgH : gH a0 σ) (hgE : gE a0 σ) (hgL : gL a0 σ) (hgK : gK a0 σ) : zMi l yX11_read (Cond.code yX11_read cX11_read 2 (some .int) :: zWL) 7 [.ref a0] d L kd σ (fun v σ2 => (v, σ2) = F_X11_read a0 σ ∧ (((gN a0 σ2) ∧ (gH a0 σ2) ∧ (gE a0 σ2) ∧ (gL a0 σ2) ∧ (gK a0 σ2)) ∧ zJ 0 L kd σ2 ∧ zSame a0 [2, 4, 10, 11, 12, 13, 14, 15, 16, 17, 18, 19, 32, 38, 41, 42, 44, 50, 51, 57, 62] [103, 105, 106, 107, 108, 120, 121, 122, 123, 124, 125, 126, 127, 128, 129, 130, 131, 133, 134, 135, 136, 137, 139, 140, 143, 148, 149, 167] L kd σ σ2)) := by
  refine zMi.of (own := RX11) (by decide +kernel) rfl rfl (Nat.le_of_ble_eq_true rfl) ?_
  intro p e s m args below meth c A Q X ret
  have hS : zSame a0 [2, 4, 10, 11, 12, 13, 14, 15, 16, 17, 18, 19, 32, 38, 41, 42, 44, 50, 51, 57, 62] [103, 105, 106, 107, 108, 120, 121, 122, 123, 124, 125, 126, 127, 128, 129, 130, 131, 133, 134, 135, 136, 137, 139, 140, 143, 148, 149, 167] L kd σ σ := zSame.rf
  refine zg_lv (lv2 := [(0, .ref a0)]) rfl ?_
  have z11 : 0 ≤ (σ.1 a0 11).toInt ∧ (σ.1 a0 11).toInt ≤ 400 := zj_get hI ha0 rfl
  have z12 : 0 ≤ (σ.1 a0 12).toInt ∧ (σ.1 a0 12).toInt ≤ 7 := zj_get hI ha0 rfl
  have z13 : 0 ≤ (σ.1 a0 13).toInt ∧ (σ.1 a0 13).toInt ≤ 2147483647 := zj_get hI ha0 rfl
  have z18 : 0 ≤ (σ.1 a0 18).toInt ∧ (σ.1 a0 18).toInt ≤ 1 := zj_get hI ha0 rfl
  have z19 : 0 ≤ (σ.1 a0 19).toInt ∧ (σ.1 a0 19).toInt ≤ 1 := zj_get hI ha0 rfl
  have z32 : 0 ≤ (σ.1 a0 32).toInt ∧ (σ.1 a0 32).toInt ≤ 260 := zj_get hI ha0 rfl
  have z38 : 0 ≤ (σ.1 a0 38).toInt ∧ (σ.1 a0 38).toInt ≤ 840 := zj_get hI ha0 rfl
  have z41 : 0 ≤ (σ.1 a0 41).toInt ∧ (σ.1 a0 41).toInt ≤ 1 := zj_get hI ha0 rfl
  have z42 : 0 ≤ (σ.1 a0 42).toInt ∧ (σ.1 a0 42).toInt ≤ 11 := zj_get hI ha0 rfl
  obtain ⟨R, hR⟩ : ∃ R, R = F_X11_read a0 σ := ⟨_, rfl⟩
  have E := hR
  unfold F_X11_read at E
  refine zg_aload_n X 0 rfl dX11_read_0 ?_
  refine zg_aload_n X 0 rfl dX11_read_1 ?_
  refine fg_X11_169 X hI ha0 dX11_read_2 (fun v1 ev1 hv1 => ?_)
  replace E := zLet_s ev1 E
  have hkv1 := hI.2.2.1
  refine fp_X11_175 X hI ha0 ⟨by omega, by omega⟩ dX11_read_5 (fun s2 es2 hI => ?_)
  replace E := zLet_s es2 E
  have g3 := (zSame.rf (o := a0) (Wf := [4]) (Wa := []) (L := L) (kd := kd) (σ := σ)).f ha0 es2 rfl
  have fs2_11 : (s2.1 a0 11).toInt = (σ.1 a0 11).toInt := by rw [g3.2.1 11 (by decide)]
  have fs2_12 : (s2.1 a0 12).toInt = (σ.1 a0 12).toInt := by rw [g3.2.1 12 (by decide)]
  have fs2_13 : (s2.1 a0 13).toInt = (σ.1 a0 13).toInt := by rw [g3.2.1 13 (by decide)]
  have fs2_15 : (s2.1 a0 15).toInt = (σ.1 a0 15).toInt := by rw [g3.2.1 15 (by decide)]
  have fs2_18 : (s2.1 a0 18).toInt = (σ.1 a0 18).toInt := by rw [g3.2.1 18 (by decide)]
  have fs2_19 : (s2.1 a0 19).toInt = (σ.1 a0 19).toInt := by rw [g3.2.1 19 (by decide)]
  have fs2_32 : (s2.1 a0 32).toInt = (σ.1 a0 32).toInt := by rw [g3.2.1 32 (by decide)]
  have fs2_38 : (s2.1 a0 38).toInt = (σ.1 a0 38).toInt := by rw [g3.2.1 38 (by decide)]
  have fs2_41 : (s2.1 a0 41).toInt = (σ.1 a0 41).toInt := by rw [g3.2.1 41 (by decide)]
  have fs2_42 : (s2.1 a0 42).toInt = (σ.1 a0 42).toInt := by rw [g3.2.1 42 (by decide)]
  have fs2_57 : (s2.1 a0 57).toInt = (σ.1 a0 57).toInt := by rw [g3.2.1 57 (by decide)]
  have hS := hS.tr g3 (by decide) (by decide)
  have us2_21 := zp_same hI ha0 g3 21 rfl (by decide) (by decide)
  have as2_21 := us2_21
  have us2_22 := zp_same hI ha0 g3 22 rfl (by decide) (by decide)
  have as2_22 := us2_22
  have us2_30 := zp_same hI ha0 g3 30 rfl (by decide) (by decide)
  have as2_30 := us2_30
  have us2_31 := zp_same hI ha0 g3 31 rfl (by decide) (by decide)
  have as2_31 := us2_31
  have us2_48 := zp_same hI ha0 g3 48 rfl (by decide) (by decide)
  have as2_48 := us2_48
  have us2_49 := zp_same hI ha0 g3 49 rfl (by decide) (by decide)
  have as2_49 := us2_49
  have us2_67 := zp_same hI ha0 g3 67 rfl (by decide) (by decide)
  have as2_67 := us2_67
  have gNs2 := gN.same hI ha0 g3 (by decide) hgN
  have gHs2 := gH.same hI ha0 g3 (by decide) hgH
  have gEs2 := gE.same hI ha0 g3 (by decide) hgE
  have gLs2 := gL.same hI ha0 g3 (by decide) hgL
  have gKs2 := gK.same hI ha0 g3 (by decide) hgK
  have e4 := g3.v ev1 (by decide)
  have fs2_4 : (s2.1 a0 4).toInt = v1.toInt := by rw [es2]; exact congrArg _ (zu_s _ _ _ _)
  have e5 : v1 = s2.1 a0 4 := by rw [es2]; exact zm_s
  refine zg_iconst X 0 dX11_read_8 (by decide) (fun v6 _ hv6 => ?_)
  replace E := zLet_s (zcst hv6 (by decide)) E
  refine zg_istore_n X [(1, .int v6), (0, .ref a0)] dX11_read_9 (by decide) rfl ?_
  have Lp8 : ∀ (nLp8 : Nat) (τ8 : zS) (x7 : Int32), zJ κ L kd τ8 → zSame a0 [2, 4, 10, 11, 12, 13, 14, 15, 16, 17, 18, 19, 32, 38, 41, 42, 44, 50, 51, 57, 62] [103, 105, 106, 107, 108, 120, 121, 122, 123, 124, 125, 126, 127, 128, 129, 130, 131, 133, 134, 135, 136, 137, 139, 140, 143, 148, 149, 167] L kd σ τ8 → gE a0 τ8 → gH a0 τ8 → gK a0 τ8 → gL a0 τ8 → gN a0 τ8 → R = F_X11_read_10 a0  nLp8 x7 τ8 → 0 ≤ x7.toInt ∧ x7.toInt ≤ 2000 → (2000) - x7.toInt + 1 < (nLp8 : Int) → zG d L kd A 2 p l e (k2_rm 7 (100 * 7)) s m args below meth c Q τ8 10 [(1, .int x7), (0, .ref a0)] [] := by
    intro nLp8
    induction nLp8 with
    | zero => intro τ8 x7 hI hS gE_Lp8 gH_Lp8 gK_Lp8 gL_Lp8 gN_Lp8 E  hxLp8 hm ; exact absurd hm (by omega)
    | succ nLp8 ihLp8 =>
      intro τ8 x7 hI hS gE_Lp8 gH_Lp8 gK_Lp8 gL_Lp8 gN_Lp8 E  hxLp8 hmLp8 
      rw [F_X11_read_10] at E
      refine zg_iload_n X 0 rfl dX11_read_10 ?_
      refine zg_aload_n X 1 rfl dX11_read_11 ?_
      refine fg_X11_175 X hI ha0 dX11_read_12 (fun v9 ev9 hv9 => ?_)
      replace E := zLet_s ev9 E
      refine zg_icmp_ge X 36 dX11_read_15 (by decide) (fun c10 => ?_) (fun c10 => ?_)
      · skip
        replace E := zIf_f (Int.not_lt.mpr c10) E
        refine zg_aload_n X 1 rfl dX11_read_36 ?_
        refine zg_iconst X 0 dX11_read_37 (by decide) (fun v11 _ hv11 => ?_)
        replace E := zLet_s (zcst hv11 (by decide)) E
        refine fq_X11_169 X ha0 dX11_read_38 (fun s12 es12 => ?_)
        replace E := zLet_s es12 E
        have hI : zJ v11.toInt L kd s12 := by rw [es12]; exact zj_taped hI ha0 (by omega) (by omega)
        have g13 := (zSame.rf (o := a0) (Wf := [2]) (Wa := []) (L := L) (kd := kd) (σ := τ8)).f ha0 es12 rfl
        have fs12_11 : (s12.1 a0 11).toInt = (τ8.1 a0 11).toInt := by rw [g13.2.1 11 (by decide)]
        have fs12_12 : (s12.1 a0 12).toInt = (τ8.1 a0 12).toInt := by rw [g13.2.1 12 (by decide)]
        have fs12_13 : (s12.1 a0 13).toInt = (τ8.1 a0 13).toInt := by rw [g13.2.1 13 (by decide)]
        have fs12_15 : (s12.1 a0 15).toInt = (τ8.1 a0 15).toInt := by rw [g13.2.1 15 (by decide)]
        have fs12_18 : (s12.1 a0 18).toInt = (τ8.1 a0 18).toInt := by rw [g13.2.1 18 (by decide)]
        have fs12_19 : (s12.1 a0 19).toInt = (τ8.1 a0 19).toInt := by rw [g13.2.1 19 (by decide)]
        have fs12_32 : (s12.1 a0 32).toInt = (τ8.1 a0 32).toInt := by rw [g13.2.1 32 (by decide)]
        have fs12_38 : (s12.1 a0 38).toInt = (τ8.1 a0 38).toInt := by rw [g13.2.1 38 (by decide)]
        have fs12_41 : (s12.1 a0 41).toInt = (τ8.1 a0 41).toInt := by rw [g13.2.1 41 (by decide)]
        have fs12_42 : (s12.1 a0 42).toInt = (τ8.1 a0 42).toInt := by rw [g13.2.1 42 (by decide)]
        have fs12_57 : (s12.1 a0 57).toInt = (τ8.1 a0 57).toInt := by rw [g13.2.1 57 (by decide)]
        have hS := hS.tr g13 (by decide) (by decide)
        have us12_21 := zp_same hI ha0 g13 21 rfl (by decide) (by decide)
        have as12_21 := us12_21
        have us12_22 := zp_same hI ha0 g13 22 rfl (by decide) (by decide)
        have as12_22 := us12_22
        have us12_30 := zp_same hI ha0 g13 30 rfl (by decide) (by decide)
        have as12_30 := us12_30
        have us12_31 := zp_same hI ha0 g13 31 rfl (by decide) (by decide)
        have as12_31 := us12_31
        have us12_48 := zp_same hI ha0 g13 48 rfl (by decide) (by decide)
        have as12_48 := us12_48
        have us12_49 := zp_same hI ha0 g13 49 rfl (by decide) (by decide)
        have as12_49 := us12_49
        have us12_67 := zp_same hI ha0 g13 67 rfl (by decide) (by decide)
        have as12_67 := us12_67
        have gEs12 := gE.same hI ha0 g13 (by decide) gE_Lp8
        have gHs12 := gH.same hI ha0 g13 (by decide) gH_Lp8
        have gKs12 := gK.same hI ha0 g13 (by decide) gK_Lp8
        have gLs12 := gL.same hI ha0 g13 (by decide) gL_Lp8
        have gNs12 := gN.same hI ha0 g13 (by decide) gN_Lp8
        have e14 := g13.v ev9 (by decide)
        have fs12_2 : (s12.1 a0 2).toInt = v11.toInt := by rw [es12]; exact congrArg _ (zu_s _ _ _ _)
        have e15 : v11 = s12.1 a0 2 := by rw [es12]; exact zm_s
        refine zg_aload_n X 1 rfl dX11_read_41 ?_
        refine zg_cVv (As := []) (st := []) X ha0 rfl (by decide) rfl (t_X11_cut l d L kd v11.toInt _ hI a0 ha0    gKs12) mk_X11_230 mc_X11_cut mz_X11 mi_X11_cut ml_X11_cut (na := 0) ⟨md_X11.1, md_X11.2, by decide +kernel⟩ rfl ⟨by decide, by decide⟩ (Nat.le_of_ble_eq_true rfl) dX11_read_42 (fun t16 hq => ?_)
        obtain ⟨hF, gKt16, hI, g17⟩ := hq
        replace E := zLet_s hF E
        have ft16_11 : (t16.1 a0 11).toInt = (s12.1 a0 11).toInt := by rw [g17.2.1 11 (by decide)]
        have ft16_12 : (t16.1 a0 12).toInt = (s12.1 a0 12).toInt := by rw [g17.2.1 12 (by decide)]
        have ft16_13 : (t16.1 a0 13).toInt = (s12.1 a0 13).toInt := by rw [g17.2.1 13 (by decide)]
        have ft16_15 : (t16.1 a0 15).toInt = (s12.1 a0 15).toInt := by rw [g17.2.1 15 (by decide)]
        have ft16_18 : (t16.1 a0 18).toInt = (s12.1 a0 18).toInt := by rw [g17.2.1 18 (by decide)]
        have ft16_19 : (t16.1 a0 19).toInt = (s12.1 a0 19).toInt := by rw [g17.2.1 19 (by decide)]
        have ft16_32 : (t16.1 a0 32).toInt = (s12.1 a0 32).toInt := by rw [g17.2.1 32 (by decide)]
        have ft16_38 : (t16.1 a0 38).toInt = (s12.1 a0 38).toInt := by rw [g17.2.1 38 (by decide)]
        have ft16_41 : (t16.1 a0 41).toInt = (s12.1 a0 41).toInt := by rw [g17.2.1 41 (by decide)]
        have ft16_42 : (t16.1 a0 42).toInt = (s12.1 a0 42).toInt := by rw [g17.2.1 42 (by decide)]
        have ft16_57 : (t16.1 a0 57).toInt = (s12.1 a0 57).toInt := by rw [g17.2.1 57 (by decide)]
        have hS := hS.tr g17 (by decide) (by decide)
        have ut16_21 := zp_same hI ha0 g17 21 rfl (by decide) (by decide)
        have at16_21 := ut16_21.trans as12_21
        have ut16_22 := zp_same hI ha0 g17 22 rfl (by decide) (by decide)
        have at16_22 := ut16_22.trans as12_22
        have ut16_30 := zp_same hI ha0 g17 30 rfl (by decide) (by decide)
        have at16_30 := ut16_30.trans as12_30
        have ut16_31 := zp_same hI ha0 g17 31 rfl (by decide) (by decide)
        have at16_31 := ut16_31.trans as12_31
        have ut16_48 := zp_same hI ha0 g17 48 rfl (by decide) (by decide)
        have at16_48 := ut16_48.trans as12_48
        have ut16_49 := zp_same hI ha0 g17 49 rfl (by decide) (by decide)
        have at16_49 := ut16_49.trans as12_49
        have ut16_67 := zp_same hI ha0 g17 67 rfl (by decide) (by decide)
        have at16_67 := ut16_67.trans as12_67
        have gEt16 := gE.same hI ha0 g17 (by decide) gEs12
        have gHt16 := gH.same hI ha0 g17 (by decide) gHs12
        have gLt16 := gL.same hI ha0 g17 (by decide) gLs12
        have gNt16 := gN.same hI ha0 g17 (by decide) gNs12
        have e18 := g17.v e14 (by decide)
        have e19 := g17.v e15 (by decide)
        refine zg_aload_n X 1 rfl dX11_read_45 ?_
        refine zg_iconst X 0 dX11_read_46 (by decide) (fun v20 _ hv20 => ?_)
        replace E := zLet_s (zcst hv20 (by decide)) E
        refine fp_X11_209 X hI ha0 ⟨by omega, by omega⟩ dX11_read_47 (fun s21 es21 hI => ?_)
        replace E := zLet_s es21 E
        have g22 := (zSame.rf (o := a0) (Wf := [11]) (Wa := []) (L := L) (kd := kd) (σ := t16)).f ha0 es21 rfl
        have fs21_12 : (s21.1 a0 12).toInt = (t16.1 a0 12).toInt := by rw [g22.2.1 12 (by decide)]
        have fs21_13 : (s21.1 a0 13).toInt = (t16.1 a0 13).toInt := by rw [g22.2.1 13 (by decide)]
        have fs21_15 : (s21.1 a0 15).toInt = (t16.1 a0 15).toInt := by rw [g22.2.1 15 (by decide)]
        have fs21_18 : (s21.1 a0 18).toInt = (t16.1 a0 18).toInt := by rw [g22.2.1 18 (by decide)]
        have fs21_19 : (s21.1 a0 19).toInt = (t16.1 a0 19).toInt := by rw [g22.2.1 19 (by decide)]
        have fs21_32 : (s21.1 a0 32).toInt = (t16.1 a0 32).toInt := by rw [g22.2.1 32 (by decide)]
        have fs21_38 : (s21.1 a0 38).toInt = (t16.1 a0 38).toInt := by rw [g22.2.1 38 (by decide)]
        have fs21_41 : (s21.1 a0 41).toInt = (t16.1 a0 41).toInt := by rw [g22.2.1 41 (by decide)]
        have fs21_42 : (s21.1 a0 42).toInt = (t16.1 a0 42).toInt := by rw [g22.2.1 42 (by decide)]
        have fs21_57 : (s21.1 a0 57).toInt = (t16.1 a0 57).toInt := by rw [g22.2.1 57 (by decide)]
        have hS := hS.tr g22 (by decide) (by decide)
        have us21_21 := zp_same hI ha0 g22 21 rfl (by decide) (by decide)
        have as21_21 := us21_21.trans at16_21
        have us21_22 := zp_same hI ha0 g22 22 rfl (by decide) (by decide)
        have as21_22 := us21_22.trans at16_22
        have us21_30 := zp_same hI ha0 g22 30 rfl (by decide) (by decide)
        have as21_30 := us21_30.trans at16_30
        have us21_31 := zp_same hI ha0 g22 31 rfl (by decide) (by decide)
        have as21_31 := us21_31.trans at16_31
        have us21_48 := zp_same hI ha0 g22 48 rfl (by decide) (by decide)
        have as21_48 := us21_48.trans at16_48
        have us21_49 := zp_same hI ha0 g22 49 rfl (by decide) (by decide)
        have as21_49 := us21_49.trans at16_49
        have us21_67 := zp_same hI ha0 g22 67 rfl (by decide) (by decide)
        have as21_67 := us21_67.trans at16_67
        have gEs21 := gE.same hI ha0 g22 (by decide) gEt16
        have gHs21 := gH.same hI ha0 g22 (by decide) gHt16
        have gLs21 := gL.same hI ha0 g22 (by decide) gLt16
        have gNs21 := gN.same hI ha0 g22 (by decide) gNt16
        have gKs21 := gK.same hI ha0 g22 (by decide) gKt16
        have e23 := g22.v e18 (by decide)
        have e24 := g22.v e19 (by decide)
        have fs21_11 : (s21.1 a0 11).toInt = v20.toInt := by rw [es21]; exact congrArg _ (zu_s _ _ _ _)
        have e25 : v20 = s21.1 a0 11 := by rw [es21]; exact zm_s
        refine zg_aload_n X 1 rfl dX11_read_50 ?_
        refine zg_iconst X 0 dX11_read_51 (by decide) (fun v26 _ hv26 => ?_)
        replace E := zLet_s (zcst hv26 (by decide)) E
        refine fp_X11_233 X hI ha0 ⟨by omega, by omega⟩ dX11_read_52 (fun s27 es27 hI => ?_)
        replace E := zLet_s es27 E
        have g28 := (zSame.rf (o := a0) (Wf := [12]) (Wa := []) (L := L) (kd := kd) (σ := s21)).f ha0 es27 rfl
        have fs27_11 : (s27.1 a0 11).toInt = (s21.1 a0 11).toInt := by rw [g28.2.1 11 (by decide)]
        have fs27_13 : (s27.1 a0 13).toInt = (s21.1 a0 13).toInt := by rw [g28.2.1 13 (by decide)]
        have fs27_15 : (s27.1 a0 15).toInt = (s21.1 a0 15).toInt := by rw [g28.2.1 15 (by decide)]
        have fs27_18 : (s27.1 a0 18).toInt = (s21.1 a0 18).toInt := by rw [g28.2.1 18 (by decide)]
        have fs27_19 : (s27.1 a0 19).toInt = (s21.1 a0 19).toInt := by rw [g28.2.1 19 (by decide)]
        have fs27_32 : (s27.1 a0 32).toInt = (s21.1 a0 32).toInt := by rw [g28.2.1 32 (by decide)]
        have fs27_38 : (s27.1 a0 38).toInt = (s21.1 a0 38).toInt := by rw [g28.2.1 38 (by decide)]
        have fs27_41 : (s27.1 a0 41).toInt = (s21.1 a0 41).toInt := by rw [g28.2.1 41 (by decide)]
        have fs27_42 : (s27.1 a0 42).toInt = (s21.1 a0 42).toInt := by rw [g28.2.1 42 (by decide)]
        have fs27_57 : (s27.1 a0 57).toInt = (s21.1 a0 57).toInt := by rw [g28.2.1 57 (by decide)]
        have hS := hS.tr g28 (by decide) (by decide)
        have us27_21 := zp_same hI ha0 g28 21 rfl (by decide) (by decide)
        have as27_21 := us27_21.trans as21_21
        have us27_22 := zp_same hI ha0 g28 22 rfl (by decide) (by decide)
        have as27_22 := us27_22.trans as21_22
        have us27_30 := zp_same hI ha0 g28 30 rfl (by decide) (by decide)
        have as27_30 := us27_30.trans as21_30
        have us27_31 := zp_same hI ha0 g28 31 rfl (by decide) (by decide)
        have as27_31 := us27_31.trans as21_31
        have us27_48 := zp_same hI ha0 g28 48 rfl (by decide) (by decide)
        have as27_48 := us27_48.trans as21_48
        have us27_49 := zp_same hI ha0 g28 49 rfl (by decide) (by decide)
        have as27_49 := us27_49.trans as21_49
        have us27_67 := zp_same hI ha0 g28 67 rfl (by decide) (by decide)
        have as27_67 := us27_67.trans as21_67
        have gEs27 := gE.same hI ha0 g28 (by decide) gEs21
        have gHs27 := gH.same hI ha0 g28 (by decide) gHs21
        have gLs27 := gL.same hI ha0 g28 (by decide) gLs21
        have gNs27 := gN.same hI ha0 g28 (by decide) gNs21
        have gKs27 := gK.same hI ha0 g28 (by decide) gKs21
        have e29 := g28.v e23 (by decide)
        have e30 := g28.v e24 (by decide)
        have e31 := g28.v e25 (by decide)
        have fs27_12 : (s27.1 a0 12).toInt = v26.toInt := by rw [es27]; exact congrArg _ (zu_s _ _ _ _)
        have e32 : v26 = s27.1 a0 12 := by rw [es27]; exact zm_s
        refine zg_aload_n X 1 rfl dX11_read_55 ?_
        refine zg_iconst X 0 dX11_read_56 (by decide) (fun v33 _ hv33 => ?_)
        replace E := zLet_s (zcst hv33 (by decide)) E
        have zzz34 := zb_rng v33
        refine fp_X11_206 X hI ha0 ⟨by omega, by omega⟩ dX11_read_57 (fun s35 es35 hI => ?_)
        replace E := zLet_s es35 E
        have g36 := (zSame.rf (o := a0) (Wf := [13]) (Wa := []) (L := L) (kd := kd) (σ := s27)).f ha0 es35 rfl
        have fs35_11 : (s35.1 a0 11).toInt = (s27.1 a0 11).toInt := by rw [g36.2.1 11 (by decide)]
        have fs35_12 : (s35.1 a0 12).toInt = (s27.1 a0 12).toInt := by rw [g36.2.1 12 (by decide)]
        have fs35_15 : (s35.1 a0 15).toInt = (s27.1 a0 15).toInt := by rw [g36.2.1 15 (by decide)]
        have fs35_18 : (s35.1 a0 18).toInt = (s27.1 a0 18).toInt := by rw [g36.2.1 18 (by decide)]
        have fs35_19 : (s35.1 a0 19).toInt = (s27.1 a0 19).toInt := by rw [g36.2.1 19 (by decide)]
        have fs35_32 : (s35.1 a0 32).toInt = (s27.1 a0 32).toInt := by rw [g36.2.1 32 (by decide)]
        have fs35_38 : (s35.1 a0 38).toInt = (s27.1 a0 38).toInt := by rw [g36.2.1 38 (by decide)]
        have fs35_41 : (s35.1 a0 41).toInt = (s27.1 a0 41).toInt := by rw [g36.2.1 41 (by decide)]
        have fs35_42 : (s35.1 a0 42).toInt = (s27.1 a0 42).toInt := by rw [g36.2.1 42 (by decide)]
        have fs35_57 : (s35.1 a0 57).toInt = (s27.1 a0 57).toInt := by rw [g36.2.1 57 (by decide)]
        have hS := hS.tr g36 (by decide) (by decide)
        have us35_21 := zp_same hI ha0 g36 21 rfl (by decide) (by decide)
        have as35_21 := us35_21.trans as27_21
        have us35_22 := zp_same hI ha0 g36 22 rfl (by decide) (by decide)
        have as35_22 := us35_22.trans as27_22
        have us35_30 := zp_same hI ha0 g36 30 rfl (by decide) (by decide)
        have as35_30 := us35_30.trans as27_30
        have us35_31 := zp_same hI ha0 g36 31 rfl (by decide) (by decide)
        have as35_31 := us35_31.trans as27_31
        have us35_48 := zp_same hI ha0 g36 48 rfl (by decide) (by decide)
        have as35_48 := us35_48.trans as27_48
        have us35_49 := zp_same hI ha0 g36 49 rfl (by decide) (by decide)
        have as35_49 := us35_49.trans as27_49
        have us35_67 := zp_same hI ha0 g36 67 rfl (by decide) (by decide)
        have as35_67 := us35_67.trans as27_67
        have gEs35 := gE.same hI ha0 g36 (by decide) gEs27
        have gHs35 := gH.same hI ha0 g36 (by decide) gHs27
        have gLs35 := gL.same hI ha0 g36 (by decide) gLs27
        have gNs35 := gN.same hI ha0 g36 (by decide) gNs27
        have gKs35 := gK.same hI ha0 g36 (by decide) gKs27
        have e37 := g36.v e29 (by decide)
        have e38 := g36.v e30 (by decide)
        have e39 := g36.v e31 (by decide)
        have e40 := g36.v e32 (by decide)
        have fs35_13 : (s35.1 a0 13).toInt = v33.toInt := by rw [es35]; exact congrArg _ (zu_s _ _ _ _)
        have e41 : v33 = s35.1 a0 13 := by rw [es35]; exact zm_s
        refine zg_aload_n X 1 rfl dX11_read_60 ?_
        refine zg_iconst X 0 dX11_read_61 (by decide) (fun v42 _ hv42 => ?_)
        replace E := zLet_s (zcst hv42 (by decide)) E
        refine fp_X11_215 X hI ha0 (zb_rng _) dX11_read_62 (fun s43 es43 hI => ?_)
        replace E := zLet_s es43 E
        have g44 := (zSame.rf (o := a0) (Wf := [15]) (Wa := []) (L := L) (kd := kd) (σ := s35)).f ha0 es43 rfl
        have fs43_11 : (s43.1 a0 11).toInt = (s35.1 a0 11).toInt := by rw [g44.2.1 11 (by decide)]
        have fs43_12 : (s43.1 a0 12).toInt = (s35.1 a0 12).toInt := by rw [g44.2.1 12 (by decide)]
        have fs43_13 : (s43.1 a0 13).toInt = (s35.1 a0 13).toInt := by rw [g44.2.1 13 (by decide)]
        have fs43_18 : (s43.1 a0 18).toInt = (s35.1 a0 18).toInt := by rw [g44.2.1 18 (by decide)]
        have fs43_19 : (s43.1 a0 19).toInt = (s35.1 a0 19).toInt := by rw [g44.2.1 19 (by decide)]
        have fs43_32 : (s43.1 a0 32).toInt = (s35.1 a0 32).toInt := by rw [g44.2.1 32 (by decide)]
        have fs43_38 : (s43.1 a0 38).toInt = (s35.1 a0 38).toInt := by rw [g44.2.1 38 (by decide)]
        have fs43_41 : (s43.1 a0 41).toInt = (s35.1 a0 41).toInt := by rw [g44.2.1 41 (by decide)]
        have fs43_42 : (s43.1 a0 42).toInt = (s35.1 a0 42).toInt := by rw [g44.2.1 42 (by decide)]
        have fs43_57 : (s43.1 a0 57).toInt = (s35.1 a0 57).toInt := by rw [g44.2.1 57 (by decide)]
        have hS := hS.tr g44 (by decide) (by decide)
        have us43_21 := zp_same hI ha0 g44 21 rfl (by decide) (by decide)
        have as43_21 := us43_21.trans as35_21
        have us43_22 := zp_same hI ha0 g44 22 rfl (by decide) (by decide)
        have as43_22 := us43_22.trans as35_22
        have us43_30 := zp_same hI ha0 g44 30 rfl (by decide) (by decide)
        have as43_30 := us43_30.trans as35_30
        have us43_31 := zp_same hI ha0 g44 31 rfl (by decide) (by decide)
        have as43_31 := us43_31.trans as35_31
        have us43_48 := zp_same hI ha0 g44 48 rfl (by decide) (by decide)
        have as43_48 := us43_48.trans as35_48
        have us43_49 := zp_same hI ha0 g44 49 rfl (by decide) (by decide)
        have as43_49 := us43_49.trans as35_49
        have us43_67 := zp_same hI ha0 g44 67 rfl (by decide) (by decide)
        have as43_67 := us43_67.trans as35_67
        have gEs43 := gE.same hI ha0 g44 (by decide) gEs35
        have gHs43 := gH.same hI ha0 g44 (by decide) gHs35
        have gLs43 := gL.same hI ha0 g44 (by decide) gLs35
        have gNs43 := gN.same hI ha0 g44 (by decide) gNs35
        have gKs43 := gK.same hI ha0 g44 (by decide) gKs35
        have e45 := g44.v e37 (by decide)
        have e46 := g44.v e38 (by decide)
        have e47 := g44.v e39 (by decide)
        have e48 := g44.v e40 (by decide)
        have e49 := g44.v e41 (by decide)
        have fs43_15 : (s43.1 a0 15).toInt = v42.toInt := by rw [es43]; exact congrArg _ (zu_s _ _ _ _)
        have e50 : v42 = s43.1 a0 15 := by rw [es43]; exact zm_s
        refine zg_aload_n X 1 rfl dX11_read_65 ?_
        refine zg_iconst X 1 dX11_read_66 (by decide) (fun v51 _ hv51 => ?_)
        replace E := zLet_s (zcst hv51 (by decide)) E
        refine zg_aload_n X 1 rfl dX11_read_67 ?_
        refine fg_X11_236 X hI ha0 dX11_read_68 (fun v52 ev52 hv52 => ?_)
        replace E := zLet_s ev52 E
        have kv52 : (s43.1 a0 18).toInt = v52.toInt := by rw [ev52]
        refine zg_isub X dX11_read_71 (by omega) (by omega) (fun v53 ev53 hv53 => ?_)
        replace E := zLet_s ev53 E
        refine fp_X11_239 X hI ha0 ⟨by omega, by omega⟩ dX11_read_72 (fun s54 es54 hI => ?_)
        replace E := zLet_s es54 E
        have g55 := (zSame.rf (o := a0) (Wf := [19]) (Wa := []) (L := L) (kd := kd) (σ := s43)).f ha0 es54 rfl
        have fs54_11 : (s54.1 a0 11).toInt = (s43.1 a0 11).toInt := by rw [g55.2.1 11 (by decide)]
        have fs54_12 : (s54.1 a0 12).toInt = (s43.1 a0 12).toInt := by rw [g55.2.1 12 (by decide)]
        have fs54_13 : (s54.1 a0 13).toInt = (s43.1 a0 13).toInt := by rw [g55.2.1 13 (by decide)]
        have fs54_15 : (s54.1 a0 15).toInt = (s43.1 a0 15).toInt := by rw [g55.2.1 15 (by decide)]
        have fs54_18 : (s54.1 a0 18).toInt = (s43.1 a0 18).toInt := by rw [g55.2.1 18 (by decide)]
        have fs54_32 : (s54.1 a0 32).toInt = (s43.1 a0 32).toInt := by rw [g55.2.1 32 (by decide)]
        have fs54_38 : (s54.1 a0 38).toInt = (s43.1 a0 38).toInt := by rw [g55.2.1 38 (by decide)]
        have fs54_41 : (s54.1 a0 41).toInt = (s43.1 a0 41).toInt := by rw [g55.2.1 41 (by decide)]
        have fs54_42 : (s54.1 a0 42).toInt = (s43.1 a0 42).toInt := by rw [g55.2.1 42 (by decide)]
        have fs54_57 : (s54.1 a0 57).toInt = (s43.1 a0 57).toInt := by rw [g55.2.1 57 (by decide)]
        have hS := hS.tr g55 (by decide) (by decide)
        have us54_21 := zp_same hI ha0 g55 21 rfl (by decide) (by decide)
        have as54_21 := us54_21.trans as43_21
        have us54_22 := zp_same hI ha0 g55 22 rfl (by decide) (by decide)
        have as54_22 := us54_22.trans as43_22
        have us54_30 := zp_same hI ha0 g55 30 rfl (by decide) (by decide)
        have as54_30 := us54_30.trans as43_30
        have us54_31 := zp_same hI ha0 g55 31 rfl (by decide) (by decide)
        have as54_31 := us54_31.trans as43_31
        have us54_48 := zp_same hI ha0 g55 48 rfl (by decide) (by decide)
        have as54_48 := us54_48.trans as43_48
        have us54_49 := zp_same hI ha0 g55 49 rfl (by decide) (by decide)
        have as54_49 := us54_49.trans as43_49
        have us54_67 := zp_same hI ha0 g55 67 rfl (by decide) (by decide)
        have as54_67 := us54_67.trans as43_67
        have gEs54 := gE.same hI ha0 g55 (by decide) gEs43
        have gHs54 := gH.same hI ha0 g55 (by decide) gHs43
        have gLs54 := gL.same hI ha0 g55 (by decide) gLs43
        have gNs54 := gN.same hI ha0 g55 (by decide) gNs43
        have gKs54 := gK.same hI ha0 g55 (by decide) gKs43
        have e56 := g55.v e45 (by decide)
        have e57 := g55.v e46 (by decide)
        have e58 := g55.v e47 (by decide)
        have e59 := g55.v e48 (by decide)
        have e60 := g55.v e49 (by decide)
        have e61 := g55.v e50 (by decide)
        have e62 := g55.v ev52 (by decide)
        have fs54_19 : (s54.1 a0 19).toInt = v53.toInt := by rw [es54]; exact congrArg _ (zu_s _ _ _ _)
        have e63 : v53 = s54.1 a0 19 := by rw [es54]; exact zm_s
        refine zg_aload_n X 1 rfl dX11_read_75 ?_
        refine zg_aload_n X 1 rfl dX11_read_76 ?_
        refine fg_X11_239 X hI ha0 dX11_read_77 (fun v64 ev64 hv64 => ?_)
        replace E := zLet_s ev64 E
        have kv64 : (s54.1 a0 19).toInt = v64.toInt := by rw [ev64]
        have mv64 : v64.toInt = v53.toInt := by rw [ev64, ← e63]
        refine zg_cVv (As := [.int v64]) (st := []) X ha0 rfl (by decide) rfl (t_X11_plain l d L kd v11.toInt _ hI a0 ha0 v64  (by omega)) mk_X11_155 mc_X11_plain mz_X11 mi_X11_plain ml_X11_plain (na := 1) ⟨md_X11.1, md_X11.2, by decide +kernel⟩ rfl ⟨by decide, by decide⟩ (Nat.le_of_ble_eq_true rfl) dX11_read_80 (fun t65 hq => ?_)
        obtain ⟨hF, ⟨ht65_fact0, ht65_fact1, ht65_fact2, ht65_fact3⟩, hI, g66⟩ := hq
        replace E := zLet_s hF E
        have ft65_11 : (t65.1 a0 11).toInt = (s54.1 a0 11).toInt := by rw [g66.2.1 11 (by decide)]
        have ft65_12 : (t65.1 a0 12).toInt = (s54.1 a0 12).toInt := by rw [g66.2.1 12 (by decide)]
        have ft65_13 : (t65.1 a0 13).toInt = (s54.1 a0 13).toInt := by rw [g66.2.1 13 (by decide)]
        have ft65_15 : (t65.1 a0 15).toInt = (s54.1 a0 15).toInt := by rw [g66.2.1 15 (by decide)]
        have ft65_18 : (t65.1 a0 18).toInt = (s54.1 a0 18).toInt := by rw [g66.2.1 18 (by decide)]
        have ft65_19 : (t65.1 a0 19).toInt = (s54.1 a0 19).toInt := by rw [g66.2.1 19 (by decide)]
        have ft65_32 : (t65.1 a0 32).toInt = (s54.1 a0 32).toInt := by rw [g66.2.1 32 (by decide)]
        have ft65_38 : (t65.1 a0 38).toInt = (s54.1 a0 38).toInt := by rw [g66.2.1 38 (by decide)]
        have ft65_41 : (t65.1 a0 41).toInt = (s54.1 a0 41).toInt := by rw [g66.2.1 41 (by decide)]
        have ft65_42 : (t65.1 a0 42).toInt = (s54.1 a0 42).toInt := by rw [g66.2.1 42 (by decide)]
        have ft65_57 : (t65.1 a0 57).toInt = (s54.1 a0 57).toInt := by rw [g66.2.1 57 (by decide)]
        have hS := hS.tr g66 (by decide) (by decide)
        have ut65_22 := zp_same hI ha0 g66 22 rfl (by decide) (by decide)
        have at65_22 := ut65_22.trans as54_22
        have ut65_48 := zp_same hI ha0 g66 48 rfl (by decide) (by decide)
        have at65_48 := ut65_48.trans as54_48
        have ut65_49 := zp_same hI ha0 g66 49 rfl (by decide) (by decide)
        have at65_49 := ut65_49.trans as54_49
        have ut65_67 := zp_same hI ha0 g66 67 rfl (by decide) (by decide)
        have at65_67 := ut65_67.trans as54_67
        have gKt65 := gK.same hI ha0 g66 (by decide) gKs54
        have e67 := g66.v e56 (by decide)
        have e68 := g66.v e57 (by decide)
        have e69 := g66.v e58 (by decide)
        have e70 := g66.v e59 (by decide)
        have e71 := g66.v e60 (by decide)
        have e72 := g66.v e61 (by decide)
        have e73 := g66.v e62 (by decide)
        have e74 := g66.v ev64 (by decide)
        have zP0 := ht65_fact0
        have zP1 := ht65_fact1
        have zP2 := ht65_fact2
        have zP3 := ht65_fact3
        obtain ⟨sd, hsd⟩ : ∃ x : Int, x = v64.toInt := ⟨_, rfl⟩
        rw [← hsd] at zP0 zP1 zP2 zP3
        have zme : zM a0 t65 = zM a0 s54 := by unfold zM; rw [show (t65.1 a0 18).toInt = (s54.1 a0 18).toInt by omega, zP1 _ (by omega) (by omega)]
        have gN_p := gN.sm hI ha0 g66 zme (by decide) gNs54
        have gH_p := gH.sm hI ha0 g66 zme (by decide) gHs54
        have gE_p := gE.sm hI ha0 g66 zme (by decide) gEs54
        have gL_p := gL.rw hI ha0 g66 (by decide) gLs54 (fun k h0 h5 => zP3 _ (by omega) (by omega))
        refine zg_aload_n X 1 rfl dX11_read_83 ?_
        refine zg_sipush X 130 dX11_read_84 (by decide) (fun v75 _ hv75 => ?_)
        replace E := zLet_s (zcst hv75 (by decide)) E
        refine zg_aload_n X 1 rfl dX11_read_87 ?_
        refine fg_X11_239 X hI ha0 dX11_read_88 (fun v76 ev76 hv76 => ?_)
        replace E := zLet_s ev76 E
        have kv76 : (t65.1 a0 19).toInt = v76.toInt := by rw [ev76]
        have mv76 : v76.toInt = v64.toInt := by rw [ev76, ← e74]
        refine zg_imulc X 130 dX11_read_91 (by omega) (by omega) (by omega) (fun v77 ev77 hv77 => ?_)
        replace E := zLet_s ev77 E
        refine fp_X11_242 X hI ha0 ⟨by omega, by omega⟩ dX11_read_92 (fun s78 es78 hI => ?_)
        replace E := zLet_s es78 E
        have g79 := (zSame.rf (o := a0) (Wf := [32]) (Wa := []) (L := L) (kd := kd) (σ := t65)).f ha0 es78 rfl
        have fs78_11 : (s78.1 a0 11).toInt = (t65.1 a0 11).toInt := by rw [g79.2.1 11 (by decide)]
        have fs78_12 : (s78.1 a0 12).toInt = (t65.1 a0 12).toInt := by rw [g79.2.1 12 (by decide)]
        have fs78_13 : (s78.1 a0 13).toInt = (t65.1 a0 13).toInt := by rw [g79.2.1 13 (by decide)]
        have fs78_15 : (s78.1 a0 15).toInt = (t65.1 a0 15).toInt := by rw [g79.2.1 15 (by decide)]
        have fs78_18 : (s78.1 a0 18).toInt = (t65.1 a0 18).toInt := by rw [g79.2.1 18 (by decide)]
        have fs78_19 : (s78.1 a0 19).toInt = (t65.1 a0 19).toInt := by rw [g79.2.1 19 (by decide)]
        have fs78_38 : (s78.1 a0 38).toInt = (t65.1 a0 38).toInt := by rw [g79.2.1 38 (by decide)]
        have fs78_41 : (s78.1 a0 41).toInt = (t65.1 a0 41).toInt := by rw [g79.2.1 41 (by decide)]
        have fs78_42 : (s78.1 a0 42).toInt = (t65.1 a0 42).toInt := by rw [g79.2.1 42 (by decide)]
        have fs78_57 : (s78.1 a0 57).toInt = (t65.1 a0 57).toInt := by rw [g79.2.1 57 (by decide)]
        have hS := hS.tr g79 (by decide) (by decide)
        have us78_21 := zp_same hI ha0 g79 21 rfl (by decide) (by decide)
        have as78_21 := us78_21
        have us78_22 := zp_same hI ha0 g79 22 rfl (by decide) (by decide)
        have as78_22 := us78_22.trans at65_22
        have us78_30 := zp_same hI ha0 g79 30 rfl (by decide) (by decide)
        have as78_30 := us78_30
        have us78_31 := zp_same hI ha0 g79 31 rfl (by decide) (by decide)
        have as78_31 := us78_31
        have us78_48 := zp_same hI ha0 g79 48 rfl (by decide) (by decide)
        have as78_48 := us78_48.trans at65_48
        have us78_49 := zp_same hI ha0 g79 49 rfl (by decide) (by decide)
        have as78_49 := us78_49.trans at65_49
        have us78_67 := zp_same hI ha0 g79 67 rfl (by decide) (by decide)
        have as78_67 := us78_67.trans at65_67
        have gKs78 := gK.same hI ha0 g79 (by decide) gKt65
        have gNs78 := gN.same hI ha0 g79 (by decide) gN_p
        have gHs78 := gH.same hI ha0 g79 (by decide) gH_p
        have gEs78 := gE.same hI ha0 g79 (by decide) gE_p
        have gLs78 := gL.same hI ha0 g79 (by decide) gL_p
        have e80 := g79.v e67 (by decide)
        have e81 := g79.v e68 (by decide)
        have e82 := g79.v e69 (by decide)
        have e83 := g79.v e70 (by decide)
        have e84 := g79.v e71 (by decide)
        have e85 := g79.v e72 (by decide)
        have e86 := g79.v e73 (by decide)
        have e87 := g79.v ev76 (by decide)
        have fs78_32 : (s78.1 a0 32).toInt = v77.toInt := by rw [es78]; exact congrArg _ (zu_s _ _ _ _)
        have e88 : v77 = s78.1 a0 32 := by rw [es78]; exact zm_s
        refine zg_aload_n X 1 rfl dX11_read_95 ?_
        refine zg_sipush X 420 dX11_read_96 (by decide) (fun v89 _ hv89 => ?_)
        replace E := zLet_s (zcst hv89 (by decide)) E
        refine zg_aload_n X 1 rfl dX11_read_99 ?_
        refine fg_X11_239 X hI ha0 dX11_read_100 (fun v90 ev90 hv90 => ?_)
        replace E := zLet_s ev90 E
        have kv90 : (s78.1 a0 19).toInt = v90.toInt := by rw [ev90]
        have mv90 : v90.toInt = v76.toInt := by rw [ev90, ← e87]
        refine zg_imulc X 420 dX11_read_103 (by omega) (by omega) (by omega) (fun v91 ev91 hv91 => ?_)
        replace E := zLet_s ev91 E
        refine fp_X11_245 X hI ha0 ⟨by omega, by omega⟩ dX11_read_104 (fun s92 es92 hI => ?_)
        replace E := zLet_s es92 E
        have g93 := (zSame.rf (o := a0) (Wf := [38]) (Wa := []) (L := L) (kd := kd) (σ := s78)).f ha0 es92 rfl
        have fs92_11 : (s92.1 a0 11).toInt = (s78.1 a0 11).toInt := by rw [g93.2.1 11 (by decide)]
        have fs92_12 : (s92.1 a0 12).toInt = (s78.1 a0 12).toInt := by rw [g93.2.1 12 (by decide)]
        have fs92_13 : (s92.1 a0 13).toInt = (s78.1 a0 13).toInt := by rw [g93.2.1 13 (by decide)]
        have fs92_15 : (s92.1 a0 15).toInt = (s78.1 a0 15).toInt := by rw [g93.2.1 15 (by decide)]
        have fs92_18 : (s92.1 a0 18).toInt = (s78.1 a0 18).toInt := by rw [g93.2.1 18 (by decide)]
        have fs92_19 : (s92.1 a0 19).toInt = (s78.1 a0 19).toInt := by rw [g93.2.1 19 (by decide)]
        have fs92_32 : (s92.1 a0 32).toInt = (s78.1 a0 32).toInt := by rw [g93.2.1 32 (by decide)]
        have fs92_41 : (s92.1 a0 41).toInt = (s78.1 a0 41).toInt := by rw [g93.2.1 41 (by decide)]
        have fs92_42 : (s92.1 a0 42).toInt = (s78.1 a0 42).toInt := by rw [g93.2.1 42 (by decide)]
        have fs92_57 : (s92.1 a0 57).toInt = (s78.1 a0 57).toInt := by rw [g93.2.1 57 (by decide)]
        have hS := hS.tr g93 (by decide) (by decide)
        have us92_21 := zp_same hI ha0 g93 21 rfl (by decide) (by decide)
        have as92_21 := us92_21.trans as78_21
        have us92_22 := zp_same hI ha0 g93 22 rfl (by decide) (by decide)
        have as92_22 := us92_22.trans as78_22
        have us92_30 := zp_same hI ha0 g93 30 rfl (by decide) (by decide)
        have as92_30 := us92_30.trans as78_30
        have us92_31 := zp_same hI ha0 g93 31 rfl (by decide) (by decide)
        have as92_31 := us92_31.trans as78_31
        have us92_48 := zp_same hI ha0 g93 48 rfl (by decide) (by decide)
        have as92_48 := us92_48.trans as78_48
        have us92_49 := zp_same hI ha0 g93 49 rfl (by decide) (by decide)
        have as92_49 := us92_49.trans as78_49
        have us92_67 := zp_same hI ha0 g93 67 rfl (by decide) (by decide)
        have as92_67 := us92_67.trans as78_67
        have gKs92 := gK.same hI ha0 g93 (by decide) gKs78
        have gNs92 := gN.same hI ha0 g93 (by decide) gNs78
        have gHs92 := gH.same hI ha0 g93 (by decide) gHs78
        have gEs92 := gE.same hI ha0 g93 (by decide) gEs78
        have gLs92 := gL.same hI ha0 g93 (by decide) gLs78
        have e94 := g93.v e80 (by decide)
        have e95 := g93.v e81 (by decide)
        have e96 := g93.v e82 (by decide)
        have e97 := g93.v e83 (by decide)
        have e98 := g93.v e84 (by decide)
        have e99 := g93.v e85 (by decide)
        have e100 := g93.v e86 (by decide)
        have e101 := g93.v ev90 (by decide)
        have e102 := g93.v e88 (by decide)
        have fs92_38 : (s92.1 a0 38).toInt = v91.toInt := by rw [es92]; exact congrArg _ (zu_s _ _ _ _)
        have e103 : v91 = s92.1 a0 38 := by rw [es92]; exact zm_s
        refine zg_aload_n X 1 rfl dX11_read_107 ?_
        refine zg_iconst X 0 dX11_read_108 (by decide) (fun v104 _ hv104 => ?_)
        replace E := zLet_s (zcst hv104 (by decide)) E
        refine fp_X11_248 X hI ha0 ⟨by omega, by omega⟩ dX11_read_109 (fun s105 es105 hI => ?_)
        replace E := zLet_s es105 E
        have g106 := (zSame.rf (o := a0) (Wf := [41]) (Wa := []) (L := L) (kd := kd) (σ := s92)).f ha0 es105 rfl
        have fs105_11 : (s105.1 a0 11).toInt = (s92.1 a0 11).toInt := by rw [g106.2.1 11 (by decide)]
        have fs105_12 : (s105.1 a0 12).toInt = (s92.1 a0 12).toInt := by rw [g106.2.1 12 (by decide)]
        have fs105_13 : (s105.1 a0 13).toInt = (s92.1 a0 13).toInt := by rw [g106.2.1 13 (by decide)]
        have fs105_15 : (s105.1 a0 15).toInt = (s92.1 a0 15).toInt := by rw [g106.2.1 15 (by decide)]
        have fs105_18 : (s105.1 a0 18).toInt = (s92.1 a0 18).toInt := by rw [g106.2.1 18 (by decide)]
        have fs105_19 : (s105.1 a0 19).toInt = (s92.1 a0 19).toInt := by rw [g106.2.1 19 (by decide)]
        have fs105_32 : (s105.1 a0 32).toInt = (s92.1 a0 32).toInt := by rw [g106.2.1 32 (by decide)]
        have fs105_38 : (s105.1 a0 38).toInt = (s92.1 a0 38).toInt := by rw [g106.2.1 38 (by decide)]
        have fs105_42 : (s105.1 a0 42).toInt = (s92.1 a0 42).toInt := by rw [g106.2.1 42 (by decide)]
        have fs105_57 : (s105.1 a0 57).toInt = (s92.1 a0 57).toInt := by rw [g106.2.1 57 (by decide)]
        have hS := hS.tr g106 (by decide) (by decide)
        have us105_21 := zp_same hI ha0 g106 21 rfl (by decide) (by decide)
        have as105_21 := us105_21.trans as92_21
        have us105_22 := zp_same hI ha0 g106 22 rfl (by decide) (by decide)
        have as105_22 := us105_22.trans as92_22
        have us105_30 := zp_same hI ha0 g106 30 rfl (by decide) (by decide)
        have as105_30 := us105_30.trans as92_30
        have us105_31 := zp_same hI ha0 g106 31 rfl (by decide) (by decide)
        have as105_31 := us105_31.trans as92_31
        have us105_48 := zp_same hI ha0 g106 48 rfl (by decide) (by decide)
        have as105_48 := us105_48.trans as92_48
        have us105_49 := zp_same hI ha0 g106 49 rfl (by decide) (by decide)
        have as105_49 := us105_49.trans as92_49
        have us105_67 := zp_same hI ha0 g106 67 rfl (by decide) (by decide)
        have as105_67 := us105_67.trans as92_67
        have gKs105 := gK.same hI ha0 g106 (by decide) gKs92
        have gNs105 := gN.same hI ha0 g106 (by decide) gNs92
        have gHs105 := gH.same hI ha0 g106 (by decide) gHs92
        have gEs105 := gE.same hI ha0 g106 (by decide) gEs92
        have gLs105 := gL.same hI ha0 g106 (by decide) gLs92
        have e107 := g106.v e94 (by decide)
        have e108 := g106.v e95 (by decide)
        have e109 := g106.v e96 (by decide)
        have e110 := g106.v e97 (by decide)
        have e111 := g106.v e98 (by decide)
        have e112 := g106.v e99 (by decide)
        have e113 := g106.v e100 (by decide)
        have e114 := g106.v e101 (by decide)
        have e115 := g106.v e102 (by decide)
        have e116 := g106.v e103 (by decide)
        have fs105_41 : (s105.1 a0 41).toInt = v104.toInt := by rw [es105]; exact congrArg _ (zu_s _ _ _ _)
        have e117 : v104 = s105.1 a0 41 := by rw [es105]; exact zm_s
        refine zg_aload_n X 1 rfl dX11_read_112 ?_
        refine zg_iconst X 0 dX11_read_113 (by decide) (fun v118 _ hv118 => ?_)
        replace E := zLet_s (zcst hv118 (by decide)) E
        refine fp_X11_252 X hI ha0 ⟨by omega, by omega⟩ dX11_read_114 (fun s119 es119 hI => ?_)
        replace E := zLet_s es119 E
        have g120 := (zSame.rf (o := a0) (Wf := [42]) (Wa := []) (L := L) (kd := kd) (σ := s105)).f ha0 es119 rfl
        have fs119_11 : (s119.1 a0 11).toInt = (s105.1 a0 11).toInt := by rw [g120.2.1 11 (by decide)]
        have fs119_12 : (s119.1 a0 12).toInt = (s105.1 a0 12).toInt := by rw [g120.2.1 12 (by decide)]
        have fs119_13 : (s119.1 a0 13).toInt = (s105.1 a0 13).toInt := by rw [g120.2.1 13 (by decide)]
        have fs119_15 : (s119.1 a0 15).toInt = (s105.1 a0 15).toInt := by rw [g120.2.1 15 (by decide)]
        have fs119_18 : (s119.1 a0 18).toInt = (s105.1 a0 18).toInt := by rw [g120.2.1 18 (by decide)]
        have fs119_19 : (s119.1 a0 19).toInt = (s105.1 a0 19).toInt := by rw [g120.2.1 19 (by decide)]
        have fs119_32 : (s119.1 a0 32).toInt = (s105.1 a0 32).toInt := by rw [g120.2.1 32 (by decide)]
        have fs119_38 : (s119.1 a0 38).toInt = (s105.1 a0 38).toInt := by rw [g120.2.1 38 (by decide)]
        have fs119_41 : (s119.1 a0 41).toInt = (s105.1 a0 41).toInt := by rw [g120.2.1 41 (by decide)]
        have fs119_57 : (s119.1 a0 57).toInt = (s105.1 a0 57).toInt := by rw [g120.2.1 57 (by decide)]
        have hS := hS.tr g120 (by decide) (by decide)
        have us119_21 := zp_same hI ha0 g120 21 rfl (by decide) (by decide)
        have as119_21 := us119_21.trans as105_21
        have us119_22 := zp_same hI ha0 g120 22 rfl (by decide) (by decide)
        have as119_22 := us119_22.trans as105_22
        have us119_30 := zp_same hI ha0 g120 30 rfl (by decide) (by decide)
        have as119_30 := us119_30.trans as105_30
        have us119_31 := zp_same hI ha0 g120 31 rfl (by decide) (by decide)
        have as119_31 := us119_31.trans as105_31
        have us119_48 := zp_same hI ha0 g120 48 rfl (by decide) (by decide)
        have as119_48 := us119_48.trans as105_48
        have us119_49 := zp_same hI ha0 g120 49 rfl (by decide) (by decide)
        have as119_49 := us119_49.trans as105_49
        have us119_67 := zp_same hI ha0 g120 67 rfl (by decide) (by decide)
        have as119_67 := us119_67.trans as105_67
        have gKs119 := gK.same hI ha0 g120 (by decide) gKs105
        have gNs119 := gN.same hI ha0 g120 (by decide) gNs105
        have gHs119 := gH.same hI ha0 g120 (by decide) gHs105
        have gEs119 := gE.same hI ha0 g120 (by decide) gEs105
        have gLs119 := gL.same hI ha0 g120 (by decide) gLs105
        have e121 := g120.v e107 (by decide)
        have e122 := g120.v e108 (by decide)
        have e123 := g120.v e109 (by decide)
        have e124 := g120.v e110 (by decide)
        have e125 := g120.v e111 (by decide)
        have e126 := g120.v e112 (by decide)
        have e127 := g120.v e113 (by decide)
        have e128 := g120.v e114 (by decide)
        have e129 := g120.v e115 (by decide)
        have e130 := g120.v e116 (by decide)
        have e131 := g120.v e117 (by decide)
        have fs119_42 : (s119.1 a0 42).toInt = v118.toInt := by rw [es119]; exact congrArg _ (zu_s _ _ _ _)
        have e132 : v118 = s119.1 a0 42 := by rw [es119]; exact zm_s
        have gP_0 : gP a0 s119 := by
          unfold gP
          intro k h0 h5
          left
          have y := zP2 k h0 h5
          rw [as119_30, as119_31, show (s119.1 a0 19).toInt = sd by omega, y.1, y.2]
        have gTr_0 : gTr a0 s119 := by
          unfold gTr
          rw [as119_21, show (s119.1 a0 19).toInt = sd by omega]
          exact ⟨fun _ c h1 h2 => absurd h2 (by omega), Or.inl zP0, fun _ => zP0, by omega⟩
        have Lp133 : ∀ (nLp133 : Nat) (τ133 : zS) , zJ v11.toInt L kd τ133 → zSame a0 [2, 4, 10, 11, 12, 13, 14, 15, 16, 17, 18, 19, 32, 38, 41, 42, 44, 50, 51, 57, 62] [103, 105, 106, 107, 108, 120, 121, 122, 123, 124, 125, 126, 127, 128, 129, 130, 131, 133, 134, 135, 136, 137, 139, 140, 143, 148, 149, 167] L kd σ τ133 → gE a0 τ133 → gH a0 τ133 → gK a0 τ133 → gL a0 τ133 → gN a0 τ133 → R = F_X11_read_117 x7 a0 (F_X11_read_10 a0  nLp8) nLp133  τ133 → 0 ≤ (τ133.1 a0 13).toInt ∧ 0 ≤ (τ133.1 a0 11).toInt ∧ (τ133.1 a0 11).toInt ≤ 400 ∧ (τ133.1 a0 19).toInt + (τ133.1 a0 18).toInt = 1 ∧ 0 ≤ (τ133.1 a0 18).toInt ∧ (τ133.1 a0 18).toInt ≤ 1 ∧ (1 ≤ (τ133.1 a0 13).toInt ∨ ((τ133.1 a0 12).toInt = 0 ∧ (420 * (τ133.1 a0 19).toInt ≤ (τ133.1 a0 38).toInt ∧ (τ133.1 a0 38).toInt ≤ 420 * (τ133.1 a0 19).toInt + (τ133.1 a0 11).toInt ∧ 130 * (τ133.1 a0 19).toInt ≤ (τ133.1 a0 32).toInt ∧ 4 * ((τ133.1 a0 32).toInt - 130 * (τ133.1 a0 19).toInt) ≤ (τ133.1 a0 11).toInt))) → 402 - (τ133.1 a0 11).toInt - min (τ133.1 a0 13).toInt 1 < (nLp133 : Int) → (((τ133.1 a0 13).toInt = 0 → gP a0 τ133 ∧ gTr a0 τ133)) → zG d L kd A 2 p l e (k2_rm 7 (100 * 7)) s m args below meth c Q τ133 117 [(1, .int x7), (0, .ref a0)] [] := by
          intro nLp133
          induction nLp133 with
          | zero => intro τ133  hI hS gE_Lp133 gH_Lp133 gK_Lp133 gL_Lp133 gN_Lp133 E  hxLp133 hm _ ; exact absurd hm (by omega)
          | succ nLp133 ihLp133 =>
            intro τ133  hI hS gE_Lp133 gH_Lp133 gK_Lp133 gL_Lp133 gN_Lp133 E  hxLp133 hmLp133 hpt
            rw [F_X11_read_117] at E
            refine zg_aload_n X 1 rfl dX11_read_117 ?_
            refine fg_X11_206 X hI ha0 dX11_read_118 (fun v134 ev134 hv134 => ?_)
            replace E := zLet_s ev134 E
            have kv134 : (τ133.1 a0 13).toInt = v134.toInt := by rw [ev134]
            refine zg_if_ne X 139 dX11_read_121 (by decide) (fun c135 => ?_) (fun c135 => ?_)
            · skip
              replace E := zIf_f c135 E
              refine zg_aload_n X 1 rfl dX11_read_139 ?_
              refine zg_aload_n X 1 rfl dX11_read_140 ?_
              refine fg_X11_206 X hI ha0 dX11_read_141 (fun v136 ev136 hv136 => ?_)
              replace E := zLet_s ev136 E
              have kv136 : (τ133.1 a0 13).toInt = v136.toInt := by rw [ev136]
              have mv136 : v136.toInt = v134.toInt := by rw [ev136, ← ev134]
              refine zg_if_le X 154 dX11_read_144 (by decide) (fun c137 => ?_) (fun c137 => ?_)
              · omega
              · skip
                replace E := zIf_t c137 E
                refine zg_aload_n X 1 rfl dX11_read_147 ?_
                refine fg_X11_212 X hI ha0 dX11_read_148 (fun v138 ev138 _ => ?_)
                replace E := zLet_s ev138 E
                refine zg_goto X 169 dX11_read_151 (by decide) ?_
                refine fp_X11_37 X hI ha0 (zb_rng _) dX11_read_169 (fun s139 es139 hI => ?_)
                replace E := zLet_s es139 E
                have g140 := (zSame.rf (o := a0) (Wf := [17]) (Wa := []) (L := L) (kd := kd) (σ := τ133)).f ha0 es139 rfl
                have fs139_11 : (s139.1 a0 11).toInt = (τ133.1 a0 11).toInt := by rw [g140.2.1 11 (by decide)]
                have fs139_12 : (s139.1 a0 12).toInt = (τ133.1 a0 12).toInt := by rw [g140.2.1 12 (by decide)]
                have fs139_13 : (s139.1 a0 13).toInt = (τ133.1 a0 13).toInt := by rw [g140.2.1 13 (by decide)]
                have fs139_15 : (s139.1 a0 15).toInt = (τ133.1 a0 15).toInt := by rw [g140.2.1 15 (by decide)]
                have fs139_18 : (s139.1 a0 18).toInt = (τ133.1 a0 18).toInt := by rw [g140.2.1 18 (by decide)]
                have fs139_19 : (s139.1 a0 19).toInt = (τ133.1 a0 19).toInt := by rw [g140.2.1 19 (by decide)]
                have fs139_32 : (s139.1 a0 32).toInt = (τ133.1 a0 32).toInt := by rw [g140.2.1 32 (by decide)]
                have fs139_38 : (s139.1 a0 38).toInt = (τ133.1 a0 38).toInt := by rw [g140.2.1 38 (by decide)]
                have fs139_41 : (s139.1 a0 41).toInt = (τ133.1 a0 41).toInt := by rw [g140.2.1 41 (by decide)]
                have fs139_42 : (s139.1 a0 42).toInt = (τ133.1 a0 42).toInt := by rw [g140.2.1 42 (by decide)]
                have fs139_57 : (s139.1 a0 57).toInt = (τ133.1 a0 57).toInt := by rw [g140.2.1 57 (by decide)]
                have hS := hS.tr g140 (by decide) (by decide)
                have us139_21 := zp_same hI ha0 g140 21 rfl (by decide) (by decide)
                have as139_21 := us139_21
                have us139_22 := zp_same hI ha0 g140 22 rfl (by decide) (by decide)
                have as139_22 := us139_22
                have us139_30 := zp_same hI ha0 g140 30 rfl (by decide) (by decide)
                have as139_30 := us139_30
                have us139_31 := zp_same hI ha0 g140 31 rfl (by decide) (by decide)
                have as139_31 := us139_31
                have us139_48 := zp_same hI ha0 g140 48 rfl (by decide) (by decide)
                have as139_48 := us139_48
                have us139_49 := zp_same hI ha0 g140 49 rfl (by decide) (by decide)
                have as139_49 := us139_49
                have us139_67 := zp_same hI ha0 g140 67 rfl (by decide) (by decide)
                have as139_67 := us139_67
                have gEs139 := gE.same hI ha0 g140 (by decide) gE_Lp133
                have gHs139 := gH.same hI ha0 g140 (by decide) gH_Lp133
                have gKs139 := gK.same hI ha0 g140 (by decide) gK_Lp133
                have gLs139 := gL.same hI ha0 g140 (by decide) gL_Lp133
                have gNs139 := gN.same hI ha0 g140 (by decide) gN_Lp133
                have e141 := g140.v ev136 (by decide)
                have e142 := g140.v ev138 (by decide)
                have fs139_17 : (s139.1 a0 17).toInt = v138.toInt := by rw [es139]; exact congrArg _ (zu_s _ _ _ _)
                have e143 : v138 = s139.1 a0 17 := by rw [es139]; exact zm_s
                refine zg_aload_n X 1 rfl dX11_read_172 ?_
                refine fg_X11_206 X hI ha0 dX11_read_173 (fun v144 ev144 hv144 => ?_)
                replace E := zLet_s ev144 E
                have kv144 : (s139.1 a0 13).toInt = v144.toInt := by rw [ev144]
                have mv144 : v144.toInt = v136.toInt := by rw [ev144, ← e141]
                refine zg_if_le X 184 dX11_read_176 (by decide) (fun c145 => ?_) (fun c145 => ?_)
                · omega
                · skip
                  replace E := zIf_t c145 E
                  refine zg_aload_n X 1 rfl dX11_read_179 ?_
                  refine fg_X11_206 X hI ha0 dX11_read_180 (fun v146 ev146 hv146 => ?_)
                  replace E := zLet_s ev146 E
                  have kv146 : (s139.1 a0 13).toInt = v146.toInt := by rw [ev146]
                  have mv146 : v146.toInt = v144.toInt := by rw [ev146, ← ev144]
                  exact ret _ _ _ _ dX11_read_183 rfl ⟨E.symm.trans hR, ⟨⟨gNs139, gHs139, gEs139, gLs139, gKs139⟩, (zj_eq (by omega) hI), hS⟩⟩
            · skip
              replace E := zIf_t c135 E
              refine zg_aload_n X 1 rfl dX11_read_124 ?_
              refine zg_iconst X 0 dX11_read_125 (by decide) (fun v147 _ hv147 => ?_)
              replace E := zLet_s (zcst hv147 (by decide)) E
              refine zg_cVi (As := [.int v147]) (st := []) X ha0 rfl (by decide) rfl (t_X11_is l d L kd v11.toInt _ hI a0 ha0 v147  ) mk_X11_224 mc_X11_is mz_X11 mi_X11_is ml_X11_is (na := 1) ⟨md_X11.1, md_X11.2, by decide +kernel⟩ rfl ⟨by decide, by decide⟩ (Nat.le_of_ble_eq_true rfl) dX11_read_126 (fun v149 t148 hq => ?_)
              obtain ⟨⟨hF, ⟨ht148_res, ht148_fact0⟩⟩, rfl⟩ := hq
              replace E := zLet_s hF E
              refine zg_if_ne X 139 dX11_read_129 (by decide) (fun c150 => ?_) (fun c150 => ?_)
              · skip
                replace E := zIf_f c150 E
                refine zg_aload_n X 1 rfl dX11_read_139 ?_
                refine zg_aload_n X 1 rfl dX11_read_140 ?_
                refine fg_X11_206 X hI ha0 dX11_read_141 (fun v151 ev151 hv151 => ?_)
                replace E := zLet_s ev151 E
                have kv151 : (τ133.1 a0 13).toInt = v151.toInt := by rw [ev151]
                have mv151 : v151.toInt = v134.toInt := by rw [ev151, ← ev134]
                refine zg_if_le X 154 dX11_read_144 (by decide) (fun c152 => ?_) (fun c152 => ?_)
                · skip
                  replace E := zIf_f (Int.not_lt.mpr c152) E
                  refine zg_aload_n X 1 rfl dX11_read_154 ?_
                  refine fg_X11_215 X hI ha0 dX11_read_155 (fun v153 ev153 _ => ?_)
                  replace E := zLet_s ev153 E
                  have kv153 : (τ133.1 a0 15).toInt = v153.toInt := by rw [ev153]
                  refine zg_if_le X 168 dX11_read_158 (by decide) (fun c154 => ?_) (fun c154 => ?_)
                  · skip
                    replace E := zIf_f (Int.not_lt.mpr c154) E
                    refine zg_iconst X (-1) dX11_read_168 (by decide) (fun v155 _ hv155 => ?_)
                    replace E := zLet_s (zcst hv155 (by decide)) E
                    refine fp_X11_37 X hI ha0 (zb_rng _) dX11_read_169 (fun s156 es156 hI => ?_)
                    replace E := zLet_s es156 E
                    have g157 := (zSame.rf (o := a0) (Wf := [17]) (Wa := []) (L := L) (kd := kd) (σ := τ133)).f ha0 es156 rfl
                    have fs156_11 : (s156.1 a0 11).toInt = (τ133.1 a0 11).toInt := by rw [g157.2.1 11 (by decide)]
                    have fs156_12 : (s156.1 a0 12).toInt = (τ133.1 a0 12).toInt := by rw [g157.2.1 12 (by decide)]
                    have fs156_13 : (s156.1 a0 13).toInt = (τ133.1 a0 13).toInt := by rw [g157.2.1 13 (by decide)]
                    have fs156_15 : (s156.1 a0 15).toInt = (τ133.1 a0 15).toInt := by rw [g157.2.1 15 (by decide)]
                    have fs156_18 : (s156.1 a0 18).toInt = (τ133.1 a0 18).toInt := by rw [g157.2.1 18 (by decide)]
                    have fs156_19 : (s156.1 a0 19).toInt = (τ133.1 a0 19).toInt := by rw [g157.2.1 19 (by decide)]
                    have fs156_32 : (s156.1 a0 32).toInt = (τ133.1 a0 32).toInt := by rw [g157.2.1 32 (by decide)]
                    have fs156_38 : (s156.1 a0 38).toInt = (τ133.1 a0 38).toInt := by rw [g157.2.1 38 (by decide)]
                    have fs156_41 : (s156.1 a0 41).toInt = (τ133.1 a0 41).toInt := by rw [g157.2.1 41 (by decide)]
                    have fs156_42 : (s156.1 a0 42).toInt = (τ133.1 a0 42).toInt := by rw [g157.2.1 42 (by decide)]
                    have fs156_57 : (s156.1 a0 57).toInt = (τ133.1 a0 57).toInt := by rw [g157.2.1 57 (by decide)]
                    have hS := hS.tr g157 (by decide) (by decide)
                    have us156_21 := zp_same hI ha0 g157 21 rfl (by decide) (by decide)
                    have as156_21 := us156_21
                    have us156_22 := zp_same hI ha0 g157 22 rfl (by decide) (by decide)
                    have as156_22 := us156_22
                    have us156_30 := zp_same hI ha0 g157 30 rfl (by decide) (by decide)
                    have as156_30 := us156_30
                    have us156_31 := zp_same hI ha0 g157 31 rfl (by decide) (by decide)
                    have as156_31 := us156_31
                    have us156_48 := zp_same hI ha0 g157 48 rfl (by decide) (by decide)
                    have as156_48 := us156_48
                    have us156_49 := zp_same hI ha0 g157 49 rfl (by decide) (by decide)
                    have as156_49 := us156_49
                    have us156_67 := zp_same hI ha0 g157 67 rfl (by decide) (by decide)
                    have as156_67 := us156_67
                    have gEs156 := gE.same hI ha0 g157 (by decide) gE_Lp133
                    have gHs156 := gH.same hI ha0 g157 (by decide) gH_Lp133
                    have gKs156 := gK.same hI ha0 g157 (by decide) gK_Lp133
                    have gLs156 := gL.same hI ha0 g157 (by decide) gL_Lp133
                    have gNs156 := gN.same hI ha0 g157 (by decide) gN_Lp133
                    have e158 := g157.v ev151 (by decide)
                    have e159 := g157.v ev153 (by decide)
                    have fs156_17 : (s156.1 a0 17).toInt = v155.toInt := by rw [es156]; exact congrArg _ (zu_s _ _ _ _)
                    have e160 : v155 = s156.1 a0 17 := by rw [es156]; exact zm_s
                    refine zg_aload_n X 1 rfl dX11_read_172 ?_
                    refine fg_X11_206 X hI ha0 dX11_read_173 (fun v161 ev161 hv161 => ?_)
                    replace E := zLet_s ev161 E
                    have kv161 : (s156.1 a0 13).toInt = v161.toInt := by rw [ev161]
                    have mv161 : v161.toInt = v151.toInt := by rw [ev161, ← e158]
                    refine zg_if_le X 184 dX11_read_176 (by decide) (fun c162 => ?_) (fun c162 => ?_)
                    · skip
                      replace E := zIf_f (Int.not_lt.mpr c162) E
                      refine zg_aload_n X 1 rfl dX11_read_184 ?_
                      refine fg_X11_215 X hI ha0 dX11_read_185 (fun v163 ev163 _ => ?_)
                      replace E := zLet_s ev163 E
                      have kv163 : (s156.1 a0 15).toInt = v163.toInt := by rw [ev163]
                      have mv163 : v163.toInt = v153.toInt := by rw [ev163, ← e159]
                      refine zg_if_le X 196 dX11_read_188 (by decide) (fun c164 => ?_) (fun c164 => ?_)
                      · skip
                        replace E := zIf_f (Int.not_lt.mpr c164) E
                        have gP_e := gP.same hI ha0 g157 (by decide) (hpt (by omega)).1
                        have gT_e := gTr.same hI ha0 g157 (by decide) (hpt (by omega)).2
                        refine zg_aload_n X 1 rfl dX11_read_196 ?_
                        refine zg_aload_n X 1 rfl dX11_read_197 ?_
                        refine fg_X11_239 X hI ha0 dX11_read_198 (fun v165 ev165 hv165 => ?_)
                        replace E := zLet_s ev165 E
                        have kv165 : (s156.1 a0 19).toInt = v165.toInt := by rw [ev165]
                        refine fp_X11_236 X hI ha0 ⟨by omega, by omega⟩ dX11_read_201 (fun s166 es166 hI => ?_)
                        replace E := zLet_s es166 E
                        have g167 := (zSame.rf (o := a0) (Wf := [18]) (Wa := []) (L := L) (kd := kd) (σ := s156)).f ha0 es166 rfl
                        have fs166_11 : (s166.1 a0 11).toInt = (s156.1 a0 11).toInt := by rw [g167.2.1 11 (by decide)]
                        have fs166_12 : (s166.1 a0 12).toInt = (s156.1 a0 12).toInt := by rw [g167.2.1 12 (by decide)]
                        have fs166_13 : (s166.1 a0 13).toInt = (s156.1 a0 13).toInt := by rw [g167.2.1 13 (by decide)]
                        have fs166_15 : (s166.1 a0 15).toInt = (s156.1 a0 15).toInt := by rw [g167.2.1 15 (by decide)]
                        have fs166_19 : (s166.1 a0 19).toInt = (s156.1 a0 19).toInt := by rw [g167.2.1 19 (by decide)]
                        have fs166_32 : (s166.1 a0 32).toInt = (s156.1 a0 32).toInt := by rw [g167.2.1 32 (by decide)]
                        have fs166_38 : (s166.1 a0 38).toInt = (s156.1 a0 38).toInt := by rw [g167.2.1 38 (by decide)]
                        have fs166_41 : (s166.1 a0 41).toInt = (s156.1 a0 41).toInt := by rw [g167.2.1 41 (by decide)]
                        have fs166_42 : (s166.1 a0 42).toInt = (s156.1 a0 42).toInt := by rw [g167.2.1 42 (by decide)]
                        have fs166_57 : (s166.1 a0 57).toInt = (s156.1 a0 57).toInt := by rw [g167.2.1 57 (by decide)]
                        have hS := hS.tr g167 (by decide) (by decide)
                        have us166_21 := zp_same hI ha0 g167 21 rfl (by decide) (by decide)
                        have as166_21 := us166_21.trans as156_21
                        have us166_22 := zp_same hI ha0 g167 22 rfl (by decide) (by decide)
                        have as166_22 := us166_22.trans as156_22
                        have us166_30 := zp_same hI ha0 g167 30 rfl (by decide) (by decide)
                        have as166_30 := us166_30.trans as156_30
                        have us166_31 := zp_same hI ha0 g167 31 rfl (by decide) (by decide)
                        have as166_31 := us166_31.trans as156_31
                        have us166_48 := zp_same hI ha0 g167 48 rfl (by decide) (by decide)
                        have as166_48 := us166_48.trans as156_48
                        have us166_49 := zp_same hI ha0 g167 49 rfl (by decide) (by decide)
                        have as166_49 := us166_49.trans as156_49
                        have us166_67 := zp_same hI ha0 g167 67 rfl (by decide) (by decide)
                        have as166_67 := us166_67.trans as156_67
                        have gKs166 := gK.same hI ha0 g167 (by decide) gKs156
                        have e168 := g167.v ev161 (by decide)
                        have e169 := g167.v ev163 (by decide)
                        have e170 := g167.v e160 (by decide)
                        have e171 := g167.v ev165 (by decide)
                        have fs166_18 : (s166.1 a0 18).toInt = v165.toInt := by rw [es166]; exact congrArg _ (zu_s _ _ _ _)
                        have e172 : v165 = s166.1 a0 18 := by rw [es166]; exact zm_s
                        have gL_n : gL a0 s166 := gL.of gP_e (gLw_same hI ha0 g167 (by decide)) (by omega) (by omega) (by omega)
                        have gT_n : gT a0 s166 := by
                          obtain ⟨y1, y2, y3, y4⟩ := gT_e
                          have e : zM a0 s166 = zp a0 s156 21 (s156.1 a0 19).toInt := by unfold zM; rw [show (s166.1 a0 18).toInt = (s156.1 a0 19).toInt by omega, us166_21]
                          intro c h1 h2
                          rw [e] at h2
                          rw [us166_22, show (s166.1 a0 18).toInt = (s156.1 a0 19).toInt by omega]
                          exact y1 (by omega) c h1 (by omega)
                        refine zg_aload_n X 1 rfl dX11_read_204 ?_
                        refine zg_cVv (As := []) (st := []) X ha0 rfl (by decide) rfl (t_X11_begins l d L kd v11.toInt _ hI a0 ha0    gT_n) mk_X11_163 mc_X11_begins mz_X11 mi_X11_begins ml_X11_begins (na := 0) ⟨md_X11.1, md_X11.2, by decide +kernel⟩ rfl ⟨by decide, by decide⟩ (Nat.le_of_ble_eq_true rfl) dX11_read_205 (fun t173 hq => ?_)
                        obtain ⟨hF, gRt173, hI, g174⟩ := hq
                        replace E := zLet_s hF E
                        have ft173_11 : (t173.1 a0 11).toInt = (s166.1 a0 11).toInt := by rw [g174.2.1 11 (by decide)]
                        have ft173_12 : (t173.1 a0 12).toInt = (s166.1 a0 12).toInt := by rw [g174.2.1 12 (by decide)]
                        have ft173_13 : (t173.1 a0 13).toInt = (s166.1 a0 13).toInt := by rw [g174.2.1 13 (by decide)]
                        have ft173_15 : (t173.1 a0 15).toInt = (s166.1 a0 15).toInt := by rw [g174.2.1 15 (by decide)]
                        have ft173_18 : (t173.1 a0 18).toInt = (s166.1 a0 18).toInt := by rw [g174.2.1 18 (by decide)]
                        have ft173_19 : (t173.1 a0 19).toInt = (s166.1 a0 19).toInt := by rw [g174.2.1 19 (by decide)]
                        have ft173_32 : (t173.1 a0 32).toInt = (s166.1 a0 32).toInt := by rw [g174.2.1 32 (by decide)]
                        have ft173_38 : (t173.1 a0 38).toInt = (s166.1 a0 38).toInt := by rw [g174.2.1 38 (by decide)]
                        have ft173_41 : (t173.1 a0 41).toInt = (s166.1 a0 41).toInt := by rw [g174.2.1 41 (by decide)]
                        have ft173_42 : (t173.1 a0 42).toInt = (s166.1 a0 42).toInt := by rw [g174.2.1 42 (by decide)]
                        have ft173_57 : (t173.1 a0 57).toInt = (s166.1 a0 57).toInt := by rw [g174.2.1 57 (by decide)]
                        have hS := hS.tr g174 (by decide) (by decide)
                        have ut173_21 := zp_same hI ha0 g174 21 rfl (by decide) (by decide)
                        have at173_21 := ut173_21.trans as166_21
                        have ut173_22 := zp_same hI ha0 g174 22 rfl (by decide) (by decide)
                        have at173_22 := ut173_22.trans as166_22
                        have ut173_30 := zp_same hI ha0 g174 30 rfl (by decide) (by decide)
                        have at173_30 := ut173_30.trans as166_30
                        have ut173_31 := zp_same hI ha0 g174 31 rfl (by decide) (by decide)
                        have at173_31 := ut173_31.trans as166_31
                        have ut173_48 := zp_same hI ha0 g174 48 rfl (by decide) (by decide)
                        have at173_48 := ut173_48.trans as166_48
                        have ut173_67 := zp_same hI ha0 g174 67 rfl (by decide) (by decide)
                        have at173_67 := ut173_67.trans as166_67
                        have gKt173 := gK.same hI ha0 g174 (by decide) gKs166
                        have gLt173 := gL.same hI ha0 g174 (by decide) gL_n
                        have gTt173 := gT.same hI ha0 g174 (by decide) gT_n
                        have e175 := g174.v e168 (by decide)
                        have e176 := g174.v e169 (by decide)
                        have e177 := g174.v e170 (by decide)
                        have e178 := g174.v e171 (by decide)
                        have e179 := g174.v e172 (by decide)
                        refine zg_aload_n X 1 rfl dX11_read_208 ?_
                        refine zg_cVv (As := []) (st := []) X ha0 rfl (by decide) rfl (t_X11_keepsRow l d L kd v11.toInt _ hI a0 ha0   ) mk_X11_166 mc_X11_keepsRow mz_X11 mi_X11_keepsRow ml_X11_keepsRow (na := 0) ⟨md_X11.1, md_X11.2, by decide +kernel⟩ rfl ⟨by decide, by decide⟩ (Nat.le_of_ble_eq_true rfl) dX11_read_209 (fun t180 hq => ?_)
                        obtain ⟨hF, ht180_fact0, hI, g181⟩ := hq
                        replace E := zLet_s hF E
                        have ft180_11 : (t180.1 a0 11).toInt = (t173.1 a0 11).toInt := by rw [g181.2.1 11 (by decide)]
                        have ft180_12 : (t180.1 a0 12).toInt = (t173.1 a0 12).toInt := by rw [g181.2.1 12 (by decide)]
                        have ft180_13 : (t180.1 a0 13).toInt = (t173.1 a0 13).toInt := by rw [g181.2.1 13 (by decide)]
                        have ft180_15 : (t180.1 a0 15).toInt = (t173.1 a0 15).toInt := by rw [g181.2.1 15 (by decide)]
                        have ft180_18 : (t180.1 a0 18).toInt = (t173.1 a0 18).toInt := by rw [g181.2.1 18 (by decide)]
                        have ft180_19 : (t180.1 a0 19).toInt = (t173.1 a0 19).toInt := by rw [g181.2.1 19 (by decide)]
                        have ft180_32 : (t180.1 a0 32).toInt = (t173.1 a0 32).toInt := by rw [g181.2.1 32 (by decide)]
                        have ft180_38 : (t180.1 a0 38).toInt = (t173.1 a0 38).toInt := by rw [g181.2.1 38 (by decide)]
                        have ft180_41 : (t180.1 a0 41).toInt = (t173.1 a0 41).toInt := by rw [g181.2.1 41 (by decide)]
                        have ft180_42 : (t180.1 a0 42).toInt = (t173.1 a0 42).toInt := by rw [g181.2.1 42 (by decide)]
                        have ft180_57 : (t180.1 a0 57).toInt = (t173.1 a0 57).toInt := by rw [g181.2.1 57 (by decide)]
                        have hS := hS.tr g181 (by decide) (by decide)
                        have ut180_21 := zp_same hI ha0 g181 21 rfl (by decide) (by decide)
                        have at180_21 := ut180_21.trans at173_21
                        have ut180_22 := zp_same hI ha0 g181 22 rfl (by decide) (by decide)
                        have at180_22 := ut180_22.trans at173_22
                        have ut180_30 := zp_same hI ha0 g181 30 rfl (by decide) (by decide)
                        have at180_30 := ut180_30.trans at173_30
                        have ut180_31 := zp_same hI ha0 g181 31 rfl (by decide) (by decide)
                        have at180_31 := ut180_31.trans at173_31
                        have ut180_49 := zp_same hI ha0 g181 49 rfl (by decide) (by decide)
                        have at180_49 := ut180_49
                        have ut180_67 := zp_same hI ha0 g181 67 rfl (by decide) (by decide)
                        have at180_67 := ut180_67.trans at173_67
                        have gKt180 := gK.same hI ha0 g181 (by decide) gKt173
                        have gLt180 := gL.same hI ha0 g181 (by decide) gLt173
                        have gTt180 := gT.same hI ha0 g181 (by decide) gTt173
                        have gRt180 := gR.same hI ha0 g181 (by decide) gRt173
                        have e182 := g181.v e175 (by decide)
                        have e183 := g181.v e176 (by decide)
                        have e184 := g181.v e177 (by decide)
                        have e185 := g181.v e178 (by decide)
                        have e186 := g181.v e179 (by decide)
                        have gN_n : gN a0 t180 := by
                          unfold gN
                          exact gRow.congr (zM_in hI ha0).2 (show gRow _ _ from gRt180) (fun j h1 h2 => ht180_fact0 j (by omega) (by omega))
                        refine zg_aload_n X 1 rfl dX11_read_212 ?_
                        refine zg_iconst X 0 dX11_read_213 (by decide) (fun v187 _ hv187 => ?_)
                        replace E := zLet_s (zcst hv187 (by decide)) E
                        refine fp_X11_258 X hI ha0 ⟨by omega, by omega⟩ dX11_read_214 (fun s188 es188 hI => ?_)
                        replace E := zLet_s es188 E
                        have g189 := (zSame.rf (o := a0) (Wf := [57]) (Wa := []) (L := L) (kd := kd) (σ := t180)).f ha0 es188 rfl
                        have fs188_11 : (s188.1 a0 11).toInt = (t180.1 a0 11).toInt := by rw [g189.2.1 11 (by decide)]
                        have fs188_12 : (s188.1 a0 12).toInt = (t180.1 a0 12).toInt := by rw [g189.2.1 12 (by decide)]
                        have fs188_13 : (s188.1 a0 13).toInt = (t180.1 a0 13).toInt := by rw [g189.2.1 13 (by decide)]
                        have fs188_15 : (s188.1 a0 15).toInt = (t180.1 a0 15).toInt := by rw [g189.2.1 15 (by decide)]
                        have fs188_18 : (s188.1 a0 18).toInt = (t180.1 a0 18).toInt := by rw [g189.2.1 18 (by decide)]
                        have fs188_19 : (s188.1 a0 19).toInt = (t180.1 a0 19).toInt := by rw [g189.2.1 19 (by decide)]
                        have fs188_32 : (s188.1 a0 32).toInt = (t180.1 a0 32).toInt := by rw [g189.2.1 32 (by decide)]
                        have fs188_38 : (s188.1 a0 38).toInt = (t180.1 a0 38).toInt := by rw [g189.2.1 38 (by decide)]
                        have fs188_41 : (s188.1 a0 41).toInt = (t180.1 a0 41).toInt := by rw [g189.2.1 41 (by decide)]
                        have fs188_42 : (s188.1 a0 42).toInt = (t180.1 a0 42).toInt := by rw [g189.2.1 42 (by decide)]
                        have hS := hS.tr g189 (by decide) (by decide)
                        have us188_21 := zp_same hI ha0 g189 21 rfl (by decide) (by decide)
                        have as188_21 := us188_21.trans at180_21
                        have us188_22 := zp_same hI ha0 g189 22 rfl (by decide) (by decide)
                        have as188_22 := us188_22.trans at180_22
                        have us188_30 := zp_same hI ha0 g189 30 rfl (by decide) (by decide)
                        have as188_30 := us188_30.trans at180_30
                        have us188_31 := zp_same hI ha0 g189 31 rfl (by decide) (by decide)
                        have as188_31 := us188_31.trans at180_31
                        have us188_48 := zp_same hI ha0 g189 48 rfl (by decide) (by decide)
                        have as188_48 := us188_48
                        have us188_49 := zp_same hI ha0 g189 49 rfl (by decide) (by decide)
                        have as188_49 := us188_49.trans at180_49
                        have us188_67 := zp_same hI ha0 g189 67 rfl (by decide) (by decide)
                        have as188_67 := us188_67.trans at180_67
                        have gKs188 := gK.same hI ha0 g189 (by decide) gKt180
                        have gLs188 := gL.same hI ha0 g189 (by decide) gLt180
                        have gTs188 := gT.same hI ha0 g189 (by decide) gTt180
                        have gRs188 := gR.same hI ha0 g189 (by decide) gRt180
                        have gNs188 := gN.same hI ha0 g189 (by decide) gN_n
                        have e190 := g189.v e182 (by decide)
                        have e191 := g189.v e183 (by decide)
                        have e192 := g189.v e184 (by decide)
                        have e193 := g189.v e185 (by decide)
                        have e194 := g189.v e186 (by decide)
                        have fs188_57 : (s188.1 a0 57).toInt = v187.toInt := by rw [es188]; exact congrArg _ (zu_s _ _ _ _)
                        have e195 : v187 = s188.1 a0 57 := by rw [es188]; exact zm_s
                        have gH_n : gH a0 s188 := fun i h0 h1 => absurd h1 (by omega)
                        refine zg_aload_n X 1 rfl dX11_read_217 ?_
                        refine zg_iconst X 0 dX11_read_218 (by decide) (fun v196 _ hv196 => ?_)
                        replace E := zLet_s (zcst hv196 (by decide)) E
                        refine fp_X11_261 X hI ha0 ⟨by omega, by omega⟩ dX11_read_219 (fun s197 es197 hI => ?_)
                        replace E := zLet_s es197 E
                        have g198 := (zSame.rf (o := a0) (Wf := [62]) (Wa := []) (L := L) (kd := kd) (σ := s188)).f ha0 es197 rfl
                        have fs197_11 : (s197.1 a0 11).toInt = (s188.1 a0 11).toInt := by rw [g198.2.1 11 (by decide)]
                        have fs197_12 : (s197.1 a0 12).toInt = (s188.1 a0 12).toInt := by rw [g198.2.1 12 (by decide)]
                        have fs197_13 : (s197.1 a0 13).toInt = (s188.1 a0 13).toInt := by rw [g198.2.1 13 (by decide)]
                        have fs197_15 : (s197.1 a0 15).toInt = (s188.1 a0 15).toInt := by rw [g198.2.1 15 (by decide)]
                        have fs197_18 : (s197.1 a0 18).toInt = (s188.1 a0 18).toInt := by rw [g198.2.1 18 (by decide)]
                        have fs197_19 : (s197.1 a0 19).toInt = (s188.1 a0 19).toInt := by rw [g198.2.1 19 (by decide)]
                        have fs197_32 : (s197.1 a0 32).toInt = (s188.1 a0 32).toInt := by rw [g198.2.1 32 (by decide)]
                        have fs197_38 : (s197.1 a0 38).toInt = (s188.1 a0 38).toInt := by rw [g198.2.1 38 (by decide)]
                        have fs197_41 : (s197.1 a0 41).toInt = (s188.1 a0 41).toInt := by rw [g198.2.1 41 (by decide)]
                        have fs197_42 : (s197.1 a0 42).toInt = (s188.1 a0 42).toInt := by rw [g198.2.1 42 (by decide)]
                        have fs197_57 : (s197.1 a0 57).toInt = (s188.1 a0 57).toInt := by rw [g198.2.1 57 (by decide)]
                        have hS := hS.tr g198 (by decide) (by decide)
                        have us197_21 := zp_same hI ha0 g198 21 rfl (by decide) (by decide)
                        have as197_21 := us197_21.trans as188_21
                        have us197_22 := zp_same hI ha0 g198 22 rfl (by decide) (by decide)
                        have as197_22 := us197_22.trans as188_22
                        have us197_30 := zp_same hI ha0 g198 30 rfl (by decide) (by decide)
                        have as197_30 := us197_30.trans as188_30
                        have us197_31 := zp_same hI ha0 g198 31 rfl (by decide) (by decide)
                        have as197_31 := us197_31.trans as188_31
                        have us197_48 := zp_same hI ha0 g198 48 rfl (by decide) (by decide)
                        have as197_48 := us197_48.trans as188_48
                        have us197_49 := zp_same hI ha0 g198 49 rfl (by decide) (by decide)
                        have as197_49 := us197_49.trans as188_49
                        have us197_67 := zp_same hI ha0 g198 67 rfl (by decide) (by decide)
                        have as197_67 := us197_67.trans as188_67
                        have gKs197 := gK.same hI ha0 g198 (by decide) gKs188
                        have gLs197 := gL.same hI ha0 g198 (by decide) gLs188
                        have gTs197 := gT.same hI ha0 g198 (by decide) gTs188
                        have gRs197 := gR.same hI ha0 g198 (by decide) gRs188
                        have gNs197 := gN.same hI ha0 g198 (by decide) gNs188
                        have gHs197 := gH.same hI ha0 g198 (by decide) gH_n
                        have e199 := g198.v e190 (by decide)
                        have e200 := g198.v e191 (by decide)
                        have e201 := g198.v e192 (by decide)
                        have e202 := g198.v e193 (by decide)
                        have e203 := g198.v e194 (by decide)
                        have e204 := g198.v e195 (by decide)
                        have fs197_62 : (s197.1 a0 62).toInt = v196.toInt := by rw [es197]; exact congrArg _ (zu_s _ _ _ _)
                        have e205 : v196 = s197.1 a0 62 := by rw [es197]; exact zm_s
                        refine zg_iconst X 0 dX11_read_222 (by decide) (fun v206 _ hv206 => ?_)
                        replace E := zLet_s (zcst hv206 (by decide)) E
                        refine zg_istore_n X [(1, .int v206), (0, .ref a0)] dX11_read_223 (by decide) rfl ?_
                        have Lp208 : ∀ (nLp208 : Nat) (τ208 : zS) (x207 : Int32), zJ v11.toInt L kd τ208 → zSame a0 [2, 4, 10, 11, 12, 13, 14, 15, 16, 17, 18, 19, 32, 38, 41, 42, 44, 50, 51, 57, 62] [103, 105, 106, 107, 108, 120, 121, 122, 123, 124, 125, 126, 127, 128, 129, 130, 131, 133, 134, 135, 136, 137, 139, 140, 143, 148, 149, 167] L kd σ τ208 → gH a0 τ208 → gK a0 τ208 → gL a0 τ208 → gN a0 τ208 → R = F_X11_read_224 a0 (F_X11_read_10 a0  nLp8) (F_X11_read_117 x7 a0 (F_X11_read_10 a0  nLp8) nLp133) nLp208 x207 τ208 → 0 ≤ x207.toInt ∧ x207.toInt ≤ 3 → (3) - x207.toInt + 1 < (nLp208 : Int) → (∀ i : Int, 0 ≤ i → i < x207.toInt → zp a0 τ208 67 i = 0) → zG d L kd A 2 p l e (k2_rm 7 (100 * 7)) s m args below meth c Q τ208 224 [(1, .int x207), (0, .ref a0)] [] := by
                          intro nLp208
                          induction nLp208 with
                          | zero => intro τ208 x207 hI hS gH_Lp208 gK_Lp208 gL_Lp208 gN_Lp208 E  hxLp208 hm _ ; exact absurd hm (by omega)
                          | succ nLp208 ihLp208 =>
                            intro τ208 x207 hI hS gH_Lp208 gK_Lp208 gL_Lp208 gN_Lp208 E  hxLp208 hmLp208 hz
                            rw [F_X11_read_224] at E
                            refine zg_iload_n X 0 rfl dX11_read_224 ?_
                            refine zg_iconst X 3 dX11_read_225 (by decide) (fun v209 _ hv209 => ?_)
                            replace E := zLet_s (zcst hv209 (by decide)) E
                            refine zg_icmp_ge X 242 dX11_read_226 (by decide) (fun c210 => ?_) (fun c210 => ?_)
                            · skip
                              replace E := zIf_f (Int.not_lt.mpr c210) E
                              refine zg_iconst X 0 dX11_read_242 (by decide) (fun v211 _ hv211 => ?_)
                              replace E := zLet_s (zcst hv211 (by decide)) E
                              exact ret _ _ _ _ dX11_read_243 rfl ⟨E.symm.trans hR, ⟨⟨gN_Lp208, gH_Lp208, (fun i h0 h1 h2 => absurd h2 (by rw [hz i h0 (by omega)]; decide)), gL_Lp208, gK_Lp208⟩, (zj_eq (by omega) hI), hS⟩⟩
                            · skip
                              replace E := zIf_t c210 E
                              refine zg_aload_n X 1 rfl dX11_read_229 ?_
                              refine fg_X11_149 X hI ha0 dX11_read_230 (fun v212 ev212 hv212 => ?_)
                              replace E := zLet_s (zgr ev212) E
                              refine zg_iload_n X 0 rfl dX11_read_233 ?_
                              refine zg_iconst X 0 dX11_read_234 (by decide) (fun v213 _ hv213 => ?_)
                              replace E := zLet_s (zcst hv213 (by decide)) E
                              refine as_167 X hI hv212 (by omega) (by omega) ⟨by omega, by omega⟩ dX11_read_235 (fun s214 es214 hI => ?_)
                              replace E := zLet_s es214 E
                              have g215 := (zSame.rf (o := a0) (Wf := []) (Wa := [167]) (L := L) (kd := kd) (σ := τ208)).a ha0 hv212 es214 rfl (by decide)
                              have rs214 := zp_st (σ := τ208) (σ2 := s214) (i := x207) (x := v213) ev212 (by rw [es214, zb_nz ⟨by omega, by omega⟩]) (by omega)
                              have ws214 := rs214
                              have fs214_11 : (s214.1 a0 11).toInt = (τ208.1 a0 11).toInt := by rw [g215.2.1 11 (by decide)]
                              have fs214_12 : (s214.1 a0 12).toInt = (τ208.1 a0 12).toInt := by rw [g215.2.1 12 (by decide)]
                              have fs214_13 : (s214.1 a0 13).toInt = (τ208.1 a0 13).toInt := by rw [g215.2.1 13 (by decide)]
                              have fs214_15 : (s214.1 a0 15).toInt = (τ208.1 a0 15).toInt := by rw [g215.2.1 15 (by decide)]
                              have fs214_18 : (s214.1 a0 18).toInt = (τ208.1 a0 18).toInt := by rw [g215.2.1 18 (by decide)]
                              have fs214_19 : (s214.1 a0 19).toInt = (τ208.1 a0 19).toInt := by rw [g215.2.1 19 (by decide)]
                              have fs214_32 : (s214.1 a0 32).toInt = (τ208.1 a0 32).toInt := by rw [g215.2.1 32 (by decide)]
                              have fs214_38 : (s214.1 a0 38).toInt = (τ208.1 a0 38).toInt := by rw [g215.2.1 38 (by decide)]
                              have fs214_41 : (s214.1 a0 41).toInt = (τ208.1 a0 41).toInt := by rw [g215.2.1 41 (by decide)]
                              have fs214_42 : (s214.1 a0 42).toInt = (τ208.1 a0 42).toInt := by rw [g215.2.1 42 (by decide)]
                              have fs214_57 : (s214.1 a0 57).toInt = (τ208.1 a0 57).toInt := by rw [g215.2.1 57 (by decide)]
                              have hS := hS.tr g215 (by decide) (by decide)
                              have us214_21 := zp_same hI ha0 g215 21 rfl (by decide) (by decide)
                              have as214_21 := us214_21
                              have us214_22 := zp_same hI ha0 g215 22 rfl (by decide) (by decide)
                              have as214_22 := us214_22
                              have us214_30 := zp_same hI ha0 g215 30 rfl (by decide) (by decide)
                              have as214_30 := us214_30
                              have us214_31 := zp_same hI ha0 g215 31 rfl (by decide) (by decide)
                              have as214_31 := us214_31
                              have us214_48 := zp_same hI ha0 g215 48 rfl (by decide) (by decide)
                              have as214_48 := us214_48
                              have us214_49 := zp_same hI ha0 g215 49 rfl (by decide) (by decide)
                              have as214_49 := us214_49
                              have gHs214 := gH.same hI ha0 g215 (by decide) gH_Lp208
                              have gKs214 := gK.same hI ha0 g215 (by decide) gK_Lp208
                              have gLs214 := gL.same hI ha0 g215 (by decide) gL_Lp208
                              have gNs214 := gN.same hI ha0 g215 (by decide) gN_Lp208
                              refine zg_iinc X 1 (fun v216 => [(1, .int v216), (0, .ref a0)]) 0 dX11_read_236 rfl (by decide) (by decide) (by omega) (by omega) (fun _ => rfl) (fun v216 ev216 hv216 => ?_)
                              replace E := zLet_s (zinc ev216 (by decide)) E
                              refine zg_goto X 224 dX11_read_239 (by decide) ?_
                              refine zg_sub [0, 1] rfl ?_
                              exact ihLp208 _ v216 hI hS gHs214 gKs214 gLs214 gNs214 E  (by omega) (by omega) (fun i h0 h1 => by rw [ws214 i h0]; split <;> rename_i hj <;> first | omega | exact hz i h0 (by omega))
                        refine zg_sub [0, 1] rfl ?_
                        exact Lp208 10000 _ v206 hI hS gHs197 gKs197 gLs197 gNs197 E  (by omega) (by omega) (fun i h0 h1 => absurd h1 (by omega))
                      · omega
                    · omega
                  · skip
                    replace E := zIf_t c154 E
                    refine zg_aload_n X 1 rfl dX11_read_161 ?_
                    refine fg_X11_218 X hI ha0 dX11_read_162 (fun v217 ev217 _ => ?_)
                    replace E := zLet_s ev217 E
                    refine zg_goto X 169 dX11_read_165 (by decide) ?_
                    refine fp_X11_37 X hI ha0 (zb_rng _) dX11_read_169 (fun s218 es218 hI => ?_)
                    replace E := zLet_s es218 E
                    have g219 := (zSame.rf (o := a0) (Wf := [17]) (Wa := []) (L := L) (kd := kd) (σ := τ133)).f ha0 es218 rfl
                    have fs218_11 : (s218.1 a0 11).toInt = (τ133.1 a0 11).toInt := by rw [g219.2.1 11 (by decide)]
                    have fs218_12 : (s218.1 a0 12).toInt = (τ133.1 a0 12).toInt := by rw [g219.2.1 12 (by decide)]
                    have fs218_13 : (s218.1 a0 13).toInt = (τ133.1 a0 13).toInt := by rw [g219.2.1 13 (by decide)]
                    have fs218_15 : (s218.1 a0 15).toInt = (τ133.1 a0 15).toInt := by rw [g219.2.1 15 (by decide)]
                    have fs218_18 : (s218.1 a0 18).toInt = (τ133.1 a0 18).toInt := by rw [g219.2.1 18 (by decide)]
                    have fs218_19 : (s218.1 a0 19).toInt = (τ133.1 a0 19).toInt := by rw [g219.2.1 19 (by decide)]
                    have fs218_32 : (s218.1 a0 32).toInt = (τ133.1 a0 32).toInt := by rw [g219.2.1 32 (by decide)]
                    have fs218_38 : (s218.1 a0 38).toInt = (τ133.1 a0 38).toInt := by rw [g219.2.1 38 (by decide)]
                    have fs218_41 : (s218.1 a0 41).toInt = (τ133.1 a0 41).toInt := by rw [g219.2.1 41 (by decide)]
                    have fs218_42 : (s218.1 a0 42).toInt = (τ133.1 a0 42).toInt := by rw [g219.2.1 42 (by decide)]
                    have fs218_57 : (s218.1 a0 57).toInt = (τ133.1 a0 57).toInt := by rw [g219.2.1 57 (by decide)]
                    have hS := hS.tr g219 (by decide) (by decide)
                    have us218_21 := zp_same hI ha0 g219 21 rfl (by decide) (by decide)
                    have as218_21 := us218_21
                    have us218_22 := zp_same hI ha0 g219 22 rfl (by decide) (by decide)
                    have as218_22 := us218_22
                    have us218_30 := zp_same hI ha0 g219 30 rfl (by decide) (by decide)
                    have as218_30 := us218_30
                    have us218_31 := zp_same hI ha0 g219 31 rfl (by decide) (by decide)
                    have as218_31 := us218_31
                    have us218_48 := zp_same hI ha0 g219 48 rfl (by decide) (by decide)
                    have as218_48 := us218_48
                    have us218_49 := zp_same hI ha0 g219 49 rfl (by decide) (by decide)
                    have as218_49 := us218_49
                    have us218_67 := zp_same hI ha0 g219 67 rfl (by decide) (by decide)
                    have as218_67 := us218_67
                    have gEs218 := gE.same hI ha0 g219 (by decide) gE_Lp133
                    have gHs218 := gH.same hI ha0 g219 (by decide) gH_Lp133
                    have gKs218 := gK.same hI ha0 g219 (by decide) gK_Lp133
                    have gLs218 := gL.same hI ha0 g219 (by decide) gL_Lp133
                    have gNs218 := gN.same hI ha0 g219 (by decide) gN_Lp133
                    have e220 := g219.v ev151 (by decide)
                    have e221 := g219.v ev153 (by decide)
                    have e222 := g219.v ev217 (by decide)
                    have fs218_17 : (s218.1 a0 17).toInt = v217.toInt := by rw [es218]; exact congrArg _ (zu_s _ _ _ _)
                    have e223 : v217 = s218.1 a0 17 := by rw [es218]; exact zm_s
                    refine zg_aload_n X 1 rfl dX11_read_172 ?_
                    refine fg_X11_206 X hI ha0 dX11_read_173 (fun v224 ev224 hv224 => ?_)
                    replace E := zLet_s ev224 E
                    have kv224 : (s218.1 a0 13).toInt = v224.toInt := by rw [ev224]
                    have mv224 : v224.toInt = v151.toInt := by rw [ev224, ← e220]
                    refine zg_if_le X 184 dX11_read_176 (by decide) (fun c225 => ?_) (fun c225 => ?_)
                    · skip
                      replace E := zIf_f (Int.not_lt.mpr c225) E
                      refine zg_aload_n X 1 rfl dX11_read_184 ?_
                      refine fg_X11_215 X hI ha0 dX11_read_185 (fun v226 ev226 _ => ?_)
                      replace E := zLet_s ev226 E
                      have kv226 : (s218.1 a0 15).toInt = v226.toInt := by rw [ev226]
                      have mv226 : v226.toInt = v153.toInt := by rw [ev226, ← e221]
                      refine zg_if_le X 196 dX11_read_188 (by decide) (fun c227 => ?_) (fun c227 => ?_)
                      · omega
                      · skip
                        replace E := zIf_t c227 E
                        refine zg_aload_n X 1 rfl dX11_read_191 ?_
                        refine fg_X11_215 X hI ha0 dX11_read_192 (fun v228 ev228 _ => ?_)
                        replace E := zLet_s ev228 E
                        have kv228 : (s218.1 a0 15).toInt = v228.toInt := by rw [ev228]
                        have mv228 : v228.toInt = v226.toInt := by rw [ev228, ← ev226]
                        exact ret _ _ _ _ dX11_read_195 rfl ⟨E.symm.trans hR, ⟨⟨gNs218, gHs218, gEs218, gLs218, gKs218⟩, (zj_eq (by omega) hI), hS⟩⟩
                    · omega
                · omega
              · skip
                replace E := zIf_t c150 E
                have gP_b := (hpt (by omega)).1
                have gT_b := (hpt (by omega)).2
                refine zg_aload_n X 1 rfl dX11_read_132 ?_
                refine zg_cVv (As := []) (st := []) X ha0 rfl (by decide) rfl (t_X11_tellOne l d L kd v11.toInt _ hI a0 ha0   (by omega) (by omega) (by omega) (by omega) gN_Lp133 gH_Lp133 gE_Lp133 gL_Lp133 gP_b gT_b gK_Lp133) mk_X11_255 mc_X11_tellOne mz_X11 mi_X11_tellOne ml_X11_tellOne (na := 0) ⟨md_X11.1, md_X11.2, by decide +kernel⟩ rfl ⟨by decide, by decide⟩ (Nat.le_of_ble_eq_true rfl) dX11_read_133 (fun t229 hq => ?_)
                obtain ⟨hF, ⟨ht229_fact0, ht229_fact1, ht229_fact2, gNt229, gHt229, gEt229, gLt229⟩, hI, g230⟩ := hq
                replace E := zLet_s hF E
                have ft229_18 : (t229.1 a0 18).toInt = (τ133.1 a0 18).toInt := by rw [g230.2.1 18 (by decide)]
                have ft229_19 : (t229.1 a0 19).toInt = (τ133.1 a0 19).toInt := by rw [g230.2.1 19 (by decide)]
                have ft229_57 : (t229.1 a0 57).toInt = (τ133.1 a0 57).toInt := by rw [g230.2.1 57 (by decide)]
                have hS := hS.tr g230 (by decide) (by decide)
                have ut229_48 := zp_same hI ha0 g230 48 rfl (by decide) (by decide)
                have at229_48 := ut229_48
                have ut229_49 := zp_same hI ha0 g230 49 rfl (by decide) (by decide)
                have at229_49 := ut229_49
                have ut229_67 := zp_same hI ha0 g230 67 rfl (by decide) (by decide)
                have at229_67 := ut229_67
                have gKt229 := gK.same hI ha0 g230 (by decide) gK_Lp133
                have z11r : 0 ≤ (t229.1 a0 11).toInt ∧ (t229.1 a0 11).toInt ≤ 400 := zj_get hI ha0 rfl
                have zo0 := ht229_fact0
                have zoP := ht229_fact1
                have zoT := ht229_fact2
                clear ht229_fact2 ht229_fact1 ht229_fact0
                refine zg_goto X 117 dX11_read_136 (by decide) ?_
                refine zg_sub [0, 1] rfl ?_
                exact ihLp133 _  hI hS gEt229 gHt229 gKt229 gLt229 gNt229 E  (by omega) (by omega) (fun h0 => ⟨zoP h0, zoT h0⟩)
        refine zg_sub [0, 1] rfl ?_
        exact Lp133 10000 _  hI hS gEs119 gHs119 gKs119 gLs119 gNs119 E  (by omega) (by omega) (fun _ => ⟨gP_0, gTr_0⟩)
      · skip
        replace E := zIf_t c10 E
        refine zg_aload_n X 1 rfl dX11_read_18 ?_
        refine fg_X11_17 X hI ha0 dX11_read_19 (fun v231 ev231 hv231 => ?_)
        replace E := zLet_s (zgr ev231) E
        refine zg_iload_n X 0 rfl dX11_read_22 ?_
        refine zg_aload_n X 1 rfl dX11_read_23 ?_
        refine fg_X11_13 X hI ha0 dX11_read_24 (fun v232 ev232 hv232 => ?_)
        replace E := zLet_s (zgr ev232) E
        refine zg_iload_n X 0 rfl dX11_read_27 ?_
        refine ag_101 X hI hv232 (by omega) (by omega) dX11_read_28 (fun v233 ev233 hv233 => ?_)
        replace E := zLet_s ev233 E
        refine as_103 X hI hv231 (by omega) (by omega) dX11_read_29 (fun s234 es234 hI => ?_)
        replace E := zLet_s es234 E
        have g235 := (zSame.rf (o := a0) (Wf := []) (Wa := [103]) (L := L) (kd := kd) (σ := τ8)).a ha0 hv231 es234 rfl (by decide)
        have fs234_11 : (s234.1 a0 11).toInt = (τ8.1 a0 11).toInt := by rw [g235.2.1 11 (by decide)]
        have fs234_12 : (s234.1 a0 12).toInt = (τ8.1 a0 12).toInt := by rw [g235.2.1 12 (by decide)]
        have fs234_13 : (s234.1 a0 13).toInt = (τ8.1 a0 13).toInt := by rw [g235.2.1 13 (by decide)]
        have fs234_15 : (s234.1 a0 15).toInt = (τ8.1 a0 15).toInt := by rw [g235.2.1 15 (by decide)]
        have fs234_18 : (s234.1 a0 18).toInt = (τ8.1 a0 18).toInt := by rw [g235.2.1 18 (by decide)]
        have fs234_19 : (s234.1 a0 19).toInt = (τ8.1 a0 19).toInt := by rw [g235.2.1 19 (by decide)]
        have fs234_32 : (s234.1 a0 32).toInt = (τ8.1 a0 32).toInt := by rw [g235.2.1 32 (by decide)]
        have fs234_38 : (s234.1 a0 38).toInt = (τ8.1 a0 38).toInt := by rw [g235.2.1 38 (by decide)]
        have fs234_41 : (s234.1 a0 41).toInt = (τ8.1 a0 41).toInt := by rw [g235.2.1 41 (by decide)]
        have fs234_42 : (s234.1 a0 42).toInt = (τ8.1 a0 42).toInt := by rw [g235.2.1 42 (by decide)]
        have fs234_57 : (s234.1 a0 57).toInt = (τ8.1 a0 57).toInt := by rw [g235.2.1 57 (by decide)]
        have hS := hS.tr g235 (by decide) (by decide)
        have us234_21 := zp_same hI ha0 g235 21 rfl (by decide) (by decide)
        have as234_21 := us234_21
        have us234_22 := zp_same hI ha0 g235 22 rfl (by decide) (by decide)
        have as234_22 := us234_22
        have us234_30 := zp_same hI ha0 g235 30 rfl (by decide) (by decide)
        have as234_30 := us234_30
        have us234_31 := zp_same hI ha0 g235 31 rfl (by decide) (by decide)
        have as234_31 := us234_31
        have us234_48 := zp_same hI ha0 g235 48 rfl (by decide) (by decide)
        have as234_48 := us234_48
        have us234_49 := zp_same hI ha0 g235 49 rfl (by decide) (by decide)
        have as234_49 := us234_49
        have us234_67 := zp_same hI ha0 g235 67 rfl (by decide) (by decide)
        have as234_67 := us234_67
        have gEs234 := gE.same hI ha0 g235 (by decide) gE_Lp8
        have gHs234 := gH.same hI ha0 g235 (by decide) gH_Lp8
        have gKs234 := gK.same hI ha0 g235 (by decide) gK_Lp8
        have gLs234 := gL.same hI ha0 g235 (by decide) gL_Lp8
        have gNs234 := gN.same hI ha0 g235 (by decide) gN_Lp8
        have e236 := g235.v ev9 (by decide)
        refine zg_iinc X 1 (fun v237 => [(1, .int v237), (0, .ref a0)]) 0 dX11_read_30 rfl (by decide) (by decide) (by omega) (by omega) (fun _ => rfl) (fun v237 ev237 hv237 => ?_)
        replace E := zLet_s (zinc ev237 (by decide)) E
        refine zg_goto X 10 dX11_read_33 (by decide) ?_
        refine zg_sub [0, 1] rfl ?_
        exact ihLp8 _ v237 hI hS gEs234 gHs234 gKs234 gLs234 gNs234 E  (by omega) (by omega) 
  refine zg_sub [0, 1] rfl ?_
  exact Lp8 10000 _ v6 hI hS gEs2 gHs2 gKs2 gLs2 gNs2 E  (by omega) (by omega) 
