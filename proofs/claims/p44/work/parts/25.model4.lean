set_option maxHeartbeats 4000000 in
set_option maxRecDepth 100000 in
theorem t_X11_spot (l : Launch) (d : zD2) (L : List Nat) (kd : Nat → Nat) (κ : Int) (σ : zS) (hI : zJ κ L kd σ) (a0 : Nat) (ha0 : zT L kd a0 11) (p1 : Int32) (p2 : Int32) (hgN : gN a0 σ) (hgH : gH a0 σ) (hgE : gE a0 σ) (hgL : gL a0 σ) : zMi l yX11_spot (Cond.code yX11_spot cX11_spot 3 (some .int) :: zWL) 5 [.ref a0, .int p1, .int p2] d L kd σ (fun v σ2 => (v, σ2) = F_X11_spot a0 p1 p2 σ ∧ (((gN a0 σ2) ∧ (gH a0 σ2) ∧ (gE a0 σ2) ∧ (gL a0 σ2)) ∧ zJ κ L kd σ2 ∧ zSame a0 [47, 50, 51] [145, 146, 149, 152, 153, 154, 155] L kd σ σ2)) := by
  refine zMi.of (own := RX11) (by decide +kernel) rfl rfl (Nat.le_of_ble_eq_true rfl) ?_
  intro p e s m args below meth c A Q X ret
  have hS : zSame a0 [47, 50, 51] [145, 146, 149, 152, 153, 154, 155] L kd σ σ := zSame.rf
  refine zg_lv (lv2 := [(0, .ref a0), (1, .int p1), (2, .int p2)]) rfl ?_
  have zm := zM_in hI ha0
  obtain ⟨R, hR⟩ : ∃ R, R = F_X11_spot a0 p1 p2 σ := ⟨_, rfl⟩
  have E := hR
  unfold F_X11_spot at E
  refine zg_aload_n X 0 rfl dX11_spot_0 ?_
  refine zg_iload_n X 1 rfl dX11_spot_1 ?_
  refine zg_cVi (As := [.int p1]) (st := []) X ha0 rfl (by decide) rfl (t_X11_isPlace l d L kd κ _ hI a0 ha0 p1  ) mk_X11_383 mc_X11_isPlace mz_X11 mi_X11_isPlace ml_X11_isPlace (na := 1) ⟨md_X11.1, md_X11.2, by decide +kernel⟩ rfl ⟨by decide, by decide⟩ (Nat.le_of_ble_eq_true rfl) dX11_spot_2 (fun v2 t1 hq => ?_)
  obtain ⟨⟨hF, ⟨ht1_res, ht1_fact0⟩⟩, rfl⟩ := hq
  replace E := zLet_s hF E
  refine zg_if_ne X 10 dX11_spot_5 (by decide) (fun c3 => ?_) (fun c3 => ?_)
  · skip
    replace E := zIf_f c3 E
    refine zg_aload_n X 0 rfl dX11_spot_10 ?_
    refine zg_cVv (As := []) (st := []) X ha0 rfl (by decide) rfl (t_X11_copies l d L kd κ _ hI a0 ha0    hgN hgL) mk_X11_332 mc_X11_copies mz_X11 mi_X11_copies ml_X11_copies (na := 0) ⟨md_X11.1, md_X11.2, by decide +kernel⟩ rfl ⟨by decide, by decide⟩ (Nat.le_of_ble_eq_true rfl) dX11_spot_11 (fun t4 hq => ?_)
    obtain ⟨hF, ⟨ht4_fact0, gRt4, gBt4⟩, hI, g5⟩ := hq
    replace E := zLet_s hF E
    have hS := hS.tr g5 (by decide) (by decide)
    have Mt4 := zM_same hI ha0 g5 (by decide)
    have gNt4 := gN.same hI ha0 g5 (by decide) hgN
    have gHt4 := gH.same hI ha0 g5 (by decide) hgH
    have gEt4 := gE.same hI ha0 g5 (by decide) hgE
    have gLt4 := gL.same hI ha0 g5 (by decide) hgL
    refine zg_iload_n X 2 rfl dX11_spot_14 ?_
    by_cases q6 : p2.toInt = 0
    · refine zg_tabIn X 80 0 dX11_spot_15 q6 (by decide) (by decide) rfl (by decide) ?_
      replace E := zIf_t q6 E
      refine zg_aload_n X 0 rfl dX11_spot_80 ?_
      refine fg_X11_110 X hI ha0 dX11_spot_81 (fun v7 ev7 hv7 => ?_)
      replace E := zLet_s (zgr ev7) E
      refine zg_iload_n X 1 rfl dX11_spot_84 ?_
      refine ag_149 X hI hv7 (by omega) (by omega) dX11_spot_85 (fun v8 ev8 _ => ?_)
      replace E := zLet_s ev8 E
      exact ret _ _ _ _ dX11_spot_86 rfl ⟨E.symm.trans hR, ⟨⟨gNt4, gHt4, gEt4, gLt4⟩, hI, hS⟩⟩
    · skip
      replace E := zIf_f q6 E
      by_cases q9 : p2.toInt = 1
      · refine zg_tabIn X 87 1 dX11_spot_15 q9 (by decide) (by decide) rfl (by decide) ?_
        replace E := zIf_t q9 E
        refine zg_aload_n X 0 rfl dX11_spot_87 ?_
        refine fg_X11_49 X hI ha0 dX11_spot_88 (fun v10 ev10 hv10 => ?_)
        replace E := zLet_s (zgr ev10) E
        refine zg_bipush X 12 dX11_spot_91 (by decide) (fun v11 _ hv11 => ?_)
        replace E := zLet_s (zcst hv11 (by decide)) E
        refine zg_aload_n X 0 rfl dX11_spot_93 ?_
        refine fg_X11_236 X hI ha0 dX11_spot_94 (fun v12 ev12 hv12 => ?_)
        replace E := zLet_s ev12 E
        refine zg_imulc X 12 dX11_spot_97 (by omega) (by omega) (by omega) (fun v13 ev13 hv13 => ?_)
        replace E := zLet_s ev13 E
        refine zg_iload_n X 1 rfl dX11_spot_98 ?_
        refine zg_iadd X dX11_spot_99 (by omega) (by omega) (fun v14 ev14 hv14 => ?_)
        replace E := zLet_s ev14 E
        refine ag_123 X hI hv10 (by omega) (by omega) dX11_spot_100 (fun v15 ev15 _ => ?_)
        replace E := zLet_s ev15 E
        exact ret _ _ _ _ dX11_spot_101 rfl ⟨E.symm.trans hR, ⟨⟨gNt4, gHt4, gEt4, gLt4⟩, hI, hS⟩⟩
      · skip
        replace E := zIf_f q9 E
        by_cases q16 : p2.toInt = 2
        · refine zg_tabIn X 102 2 dX11_spot_15 q16 (by decide) (by decide) rfl (by decide) ?_
          replace E := zIf_t q16 E
          refine zg_aload_n X 0 rfl dX11_spot_102 ?_
          refine fg_X11_52 X hI ha0 dX11_spot_103 (fun v17 ev17 hv17 => ?_)
          replace E := zLet_s (zgr ev17) E
          refine zg_bipush X 12 dX11_spot_106 (by decide) (fun v18 _ hv18 => ?_)
          replace E := zLet_s (zcst hv18 (by decide)) E
          refine zg_aload_n X 0 rfl dX11_spot_108 ?_
          refine fg_X11_236 X hI ha0 dX11_spot_109 (fun v19 ev19 hv19 => ?_)
          replace E := zLet_s ev19 E
          refine zg_imulc X 12 dX11_spot_112 (by omega) (by omega) (by omega) (fun v20 ev20 hv20 => ?_)
          replace E := zLet_s ev20 E
          refine zg_iload_n X 1 rfl dX11_spot_113 ?_
          refine zg_iadd X dX11_spot_114 (by omega) (by omega) (fun v21 ev21 hv21 => ?_)
          replace E := zLet_s ev21 E
          refine ag_124 X hI hv17 (by omega) (by omega) dX11_spot_115 (fun v22 ev22 _ => ?_)
          replace E := zLet_s ev22 E
          exact ret _ _ _ _ dX11_spot_116 rfl ⟨E.symm.trans hR, ⟨⟨gNt4, gHt4, gEt4, gLt4⟩, hI, hS⟩⟩
        · skip
          replace E := zIf_f q16 E
          by_cases q23 : p2.toInt = 3
          · refine zg_tabIn X 117 3 dX11_spot_15 q23 (by decide) (by decide) rfl (by decide) ?_
            replace E := zIf_t q23 E
            refine zg_aload_n X 0 rfl dX11_spot_117 ?_
            refine fg_X11_55 X hI ha0 dX11_spot_118 (fun v24 ev24 hv24 => ?_)
            replace E := zLet_s (zgr ev24) E
            refine zg_bipush X 12 dX11_spot_121 (by decide) (fun v25 _ hv25 => ?_)
            replace E := zLet_s (zcst hv25 (by decide)) E
            refine zg_aload_n X 0 rfl dX11_spot_123 ?_
            refine fg_X11_236 X hI ha0 dX11_spot_124 (fun v26 ev26 hv26 => ?_)
            replace E := zLet_s ev26 E
            refine zg_imulc X 12 dX11_spot_127 (by omega) (by omega) (by omega) (fun v27 ev27 hv27 => ?_)
            replace E := zLet_s ev27 E
            refine zg_iload_n X 1 rfl dX11_spot_128 ?_
            refine zg_iadd X dX11_spot_129 (by omega) (by omega) (fun v28 ev28 hv28 => ?_)
            replace E := zLet_s ev28 E
            refine ag_125 X hI hv24 (by omega) (by omega) dX11_spot_130 (fun v29 ev29 _ => ?_)
            replace E := zLet_s ev29 E
            exact ret _ _ _ _ dX11_spot_131 rfl ⟨E.symm.trans hR, ⟨⟨gNt4, gHt4, gEt4, gLt4⟩, hI, hS⟩⟩
          · skip
            replace E := zIf_f q23 E
            by_cases q30 : p2.toInt = 4
            · refine zg_tabIn X 132 4 dX11_spot_15 q30 (by decide) (by decide) rfl (by decide) ?_
              replace E := zIf_t q30 E
              refine zg_aload_n X 0 rfl dX11_spot_132 ?_
              refine fg_X11_110 X hI ha0 dX11_spot_133 (fun v31 ev31 hv31 => ?_)
              replace E := zLet_s (zgr ev31) E
              refine zg_bipush X 12 dX11_spot_136 (by decide) (fun v32 _ hv32 => ?_)
              replace E := zLet_s (zcst hv32 (by decide)) E
              refine zg_iload_n X 1 rfl dX11_spot_138 ?_
              refine zg_iadd X dX11_spot_139 (by omega) (by omega) (fun v33 ev33 hv33 => ?_)
              replace E := zLet_s ev33 E
              refine ag_149 X hI hv31 (by omega) (by omega) dX11_spot_140 (fun v34 ev34 _ => ?_)
              replace E := zLet_s ev34 E
              exact ret _ _ _ _ dX11_spot_141 rfl ⟨E.symm.trans hR, ⟨⟨gNt4, gHt4, gEt4, gLt4⟩, hI, hS⟩⟩
            · skip
              replace E := zIf_f q30 E
              by_cases q35 : p2.toInt = 5
              · refine zg_tabIn X 142 5 dX11_spot_15 q35 (by decide) (by decide) rfl (by decide) ?_
                replace E := zIf_t q35 E
                refine zg_aload_n X 0 rfl dX11_spot_142 ?_
                refine fg_X11_122 X hI ha0 dX11_spot_143 (fun v36 ev36 hv36 => ?_)
                replace E := zLet_s (zgr ev36) E
                refine zg_iload_n X 1 rfl dX11_spot_146 ?_
                refine ag_155 X hI hv36 (by omega) (by omega) dX11_spot_147 (fun v37 ev37 _ => ?_)
                replace E := zLet_s ev37 E
                exact ret _ _ _ _ dX11_spot_148 rfl ⟨E.symm.trans hR, ⟨⟨gNt4, gHt4, gEt4, gLt4⟩, hI, hS⟩⟩
              · skip
                replace E := zIf_f q35 E
                by_cases q38 : p2.toInt = 6
                · refine zg_tabIn X 149 6 dX11_spot_15 q38 (by decide) (by decide) rfl (by decide) ?_
                  replace E := zIf_t q38 E
                  refine zg_aload_n X 0 rfl dX11_spot_149 ?_
                  refine fg_X11_113 X hI ha0 dX11_spot_150 (fun v39 ev39 hv39 => ?_)
                  replace E := zLet_s (zgr ev39) E
                  refine zg_iload_n X 1 rfl dX11_spot_153 ?_
                  refine ag_152 X hI hv39 (by omega) (by omega) dX11_spot_154 (fun v40 ev40 _ => ?_)
                  replace E := zLet_s ev40 E
                  exact ret _ _ _ _ dX11_spot_155 rfl ⟨E.symm.trans hR, ⟨⟨gNt4, gHt4, gEt4, gLt4⟩, hI, hS⟩⟩
                · skip
                  replace E := zIf_f q38 E
                  by_cases q41 : p2.toInt = 7
                  · refine zg_tabIn X 156 7 dX11_spot_15 q41 (by decide) (by decide) rfl (by decide) ?_
                    replace E := zIf_t q41 E
                    refine zg_aload_n X 0 rfl dX11_spot_156 ?_
                    refine fg_X11_119 X hI ha0 dX11_spot_157 (fun v42 ev42 hv42 => ?_)
                    replace E := zLet_s (zgr ev42) E
                    refine zg_iload_n X 1 rfl dX11_spot_160 ?_
                    refine ag_154 X hI hv42 (by omega) (by omega) dX11_spot_161 (fun v43 ev43 _ => ?_)
                    replace E := zLet_s ev43 E
                    refine zg_cSi (As := [.int v43]) (st := []) X (t_X11_bits l d L kd _ v43 ) mk_X11_345 mc_X11_bits mz_X11 ms_X11_bits (na := 1) ⟨md_X11.1, md_X11.2, by decide +kernel⟩ rfl ⟨by decide, by decide⟩ (Nat.le_of_ble_eq_true rfl) dX11_spot_162 (fun v44 σ2 hq => ?_)
                    obtain ⟨⟨hF, hv44⟩, rfl⟩ := hq
                    replace E := zLet_s hF E
                    refine zg_iconst X 1 dX11_spot_165 (by decide) (fun v45 _ hv45 => ?_)
                    replace E := zLet_s (zcst hv45 (by decide)) E
                    refine zg_isubW X dX11_spot_166 (fun v46 ev46 => ?_)
                    replace E := zLet_s ev46 E
                    exact ret _ _ _ _ dX11_spot_167 rfl ⟨E.symm.trans hR, ⟨⟨gNt4, gHt4, gEt4, gLt4⟩, hI, hS⟩⟩
                  · skip
                    replace E := zIf_f q41 E
                    by_cases q47 : p2.toInt = 8
                    · refine zg_tabIn X 168 8 dX11_spot_15 q47 (by decide) (by decide) rfl (by decide) ?_
                      replace E := zIf_t q47 E
                      refine zg_aload_n X 0 rfl dX11_spot_168 ?_
                      refine zg_iload_n X 1 rfl dX11_spot_169 ?_
                      refine zg_cVi (As := [.int p1]) (st := []) X ha0 rfl (by decide) rfl (t_X11_isSource l d L kd κ _ hI a0 ha0 p1  ) mk_X11_342 mc_X11_isSource mz_X11 mi_X11_isSource ml_X11_isSource (na := 1) ⟨md_X11.1, md_X11.2, by decide +kernel⟩ rfl ⟨by decide, by decide⟩ (Nat.le_of_ble_eq_true rfl) dX11_spot_170 (fun v49 t48 hq => ?_)
                      obtain ⟨⟨hF, ⟨ht48_res, ht48_fact0, ht48_fact1, ht48_fact2⟩⟩, rfl⟩ := hq
                      replace E := zLet_s hF E
                      refine zg_if_eq X 180 dX11_spot_173 (by decide) (fun c50 => ?_) (fun c50 => ?_)
                      · skip
                        replace E := zIf_t c50 E
                        refine zg_iconst X 0 dX11_spot_180 (by decide) (fun v51 _ hv51 => ?_)
                        replace E := zLet_s (zcst hv51 (by decide)) E
                        exact ret _ _ _ _ dX11_spot_181 rfl ⟨E.symm.trans hR, ⟨⟨gNt4, gHt4, gEt4, gLt4⟩, hI, hS⟩⟩
                      · skip
                        replace E := zIf_f c50 E
                        refine zg_iconst X 1 dX11_spot_176 (by decide) (fun v52 _ hv52 => ?_)
                        replace E := zLet_s (zcst hv52 (by decide)) E
                        refine zg_goto X 181 dX11_spot_177 (by decide) ?_
                        exact ret _ _ _ _ dX11_spot_181 rfl ⟨E.symm.trans hR, ⟨⟨gNt4, gHt4, gEt4, gLt4⟩, hI, hS⟩⟩
                    · skip
                      replace E := zIf_f q47 E
                      by_cases q53 : p2.toInt = 9
                      · refine zg_tabIn X 182 9 dX11_spot_15 q53 (by decide) (by decide) rfl (by decide) ?_
                        replace E := zIf_t q53 E
                        refine zg_aload_n X 0 rfl dX11_spot_182 ?_
                        refine fg_X11_110 X hI ha0 dX11_spot_183 (fun v54 ev54 hv54 => ?_)
                        replace E := zLet_s (zgr ev54) E
                        refine zg_bipush X 24 dX11_spot_186 (by decide) (fun v55 _ hv55 => ?_)
                        replace E := zLet_s (zcst hv55 (by decide)) E
                        refine zg_iload_n X 1 rfl dX11_spot_188 ?_
                        refine zg_iadd X dX11_spot_189 (by omega) (by omega) (fun v56 ev56 hv56 => ?_)
                        replace E := zLet_s ev56 E
                        refine ag_149 X hI hv54 (by omega) (by omega) dX11_spot_190 (fun v57 ev57 _ => ?_)
                        replace E := zLet_s ev57 E
                        exact ret _ _ _ _ dX11_spot_191 rfl ⟨E.symm.trans hR, ⟨⟨gNt4, gHt4, gEt4, gLt4⟩, hI, hS⟩⟩
                      · skip
                        replace E := zIf_f q53 E
                        by_cases q58 : p2.toInt = 10
                        · refine zg_tabIn X 192 10 dX11_spot_15 q58 (by decide) (by decide) rfl (by decide) ?_
                          replace E := zIf_t q58 E
                          refine zg_aload_n X 0 rfl dX11_spot_192 ?_
                          refine fg_X11_110 X hI ha0 dX11_spot_193 (fun v59 ev59 hv59 => ?_)
                          replace E := zLet_s (zgr ev59) E
                          refine zg_bipush X 36 dX11_spot_196 (by decide) (fun v60 _ hv60 => ?_)
                          replace E := zLet_s (zcst hv60 (by decide)) E
                          refine zg_iload_n X 1 rfl dX11_spot_198 ?_
                          refine zg_iadd X dX11_spot_199 (by omega) (by omega) (fun v61 ev61 hv61 => ?_)
                          replace E := zLet_s ev61 E
                          refine ag_149 X hI hv59 (by omega) (by omega) dX11_spot_200 (fun v62 ev62 _ => ?_)
                          replace E := zLet_s ev62 E
                          exact ret _ _ _ _ dX11_spot_201 rfl ⟨E.symm.trans hR, ⟨⟨gNt4, gHt4, gEt4, gLt4⟩, hI, hS⟩⟩
                        · skip
                          replace E := zIf_f q58 E
                          by_cases q63 : p2.toInt = 11
                          · refine zg_tabIn X 202 11 dX11_spot_15 q63 (by decide) (by decide) rfl (by decide) ?_
                            replace E := zIf_t q63 E
                            refine zg_aload_n X 0 rfl dX11_spot_202 ?_
                            refine zg_iload_n X 1 rfl dX11_spot_203 ?_
                            refine zg_cVi (As := [.int p1]) (st := []) X ha0 rfl (by decide) rfl (t_X11_rainsAt l d L kd κ _ hI a0 ha0 p1  (by omega) gLt4) mk_X11_360 mc_X11_rainsAt mz_X11 mi_X11_rainsAt ml_X11_rainsAt (na := 1) ⟨md_X11.1, md_X11.2, by decide +kernel⟩ rfl ⟨by decide, by decide⟩ (Nat.le_of_ble_eq_true rfl) dX11_spot_204 (fun v65 t64 hq => ?_)
                            obtain ⟨hF, hI, g66⟩ := hq
                            replace E := zLet2_s hF E
                            have hS := hS.tr g66 (by decide) (by decide)
                            have Mt64 := (zM_same hI ha0 g66 (by decide)).trans Mt4
                            have gNt64 := gN.same hI ha0 g66 (by decide) gNt4
                            have gHt64 := gH.same hI ha0 g66 (by decide) gHt4
                            have gEt64 := gE.same hI ha0 g66 (by decide) gEt4
                            have gLt64 := gL.same hI ha0 g66 (by decide) gLt4
                            have gRt64 := gR.same hI ha0 g66 (by decide) gRt4
                            have gBt64 := gB.same hI ha0 g66 (by decide) gBt4
                            exact ret _ _ _ _ dX11_spot_207 rfl ⟨E.symm.trans hR, ⟨⟨gNt64, gHt64, gEt64, gLt64⟩, hI, hS⟩⟩
                          · skip
                            replace E := zIf_f q63 E
                            by_cases q67 : p2.toInt = 12
                            · refine zg_tabIn X 208 12 dX11_spot_15 q67 (by decide) (by decide) rfl (by decide) ?_
                              replace E := zIf_t q67 E
                              refine zg_aload_n X 0 rfl dX11_spot_208 ?_
                              refine zg_iload_n X 1 rfl dX11_spot_209 ?_
                              refine zg_cVi (As := [.int p1]) (st := []) X ha0 rfl (by decide) rfl (t_X11_driesAt l d L kd κ _ hI a0 ha0 p1  (by omega) gLt4) mk_X11_363 mc_X11_driesAt mz_X11 mi_X11_driesAt ml_X11_driesAt (na := 1) ⟨md_X11.1, md_X11.2, by decide +kernel⟩ rfl ⟨by decide, by decide⟩ (Nat.le_of_ble_eq_true rfl) dX11_spot_210 (fun v69 t68 hq => ?_)
                              obtain ⟨hF, hI, g70⟩ := hq
                              replace E := zLet2_s hF E
                              have hS := hS.tr g70 (by decide) (by decide)
                              have Mt68 := (zM_same hI ha0 g70 (by decide)).trans Mt4
                              have gNt68 := gN.same hI ha0 g70 (by decide) gNt4
                              have gHt68 := gH.same hI ha0 g70 (by decide) gHt4
                              have gEt68 := gE.same hI ha0 g70 (by decide) gEt4
                              have gLt68 := gL.same hI ha0 g70 (by decide) gLt4
                              have gRt68 := gR.same hI ha0 g70 (by decide) gRt4
                              have gBt68 := gB.same hI ha0 g70 (by decide) gBt4
                              exact ret _ _ _ _ dX11_spot_213 rfl ⟨E.symm.trans hR, ⟨⟨gNt68, gHt68, gEt68, gLt68⟩, hI, hS⟩⟩
                            · skip
                              replace E := zIf_f q67 E
                              refine zg_tabOut X 214 dX11_spot_15 (by omega) (by decide) ?_
                              refine zg_iconst X (-1) dX11_spot_214 (by decide) (fun v71 _ hv71 => ?_)
                              replace E := zLet_s (zcst hv71 (by decide)) E
                              exact ret _ _ _ _ dX11_spot_215 rfl ⟨E.symm.trans hR, ⟨⟨gNt4, gHt4, gEt4, gLt4⟩, hI, hS⟩⟩
  · skip
    replace E := zIf_t c3 E
    refine zg_iconst X (-1) dX11_spot_8 (by decide) (fun v72 _ hv72 => ?_)
    replace E := zLet_s (zcst hv72 (by decide)) E
    exact ret _ _ _ _ dX11_spot_9 rfl ⟨E.symm.trans hR, ⟨⟨hgN, hgH, hgE, hgL⟩, hI, hS⟩⟩
set_option maxHeartbeats 4000000 in
set_option maxRecDepth 100000 in
theorem t_X11_isClaim (l : Launch) (d : zD2) (L : List Nat) (kd : Nat → Nat) (κ : Int) (σ : zS) (hI : zJ κ L kd σ) (a0 : Nat) (ha0 : zT L kd a0 11) (p1 : Int32) (p2 : Int32) (hgN : gN a0 σ) (hgL : gL a0 σ) : zMi l yX11_isClaim (Cond.code yX11_isClaim cX11_isClaim 3 (some .boolean) :: zWL) 5 [.ref a0, .int p1, .int p2] d L kd σ (fun v σ2 => (v, σ2) = F_X11_isClaim a0 p1 p2 σ ∧ ((((0 ≤ v.toInt ∧ v.toInt ≤ 1)) ∧ (((v.toInt = 1 ∧ 1 ≤ p1.toInt ∧ p1.toInt < zM a0 σ ∧ 0 ≤ p2.toInt ∧ p2.toInt ≤ 2) ∨ v.toInt = 0)) ∧ ((v.toInt = 1 → zSrc a0 σ2 p1.toInt)) ∧ (gR a0 σ2) ∧ (gB a0 σ2)) ∧ zJ κ L kd σ2 ∧ zSame a0 [47, 50, 51] [145, 146, 149, 152, 153, 154, 155] L kd σ σ2)) := by
  refine zMi.of (own := RX11) (by decide +kernel) rfl rfl (Nat.le_of_ble_eq_true rfl) ?_
  intro p e s m args below meth c A Q X ret
  have hS : zSame a0 [47, 50, 51] [145, 146, 149, 152, 153, 154, 155] L kd σ σ := zSame.rf
  refine zg_lv (lv2 := [(0, .ref a0), (1, .int p1), (2, .int p2)]) rfl ?_
  have zm := zM_in hI ha0
  obtain ⟨R, hR⟩ : ∃ R, R = F_X11_isClaim a0 p1 p2 σ := ⟨_, rfl⟩
  have E := hR
  unfold F_X11_isClaim at E
  refine zg_aload_n X 0 rfl dX11_isClaim_0 ?_
  refine zg_cVv (As := []) (st := []) X ha0 rfl (by decide) rfl (t_X11_copies l d L kd κ _ hI a0 ha0    hgN hgL) mk_X11_332 mc_X11_copies mz_X11 mi_X11_copies ml_X11_copies (na := 0) ⟨md_X11.1, md_X11.2, by decide +kernel⟩ rfl ⟨by decide, by decide⟩ (Nat.le_of_ble_eq_true rfl) dX11_isClaim_1 (fun t1 hq => ?_)
  obtain ⟨hF, ⟨ht1_fact0, gRt1, gBt1⟩, hI, g2⟩ := hq
  replace E := zLet_s hF E
  have hS := hS.tr g2 (by decide) (by decide)
  have Mt1 := zM_same hI ha0 g2 (by decide)
  have gNt1 := gN.same hI ha0 g2 (by decide) hgN
  have gLt1 := gL.same hI ha0 g2 (by decide) hgL
  refine zg_aload_n X 0 rfl dX11_isClaim_4 ?_
  refine zg_iload_n X 1 rfl dX11_isClaim_5 ?_
  refine zg_cVi (As := [.int p1]) (st := []) X ha0 rfl (by decide) rfl (t_X11_isSource l d L kd κ _ hI a0 ha0 p1  ) mk_X11_342 mc_X11_isSource mz_X11 mi_X11_isSource ml_X11_isSource (na := 1) ⟨md_X11.1, md_X11.2, by decide +kernel⟩ rfl ⟨by decide, by decide⟩ (Nat.le_of_ble_eq_true rfl) dX11_isClaim_6 (fun v4 t3 hq => ?_)
  obtain ⟨⟨hF, ⟨ht3_res, ht3_fact0, ht3_fact1, ht3_fact2⟩⟩, rfl⟩ := hq
  replace E := zLet_s hF E
  have zs := ht3_fact1
  refine zg_if_eq X 23 dX11_isClaim_9 (by decide) (fun c5 => ?_) (fun c5 => ?_)
  · skip
    replace E := zIf_t c5 E
    refine zg_iconst X 0 dX11_isClaim_23 (by decide) (fun v6 _ hv6 => ?_)
    replace E := zLet_s (zcst hv6 (by decide)) E
    exact ret _ _ _ _ dX11_isClaim_24 (zb_bool ⟨by omega, by omega⟩) ⟨E.symm.trans hR, ⟨⟨⟨by omega, by omega⟩, (by omega), (fun hv => by first | (exfalso; omega) | exact zs (by omega)), gRt1, gBt1⟩, hI, hS⟩⟩
  · skip
    replace E := zIf_f c5 E
    refine zg_iload_n X 2 rfl dX11_isClaim_12 ?_
    refine zg_cSi (As := [.int p2]) (st := []) X (t_X11_isLaw l d L kd _ p2 ) mk_X11_386 mc_X11_isLaw mz_X11 ms_X11_isLaw (na := 1) ⟨md_X11.1, md_X11.2, by decide +kernel⟩ rfl ⟨by decide, by decide⟩ (Nat.le_of_ble_eq_true rfl) dX11_isClaim_13 (fun v7 σ2 hq => ?_)
    obtain ⟨⟨hF, hv7⟩, rfl⟩ := hq
    replace E := zLet_s hF E
    refine zg_if_eq X 23 dX11_isClaim_16 (by decide) (fun c8 => ?_) (fun c8 => ?_)
    · skip
      replace E := zIf_t c8 E
      refine zg_iconst X 0 dX11_isClaim_23 (by decide) (fun v9 _ hv9 => ?_)
      replace E := zLet_s (zcst hv9 (by decide)) E
      exact ret _ _ _ _ dX11_isClaim_24 (zb_bool ⟨by omega, by omega⟩) ⟨E.symm.trans hR, ⟨⟨⟨by omega, by omega⟩, (by omega), (fun hv => by first | (exfalso; omega) | exact zs (by omega)), gRt1, gBt1⟩, hI, hS⟩⟩
    · skip
      replace E := zIf_f c8 E
      refine zg_iconst X 1 dX11_isClaim_19 (by decide) (fun v10 _ hv10 => ?_)
      replace E := zLet_s (zcst hv10 (by decide)) E
      refine zg_goto X 24 dX11_isClaim_20 (by decide) ?_
      exact ret _ _ _ _ dX11_isClaim_24 (zb_bool ⟨by omega, by omega⟩) ⟨E.symm.trans hR, ⟨⟨⟨by omega, by omega⟩, (by omega), (fun hv => by first | (exfalso; omega) | exact zs (by omega)), gRt1, gBt1⟩, hI, hS⟩⟩
set_option maxHeartbeats 4000000 in
set_option maxRecDepth 100000 in
theorem t_X11_claim (l : Launch) (d : zD2) (L : List Nat) (kd : Nat → Nat) (κ : Int) (σ : zS) (hI : zJ κ L kd σ) (a0 : Nat) (ha0 : zT L kd a0 11) (p1 : Int32) (p2 : Int32) (hgN : gN a0 σ) (hgH : gH a0 σ) (hgE : gE a0 σ) (hgL : gL a0 σ) : zMi l yX11_claim (Cond.code yX11_claim cX11_claim 3 (some .int) :: zWL) 6 [.ref a0, .int p1, .int p2] d L kd σ (fun v σ2 => (v, σ2) = F_X11_claim a0 p1 p2 σ ∧ (((gN a0 σ2) ∧ (gH a0 σ2) ∧ (gE a0 σ2) ∧ (gL a0 σ2)) ∧ zJ κ L kd σ2 ∧ zSame a0 [47, 50, 51] [145, 146, 149, 152, 153, 154, 155] L kd σ σ2)) := by
  refine zMi.of (own := RX11) (by decide +kernel) rfl rfl (Nat.le_of_ble_eq_true rfl) ?_
  intro p e s m args below meth c A Q X ret
  have hS : zSame a0 [47, 50, 51] [145, 146, 149, 152, 153, 154, 155] L kd σ σ := zSame.rf
  refine zg_lv (lv2 := [(0, .ref a0), (1, .int p1), (2, .int p2)]) rfl ?_
  have zm := zM_in hI ha0
  obtain ⟨R, hR⟩ : ∃ R, R = F_X11_claim a0 p1 p2 σ := ⟨_, rfl⟩
  have E := hR
  unfold F_X11_claim at E
  refine zg_aload_n X 0 rfl dX11_claim_0 ?_
  refine zg_iload_n X 1 rfl dX11_claim_1 ?_
  refine zg_iload_n X 2 rfl dX11_claim_2 ?_
  refine zg_cVi (As := [.int p1, .int p2]) (st := []) X ha0 rfl (by decide) rfl (t_X11_isClaim l d L kd κ _ hI a0 ha0 p1 p2   hgN hgL) mk_X11_389 mc_X11_isClaim mz_X11 mi_X11_isClaim ml_X11_isClaim (na := 2) ⟨md_X11.1, md_X11.2, by decide +kernel⟩ rfl ⟨by decide, by decide⟩ (Nat.le_of_ble_eq_true rfl) dX11_claim_3 (fun v2 t1 hq => ?_)
  obtain ⟨hF, ⟨ht1_res, ht1_fact0, ht1_fact1, gRt1, gBt1⟩, hI, g3⟩ := hq
  replace E := zLet2_s hF E
  have hS := hS.tr g3 (by decide) (by decide)
  have gNt1 := gN.same hI ha0 g3 (by decide) hgN
  have gHt1 := gH.same hI ha0 g3 (by decide) hgH
  have gEt1 := gE.same hI ha0 g3 (by decide) hgE
  have gLt1 := gL.same hI ha0 g3 (by decide) hgL
  refine zg_if_eq X 18 dX11_claim_6 (by decide) (fun c4 => ?_) (fun c4 => ?_)
  · skip
    replace E := zIf_t c4 E
    refine zg_iconst X (-1) dX11_claim_18 (by decide) (fun v5 _ hv5 => ?_)
    replace E := zLet_s (zcst hv5 (by decide)) E
    exact ret _ _ _ _ dX11_claim_19 rfl ⟨E.symm.trans hR, ⟨⟨gNt1, gHt1, gEt1, gLt1⟩, hI, hS⟩⟩
  · skip
    replace E := zIf_f c4 E
    refine zg_aload_n X 0 rfl dX11_claim_9 ?_
    refine zg_iload_n X 1 rfl dX11_claim_10 ?_
    refine zg_iload_n X 2 rfl dX11_claim_11 ?_
    refine zg_cVi (As := [.int p1, .int p2]) (st := []) X ha0 rfl (by decide) rfl (t_X11_claimOf l d L kd κ _ hI a0 ha0 p1 p2  (by omega) (by omega) gLt1) mk_X11_367 mc_X11_claimOf mz_X11 mi_X11_claimOf ml_X11_claimOf (na := 2) ⟨md_X11.1, md_X11.2, by decide +kernel⟩ rfl ⟨by decide, by decide⟩ (Nat.le_of_ble_eq_true rfl) dX11_claim_12 (fun v7 t6 hq => ?_)
    obtain ⟨hF, hI, g8⟩ := hq
    replace E := zLet2_s hF E
    have hS := hS.tr g8 (by decide) (by decide)
    have gNt6 := gN.same hI ha0 g8 (by decide) gNt1
    have gHt6 := gH.same hI ha0 g8 (by decide) gHt1
    have gEt6 := gE.same hI ha0 g8 (by decide) gEt1
    have gLt6 := gL.same hI ha0 g8 (by decide) gLt1
    have gRt6 := gR.same hI ha0 g8 (by decide) gRt1
    have gBt6 := gB.same hI ha0 g8 (by decide) gBt1
    refine zg_goto X 19 dX11_claim_15 (by decide) ?_
    exact ret _ _ _ _ dX11_claim_19 rfl ⟨E.symm.trans hR, ⟨⟨gNt6, gHt6, gEt6, gLt6⟩, hI, hS⟩⟩
set_option maxHeartbeats 4000000 in
set_option maxRecDepth 100000 in
theorem t_X11_winner (l : Launch) (d : zD2) (L : List Nat) (kd : Nat → Nat) (κ : Int) (σ : zS) (hI : zJ κ L kd σ) (a0 : Nat) (ha0 : zT L kd a0 11) (p1 : Int32) (hgN : gN a0 σ) (hgH : gH a0 σ) (hgE : gE a0 σ) (hgL : gL a0 σ) : zMi l yX11_winner (Cond.code yX11_winner cX11_winner 2 (some .int) :: zWL) 5 [.ref a0, .int p1] d L kd σ (fun v σ2 => (v, σ2) = F_X11_winner a0 p1 σ ∧ (((gN a0 σ2) ∧ (gH a0 σ2) ∧ (gE a0 σ2) ∧ (gL a0 σ2)) ∧ zJ κ L kd σ2 ∧ zSame a0 [47, 50, 51] [145, 146, 149, 152, 153, 154, 155] L kd σ σ2)) := by
  refine zMi.of (own := RX11) (by decide +kernel) rfl rfl (Nat.le_of_ble_eq_true rfl) ?_
  intro p e s m args below meth c A Q X ret
  have hS : zSame a0 [47, 50, 51] [145, 146, 149, 152, 153, 154, 155] L kd σ σ := zSame.rf
  refine zg_lv (lv2 := [(0, .ref a0), (1, .int p1)]) rfl ?_
  obtain ⟨R, hR⟩ : ∃ R, R = F_X11_winner a0 p1 σ := ⟨_, rfl⟩
  have E := hR
  unfold F_X11_winner at E
  refine zg_iload_n X 1 rfl dX11_winner_0 ?_
  refine zg_cSi (As := [.int p1]) (st := []) X (t_X11_isLaw l d L kd _ p1 ) mk_X11_386 mc_X11_isLaw mz_X11 ms_X11_isLaw (na := 1) ⟨md_X11.1, md_X11.2, by decide +kernel⟩ rfl ⟨by decide, by decide⟩ (Nat.le_of_ble_eq_true rfl) dX11_winner_1 (fun v1 σ2 hq => ?_)
  obtain ⟨⟨hF, hv1⟩, rfl⟩ := hq
  replace E := zLet_s hF E
  refine zg_if_ne X 9 dX11_winner_4 (by decide) (fun c2 => ?_) (fun c2 => ?_)
  · skip
    replace E := zIf_f c2 E
    refine zg_aload_n X 0 rfl dX11_winner_9 ?_
    refine zg_cVv (As := []) (st := []) X ha0 rfl (by decide) rfl (t_X11_copies l d L kd κ _ hI a0 ha0    hgN hgL) mk_X11_332 mc_X11_copies mz_X11 mi_X11_copies ml_X11_copies (na := 0) ⟨md_X11.1, md_X11.2, by decide +kernel⟩ rfl ⟨by decide, by decide⟩ (Nat.le_of_ble_eq_true rfl) dX11_winner_10 (fun t3 hq => ?_)
    obtain ⟨hF, ⟨ht3_fact0, gRt3, gBt3⟩, hI, g4⟩ := hq
    replace E := zLet_s hF E
    have hS := hS.tr g4 (by decide) (by decide)
    have gNt3 := gN.same hI ha0 g4 (by decide) hgN
    have gHt3 := gH.same hI ha0 g4 (by decide) hgH
    have gEt3 := gE.same hI ha0 g4 (by decide) hgE
    have gLt3 := gL.same hI ha0 g4 (by decide) hgL
    refine zg_aload_n X 0 rfl dX11_winner_13 ?_
    refine zg_iload_n X 1 rfl dX11_winner_14 ?_
    refine zg_cVi (As := [.int p1]) (st := []) X ha0 rfl (by decide) rfl (t_X11_winnerBy l d L kd κ _ hI a0 ha0 p1  (by omega) gLt3) mk_X11_374 mc_X11_winnerBy mz_X11 mi_X11_winnerBy ml_X11_winnerBy (na := 1) ⟨md_X11.1, md_X11.2, by decide +kernel⟩ rfl ⟨by decide, by decide⟩ (Nat.le_of_ble_eq_true rfl) dX11_winner_15 (fun v6 t5 hq => ?_)
    obtain ⟨hF, ⟨ht5_res, ht5_fact0, ht5_fact1⟩, hI, g7⟩ := hq
    replace E := zLet2_s hF E
    have hS := hS.tr g7 (by decide) (by decide)
    have gNt5 := gN.same hI ha0 g7 (by decide) gNt3
    have gHt5 := gH.same hI ha0 g7 (by decide) gHt3
    have gEt5 := gE.same hI ha0 g7 (by decide) gEt3
    have gLt5 := gL.same hI ha0 g7 (by decide) gLt3
    have gRt5 := gR.same hI ha0 g7 (by decide) gRt3
    have gBt5 := gB.same hI ha0 g7 (by decide) gBt3
    exact ret _ _ _ _ dX11_winner_18 rfl ⟨E.symm.trans hR, ⟨⟨gNt5, gHt5, gEt5, gLt5⟩, hI, hS⟩⟩
  · skip
    replace E := zIf_t c2 E
    refine zg_iconst X (-1) dX11_winner_7 (by decide) (fun v8 _ hv8 => ?_)
    replace E := zLet_s (zcst hv8 (by decide)) E
    exact ret _ _ _ _ dX11_winner_8 rfl ⟨E.symm.trans hR, ⟨⟨hgN, hgH, hgE, hgL⟩, hI, hS⟩⟩
set_option maxHeartbeats 4000000 in
set_option maxRecDepth 100000 in
theorem t_X11_canTurn (l : Launch) (d : zD2) (L : List Nat) (kd : Nat → Nat) (κ : Int) (σ : zS) (hI : zJ κ L kd σ) (a0 : Nat) (ha0 : zT L kd a0 11) (p1 : Int32) (p2 : Int32) : zMi l yX11_canTurn (Cond.code yX11_canTurn cX11_canTurn 3 (some .boolean) :: zWL) 2 [.ref a0, .int p1, .int p2] d L kd σ (fun v σ2 => (v = F_X11_canTurn a0 p1 p2 σ ∧ (((0 ≤ v.toInt ∧ v.toInt ≤ 1)) ∧ (((v.toInt = 1 ∧ 1 ≤ p1.toInt ∧ p1.toInt < zM a0 σ ∧ 0 ≤ p2.toInt ∧ p2.toInt < zM a0 σ ∧ ¬ zbt (zp a0 σ 54 p1.toInt) p2.toInt) ∨ v.toInt = 0)))) ∧ σ = σ2) := by
  refine zMi.of (own := RX11) (by decide +kernel) rfl rfl (Nat.le_of_ble_eq_true rfl) ?_
  intro p e s m args below meth c A Q X ret
  refine zg_lv (lv2 := [(0, .ref a0), (1, .int p1), (2, .int p2)]) rfl ?_
  have zm := zM_in hI ha0
  obtain ⟨R, hR⟩ : ∃ R, R = F_X11_canTurn a0 p1 p2 σ := ⟨_, rfl⟩
  have E := hR
  unfold F_X11_canTurn at E
  refine zg_aload_n X 0 rfl dX11_canTurn_0 ?_
  refine zg_iload_n X 1 rfl dX11_canTurn_1 ?_
  refine zg_cVi (As := [.int p1]) (st := []) X ha0 rfl (by decide) rfl (t_X11_isBeside l d L kd κ _ hI a0 ha0 p1  ) mk_X11_339 mc_X11_isBeside mz_X11 mi_X11_isBeside ml_X11_isBeside (na := 1) ⟨md_X11.1, md_X11.2, by decide +kernel⟩ rfl ⟨by decide, by decide⟩ (Nat.le_of_ble_eq_true rfl) dX11_canTurn_2 (fun v2 t1 hq => ?_)
  obtain ⟨⟨hF, ⟨ht1_res, ht1_fact0⟩⟩, rfl⟩ := hq
  replace E := zLet_s hF E
  refine zg_if_eq X 43 dX11_canTurn_5 (by decide) (fun c3 => ?_) (fun c3 => ?_)
  · skip
    replace E := zIf_t c3 E
    refine zg_iconst X 0 dX11_canTurn_43 (by decide) (fun v4 _ hv4 => ?_)
    replace E := zLet_s (zcst hv4 (by decide)) E
    exact ret _ _ _ _ dX11_canTurn_44 (zb_bool ⟨by omega, by omega⟩) ⟨⟨E.symm.trans hR, ⟨⟨by omega, by omega⟩, (by first | exact Or.inr (by omega) | exact Or.inl ⟨by omega, by omega, by omega, by omega, by omega, zx.elim (fun z => z.2) (fun z => absurd z.1 (by omega))⟩)⟩⟩, rfl⟩
  · skip
    replace E := zIf_f c3 E
    refine zg_aload_n X 0 rfl dX11_canTurn_8 ?_
    refine zg_iload_n X 2 rfl dX11_canTurn_9 ?_
    refine zg_cVi (As := [.int p2]) (st := []) X ha0 rfl (by decide) rfl (t_X11_isPlace l d L kd κ _ hI a0 ha0 p2  ) mk_X11_383 mc_X11_isPlace mz_X11 mi_X11_isPlace ml_X11_isPlace (na := 1) ⟨md_X11.1, md_X11.2, by decide +kernel⟩ rfl ⟨by decide, by decide⟩ (Nat.le_of_ble_eq_true rfl) dX11_canTurn_10 (fun v6 t5 hq => ?_)
    obtain ⟨⟨hF, ⟨ht5_res, ht5_fact0⟩⟩, rfl⟩ := hq
    replace E := zLet_s hF E
    refine zg_if_eq X 43 dX11_canTurn_13 (by decide) (fun c7 => ?_) (fun c7 => ?_)
    · skip
      replace E := zIf_t c7 E
      refine zg_iconst X 0 dX11_canTurn_43 (by decide) (fun v8 _ hv8 => ?_)
      replace E := zLet_s (zcst hv8 (by decide)) E
      exact ret _ _ _ _ dX11_canTurn_44 (zb_bool ⟨by omega, by omega⟩) ⟨⟨E.symm.trans hR, ⟨⟨by omega, by omega⟩, (by first | exact Or.inr (by omega) | exact Or.inl ⟨by omega, by omega, by omega, by omega, by omega, zx.elim (fun z => z.2) (fun z => absurd z.1 (by omega))⟩)⟩⟩, rfl⟩
    · skip
      replace E := zIf_f c7 E
      refine zg_aload_n X 0 rfl dX11_canTurn_16 ?_
      refine fg_X11_107 X hI ha0 dX11_canTurn_17 (fun v9 ev9 hv9 => ?_)
      replace E := zLet_s (zgr ev9) E
      refine zg_iload_n X 1 rfl dX11_canTurn_20 ?_
      refine ag_148 X hI hv9 (by omega) (by omega) dX11_canTurn_21 (fun v10 ev10 _ => ?_)
      replace E := zLet_s ev10 E
      refine zg_iload_n X 2 rfl dX11_canTurn_22 ?_
      refine zg_icmp_eq X 43 dX11_canTurn_23 (by decide) (fun c11 => ?_) (fun c11 => ?_)
      · skip
        replace E := zIf_t c11 E
        refine zg_iconst X 0 dX11_canTurn_43 (by decide) (fun v12 _ hv12 => ?_)
        replace E := zLet_s (zcst hv12 (by decide)) E
        exact ret _ _ _ _ dX11_canTurn_44 (zb_bool ⟨by omega, by omega⟩) ⟨⟨E.symm.trans hR, ⟨⟨by omega, by omega⟩, (by first | exact Or.inr (by omega) | exact Or.inl ⟨by omega, by omega, by omega, by omega, by omega, zx.elim (fun z => z.2) (fun z => absurd z.1 (by omega))⟩)⟩⟩, rfl⟩
      · skip
        replace E := zIf_f c11 E
        refine zg_aload_n X 0 rfl dX11_canTurn_26 ?_
        refine fg_X11_119 X hI ha0 dX11_canTurn_27 (fun v13 ev13 hv13 => ?_)
        replace E := zLet_s (zgr ev13) E
        refine zg_iload_n X 1 rfl dX11_canTurn_30 ?_
        refine ag_154 X hI hv13 (by omega) (by omega) dX11_canTurn_31 (fun v14 ev14 _ => ?_)
        replace E := zLet_s ev14 E
        have qv14 := zp_ld ev13 ev14
        refine zg_iload_n X 2 rfl dX11_canTurn_32 ?_
        refine zg_ishrW X dX11_canTurn_33 (fun v15 ev15 => ?_)
        replace E := zLet_s ev15 E
        refine zg_iconst X 1 dX11_canTurn_34 (by decide) (fun v16 _ hv16 => ?_)
        replace E := zLet_s (zcst hv16 (by decide)) E
        refine zg_iandW X dX11_canTurn_35 (fun v17 ev17 => ?_)
        replace E := zLet_s ev17 E
        have zx := zbt_t (by omega) ev15 ev17 (by omega) (by omega)
        rw [qv14] at zx
        refine zg_if_ne X 43 dX11_canTurn_36 (by decide) (fun c18 => ?_) (fun c18 => ?_)
        · skip
          replace E := zIf_f c18 E
          refine zg_iconst X 0 dX11_canTurn_43 (by decide) (fun v19 _ hv19 => ?_)
          replace E := zLet_s (zcst hv19 (by decide)) E
          exact ret _ _ _ _ dX11_canTurn_44 (zb_bool ⟨by omega, by omega⟩) ⟨⟨E.symm.trans hR, ⟨⟨by omega, by omega⟩, (by first | exact Or.inr (by omega) | exact Or.inl ⟨by omega, by omega, by omega, by omega, by omega, zx.elim (fun z => z.2) (fun z => absurd z.1 (by omega))⟩)⟩⟩, rfl⟩
        · skip
          replace E := zIf_t c18 E
          refine zg_iconst X 1 dX11_canTurn_39 (by decide) (fun v20 _ hv20 => ?_)
          replace E := zLet_s (zcst hv20 (by decide)) E
          refine zg_goto X 44 dX11_canTurn_40 (by decide) ?_
          exact ret _ _ _ _ dX11_canTurn_44 (zb_bool ⟨by omega, by omega⟩) ⟨⟨E.symm.trans hR, ⟨⟨by omega, by omega⟩, (by first | exact Or.inr (by omega) | exact Or.inl ⟨by omega, by omega, by omega, by omega, by omega, zx.elim (fun z => z.2) (fun z => absurd z.1 (by omega))⟩)⟩⟩, rfl⟩
set_option maxHeartbeats 4000000 in
set_option maxRecDepth 100000 in
theorem t_X11_turn (l : Launch) (d : zD2) (L : List Nat) (kd : Nat → Nat) (κ : Int) (σ : zS) (hI : zJ κ L kd σ) (a0 : Nat) (ha0 : zT L kd a0 11) (p1 : Int32) (p2 : Int32) (hgN : gN a0 σ) (hgH : gH a0 σ) (hgE : gE a0 σ) (hgL : gL a0 σ) : zMi l yX11_turn (Cond.code yX11_turn cX11_turn 3 (some .boolean) :: zWL) 6 [.ref a0, .int p1, .int p2] d L kd σ (fun v σ2 => (v, σ2) = F_X11_turn a0 p1 p2 σ ∧ ((((0 ≤ v.toInt ∧ v.toInt ≤ 1)) ∧ (gN a0 σ2) ∧ (gH a0 σ2) ∧ (gE a0 σ2) ∧ (gL a0 σ2)) ∧ zJ κ L kd σ2 ∧ zSame a0 [47, 50, 51, 57] [145, 146, 148, 149, 152, 153, 154, 155, 158] L kd σ σ2)) := by
  refine zMi.of (own := RX11) (by decide +kernel) rfl rfl (Nat.le_of_ble_eq_true rfl) ?_
  intro p e s m args below meth c A Q X ret
  have hS : zSame a0 [47, 50, 51, 57] [145, 146, 148, 149, 152, 153, 154, 155, 158] L kd σ σ := zSame.rf
  refine zg_lv (lv2 := [(0, .ref a0), (1, .int p1), (2, .int p2)]) rfl ?_
  have zm := zM_in hI ha0
  obtain ⟨R, hR⟩ : ∃ R, R = F_X11_turn a0 p1 p2 σ := ⟨_, rfl⟩
  have E := hR
  unfold F_X11_turn at E
  refine zg_aload_n X 0 rfl dX11_turn_0 ?_
  refine zg_cVv (As := []) (st := []) X ha0 rfl (by decide) rfl (t_X11_copies l d L kd κ _ hI a0 ha0    hgN hgL) mk_X11_332 mc_X11_copies mz_X11 mi_X11_copies ml_X11_copies (na := 0) ⟨md_X11.1, md_X11.2, by decide +kernel⟩ rfl ⟨by decide, by decide⟩ (Nat.le_of_ble_eq_true rfl) dX11_turn_1 (fun t1 hq => ?_)
  obtain ⟨hF, ⟨ht1_fact0, gRt1, gBt1⟩, hI, g2⟩ := hq
  replace E := zLet_s hF E
  have hS := hS.tr g2 (by decide) (by decide)
  have Mt1 := zM_same hI ha0 g2 (by decide)
  have ut1_48 := zp_same hI ha0 g2 48 rfl (by decide) (by decide)
  have at1_48 := ut1_48
  have gNt1 := gN.same hI ha0 g2 (by decide) hgN
  have gHt1 := gH.same hI ha0 g2 (by decide) hgH
  have gEt1 := gE.same hI ha0 g2 (by decide) hgE
  have gLt1 := gL.same hI ha0 g2 (by decide) hgL
  have zrow := ht1_fact0
  refine zg_aload_n X 0 rfl dX11_turn_4 ?_
  refine zg_iload_n X 1 rfl dX11_turn_5 ?_
  refine zg_iload_n X 2 rfl dX11_turn_6 ?_
  refine zg_cVi (As := [.int p1, .int p2]) (st := []) X ha0 rfl (by decide) rfl (t_X11_canTurn l d L kd κ _ hI a0 ha0 p1 p2  ) mk_X11_399 mc_X11_canTurn mz_X11 mi_X11_canTurn ml_X11_canTurn (na := 2) ⟨md_X11.1, md_X11.2, by decide +kernel⟩ rfl ⟨by decide, by decide⟩ (Nat.le_of_ble_eq_true rfl) dX11_turn_7 (fun v4 t3 hq => ?_)
  obtain ⟨⟨hF, ⟨ht3_res, ht3_fact0⟩⟩, rfl⟩ := hq
  replace E := zLet_s hF E
  have zcan := ht3_fact0
  refine zg_if_ne X 15 dX11_turn_10 (by decide) (fun c5 => ?_) (fun c5 => ?_)
  · skip
    replace E := zIf_f c5 E
    obtain ⟨zc1, zc2, zc3, zc4, zc5, zc6⟩ := zcan.resolve_right (by omega)
    refine zg_aload_n X 0 rfl dX11_turn_15 ?_
    refine zg_iload_n X 1 rfl dX11_turn_16 ?_
    refine zg_iload_n X 2 rfl dX11_turn_17 ?_
    refine zg_cVv (As := [.int p1, .int p2]) (st := []) X ha0 rfl (by decide) rfl (t_X11_does l d L kd κ _ hI a0 ha0 p1 p2  (by omega) (gRow.turn (m := zM a0 t1) (by omega) gRt1 gBt1 zc2 zc3 zc4 zc5 zc6 (fun j h0 h1 => by show (if j = p1.toInt then p2.toInt else zp a0 t1 48 j) = _; rw [zrow j h0 h1])) gNt1 gHt1 gLt1) mk_X11_396 mc_X11_does mz_X11 mi_X11_does ml_X11_does (na := 2) ⟨md_X11.1, md_X11.2, by decide +kernel⟩ rfl ⟨by decide, by decide⟩ (Nat.le_of_ble_eq_true rfl) dX11_turn_18 (fun t6 hq => ?_)
    obtain ⟨hF, ⟨gNt6, gHt6⟩, hI, g7⟩ := hq
    replace E := zLet_s hF E
    have hS := hS.tr g7 (by decide) (by decide)
    have Mt6 := (zM_same hI ha0 g7 (by decide)).trans Mt1
    have gEt6 := gE.same hI ha0 g7 (by decide) gEt1
    have gLt6 := gL.same hI ha0 g7 (by decide) gLt1
    refine zg_iconst X 1 dX11_turn_21 (by decide) (fun v8 _ hv8 => ?_)
    replace E := zLet_s (zcst hv8 (by decide)) E
    exact ret _ _ _ _ dX11_turn_22 (zb_bool ⟨by omega, by omega⟩) ⟨E.symm.trans hR, ⟨⟨⟨by omega, by omega⟩, gNt6, gHt6, gEt6, gLt6⟩, hI, hS⟩⟩
  · skip
    replace E := zIf_t c5 E
    refine zg_iconst X 0 dX11_turn_13 (by decide) (fun v9 _ hv9 => ?_)
    replace E := zLet_s (zcst hv9 (by decide)) E
    exact ret _ _ _ _ dX11_turn_14 (zb_bool ⟨by omega, by omega⟩) ⟨E.symm.trans hR, ⟨⟨⟨by omega, by omega⟩, gNt1, gHt1, gEt1, gLt1⟩, hI, hS⟩⟩
set_option maxHeartbeats 4000000 in
set_option maxRecDepth 100000 in
theorem t_X11_dam (l : Launch) (d : zD2) (L : List Nat) (kd : Nat → Nat) (κ : Int) (σ : zS) (hI : zJ κ L kd σ) (a0 : Nat) (ha0 : zT L kd a0 11) (p1 : Int32) (p2 : Int32) (hgN : gN a0 σ) (hgH : gH a0 σ) (hgE : gE a0 σ) (hgL : gL a0 σ) : zMi l yX11_dam (Cond.code yX11_dam cX11_dam 3 (some .boolean) :: zWL) 6 [.ref a0, .int p1, .int p2] d L kd σ (fun v σ2 => (v, σ2) = F_X11_dam a0 p1 p2 σ ∧ ((((0 ≤ v.toInt ∧ v.toInt ≤ 1)) ∧ (gN a0 σ2) ∧ (gH a0 σ2) ∧ (gE a0 σ2) ∧ (gL a0 σ2)) ∧ zJ κ L kd σ2 ∧ zSame a0 [47, 50, 51, 57] [145, 146, 148, 149, 152, 153, 154, 155, 158] L kd σ σ2)) := by
  refine zMi.of (own := RX11) (by decide +kernel) rfl rfl (Nat.le_of_ble_eq_true rfl) ?_
  intro p e s m args below meth c A Q X ret
  have hS : zSame a0 [47, 50, 51, 57] [145, 146, 148, 149, 152, 153, 154, 155, 158] L kd σ σ := zSame.rf
  refine zg_lv (lv2 := [(0, .ref a0), (1, .int p1), (2, .int p2)]) rfl ?_
  have zm := zM_in hI ha0
  obtain ⟨R, hR⟩ : ∃ R, R = F_X11_dam a0 p1 p2 σ := ⟨_, rfl⟩
  have E := hR
  unfold F_X11_dam at E
  refine zg_aload_n X 0 rfl dX11_dam_0 ?_
  refine zg_iload_n X 1 rfl dX11_dam_1 ?_
  refine zg_cVi (As := [.int p1]) (st := []) X ha0 rfl (by decide) rfl (t_X11_isBeside l d L kd κ _ hI a0 ha0 p1  ) mk_X11_339 mc_X11_isBeside mz_X11 mi_X11_isBeside ml_X11_isBeside (na := 1) ⟨md_X11.1, md_X11.2, by decide +kernel⟩ rfl ⟨by decide, by decide⟩ (Nat.le_of_ble_eq_true rfl) dX11_dam_2 (fun v2 t1 hq => ?_)
  obtain ⟨⟨hF, ⟨ht1_res, ht1_fact0⟩⟩, rfl⟩ := hq
  replace E := zLet_s hF E
  refine zg_if_eq X 30 dX11_dam_5 (by decide) (fun c3 => ?_) (fun c3 => ?_)
  · skip
    replace E := zIf_t c3 E
    refine zg_iconst X 0 dX11_dam_30 (by decide) (fun v4 _ hv4 => ?_)
    replace E := zLet_s (zcst hv4 (by decide)) E
    exact ret _ _ _ _ dX11_dam_31 (zb_bool ⟨by omega, by omega⟩) ⟨E.symm.trans hR, ⟨⟨⟨by omega, by omega⟩, hgN, hgH, hgE, hgL⟩, hI, hS⟩⟩
  · skip
    replace E := zIf_f c3 E
    refine zg_aload_n X 0 rfl dX11_dam_8 ?_
    refine fg_X11_107 X hI ha0 dX11_dam_9 (fun v5 ev5 hv5 => ?_)
    replace E := zLet_s (zgr ev5) E
    refine zg_bipush X 12 dX11_dam_12 (by decide) (fun v6 _ hv6 => ?_)
    replace E := zLet_s (zcst hv6 (by decide)) E
    refine zg_iload_n X 1 rfl dX11_dam_14 ?_
    refine zg_iadd X dX11_dam_15 (by omega) (by omega) (fun v7 ev7 hv7 => ?_)
    replace E := zLet_s ev7 E
    refine ag_148 X hI hv5 (by omega) (by omega) dX11_dam_16 (fun v8 ev8 _ => ?_)
    replace E := zLet_s ev8 E
    refine zg_iconst X 1 dX11_dam_17 (by decide) (fun v9 _ hv9 => ?_)
    replace E := zLet_s (zcst hv9 (by decide)) E
    refine zg_icmp_ne X 25 dX11_dam_18 (by decide) (fun c10 => ?_) (fun c10 => ?_)
    · skip
      replace E := zIf_f c10 E
      refine zg_iconst X 0 dX11_dam_25 (by decide) (fun v11 _ hv11 => ?_)
      replace E := zLet_s (zcst hv11 (by decide)) E
      refine zg_iload_n X 2 rfl dX11_dam_26 ?_
      refine zg_icmp_ne X 32 dX11_dam_27 (by decide) (fun c12 => ?_) (fun c12 => ?_)
      · skip
        replace E := zIf_f c12 E
        refine zg_aload_n X 0 rfl dX11_dam_32 ?_
        refine zg_bipush X 12 dX11_dam_33 (by decide) (fun v13 _ hv13 => ?_)
        replace E := zLet_s (zcst hv13 (by decide)) E
        refine zg_iload_n X 1 rfl dX11_dam_35 ?_
        refine zg_iadd X dX11_dam_36 (by omega) (by omega) (fun v14 ev14 hv14 => ?_)
        replace E := zLet_s ev14 E
        refine zg_iload_n X 2 rfl dX11_dam_37 ?_
        refine zg_if_eq X 45 dX11_dam_38 (by decide) (fun c15 => ?_) (fun c15 => ?_)
        · skip
          replace E := zIf_t c15 E
          refine zg_iconst X 0 dX11_dam_45 (by decide) (fun v16 _ hv16 => ?_)
          replace E := zLet_s (zcst hv16 (by decide)) E
          refine zg_cVv (As := [.int v14, .int v16]) (st := []) X ha0 rfl (by decide) rfl (t_X11_does l d L kd κ _ hI a0 ha0 v14 v16  (by omega) (gRow.congr zm.2 hgN (fun j h1 h2 => by show (if _ then _ else _) = _; rw [if_neg (by omega)])) hgN hgH hgL) mk_X11_396 mc_X11_does mz_X11 mi_X11_does ml_X11_does (na := 2) ⟨md_X11.1, md_X11.2, by decide +kernel⟩ rfl ⟨by decide, by decide⟩ (Nat.le_of_ble_eq_true rfl) dX11_dam_46 (fun t17 hq => ?_)
          obtain ⟨hF, ⟨gNt17, gHt17⟩, hI, g18⟩ := hq
          replace E := zLet_s hF E
          have hS := hS.tr g18 (by decide) (by decide)
          have Mt17 := zM_same hI ha0 g18 (by decide)
          have gEt17 := gE.same hI ha0 g18 (by decide) hgE
          have gLt17 := gL.same hI ha0 g18 (by decide) hgL
          refine zg_iconst X 1 dX11_dam_49 (by decide) (fun v19 _ hv19 => ?_)
          replace E := zLet_s (zcst hv19 (by decide)) E
          exact ret _ _ _ _ dX11_dam_50 (zb_bool ⟨by omega, by omega⟩) ⟨E.symm.trans hR, ⟨⟨⟨by omega, by omega⟩, gNt17, gHt17, gEt17, gLt17⟩, hI, hS⟩⟩
        · skip
          replace E := zIf_f c15 E
          refine zg_iconst X 1 dX11_dam_41 (by decide) (fun v20 _ hv20 => ?_)
          replace E := zLet_s (zcst hv20 (by decide)) E
          refine zg_goto X 46 dX11_dam_42 (by decide) ?_
          refine zg_cVv (As := [.int v14, .int v20]) (st := []) X ha0 rfl (by decide) rfl (t_X11_does l d L kd κ _ hI a0 ha0 v14 v20  (by omega) (gRow.congr zm.2 hgN (fun j h1 h2 => by show (if _ then _ else _) = _; rw [if_neg (by omega)])) hgN hgH hgL) mk_X11_396 mc_X11_does mz_X11 mi_X11_does ml_X11_does (na := 2) ⟨md_X11.1, md_X11.2, by decide +kernel⟩ rfl ⟨by decide, by decide⟩ (Nat.le_of_ble_eq_true rfl) dX11_dam_46 (fun t21 hq => ?_)
          obtain ⟨hF, ⟨gNt21, gHt21⟩, hI, g22⟩ := hq
          replace E := zLet_s hF E
          have hS := hS.tr g22 (by decide) (by decide)
          have Mt21 := zM_same hI ha0 g22 (by decide)
          have gEt21 := gE.same hI ha0 g22 (by decide) hgE
          have gLt21 := gL.same hI ha0 g22 (by decide) hgL
          refine zg_iconst X 1 dX11_dam_49 (by decide) (fun v23 _ hv23 => ?_)
          replace E := zLet_s (zcst hv23 (by decide)) E
          exact ret _ _ _ _ dX11_dam_50 (zb_bool ⟨by omega, by omega⟩) ⟨E.symm.trans hR, ⟨⟨⟨by omega, by omega⟩, gNt21, gHt21, gEt21, gLt21⟩, hI, hS⟩⟩
      · skip
        replace E := zIf_t c12 E
        refine zg_iconst X 0 dX11_dam_30 (by decide) (fun v24 _ hv24 => ?_)
        replace E := zLet_s (zcst hv24 (by decide)) E
        exact ret _ _ _ _ dX11_dam_31 (zb_bool ⟨by omega, by omega⟩) ⟨E.symm.trans hR, ⟨⟨⟨by omega, by omega⟩, hgN, hgH, hgE, hgL⟩, hI, hS⟩⟩
    · skip
      replace E := zIf_t c10 E
      refine zg_iconst X 1 dX11_dam_21 (by decide) (fun v25 _ hv25 => ?_)
      replace E := zLet_s (zcst hv25 (by decide)) E
      refine zg_goto X 26 dX11_dam_22 (by decide) ?_
      refine zg_iload_n X 2 rfl dX11_dam_26 ?_
      refine zg_icmp_ne X 32 dX11_dam_27 (by decide) (fun c26 => ?_) (fun c26 => ?_)
      · skip
        replace E := zIf_f c26 E
        refine zg_aload_n X 0 rfl dX11_dam_32 ?_
        refine zg_bipush X 12 dX11_dam_33 (by decide) (fun v27 _ hv27 => ?_)
        replace E := zLet_s (zcst hv27 (by decide)) E
        refine zg_iload_n X 1 rfl dX11_dam_35 ?_
        refine zg_iadd X dX11_dam_36 (by omega) (by omega) (fun v28 ev28 hv28 => ?_)
        replace E := zLet_s ev28 E
        refine zg_iload_n X 2 rfl dX11_dam_37 ?_
        refine zg_if_eq X 45 dX11_dam_38 (by decide) (fun c29 => ?_) (fun c29 => ?_)
        · skip
          replace E := zIf_t c29 E
          refine zg_iconst X 0 dX11_dam_45 (by decide) (fun v30 _ hv30 => ?_)
          replace E := zLet_s (zcst hv30 (by decide)) E
          refine zg_cVv (As := [.int v28, .int v30]) (st := []) X ha0 rfl (by decide) rfl (t_X11_does l d L kd κ _ hI a0 ha0 v28 v30  (by omega) (gRow.congr zm.2 hgN (fun j h1 h2 => by show (if _ then _ else _) = _; rw [if_neg (by omega)])) hgN hgH hgL) mk_X11_396 mc_X11_does mz_X11 mi_X11_does ml_X11_does (na := 2) ⟨md_X11.1, md_X11.2, by decide +kernel⟩ rfl ⟨by decide, by decide⟩ (Nat.le_of_ble_eq_true rfl) dX11_dam_46 (fun t31 hq => ?_)
          obtain ⟨hF, ⟨gNt31, gHt31⟩, hI, g32⟩ := hq
          replace E := zLet_s hF E
          have hS := hS.tr g32 (by decide) (by decide)
          have Mt31 := zM_same hI ha0 g32 (by decide)
          have gEt31 := gE.same hI ha0 g32 (by decide) hgE
          have gLt31 := gL.same hI ha0 g32 (by decide) hgL
          refine zg_iconst X 1 dX11_dam_49 (by decide) (fun v33 _ hv33 => ?_)
          replace E := zLet_s (zcst hv33 (by decide)) E
          exact ret _ _ _ _ dX11_dam_50 (zb_bool ⟨by omega, by omega⟩) ⟨E.symm.trans hR, ⟨⟨⟨by omega, by omega⟩, gNt31, gHt31, gEt31, gLt31⟩, hI, hS⟩⟩
        · skip
          replace E := zIf_f c29 E
          refine zg_iconst X 1 dX11_dam_41 (by decide) (fun v34 _ hv34 => ?_)
          replace E := zLet_s (zcst hv34 (by decide)) E
          refine zg_goto X 46 dX11_dam_42 (by decide) ?_
          refine zg_cVv (As := [.int v28, .int v34]) (st := []) X ha0 rfl (by decide) rfl (t_X11_does l d L kd κ _ hI a0 ha0 v28 v34  (by omega) (gRow.congr zm.2 hgN (fun j h1 h2 => by show (if _ then _ else _) = _; rw [if_neg (by omega)])) hgN hgH hgL) mk_X11_396 mc_X11_does mz_X11 mi_X11_does ml_X11_does (na := 2) ⟨md_X11.1, md_X11.2, by decide +kernel⟩ rfl ⟨by decide, by decide⟩ (Nat.le_of_ble_eq_true rfl) dX11_dam_46 (fun t35 hq => ?_)
          obtain ⟨hF, ⟨gNt35, gHt35⟩, hI, g36⟩ := hq
          replace E := zLet_s hF E
          have hS := hS.tr g36 (by decide) (by decide)
          have Mt35 := zM_same hI ha0 g36 (by decide)
          have gEt35 := gE.same hI ha0 g36 (by decide) hgE
          have gLt35 := gL.same hI ha0 g36 (by decide) hgL
          refine zg_iconst X 1 dX11_dam_49 (by decide) (fun v37 _ hv37 => ?_)
          replace E := zLet_s (zcst hv37 (by decide)) E
          exact ret _ _ _ _ dX11_dam_50 (zb_bool ⟨by omega, by omega⟩) ⟨E.symm.trans hR, ⟨⟨⟨by omega, by omega⟩, gNt35, gHt35, gEt35, gLt35⟩, hI, hS⟩⟩
      · skip
        replace E := zIf_t c26 E
        refine zg_iconst X 0 dX11_dam_30 (by decide) (fun v38 _ hv38 => ?_)
        replace E := zLet_s (zcst hv38 (by decide)) E
        exact ret _ _ _ _ dX11_dam_31 (zb_bool ⟨by omega, by omega⟩) ⟨E.symm.trans hR, ⟨⟨⟨by omega, by omega⟩, hgN, hgH, hgE, hgL⟩, hI, hS⟩⟩
set_option maxHeartbeats 4000000 in
set_option maxRecDepth 100000 in
theorem t_X11_rule (l : Launch) (d : zD2) (L : List Nat) (kd : Nat → Nat) (κ : Int) (σ : zS) (hI : zJ κ L kd σ) (a0 : Nat) (ha0 : zT L kd a0 11) (p1 : Int32) (hgN : gN a0 σ) (hgH : gH a0 σ) (hgE : gE a0 σ) (hgL : gL a0 σ) : zMi l yX11_rule (Cond.code yX11_rule cX11_rule 2 (some .boolean) :: zWL) 6 [.ref a0, .int p1] d L kd σ (fun v σ2 => (v, σ2) = F_X11_rule a0 p1 σ ∧ ((((0 ≤ v.toInt ∧ v.toInt ≤ 1)) ∧ (gN a0 σ2) ∧ (gH a0 σ2) ∧ (gE a0 σ2) ∧ (gL a0 σ2)) ∧ zJ κ L kd σ2 ∧ zSame a0 [47, 50, 51, 57] [145, 146, 148, 149, 152, 153, 154, 155, 158] L kd σ σ2)) := by
  refine zMi.of (own := RX11) (by decide +kernel) rfl rfl (Nat.le_of_ble_eq_true rfl) ?_
  intro p e s m args below meth c A Q X ret
  have hS : zSame a0 [47, 50, 51, 57] [145, 146, 148, 149, 152, 153, 154, 155, 158] L kd σ σ := zSame.rf
  refine zg_lv (lv2 := [(0, .ref a0), (1, .int p1)]) rfl ?_
  have zm := zM_in hI ha0
  obtain ⟨R, hR⟩ : ∃ R, R = F_X11_rule a0 p1 σ := ⟨_, rfl⟩
  have E := hR
  unfold F_X11_rule at E
  refine zg_iload_n X 1 rfl dX11_rule_0 ?_
  refine zg_cSi (As := [.int p1]) (st := []) X (t_X11_isLaw l d L kd _ p1 ) mk_X11_386 mc_X11_isLaw mz_X11 ms_X11_isLaw (na := 1) ⟨md_X11.1, md_X11.2, by decide +kernel⟩ rfl ⟨by decide, by decide⟩ (Nat.le_of_ble_eq_true rfl) dX11_rule_1 (fun v1 σ2 hq => ?_)
  obtain ⟨⟨hF, hv1⟩, rfl⟩ := hq
  replace E := zLet_s hF E
  refine zg_if_eq X 18 dX11_rule_4 (by decide) (fun c2 => ?_) (fun c2 => ?_)
  · skip
    replace E := zIf_t c2 E
    refine zg_iconst X 0 dX11_rule_18 (by decide) (fun v3 _ hv3 => ?_)
    replace E := zLet_s (zcst hv3 (by decide)) E
    exact ret _ _ _ _ dX11_rule_19 (zb_bool ⟨by omega, by omega⟩) ⟨E.symm.trans hR, ⟨⟨⟨by omega, by omega⟩, hgN, hgH, hgE, hgL⟩, hI, hS⟩⟩
  · skip
    replace E := zIf_f c2 E
    refine zg_aload_n X 0 rfl dX11_rule_7 ?_
    refine fg_X11_107 X hI ha0 dX11_rule_8 (fun v4 ev4 hv4 => ?_)
    replace E := zLet_s (zgr ev4) E
    refine zg_bipush X 49 dX11_rule_11 (by decide) (fun v5 _ hv5 => ?_)
    replace E := zLet_s (zcst hv5 (by decide)) E
    refine ag_148 X hI hv4 (by omega) (by omega) dX11_rule_13 (fun v6 ev6 _ => ?_)
    replace E := zLet_s ev6 E
    refine zg_iload_n X 1 rfl dX11_rule_14 ?_
    refine zg_icmp_ne X 20 dX11_rule_15 (by decide) (fun c7 => ?_) (fun c7 => ?_)
    · skip
      replace E := zIf_f c7 E
      refine zg_aload_n X 0 rfl dX11_rule_20 ?_
      refine zg_bipush X 49 dX11_rule_21 (by decide) (fun v8 _ hv8 => ?_)
      replace E := zLet_s (zcst hv8 (by decide)) E
      refine zg_iload_n X 1 rfl dX11_rule_23 ?_
      refine zg_cVv (As := [.int v8, .int p1]) (st := []) X ha0 rfl (by decide) rfl (t_X11_does l d L kd κ _ hI a0 ha0 v8 p1  (by omega) (gRow.law zm.2 hgN (v := p1.toInt) (by omega) (by omega) (fun j h1 h2 => by show (if _ then _ else _) = _; rw [if_neg (by omega)]) (by show (if _ then _ else _) = _; rw [if_pos (by omega)])) hgN hgH hgL) mk_X11_396 mc_X11_does mz_X11 mi_X11_does ml_X11_does (na := 2) ⟨md_X11.1, md_X11.2, by decide +kernel⟩ rfl ⟨by decide, by decide⟩ (Nat.le_of_ble_eq_true rfl) dX11_rule_24 (fun t9 hq => ?_)
      obtain ⟨hF, ⟨gNt9, gHt9⟩, hI, g10⟩ := hq
      replace E := zLet_s hF E
      have hS := hS.tr g10 (by decide) (by decide)
      have Mt9 := zM_same hI ha0 g10 (by decide)
      have gEt9 := gE.same hI ha0 g10 (by decide) hgE
      have gLt9 := gL.same hI ha0 g10 (by decide) hgL
      refine zg_iconst X 1 dX11_rule_27 (by decide) (fun v11 _ hv11 => ?_)
      replace E := zLet_s (zcst hv11 (by decide)) E
      exact ret _ _ _ _ dX11_rule_28 (zb_bool ⟨by omega, by omega⟩) ⟨E.symm.trans hR, ⟨⟨⟨by omega, by omega⟩, gNt9, gHt9, gEt9, gLt9⟩, hI, hS⟩⟩
    · skip
      replace E := zIf_t c7 E
      refine zg_iconst X 0 dX11_rule_18 (by decide) (fun v12 _ hv12 => ?_)
      replace E := zLet_s (zcst hv12 (by decide)) E
      exact ret _ _ _ _ dX11_rule_19 (zb_bool ⟨by omega, by omega⟩) ⟨E.symm.trans hR, ⟨⟨⟨by omega, by omega⟩, hgN, hgH, hgE, hgL⟩, hI, hS⟩⟩
set_option maxHeartbeats 4000000 in
set_option maxRecDepth 100000 in
theorem t_X11_months (l : Launch) (d : zD2) (L : List Nat) (kd : Nat → Nat) (κ : Int) (σ : zS) (hI : zJ κ L kd σ) (a0 : Nat) (ha0 : zT L kd a0 11) (p1 : Int32) (hgN : gN a0 σ) (hgH : gH a0 σ) (hgE : gE a0 σ) (hgL : gL a0 σ) : zMi l yX11_months (Cond.code yX11_months cX11_months 2 (some .int) :: zWL) 6 [.ref a0, .int p1] d L kd σ (fun v σ2 => (v, σ2) = F_X11_months a0 p1 σ ∧ (((gN a0 σ2) ∧ (gH a0 σ2) ∧ (gE a0 σ2) ∧ (gL a0 σ2)) ∧ zJ κ L kd σ2 ∧ zSame a0 [47, 50, 51, 56, 57] [145, 146, 148, 149, 152, 153, 154, 155, 158] L kd σ σ2)) := by
  refine zMi.of (own := RX11) (by decide +kernel) rfl rfl (Nat.le_of_ble_eq_true rfl) ?_
  intro p e s m args below meth c A Q X ret
  have hS : zSame a0 [47, 50, 51, 56, 57] [145, 146, 148, 149, 152, 153, 154, 155, 158] L kd σ σ := zSame.rf
  refine zg_lv (lv2 := [(0, .ref a0), (1, .int p1)]) rfl ?_
  obtain ⟨R, hR⟩ : ∃ R, R = F_X11_months a0 p1 σ := ⟨_, rfl⟩
  have E := hR
  unfold F_X11_months at E
  refine zg_iload_n X 1 rfl dX11_months_0 ?_
  refine zg_cSi (As := [.int p1]) (st := []) X (t_X11_isLong l d L kd _ p1 ) mk_X11_402 mc_X11_isLong mz_X11 ms_X11_isLong (na := 1) ⟨md_X11.1, md_X11.2, by decide +kernel⟩ rfl ⟨by decide, by decide⟩ (Nat.le_of_ble_eq_true rfl) dX11_months_1 (fun v1 σ2 hq => ?_)
  obtain ⟨⟨hF, hv1⟩, rfl⟩ := hq
  replace E := zLet_s hF E
  refine zg_if_ne X 9 dX11_months_4 (by decide) (fun c2 => ?_) (fun c2 => ?_)
  · skip
    replace E := zIf_f c2 E
    refine zg_iload_n X 1 rfl dX11_months_9 ?_
    refine zg_if_ne X 21 dX11_months_10 (by decide) (fun c3 => ?_) (fun c3 => ?_)
    · skip
      replace E := zIf_f c3 E
      refine zg_aload_n X 0 rfl dX11_months_21 ?_
      refine zg_cVv (As := []) (st := []) X ha0 rfl (by decide) rfl (t_X11_copies l d L kd κ _ hI a0 ha0    hgN hgL) mk_X11_332 mc_X11_copies mz_X11 mi_X11_copies ml_X11_copies (na := 0) ⟨md_X11.1, md_X11.2, by decide +kernel⟩ rfl ⟨by decide, by decide⟩ (Nat.le_of_ble_eq_true rfl) dX11_months_22 (fun t4 hq => ?_)
      obtain ⟨hF, ⟨ht4_fact0, gRt4, gBt4⟩, hI, g5⟩ := hq
      replace E := zLet_s hF E
      have hS := hS.tr g5 (by decide) (by decide)
      have gNt4 := gN.same hI ha0 g5 (by decide) hgN
      have gHt4 := gH.same hI ha0 g5 (by decide) hgH
      have gEt4 := gE.same hI ha0 g5 (by decide) hgE
      have gLt4 := gL.same hI ha0 g5 (by decide) hgL
      refine zg_aload_n X 0 rfl dX11_months_25 ?_
      refine zg_iload_n X 1 rfl dX11_months_26 ?_
      refine zg_cVv (As := [.int p1]) (st := []) X ha0 rfl (by decide) rfl (t_X11_goes l d L kd κ _ hI a0 ha0 p1   gRt4 gLt4) mk_X11_405 mc_X11_goes mz_X11 mi_X11_goes ml_X11_goes (na := 1) ⟨md_X11.1, md_X11.2, by decide +kernel⟩ rfl ⟨by decide, by decide⟩ (Nat.le_of_ble_eq_true rfl) dX11_months_27 (fun t6 hq => ?_)
      obtain ⟨hF, gRt6, hI, g7⟩ := hq
      replace E := zLet_s hF E
      have hS := hS.tr g7 (by decide) (by decide)
      have gNt6 := gN.same hI ha0 g7 (by decide) gNt4
      have gHt6 := gH.same hI ha0 g7 (by decide) gHt4
      have gEt6 := gE.same hI ha0 g7 (by decide) gEt4
      have gLt6 := gL.same hI ha0 g7 (by decide) gLt4
      refine zg_aload_n X 0 rfl dX11_months_30 ?_
      refine zg_cVv (As := []) (st := []) X ha0 rfl (by decide) rfl (t_X11_records l d L kd κ _ hI a0 ha0    gRt6 gNt6 gHt6) mk_X11_393 mc_X11_records mz_X11 mi_X11_records ml_X11_records (na := 0) ⟨md_X11.1, md_X11.2, by decide +kernel⟩ rfl ⟨by decide, by decide⟩ (Nat.le_of_ble_eq_true rfl) dX11_months_31 (fun t8 hq => ?_)
      obtain ⟨hF, ⟨gRt8, gNt8, gHt8⟩, hI, g9⟩ := hq
      replace E := zLet_s hF E
      have hS := hS.tr g9 (by decide) (by decide)
      have gEt8 := gE.same hI ha0 g9 (by decide) gEt6
      have gLt8 := gL.same hI ha0 g9 (by decide) gLt6
      have gRt8 := gR.same hI ha0 g9 (by decide) gRt6
      refine zg_aload_n X 0 rfl dX11_months_34 ?_
      refine fg_X11_107 X hI ha0 dX11_months_35 (fun v10 ev10 hv10 => ?_)
      replace E := zLet_s (zgr ev10) E
      refine zg_bipush X 48 dX11_months_38 (by decide) (fun v11 _ hv11 => ?_)
      replace E := zLet_s (zcst hv11 (by decide)) E
      refine ag_148 X hI hv10 (by omega) (by omega) dX11_months_40 (fun v12 ev12 _ => ?_)
      replace E := zLet_s ev12 E
      exact ret _ _ _ _ dX11_months_41 rfl ⟨E.symm.trans hR, ⟨⟨gNt8, gHt8, gEt8, gLt8⟩, hI, hS⟩⟩
    · skip
      replace E := zIf_t c3 E
      refine zg_aload_n X 0 rfl dX11_months_13 ?_
      refine fg_X11_107 X hI ha0 dX11_months_14 (fun v13 ev13 hv13 => ?_)
      replace E := zLet_s (zgr ev13) E
      refine zg_bipush X 48 dX11_months_17 (by decide) (fun v14 _ hv14 => ?_)
      replace E := zLet_s (zcst hv14 (by decide)) E
      refine ag_148 X hI hv13 (by omega) (by omega) dX11_months_19 (fun v15 ev15 _ => ?_)
      replace E := zLet_s ev15 E
      exact ret _ _ _ _ dX11_months_20 rfl ⟨E.symm.trans hR, ⟨⟨hgN, hgH, hgE, hgL⟩, hI, hS⟩⟩
  · skip
    replace E := zIf_t c2 E
    refine zg_iconst X (-1) dX11_months_7 (by decide) (fun v16 _ hv16 => ?_)
    replace E := zLet_s (zcst hv16 (by decide)) E
    exact ret _ _ _ _ dX11_months_8 rfl ⟨E.symm.trans hR, ⟨⟨hgN, hgH, hgE, hgL⟩, hI, hS⟩⟩
set_option maxHeartbeats 4000000 in
set_option maxRecDepth 100000 in
theorem t_X11_undo (l : Launch) (d : zD2) (L : List Nat) (kd : Nat → Nat) (κ : Int) (σ : zS) (hI : zJ κ L kd σ) (a0 : Nat) (ha0 : zT L kd a0 11) (hgN : gN a0 σ) (hgH : gH a0 σ) (hgE : gE a0 σ) (hgL : gL a0 σ) : zMi l yX11_undo (Cond.code yX11_undo cX11_undo 2 (some .boolean) :: zWL) 0 [.ref a0] d L kd σ (fun v σ2 => (v, σ2) = F_X11_undo a0 σ ∧ ((((0 ≤ v.toInt ∧ v.toInt ≤ 1)) ∧ (gN a0 σ2) ∧ (gH a0 σ2) ∧ (gE a0 σ2) ∧ (gL a0 σ2)) ∧ zJ κ L kd σ2 ∧ zSame a0 [57] [148] L kd σ σ2)) := by
  refine zMi.of (own := RX11) (by decide +kernel) rfl rfl (Nat.le_of_ble_eq_true rfl) ?_
  intro p e s m args below meth c A Q X ret
  have hS : zSame a0 [57] [148] L kd σ σ := zSame.rf
  refine zg_lv (lv2 := [(0, .ref a0)]) rfl ?_
  have zm := zM_in hI ha0
  obtain ⟨R, hR⟩ : ∃ R, R = F_X11_undo a0 σ := ⟨_, rfl⟩
  have E := hR
  unfold F_X11_undo at E
  refine zg_aload_n X 0 rfl dX11_undo_0 ?_
  refine fg_X11_258 X hI ha0 dX11_undo_1 (fun v1 ev1 hv1 => ?_)
  replace E := zLet_s ev1 E
  have kv1 : (σ.1 a0 57).toInt = v1.toInt := by rw [ev1]
  refine zg_if_ne X 9 dX11_undo_4 (by decide) (fun c2 => ?_) (fun c2 => ?_)
  · skip
    replace E := zIf_f c2 E
    refine zg_aload_n X 0 rfl dX11_undo_9 ?_
    refine zg_dup X dX11_undo_10 rfl ?_
    refine fg_X11_258 X hI ha0 dX11_undo_11 (fun v3 ev3 hv3 => ?_)
    replace E := zLet_s ev3 E
    have kv3 : (σ.1 a0 57).toInt = v3.toInt := by rw [ev3]
    have mv3 : v3.toInt = v1.toInt := by rw [ev3, ← ev1]
    refine zg_iconst X 1 dX11_undo_14 (by decide) (fun v4 _ hv4 => ?_)
    replace E := zLet_s (zcst hv4 (by decide)) E
    refine zg_isub X dX11_undo_15 (by omega) (by omega) (fun v5 ev5 hv5 => ?_)
    replace E := zLet_s ev5 E
    refine fp_X11_258 X hI ha0 ⟨by omega, by omega⟩ dX11_undo_16 (fun s6 es6 hI => ?_)
    replace E := zLet_s es6 E
    have g7 := (zSame.rf (o := a0) (Wf := [57]) (Wa := []) (L := L) (kd := kd) (σ := σ)).f ha0 es6 rfl
    have hS := hS.tr g7 (by decide) (by decide)
    have Ms6 := zM_same hI ha0 g7 (by decide)
    have us6_48 := zp_same hI ha0 g7 48 rfl (by decide) (by decide)
    have as6_48 := us6_48
    have us6_58 := zp_same hI ha0 g7 58 rfl (by decide) (by decide)
    have as6_58 := us6_58
    have gNs6 := gN.same hI ha0 g7 (by decide) hgN
    have gEs6 := gE.same hI ha0 g7 (by decide) hgE
    have gLs6 := gL.same hI ha0 g7 (by decide) hgL
    have fs6_57 : (s6.1 a0 57).toInt = v5.toInt := by rw [es6]; exact congrArg _ (zu_s _ _ _ _)
    have e8 : v5 = s6.1 a0 57 := by rw [es6]; exact zm_s
    refine zg_iconst X 0 dX11_undo_19 (by decide) (fun v9 _ hv9 => ?_)
    replace E := zLet_s (zcst hv9 (by decide)) E
    refine zg_istore_n X [(1, .int v9), (0, .ref a0)] dX11_undo_20 (by decide) rfl ?_
    have Lp11 : ∀ (nLp11 : Nat) (τ11 : zS) (x10 : Int32), zJ κ L kd τ11 → zSame a0 [57] [148] L kd σ τ11 → gE a0 τ11 → gL a0 τ11 → zM a0 τ11 = zM a0 σ → zp a0 τ11 58 = zp a0 σ 58 → R = F_X11_undo_21 a0  nLp11 x10 τ11 → 0 ≤ x10.toInt ∧ x10.toInt ≤ 50 ∧ (τ11.1 a0 57).toInt = (s6.1 a0 57).toInt → (50) - x10.toInt + 1 < (nLp11 : Int) → (∀ j : Int, 0 ≤ j → j < x10.toInt → zp a0 τ11 48 j = zp a0 σ 58 (50 * (s6.1 a0 57).toInt + j)) → zG d L kd A 2 p l e (k2_rm 0 (100 * 0)) s m args below meth c Q τ11 21 [(1, .int x10), (0, .ref a0)] [] := by
      intro nLp11
      induction nLp11 with
      | zero => intro τ11 x10 hI hS gE_Lp11 gL_Lp11 M_Lp11 A58_Lp11 E  hxLp11 hm _ ; exact absurd hm (by omega)
      | succ nLp11 ihLp11 =>
        intro τ11 x10 hI hS gE_Lp11 gL_Lp11 M_Lp11 A58_Lp11 E  hxLp11 hmLp11 hc
        rw [F_X11_undo_21] at E
        refine zg_iload_n X 0 rfl dX11_undo_21 ?_
        refine zg_bipush X 50 dX11_undo_22 (by decide) (fun v12 _ hv12 => ?_)
        replace E := zLet_s (zcst hv12 (by decide)) E
        refine zg_icmp_ge X 53 dX11_undo_24 (by decide) (fun c13 => ?_) (fun c13 => ?_)
        · skip
          replace E := zIf_f (Int.not_lt.mpr c13) E
          refine zg_iconst X 1 dX11_undo_53 (by decide) (fun v14 _ hv14 => ?_)
          replace E := zLet_s (zcst hv14 (by decide)) E
          exact ret _ _ _ _ dX11_undo_54 (zb_bool ⟨by omega, by omega⟩) ⟨E.symm.trans hR, ⟨⟨⟨by omega, by omega⟩, (by first | exact hgN | (unfold gN; rw [M_Lp11]; exact gRow.congr zm.2 (hgH _ (by omega) (by omega)) (fun j h1 h2 => hc j (by omega) (by omega)))), (by first | exact hgH | (unfold gH; rw [M_Lp11, A58_Lp11]; exact fun i h0 h1 => hgH i h0 (by omega))), gE_Lp11, gL_Lp11⟩, hI, hS⟩⟩
        · skip
          replace E := zIf_t c13 E
          refine zg_aload_n X 1 rfl dX11_undo_27 ?_
          refine fg_X11_107 X hI ha0 dX11_undo_28 (fun v15 ev15 hv15 => ?_)
          replace E := zLet_s (zgr ev15) E
          refine zg_iload_n X 0 rfl dX11_undo_31 ?_
          refine zg_aload_n X 1 rfl dX11_undo_32 ?_
          refine fg_X11_125 X hI ha0 dX11_undo_33 (fun v16 ev16 hv16 => ?_)
          replace E := zLet_s (zgr ev16) E
          refine zg_bipush X 50 dX11_undo_36 (by decide) (fun v17 _ hv17 => ?_)
          replace E := zLet_s (zcst hv17 (by decide)) E
          refine zg_aload_n X 1 rfl dX11_undo_38 ?_
          refine fg_X11_258 X hI ha0 dX11_undo_39 (fun v18 ev18 hv18 => ?_)
          replace E := zLet_s ev18 E
          have kv18 : (τ11.1 a0 57).toInt = v18.toInt := by rw [ev18]
          refine zg_imulc X 50 dX11_undo_42 (by omega) (by omega) (by omega) (fun v19 ev19 hv19 => ?_)
          replace E := zLet_s ev19 E
          refine zg_iload_n X 0 rfl dX11_undo_43 ?_
          refine zg_iadd X dX11_undo_44 (by omega) (by omega) (fun v20 ev20 hv20 => ?_)
          replace E := zLet_s ev20 E
          refine ag_158 X hI hv16 (by omega) (by omega) dX11_undo_45 (fun v21 ev21 _ => ?_)
          replace E := zLet_s ev21 E
          have qv21 := zp_ld ev16 ev21
          rw [A58_Lp11] at qv21
          refine as_148 X hI hv15 (by omega) (by omega) dX11_undo_46 (fun s22 es22 hI => ?_)
          replace E := zLet_s es22 E
          have g23 := (zSame.rf (o := a0) (Wf := []) (Wa := [148]) (L := L) (kd := kd) (σ := τ11)).a ha0 hv15 es22 rfl (by decide)
          have rs22 := zp_st (σ := τ11) (σ2 := s22) (i := x10) (x := v21) ev15 es22 (by omega)
          have ws22 := rs22
          have fs22_57 : (s22.1 a0 57).toInt = (τ11.1 a0 57).toInt := by rw [g23.2.1 57 (by decide)]
          have hS := hS.tr g23 (by decide) (by decide)
          have Ms22 := (zM_same hI ha0 g23 (by decide)).trans M_Lp11
          have us22_58 := zp_same hI ha0 g23 58 rfl (by decide) (by decide)
          have as22_58 := us22_58.trans A58_Lp11
          have gEs22 := gE.same hI ha0 g23 (by decide) gE_Lp11
          have gLs22 := gL.same hI ha0 g23 (by decide) gL_Lp11
          have e24 := g23.v ev18 (by decide)
          refine zg_iinc X 1 (fun v25 => [(1, .int v25), (0, .ref a0)]) 0 dX11_undo_47 rfl (by decide) (by decide) (by omega) (by omega) (fun _ => rfl) (fun v25 ev25 hv25 => ?_)
          replace E := zLet_s (zinc ev25 (by decide)) E
          refine zg_goto X 21 dX11_undo_50 (by decide) ?_
          refine zg_sub [0, 1] rfl ?_
          exact ihLp11 _ v25 hI hS gEs22 gLs22 Ms22 as22_58 E  (by omega) (by omega) (fun j h0 h1 => by rw [ws22 j h0]; split <;> rename_i hj <;> first | (rw [qv21]; congr 1; omega) | exact hc j h0 (by omega))
    refine zg_sub [0, 1] rfl ?_
    exact Lp11 10000 _ v9 hI hS gEs6 gLs6 Ms6 as6_58 E  (by omega) (by omega) (fun j h0 h1 => absurd h1 (by omega))
  · skip
    replace E := zIf_t c2 E
    refine zg_iconst X 0 dX11_undo_7 (by decide) (fun v26 _ hv26 => ?_)
    replace E := zLet_s (zcst hv26 (by decide)) E
    exact ret _ _ _ _ dX11_undo_8 (zb_bool ⟨by omega, by omega⟩) ⟨E.symm.trans hR, ⟨⟨⟨by omega, by omega⟩, (by first | exact hgN | (unfold gN; rw [rfl]; exact gRow.congr zm.2 (hgH _ (by omega) (by omega)) (fun j h1 h2 => hc j (by omega) (by omega)))), (by first | exact hgH | (unfold gH; rw [rfl, rfl]; exact fun i h0 h1 => hgH i h0 (by omega))), hgE, hgL⟩, hI, hS⟩⟩
set_option maxHeartbeats 4000000 in
set_option maxRecDepth 100000 in
theorem t_X11_agree (l : Launch) (d : zD2) (L : List Nat) (kd : Nat → Nat) (κ : Int) (σ : zS) (hI : zJ κ L kd σ) (a0 : Nat) (ha0 : zT L kd a0 11) (p1 : Int32) (hgN : gN a0 σ) (hgH : gH a0 σ) (hgE : gE a0 σ) (hgL : gL a0 σ) : zMi l yX11_agree (Cond.code yX11_agree cX11_agree 5 (some .int) :: zWL) 6 [.ref a0, .int p1] d L kd σ (fun v σ2 => (v, σ2) = F_X11_agree a0 p1 σ ∧ (((gN a0 σ2) ∧ (gH a0 σ2) ∧ (gE a0 σ2) ∧ (gL a0 σ2)) ∧ zJ κ L kd σ2 ∧ zSame a0 [47, 50, 51, 56] [145, 146, 149, 152, 153, 154, 155] L kd σ σ2)) := by
  refine zMi.of (own := RX11) (by decide +kernel) rfl rfl (Nat.le_of_ble_eq_true rfl) ?_
  intro p e s m args below meth c A Q X ret
  have hS : zSame a0 [47, 50, 51, 56] [145, 146, 149, 152, 153, 154, 155] L kd σ σ := zSame.rf
  refine zg_lv (lv2 := [(0, .ref a0), (1, .int p1)]) rfl ?_
  obtain ⟨R, hR⟩ : ∃ R, R = F_X11_agree a0 p1 σ := ⟨_, rfl⟩
  have E := hR
  unfold F_X11_agree at E
  refine zg_iload_n X 1 rfl dX11_agree_0 ?_
  refine zg_cSi (As := [.int p1]) (st := []) X (t_X11_isSome l d L kd _ p1 ) mk_X11_408 mc_X11_isSome mz_X11 ms_X11_isSome (na := 1) ⟨md_X11.1, md_X11.2, by decide +kernel⟩ rfl ⟨by decide, by decide⟩ (Nat.le_of_ble_eq_true rfl) dX11_agree_1 (fun v1 σ2 hq => ?_)
  obtain ⟨⟨hF, hv1⟩, rfl⟩ := hq
  replace E := zLet_s hF E
  refine zg_if_ne X 9 dX11_agree_4 (by decide) (fun c2 => ?_) (fun c2 => ?_)
  · skip
    replace E := zIf_f c2 E
    refine zg_aload_n X 0 rfl dX11_agree_9 ?_
    refine zg_cVv (As := []) (st := []) X ha0 rfl (by decide) rfl (t_X11_copiesStill l d L kd κ _ hI a0 ha0    hgN hgL) mk_X11_411 mc_X11_copiesStill mz_X11 mi_X11_copiesStill ml_X11_copiesStill (na := 0) ⟨md_X11.1, md_X11.2, by decide +kernel⟩ rfl ⟨by decide, by decide⟩ (Nat.le_of_ble_eq_true rfl) dX11_agree_10 (fun t3 hq => ?_)
    obtain ⟨hF, ⟨gRt3, gBt3⟩, hI, g4⟩ := hq
    replace E := zLet_s hF E
    have hS := hS.tr g4 (by decide) (by decide)
    have gNt3 := gN.same hI ha0 g4 (by decide) hgN
    have gHt3 := gH.same hI ha0 g4 (by decide) hgH
    have gEt3 := gE.same hI ha0 g4 (by decide) hgE
    have gLt3 := gL.same hI ha0 g4 (by decide) hgL
    refine zg_iconst X 0 dX11_agree_13 (by decide) (fun v5 _ hv5 => ?_)
    replace E := zLet_s (zcst hv5 (by decide)) E
    refine zg_istore_n X [(2, .int v5), (0, .ref a0), (1, .int p1)] dX11_agree_14 (by decide) rfl ?_
    refine zg_iconst X 0 dX11_agree_15 (by decide) (fun v6 _ hv6 => ?_)
    replace E := zLet_s (zcst hv6 (by decide)) E
    refine zg_istore_n X [(3, .int v6), (2, .int v5), (0, .ref a0), (1, .int p1)] dX11_agree_16 (by decide) rfl ?_
    have Lp9 : ∀ (nLp9 : Nat) (τ9 : zS) (x7 : Int32) (x8 : Int32), zJ κ L kd τ9 → zSame a0 [47, 50, 51, 56] [145, 146, 149, 152, 153, 154, 155] L kd σ τ9 → gE a0 τ9 → gH a0 τ9 → gL a0 τ9 → gN a0 τ9 → gR a0 τ9 → R = F_X11_agree_17 a0 p1  nLp9 x7 x8 τ9 → 0 ≤ x7.toInt ∧ x7.toInt ≤ 2147483647 → (2147483647) - x7.toInt + 1 < (nLp9 : Int) → zG d L kd A 5 p l e (k2_rm 6 (100 * 6)) s m args below meth c Q τ9 17 [(3, .int x7), (2, .int x8), (0, .ref a0), (1, .int p1)] [] := by
      intro nLp9
      induction nLp9 with
      | zero => intro τ9 x7 x8 hI hS gE_Lp9 gH_Lp9 gL_Lp9 gN_Lp9 gR_Lp9 E  hxLp9 hm ; exact absurd hm (by omega)
      | succ nLp9 ihLp9 =>
        intro τ9 x7 x8 hI hS gE_Lp9 gH_Lp9 gL_Lp9 gN_Lp9 gR_Lp9 E  hxLp9 hmLp9 
        rw [F_X11_agree_17] at E
        refine zg_iload_n X 0 rfl dX11_agree_17 ?_
        refine zg_iload_n X 3 rfl dX11_agree_18 ?_
        have zx7_z10 := zb_rng x7
        have zp1_z11 := zb_rng p1
        refine zg_icmp_ge X 67 dX11_agree_19 (by decide) (fun c12 => ?_) (fun c12 => ?_)
        · skip
          replace E := zIf_f (Int.not_lt.mpr c12) E
          refine zg_iload_n X 1 rfl dX11_agree_67 ?_
          exact ret _ _ _ _ dX11_agree_68 rfl ⟨E.symm.trans hR, ⟨⟨gN_Lp9, gH_Lp9, gE_Lp9, gL_Lp9⟩, hI, hS⟩⟩
        · skip
          replace E := zIf_t c12 E
          refine zg_aload_n X 2 rfl dX11_agree_22 ?_
          refine zg_iconst X 0 dX11_agree_23 (by decide) (fun v13 _ hv13 => ?_)
          replace E := zLet_s (zcst hv13 (by decide)) E
          refine zg_cVi (As := [.int v13]) (st := []) X ha0 rfl (by decide) rfl (t_X11_winnerBy l d L kd κ _ hI a0 ha0 v13  (by omega) gL_Lp9) mk_X11_374 mc_X11_winnerBy mz_X11 mi_X11_winnerBy ml_X11_winnerBy (na := 1) ⟨md_X11.1, md_X11.2, by decide +kernel⟩ rfl ⟨by decide, by decide⟩ (Nat.le_of_ble_eq_true rfl) dX11_agree_24 (fun v15 t14 hq => ?_)
          obtain ⟨hF, ⟨ht14_res, ht14_fact0, ht14_fact1⟩, hI, g16⟩ := hq
          replace E := zLet2_s hF E
          have hS := hS.tr g16 (by decide) (by decide)
          have gEt14 := gE.same hI ha0 g16 (by decide) gE_Lp9
          have gHt14 := gH.same hI ha0 g16 (by decide) gH_Lp9
          have gLt14 := gL.same hI ha0 g16 (by decide) gL_Lp9
          have gNt14 := gN.same hI ha0 g16 (by decide) gN_Lp9
          have gRt14 := gR.same hI ha0 g16 (by decide) gR_Lp9
          refine zg_istore X [(4, .int v15), (3, .int x7), (2, .int x8), (0, .ref a0), (1, .int p1)] dX11_agree_27 (by decide) rfl ?_
          refine zg_iload X 0 rfl dX11_agree_29 ?_
          refine zg_if_lt X 57 dX11_agree_31 (by decide) (fun c17 => ?_) (fun c17 => ?_)
          · skip
            replace E := zIf_t c17 E
            refine zg_aload_n X 3 rfl dX11_agree_57 ?_
            refine zg_cVv (As := []) (st := []) X ha0 rfl (by decide) rfl (t_X11_monthGoes l d L kd κ _ hI a0 ha0    gRt14 gLt14) mk_X11_380 mc_X11_monthGoes mz_X11 mi_X11_monthGoes ml_X11_monthGoes (na := 0) ⟨md_X11.1, md_X11.2, by decide +kernel⟩ rfl ⟨by decide, by decide⟩ (Nat.le_of_ble_eq_true rfl) dX11_agree_58 (fun t18 hq => ?_)
            obtain ⟨hF, gRt18, hI, g19⟩ := hq
            replace E := zLet_s hF E
            have hS := hS.tr g19 (by decide) (by decide)
            have gEt18 := gE.same hI ha0 g19 (by decide) gEt14
            have gHt18 := gH.same hI ha0 g19 (by decide) gHt14
            have gLt18 := gL.same hI ha0 g19 (by decide) gLt14
            have gNt18 := gN.same hI ha0 g19 (by decide) gNt14
            refine zg_iinc X 1 (fun v20 => [(3, .int v20), (4, .int v15), (2, .int x8), (0, .ref a0), (1, .int p1)]) 1 dX11_agree_61 rfl (by decide) (by decide) (by omega) (by omega) (fun _ => rfl) (fun v20 ev20 hv20 => ?_)
            replace E := zLet_s (zinc ev20 (by decide)) E
            refine zg_goto X 17 dX11_agree_64 (by decide) ?_
            refine zg_sub [0, 2, 3, 4] rfl ?_
            exact ihLp9 _ v20 x8 hI hS gEt18 gHt18 gLt18 gNt18 gRt18 E  (by omega) (by omega) 
          · skip
            replace E := zIf_f (Int.not_lt.mpr c17) E
            refine zg_aload_n X 3 rfl dX11_agree_34 ?_
            refine zg_iconst X 1 dX11_agree_35 (by decide) (fun v21 _ hv21 => ?_)
            replace E := zLet_s (zcst hv21 (by decide)) E
            refine zg_cVi (As := [.int v21]) (st := []) X ha0 rfl (by decide) rfl (t_X11_winnerBy l d L kd κ _ hI a0 ha0 v21  (by omega) gLt14) mk_X11_374 mc_X11_winnerBy mz_X11 mi_X11_winnerBy ml_X11_winnerBy (na := 1) ⟨md_X11.1, md_X11.2, by decide +kernel⟩ rfl ⟨by decide, by decide⟩ (Nat.le_of_ble_eq_true rfl) dX11_agree_36 (fun v23 t22 hq => ?_)
            obtain ⟨hF, ⟨ht22_res, ht22_fact0, ht22_fact1⟩, hI, g24⟩ := hq
            replace E := zLet2_s hF E
            have hS := hS.tr g24 (by decide) (by decide)
            have gEt22 := gE.same hI ha0 g24 (by decide) gEt14
            have gHt22 := gH.same hI ha0 g24 (by decide) gHt14
            have gLt22 := gL.same hI ha0 g24 (by decide) gLt14
            have gNt22 := gN.same hI ha0 g24 (by decide) gNt14
            have gRt22 := gR.same hI ha0 g24 (by decide) gRt14
            refine zg_iload X 0 rfl dX11_agree_39 ?_
            refine zg_icmp_ne X 57 dX11_agree_41 (by decide) (fun c25 => ?_) (fun c25 => ?_)
            · skip
              replace E := zIf_f c25 E
              refine zg_aload_n X 3 rfl dX11_agree_57 ?_
              refine zg_cVv (As := []) (st := []) X ha0 rfl (by decide) rfl (t_X11_monthGoes l d L kd κ _ hI a0 ha0    gRt22 gLt22) mk_X11_380 mc_X11_monthGoes mz_X11 mi_X11_monthGoes ml_X11_monthGoes (na := 0) ⟨md_X11.1, md_X11.2, by decide +kernel⟩ rfl ⟨by decide, by decide⟩ (Nat.le_of_ble_eq_true rfl) dX11_agree_58 (fun t26 hq => ?_)
              obtain ⟨hF, gRt26, hI, g27⟩ := hq
              replace E := zLet_s hF E
              have hS := hS.tr g27 (by decide) (by decide)
              have gEt26 := gE.same hI ha0 g27 (by decide) gEt22
              have gHt26 := gH.same hI ha0 g27 (by decide) gHt22
              have gLt26 := gL.same hI ha0 g27 (by decide) gLt22
              have gNt26 := gN.same hI ha0 g27 (by decide) gNt22
              refine zg_iinc X 1 (fun v28 => [(3, .int v28), (4, .int v15), (2, .int x8), (0, .ref a0), (1, .int p1)]) 1 dX11_agree_61 rfl (by decide) (by decide) (by omega) (by omega) (fun _ => rfl) (fun v28 ev28 hv28 => ?_)
              replace E := zLet_s (zinc ev28 (by decide)) E
              refine zg_goto X 17 dX11_agree_64 (by decide) ?_
              refine zg_sub [0, 2, 3, 4] rfl ?_
              exact ihLp9 _ v28 x8 hI hS gEt26 gHt26 gLt26 gNt26 gRt26 E  (by omega) (by omega) 
            · skip
              replace E := zIf_t c25 E
              refine zg_aload_n X 3 rfl dX11_agree_44 ?_
              refine zg_iconst X 2 dX11_agree_45 (by decide) (fun v29 _ hv29 => ?_)
              replace E := zLet_s (zcst hv29 (by decide)) E
              refine zg_cVi (As := [.int v29]) (st := []) X ha0 rfl (by decide) rfl (t_X11_winnerBy l d L kd κ _ hI a0 ha0 v29  (by omega) gLt22) mk_X11_374 mc_X11_winnerBy mz_X11 mi_X11_winnerBy ml_X11_winnerBy (na := 1) ⟨md_X11.1, md_X11.2, by decide +kernel⟩ rfl ⟨by decide, by decide⟩ (Nat.le_of_ble_eq_true rfl) dX11_agree_46 (fun v31 t30 hq => ?_)
              obtain ⟨hF, ⟨ht30_res, ht30_fact0, ht30_fact1⟩, hI, g32⟩ := hq
              replace E := zLet2_s hF E
              have hS := hS.tr g32 (by decide) (by decide)
              have gEt30 := gE.same hI ha0 g32 (by decide) gEt22
              have gHt30 := gH.same hI ha0 g32 (by decide) gHt22
              have gLt30 := gL.same hI ha0 g32 (by decide) gLt22
              have gNt30 := gN.same hI ha0 g32 (by decide) gNt22
              have gRt30 := gR.same hI ha0 g32 (by decide) gRt22
              refine zg_iload X 0 rfl dX11_agree_49 ?_
              refine zg_icmp_ne X 57 dX11_agree_51 (by decide) (fun c33 => ?_) (fun c33 => ?_)
              · skip
                replace E := zIf_f c33 E
                refine zg_aload_n X 3 rfl dX11_agree_57 ?_
                refine zg_cVv (As := []) (st := []) X ha0 rfl (by decide) rfl (t_X11_monthGoes l d L kd κ _ hI a0 ha0    gRt30 gLt30) mk_X11_380 mc_X11_monthGoes mz_X11 mi_X11_monthGoes ml_X11_monthGoes (na := 0) ⟨md_X11.1, md_X11.2, by decide +kernel⟩ rfl ⟨by decide, by decide⟩ (Nat.le_of_ble_eq_true rfl) dX11_agree_58 (fun t34 hq => ?_)
                obtain ⟨hF, gRt34, hI, g35⟩ := hq
                replace E := zLet_s hF E
                have hS := hS.tr g35 (by decide) (by decide)
                have gEt34 := gE.same hI ha0 g35 (by decide) gEt30
                have gHt34 := gH.same hI ha0 g35 (by decide) gHt30
                have gLt34 := gL.same hI ha0 g35 (by decide) gLt30
                have gNt34 := gN.same hI ha0 g35 (by decide) gNt30
                refine zg_iinc X 1 (fun v36 => [(3, .int v36), (4, .int v15), (2, .int x8), (0, .ref a0), (1, .int p1)]) 1 dX11_agree_61 rfl (by decide) (by decide) (by omega) (by omega) (fun _ => rfl) (fun v36 ev36 hv36 => ?_)
                replace E := zLet_s (zinc ev36 (by decide)) E
                refine zg_goto X 17 dX11_agree_64 (by decide) ?_
                refine zg_sub [0, 2, 3, 4] rfl ?_
                exact ihLp9 _ v36 x8 hI hS gEt34 gHt34 gLt34 gNt34 gRt34 E  (by omega) (by omega) 
              · skip
                replace E := zIf_t c33 E
                refine zg_iincW X (fun v37 => [(2, .int v37), (4, .int v15), (3, .int x7), (0, .ref a0), (1, .int p1)]) 2 dX11_agree_54 rfl (by decide) (fun _ => rfl) (fun v37 ev37 => ?_)
                replace E := zLet_s (zinc ev37 (by decide)) E
                refine zg_aload_n X 3 rfl dX11_agree_57 ?_
                refine zg_cVv (As := []) (st := []) X ha0 rfl (by decide) rfl (t_X11_monthGoes l d L kd κ _ hI a0 ha0    gRt30 gLt30) mk_X11_380 mc_X11_monthGoes mz_X11 mi_X11_monthGoes ml_X11_monthGoes (na := 0) ⟨md_X11.1, md_X11.2, by decide +kernel⟩ rfl ⟨by decide, by decide⟩ (Nat.le_of_ble_eq_true rfl) dX11_agree_58 (fun t38 hq => ?_)
                obtain ⟨hF, gRt38, hI, g39⟩ := hq
                replace E := zLet_s hF E
                have hS := hS.tr g39 (by decide) (by decide)
                have gEt38 := gE.same hI ha0 g39 (by decide) gEt30
                have gHt38 := gH.same hI ha0 g39 (by decide) gHt30
                have gLt38 := gL.same hI ha0 g39 (by decide) gLt30
                have gNt38 := gN.same hI ha0 g39 (by decide) gNt30
                refine zg_iinc X 1 (fun v40 => [(3, .int v40), (2, .int v37), (4, .int v15), (0, .ref a0), (1, .int p1)]) 2 dX11_agree_61 rfl (by decide) (by decide) (by omega) (by omega) (fun _ => rfl) (fun v40 ev40 hv40 => ?_)
                replace E := zLet_s (zinc ev40 (by decide)) E
                refine zg_goto X 17 dX11_agree_64 (by decide) ?_
                refine zg_sub [0, 1, 3, 4] rfl ?_
                exact ihLp9 _ v40 v37 hI hS gEt38 gHt38 gLt38 gNt38 gRt38 E  (by omega) (by omega) 
    have zrLp9 := zb_rng v6
    refine zg_sub [0, 1, 2, 3] rfl ?_
    exact Lp9 4294967299 _ v6 v5 hI hS gEt3 gHt3 gLt3 gNt3 gRt3 E  (by omega) (by omega) 
  · skip
    replace E := zIf_t c2 E
    refine zg_iconst X (-1) dX11_agree_7 (by decide) (fun v41 _ hv41 => ?_)
    replace E := zLet_s (zcst hv41 (by decide)) E
    exact ret _ _ _ _ dX11_agree_8 rfl ⟨E.symm.trans hR, ⟨⟨hgN, hgH, hgE, hgL⟩, hI, hS⟩⟩
set_option maxHeartbeats 4000000 in
set_option maxRecDepth 100000 in
theorem t_X11_behind (l : Launch) (d : zD2) (L : List Nat) (kd : Nat → Nat) (κ : Int) (σ : zS) (hI : zJ κ L kd σ) (a0 : Nat) (ha0 : zT L kd a0 11) (p1 : Int32) (p2 : Int32) (hgN : gN a0 σ) (hgH : gH a0 σ) (hgE : gE a0 σ) (hgL : gL a0 σ) : zMi l yX11_behind (Cond.code yX11_behind cX11_behind 3 (some .int) :: zWL) 6 [.ref a0, .int p1, .int p2] d L kd σ (fun v σ2 => (v, σ2) = F_X11_behind a0 p1 p2 σ ∧ (((gN a0 σ2) ∧ (gH a0 σ2) ∧ (gE a0 σ2) ∧ (gL a0 σ2)) ∧ zJ κ L kd σ2 ∧ zSame a0 [47, 50, 51] [145, 146, 149, 152, 153, 154, 155] L kd σ σ2)) := by
  refine zMi.of (own := RX11) (by decide +kernel) rfl rfl (Nat.le_of_ble_eq_true rfl) ?_
  intro p e s m args below meth c A Q X ret
  have hS : zSame a0 [47, 50, 51] [145, 146, 149, 152, 153, 154, 155] L kd σ σ := zSame.rf
  refine zg_lv (lv2 := [(0, .ref a0), (1, .int p1), (2, .int p2)]) rfl ?_
  have zm := zM_in hI ha0
  obtain ⟨R, hR⟩ : ∃ R, R = F_X11_behind a0 p1 p2 σ := ⟨_, rfl⟩
  have E := hR
  unfold F_X11_behind at E
  refine zg_aload_n X 0 rfl dX11_behind_0 ?_
  refine zg_iload_n X 1 rfl dX11_behind_1 ?_
  refine zg_iload_n X 2 rfl dX11_behind_2 ?_
  refine zg_cVi (As := [.int p1, .int p2]) (st := []) X ha0 rfl (by decide) rfl (t_X11_isClaim l d L kd κ _ hI a0 ha0 p1 p2   hgN hgL) mk_X11_389 mc_X11_isClaim mz_X11 mi_X11_isClaim ml_X11_isClaim (na := 2) ⟨md_X11.1, md_X11.2, by decide +kernel⟩ rfl ⟨by decide, by decide⟩ (Nat.le_of_ble_eq_true rfl) dX11_behind_3 (fun v2 t1 hq => ?_)
  obtain ⟨hF, ⟨ht1_res, ht1_fact0, ht1_fact1, gRt1, gBt1⟩, hI, g3⟩ := hq
  replace E := zLet2_s hF E
  have hS := hS.tr g3 (by decide) (by decide)
  have Mt1 := zM_same hI ha0 g3 (by decide)
  have gNt1 := gN.same hI ha0 g3 (by decide) hgN
  have gHt1 := gH.same hI ha0 g3 (by decide) hgH
  have gEt1 := gE.same hI ha0 g3 (by decide) hgE
  have gLt1 := gL.same hI ha0 g3 (by decide) hgL
  have zsrc := ht1_fact1
  refine zg_if_ne X 11 dX11_behind_6 (by decide) (fun c4 => ?_) (fun c4 => ?_)
  · skip
    replace E := zIf_f c4 E
    refine zg_aload_n X 0 rfl dX11_behind_11 ?_
    refine zg_aload_n X 0 rfl dX11_behind_12 ?_
    refine zg_iload_n X 2 rfl dX11_behind_13 ?_
    refine zg_cVi (As := [.int p2]) (st := [.ref a0]) X ha0 rfl (by decide) rfl (t_X11_winnerBy l d L kd κ _ hI a0 ha0 p2  (by omega) gLt1) mk_X11_374 mc_X11_winnerBy mz_X11 mi_X11_winnerBy ml_X11_winnerBy (na := 1) ⟨md_X11.1, md_X11.2, by decide +kernel⟩ rfl ⟨by decide, by decide⟩ (Nat.le_of_ble_eq_true rfl) dX11_behind_14 (fun v6 t5 hq => ?_)
    obtain ⟨hF, ⟨ht5_res, ht5_fact0, ht5_fact1⟩, hI, g7⟩ := hq
    replace E := zLet2_s hF E
    have hS := hS.tr g7 (by decide) (by decide)
    have Mt5 := (zM_same hI ha0 g7 (by decide)).trans Mt1
    have gNt5 := gN.same hI ha0 g7 (by decide) gNt1
    have gHt5 := gH.same hI ha0 g7 (by decide) gHt1
    have gEt5 := gE.same hI ha0 g7 (by decide) gEt1
    have gLt5 := gL.same hI ha0 g7 (by decide) gLt1
    have gRt5 := gR.same hI ha0 g7 (by decide) gRt1
    have gBt5 := gB.same hI ha0 g7 (by decide) gBt1
    have zw : 0 ≤ v6.toInt := by
      rcases Int.lt_or_le v6.toInt 0 with z | z
      · exact absurd (zsrc (by omega)) (ht5_fact1 z _)
      · exact z
    refine zg_iload_n X 2 rfl dX11_behind_17 ?_
    refine zg_cVi (As := [.int v6, .int p2]) (st := []) X ha0 rfl (by decide) rfl (t_X11_claimOf l d L kd κ _ hI a0 ha0 v6 p2  (by omega) (by omega) gLt5) mk_X11_367 mc_X11_claimOf mz_X11 mi_X11_claimOf ml_X11_claimOf (na := 2) ⟨md_X11.1, md_X11.2, by decide +kernel⟩ rfl ⟨by decide, by decide⟩ (Nat.le_of_ble_eq_true rfl) dX11_behind_18 (fun v9 t8 hq => ?_)
    obtain ⟨hF, hI, g10⟩ := hq
    replace E := zLet2_s hF E
    have hS := hS.tr g10 (by decide) (by decide)
    have Mt8 := (zM_same hI ha0 g10 (by decide)).trans Mt5
    have gNt8 := gN.same hI ha0 g10 (by decide) gNt5
    have gHt8 := gH.same hI ha0 g10 (by decide) gHt5
    have gEt8 := gE.same hI ha0 g10 (by decide) gEt5
    have gLt8 := gL.same hI ha0 g10 (by decide) gLt5
    have gRt8 := gR.same hI ha0 g10 (by decide) gRt5
    have gBt8 := gB.same hI ha0 g10 (by decide) gBt5
    refine zg_aload_n X 0 rfl dX11_behind_21 ?_
    refine zg_iload_n X 1 rfl dX11_behind_22 ?_
    refine zg_iload_n X 2 rfl dX11_behind_23 ?_
    refine zg_cVi (As := [.int p1, .int p2]) (st := [.int v9]) X ha0 rfl (by decide) rfl (t_X11_claimOf l d L kd κ _ hI a0 ha0 p1 p2  (by omega) (by omega) gLt8) mk_X11_367 mc_X11_claimOf mz_X11 mi_X11_claimOf ml_X11_claimOf (na := 2) ⟨md_X11.1, md_X11.2, by decide +kernel⟩ rfl ⟨by decide, by decide⟩ (Nat.le_of_ble_eq_true rfl) dX11_behind_24 (fun v12 t11 hq => ?_)
    obtain ⟨hF, hI, g13⟩ := hq
    replace E := zLet2_s hF E
    have hS := hS.tr g13 (by decide) (by decide)
    have Mt11 := (zM_same hI ha0 g13 (by decide)).trans Mt8
    have gNt11 := gN.same hI ha0 g13 (by decide) gNt8
    have gHt11 := gH.same hI ha0 g13 (by decide) gHt8
    have gEt11 := gE.same hI ha0 g13 (by decide) gEt8
    have gLt11 := gL.same hI ha0 g13 (by decide) gLt8
    have gRt11 := gR.same hI ha0 g13 (by decide) gRt8
    have gBt11 := gB.same hI ha0 g13 (by decide) gBt8
    refine zg_isubW X dX11_behind_27 (fun v14 ev14 => ?_)
    replace E := zLet_s ev14 E
    exact ret _ _ _ _ dX11_behind_28 rfl ⟨E.symm.trans hR, ⟨⟨gNt11, gHt11, gEt11, gLt11⟩, hI, hS⟩⟩
  · skip
    replace E := zIf_t c4 E
    refine zg_iconst X (-1) dX11_behind_9 (by decide) (fun v15 _ hv15 => ?_)
    replace E := zLet_s (zcst hv15 (by decide)) E
    exact ret _ _ _ _ dX11_behind_10 rfl ⟨E.symm.trans hR, ⟨⟨gNt1, gHt1, gEt1, gLt1⟩, hI, hS⟩⟩
set_option maxHeartbeats 4000000 in
set_option maxRecDepth 100000 in
theorem t_X11_margin (l : Launch) (d : zD2) (L : List Nat) (kd : Nat → Nat) (κ : Int) (σ : zS) (hI : zJ κ L kd σ) (a0 : Nat) (ha0 : zT L kd a0 11) (p1 : Int32) (hgN : gN a0 σ) (hgH : gH a0 σ) (hgE : gE a0 σ) (hgL : gL a0 σ) : zMi l yX11_margin (Cond.code yX11_margin cX11_margin 5 (some .int) :: zWL) 5 [.ref a0, .int p1] d L kd σ (fun v σ2 => (v, σ2) = F_X11_margin a0 p1 σ ∧ (((gN a0 σ2) ∧ (gH a0 σ2) ∧ (gE a0 σ2) ∧ (gL a0 σ2)) ∧ zJ κ L kd σ2 ∧ zSame a0 [47, 50, 51] [145, 146, 149, 152, 153, 154, 155] L kd σ σ2)) := by
  refine zMi.of (own := RX11) (by decide +kernel) rfl rfl (Nat.le_of_ble_eq_true rfl) ?_
  intro p e s m args below meth c A Q X ret
  have hS : zSame a0 [47, 50, 51] [145, 146, 149, 152, 153, 154, 155] L kd σ σ := zSame.rf
  refine zg_lv (lv2 := [(0, .ref a0), (1, .int p1)]) rfl ?_
  have zm := zM_in hI ha0
  obtain ⟨R, hR⟩ : ∃ R, R = F_X11_margin a0 p1 σ := ⟨_, rfl⟩
  have E := hR
  unfold F_X11_margin at E
  refine zg_iload_n X 1 rfl dX11_margin_0 ?_
  refine zg_cSi (As := [.int p1]) (st := []) X (t_X11_isLaw l d L kd _ p1 ) mk_X11_386 mc_X11_isLaw mz_X11 ms_X11_isLaw (na := 1) ⟨md_X11.1, md_X11.2, by decide +kernel⟩ rfl ⟨by decide, by decide⟩ (Nat.le_of_ble_eq_true rfl) dX11_margin_1 (fun v1 σ2 hq => ?_)
  obtain ⟨⟨hF, hv1⟩, rfl⟩ := hq
  replace E := zLet_s hF E
  refine zg_if_ne X 9 dX11_margin_4 (by decide) (fun c2 => ?_) (fun c2 => ?_)
  · skip
    replace E := zIf_f c2 E
    refine zg_aload_n X 0 rfl dX11_margin_9 ?_
    refine zg_cVv (As := []) (st := []) X ha0 rfl (by decide) rfl (t_X11_copies l d L kd κ _ hI a0 ha0    hgN hgL) mk_X11_332 mc_X11_copies mz_X11 mi_X11_copies ml_X11_copies (na := 0) ⟨md_X11.1, md_X11.2, by decide +kernel⟩ rfl ⟨by decide, by decide⟩ (Nat.le_of_ble_eq_true rfl) dX11_margin_10 (fun t3 hq => ?_)
    obtain ⟨hF, ⟨ht3_fact0, gRt3, gBt3⟩, hI, g4⟩ := hq
    replace E := zLet_s hF E
    have hS := hS.tr g4 (by decide) (by decide)
    have Mt3 := zM_same hI ha0 g4 (by decide)
    have gNt3 := gN.same hI ha0 g4 (by decide) hgN
    have gHt3 := gH.same hI ha0 g4 (by decide) hgH
    have gEt3 := gE.same hI ha0 g4 (by decide) hgE
    have gLt3 := gL.same hI ha0 g4 (by decide) hgL
    have zm1 := Mt3
    refine zg_aload_n X 0 rfl dX11_margin_13 ?_
    refine zg_iload_n X 1 rfl dX11_margin_14 ?_
    refine zg_cVi (As := [.int p1]) (st := []) X ha0 rfl (by decide) rfl (t_X11_winnerBy l d L kd κ _ hI a0 ha0 p1  (by omega) gLt3) mk_X11_374 mc_X11_winnerBy mz_X11 mi_X11_winnerBy ml_X11_winnerBy (na := 1) ⟨md_X11.1, md_X11.2, by decide +kernel⟩ rfl ⟨by decide, by decide⟩ (Nat.le_of_ble_eq_true rfl) dX11_margin_15 (fun v6 t5 hq => ?_)
    obtain ⟨hF, ⟨ht5_res, ht5_fact0, ht5_fact1⟩, hI, g7⟩ := hq
    replace E := zLet2_s hF E
    have hS := hS.tr g7 (by decide) (by decide)
    have Mt5 := (zM_same hI ha0 g7 (by decide)).trans Mt3
    have ut5_54 := zp_same hI ha0 g7 54 rfl (by decide) (by decide)
    have at5_54 := ut5_54
    have gNt5 := gN.same hI ha0 g7 (by decide) gNt3
    have gHt5 := gH.same hI ha0 g7 (by decide) gHt3
    have gEt5 := gE.same hI ha0 g7 (by decide) gEt3
    have gLt5 := gL.same hI ha0 g7 (by decide) gLt3
    have gRt5 := gR.same hI ha0 g7 (by decide) gRt3
    have gBt5 := gB.same hI ha0 g7 (by decide) gBt3
    have zwin := ht5_fact1
    refine zg_istore_n X [(2, .int v6), (0, .ref a0), (1, .int p1)] dX11_margin_18 (by decide) rfl ?_
    refine zg_bipush X (-2) dX11_margin_19 (by decide) (fun v8 _ hv8 => ?_)
    replace E := zLet_s (zcst hv8 (by decide)) E
    refine zg_istore_n X [(3, .int v8), (2, .int v6), (0, .ref a0), (1, .int p1)] dX11_margin_21 (by decide) rfl ?_
    refine zg_iconst X 1 dX11_margin_22 (by decide) (fun v9 _ hv9 => ?_)
    replace E := zLet_s (zcst hv9 (by decide)) E
    refine zg_istore X [(4, .int v9), (3, .int v8), (2, .int v6), (0, .ref a0), (1, .int p1)] dX11_margin_23 (by decide) rfl ?_
    have Lp12 : ∀ (nLp12 : Nat) (τ12 : zS) (x10 : Int32) (x11 : Int32), zJ κ L kd τ12 → zSame a0 [47, 50, 51] [145, 146, 149, 152, 153, 154, 155] L kd σ τ12 → gE a0 τ12 → gH a0 τ12 → gL a0 τ12 → gN a0 τ12 → zM a0 τ12 = zM a0 σ → zp a0 τ12 54 = zp a0 t3 54 → R = F_X11_margin_25 v6 a0 p1  nLp12 x10 x11 τ12 → 1 ≤ x10.toInt ∧ x10.toInt ≤ 12 ∧ (x11.toInt < 0 ∨ 0 ≤ v6.toInt) → (12) - x10.toInt + 1 < (nLp12 : Int) → zG d L kd A 5 p l e (k2_rm 5 (100 * 5)) s m args below meth c Q τ12 25 [(4, .int x10), (3, .int x11), (2, .int v6), (0, .ref a0), (1, .int p1)] [] := by
      intro nLp12
      induction nLp12 with
      | zero => intro τ12 x10 x11 hI hS gE_Lp12 gH_Lp12 gL_Lp12 gN_Lp12 M_Lp12 A54_Lp12 E  hxLp12 hm ; exact absurd hm (by omega)
      | succ nLp12 ihLp12 =>
        intro τ12 x10 x11 hI hS gE_Lp12 gH_Lp12 gL_Lp12 gN_Lp12 M_Lp12 A54_Lp12 E  hxLp12 hmLp12 
        rw [F_X11_margin_25] at E
        refine zg_iload X 0 rfl dX11_margin_25 ?_
        refine zg_aload_n X 3 rfl dX11_margin_27 ?_
        refine zg_cVi (As := []) (st := [.int x10]) X ha0 rfl (by decide) rfl (t_X11_many l d L kd κ _ hI a0 ha0   ) mk_X11_313 mc_X11_many mz_X11 mi_X11_many ml_X11_many (na := 0) ⟨md_X11.1, md_X11.2, by decide +kernel⟩ rfl ⟨by decide, by decide⟩ (Nat.le_of_ble_eq_true rfl) dX11_margin_28 (fun v14 t13 hq => ?_)
        obtain ⟨⟨hF, ⟨ht13_res, ht13_fact0⟩⟩, rfl⟩ := hq
        replace E := zLet_s hF E
        refine zg_icmp_ge X 74 dX11_margin_31 (by decide) (fun c15 => ?_) (fun c15 => ?_)
        · skip
          replace E := zIf_f (Int.not_lt.mpr c15) E
          refine zg_iload_n X 1 rfl dX11_margin_74 ?_
          refine zg_if_ge X 83 dX11_margin_75 (by decide) (fun c16 => ?_) (fun c16 => ?_)
          · skip
            replace E := zIf_f (Int.not_lt.mpr c16) E
            refine zg_aload_n X 3 rfl dX11_margin_83 ?_
            refine zg_iload_n X 2 rfl dX11_margin_84 ?_
            refine zg_iload_n X 4 rfl dX11_margin_85 ?_
            refine zg_cVi (As := [.int v6, .int p1]) (st := []) X ha0 rfl (by decide) rfl (t_X11_claimOf l d L kd κ _ hI a0 ha0 v6 p1  (by omega) (by omega) gL_Lp12) mk_X11_367 mc_X11_claimOf mz_X11 mi_X11_claimOf ml_X11_claimOf (na := 2) ⟨md_X11.1, md_X11.2, by decide +kernel⟩ rfl ⟨by decide, by decide⟩ (Nat.le_of_ble_eq_true rfl) dX11_margin_86 (fun v18 t17 hq => ?_)
            obtain ⟨hF, hI, g19⟩ := hq
            replace E := zLet2_s hF E
            have hS := hS.tr g19 (by decide) (by decide)
            have Mt17 := (zM_same hI ha0 g19 (by decide)).trans M_Lp12
            have ut17_54 := zp_same hI ha0 g19 54 rfl (by decide) (by decide)
            have at17_54 := ut17_54.trans A54_Lp12
            have gEt17 := gE.same hI ha0 g19 (by decide) gE_Lp12
            have gHt17 := gH.same hI ha0 g19 (by decide) gH_Lp12
            have gLt17 := gL.same hI ha0 g19 (by decide) gL_Lp12
            have gNt17 := gN.same hI ha0 g19 (by decide) gN_Lp12
            refine zg_iload_n X 1 rfl dX11_margin_89 ?_
            refine zg_isubW X dX11_margin_90 (fun v20 ev20 => ?_)
            replace E := zLet_s ev20 E
            exact ret _ _ _ _ dX11_margin_91 rfl ⟨E.symm.trans hR, ⟨⟨gNt17, gHt17, gEt17, gLt17⟩, hI, hS⟩⟩
          · skip
            replace E := zIf_t c16 E
            refine zg_bipush X (-2) dX11_margin_78 (by decide) (fun v21 _ hv21 => ?_)
            replace E := zLet_s (zcst hv21 (by decide)) E
            refine zg_goto X 91 dX11_margin_80 (by decide) ?_
            exact ret _ _ _ _ dX11_margin_91 rfl ⟨E.symm.trans hR, ⟨⟨gN_Lp12, gH_Lp12, gE_Lp12, gL_Lp12⟩, hI, hS⟩⟩
        · skip
          replace E := zIf_t c15 E
          refine zg_iload X 0 rfl dX11_margin_34 ?_
          refine zg_iload_n X 2 rfl dX11_margin_36 ?_
          refine zg_icmp_eq X 68 dX11_margin_37 (by decide) (fun c22 => ?_) (fun c22 => ?_)
          · skip
            replace E := zIf_t c22 E
            refine zg_iinc X 1 (fun v23 => [(4, .int v23), (3, .int x11), (2, .int v6), (0, .ref a0), (1, .int p1)]) 0 dX11_margin_68 rfl (by decide) (by decide) (by omega) (by omega) (fun _ => rfl) (fun v23 ev23 hv23 => ?_)
            replace E := zLet_s (zinc ev23 (by decide)) E
            refine zg_goto X 25 dX11_margin_71 (by decide) ?_
            refine zg_sub [0, 1, 2, 3, 4] rfl ?_
            exact ihLp12 _ v23 x11 hI hS gE_Lp12 gH_Lp12 gL_Lp12 gN_Lp12 M_Lp12 A54_Lp12 E  (by omega) (by omega) 
          · skip
            replace E := zIf_f c22 E
            refine zg_aload_n X 3 rfl dX11_margin_40 ?_
            refine zg_iload X 0 rfl dX11_margin_41 ?_
            refine zg_cVi (As := [.int x10]) (st := []) X ha0 rfl (by decide) rfl (t_X11_isSource l d L kd κ _ hI a0 ha0 x10  ) mk_X11_342 mc_X11_isSource mz_X11 mi_X11_isSource ml_X11_isSource (na := 1) ⟨md_X11.1, md_X11.2, by decide +kernel⟩ rfl ⟨by decide, by decide⟩ (Nat.le_of_ble_eq_true rfl) dX11_margin_43 (fun v25 t24 hq => ?_)
            obtain ⟨⟨hF, ⟨ht24_res, ht24_fact0, ht24_fact1, ht24_fact2⟩⟩, rfl⟩ := hq
            replace E := zLet_s hF E
            have zs : v25.toInt = 1 → 0 ≤ v6.toInt := fun h0 => by
              rcases Int.lt_or_le v6.toInt 0 with z | z
              · refine absurd (ht24_fact1 h0) (fun y => zwin z x10.toInt ?_)
                unfold zSrc at y ⊢
                rw [M_Lp12, A54_Lp12] at y
                rw [zm1]
                exact y
              · exact z
            refine zg_if_eq X 68 dX11_margin_46 (by decide) (fun c26 => ?_) (fun c26 => ?_)
            · skip
              replace E := zIf_t c26 E
              refine zg_iinc X 1 (fun v27 => [(4, .int v27), (3, .int x11), (2, .int v6), (0, .ref a0), (1, .int p1)]) 0 dX11_margin_68 rfl (by decide) (by decide) (by omega) (by omega) (fun _ => rfl) (fun v27 ev27 hv27 => ?_)
              replace E := zLet_s (zinc ev27 (by decide)) E
              refine zg_goto X 25 dX11_margin_71 (by decide) ?_
              refine zg_sub [0, 1, 2, 3, 4] rfl ?_
              exact ihLp12 _ v27 x11 hI hS gE_Lp12 gH_Lp12 gL_Lp12 gN_Lp12 M_Lp12 A54_Lp12 E  (by omega) (by omega) 
            · skip
              replace E := zIf_f c26 E
              refine zg_aload_n X 3 rfl dX11_margin_49 ?_
              refine zg_iload X 0 rfl dX11_margin_50 ?_
              refine zg_iload_n X 4 rfl dX11_margin_52 ?_
              refine zg_cVi (As := [.int x10, .int p1]) (st := []) X ha0 rfl (by decide) rfl (t_X11_claimOf l d L kd κ _ hI a0 ha0 x10 p1  (by omega) (by omega) gL_Lp12) mk_X11_367 mc_X11_claimOf mz_X11 mi_X11_claimOf ml_X11_claimOf (na := 2) ⟨md_X11.1, md_X11.2, by decide +kernel⟩ rfl ⟨by decide, by decide⟩ (Nat.le_of_ble_eq_true rfl) dX11_margin_53 (fun v29 t28 hq => ?_)
              obtain ⟨hF, hI, g30⟩ := hq
              replace E := zLet2_s hF E
              have hS := hS.tr g30 (by decide) (by decide)
              have Mt28 := (zM_same hI ha0 g30 (by decide)).trans M_Lp12
              have ut28_54 := zp_same hI ha0 g30 54 rfl (by decide) (by decide)
              have at28_54 := ut28_54.trans A54_Lp12
              have gEt28 := gE.same hI ha0 g30 (by decide) gE_Lp12
              have gHt28 := gH.same hI ha0 g30 (by decide) gH_Lp12
              have gLt28 := gL.same hI ha0 g30 (by decide) gL_Lp12
              have gNt28 := gN.same hI ha0 g30 (by decide) gN_Lp12
              refine zg_iload_n X 1 rfl dX11_margin_56 ?_
              have zv29_z31 := zb_rng v29
              have zx11_z32 := zb_rng x11
              refine zg_icmp_le X 68 dX11_margin_57 (by decide) (fun c33 => ?_) (fun c33 => ?_)
              · skip
                replace E := zIf_f (Int.not_lt.mpr c33) E
                refine zg_iinc X 1 (fun v34 => [(4, .int v34), (3, .int x11), (2, .int v6), (0, .ref a0), (1, .int p1)]) 0 dX11_margin_68 rfl (by decide) (by decide) (by omega) (by omega) (fun _ => rfl) (fun v34 ev34 hv34 => ?_)
                replace E := zLet_s (zinc ev34 (by decide)) E
                refine zg_goto X 25 dX11_margin_71 (by decide) ?_
                refine zg_sub [0, 1, 2, 3, 4] rfl ?_
                exact ihLp12 _ v34 x11 hI hS gEt28 gHt28 gLt28 gNt28 Mt28 at28_54 E  (by omega) (by omega) 
              · skip
                replace E := zIf_t c33 E
                refine zg_aload_n X 3 rfl dX11_margin_60 ?_
                refine zg_iload X 0 rfl dX11_margin_61 ?_
                refine zg_iload_n X 4 rfl dX11_margin_63 ?_
                refine zg_cVi (As := [.int x10, .int p1]) (st := []) X ha0 rfl (by decide) rfl (t_X11_claimOf l d L kd κ _ hI a0 ha0 x10 p1  (by omega) (by omega) gLt28) mk_X11_367 mc_X11_claimOf mz_X11 mi_X11_claimOf ml_X11_claimOf (na := 2) ⟨md_X11.1, md_X11.2, by decide +kernel⟩ rfl ⟨by decide, by decide⟩ (Nat.le_of_ble_eq_true rfl) dX11_margin_64 (fun v36 t35 hq => ?_)
                obtain ⟨hF, hI, g37⟩ := hq
                replace E := zLet2_s hF E
                have hS := hS.tr g37 (by decide) (by decide)
                have Mt35 := (zM_same hI ha0 g37 (by decide)).trans Mt28
                have ut35_54 := zp_same hI ha0 g37 54 rfl (by decide) (by decide)
                have at35_54 := ut35_54.trans at28_54
                have gEt35 := gE.same hI ha0 g37 (by decide) gEt28
                have gHt35 := gH.same hI ha0 g37 (by decide) gHt28
                have gLt35 := gL.same hI ha0 g37 (by decide) gLt28
                have gNt35 := gN.same hI ha0 g37 (by decide) gNt28
                refine zg_istore_n X [(3, .int v36), (4, .int x10), (2, .int v6), (0, .ref a0), (1, .int p1)] dX11_margin_67 (by decide) rfl ?_
                refine zg_iinc X 1 (fun v38 => [(4, .int v38), (3, .int v36), (2, .int v6), (0, .ref a0), (1, .int p1)]) 1 dX11_margin_68 rfl (by decide) (by decide) (by omega) (by omega) (fun _ => rfl) (fun v38 ev38 hv38 => ?_)
                replace E := zLet_s (zinc ev38 (by decide)) E
                refine zg_goto X 25 dX11_margin_71 (by decide) ?_
                refine zg_sub [0, 1, 2, 3, 4] rfl ?_
                exact ihLp12 _ v38 v36 hI hS gEt35 gHt35 gLt35 gNt35 Mt35 at35_54 E  (by omega) (by omega) 
    refine zg_sub [0, 1, 2, 3, 4] rfl ?_
    exact Lp12 10000 _ v9 v8 hI hS gEt5 gHt5 gLt5 gNt5 Mt5 at5_54 E  (by omega) (by omega) 
  · skip
    replace E := zIf_t c2 E
    refine zg_iconst X (-1) dX11_margin_7 (by decide) (fun v39 _ hv39 => ?_)
    replace E := zLet_s (zcst hv39 (by decide)) E
    exact ret _ _ _ _ dX11_margin_8 rfl ⟨E.symm.trans hR, ⟨⟨hgN, hgH, hgE, hgL⟩, hI, hS⟩⟩
set_option maxHeartbeats 4000000 in
set_option maxRecDepth 100000 in
theorem t_X11_richest (l : Launch) (d : zD2) (L : List Nat) (kd : Nat → Nat) (κ : Int) (σ : zS) (hI : zJ κ L kd σ) (a0 : Nat) (ha0 : zT L kd a0 11) (p1 : Int32) : zMi l yX11_richest (Cond.code yX11_richest cX11_richest 4 (some .int) :: zWL) 1 [.ref a0, .int p1] d L kd σ (fun v σ2 => v = F_X11_richest a0 p1 σ ∧ σ = σ2) := by
  refine zMi.of (own := RX11) (by decide +kernel) rfl rfl (Nat.le_of_ble_eq_true rfl) ?_
  intro p e s m args below meth c A Q X ret
  refine zg_lv (lv2 := [(0, .ref a0), (1, .int p1)]) rfl ?_
  obtain ⟨R, hR⟩ : ∃ R, R = F_X11_richest a0 p1 σ := ⟨_, rfl⟩
  have E := hR
  unfold F_X11_richest at E
  refine zg_iload_n X 1 rfl dX11_richest_0 ?_
  refine zg_iconst X 0 dX11_richest_1 (by decide) (fun v1 _ hv1 => ?_)
  replace E := zLet_s (zcst hv1 (by decide)) E
  refine zg_iconst X 1 dX11_richest_2 (by decide) (fun v2 _ hv2 => ?_)
  replace E := zLet_s (zcst hv2 (by decide)) E
  refine zg_cSi (As := [.int p1, .int v1, .int v2]) (st := []) X (t_X11_in l d L kd _ p1 v1 v2 ) mk_X11_316 mc_X11_in mz_X11 ms_X11_in (na := 3) ⟨md_X11.1, md_X11.2, by decide +kernel⟩ rfl ⟨by decide, by decide⟩ (Nat.le_of_ble_eq_true rfl) dX11_richest_3 (fun v3 σ2 hq => ?_)
  obtain ⟨⟨hF, hv3⟩, rfl⟩ := hq
  replace E := zLet_s hF E
  refine zg_if_ne X 11 dX11_richest_6 (by decide) (fun c4 => ?_) (fun c4 => ?_)
  · skip
    replace E := zIf_f c4 E
    refine zg_bipush X (-2) dX11_richest_11 (by decide) (fun v5 _ hv5 => ?_)
    replace E := zLet_s (zcst hv5 (by decide)) E
    refine zg_istore_n X [(2, .int v5), (0, .ref a0), (1, .int p1)] dX11_richest_13 (by decide) rfl ?_
    refine zg_iconst X 1 dX11_richest_14 (by decide) (fun v6 _ hv6 => ?_)
    replace E := zLet_s (zcst hv6 (by decide)) E
    refine zg_istore_n X [(3, .int v6), (2, .int v5), (0, .ref a0), (1, .int p1)] dX11_richest_15 (by decide) rfl ?_
    have Lp9 : ∀ (nLp9 : Nat) (x7 : Int32) (x8 : Int32), R = F_X11_richest_16 a0 p1 σ  nLp9 x7 x8 → (-2) ≤ x8.toInt ∧ x8.toInt ≤ 11 ∧ 1 ≤ x7.toInt ∧ x7.toInt ≤ 12 → (12) - x7.toInt + 1 < (nLp9 : Int) → zG d L kd A 4 p l e (k2_rm 1 (100 * 1)) s m args below meth c Q σ 16 [(3, .int x7), (2, .int x8), (0, .ref a0), (1, .int p1)] [] := by
      intro nLp9
      induction nLp9 with
      | zero => intro x7 x8  E  hxLp9 hm ; exact absurd hm (by omega)
      | succ nLp9 ihLp9 =>
        intro x7 x8  E  hxLp9 hmLp9 
        rw [F_X11_richest_16] at E
        refine zg_iload_n X 0 rfl dX11_richest_16 ?_
        refine zg_aload_n X 2 rfl dX11_richest_17 ?_
        refine zg_cVi (As := []) (st := [.int x7]) X ha0 rfl (by decide) rfl (t_X11_many l d L kd κ _ hI a0 ha0   ) mk_X11_313 mc_X11_many mz_X11 mi_X11_many ml_X11_many (na := 0) ⟨md_X11.1, md_X11.2, by decide +kernel⟩ rfl ⟨by decide, by decide⟩ (Nat.le_of_ble_eq_true rfl) dX11_richest_18 (fun v11 t10 hq => ?_)
        obtain ⟨⟨hF, ⟨ht10_res, ht10_fact0⟩⟩, rfl⟩ := hq
        replace E := zLet_s hF E
        refine zg_icmp_ge X 61 dX11_richest_21 (by decide) (fun c12 => ?_) (fun c12 => ?_)
        · skip
          replace E := zIf_f (Int.not_lt.mpr c12) E
          refine zg_iload_n X 1 rfl dX11_richest_61 ?_
          refine zg_if_lt X 69 dX11_richest_62 (by decide) (fun c13 => ?_) (fun c13 => ?_)
          · skip
            replace E := zIf_t c13 E
            refine zg_iload_n X 1 rfl dX11_richest_69 ?_
            refine zg_goto X 82 dX11_richest_70 (by decide) ?_
            exact ret _ _ _ _ dX11_richest_82 rfl ⟨E.symm.trans hR, rfl⟩
          · skip
            replace E := zIf_f (Int.not_lt.mpr c13) E
            refine zg_iload_n X 3 rfl dX11_richest_65 ?_
            refine zg_if_ne X 73 dX11_richest_66 (by decide) (fun c14 => ?_) (fun c14 => ?_)
            · skip
              replace E := zIf_f c14 E
              refine zg_aload_n X 2 rfl dX11_richest_73 ?_
              refine fg_X11_107 X hI ha0 dX11_richest_74 (fun v15 ev15 hv15 => ?_)
              replace E := zLet_s (zgr ev15) E
              refine zg_bipush X 36 dX11_richest_77 (by decide) (fun v16 _ hv16 => ?_)
              replace E := zLet_s (zcst hv16 (by decide)) E
              refine zg_iload_n X 1 rfl dX11_richest_79 ?_
              refine zg_iadd X dX11_richest_80 (by omega) (by omega) (fun v17 ev17 hv17 => ?_)
              replace E := zLet_s ev17 E
              refine ag_148 X hI hv15 (by omega) (by omega) dX11_richest_81 (fun v18 ev18 _ => ?_)
              replace E := zLet_s ev18 E
              exact ret _ _ _ _ dX11_richest_82 rfl ⟨E.symm.trans hR, rfl⟩
            · skip
              replace E := zIf_t c14 E
              refine zg_iload_n X 1 rfl dX11_richest_69 ?_
              refine zg_goto X 82 dX11_richest_70 (by decide) ?_
              exact ret _ _ _ _ dX11_richest_82 rfl ⟨E.symm.trans hR, rfl⟩
        · skip
          replace E := zIf_t c12 E
          refine zg_aload_n X 2 rfl dX11_richest_24 ?_
          refine fg_X11_107 X hI ha0 dX11_richest_25 (fun v19 ev19 hv19 => ?_)
          replace E := zLet_s (zgr ev19) E
          refine zg_bipush X 36 dX11_richest_28 (by decide) (fun v20 _ hv20 => ?_)
          replace E := zLet_s (zcst hv20 (by decide)) E
          refine zg_iload_n X 0 rfl dX11_richest_30 ?_
          refine zg_iadd X dX11_richest_31 (by omega) (by omega) (fun v21 ev21 hv21 => ?_)
          replace E := zLet_s ev21 E
          refine ag_148 X hI hv19 (by omega) (by omega) dX11_richest_32 (fun v22 ev22 _ => ?_)
          replace E := zLet_s ev22 E
          refine zg_iload_n X 1 rfl dX11_richest_33 ?_
          refine zg_if_ge X 41 dX11_richest_34 (by decide) (fun c23 => ?_) (fun c23 => ?_)
          · skip
            replace E := zIf_f (Int.not_lt.mpr c23) E
            refine zg_aload_n X 2 rfl dX11_richest_41 ?_
            refine fg_X11_107 X hI ha0 dX11_richest_42 (fun v24 ev24 hv24 => ?_)
            replace E := zLet_s (zgr ev24) E
            refine zg_bipush X 36 dX11_richest_45 (by decide) (fun v25 _ hv25 => ?_)
            replace E := zLet_s (zcst hv25 (by decide)) E
            refine zg_iload_n X 1 rfl dX11_richest_47 ?_
            refine zg_iadd X dX11_richest_48 (by omega) (by omega) (fun v26 ev26 hv26 => ?_)
            replace E := zLet_s ev26 E
            refine ag_148 X hI hv24 (by omega) (by omega) dX11_richest_49 (fun v27 ev27 _ => ?_)
            replace E := zLet_s ev27 E
            have zv22_z28 := zb_rng v22
            have zv27_z29 := zb_rng v27
            refine zg_icmp_le X 55 dX11_richest_50 (by decide) (fun c30 => ?_) (fun c30 => ?_)
            · skip
              replace E := zIf_f (Int.not_lt.mpr c30) E
              refine zg_iinc X 1 (fun v31 => [(3, .int v31), (2, .int x8), (0, .ref a0), (1, .int p1)]) 0 dX11_richest_55 rfl (by decide) (by decide) (by omega) (by omega) (fun _ => rfl) (fun v31 ev31 hv31 => ?_)
              replace E := zLet_s (zinc ev31 (by decide)) E
              refine zg_goto X 16 dX11_richest_58 (by decide) ?_
              refine zg_sub [0, 1, 2, 3] rfl ?_
              exact ihLp9 v31 x8   E  (by omega) (by omega) 
            · skip
              replace E := zIf_t c30 E
              refine zg_iload_n X 0 rfl dX11_richest_53 ?_
              refine zg_istore_n X [(2, .int x7), (3, .int x7), (0, .ref a0), (1, .int p1)] dX11_richest_54 (by decide) rfl ?_
              refine zg_iinc X 1 (fun v32 => [(3, .int v32), (2, .int x7), (0, .ref a0), (1, .int p1)]) 1 dX11_richest_55 rfl (by decide) (by decide) (by omega) (by omega) (fun _ => rfl) (fun v32 ev32 hv32 => ?_)
              replace E := zLet_s (zinc ev32 (by decide)) E
              refine zg_goto X 16 dX11_richest_58 (by decide) ?_
              refine zg_sub [0, 1, 2, 3] rfl ?_
              exact ihLp9 v32 x7   E  (by omega) (by omega) 
          · skip
            replace E := zIf_t c23 E
            refine zg_iconst X 0 dX11_richest_37 (by decide) (fun v33 _ hv33 => ?_)
            replace E := zLet_s (zcst hv33 (by decide)) E
            refine zg_goto X 50 dX11_richest_38 (by decide) ?_
            have zv22_z34 := zb_rng v22
            refine zg_icmp_le X 55 dX11_richest_50 (by decide) (fun c35 => ?_) (fun c35 => ?_)
            · skip
              replace E := zIf_f (Int.not_lt.mpr c35) E
              refine zg_iinc X 1 (fun v36 => [(3, .int v36), (2, .int x8), (0, .ref a0), (1, .int p1)]) 0 dX11_richest_55 rfl (by decide) (by decide) (by omega) (by omega) (fun _ => rfl) (fun v36 ev36 hv36 => ?_)
              replace E := zLet_s (zinc ev36 (by decide)) E
              refine zg_goto X 16 dX11_richest_58 (by decide) ?_
              refine zg_sub [0, 1, 2, 3] rfl ?_
              exact ihLp9 v36 x8   E  (by omega) (by omega) 
            · skip
              replace E := zIf_t c35 E
              refine zg_iload_n X 0 rfl dX11_richest_53 ?_
              refine zg_istore_n X [(2, .int x7), (3, .int x7), (0, .ref a0), (1, .int p1)] dX11_richest_54 (by decide) rfl ?_
              refine zg_iinc X 1 (fun v37 => [(3, .int v37), (2, .int x7), (0, .ref a0), (1, .int p1)]) 1 dX11_richest_55 rfl (by decide) (by decide) (by omega) (by omega) (fun _ => rfl) (fun v37 ev37 hv37 => ?_)
              replace E := zLet_s (zinc ev37 (by decide)) E
              refine zg_goto X 16 dX11_richest_58 (by decide) ?_
              refine zg_sub [0, 1, 2, 3] rfl ?_
              exact ihLp9 v37 x7   E  (by omega) (by omega) 
    refine zg_sub [0, 1, 2, 3] rfl ?_
    exact Lp9 10000 v6 v5   E  (by omega) (by omega) 
  · skip
    replace E := zIf_t c4 E
    refine zg_iconst X (-1) dX11_richest_9 (by decide) (fun v38 _ hv38 => ?_)
    replace E := zLet_s (zcst hv38 (by decide)) E
    exact ret _ _ _ _ dX11_richest_10 rfl ⟨E.symm.trans hR, rfl⟩
set_option maxHeartbeats 4000000 in
set_option maxRecDepth 100000 in
theorem t_X11_rankOf (l : Launch) (d : zD2) (L : List Nat) (kd : Nat → Nat) (κ : Int) (σ : zS) (hI : zJ κ L kd σ) (a0 : Nat) (ha0 : zT L kd a0 11) (p1 : Int32) (p2 : Int32) (hq0 : 0 ≤ p1.toInt ∧ p1.toInt ≤ 11) (hq1 : 0 ≤ p2.toInt ∧ p2.toInt ≤ 2) (hgL : gL a0 σ) : zMi l yX11_rankOf (Cond.code yX11_rankOf cX11_rankOf 7 (some .int) :: zWL) 3 [.ref a0, .int p1, .int p2] d L kd σ (fun v σ2 => (v, σ2) = F_X11_rankOf a0 p1 p2 σ ∧ (zJ κ L kd σ2 ∧ zSame a0 [47] [145, 146] L kd σ σ2)) := by
  refine zMi.of (own := RX11) (by decide +kernel) rfl rfl (Nat.le_of_ble_eq_true rfl) ?_
  intro p e s m args below meth c A Q X ret
  have hS : zSame a0 [47] [145, 146] L kd σ σ := zSame.rf
  refine zg_lv (lv2 := [(0, .ref a0), (1, .int p1), (2, .int p2)]) rfl ?_
  obtain ⟨R, hR⟩ : ∃ R, R = F_X11_rankOf a0 p1 p2 σ := ⟨_, rfl⟩
  have E := hR
  unfold F_X11_rankOf at E
  refine zg_iconst X 0 dX11_rankOf_0 (by decide) (fun v1 _ hv1 => ?_)
  replace E := zLet_s (zcst hv1 (by decide)) E
  refine zg_istore_n X [(3, .int v1), (0, .ref a0), (1, .int p1), (2, .int p2)] dX11_rankOf_1 (by decide) rfl ?_
  refine zg_aload_n X 1 rfl dX11_rankOf_2 ?_
  refine zg_iload_n X 2 rfl dX11_rankOf_3 ?_
  refine zg_iload_n X 3 rfl dX11_rankOf_4 ?_
  refine zg_cVi (As := [.int p1, .int p2]) (st := []) X ha0 rfl (by decide) rfl (t_X11_claimOf l d L kd κ _ hI a0 ha0 p1 p2  (by omega) (by omega) hgL) mk_X11_367 mc_X11_claimOf mz_X11 mi_X11_claimOf ml_X11_claimOf (na := 2) ⟨md_X11.1, md_X11.2, by decide +kernel⟩ rfl ⟨by decide, by decide⟩ (Nat.le_of_ble_eq_true rfl) dX11_rankOf_5 (fun v3 t2 hq => ?_)
  obtain ⟨hF, hI, g4⟩ := hq
  replace E := zLet2_s hF E
  have hS := hS.tr g4 (by decide) (by decide)
  have gLt2 := gL.same hI ha0 g4 (by decide) hgL
  refine zg_istore X [(4, .int v3), (3, .int v1), (0, .ref a0), (1, .int p1), (2, .int p2)] dX11_rankOf_8 (by decide) rfl ?_
  refine zg_iconst X 1 dX11_rankOf_10 (by decide) (fun v5 _ hv5 => ?_)
  replace E := zLet_s (zcst hv5 (by decide)) E
  refine zg_istore X [(5, .int v5), (4, .int v3), (3, .int v1), (0, .ref a0), (1, .int p1), (2, .int p2)] dX11_rankOf_11 (by decide) rfl ?_
  have Lp8 : ∀ (nLp8 : Nat) (τ8 : zS) (x6 : Int32) (x7 : Int32), zJ κ L kd τ8 → zSame a0 [47] [145, 146] L kd σ τ8 → gL a0 τ8 → R = F_X11_rankOf_13 v3 a0 p1 p2  nLp8 x6 x7 τ8 → 1 ≤ x6.toInt ∧ x6.toInt ≤ 12 → (12) - x6.toInt + 1 < (nLp8 : Int) → zG d L kd A 7 p l e (k2_rm 3 (100 * 3)) s m args below meth c Q τ8 13 [(5, .int x6), (4, .int v3), (3, .int x7), (0, .ref a0), (1, .int p1), (2, .int p2)] [] := by
    intro nLp8
    induction nLp8 with
    | zero => intro τ8 x6 x7 hI hS gL_Lp8 E  hxLp8 hm ; exact absurd hm (by omega)
    | succ nLp8 ihLp8 =>
      intro τ8 x6 x7 hI hS gL_Lp8 E  hxLp8 hmLp8 
      rw [F_X11_rankOf_13] at E
      refine zg_iload X 0 rfl dX11_rankOf_13 ?_
      refine zg_aload_n X 3 rfl dX11_rankOf_15 ?_
      refine zg_cVi (As := []) (st := [.int x6]) X ha0 rfl (by decide) rfl (t_X11_many l d L kd κ _ hI a0 ha0   ) mk_X11_313 mc_X11_many mz_X11 mi_X11_many ml_X11_many (na := 0) ⟨md_X11.1, md_X11.2, by decide +kernel⟩ rfl ⟨by decide, by decide⟩ (Nat.le_of_ble_eq_true rfl) dX11_rankOf_16 (fun v10 t9 hq => ?_)
      obtain ⟨⟨hF, ⟨ht9_res, ht9_fact0⟩⟩, rfl⟩ := hq
      replace E := zLet_s hF E
      refine zg_icmp_ge X 78 dX11_rankOf_19 (by decide) (fun c11 => ?_) (fun c11 => ?_)
      · skip
        replace E := zIf_f (Int.not_lt.mpr c11) E
        refine zg_iload_n X 2 rfl dX11_rankOf_78 ?_
        exact ret _ _ _ _ dX11_rankOf_79 rfl ⟨E.symm.trans hR, ⟨hI, hS⟩⟩
      · skip
        replace E := zIf_t c11 E
        refine zg_iload X 0 rfl dX11_rankOf_22 ?_
        refine zg_iload_n X 4 rfl dX11_rankOf_24 ?_
        refine zg_icmp_eq X 72 dX11_rankOf_25 (by decide) (fun c12 => ?_) (fun c12 => ?_)
        · skip
          replace E := zIf_t c12 E
          refine zg_iinc X 1 (fun v13 => [(5, .int v13), (4, .int v3), (3, .int x7), (0, .ref a0), (1, .int p1), (2, .int p2)]) 0 dX11_rankOf_72 rfl (by decide) (by decide) (by omega) (by omega) (fun _ => rfl) (fun v13 ev13 hv13 => ?_)
          replace E := zLet_s (zinc ev13 (by decide)) E
          refine zg_goto X 13 dX11_rankOf_75 (by decide) ?_
          refine zg_sub [0, 1, 2, 3, 4, 5] rfl ?_
          exact ihLp8 _ v13 x7 hI hS gL_Lp8 E  (by omega) (by omega) 
        · skip
          replace E := zIf_f c12 E
          refine zg_aload_n X 3 rfl dX11_rankOf_28 ?_
          refine zg_iload X 0 rfl dX11_rankOf_29 ?_
          refine zg_cVi (As := [.int x6]) (st := []) X ha0 rfl (by decide) rfl (t_X11_isSource l d L kd κ _ hI a0 ha0 x6  ) mk_X11_342 mc_X11_isSource mz_X11 mi_X11_isSource ml_X11_isSource (na := 1) ⟨md_X11.1, md_X11.2, by decide +kernel⟩ rfl ⟨by decide, by decide⟩ (Nat.le_of_ble_eq_true rfl) dX11_rankOf_31 (fun v15 t14 hq => ?_)
          obtain ⟨⟨hF, ⟨ht14_res, ht14_fact0, ht14_fact1, ht14_fact2⟩⟩, rfl⟩ := hq
          replace E := zLet_s hF E
          refine zg_if_ne X 40 dX11_rankOf_34 (by decide) (fun c16 => ?_) (fun c16 => ?_)
          · skip
            replace E := zIf_f c16 E
            refine zg_aload_n X 3 rfl dX11_rankOf_40 ?_
            refine zg_iload X 0 rfl dX11_rankOf_41 ?_
            refine zg_iload_n X 5 rfl dX11_rankOf_43 ?_
            refine zg_cVi (As := [.int x6, .int p2]) (st := []) X ha0 rfl (by decide) rfl (t_X11_claimOf l d L kd κ _ hI a0 ha0 x6 p2  (by omega) (by omega) gL_Lp8) mk_X11_367 mc_X11_claimOf mz_X11 mi_X11_claimOf ml_X11_claimOf (na := 2) ⟨md_X11.1, md_X11.2, by decide +kernel⟩ rfl ⟨by decide, by decide⟩ (Nat.le_of_ble_eq_true rfl) dX11_rankOf_44 (fun v18 t17 hq => ?_)
            obtain ⟨hF, hI, g19⟩ := hq
            replace E := zLet2_s hF E
            have hS := hS.tr g19 (by decide) (by decide)
            have gLt17 := gL.same hI ha0 g19 (by decide) gL_Lp8
            refine zg_istore X [(6, .int v18), (5, .int x6), (4, .int v3), (3, .int x7), (0, .ref a0), (1, .int p1), (2, .int p2)] dX11_rankOf_47 (by decide) rfl ?_
            refine zg_iload X 0 rfl dX11_rankOf_49 ?_
            refine zg_iload X 2 rfl dX11_rankOf_51 ?_
            have zv18_z20 := zb_rng v18
            have zv3_z21 := zb_rng v3
            refine zg_icmp_gt X 69 dX11_rankOf_53 (by decide) (fun c22 => ?_) (fun c22 => ?_)
            · skip
              replace E := zIf_t c22 E
              refine zg_iincW X (fun v23 => [(3, .int v23), (6, .int v18), (5, .int x6), (4, .int v3), (0, .ref a0), (1, .int p1), (2, .int p2)]) 3 dX11_rankOf_69 rfl (by decide) (fun _ => rfl) (fun v23 ev23 => ?_)
              replace E := zLet_s (zinc ev23 (by decide)) E
              refine zg_iinc X 1 (fun v24 => [(5, .int v24), (3, .int v23), (6, .int v18), (4, .int v3), (0, .ref a0), (1, .int p1), (2, .int p2)]) 2 dX11_rankOf_72 rfl (by decide) (by decide) (by omega) (by omega) (fun _ => rfl) (fun v24 ev24 hv24 => ?_)
              replace E := zLet_s (zinc ev24 (by decide)) E
              refine zg_goto X 13 dX11_rankOf_75 (by decide) ?_
              refine zg_sub [0, 3, 1, 4, 5, 6] rfl ?_
              exact ihLp8 _ v24 v23 hI hS gLt17 E  (by omega) (by omega) 
            · skip
              replace E := zIf_f (Int.not_lt.mpr c22) E
              refine zg_iload X 0 rfl dX11_rankOf_56 ?_
              refine zg_iload X 2 rfl dX11_rankOf_58 ?_
              refine zg_icmp_ne X 72 dX11_rankOf_60 (by decide) (fun c25 => ?_) (fun c25 => ?_)
              · skip
                replace E := zIf_f c25 E
                refine zg_iinc X 1 (fun v26 => [(5, .int v26), (6, .int v18), (4, .int v3), (3, .int x7), (0, .ref a0), (1, .int p1), (2, .int p2)]) 1 dX11_rankOf_72 rfl (by decide) (by decide) (by omega) (by omega) (fun _ => rfl) (fun v26 ev26 hv26 => ?_)
                replace E := zLet_s (zinc ev26 (by decide)) E
                refine zg_goto X 13 dX11_rankOf_75 (by decide) ?_
                refine zg_sub [0, 2, 3, 4, 5, 6] rfl ?_
                exact ihLp8 _ v26 x7 hI hS gLt17 E  (by omega) (by omega) 
              · skip
                replace E := zIf_t c25 E
                refine zg_iload X 1 rfl dX11_rankOf_63 ?_
                refine zg_iload_n X 5 rfl dX11_rankOf_65 ?_
                refine zg_icmp_ge X 72 dX11_rankOf_66 (by decide) (fun c27 => ?_) (fun c27 => ?_)
                · skip
                  replace E := zIf_f (Int.not_lt.mpr c27) E
                  refine zg_iinc X 1 (fun v28 => [(5, .int v28), (6, .int v18), (4, .int v3), (3, .int x7), (0, .ref a0), (1, .int p1), (2, .int p2)]) 1 dX11_rankOf_72 rfl (by decide) (by decide) (by omega) (by omega) (fun _ => rfl) (fun v28 ev28 hv28 => ?_)
                  replace E := zLet_s (zinc ev28 (by decide)) E
                  refine zg_goto X 13 dX11_rankOf_75 (by decide) ?_
                  refine zg_sub [0, 2, 3, 4, 5, 6] rfl ?_
                  exact ihLp8 _ v28 x7 hI hS gLt17 E  (by omega) (by omega) 
                · skip
                  replace E := zIf_t c27 E
                  refine zg_iincW X (fun v29 => [(3, .int v29), (6, .int v18), (5, .int x6), (4, .int v3), (0, .ref a0), (1, .int p1), (2, .int p2)]) 3 dX11_rankOf_69 rfl (by decide) (fun _ => rfl) (fun v29 ev29 => ?_)
                  replace E := zLet_s (zinc ev29 (by decide)) E
                  refine zg_iinc X 1 (fun v30 => [(5, .int v30), (3, .int v29), (6, .int v18), (4, .int v3), (0, .ref a0), (1, .int p1), (2, .int p2)]) 2 dX11_rankOf_72 rfl (by decide) (by decide) (by omega) (by omega) (fun _ => rfl) (fun v30 ev30 hv30 => ?_)
                  replace E := zLet_s (zinc ev30 (by decide)) E
                  refine zg_goto X 13 dX11_rankOf_75 (by decide) ?_
                  refine zg_sub [0, 3, 1, 4, 5, 6] rfl ?_
                  exact ihLp8 _ v30 v29 hI hS gLt17 E  (by omega) (by omega) 
          · skip
            replace E := zIf_t c16 E
            refine zg_goto X 72 dX11_rankOf_37 (by decide) ?_
            refine zg_iinc X 1 (fun v31 => [(5, .int v31), (4, .int v3), (3, .int x7), (0, .ref a0), (1, .int p1), (2, .int p2)]) 0 dX11_rankOf_72 rfl (by decide) (by decide) (by omega) (by omega) (fun _ => rfl) (fun v31 ev31 hv31 => ?_)
            replace E := zLet_s (zinc ev31 (by decide)) E
            refine zg_goto X 13 dX11_rankOf_75 (by decide) ?_
            refine zg_sub [0, 1, 2, 3, 4, 5] rfl ?_
            exact ihLp8 _ v31 x7 hI hS gL_Lp8 E  (by omega) (by omega) 
  refine zg_sub [0, 1, 2, 3, 4, 5] rfl ?_
  exact Lp8 10000 _ v5 v1 hI hS gLt2 E  (by omega) (by omega) 
set_option maxHeartbeats 4000000 in
set_option maxRecDepth 100000 in
theorem t_X11_rank (l : Launch) (d : zD2) (L : List Nat) (kd : Nat → Nat) (κ : Int) (σ : zS) (hI : zJ κ L kd σ) (a0 : Nat) (ha0 : zT L kd a0 11) (p1 : Int32) (p2 : Int32) (hgN : gN a0 σ) (hgH : gH a0 σ) (hgE : gE a0 σ) (hgL : gL a0 σ) : zMi l yX11_rank (Cond.code yX11_rank cX11_rank 3 (some .int) :: zWL) 6 [.ref a0, .int p1, .int p2] d L kd σ (fun v σ2 => (v, σ2) = F_X11_rank a0 p1 p2 σ ∧ (((gN a0 σ2) ∧ (gH a0 σ2) ∧ (gE a0 σ2) ∧ (gL a0 σ2)) ∧ zJ κ L kd σ2 ∧ zSame a0 [47, 50, 51] [145, 146, 149, 152, 153, 154, 155] L kd σ σ2)) := by
  refine zMi.of (own := RX11) (by decide +kernel) rfl rfl (Nat.le_of_ble_eq_true rfl) ?_
  intro p e s m args below meth c A Q X ret
  have hS : zSame a0 [47, 50, 51] [145, 146, 149, 152, 153, 154, 155] L kd σ σ := zSame.rf
  refine zg_lv (lv2 := [(0, .ref a0), (1, .int p1), (2, .int p2)]) rfl ?_
  have zm := zM_in hI ha0
  obtain ⟨R, hR⟩ : ∃ R, R = F_X11_rank a0 p1 p2 σ := ⟨_, rfl⟩
  have E := hR
  unfold F_X11_rank at E
  refine zg_aload_n X 0 rfl dX11_rank_0 ?_
  refine zg_iload_n X 1 rfl dX11_rank_1 ?_
  refine zg_iload_n X 2 rfl dX11_rank_2 ?_
  refine zg_cVi (As := [.int p1, .int p2]) (st := []) X ha0 rfl (by decide) rfl (t_X11_isClaim l d L kd κ _ hI a0 ha0 p1 p2   hgN hgL) mk_X11_389 mc_X11_isClaim mz_X11 mi_X11_isClaim ml_X11_isClaim (na := 2) ⟨md_X11.1, md_X11.2, by decide +kernel⟩ rfl ⟨by decide, by decide⟩ (Nat.le_of_ble_eq_true rfl) dX11_rank_3 (fun v2 t1 hq => ?_)
  obtain ⟨hF, ⟨ht1_res, ht1_fact0, ht1_fact1, gRt1, gBt1⟩, hI, g3⟩ := hq
  replace E := zLet2_s hF E
  have hS := hS.tr g3 (by decide) (by decide)
  have gNt1 := gN.same hI ha0 g3 (by decide) hgN
  have gHt1 := gH.same hI ha0 g3 (by decide) hgH
  have gEt1 := gE.same hI ha0 g3 (by decide) hgE
  have gLt1 := gL.same hI ha0 g3 (by decide) hgL
  refine zg_if_eq X 18 dX11_rank_6 (by decide) (fun c4 => ?_) (fun c4 => ?_)
  · skip
    replace E := zIf_t c4 E
    refine zg_iconst X (-1) dX11_rank_18 (by decide) (fun v5 _ hv5 => ?_)
    replace E := zLet_s (zcst hv5 (by decide)) E
    exact ret _ _ _ _ dX11_rank_19 rfl ⟨E.symm.trans hR, ⟨⟨gNt1, gHt1, gEt1, gLt1⟩, hI, hS⟩⟩
  · skip
    replace E := zIf_f c4 E
    refine zg_aload_n X 0 rfl dX11_rank_9 ?_
    refine zg_iload_n X 1 rfl dX11_rank_10 ?_
    refine zg_iload_n X 2 rfl dX11_rank_11 ?_
    refine zg_cVi (As := [.int p1, .int p2]) (st := []) X ha0 rfl (by decide) rfl (t_X11_rankOf l d L kd κ _ hI a0 ha0 p1 p2  (by omega) (by omega) gLt1) mk_X11_414 mc_X11_rankOf mz_X11 mi_X11_rankOf ml_X11_rankOf (na := 2) ⟨md_X11.1, md_X11.2, by decide +kernel⟩ rfl ⟨by decide, by decide⟩ (Nat.le_of_ble_eq_true rfl) dX11_rank_12 (fun v7 t6 hq => ?_)
    obtain ⟨hF, hI, g8⟩ := hq
    replace E := zLet2_s hF E
    have hS := hS.tr g8 (by decide) (by decide)
    have gNt6 := gN.same hI ha0 g8 (by decide) gNt1
    have gHt6 := gH.same hI ha0 g8 (by decide) gHt1
    have gEt6 := gE.same hI ha0 g8 (by decide) gEt1
    have gLt6 := gL.same hI ha0 g8 (by decide) gLt1
    have gRt6 := gR.same hI ha0 g8 (by decide) gRt1
    have gBt6 := gB.same hI ha0 g8 (by decide) gBt1
    refine zg_goto X 19 dX11_rank_15 (by decide) ?_
    exact ret _ _ _ _ dX11_rank_19 rfl ⟨E.symm.trans hR, ⟨⟨gNt6, gHt6, gEt6, gLt6⟩, hI, hS⟩⟩
set_option maxHeartbeats 4000000 in
set_option maxRecDepth 100000 in
theorem t_X11_vote (l : Launch) (d : zD2) (L : List Nat) (kd : Nat → Nat) (κ : Int) (σ : zS) (hI : zJ κ L kd σ) (a0 : Nat) (ha0 : zT L kd a0 11) (p1 : Int32) (hgN : gN a0 σ) (hgH : gH a0 σ) (hgE : gE a0 σ) (hgL : gL a0 σ) : zMi l yX11_vote (Cond.code yX11_vote cX11_vote 5 (some .int) :: zWL) 5 [.ref a0, .int p1] d L kd σ (fun v σ2 => (v, σ2) = F_X11_vote a0 p1 σ ∧ (((gN a0 σ2) ∧ (gH a0 σ2) ∧ (gE a0 σ2) ∧ (gL a0 σ2)) ∧ zJ κ L kd σ2 ∧ zSame a0 [47, 50, 51] [145, 146, 149, 152, 153, 154, 155, 159] L kd σ σ2)) := by
  refine zMi.of (own := RX11) (by decide +kernel) rfl rfl (Nat.le_of_ble_eq_true rfl) ?_
  intro p e s m args below meth c A Q X ret
  have hS : zSame a0 [47, 50, 51] [145, 146, 149, 152, 153, 154, 155, 159] L kd σ σ := zSame.rf
  refine zg_lv (lv2 := [(0, .ref a0), (1, .int p1)]) rfl ?_
  have zm := zM_in hI ha0
  obtain ⟨R, hR⟩ : ∃ R, R = F_X11_vote a0 p1 σ := ⟨_, rfl⟩
  have E := hR
  unfold F_X11_vote at E
  refine zg_iload_n X 1 rfl dX11_vote_0 ?_
  refine zg_iconst X 0 dX11_vote_1 (by decide) (fun v1 _ hv1 => ?_)
  replace E := zLet_s (zcst hv1 (by decide)) E
  refine zg_iconst X 1 dX11_vote_2 (by decide) (fun v2 _ hv2 => ?_)
  replace E := zLet_s (zcst hv2 (by decide)) E
  refine zg_cSi (As := [.int p1, .int v1, .int v2]) (st := []) X (t_X11_in l d L kd _ p1 v1 v2 ) mk_X11_316 mc_X11_in mz_X11 ms_X11_in (na := 3) ⟨md_X11.1, md_X11.2, by decide +kernel⟩ rfl ⟨by decide, by decide⟩ (Nat.le_of_ble_eq_true rfl) dX11_vote_3 (fun v3 σ2 hq => ?_)
  obtain ⟨⟨hF, hv3⟩, rfl⟩ := hq
  replace E := zLet_s hF E
  refine zg_if_ne X 11 dX11_vote_6 (by decide) (fun c4 => ?_) (fun c4 => ?_)
  · skip
    replace E := zIf_f c4 E
    refine zg_aload_n X 0 rfl dX11_vote_11 ?_
    refine zg_cVv (As := []) (st := []) X ha0 rfl (by decide) rfl (t_X11_copies l d L kd κ _ hI a0 ha0    hgN hgL) mk_X11_332 mc_X11_copies mz_X11 mi_X11_copies ml_X11_copies (na := 0) ⟨md_X11.1, md_X11.2, by decide +kernel⟩ rfl ⟨by decide, by decide⟩ (Nat.le_of_ble_eq_true rfl) dX11_vote_12 (fun t5 hq => ?_)
    obtain ⟨hF, ⟨ht5_fact0, gRt5, gBt5⟩, hI, g6⟩ := hq
    replace E := zLet_s hF E
    have hS := hS.tr g6 (by decide) (by decide)
    have gNt5 := gN.same hI ha0 g6 (by decide) hgN
    have gHt5 := gH.same hI ha0 g6 (by decide) hgH
    have gEt5 := gE.same hI ha0 g6 (by decide) hgE
    have gLt5 := gL.same hI ha0 g6 (by decide) hgL
    refine zg_aload_n X 0 rfl dX11_vote_15 ?_
    refine zg_cVi (As := []) (st := []) X ha0 rfl (by decide) rfl (t_X11_sourceBits l d L kd κ _ hI a0 ha0   ) mk_X11_417 mc_X11_sourceBits mz_X11 mi_X11_sourceBits ml_X11_sourceBits (na := 0) ⟨md_X11.1, md_X11.2, by decide +kernel⟩ rfl ⟨by decide, by decide⟩ (Nat.le_of_ble_eq_true rfl) dX11_vote_16 (fun v8 t7 hq => ?_)
    obtain ⟨⟨hF, ht7_res⟩, rfl⟩ := hq
    replace E := zLet_s hF E
    refine zg_if_ne X 25 dX11_vote_19 (by decide) (fun c9 => ?_) (fun c9 => ?_)
    · skip
      replace E := zIf_f c9 E
      refine zg_iconst X 0 dX11_vote_25 (by decide) (fun v10 _ hv10 => ?_)
      replace E := zLet_s (zcst hv10 (by decide)) E
      refine zg_istore_n X [(2, .int v10), (0, .ref a0), (1, .int p1)] dX11_vote_26 (by decide) rfl ?_
      have Lp12 : ∀ (nLp12 : Nat) (τ12 : zS) (x11 : Int32), zJ κ L kd τ12 → zSame a0 [47, 50, 51] [145, 146, 149, 152, 153, 154, 155, 159] L kd σ τ12 → gE a0 τ12 → gH a0 τ12 → gL a0 τ12 → gN a0 τ12 → R = F_X11_vote_27 a0 p1  nLp12 x11 τ12 → 0 ≤ x11.toInt ∧ x11.toInt ≤ 3 → (3) - x11.toInt + 1 < (nLp12 : Int) → zG d L kd A 5 p l e (k2_rm 5 (100 * 5)) s m args below meth c Q τ12 27 [(2, .int x11), (0, .ref a0), (1, .int p1)] [] := by
        intro nLp12
        induction nLp12 with
        | zero => intro τ12 x11 hI hS gE_Lp12 gH_Lp12 gL_Lp12 gN_Lp12 E  hxLp12 hm ; exact absurd hm (by omega)
        | succ nLp12 ihLp12 =>
          intro τ12 x11 hI hS gE_Lp12 gH_Lp12 gL_Lp12 gN_Lp12 E  hxLp12 hmLp12 
          rw [F_X11_vote_27] at E
          refine zg_iload_n X 0 rfl dX11_vote_27 ?_
          refine zg_iconst X 3 dX11_vote_28 (by decide) (fun v13 _ hv13 => ?_)
          replace E := zLet_s (zcst hv13 (by decide)) E
          refine zg_icmp_ge X 45 dX11_vote_29 (by decide) (fun c14 => ?_) (fun c14 => ?_)
          · skip
            replace E := zIf_f (Int.not_lt.mpr c14) E
            refine zg_iconst X 1 dX11_vote_45 (by decide) (fun v15 _ hv15 => ?_)
            replace E := zLet_s (zcst hv15 (by decide)) E
            refine zg_istore_n X [(2, .int v15), (0, .ref a0), (1, .int p1)] dX11_vote_46 (by decide) rfl ?_
            have Lp17 : ∀ (nLp17 : Nat) (τ17 : zS) (x16 : Int32), zJ κ L kd τ17 → zSame a0 [47, 50, 51] [145, 146, 149, 152, 153, 154, 155, 159] L kd σ τ17 → gE a0 τ17 → gH a0 τ17 → gL a0 τ17 → gN a0 τ17 → R = F_X11_vote_47 a0 p1 (F_X11_vote_27 a0 p1  nLp12) nLp17 x16 τ17 → 1 ≤ x16.toInt ∧ x16.toInt ≤ 12 → (12) - x16.toInt + 1 < (nLp17 : Int) → zG d L kd A 5 p l e (k2_rm 5 (100 * 5)) s m args below meth c Q τ17 47 [(2, .int x16), (0, .ref a0), (1, .int p1)] [] := by
              intro nLp17
              induction nLp17 with
              | zero => intro τ17 x16 hI hS gE_Lp17 gH_Lp17 gL_Lp17 gN_Lp17 E  hxLp17 hm ; exact absurd hm (by omega)
              | succ nLp17 ihLp17 =>
                intro τ17 x16 hI hS gE_Lp17 gH_Lp17 gL_Lp17 gN_Lp17 E  hxLp17 hmLp17 
                rw [F_X11_vote_47] at E
                refine zg_iload_n X 0 rfl dX11_vote_47 ?_
                refine zg_aload_n X 1 rfl dX11_vote_48 ?_
                refine zg_cVi (As := []) (st := [.int x16]) X ha0 rfl (by decide) rfl (t_X11_many l d L kd κ _ hI a0 ha0   ) mk_X11_313 mc_X11_many mz_X11 mi_X11_many ml_X11_many (na := 0) ⟨md_X11.1, md_X11.2, by decide +kernel⟩ rfl ⟨by decide, by decide⟩ (Nat.le_of_ble_eq_true rfl) dX11_vote_49 (fun v19 t18 hq => ?_)
                obtain ⟨⟨hF, ⟨ht18_res, ht18_fact0⟩⟩, rfl⟩ := hq
                replace E := zLet_s hF E
                refine zg_icmp_ge X 118 dX11_vote_52 (by decide) (fun c20 => ?_) (fun c20 => ?_)
                · skip
                  replace E := zIf_f (Int.not_lt.mpr c20) E
                  refine zg_iconst X 0 dX11_vote_118 (by decide) (fun v21 _ hv21 => ?_)
                  replace E := zLet_s (zcst hv21 (by decide)) E
                  refine zg_istore_n X [(2, .int v21), (0, .ref a0), (1, .int p1)] dX11_vote_119 (by decide) rfl ?_
                  refine zg_iconst X 1 dX11_vote_120 (by decide) (fun v22 _ hv22 => ?_)
                  replace E := zLet_s (zcst hv22 (by decide)) E
                  refine zg_istore_n X [(3, .int v22), (2, .int v21), (0, .ref a0), (1, .int p1)] dX11_vote_121 (by decide) rfl ?_
                  have Lp25 : ∀ (nLp25 : Nat) (τ25 : zS) (x23 : Int32) (x24 : Int32), zJ κ L kd τ25 → zSame a0 [47, 50, 51] [145, 146, 149, 152, 153, 154, 155, 159] L kd σ τ25 → gE a0 τ25 → gH a0 τ25 → gL a0 τ25 → gN a0 τ25 → R = F_X11_vote_122 a0 p1 (F_X11_vote_27 a0 p1  nLp12) (F_X11_vote_47 a0 p1 (F_X11_vote_27 a0 p1  nLp12) nLp17) nLp25 x23 x24 τ25 → 0 ≤ x24.toInt ∧ x24.toInt ≤ 2 ∧ 1 ≤ x23.toInt ∧ x23.toInt ≤ 3 → (3) - x23.toInt + 1 < (nLp25 : Int) → zG d L kd A 5 p l e (k2_rm 5 (100 * 5)) s m args below meth c Q τ25 122 [(3, .int x23), (2, .int x24), (0, .ref a0), (1, .int p1)] [] := by
                    intro nLp25
                    induction nLp25 with
                    | zero => intro τ25 x23 x24 hI hS gE_Lp25 gH_Lp25 gL_Lp25 gN_Lp25 E  hxLp25 hm ; exact absurd hm (by omega)
                    | succ nLp25 ihLp25 =>
                      intro τ25 x23 x24 hI hS gE_Lp25 gH_Lp25 gL_Lp25 gN_Lp25 E  hxLp25 hmLp25 
                      rw [F_X11_vote_122] at E
                      refine zg_iload_n X 0 rfl dX11_vote_122 ?_
                      refine zg_iconst X 3 dX11_vote_123 (by decide) (fun v26 _ hv26 => ?_)
                      replace E := zLet_s (zcst hv26 (by decide)) E
                      refine zg_icmp_ge X 150 dX11_vote_124 (by decide) (fun c27 => ?_) (fun c27 => ?_)
                      · skip
                        replace E := zIf_f (Int.not_lt.mpr c27) E
                        refine zg_iload_n X 3 rfl dX11_vote_150 ?_
                        refine zg_if_ne X 158 dX11_vote_151 (by decide) (fun c28 => ?_) (fun c28 => ?_)
                        · skip
                          replace E := zIf_f c28 E
                          refine zg_aload_n X 2 rfl dX11_vote_158 ?_
                          refine fg_X11_128 X hI ha0 dX11_vote_159 (fun v29 ev29 hv29 => ?_)
                          replace E := zLet_s (zgr ev29) E
                          refine zg_iload_n X 1 rfl dX11_vote_162 ?_
                          refine ag_159 X hI hv29 (by omega) (by omega) dX11_vote_163 (fun v30 ev30 _ => ?_)
                          replace E := zLet_s ev30 E
                          exact ret _ _ _ _ dX11_vote_164 rfl ⟨E.symm.trans hR, ⟨⟨gN_Lp25, gH_Lp25, gE_Lp25, gL_Lp25⟩, hI, hS⟩⟩
                        · skip
                          replace E := zIf_t c28 E
                          refine zg_iload_n X 1 rfl dX11_vote_154 ?_
                          refine zg_goto X 164 dX11_vote_155 (by decide) ?_
                          exact ret _ _ _ _ dX11_vote_164 rfl ⟨E.symm.trans hR, ⟨⟨gN_Lp25, gH_Lp25, gE_Lp25, gL_Lp25⟩, hI, hS⟩⟩
                      · skip
                        replace E := zIf_t c27 E
                        refine zg_aload_n X 2 rfl dX11_vote_127 ?_
                        refine fg_X11_128 X hI ha0 dX11_vote_128 (fun v31 ev31 hv31 => ?_)
                        replace E := zLet_s (zgr ev31) E
                        refine zg_iload_n X 0 rfl dX11_vote_131 ?_
                        refine ag_159 X hI hv31 (by omega) (by omega) dX11_vote_132 (fun v32 ev32 _ => ?_)
                        replace E := zLet_s ev32 E
                        refine zg_aload_n X 2 rfl dX11_vote_133 ?_
                        refine fg_X11_128 X hI ha0 dX11_vote_134 (fun v33 ev33 hv33 => ?_)
                        replace E := zLet_s (zgr ev33) E
                        refine zg_iload_n X 1 rfl dX11_vote_137 ?_
                        refine ag_159 X hI hv33 (by omega) (by omega) dX11_vote_138 (fun v34 ev34 _ => ?_)
                        replace E := zLet_s ev34 E
                        have zv32_z35 := zb_rng v32
                        have zv34_z36 := zb_rng v34
                        refine zg_icmp_le X 144 dX11_vote_139 (by decide) (fun c37 => ?_) (fun c37 => ?_)
                        · skip
                          replace E := zIf_f (Int.not_lt.mpr c37) E
                          refine zg_iinc X 1 (fun v38 => [(3, .int v38), (2, .int x24), (0, .ref a0), (1, .int p1)]) 0 dX11_vote_144 rfl (by decide) (by decide) (by omega) (by omega) (fun _ => rfl) (fun v38 ev38 hv38 => ?_)
                          replace E := zLet_s (zinc ev38 (by decide)) E
                          refine zg_goto X 122 dX11_vote_147 (by decide) ?_
                          refine zg_sub [0, 1, 2, 3] rfl ?_
                          exact ihLp25 _ v38 x24 hI hS gE_Lp25 gH_Lp25 gL_Lp25 gN_Lp25 E  (by omega) (by omega) 
                        · skip
                          replace E := zIf_t c37 E
                          refine zg_iload_n X 0 rfl dX11_vote_142 ?_
                          refine zg_istore_n X [(2, .int x23), (3, .int x23), (0, .ref a0), (1, .int p1)] dX11_vote_143 (by decide) rfl ?_
                          refine zg_iinc X 1 (fun v39 => [(3, .int v39), (2, .int x23), (0, .ref a0), (1, .int p1)]) 1 dX11_vote_144 rfl (by decide) (by decide) (by omega) (by omega) (fun _ => rfl) (fun v39 ev39 hv39 => ?_)
                          replace E := zLet_s (zinc ev39 (by decide)) E
                          refine zg_goto X 122 dX11_vote_147 (by decide) ?_
                          refine zg_sub [0, 1, 2, 3] rfl ?_
                          exact ihLp25 _ v39 x23 hI hS gE_Lp25 gH_Lp25 gL_Lp25 gN_Lp25 E  (by omega) (by omega) 
                  refine zg_sub [0, 1, 2, 3] rfl ?_
                  exact Lp25 10000 _ v22 v21 hI hS gE_Lp17 gH_Lp17 gL_Lp17 gN_Lp17 E  (by omega) (by omega) 
                · skip
                  replace E := zIf_t c20 E
                  refine zg_aload_n X 1 rfl dX11_vote_55 ?_
                  refine zg_iload_n X 0 rfl dX11_vote_56 ?_
                  refine zg_cVi (As := [.int x16]) (st := []) X ha0 rfl (by decide) rfl (t_X11_isSource l d L kd κ _ hI a0 ha0 x16  ) mk_X11_342 mc_X11_isSource mz_X11 mi_X11_isSource ml_X11_isSource (na := 1) ⟨md_X11.1, md_X11.2, by decide +kernel⟩ rfl ⟨by decide, by decide⟩ (Nat.le_of_ble_eq_true rfl) dX11_vote_57 (fun v41 t40 hq => ?_)
                  obtain ⟨⟨hF, ⟨ht40_res, ht40_fact0, ht40_fact1, ht40_fact2⟩⟩, rfl⟩ := hq
                  replace E := zLet_s hF E
                  refine zg_if_ne X 66 dX11_vote_60 (by decide) (fun c42 => ?_) (fun c42 => ?_)
                  · skip
                    replace E := zIf_f c42 E
                    refine zg_iconst X 0 dX11_vote_66 (by decide) (fun v43 _ hv43 => ?_)
                    replace E := zLet_s (zcst hv43 (by decide)) E
                    refine zg_istore_n X [(3, .int v43), (2, .int x16), (0, .ref a0), (1, .int p1)] dX11_vote_67 (by decide) rfl ?_
                    refine zg_iconst X 1 dX11_vote_68 (by decide) (fun v44 _ hv44 => ?_)
                    replace E := zLet_s (zcst hv44 (by decide)) E
                    refine zg_istore X [(4, .int v44), (3, .int v43), (2, .int x16), (0, .ref a0), (1, .int p1)] dX11_vote_69 (by decide) rfl ?_
                    have Lp47 : ∀ (nLp47 : Nat) (τ47 : zS) (x45 : Int32) (x46 : Int32), zJ κ L kd τ47 → zSame a0 [47, 50, 51] [145, 146, 149, 152, 153, 154, 155, 159] L kd σ τ47 → gE a0 τ47 → gH a0 τ47 → gL a0 τ47 → gN a0 τ47 → R = F_X11_vote_71 x16 a0 p1 (F_X11_vote_27 a0 p1  nLp12) (F_X11_vote_47 a0 p1 (F_X11_vote_27 a0 p1  nLp12) nLp17) nLp47 x45 x46 τ47 → 0 ≤ x46.toInt ∧ x46.toInt ≤ 2 ∧ 1 ≤ x45.toInt ∧ x45.toInt ≤ 3 → (3) - x45.toInt + 1 < (nLp47 : Int) → zG d L kd A 5 p l e (k2_rm 5 (100 * 5)) s m args below meth c Q τ47 71 [(4, .int x45), (3, .int x46), (2, .int x16), (0, .ref a0), (1, .int p1)] [] := by
                      intro nLp47
                      induction nLp47 with
                      | zero => intro τ47 x45 x46 hI hS gE_Lp47 gH_Lp47 gL_Lp47 gN_Lp47 E  hxLp47 hm ; exact absurd hm (by omega)
                      | succ nLp47 ihLp47 =>
                        intro τ47 x45 x46 hI hS gE_Lp47 gH_Lp47 gL_Lp47 gN_Lp47 E  hxLp47 hmLp47 
                        rw [F_X11_vote_71] at E
                        refine zg_iload X 0 rfl dX11_vote_71 ?_
                        refine zg_iconst X 3 dX11_vote_73 (by decide) (fun v48 _ hv48 => ?_)
                        replace E := zLet_s (zcst hv48 (by decide)) E
                        refine zg_icmp_ge X 102 dX11_vote_74 (by decide) (fun c49 => ?_) (fun c49 => ?_)
                        · skip
                          replace E := zIf_f (Int.not_lt.mpr c49) E
                          refine zg_aload_n X 3 rfl dX11_vote_102 ?_
                          refine fg_X11_128 X hI ha0 dX11_vote_103 (fun v50 ev50 hv50 => ?_)
                          replace E := zLet_s (zgr ev50) E
                          refine zg_iload_n X 1 rfl dX11_vote_106 ?_
                          refine zg_dup2 X dX11_vote_107 rfl rfl ?_
                          refine ag_159 X hI hv50 (by omega) (by omega) dX11_vote_108 (fun v51 ev51 _ => ?_)
                          replace E := zLet_s ev51 E
                          refine zg_iconst X 1 dX11_vote_109 (by decide) (fun v52 _ hv52 => ?_)
                          replace E := zLet_s (zcst hv52 (by decide)) E
                          refine zg_iaddW X dX11_vote_110 (fun v53 ev53 => ?_)
                          replace E := zLet_s ev53 E
                          refine as_159 X hI hv50 (by omega) (by omega) dX11_vote_111 (fun s54 es54 hI => ?_)
                          replace E := zLet_s es54 E
                          have g55 := (zSame.rf (o := a0) (Wf := []) (Wa := [159]) (L := L) (kd := kd) (σ := τ47)).a ha0 hv50 es54 rfl (by decide)
                          have hS := hS.tr g55 (by decide) (by decide)
                          have gEs54 := gE.same hI ha0 g55 (by decide) gE_Lp47
                          have gHs54 := gH.same hI ha0 g55 (by decide) gH_Lp47
                          have gLs54 := gL.same hI ha0 g55 (by decide) gL_Lp47
                          have gNs54 := gN.same hI ha0 g55 (by decide) gN_Lp47
                          refine zg_iinc X 1 (fun v56 => [(2, .int v56), (4, .int x45), (3, .int x46), (0, .ref a0), (1, .int p1)]) 2 dX11_vote_112 rfl (by decide) (by decide) (by omega) (by omega) (fun _ => rfl) (fun v56 ev56 hv56 => ?_)
                          replace E := zLet_s (zinc ev56 (by decide)) E
                          refine zg_goto X 47 dX11_vote_115 (by decide) ?_
                          refine zg_sub [0, 3, 4] rfl ?_
                          exact ihLp17 _ v56 hI hS gEs54 gHs54 gLs54 gNs54 E  (by omega) (by omega) 
                        · skip
                          replace E := zIf_t c49 E
                          refine zg_aload_n X 3 rfl dX11_vote_77 ?_
                          refine zg_iload_n X 2 rfl dX11_vote_78 ?_
                          refine zg_iload X 0 rfl dX11_vote_79 ?_
                          refine zg_cVi (As := [.int x16, .int x45]) (st := []) X ha0 rfl (by decide) rfl (t_X11_rankOf l d L kd κ _ hI a0 ha0 x16 x45  (by omega) (by omega) gL_Lp47) mk_X11_414 mc_X11_rankOf mz_X11 mi_X11_rankOf ml_X11_rankOf (na := 2) ⟨md_X11.1, md_X11.2, by decide +kernel⟩ rfl ⟨by decide, by decide⟩ (Nat.le_of_ble_eq_true rfl) dX11_vote_81 (fun v58 t57 hq => ?_)
                          obtain ⟨hF, hI, g59⟩ := hq
                          replace E := zLet2_s hF E
                          have hS := hS.tr g59 (by decide) (by decide)
                          have gEt57 := gE.same hI ha0 g59 (by decide) gE_Lp47
                          have gHt57 := gH.same hI ha0 g59 (by decide) gH_Lp47
                          have gLt57 := gL.same hI ha0 g59 (by decide) gL_Lp47
                          have gNt57 := gN.same hI ha0 g59 (by decide) gN_Lp47
                          refine zg_aload_n X 3 rfl dX11_vote_84 ?_
                          refine zg_iload_n X 2 rfl dX11_vote_85 ?_
                          refine zg_iload_n X 1 rfl dX11_vote_86 ?_
                          refine zg_cVi (As := [.int x16, .int x46]) (st := [.int v58]) X ha0 rfl (by decide) rfl (t_X11_rankOf l d L kd κ _ hI a0 ha0 x16 x46  (by omega) (by omega) gLt57) mk_X11_414 mc_X11_rankOf mz_X11 mi_X11_rankOf ml_X11_rankOf (na := 2) ⟨md_X11.1, md_X11.2, by decide +kernel⟩ rfl ⟨by decide, by decide⟩ (Nat.le_of_ble_eq_true rfl) dX11_vote_87 (fun v61 t60 hq => ?_)
                          obtain ⟨hF, hI, g62⟩ := hq
                          replace E := zLet2_s hF E
                          have hS := hS.tr g62 (by decide) (by decide)
                          have gEt60 := gE.same hI ha0 g62 (by decide) gEt57
                          have gHt60 := gH.same hI ha0 g62 (by decide) gHt57
                          have gLt60 := gL.same hI ha0 g62 (by decide) gLt57
                          have gNt60 := gN.same hI ha0 g62 (by decide) gNt57
                          have zv58_z63 := zb_rng v58
                          have zv61_z64 := zb_rng v61
                          refine zg_icmp_ge X 96 dX11_vote_90 (by decide) (fun c65 => ?_) (fun c65 => ?_)
                          · skip
                            replace E := zIf_f (Int.not_lt.mpr c65) E
                            refine zg_iinc X 1 (fun v66 => [(4, .int v66), (3, .int x46), (2, .int x16), (0, .ref a0), (1, .int p1)]) 0 dX11_vote_96 rfl (by decide) (by decide) (by omega) (by omega) (fun _ => rfl) (fun v66 ev66 hv66 => ?_)
                            replace E := zLet_s (zinc ev66 (by decide)) E
                            refine zg_goto X 71 dX11_vote_99 (by decide) ?_
                            refine zg_sub [0, 1, 2, 3, 4] rfl ?_
                            exact ihLp47 _ v66 x46 hI hS gEt60 gHt60 gLt60 gNt60 E  (by omega) (by omega) 
                          · skip
                            replace E := zIf_t c65 E
                            refine zg_iload X 0 rfl dX11_vote_93 ?_
                            refine zg_istore_n X [(3, .int x45), (4, .int x45), (2, .int x16), (0, .ref a0), (1, .int p1)] dX11_vote_95 (by decide) rfl ?_
                            refine zg_iinc X 1 (fun v67 => [(4, .int v67), (3, .int x45), (2, .int x16), (0, .ref a0), (1, .int p1)]) 1 dX11_vote_96 rfl (by decide) (by decide) (by omega) (by omega) (fun _ => rfl) (fun v67 ev67 hv67 => ?_)
                            replace E := zLet_s (zinc ev67 (by decide)) E
                            refine zg_goto X 71 dX11_vote_99 (by decide) ?_
                            refine zg_sub [0, 1, 2, 3, 4] rfl ?_
                            exact ihLp47 _ v67 x45 hI hS gEt60 gHt60 gLt60 gNt60 E  (by omega) (by omega) 
                    refine zg_sub [0, 1, 2, 3, 4] rfl ?_
                    exact Lp47 10000 _ v44 v43 hI hS gE_Lp17 gH_Lp17 gL_Lp17 gN_Lp17 E  (by omega) (by omega) 
                  · skip
                    replace E := zIf_t c42 E
                    refine zg_goto X 112 dX11_vote_63 (by decide) ?_
                    refine zg_iinc X 1 (fun v68 => [(2, .int v68), (0, .ref a0), (1, .int p1)]) 0 dX11_vote_112 rfl (by decide) (by decide) (by omega) (by omega) (fun _ => rfl) (fun v68 ev68 hv68 => ?_)
                    replace E := zLet_s (zinc ev68 (by decide)) E
                    refine zg_goto X 47 dX11_vote_115 (by decide) ?_
                    refine zg_sub [0, 1, 2] rfl ?_
                    exact ihLp17 _ v68 hI hS gE_Lp17 gH_Lp17 gL_Lp17 gN_Lp17 E  (by omega) (by omega) 
            refine zg_sub [0, 1, 2] rfl ?_
            exact Lp17 10000 _ v15 hI hS gE_Lp12 gH_Lp12 gL_Lp12 gN_Lp12 E  (by omega) (by omega) 
          · skip
            replace E := zIf_t c14 E
            refine zg_aload_n X 1 rfl dX11_vote_32 ?_
            refine fg_X11_128 X hI ha0 dX11_vote_33 (fun v69 ev69 hv69 => ?_)
            replace E := zLet_s (zgr ev69) E
            refine zg_iload_n X 0 rfl dX11_vote_36 ?_
            refine zg_iconst X 0 dX11_vote_37 (by decide) (fun v70 _ hv70 => ?_)
            replace E := zLet_s (zcst hv70 (by decide)) E
            refine as_159 X hI hv69 (by omega) (by omega) dX11_vote_38 (fun s71 es71 hI => ?_)
            replace E := zLet_s es71 E
            have g72 := (zSame.rf (o := a0) (Wf := []) (Wa := [159]) (L := L) (kd := kd) (σ := τ12)).a ha0 hv69 es71 rfl (by decide)
            have hS := hS.tr g72 (by decide) (by decide)
            have gEs71 := gE.same hI ha0 g72 (by decide) gE_Lp12
            have gHs71 := gH.same hI ha0 g72 (by decide) gH_Lp12
            have gLs71 := gL.same hI ha0 g72 (by decide) gL_Lp12
            have gNs71 := gN.same hI ha0 g72 (by decide) gN_Lp12
            refine zg_iinc X 1 (fun v73 => [(2, .int v73), (0, .ref a0), (1, .int p1)]) 0 dX11_vote_39 rfl (by decide) (by decide) (by omega) (by omega) (fun _ => rfl) (fun v73 ev73 hv73 => ?_)
            replace E := zLet_s (zinc ev73 (by decide)) E
            refine zg_goto X 27 dX11_vote_42 (by decide) ?_
            refine zg_sub [0, 1, 2] rfl ?_
            exact ihLp12 _ v73 hI hS gEs71 gHs71 gLs71 gNs71 E  (by omega) (by omega) 
      refine zg_sub [0, 1, 2] rfl ?_
      exact Lp12 10000 _ v10 hI hS gEt5 gHt5 gLt5 gNt5 E  (by omega) (by omega) 
    · skip
      replace E := zIf_t c9 E
      refine zg_bipush X (-2) dX11_vote_22 (by decide) (fun v74 _ hv74 => ?_)
      replace E := zLet_s (zcst hv74 (by decide)) E
      exact ret _ _ _ _ dX11_vote_24 rfl ⟨E.symm.trans hR, ⟨⟨gNt5, gHt5, gEt5, gLt5⟩, hI, hS⟩⟩
  · skip
    replace E := zIf_t c4 E
    refine zg_iconst X (-1) dX11_vote_9 (by decide) (fun v75 _ hv75 => ?_)
    replace E := zLet_s (zcst hv75 (by decide)) E
    exact ret _ _ _ _ dX11_vote_10 rfl ⟨E.symm.trans hR, ⟨⟨hgN, hgH, hgE, hgL⟩, hI, hS⟩⟩
