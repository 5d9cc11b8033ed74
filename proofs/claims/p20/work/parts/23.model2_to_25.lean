-- 23.model2
section
set_option maxHeartbeats 4000000 in
set_option maxRecDepth 100000 in
theorem t_X11_looks (l : Launch) (d : zD2) (L : List Nat) (kd : Nat → Nat) (κ : Int) (σ : zS) (hI : zJ κ L kd σ) (a0 : Nat) (ha0 : zT L kd a0 11) (p1 : Int32) (p2 : Int32) (hq0 : 0 ≤ p1.toInt ∧ p1.toInt ≤ 11) : zMv l yX11_looks (Cond.code yX11_looks cX11_looks 3 none :: zWL) 1 [.ref a0, .int p1, .int p2] d L kd σ (fun σ2 => σ2 = F_X11_looks a0 p1 p2 σ ∧ (zJ κ L kd σ2 ∧ zSame a0 [] [145] L kd σ σ2)) := by
  refine zMv.of (own := RX11) (by decide +kernel) rfl rfl (Nat.le_of_ble_eq_true rfl) ?_
  intro p e s m args below meth c A Q X ret
  have hS : zSame a0 [] [145] L kd σ σ := zSame.rf
  refine zg_lv (lv2 := [(0, .ref a0), (1, .int p1), (2, .int p2)]) rfl ?_
  obtain ⟨R, hR⟩ : ∃ R, R = F_X11_looks a0 p1 p2 σ := ⟨_, rfl⟩
  have E := hR
  unfold F_X11_looks at E
  refine zg_aload_n X 0 rfl dX11_looks_0 ?_
  refine fg_X11_101 X hI ha0 dX11_looks_1 (fun v1 ev1 hv1 => ?_)
  replace E := zLet_s (zgr ev1) E
  refine zg_iconst X 0 dX11_looks_4 (by decide) (fun v2 _ hv2 => ?_)
  replace E := zLet_s (zcst hv2 (by decide)) E
  refine zg_aload_n X 0 rfl dX11_looks_5 ?_
  refine fg_X11_52 X hI ha0 dX11_looks_6 (fun v3 ev3 hv3 => ?_)
  replace E := zLet_s (zgr ev3) E
  refine zg_bipush X 12 dX11_looks_9 (by decide) (fun v4 _ hv4 => ?_)
  replace E := zLet_s (zcst hv4 (by decide)) E
  refine zg_aload_n X 0 rfl dX11_looks_11 ?_
  refine fg_X11_236 X hI ha0 dX11_looks_12 (fun v5 ev5 hv5 => ?_)
  replace E := zLet_s ev5 E
  refine zg_imulc X 12 dX11_looks_15 (by omega) (by omega) (by omega) (fun v6 ev6 hv6 => ?_)
  replace E := zLet_s ev6 E
  refine zg_iload_n X 1 rfl dX11_looks_16 ?_
  refine zg_iadd X dX11_looks_17 (by omega) (by omega) (fun v7 ev7 hv7 => ?_)
  replace E := zLet_s ev7 E
  refine ag_124 X hI hv3 (by omega) (by omega) dX11_looks_18 (fun v8 ev8 _ => ?_)
  replace E := zLet_s ev8 E
  refine as_145 X hI hv1 (by omega) (by omega) dX11_looks_19 (fun s9 es9 hI => ?_)
  replace E := zLet_s es9 E
  have g10 := (zSame.rf (o := a0) (Wf := []) (Wa := [145]) (L := L) (kd := kd) (σ := σ)).a ha0 hv1 es9 rfl (by decide)
  have hS := hS.tr g10 (by decide) (by decide)
  have e11 := g10.v ev5 (by decide)
  refine zg_aload_n X 0 rfl dX11_looks_20 ?_
  refine fg_X11_101 X hI ha0 dX11_looks_21 (fun v12 ev12 hv12 => ?_)
  replace E := zLet_s (zgr ev12) E
  refine zg_iconst X 1 dX11_looks_24 (by decide) (fun v13 _ hv13 => ?_)
  replace E := zLet_s (zcst hv13 (by decide)) E
  refine zg_aload_n X 0 rfl dX11_looks_25 ?_
  refine fg_X11_113 X hI ha0 dX11_looks_26 (fun v14 ev14 hv14 => ?_)
  replace E := zLet_s (zgr ev14) E
  refine zg_iload_n X 1 rfl dX11_looks_29 ?_
  refine ag_152 X hI hv14 (by omega) (by omega) dX11_looks_30 (fun v15 ev15 _ => ?_)
  replace E := zLet_s ev15 E
  refine as_145 X hI hv12 (by omega) (by omega) dX11_looks_31 (fun s16 es16 hI => ?_)
  replace E := zLet_s es16 E
  have g17 := (zSame.rf (o := a0) (Wf := []) (Wa := [145]) (L := L) (kd := kd) (σ := s9)).a ha0 hv12 es16 rfl (by decide)
  have hS := hS.tr g17 (by decide) (by decide)
  have e18 := g17.v e11 (by decide)
  refine zg_aload_n X 0 rfl dX11_looks_32 ?_
  refine fg_X11_101 X hI ha0 dX11_looks_33 (fun v19 ev19 hv19 => ?_)
  replace E := zLet_s (zgr ev19) E
  refine zg_iconst X 2 dX11_looks_36 (by decide) (fun v20 _ hv20 => ?_)
  replace E := zLet_s (zcst hv20 (by decide)) E
  refine zg_aload_n X 0 rfl dX11_looks_37 ?_
  refine fg_X11_55 X hI ha0 dX11_looks_38 (fun v21 ev21 hv21 => ?_)
  replace E := zLet_s (zgr ev21) E
  refine zg_bipush X 12 dX11_looks_41 (by decide) (fun v22 _ hv22 => ?_)
  replace E := zLet_s (zcst hv22 (by decide)) E
  refine zg_aload_n X 0 rfl dX11_looks_43 ?_
  refine fg_X11_236 X hI ha0 dX11_looks_44 (fun v23 ev23 hv23 => ?_)
  replace E := zLet_s ev23 E
  have mv23 : v23.toInt = v5.toInt := by rw [ev23, ← e18]
  refine zg_imulc X 12 dX11_looks_47 (by omega) (by omega) (by omega) (fun v24 ev24 hv24 => ?_)
  replace E := zLet_s ev24 E
  refine zg_iload_n X 1 rfl dX11_looks_48 ?_
  refine zg_iadd X dX11_looks_49 (by omega) (by omega) (fun v25 ev25 hv25 => ?_)
  replace E := zLet_s ev25 E
  refine ag_125 X hI hv21 (by omega) (by omega) dX11_looks_50 (fun v26 ev26 _ => ?_)
  replace E := zLet_s ev26 E
  refine as_145 X hI hv19 (by omega) (by omega) dX11_looks_51 (fun s27 es27 hI => ?_)
  replace E := zLet_s es27 E
  have g28 := (zSame.rf (o := a0) (Wf := []) (Wa := [145]) (L := L) (kd := kd) (σ := s16)).a ha0 hv19 es27 rfl (by decide)
  have hS := hS.tr g28 (by decide) (by decide)
  have e29 := g28.v ev23 (by decide)
  refine zg_aload_n X 0 rfl dX11_looks_52 ?_
  refine fg_X11_101 X hI ha0 dX11_looks_53 (fun v30 ev30 hv30 => ?_)
  replace E := zLet_s (zgr ev30) E
  refine zg_iconst X 3 dX11_looks_56 (by decide) (fun v31 _ hv31 => ?_)
  replace E := zLet_s (zcst hv31 (by decide)) E
  refine zg_aload_n X 0 rfl dX11_looks_57 ?_
  refine fg_X11_110 X hI ha0 dX11_looks_58 (fun v32 ev32 hv32 => ?_)
  replace E := zLet_s (zgr ev32) E
  refine zg_bipush X 48 dX11_looks_61 (by decide) (fun v33 _ hv33 => ?_)
  replace E := zLet_s (zcst hv33 (by decide)) E
  refine ag_149 X hI hv32 (by omega) (by omega) dX11_looks_63 (fun v34 ev34 _ => ?_)
  replace E := zLet_s ev34 E
  refine zg_bipush X 12 dX11_looks_64 (by decide) (fun v35 _ hv35 => ?_)
  replace E := zLet_s (zcst hv35 (by decide)) E
  refine zg_iremW X dX11_looks_66 (by omega) (fun v36 ev36 => ?_)
  replace E := zLet_s ev36 E
  have hv36 := zb_rem (x := v34) (y := v35) 12 (by omega) (by omega)
  rw [← ev36] at hv36
  refine as_145 X hI hv30 (by omega) (by omega) dX11_looks_67 (fun s37 es37 hI => ?_)
  replace E := zLet_s es37 E
  have g38 := (zSame.rf (o := a0) (Wf := []) (Wa := [145]) (L := L) (kd := kd) (σ := s27)).a ha0 hv30 es37 rfl (by decide)
  have hS := hS.tr g38 (by decide) (by decide)
  have e39 := g38.v e29 (by decide)
  refine zg_aload_n X 0 rfl dX11_looks_68 ?_
  refine fg_X11_101 X hI ha0 dX11_looks_69 (fun v40 ev40 hv40 => ?_)
  replace E := zLet_s (zgr ev40) E
  refine zg_iconst X 4 dX11_looks_72 (by decide) (fun v41 _ hv41 => ?_)
  replace E := zLet_s (zcst hv41 (by decide)) E
  refine zg_iload_n X 2 rfl dX11_looks_73 ?_
  refine as_145 X hI hv40 (by omega) (by omega) dX11_looks_74 (fun s42 es42 hI => ?_)
  replace E := zLet_s es42 E
  have g43 := (zSame.rf (o := a0) (Wf := []) (Wa := [145]) (L := L) (kd := kd) (σ := s37)).a ha0 hv40 es42 rfl (by decide)
  have hS := hS.tr g43 (by decide) (by decide)
  have e44 := g43.v e39 (by decide)
  refine zg_aload_n X 0 rfl dX11_looks_75 ?_
  refine fg_X11_101 X hI ha0 dX11_looks_76 (fun v45 ev45 hv45 => ?_)
  replace E := zLet_s (zgr ev45) E
  refine zg_iconst X 5 dX11_looks_79 (by decide) (fun v46 _ hv46 => ?_)
  replace E := zLet_s (zcst hv46 (by decide)) E
  refine zg_aload_n X 0 rfl dX11_looks_80 ?_
  refine fg_X11_49 X hI ha0 dX11_looks_81 (fun v47 ev47 hv47 => ?_)
  replace E := zLet_s (zgr ev47) E
  refine zg_bipush X 12 dX11_looks_84 (by decide) (fun v48 _ hv48 => ?_)
  replace E := zLet_s (zcst hv48 (by decide)) E
  refine zg_aload_n X 0 rfl dX11_looks_86 ?_
  refine fg_X11_236 X hI ha0 dX11_looks_87 (fun v49 ev49 hv49 => ?_)
  replace E := zLet_s ev49 E
  have mv49 : v49.toInt = v23.toInt := by rw [ev49, ← e44]
  refine zg_imulc X 12 dX11_looks_90 (by omega) (by omega) (by omega) (fun v50 ev50 hv50 => ?_)
  replace E := zLet_s ev50 E
  refine zg_iload_n X 1 rfl dX11_looks_91 ?_
  refine zg_iadd X dX11_looks_92 (by omega) (by omega) (fun v51 ev51 hv51 => ?_)
  replace E := zLet_s ev51 E
  refine ag_123 X hI hv47 (by omega) (by omega) dX11_looks_93 (fun v52 ev52 _ => ?_)
  replace E := zLet_s ev52 E
  refine as_145 X hI hv45 (by omega) (by omega) dX11_looks_94 (fun s53 es53 hI => ?_)
  replace E := zLet_s es53 E
  have g54 := (zSame.rf (o := a0) (Wf := []) (Wa := [145]) (L := L) (kd := kd) (σ := s42)).a ha0 hv45 es53 rfl (by decide)
  have hS := hS.tr g54 (by decide) (by decide)
  refine zg_aload_n X 0 rfl dX11_looks_95 ?_
  refine fg_X11_101 X hI ha0 dX11_looks_96 (fun v56 ev56 hv56 => ?_)
  replace E := zLet_s (zgr ev56) E
  refine zg_bipush X 6 dX11_looks_99 (by decide) (fun v57 _ hv57 => ?_)
  replace E := zLet_s (zcst hv57 (by decide)) E
  refine zg_aload_n X 0 rfl dX11_looks_101 ?_
  refine fg_X11_110 X hI ha0 dX11_looks_102 (fun v58 ev58 hv58 => ?_)
  replace E := zLet_s (zgr ev58) E
  refine zg_bipush X 24 dX11_looks_105 (by decide) (fun v59 _ hv59 => ?_)
  replace E := zLet_s (zcst hv59 (by decide)) E
  refine zg_iload_n X 1 rfl dX11_looks_107 ?_
  refine zg_iadd X dX11_looks_108 (by omega) (by omega) (fun v60 ev60 hv60 => ?_)
  replace E := zLet_s ev60 E
  refine ag_149 X hI hv58 (by omega) (by omega) dX11_looks_109 (fun v61 ev61 _ => ?_)
  replace E := zLet_s ev61 E
  refine as_145 X hI hv56 (by omega) (by omega) dX11_looks_110 (fun s62 es62 hI => ?_)
  replace E := zLet_s es62 E
  have g63 := (zSame.rf (o := a0) (Wf := []) (Wa := [145]) (L := L) (kd := kd) (σ := s53)).a ha0 hv56 es62 rfl (by decide)
  have hS := hS.tr g63 (by decide) (by decide)
  refine zg_aload_n X 0 rfl dX11_looks_111 ?_
  refine fg_X11_101 X hI ha0 dX11_looks_112 (fun v65 ev65 hv65 => ?_)
  replace E := zLet_s (zgr ev65) E
  refine zg_bipush X 7 dX11_looks_115 (by decide) (fun v66 _ hv66 => ?_)
  replace E := zLet_s (zcst hv66 (by decide)) E
  refine zg_iload_n X 1 rfl dX11_looks_117 ?_
  refine as_145 X hI hv65 (by omega) (by omega) dX11_looks_118 (fun s67 es67 hI => ?_)
  replace E := zLet_s es67 E
  have g68 := (zSame.rf (o := a0) (Wf := []) (Wa := [145]) (L := L) (kd := kd) (σ := s62)).a ha0 hv65 es67 rfl (by decide)
  have hS := hS.tr g68 (by decide) (by decide)
  refine zg_aload_n X 0 rfl dX11_looks_119 ?_
  refine fg_X11_101 X hI ha0 dX11_looks_120 (fun v70 ev70 hv70 => ?_)
  replace E := zLet_s (zgr ev70) E
  refine zg_bipush X 8 dX11_looks_123 (by decide) (fun v71 _ hv71 => ?_)
  replace E := zLet_s (zcst hv71 (by decide)) E
  refine zg_aload_n X 0 rfl dX11_looks_125 ?_
  refine fg_X11_119 X hI ha0 dX11_looks_126 (fun v72 ev72 hv72 => ?_)
  replace E := zLet_s (zgr ev72) E
  refine zg_iload_n X 1 rfl dX11_looks_129 ?_
  refine ag_154 X hI hv72 (by omega) (by omega) dX11_looks_130 (fun v73 ev73 _ => ?_)
  replace E := zLet_s ev73 E
  refine zg_cSi (As := [.int v73]) (st := [.int v71, .ref v70]) X (t_X11_bits l d L kd _ v73 ) mk_X11_345 mc_X11_bits mz_X11 ms_X11_bits (na := 1) ⟨md_X11.1, md_X11.2, by decide +kernel⟩ rfl ⟨by decide, by decide⟩ (Nat.le_of_ble_eq_true rfl) dX11_looks_131 (fun v74 σ2 hq => ?_)
  obtain ⟨⟨hF, hv74⟩, rfl⟩ := hq
  replace E := zLet_s hF E
  refine zg_iconst X 1 dX11_looks_134 (by decide) (fun v75 _ hv75 => ?_)
  replace E := zLet_s (zcst hv75 (by decide)) E
  refine zg_isubW X dX11_looks_135 (fun v76 ev76 => ?_)
  replace E := zLet_s ev76 E
  refine as_145 X hI hv70 (by omega) (by omega) dX11_looks_136 (fun s77 es77 hI => ?_)
  replace E := zLet_s es77 E
  have g78 := (zSame.rf (o := a0) (Wf := []) (Wa := [145]) (L := L) (kd := kd) (σ := s67)).a ha0 hv70 es77 rfl (by decide)
  have hS := hS.tr g78 (by decide) (by decide)
  exact ret _ _ _ dX11_looks_137 ⟨E.symm.trans hR, ⟨hI, hS⟩⟩
set_option maxHeartbeats 4000000 in
set_option maxRecDepth 100000 in
theorem t_X11_termOf (l : Launch) (d : zD2) (L : List Nat) (kd : Nat → Nat) (κ : Int) (σ : zS) (hI : zJ κ L kd σ) (a0 : Nat) (ha0 : zT L kd a0 11) (p1 : Int32) (p2 : Int32) (hq0 : gCod (zp a0 σ 39) (zp a0 σ 40) p1.toInt p2.toInt) : zMi l yX11_termOf (Cond.code yX11_termOf cX11_termOf 8 (some .int) :: zWL) 0 [.ref a0, .int p1, .int p2] d L kd σ (fun v σ2 => (v, σ2) = F_X11_termOf a0 p1 p2 σ ∧ (zJ κ L kd σ2 ∧ zSame a0 [47] [146] L kd σ σ2)) := by
  refine zMi.of (own := RX11) (by decide +kernel) rfl rfl (Nat.le_of_ble_eq_true rfl) ?_
  intro p e s m args below meth c A Q X ret
  have hS : zSame a0 [47] [146] L kd σ σ := zSame.rf
  refine zg_lv (lv2 := [(0, .ref a0), (1, .int p1), (2, .int p2)]) rfl ?_
  have z0 := hq0.2.2.1
  have z1 := hq0.1
  have z2 := hq0.2.1
  obtain ⟨R, hR⟩ : ∃ R, R = F_X11_termOf a0 p1 p2 σ := ⟨_, rfl⟩
  have E := hR
  unfold F_X11_termOf at E
  refine zg_iconst X 0 dX11_termOf_0 (by decide) (fun v1 _ hv1 => ?_)
  replace E := zLet_s (zcst hv1 (by decide)) E
  refine zg_istore_n X [(3, .int v1), (0, .ref a0), (1, .int p1), (2, .int p2)] dX11_termOf_1 (by decide) rfl ?_
  have zd : gDep (zp a0 σ 39) p1.toInt (p1.toInt - p1.toInt).toNat = 0 := by rw [Int.sub_self]; rfl
  refine zg_iload_n X 2 rfl dX11_termOf_2 ?_
  refine zg_istore X [(4, .int p1), (3, .int v1), (0, .ref a0), (1, .int p1), (2, .int p2)] dX11_termOf_3 (by decide) rfl ?_
  have Lp4 : ∀ (nLp4 : Nat) (τ4 : zS) (x2 : Int32) (x3 : Int32), zJ κ L kd τ4 → zSame a0 [47] [146] L kd σ τ4 → zp a0 τ4 39 = zp a0 σ 39 → zp a0 τ4 40 = zp a0 σ 40 → R = F_X11_termOf_5 a0 p1 p2  nLp4 x2 x3 τ4 → 0 ≤ x3.toInt ∧ x3.toInt ≤ 400 ∧ 0 ≤ x2.toInt ∧ x2.toInt ≤ 840 ∧ p1.toInt ≤ x2.toInt ∧ x2.toInt ≤ p2.toInt ∧ x3.toInt = gDep (zp a0 σ 39) p1.toInt (x2.toInt - p1.toInt).toNat → p2.toInt - x2.toInt + 1 < (nLp4 : Int) → zG d L kd A 8 p l e (k2_rm 0 (100 * 0)) s m args below meth c Q τ4 5 [(4, .int x2), (3, .int x3), (0, .ref a0), (1, .int p1), (2, .int p2)] [] := by
    intro nLp4
    induction nLp4 with
    | zero => intro τ4 x2 x3 hI hS A39_Lp4 A40_Lp4 E  hxLp4 hm ; exact absurd hm (by omega)
    | succ nLp4 ihLp4 =>
      intro τ4 x2 x3 hI hS A39_Lp4 A40_Lp4 E  hxLp4 hmLp4 
      rw [F_X11_termOf_5] at E
      refine zg_iload X 0 rfl dX11_termOf_5 ?_
      refine zg_iload_n X 4 rfl dX11_termOf_7 ?_
      refine zg_icmp_ge X 165 dX11_termOf_8 (by decide) (fun c5 => ?_) (fun c5 => ?_)
      · skip
        replace E := zIf_f (Int.not_lt.mpr c5) E
        refine zg_aload_n X 2 rfl dX11_termOf_165 ?_
        refine fg_X11_104 X hI ha0 dX11_termOf_166 (fun v6 ev6 hv6 => ?_)
        replace E := zLet_s (zgr ev6) E
        refine zg_iconst X 0 dX11_termOf_169 (by decide) (fun v7 _ hv7 => ?_)
        replace E := zLet_s (zcst hv7 (by decide)) E
        refine ag_146 X hI hv6 (by omega) (by omega) dX11_termOf_170 (fun v8 ev8 _ => ?_)
        replace E := zLet_s ev8 E
        exact ret _ _ _ _ dX11_termOf_171 rfl ⟨E.symm.trans hR, ⟨hI, hS⟩⟩
      · skip
        replace E := zIf_t c5 E
        refine zg_aload_n X 2 rfl dX11_termOf_11 ?_
        refine fg_X11_92 X hI ha0 dX11_termOf_12 (fun v9 ev9 hv9 => ?_)
        replace E := zLet_s (zgr ev9) E
        refine zg_iload X 0 rfl dX11_termOf_15 ?_
        refine ag_139 X hI hv9 (by omega) (by omega) dX11_termOf_17 (fun v10 ev10 _ => ?_)
        replace E := zLet_s ev10 E
        have qv10 := zp_ld ev9 ev10
        rw [A39_Lp4] at qv10
        have zc := gCod_at hq0 (c := x2.toInt) (by omega) (by omega)
        refine zg_istore X [(5, .int v10), (4, .int x2), (3, .int x3), (0, .ref a0), (1, .int p1), (2, .int p2)] dX11_termOf_18 (by decide) rfl ?_
        refine zg_iload X 0 rfl dX11_termOf_20 ?_
        refine zg_iconst X 2 dX11_termOf_22 (by decide) (fun v11 _ hv11 => ?_)
        replace E := zLet_s (zcst hv11 (by decide)) E
        have zv10_z12 := zb_rng v10
        refine zg_icmp_ge X 65 dX11_termOf_23 (by decide) (fun c13 => ?_) (fun c13 => ?_)
        · skip
          replace E := zIf_f (Int.not_lt.mpr c13) E
          refine zg_iinc X (-1) (fun v14 => [(3, .int v14), (5, .int v10), (4, .int x2), (0, .ref a0), (1, .int p1), (2, .int p2)]) 2 dX11_termOf_65 rfl (by decide) (by decide) (by omega) (by omega) (fun _ => rfl) (fun v14 ev14 hv14 => ?_)
          replace E := zLet_s (zinc ev14 (by decide)) E
          refine zg_aload_n X 3 rfl dX11_termOf_68 ?_
          refine fg_X11_104 X hI ha0 dX11_termOf_69 (fun v15 ev15 hv15 => ?_)
          replace E := zLet_s (zgr ev15) E
          refine zg_iload_n X 0 rfl dX11_termOf_72 ?_
          refine zg_iconst X 1 dX11_termOf_73 (by decide) (fun v16 _ hv16 => ?_)
          replace E := zLet_s (zcst hv16 (by decide)) E
          refine zg_isub X dX11_termOf_74 (by omega) (by omega) (fun v17 ev17 hv17 => ?_)
          replace E := zLet_s ev17 E
          refine ag_146 X hI hv15 (by omega) (by omega) dX11_termOf_75 (fun v18 ev18 _ => ?_)
          replace E := zLet_s ev18 E
          refine zg_istore X [(6, .int v18), (3, .int v14), (5, .int v10), (4, .int x2), (0, .ref a0), (1, .int p1), (2, .int p2)] dX11_termOf_76 (by decide) rfl ?_
          refine zg_aload_n X 4 rfl dX11_termOf_78 ?_
          refine fg_X11_104 X hI ha0 dX11_termOf_79 (fun v19 ev19 hv19 => ?_)
          replace E := zLet_s (zgr ev19) E
          refine zg_iload_n X 1 rfl dX11_termOf_82 ?_
          refine ag_146 X hI hv19 (by omega) (by omega) dX11_termOf_83 (fun v20 ev20 _ => ?_)
          replace E := zLet_s ev20 E
          refine zg_istore X [(7, .int v20), (6, .int v18), (3, .int v14), (5, .int v10), (4, .int x2), (0, .ref a0), (1, .int p1), (2, .int p2)] dX11_termOf_84 (by decide) rfl ?_
          refine zg_iload X 3 rfl dX11_termOf_86 ?_
          refine zg_iconst X 5 dX11_termOf_88 (by decide) (fun v21 _ hv21 => ?_)
          replace E := zLet_s (zcst hv21 (by decide)) E
          refine zg_icmp_ne X 104 dX11_termOf_89 (by decide) (fun c22 => ?_) (fun c22 => ?_)
          · skip
            replace E := zIf_f c22 E
            refine zg_aload_n X 5 rfl dX11_termOf_104 ?_
            refine fg_X11_104 X hI ha0 dX11_termOf_105 (fun v23 ev23 hv23 => ?_)
            replace E := zLet_s (zgr ev23) E
            refine zg_iload_n X 2 rfl dX11_termOf_108 ?_
            refine zg_iconst X 1 dX11_termOf_109 (by decide) (fun v24 _ hv24 => ?_)
            replace E := zLet_s (zcst hv24 (by decide)) E
            refine zg_isub X dX11_termOf_110 (by omega) (by omega) (fun v25 ev25 hv25 => ?_)
            replace E := zLet_s ev25 E
            refine zg_iload X 3 rfl dX11_termOf_111 ?_
            refine zg_iconst X 2 dX11_termOf_113 (by decide) (fun v26 _ hv26 => ?_)
            replace E := zLet_s (zcst hv26 (by decide)) E
            refine zg_icmp_ne X 125 dX11_termOf_114 (by decide) (fun c27 => ?_) (fun c27 => ?_)
            · skip
              replace E := zIf_f c27 E
              refine zg_iload X 3 rfl dX11_termOf_125 ?_
              refine zg_iconst X 3 dX11_termOf_127 (by decide) (fun v28 _ hv28 => ?_)
              replace E := zLet_s (zcst hv28 (by decide)) E
              refine zg_icmp_ne X 139 dX11_termOf_128 (by decide) (fun c29 => ?_) (fun c29 => ?_)
              · skip
                replace E := zIf_f c29 E
                refine zg_iload X 3 rfl dX11_termOf_139 ?_
                refine zg_iconst X 4 dX11_termOf_141 (by decide) (fun v30 _ hv30 => ?_)
                replace E := zLet_s (zcst hv30 (by decide)) E
                refine zg_icmp_ne X 153 dX11_termOf_142 (by decide) (fun c31 => ?_) (fun c31 => ?_)
                · skip
                  replace E := zIf_f c31 E
                  refine zg_iload X 1 rfl dX11_termOf_153 ?_
                  refine zg_iload X 0 rfl dX11_termOf_155 ?_
                  refine zg_idivW X dX11_termOf_157 (by omega) (fun v32 ev32 => ?_)
                  replace E := zLet_s ev32 E
                  refine as_146 X hI hv23 (by omega) (by omega) dX11_termOf_158 (fun s33 es33 hI => ?_)
                  replace E := zLet_s es33 E
                  have g34 := (zSame.rf (o := a0) (Wf := []) (Wa := [146]) (L := L) (kd := kd) (σ := τ4)).a ha0 hv23 es33 rfl (by decide)
                  have hS := hS.tr g34 (by decide) (by decide)
                  have as33_39 := (zp_same hI ha0 g34 39 rfl (by decide) (by decide)).trans A39_Lp4
                  have as33_40 := (zp_same hI ha0 g34 40 rfl (by decide) (by decide)).trans A40_Lp4
                  refine zg_iinc X 1 (fun v35 => [(4, .int v35), (7, .int v20), (6, .int v18), (3, .int v14), (5, .int v10), (0, .ref a0), (1, .int p1), (2, .int p2)]) 4 dX11_termOf_159 rfl (by decide) (by decide) (by omega) (by omega) (fun _ => rfl) (fun v35 ev35 hv35 => ?_)
                  replace E := zLet_s (zinc ev35 (by decide)) E
                  rw [← hv35] at zc
                  refine zg_goto X 5 dX11_termOf_162 (by decide) ?_
                  refine zg_sub [0, 3, 5, 6, 7] rfl ?_
                  exact ihLp4 _ v35 v14 hI hS as33_39 as33_40 E  (by omega) (by omega) 
                · skip
                  replace E := zIf_t c31 E
                  refine zg_iload X 1 rfl dX11_termOf_145 ?_
                  refine zg_iload X 0 rfl dX11_termOf_147 ?_
                  refine zg_imulW X dX11_termOf_149 (fun v36 ev36 => ?_)
                  replace E := zLet_s ev36 E
                  refine zg_goto X 158 dX11_termOf_150 (by decide) ?_
                  refine as_146 X hI hv23 (by omega) (by omega) dX11_termOf_158 (fun s37 es37 hI => ?_)
                  replace E := zLet_s es37 E
                  have g38 := (zSame.rf (o := a0) (Wf := []) (Wa := [146]) (L := L) (kd := kd) (σ := τ4)).a ha0 hv23 es37 rfl (by decide)
                  have hS := hS.tr g38 (by decide) (by decide)
                  have as37_39 := (zp_same hI ha0 g38 39 rfl (by decide) (by decide)).trans A39_Lp4
                  have as37_40 := (zp_same hI ha0 g38 40 rfl (by decide) (by decide)).trans A40_Lp4
                  refine zg_iinc X 1 (fun v39 => [(4, .int v39), (7, .int v20), (6, .int v18), (3, .int v14), (5, .int v10), (0, .ref a0), (1, .int p1), (2, .int p2)]) 4 dX11_termOf_159 rfl (by decide) (by decide) (by omega) (by omega) (fun _ => rfl) (fun v39 ev39 hv39 => ?_)
                  replace E := zLet_s (zinc ev39 (by decide)) E
                  rw [← hv39] at zc
                  refine zg_goto X 5 dX11_termOf_162 (by decide) ?_
                  refine zg_sub [0, 3, 5, 6, 7] rfl ?_
                  exact ihLp4 _ v39 v14 hI hS as37_39 as37_40 E  (by omega) (by omega) 
              · skip
                replace E := zIf_t c29 E
                refine zg_iload X 1 rfl dX11_termOf_131 ?_
                refine zg_iload X 0 rfl dX11_termOf_133 ?_
                refine zg_isubW X dX11_termOf_135 (fun v40 ev40 => ?_)
                replace E := zLet_s ev40 E
                refine zg_goto X 158 dX11_termOf_136 (by decide) ?_
                refine as_146 X hI hv23 (by omega) (by omega) dX11_termOf_158 (fun s41 es41 hI => ?_)
                replace E := zLet_s es41 E
                have g42 := (zSame.rf (o := a0) (Wf := []) (Wa := [146]) (L := L) (kd := kd) (σ := τ4)).a ha0 hv23 es41 rfl (by decide)
                have hS := hS.tr g42 (by decide) (by decide)
                have as41_39 := (zp_same hI ha0 g42 39 rfl (by decide) (by decide)).trans A39_Lp4
                have as41_40 := (zp_same hI ha0 g42 40 rfl (by decide) (by decide)).trans A40_Lp4
                refine zg_iinc X 1 (fun v43 => [(4, .int v43), (7, .int v20), (6, .int v18), (3, .int v14), (5, .int v10), (0, .ref a0), (1, .int p1), (2, .int p2)]) 4 dX11_termOf_159 rfl (by decide) (by decide) (by omega) (by omega) (fun _ => rfl) (fun v43 ev43 hv43 => ?_)
                replace E := zLet_s (zinc ev43 (by decide)) E
                rw [← hv43] at zc
                refine zg_goto X 5 dX11_termOf_162 (by decide) ?_
                refine zg_sub [0, 3, 5, 6, 7] rfl ?_
                exact ihLp4 _ v43 v14 hI hS as41_39 as41_40 E  (by omega) (by omega) 
            · skip
              replace E := zIf_t c27 E
              refine zg_iload X 1 rfl dX11_termOf_117 ?_
              refine zg_iload X 0 rfl dX11_termOf_119 ?_
              refine zg_iaddW X dX11_termOf_121 (fun v44 ev44 => ?_)
              replace E := zLet_s ev44 E
              refine zg_goto X 158 dX11_termOf_122 (by decide) ?_
              refine as_146 X hI hv23 (by omega) (by omega) dX11_termOf_158 (fun s45 es45 hI => ?_)
              replace E := zLet_s es45 E
              have g46 := (zSame.rf (o := a0) (Wf := []) (Wa := [146]) (L := L) (kd := kd) (σ := τ4)).a ha0 hv23 es45 rfl (by decide)
              have hS := hS.tr g46 (by decide) (by decide)
              have as45_39 := (zp_same hI ha0 g46 39 rfl (by decide) (by decide)).trans A39_Lp4
              have as45_40 := (zp_same hI ha0 g46 40 rfl (by decide) (by decide)).trans A40_Lp4
              refine zg_iinc X 1 (fun v47 => [(4, .int v47), (7, .int v20), (6, .int v18), (3, .int v14), (5, .int v10), (0, .ref a0), (1, .int p1), (2, .int p2)]) 4 dX11_termOf_159 rfl (by decide) (by decide) (by omega) (by omega) (fun _ => rfl) (fun v47 ev47 hv47 => ?_)
              replace E := zLet_s (zinc ev47 (by decide)) E
              rw [← hv47] at zc
              refine zg_goto X 5 dX11_termOf_162 (by decide) ?_
              refine zg_sub [0, 3, 5, 6, 7] rfl ?_
              exact ihLp4 _ v47 v14 hI hS as45_39 as45_40 E  (by omega) (by omega) 
          · skip
            replace E := zIf_t c22 E
            refine zg_iload X 0 rfl dX11_termOf_92 ?_
            refine zg_if_ne X 104 dX11_termOf_94 (by decide) (fun c48 => ?_) (fun c48 => ?_)
            · skip
              replace E := zIf_f c48 E
              refine zg_aload_n X 5 rfl dX11_termOf_104 ?_
              refine fg_X11_104 X hI ha0 dX11_termOf_105 (fun v49 ev49 hv49 => ?_)
              replace E := zLet_s (zgr ev49) E
              refine zg_iload_n X 2 rfl dX11_termOf_108 ?_
              refine zg_iconst X 1 dX11_termOf_109 (by decide) (fun v50 _ hv50 => ?_)
              replace E := zLet_s (zcst hv50 (by decide)) E
              refine zg_isub X dX11_termOf_110 (by omega) (by omega) (fun v51 ev51 hv51 => ?_)
              replace E := zLet_s ev51 E
              refine zg_iload X 3 rfl dX11_termOf_111 ?_
              refine zg_iconst X 2 dX11_termOf_113 (by decide) (fun v52 _ hv52 => ?_)
              replace E := zLet_s (zcst hv52 (by decide)) E
              refine zg_icmp_ne X 125 dX11_termOf_114 (by decide) (fun c53 => ?_) (fun c53 => ?_)
              · skip
                replace E := zIf_f c53 E
                refine zg_iload X 3 rfl dX11_termOf_125 ?_
                refine zg_iconst X 3 dX11_termOf_127 (by decide) (fun v54 _ hv54 => ?_)
                replace E := zLet_s (zcst hv54 (by decide)) E
                refine zg_icmp_ne X 139 dX11_termOf_128 (by decide) (fun c55 => ?_) (fun c55 => ?_)
                · skip
                  replace E := zIf_f c55 E
                  refine zg_iload X 3 rfl dX11_termOf_139 ?_
                  refine zg_iconst X 4 dX11_termOf_141 (by decide) (fun v56 _ hv56 => ?_)
                  replace E := zLet_s (zcst hv56 (by decide)) E
                  refine zg_icmp_ne X 153 dX11_termOf_142 (by decide) (fun c57 => ?_) (fun c57 => ?_)
                  · skip
                    replace E := zIf_f c57 E
                    refine zg_iload X 1 rfl dX11_termOf_153 ?_
                    refine zg_iload X 0 rfl dX11_termOf_155 ?_
                    refine zg_idivW X dX11_termOf_157 (by omega) (fun v58 ev58 => ?_)
                    replace E := zLet_s ev58 E
                    refine as_146 X hI hv49 (by omega) (by omega) dX11_termOf_158 (fun s59 es59 hI => ?_)
                    replace E := zLet_s es59 E
                    have g60 := (zSame.rf (o := a0) (Wf := []) (Wa := [146]) (L := L) (kd := kd) (σ := τ4)).a ha0 hv49 es59 rfl (by decide)
                    have hS := hS.tr g60 (by decide) (by decide)
                    have as59_39 := (zp_same hI ha0 g60 39 rfl (by decide) (by decide)).trans A39_Lp4
                    have as59_40 := (zp_same hI ha0 g60 40 rfl (by decide) (by decide)).trans A40_Lp4
                    refine zg_iinc X 1 (fun v61 => [(4, .int v61), (7, .int v20), (6, .int v18), (3, .int v14), (5, .int v10), (0, .ref a0), (1, .int p1), (2, .int p2)]) 4 dX11_termOf_159 rfl (by decide) (by decide) (by omega) (by omega) (fun _ => rfl) (fun v61 ev61 hv61 => ?_)
                    replace E := zLet_s (zinc ev61 (by decide)) E
                    rw [← hv61] at zc
                    refine zg_goto X 5 dX11_termOf_162 (by decide) ?_
                    refine zg_sub [0, 3, 5, 6, 7] rfl ?_
                    exact ihLp4 _ v61 v14 hI hS as59_39 as59_40 E  (by omega) (by omega) 
                  · omega
                · omega
              · omega
            · skip
              replace E := zIf_t c48 E
              refine zg_aload_n X 5 rfl dX11_termOf_97 ?_
              refine zg_iconst X 1 dX11_termOf_98 (by decide) (fun v62 _ hv62 => ?_)
              replace E := zLet_s (zcst hv62 (by decide)) E
              refine fp_X11_310 X hI ha0 ⟨by omega, by omega⟩ dX11_termOf_99 (fun s63 es63 hI => ?_)
              replace E := zLet_s es63 E
              have g64 := (zSame.rf (o := a0) (Wf := [47]) (Wa := []) (L := L) (kd := kd) (σ := τ4)).f ha0 es63 rfl
              have hS := hS.tr g64 (by decide) (by decide)
              have fs63_47 : (s63.1 a0 47).toInt = v62.toInt := by rw [es63]; exact congrArg _ (zu_s _ _ _ _)
              have e65 : v62 = s63.1 a0 47 := by rw [es63]; exact zm_s
              refine zg_iconst X 0 dX11_termOf_102 (by decide) (fun v66 _ hv66 => ?_)
              replace E := zLet_s (zcst hv66 (by decide)) E
              exact ret _ _ _ _ dX11_termOf_103 rfl ⟨E.symm.trans hR, ⟨hI, hS⟩⟩
        · skip
          replace E := zIf_t c13 E
          refine zg_aload_n X 3 rfl dX11_termOf_26 ?_
          refine fg_X11_104 X hI ha0 dX11_termOf_27 (fun v67 ev67 hv67 => ?_)
          replace E := zLet_s (zgr ev67) E
          refine zg_iload_n X 2 rfl dX11_termOf_30 ?_
          refine zg_iload X 0 rfl dX11_termOf_31 ?_
          refine zg_if_ne X 46 dX11_termOf_33 (by decide) (fun c68 => ?_) (fun c68 => ?_)
          · skip
            replace E := zIf_f c68 E
            refine zg_aload_n X 3 rfl dX11_termOf_46 ?_
            refine fg_X11_101 X hI ha0 dX11_termOf_47 (fun v69 ev69 hv69 => ?_)
            replace E := zLet_s (zgr ev69) E
            refine zg_aload_n X 3 rfl dX11_termOf_50 ?_
            refine fg_X11_95 X hI ha0 dX11_termOf_51 (fun v70 ev70 hv70 => ?_)
            replace E := zLet_s (zgr ev70) E
            refine zg_iload X 1 rfl dX11_termOf_54 ?_
            refine ag_140 X hI hv70 (by omega) (by omega) dX11_termOf_56 (fun v71 ev71 _ => ?_)
            replace E := zLet_s ev71 E
            have qv71 := zp_ld ev70 ev71
            rw [A40_Lp4] at qv71
            refine ag_145 X hI hv69 (by omega) (by omega) dX11_termOf_57 (fun v72 ev72 _ => ?_)
            replace E := zLet_s ev72 E
            refine as_146 X hI hv67 (by omega) (by omega) dX11_termOf_58 (fun s73 es73 hI => ?_)
            replace E := zLet_s es73 E
            have g74 := (zSame.rf (o := a0) (Wf := []) (Wa := [146]) (L := L) (kd := kd) (σ := τ4)).a ha0 hv67 es73 rfl (by decide)
            have hS := hS.tr g74 (by decide) (by decide)
            have as73_39 := (zp_same hI ha0 g74 39 rfl (by decide) (by decide)).trans A39_Lp4
            have as73_40 := (zp_same hI ha0 g74 40 rfl (by decide) (by decide)).trans A40_Lp4
            refine zg_iinc X 1 (fun v75 => [(3, .int v75), (5, .int v10), (4, .int x2), (0, .ref a0), (1, .int p1), (2, .int p2)]) 2 dX11_termOf_59 rfl (by decide) (by decide) (by omega) (by omega) (fun _ => rfl) (fun v75 ev75 hv75 => ?_)
            replace E := zLet_s (zinc ev75 (by decide)) E
            refine zg_goto X 159 dX11_termOf_62 (by decide) ?_
            refine zg_iinc X 1 (fun v76 => [(4, .int v76), (3, .int v75), (5, .int v10), (0, .ref a0), (1, .int p1), (2, .int p2)]) 2 dX11_termOf_159 rfl (by decide) (by decide) (by omega) (by omega) (fun _ => rfl) (fun v76 ev76 hv76 => ?_)
            replace E := zLet_s (zinc ev76 (by decide)) E
            rw [← hv76] at zc
            refine zg_goto X 5 dX11_termOf_162 (by decide) ?_
            refine zg_sub [0, 1, 3, 4, 5] rfl ?_
            exact ihLp4 _ v76 v75 hI hS as73_39 as73_40 E  (by omega) (by omega) 
          · skip
            replace E := zIf_t c68 E
            refine zg_aload_n X 3 rfl dX11_termOf_36 ?_
            refine fg_X11_95 X hI ha0 dX11_termOf_37 (fun v77 ev77 hv77 => ?_)
            replace E := zLet_s (zgr ev77) E
            refine zg_iload X 1 rfl dX11_termOf_40 ?_
            refine ag_140 X hI hv77 (by omega) (by omega) dX11_termOf_42 (fun v78 ev78 _ => ?_)
            replace E := zLet_s ev78 E
            have qv78 := zp_ld ev77 ev78
            rw [A40_Lp4] at qv78
            refine zg_goto X 58 dX11_termOf_43 (by decide) ?_
            refine as_146 X hI hv67 (by omega) (by omega) dX11_termOf_58 (fun s79 es79 hI => ?_)
            replace E := zLet_s es79 E
            have g80 := (zSame.rf (o := a0) (Wf := []) (Wa := [146]) (L := L) (kd := kd) (σ := τ4)).a ha0 hv67 es79 rfl (by decide)
            have hS := hS.tr g80 (by decide) (by decide)
            have as79_39 := (zp_same hI ha0 g80 39 rfl (by decide) (by decide)).trans A39_Lp4
            have as79_40 := (zp_same hI ha0 g80 40 rfl (by decide) (by decide)).trans A40_Lp4
            refine zg_iinc X 1 (fun v81 => [(3, .int v81), (5, .int v10), (4, .int x2), (0, .ref a0), (1, .int p1), (2, .int p2)]) 2 dX11_termOf_59 rfl (by decide) (by decide) (by omega) (by omega) (fun _ => rfl) (fun v81 ev81 hv81 => ?_)
            replace E := zLet_s (zinc ev81 (by decide)) E
            refine zg_goto X 159 dX11_termOf_62 (by decide) ?_
            refine zg_iinc X 1 (fun v82 => [(4, .int v82), (3, .int v81), (5, .int v10), (0, .ref a0), (1, .int p1), (2, .int p2)]) 2 dX11_termOf_159 rfl (by decide) (by decide) (by omega) (by omega) (fun _ => rfl) (fun v82 ev82 hv82 => ?_)
            replace E := zLet_s (zinc ev82 (by decide)) E
            rw [← hv82] at zc
            refine zg_goto X 5 dX11_termOf_162 (by decide) ?_
            refine zg_sub [0, 1, 3, 4, 5] rfl ?_
            exact ihLp4 _ v82 v81 hI hS as79_39 as79_40 E  (by omega) (by omega) 
  refine zg_sub [0, 1, 2, 3, 4] rfl ?_
  exact Lp4 10000 _ p1 v1 hI hS rfl rfl E  (by omega) (by omega) 
set_option maxHeartbeats 4000000 in
set_option maxRecDepth 100000 in
theorem t_X11_lawTells (l : Launch) (d : zD2) (L : List Nat) (kd : Nat → Nat) (κ : Int) (σ : zS) (hI : zJ κ L kd σ) (a0 : Nat) (ha0 : zT L kd a0 11) (p1 : Int32) (p2 : Int32) (hq0 : 0 ≤ p1.toInt ∧ p1.toInt ≤ 4) (hgL : gL a0 σ) : zMi l yX11_lawTells (Cond.code yX11_lawTells cX11_lawTells 7 (some .int) :: zWL) 1 [.ref a0, .int p1, .int p2] d L kd σ (fun v σ2 => (v, σ2) = F_X11_lawTells a0 p1 p2 σ ∧ (zJ κ L kd σ2 ∧ zSame a0 [47] [146] L kd σ σ2)) := by
  refine zMi.of (own := RX11) (by decide +kernel) rfl rfl (Nat.le_of_ble_eq_true rfl) ?_
  intro p e s m args below meth c A Q X ret
  have hS : zSame a0 [47] [146] L kd σ σ := zSame.rf
  refine zg_lv (lv2 := [(0, .ref a0), (1, .int p1), (2, .int p2)]) rfl ?_
  obtain ⟨R, hR⟩ : ∃ R, R = F_X11_lawTells a0 p1 p2 σ := ⟨_, rfl⟩
  have E := hR
  unfold F_X11_lawTells at E
  refine zg_iconst X 5 dX11_lawTells_0 (by decide) (fun v1 _ hv1 => ?_)
  replace E := zLet_s (zcst hv1 (by decide)) E
  refine zg_aload_n X 0 rfl dX11_lawTells_1 ?_
  refine fg_X11_236 X hI ha0 dX11_lawTells_2 (fun v2 ev2 hv2 => ?_)
  replace E := zLet_s ev2 E
  have kv2 : (σ.1 a0 18).toInt = v2.toInt := by rw [ev2]
  refine zg_imulc X 5 dX11_lawTells_5 (by omega) (by omega) (by omega) (fun v3 ev3 hv3 => ?_)
  replace E := zLet_s ev3 E
  refine zg_iload_n X 1 rfl dX11_lawTells_6 ?_
  refine zg_iadd X dX11_lawTells_7 (by omega) (by omega) (fun v4 ev4 hv4 => ?_)
  replace E := zLet_s ev4 E
  refine zg_istore_n X [(3, .int v4), (0, .ref a0), (1, .int p1), (2, .int p2)] dX11_lawTells_8 (by decide) rfl ?_
  refine zg_aload_n X 1 rfl dX11_lawTells_9 ?_
  refine fg_X11_70 X hI ha0 dX11_lawTells_10 (fun v5 ev5 hv5 => ?_)
  replace E := zLet_s (zgr ev5) E
  refine zg_iload_n X 0 rfl dX11_lawTells_13 ?_
  refine ag_130 X hI hv5 (by omega) (by omega) dX11_lawTells_14 (fun v6 ev6 _ => ?_)
  replace E := zLet_s ev6 E
  have qv6 := zp_ld ev5 ev6
  refine zg_aload_n X 1 rfl dX11_lawTells_15 ?_
  refine fg_X11_73 X hI ha0 dX11_lawTells_16 (fun v7 ev7 hv7 => ?_)
  replace E := zLet_s (zgr ev7) E
  refine zg_iload_n X 0 rfl dX11_lawTells_19 ?_
  refine ag_131 X hI hv7 (by omega) (by omega) dX11_lawTells_20 (fun v8 ev8 _ => ?_)
  replace E := zLet_s ev8 E
  have qv8 := zp_ld ev7 ev8
  refine zg_icmp_ne X 26 dX11_lawTells_21 (by decide) (fun c9 => ?_) (fun c9 => ?_)
  · skip
    replace E := zIf_f c9 E
    refine zg_aload_n X 1 rfl dX11_lawTells_26 ?_
    refine zg_iconst X 0 dX11_lawTells_27 (by decide) (fun v10 _ hv10 => ?_)
    replace E := zLet_s (zcst hv10 (by decide)) E
    refine fp_X11_310 X hI ha0 ⟨by omega, by omega⟩ dX11_lawTells_28 (fun s11 es11 hI => ?_)
    replace E := zLet_s es11 E
    have g12 := (zSame.rf (o := a0) (Wf := [47]) (Wa := []) (L := L) (kd := kd) (σ := σ)).f ha0 es11 rfl
    have fs11_18 : (s11.1 a0 18).toInt = (σ.1 a0 18).toInt := by rw [g12.2.1 18 (by decide)]
    have hS := hS.tr g12 (by decide) (by decide)
    have as11_30 := zp_same hI ha0 g12 30 rfl (by decide) (by decide)
    have as11_31 := zp_same hI ha0 g12 31 rfl (by decide) (by decide)
    have as11_33 := zp_same hI ha0 g12 33 rfl (by decide) (by decide)
    have as11_34 := zp_same hI ha0 g12 34 rfl (by decide) (by decide)
    have as11_35 := zp_same hI ha0 g12 35 rfl (by decide) (by decide)
    have as11_36 := zp_same hI ha0 g12 36 rfl (by decide) (by decide)
    have as11_37 := zp_same hI ha0 g12 37 rfl (by decide) (by decide)
    have as11_39 := zp_same hI ha0 g12 39 rfl (by decide) (by decide)
    have as11_40 := zp_same hI ha0 g12 40 rfl (by decide) (by decide)
    have gLs11 := gL.same hI ha0 g12 (by decide) hgL
    have fs11_47 : (s11.1 a0 47).toInt = v10.toInt := by rw [es11]; exact congrArg _ (zu_s _ _ _ _)
    have e14 : v10 = s11.1 a0 47 := by rw [es11]; exact zm_s
    refine zg_aload_n X 1 rfl dX11_lawTells_31 ?_
    refine fg_X11_70 X hI ha0 dX11_lawTells_32 (fun v15 ev15 hv15 => ?_)
    replace E := zLet_s (zgr ev15) E
    refine zg_iload_n X 0 rfl dX11_lawTells_35 ?_
    refine ag_130 X hI hv15 (by omega) (by omega) dX11_lawTells_36 (fun v16 ev16 _ => ?_)
    replace E := zLet_s ev16 E
    have qv16 := zp_ld ev15 ev16
    rw [as11_30] at qv16
    refine zg_istore X [(4, .int v16), (3, .int v4), (0, .ref a0), (1, .int p1), (2, .int p2)] dX11_lawTells_37 (by decide) rfl ?_
    have Lp18 : ∀ (nLp18 : Nat) (τ18 : zS) (x17 : Int32), zJ κ L kd τ18 → zSame a0 [47] [146] L kd σ τ18 → gL a0 τ18 → (τ18.1 a0 18).toInt = (σ.1 a0 18).toInt → zp a0 τ18 30 = zp a0 σ 30 → zp a0 τ18 31 = zp a0 σ 31 → zp a0 τ18 33 = zp a0 σ 33 → zp a0 τ18 34 = zp a0 σ 34 → zp a0 τ18 35 = zp a0 σ 35 → zp a0 τ18 36 = zp a0 σ 36 → zp a0 τ18 37 = zp a0 σ 37 → zp a0 τ18 39 = zp a0 σ 39 → zp a0 τ18 40 = zp a0 σ 40 → R = F_X11_lawTells_39 v4 a0 p1 p2  nLp18 x17 τ18 → zp a0 σ 30 v4.toInt ≤ x17.toInt → max (zp a0 σ 31 v4.toInt - x17.toInt) 0 < (nLp18 : Int) → zG d L kd A 7 p l e (k2_rm 1 (100 * 1)) s m args below meth c Q τ18 39 [(4, .int x17), (3, .int v4), (0, .ref a0), (1, .int p1), (2, .int p2)] [] := by
      intro nLp18
      induction nLp18 with
      | zero => intro τ18 x17 hI hS gL_Lp18 T18_Lp18 A30_Lp18 A31_Lp18 A33_Lp18 A34_Lp18 A35_Lp18 A36_Lp18 A37_Lp18 A39_Lp18 A40_Lp18 E  hxLp18 hm ; exact absurd hm (by omega)
      | succ nLp18 ihLp18 =>
        intro τ18 x17 hI hS gL_Lp18 T18_Lp18 A30_Lp18 A31_Lp18 A33_Lp18 A34_Lp18 A35_Lp18 A36_Lp18 A37_Lp18 A39_Lp18 A40_Lp18 E  hxLp18 hmLp18 
        rw [F_X11_lawTells_39] at E
        refine zg_iload X 0 rfl dX11_lawTells_39 ?_
        refine zg_aload_n X 2 rfl dX11_lawTells_41 ?_
        refine fg_X11_73 X hI ha0 dX11_lawTells_42 (fun v19 ev19 hv19 => ?_)
        replace E := zLet_s (zgr ev19) E
        refine zg_iload_n X 1 rfl dX11_lawTells_45 ?_
        refine ag_131 X hI hv19 (by omega) (by omega) dX11_lawTells_46 (fun v20 ev20 _ => ?_)
        replace E := zLet_s ev20 E
        have qv20 := zp_ld ev19 ev20
        rw [A31_Lp18] at qv20
        have zx17_z21 := zb_rng x17
        have zv20_z22 := zb_rng v20
        refine zg_icmp_ge X 159 dX11_lawTells_47 (by decide) (fun c23 => ?_) (fun c23 => ?_)
        · skip
          replace E := zIf_f (Int.not_lt.mpr c23) E
          refine zg_iconst X 0 dX11_lawTells_159 (by decide) (fun v24 _ hv24 => ?_)
          replace E := zLet_s (zcst hv24 (by decide)) E
          exact ret _ _ _ _ dX11_lawTells_160 rfl ⟨E.symm.trans hR, ⟨hI, hS⟩⟩
        · skip
          replace E := zIf_t c23 E
          have zb := gL_at hgL (k := p1.toInt) (a := v4.toInt) (b := x17.toInt) (by omega) (by omega) (by omega) (by omega) (by omega) (by omega) (by omega)
          refine zg_aload_n X 2 rfl dX11_lawTells_50 ?_
          refine fg_X11_76 X hI ha0 dX11_lawTells_51 (fun v25 ev25 hv25 => ?_)
          replace E := zLet_s (zgr ev25) E
          refine zg_iload X 0 rfl dX11_lawTells_54 ?_
          refine ag_133 X hI hv25 (by omega) (by omega) dX11_lawTells_56 (fun v26 ev26 hv26 => ?_)
          replace E := zLet_s ev26 E
          have qv26 := zp_ld ev25 ev26
          rw [A33_Lp18] at qv26
          refine zg_if_eq X 119 dX11_lawTells_57 (by decide) (fun c27 => ?_) (fun c27 => ?_)
          · skip
            replace E := zIf_t c27 E
            refine zg_aload_n X 2 rfl dX11_lawTells_119 ?_
            refine zg_aload_n X 2 rfl dX11_lawTells_120 ?_
            refine fg_X11_86 X hI ha0 dX11_lawTells_121 (fun v28 ev28 hv28 => ?_)
            replace E := zLet_s (zgr ev28) E
            refine zg_iload X 0 rfl dX11_lawTells_124 ?_
            refine ag_136 X hI hv28 (by omega) (by omega) dX11_lawTells_126 (fun v29 ev29 _ => ?_)
            replace E := zLet_s ev29 E
            have qv29 := zp_ld ev28 ev29
            rw [A36_Lp18] at qv29
            refine zg_aload_n X 2 rfl dX11_lawTells_127 ?_
            refine fg_X11_89 X hI ha0 dX11_lawTells_128 (fun v30 ev30 hv30 => ?_)
            replace E := zLet_s (zgr ev30) E
            refine zg_iload X 0 rfl dX11_lawTells_131 ?_
            refine ag_137 X hI hv30 (by omega) (by omega) dX11_lawTells_133 (fun v31 ev31 _ => ?_)
            replace E := zLet_s ev31 E
            have qv31 := zp_ld ev30 ev31
            rw [A37_Lp18] at qv31
            refine zg_cVi (As := [.int v29, .int v31]) (st := []) X ha0 rfl (by decide) rfl (t_X11_termOf l d L kd κ _ hI a0 ha0 v29 v31  (by rw [A39_Lp18, A40_Lp18, qv29, qv31]; exact zb.2.2.1)) mk_X11_348 mc_X11_termOf mz_X11 mi_X11_termOf ml_X11_termOf (na := 2) ⟨md_X11.1, md_X11.2, by decide +kernel⟩ rfl ⟨by decide, by decide⟩ (Nat.le_of_ble_eq_true rfl) dX11_lawTells_134 (fun v33 t32 hq => ?_)
            obtain ⟨hF, hI, g34⟩ := hq
            replace E := zLet2_s hF E
            have ft32_18 : (t32.1 a0 18).toInt = (τ18.1 a0 18).toInt := by rw [g34.2.1 18 (by decide)]
            have hS := hS.tr g34 (by decide) (by decide)
            refine zg_istore X [(5, .int v33), (4, .int x17), (3, .int v4), (0, .ref a0), (1, .int p1), (2, .int p2)] dX11_lawTells_137 (by decide) rfl ?_
            refine zg_aload_n X 3 rfl dX11_lawTells_139 ?_
            refine fg_X11_310 X hI ha0 dX11_lawTells_140 (fun v35 ev35 hv35 => ?_)
            replace E := zLet_s ev35 E
            refine zg_if_eq X 150 dX11_lawTells_143 (by decide) (fun c36 => ?_) (fun c36 => ?_)
            · skip
              replace E := zIf_t c36 E
              refine zg_iload X 0 rfl dX11_lawTells_150 ?_
              exact ret _ _ _ _ dX11_lawTells_152 rfl ⟨E.symm.trans hR, ⟨hI, hS⟩⟩
            · skip
              replace E := zIf_f c36 E
              refine zg_iconst X 0 dX11_lawTells_146 (by decide) (fun v37 _ hv37 => ?_)
              replace E := zLet_s (zcst hv37 (by decide)) E
              refine zg_goto X 152 dX11_lawTells_147 (by decide) ?_
              exact ret _ _ _ _ dX11_lawTells_152 rfl ⟨E.symm.trans hR, ⟨hI, hS⟩⟩
          · skip
            replace E := zIf_f c27 E
            refine zg_aload_n X 2 rfl dX11_lawTells_60 ?_
            refine zg_aload_n X 2 rfl dX11_lawTells_61 ?_
            refine fg_X11_80 X hI ha0 dX11_lawTells_62 (fun v38 ev38 hv38 => ?_)
            replace E := zLet_s (zgr ev38) E
            refine zg_iload X 0 rfl dX11_lawTells_65 ?_
            refine ag_134 X hI hv38 (by omega) (by omega) dX11_lawTells_67 (fun v39 ev39 _ => ?_)
            replace E := zLet_s ev39 E
            have qv39 := zp_ld ev38 ev39
            rw [A34_Lp18] at qv39
            refine zg_aload_n X 2 rfl dX11_lawTells_68 ?_
            refine fg_X11_83 X hI ha0 dX11_lawTells_69 (fun v40 ev40 hv40 => ?_)
            replace E := zLet_s (zgr ev40) E
            refine zg_iload X 0 rfl dX11_lawTells_72 ?_
            refine ag_135 X hI hv40 (by omega) (by omega) dX11_lawTells_74 (fun v41 ev41 _ => ?_)
            replace E := zLet_s ev41 E
            have qv41 := zp_ld ev40 ev41
            rw [A35_Lp18] at qv41
            refine zg_cVi (As := [.int v39, .int v41]) (st := []) X ha0 rfl (by decide) rfl (t_X11_termOf l d L kd κ _ hI a0 ha0 v39 v41  (by rw [A39_Lp18, A40_Lp18, qv39, qv41]; exact (zb.2.1 (by omega)).1)) mk_X11_348 mc_X11_termOf mz_X11 mi_X11_termOf ml_X11_termOf (na := 2) ⟨md_X11.1, md_X11.2, by decide +kernel⟩ rfl ⟨by decide, by decide⟩ (Nat.le_of_ble_eq_true rfl) dX11_lawTells_75 (fun v43 t42 hq => ?_)
            obtain ⟨hF, hI, g44⟩ := hq
            replace E := zLet2_s hF E
            have ft42_18 : (t42.1 a0 18).toInt = (τ18.1 a0 18).toInt := by rw [g44.2.1 18 (by decide)]
            have hS := hS.tr g44 (by decide) (by decide)
            have at42_30 := (zp_same hI ha0 g44 30 rfl (by decide) (by decide)).trans A30_Lp18
            have at42_31 := (zp_same hI ha0 g44 31 rfl (by decide) (by decide)).trans A31_Lp18
            have at42_33 := (zp_same hI ha0 g44 33 rfl (by decide) (by decide)).trans A33_Lp18
            have at42_34 := (zp_same hI ha0 g44 34 rfl (by decide) (by decide)).trans A34_Lp18
            have at42_35 := (zp_same hI ha0 g44 35 rfl (by decide) (by decide)).trans A35_Lp18
            have at42_36 := (zp_same hI ha0 g44 36 rfl (by decide) (by decide)).trans A36_Lp18
            have at42_37 := (zp_same hI ha0 g44 37 rfl (by decide) (by decide)).trans A37_Lp18
            have at42_39 := (zp_same hI ha0 g44 39 rfl (by decide) (by decide)).trans A39_Lp18
            have at42_40 := (zp_same hI ha0 g44 40 rfl (by decide) (by decide)).trans A40_Lp18
            have gLt42 := gL.same hI ha0 g44 (by decide) gL_Lp18
            refine zg_istore X [(5, .int v43), (4, .int x17), (3, .int v4), (0, .ref a0), (1, .int p1), (2, .int p2)] dX11_lawTells_78 (by decide) rfl ?_
            refine zg_aload_n X 3 rfl dX11_lawTells_80 ?_
            refine zg_aload_n X 3 rfl dX11_lawTells_81 ?_
            refine fg_X11_83 X hI ha0 dX11_lawTells_82 (fun v45 ev45 hv45 => ?_)
            replace E := zLet_s (zgr ev45) E
            refine zg_iload X 1 rfl dX11_lawTells_85 ?_
            refine ag_135 X hI hv45 (by omega) (by omega) dX11_lawTells_87 (fun v46 ev46 _ => ?_)
            replace E := zLet_s ev46 E
            have qv46 := zp_ld ev45 ev46
            rw [at42_35] at qv46
            refine zg_aload_n X 3 rfl dX11_lawTells_88 ?_
            refine fg_X11_86 X hI ha0 dX11_lawTells_89 (fun v47 ev47 hv47 => ?_)
            replace E := zLet_s (zgr ev47) E
            refine zg_iload X 1 rfl dX11_lawTells_92 ?_
            refine ag_136 X hI hv47 (by omega) (by omega) dX11_lawTells_94 (fun v48 ev48 _ => ?_)
            replace E := zLet_s ev48 E
            have qv48 := zp_ld ev47 ev48
            rw [at42_36] at qv48
            refine zg_cVi (As := [.int v46, .int v48]) (st := []) X ha0 rfl (by decide) rfl (t_X11_termOf l d L kd κ _ hI a0 ha0 v46 v48  (by rw [at42_39, at42_40, qv46, qv48]; exact (zb.2.1 (by omega)).2.1)) mk_X11_348 mc_X11_termOf mz_X11 mi_X11_termOf ml_X11_termOf (na := 2) ⟨md_X11.1, md_X11.2, by decide +kernel⟩ rfl ⟨by decide, by decide⟩ (Nat.le_of_ble_eq_true rfl) dX11_lawTells_95 (fun v50 t49 hq => ?_)
            obtain ⟨hF, hI, g51⟩ := hq
            replace E := zLet2_s hF E
            have ft49_18 : (t49.1 a0 18).toInt = (t42.1 a0 18).toInt := by rw [g51.2.1 18 (by decide)]
            have hS := hS.tr g51 (by decide) (by decide)
            have at49_30 := (zp_same hI ha0 g51 30 rfl (by decide) (by decide)).trans at42_30
            have at49_31 := (zp_same hI ha0 g51 31 rfl (by decide) (by decide)).trans at42_31
            have at49_33 := (zp_same hI ha0 g51 33 rfl (by decide) (by decide)).trans at42_33
            have at49_34 := (zp_same hI ha0 g51 34 rfl (by decide) (by decide)).trans at42_34
            have at49_35 := (zp_same hI ha0 g51 35 rfl (by decide) (by decide)).trans at42_35
            have at49_36 := (zp_same hI ha0 g51 36 rfl (by decide) (by decide)).trans at42_36
            have at49_37 := (zp_same hI ha0 g51 37 rfl (by decide) (by decide)).trans at42_37
            have at49_39 := (zp_same hI ha0 g51 39 rfl (by decide) (by decide)).trans at42_39
            have at49_40 := (zp_same hI ha0 g51 40 rfl (by decide) (by decide)).trans at42_40
            have gLt49 := gL.same hI ha0 g51 (by decide) gLt42
            refine zg_istore X [(6, .int v50), (5, .int v43), (4, .int x17), (3, .int v4), (0, .ref a0), (1, .int p1), (2, .int p2)] dX11_lawTells_98 (by decide) rfl ?_
            refine zg_aload_n X 4 rfl dX11_lawTells_100 ?_
            refine fg_X11_310 X hI ha0 dX11_lawTells_101 (fun v52 ev52 hv52 => ?_)
            replace E := zLet_s ev52 E
            refine zg_if_eq X 109 dX11_lawTells_104 (by decide) (fun c53 => ?_) (fun c53 => ?_)
            · skip
              replace E := zIf_t c53 E
              refine zg_iload X 1 rfl dX11_lawTells_109 ?_
              refine zg_iload X 0 rfl dX11_lawTells_111 ?_
              have zv43_z54 := zb_rng v43
              have zv50_z55 := zb_rng v50
              refine zg_icmp_lt X 119 dX11_lawTells_113 (by decide) (fun c56 => ?_) (fun c56 => ?_)
              · skip
                replace E := zIf_t c56 E
                refine zg_aload_n X 4 rfl dX11_lawTells_119 ?_
                refine zg_aload_n X 4 rfl dX11_lawTells_120 ?_
                refine fg_X11_86 X hI ha0 dX11_lawTells_121 (fun v57 ev57 hv57 => ?_)
                replace E := zLet_s (zgr ev57) E
                refine zg_iload X 2 rfl dX11_lawTells_124 ?_
                refine ag_136 X hI hv57 (by omega) (by omega) dX11_lawTells_126 (fun v58 ev58 _ => ?_)
                replace E := zLet_s ev58 E
                have qv58 := zp_ld ev57 ev58
                rw [at49_36] at qv58
                refine zg_aload_n X 4 rfl dX11_lawTells_127 ?_
                refine fg_X11_89 X hI ha0 dX11_lawTells_128 (fun v59 ev59 hv59 => ?_)
                replace E := zLet_s (zgr ev59) E
                refine zg_iload X 2 rfl dX11_lawTells_131 ?_
                refine ag_137 X hI hv59 (by omega) (by omega) dX11_lawTells_133 (fun v60 ev60 _ => ?_)
                replace E := zLet_s ev60 E
                have qv60 := zp_ld ev59 ev60
                rw [at49_37] at qv60
                refine zg_cVi (As := [.int v58, .int v60]) (st := []) X ha0 rfl (by decide) rfl (t_X11_termOf l d L kd κ _ hI a0 ha0 v58 v60  (by rw [at49_39, at49_40, qv58, qv60]; exact zb.2.2.1)) mk_X11_348 mc_X11_termOf mz_X11 mi_X11_termOf ml_X11_termOf (na := 2) ⟨md_X11.1, md_X11.2, by decide +kernel⟩ rfl ⟨by decide, by decide⟩ (Nat.le_of_ble_eq_true rfl) dX11_lawTells_134 (fun v62 t61 hq => ?_)
                obtain ⟨hF, hI, g63⟩ := hq
                replace E := zLet2_s hF E
                have ft61_18 : (t61.1 a0 18).toInt = (t49.1 a0 18).toInt := by rw [g63.2.1 18 (by decide)]
                have hS := hS.tr g63 (by decide) (by decide)
                refine zg_istore X [(5, .int v62), (6, .int v50), (4, .int x17), (3, .int v4), (0, .ref a0), (1, .int p1), (2, .int p2)] dX11_lawTells_137 (by decide) rfl ?_
                refine zg_aload_n X 4 rfl dX11_lawTells_139 ?_
                refine fg_X11_310 X hI ha0 dX11_lawTells_140 (fun v64 ev64 hv64 => ?_)
                replace E := zLet_s ev64 E
                refine zg_if_eq X 150 dX11_lawTells_143 (by decide) (fun c65 => ?_) (fun c65 => ?_)
                · skip
                  replace E := zIf_t c65 E
                  refine zg_iload X 0 rfl dX11_lawTells_150 ?_
                  exact ret _ _ _ _ dX11_lawTells_152 rfl ⟨E.symm.trans hR, ⟨hI, hS⟩⟩
                · skip
                  replace E := zIf_f c65 E
                  refine zg_iconst X 0 dX11_lawTells_146 (by decide) (fun v66 _ hv66 => ?_)
                  replace E := zLet_s (zcst hv66 (by decide)) E
                  refine zg_goto X 152 dX11_lawTells_147 (by decide) ?_
                  exact ret _ _ _ _ dX11_lawTells_152 rfl ⟨E.symm.trans hR, ⟨hI, hS⟩⟩
              · skip
                replace E := zIf_f (Int.not_lt.mpr c56) E
                refine zg_goto X 153 dX11_lawTells_116 (by decide) ?_
                refine zg_iinc X 1 (fun v67 => [(4, .int v67), (6, .int v50), (5, .int v43), (3, .int v4), (0, .ref a0), (1, .int p1), (2, .int p2)]) 2 dX11_lawTells_153 rfl (by decide) (by decide) (by omega) (by omega) (fun _ => rfl) (fun v67 ev67 hv67 => ?_)
                replace E := zLet_s (zinc ev67 (by decide)) E
                refine zg_goto X 39 dX11_lawTells_156 (by decide) ?_
                refine zg_sub [0, 3, 4, 5, 6] rfl ?_
                exact ihLp18 _ v67 hI hS gLt49 (by omega) at49_30 at49_31 at49_33 at49_34 at49_35 at49_36 at49_37 at49_39 at49_40 E  (by omega) (by omega) 
            · skip
              replace E := zIf_f c53 E
              refine zg_iconst X 0 dX11_lawTells_107 (by decide) (fun v68 _ hv68 => ?_)
              replace E := zLet_s (zcst hv68 (by decide)) E
              exact ret _ _ _ _ dX11_lawTells_108 rfl ⟨E.symm.trans hR, ⟨hI, hS⟩⟩
    refine zg_sub [0, 1, 2, 3, 4] rfl ?_
    exact Lp18 4294967299 _ v16 hI hS gLs11 (by omega) as11_30 as11_31 as11_33 as11_34 as11_35 as11_36 as11_37 as11_39 as11_40 E  (by omega) (by omega) 
  · skip
    replace E := zIf_t c9 E
    refine zg_iload_n X 3 rfl dX11_lawTells_24 ?_
    exact ret _ _ _ _ dX11_lawTells_25 rfl ⟨E.symm.trans hR, ⟨hI, hS⟩⟩
set_option maxHeartbeats 4000000 in
set_option maxRecDepth 100000 in
theorem t_X11_isSource (l : Launch) (d : zD2) (L : List Nat) (kd : Nat → Nat) (κ : Int) (σ : zS) (hI : zJ κ L kd σ) (a0 : Nat) (ha0 : zT L kd a0 11) (p1 : Int32) : zMi l yX11_isSource (Cond.code yX11_isSource cX11_isSource 2 (some .boolean) :: zWL) 2 [.ref a0, .int p1] d L kd σ (fun v σ2 => (v = F_X11_isSource a0 p1 σ ∧ (((0 ≤ v.toInt ∧ v.toInt ≤ 1)) ∧ (((v.toInt = 1 ∧ 1 ≤ p1.toInt ∧ p1.toInt < zM a0 σ) ∨ v.toInt = 0)) ∧ ((v.toInt = 1 → zSrc a0 σ p1.toInt)) ∧ ((v.toInt = 0 → ¬ zSrc a0 σ p1.toInt)))) ∧ σ = σ2) := by
  refine zMi.of (own := RX11) (by decide +kernel) rfl rfl (Nat.le_of_ble_eq_true rfl) ?_
  intro p e s m args below meth c A Q X ret
  refine zg_lv (lv2 := [(0, .ref a0), (1, .int p1)]) rfl ?_
  have zm := zM_in hI ha0
  obtain ⟨R, hR⟩ : ∃ R, R = F_X11_isSource a0 p1 σ := ⟨_, rfl⟩
  have E := hR
  unfold F_X11_isSource at E
  refine zg_aload_n X 0 rfl dX11_isSource_0 ?_
  refine zg_iload_n X 1 rfl dX11_isSource_1 ?_
  refine zg_cVi (As := [.int p1]) (st := []) X ha0 rfl (by decide) rfl (t_X11_isBeside l d L kd κ _ hI a0 ha0 p1  ) mk_X11_339 mc_X11_isBeside mz_X11 mi_X11_isBeside ml_X11_isBeside (na := 1) ⟨md_X11.1, md_X11.2, by decide +kernel⟩ rfl ⟨by decide, by decide⟩ (Nat.le_of_ble_eq_true rfl) dX11_isSource_2 (fun v2 t1 hq => ?_)
  obtain ⟨⟨hF, ⟨ht1_res, ht1_fact0⟩⟩, rfl⟩ := hq
  replace E := zLet_s hF E
  refine zg_if_eq X 24 dX11_isSource_5 (by decide) (fun c3 => ?_) (fun c3 => ?_)
  · skip
    replace E := zIf_t c3 E
    refine zg_iconst X 0 dX11_isSource_24 (by decide) (fun v4 _ hv4 => ?_)
    replace E := zLet_s (zcst hv4 (by decide)) E
    exact ret _ _ _ _ dX11_isSource_25 (zb_bool ⟨by omega, by omega⟩) ⟨⟨E.symm.trans hR, ⟨⟨by omega, by omega⟩, (by omega), (fun hv => by first | (exfalso; omega) | exact ⟨by omega, by omega, by omega⟩), (fun hv hz => by obtain ⟨z1, z2, z3⟩ := hz; omega)⟩⟩, rfl⟩
  · skip
    replace E := zIf_f c3 E
    refine zg_aload_n X 0 rfl dX11_isSource_8 ?_
    refine fg_X11_119 X hI ha0 dX11_isSource_9 (fun v5 ev5 hv5 => ?_)
    replace E := zLet_s (zgr ev5) E
    refine zg_iload_n X 1 rfl dX11_isSource_12 ?_
    refine ag_154 X hI hv5 (by omega) (by omega) dX11_isSource_13 (fun v6 ev6 _ => ?_)
    replace E := zLet_s ev6 E
    have qv6 := zp_ld ev5 ev6
    refine zg_iconst X 1 dX11_isSource_14 (by decide) (fun v7 _ hv7 => ?_)
    replace E := zLet_s (zcst hv7 (by decide)) E
    refine zg_iload_n X 1 rfl dX11_isSource_15 ?_
    refine zg_ishlW X dX11_isSource_16 (fun v8 ev8 => ?_)
    replace E := zLet_s ev8 E
    have zz := zSrc_iff (by omega) ev8
    refine zg_icmp_ne X 24 dX11_isSource_17 (by decide) (fun c9 => ?_) (fun c9 => ?_)
    · skip
      replace E := zIf_f c9 E
      refine zg_iconst X 0 dX11_isSource_24 (by decide) (fun v10 _ hv10 => ?_)
      replace E := zLet_s (zcst hv10 (by decide)) E
      exact ret _ _ _ _ dX11_isSource_25 (zb_bool ⟨by omega, by omega⟩) ⟨⟨E.symm.trans hR, ⟨⟨by omega, by omega⟩, (by omega), (fun hv => by first | (exfalso; omega) | exact ⟨by omega, by omega, by omega⟩), (fun hv hz => by obtain ⟨z1, z2, z3⟩ := hz; omega)⟩⟩, rfl⟩
    · skip
      replace E := zIf_t c9 E
      refine zg_iconst X 1 dX11_isSource_20 (by decide) (fun v11 _ hv11 => ?_)
      replace E := zLet_s (zcst hv11 (by decide)) E
      refine zg_goto X 25 dX11_isSource_21 (by decide) ?_
      exact ret _ _ _ _ dX11_isSource_25 (zb_bool ⟨by omega, by omega⟩) ⟨⟨E.symm.trans hR, ⟨⟨by omega, by omega⟩, (by omega), (fun hv => by first | (exfalso; omega) | exact ⟨by omega, by omega, by omega⟩), (fun hv hz => by obtain ⟨z1, z2, z3⟩ := hz; omega)⟩⟩, rfl⟩
set_option maxHeartbeats 4000000 in
set_option maxRecDepth 100000 in
theorem t_X11_sourceBits (l : Launch) (d : zD2) (L : List Nat) (kd : Nat → Nat) (κ : Int) (σ : zS) (hI : zJ κ L kd σ) (a0 : Nat) (ha0 : zT L kd a0 11) : zMi l yX11_sourceBits (Cond.code yX11_sourceBits cX11_sourceBits 3 (some .int) :: zWL) 3 [.ref a0] d L kd σ (fun v σ2 => (v = F_X11_sourceBits a0 σ ∧ ((0 ≤ v.toInt ∧ v.toInt ≤ 4095))) ∧ σ = σ2) := by
  refine zMi.of (own := RX11) (by decide +kernel) rfl rfl (Nat.le_of_ble_eq_true rfl) ?_
  intro p e s m args below meth c A Q X ret
  refine zg_lv (lv2 := [(0, .ref a0)]) rfl ?_
  obtain ⟨R, hR⟩ : ∃ R, R = F_X11_sourceBits a0 σ := ⟨_, rfl⟩
  have E := hR
  unfold F_X11_sourceBits at E
  refine zg_iconst X 0 dX11_sourceBits_0 (by decide) (fun v1 _ hv1 => ?_)
  replace E := zLet_s (zcst hv1 (by decide)) E
  refine zg_istore_n X [(1, .int v1), (0, .ref a0)] dX11_sourceBits_1 (by decide) rfl ?_
  refine zg_iconst X 1 dX11_sourceBits_2 (by decide) (fun v2 _ hv2 => ?_)
  replace E := zLet_s (zcst hv2 (by decide)) E
  refine zg_istore_n X [(2, .int v2), (1, .int v1), (0, .ref a0)] dX11_sourceBits_3 (by decide) rfl ?_
  have Lp5 : ∀ (nLp5 : Nat) (x3 : Int32) (x4 : Int32), R = F_X11_sourceBits_4 a0 σ  nLp5 x3 x4 → 0 ≤ x4.toInt ∧ x4.toInt ≤ 4095 ∧ 1 ≤ x3.toInt ∧ x3.toInt ≤ 12 → (12) - x3.toInt + 1 < (nLp5 : Int) → zG d L kd A 3 p l e (k2_rm 3 (100 * 3)) s m args below meth c Q σ 4 [(2, .int x3), (1, .int x4), (0, .ref a0)] [] := by
    intro nLp5
    induction nLp5 with
    | zero => intro x3 x4  E  hxLp5 hm ; exact absurd hm (by omega)
    | succ nLp5 ihLp5 =>
      intro x3 x4  E  hxLp5 hmLp5 
      rw [F_X11_sourceBits_4] at E
      refine zg_iload_n X 0 rfl dX11_sourceBits_4 ?_
      refine zg_aload_n X 2 rfl dX11_sourceBits_5 ?_
      refine zg_cVi (As := []) (st := [.int x3]) X ha0 rfl (by decide) rfl (t_X11_many l d L kd κ _ hI a0 ha0   ) mk_X11_313 mc_X11_many mz_X11 mi_X11_many ml_X11_many (na := 0) ⟨md_X11.1, md_X11.2, by decide +kernel⟩ rfl ⟨by decide, by decide⟩ (Nat.le_of_ble_eq_true rfl) dX11_sourceBits_6 (fun v7 t6 hq => ?_)
      obtain ⟨⟨hF, ⟨ht6_res, ht6_fact0⟩⟩, rfl⟩ := hq
      replace E := zLet_s hF E
      refine zg_icmp_ge X 32 dX11_sourceBits_9 (by decide) (fun c8 => ?_) (fun c8 => ?_)
      · skip
        replace E := zIf_f (Int.not_lt.mpr c8) E
        refine zg_iload_n X 1 rfl dX11_sourceBits_32 ?_
        exact ret _ _ _ _ dX11_sourceBits_33 rfl ⟨⟨E.symm.trans hR, ⟨by omega, by omega⟩⟩, rfl⟩
      · skip
        replace E := zIf_t c8 E
        refine zg_aload_n X 2 rfl dX11_sourceBits_12 ?_
        refine zg_iload_n X 0 rfl dX11_sourceBits_13 ?_
        refine zg_cVi (As := [.int x3]) (st := []) X ha0 rfl (by decide) rfl (t_X11_isSource l d L kd κ _ hI a0 ha0 x3  ) mk_X11_342 mc_X11_isSource mz_X11 mi_X11_isSource ml_X11_isSource (na := 1) ⟨md_X11.1, md_X11.2, by decide +kernel⟩ rfl ⟨by decide, by decide⟩ (Nat.le_of_ble_eq_true rfl) dX11_sourceBits_14 (fun v10 t9 hq => ?_)
        obtain ⟨⟨hF, ⟨ht9_res, ht9_fact0, ht9_fact1, ht9_fact2⟩⟩, rfl⟩ := hq
        replace E := zLet_s hF E
        refine zg_if_eq X 26 dX11_sourceBits_17 (by decide) (fun c11 => ?_) (fun c11 => ?_)
        · skip
          replace E := zIf_t c11 E
          skip
          refine zg_iinc X 1 (fun v12 => [(2, .int v12), (1, .int x4), (0, .ref a0)]) 0 dX11_sourceBits_26 rfl (by decide) (by decide) (by omega) (by omega) (fun _ => rfl) (fun v12 ev12 hv12 => ?_)
          replace E := zLet_s (zinc ev12 (by decide)) E
          refine zg_goto X 4 dX11_sourceBits_29 (by decide) ?_
          refine zg_sub [0, 1, 2] rfl ?_
          exact ihLp5 v12 x4   E  (by omega) (by omega) 
        · skip
          replace E := zIf_f c11 E
          refine zg_iload_n X 1 rfl dX11_sourceBits_20 ?_
          refine zg_iconst X 1 dX11_sourceBits_21 (by decide) (fun v13 _ hv13 => ?_)
          replace E := zLet_s (zcst hv13 (by decide)) E
          refine zg_iload_n X 0 rfl dX11_sourceBits_22 ?_
          refine zg_ishlW X dX11_sourceBits_23 (fun v14 ev14 => ?_)
          replace E := zLet_s ev14 E
          refine zg_iorW X dX11_sourceBits_24 (fun v15 ev15 => ?_)
          replace E := zLet_s ev15 E
          refine zg_istore_n X [(1, .int v15), (2, .int x3), (0, .ref a0)] dX11_sourceBits_25 (by decide) rfl ?_
          have zk := zsh_le (by omega) ev14 (by omega) (by omega)
          have zo := zor_le ev15 (by omega) (by omega) (by omega) (by omega)
          refine zg_iinc X 1 (fun v16 => [(2, .int v16), (1, .int v15), (0, .ref a0)]) 1 dX11_sourceBits_26 rfl (by decide) (by decide) (by omega) (by omega) (fun _ => rfl) (fun v16 ev16 hv16 => ?_)
          replace E := zLet_s (zinc ev16 (by decide)) E
          refine zg_goto X 4 dX11_sourceBits_29 (by decide) ?_
          refine zg_sub [0, 1, 2] rfl ?_
          exact ihLp5 v16 v15   E  (by omega) (by omega) 
  refine zg_sub [0, 1, 2] rfl ?_
  exact Lp5 10000 v2 v1   E  (by omega) (by omega) 
set_option maxHeartbeats 4000000 in
set_option maxRecDepth 100000 in
theorem t_X11_rainsAt (l : Launch) (d : zD2) (L : List Nat) (kd : Nat → Nat) (κ : Int) (σ : zS) (hI : zJ κ L kd σ) (a0 : Nat) (ha0 : zT L kd a0 11) (p1 : Int32) (hq0 : 0 ≤ p1.toInt ∧ p1.toInt ≤ 11) (hgL : gL a0 σ) : zMi l yX11_rainsAt (Cond.code yX11_rainsAt cX11_rainsAt 2 (some .int) :: zWL) 2 [.ref a0, .int p1] d L kd σ (fun v σ2 => (v, σ2) = F_X11_rainsAt a0 p1 σ ∧ (zJ κ L kd σ2 ∧ zSame a0 [47] [145, 146] L kd σ σ2)) := by
  refine zMi.of (own := RX11) (by decide +kernel) rfl rfl (Nat.le_of_ble_eq_true rfl) ?_
  intro p e s m args below meth c A Q X ret
  have hS : zSame a0 [47] [145, 146] L kd σ σ := zSame.rf
  refine zg_lv (lv2 := [(0, .ref a0), (1, .int p1)]) rfl ?_
  obtain ⟨R, hR⟩ : ∃ R, R = F_X11_rainsAt a0 p1 σ := ⟨_, rfl⟩
  have E := hR
  unfold F_X11_rainsAt at E
  refine zg_aload_n X 0 rfl dX11_rainsAt_0 ?_
  refine zg_iload_n X 1 rfl dX11_rainsAt_1 ?_
  refine zg_iconst X 0 dX11_rainsAt_2 (by decide) (fun v1 _ hv1 => ?_)
  replace E := zLet_s (zcst hv1 (by decide)) E
  refine zg_cVv (As := [.int p1, .int v1]) (st := []) X ha0 rfl (by decide) rfl (t_X11_looks l d L kd κ _ hI a0 ha0 p1 v1  (by omega)) mk_X11_351 mc_X11_looks mz_X11 mi_X11_looks ml_X11_looks (na := 2) ⟨md_X11.1, md_X11.2, by decide +kernel⟩ rfl ⟨by decide, by decide⟩ (Nat.le_of_ble_eq_true rfl) dX11_rainsAt_3 (fun t2 hq => ?_)
  obtain ⟨hF, hI, g3⟩ := hq
  replace E := zLet_s hF E
  have hS := hS.tr g3 (by decide) (by decide)
  have gLt2 := gL.same hI ha0 g3 (by decide) hgL
  refine zg_aload_n X 0 rfl dX11_rainsAt_6 ?_
  refine zg_iconst X 0 dX11_rainsAt_7 (by decide) (fun v4 _ hv4 => ?_)
  replace E := zLet_s (zcst hv4 (by decide)) E
  refine zg_aload_n X 0 rfl dX11_rainsAt_8 ?_
  refine fg_X11_101 X hI ha0 dX11_rainsAt_9 (fun v5 ev5 hv5 => ?_)
  replace E := zLet_s (zgr ev5) E
  refine zg_iconst X 0 dX11_rainsAt_12 (by decide) (fun v6 _ hv6 => ?_)
  replace E := zLet_s (zcst hv6 (by decide)) E
  refine ag_145 X hI hv5 (by omega) (by omega) dX11_rainsAt_13 (fun v7 ev7 _ => ?_)
  replace E := zLet_s ev7 E
  refine zg_cVi (As := [.int v4, .int v7]) (st := []) X ha0 rfl (by decide) rfl (t_X11_lawTells l d L kd κ _ hI a0 ha0 v4 v7  (by omega) gLt2) mk_X11_354 mc_X11_lawTells mz_X11 mi_X11_lawTells ml_X11_lawTells (na := 2) ⟨md_X11.1, md_X11.2, by decide +kernel⟩ rfl ⟨by decide, by decide⟩ (Nat.le_of_ble_eq_true rfl) dX11_rainsAt_14 (fun v9 t8 hq => ?_)
  obtain ⟨hF, hI, g10⟩ := hq
  replace E := zLet2_s hF E
  have hS := hS.tr g10 (by decide) (by decide)
  refine zg_iconst X 0 dX11_rainsAt_17 (by decide) (fun v11 _ hv11 => ?_)
  replace E := zLet_s (zcst hv11 (by decide)) E
  refine zg_sipush X 999 dX11_rainsAt_18 (by decide) (fun v12 _ hv12 => ?_)
  replace E := zLet_s (zcst hv12 (by decide)) E
  refine zg_cSi (As := [.int v9, .int v11, .int v12]) (st := []) X (t_X11_within l d L kd _ v9 v11 v12 ) mk_X11_357 mc_X11_within mz_X11 ms_X11_within (na := 3) ⟨md_X11.1, md_X11.2, by decide +kernel⟩ rfl ⟨by decide, by decide⟩ (Nat.le_of_ble_eq_true rfl) dX11_rainsAt_21 (fun v13 σ2 hq => ?_)
  obtain ⟨⟨hF, hv13⟩, rfl⟩ := hq
  replace E := zLet_s hF E
  exact ret _ _ _ _ dX11_rainsAt_24 rfl ⟨E.symm.trans hR, ⟨hI, hS⟩⟩
set_option maxHeartbeats 4000000 in
set_option maxRecDepth 100000 in
theorem t_X11_driesAt (l : Launch) (d : zD2) (L : List Nat) (kd : Nat → Nat) (κ : Int) (σ : zS) (hI : zJ κ L kd σ) (a0 : Nat) (ha0 : zT L kd a0 11) (p1 : Int32) (hq0 : 0 ≤ p1.toInt ∧ p1.toInt ≤ 11) (hgL : gL a0 σ) : zMi l yX11_driesAt (Cond.code yX11_driesAt cX11_driesAt 2 (some .int) :: zWL) 2 [.ref a0, .int p1] d L kd σ (fun v σ2 => (v, σ2) = F_X11_driesAt a0 p1 σ ∧ (zJ κ L kd σ2 ∧ zSame a0 [47] [145, 146] L kd σ σ2)) := by
  refine zMi.of (own := RX11) (by decide +kernel) rfl rfl (Nat.le_of_ble_eq_true rfl) ?_
  intro p e s m args below meth c A Q X ret
  have hS : zSame a0 [47] [145, 146] L kd σ σ := zSame.rf
  refine zg_lv (lv2 := [(0, .ref a0), (1, .int p1)]) rfl ?_
  obtain ⟨R, hR⟩ : ∃ R, R = F_X11_driesAt a0 p1 σ := ⟨_, rfl⟩
  have E := hR
  unfold F_X11_driesAt at E
  refine zg_aload_n X 0 rfl dX11_driesAt_0 ?_
  refine zg_iload_n X 1 rfl dX11_driesAt_1 ?_
  refine zg_aload_n X 0 rfl dX11_driesAt_2 ?_
  refine fg_X11_122 X hI ha0 dX11_driesAt_3 (fun v1 ev1 hv1 => ?_)
  replace E := zLet_s (zgr ev1) E
  refine zg_iload_n X 1 rfl dX11_driesAt_6 ?_
  refine ag_155 X hI hv1 (by omega) (by omega) dX11_driesAt_7 (fun v2 ev2 _ => ?_)
  replace E := zLet_s ev2 E
  refine zg_cVv (As := [.int p1, .int v2]) (st := []) X ha0 rfl (by decide) rfl (t_X11_looks l d L kd κ _ hI a0 ha0 p1 v2  (by omega)) mk_X11_351 mc_X11_looks mz_X11 mi_X11_looks ml_X11_looks (na := 2) ⟨md_X11.1, md_X11.2, by decide +kernel⟩ rfl ⟨by decide, by decide⟩ (Nat.le_of_ble_eq_true rfl) dX11_driesAt_8 (fun t3 hq => ?_)
  obtain ⟨hF, hI, g4⟩ := hq
  replace E := zLet_s hF E
  have hS := hS.tr g4 (by decide) (by decide)
  have gLt3 := gL.same hI ha0 g4 (by decide) hgL
  refine zg_aload_n X 0 rfl dX11_driesAt_11 ?_
  refine zg_iconst X 1 dX11_driesAt_12 (by decide) (fun v5 _ hv5 => ?_)
  replace E := zLet_s (zcst hv5 (by decide)) E
  refine zg_iconst X 0 dX11_driesAt_13 (by decide) (fun v6 _ hv6 => ?_)
  replace E := zLet_s (zcst hv6 (by decide)) E
  refine zg_cVi (As := [.int v5, .int v6]) (st := []) X ha0 rfl (by decide) rfl (t_X11_lawTells l d L kd κ _ hI a0 ha0 v5 v6  (by omega) gLt3) mk_X11_354 mc_X11_lawTells mz_X11 mi_X11_lawTells ml_X11_lawTells (na := 2) ⟨md_X11.1, md_X11.2, by decide +kernel⟩ rfl ⟨by decide, by decide⟩ (Nat.le_of_ble_eq_true rfl) dX11_driesAt_14 (fun v8 t7 hq => ?_)
  obtain ⟨hF, hI, g9⟩ := hq
  replace E := zLet2_s hF E
  have hS := hS.tr g9 (by decide) (by decide)
  refine zg_iconst X 0 dX11_driesAt_17 (by decide) (fun v10 _ hv10 => ?_)
  replace E := zLet_s (zcst hv10 (by decide)) E
  refine zg_aload_n X 0 rfl dX11_driesAt_18 ?_
  refine fg_X11_122 X hI ha0 dX11_driesAt_19 (fun v11 ev11 hv11 => ?_)
  replace E := zLet_s (zgr ev11) E
  refine zg_iload_n X 1 rfl dX11_driesAt_22 ?_
  refine ag_155 X hI hv11 (by omega) (by omega) dX11_driesAt_23 (fun v12 ev12 _ => ?_)
  replace E := zLet_s ev12 E
  refine zg_cSi (As := [.int v8, .int v10, .int v12]) (st := []) X (t_X11_within l d L kd _ v8 v10 v12 ) mk_X11_357 mc_X11_within mz_X11 ms_X11_within (na := 3) ⟨md_X11.1, md_X11.2, by decide +kernel⟩ rfl ⟨by decide, by decide⟩ (Nat.le_of_ble_eq_true rfl) dX11_driesAt_24 (fun v13 σ2 hq => ?_)
  obtain ⟨⟨hF, hv13⟩, rfl⟩ := hq
  replace E := zLet_s hF E
  exact ret _ _ _ _ dX11_driesAt_27 rfl ⟨E.symm.trans hR, ⟨hI, hS⟩⟩
set_option maxHeartbeats 4000000 in
set_option maxRecDepth 100000 in
theorem t_X11_claimOf (l : Launch) (d : zD2) (L : List Nat) (kd : Nat → Nat) (κ : Int) (σ : zS) (hI : zJ κ L kd σ) (a0 : Nat) (ha0 : zT L kd a0 11) (p1 : Int32) (p2 : Int32) (hq0 : 0 ≤ p1.toInt ∧ p1.toInt ≤ 11) (hq1 : 0 ≤ p2.toInt ∧ p2.toInt ≤ 2) (hgL : gL a0 σ) : zMi l yX11_claimOf (Cond.code yX11_claimOf cX11_claimOf 4 (some .int) :: zWL) 2 [.ref a0, .int p1, .int p2] d L kd σ (fun v σ2 => (v, σ2) = F_X11_claimOf a0 p1 p2 σ ∧ (zJ κ L kd σ2 ∧ zSame a0 [47] [145, 146] L kd σ σ2)) := by
  refine zMi.of (own := RX11) (by decide +kernel) rfl rfl (Nat.le_of_ble_eq_true rfl) ?_
  intro p e s m args below meth c A Q X ret
  have hS : zSame a0 [47] [145, 146] L kd σ σ := zSame.rf
  refine zg_lv (lv2 := [(0, .ref a0), (1, .int p1), (2, .int p2)]) rfl ?_
  obtain ⟨R, hR⟩ : ∃ R, R = F_X11_claimOf a0 p1 p2 σ := ⟨_, rfl⟩
  have E := hR
  unfold F_X11_claimOf at E
  refine zg_aload_n X 0 rfl dX11_claimOf_0 ?_
  refine zg_iload_n X 1 rfl dX11_claimOf_1 ?_
  refine zg_aload_n X 0 rfl dX11_claimOf_2 ?_
  refine fg_X11_122 X hI ha0 dX11_claimOf_3 (fun v1 ev1 hv1 => ?_)
  replace E := zLet_s (zgr ev1) E
  refine zg_iload_n X 1 rfl dX11_claimOf_6 ?_
  refine ag_155 X hI hv1 (by omega) (by omega) dX11_claimOf_7 (fun v2 ev2 _ => ?_)
  replace E := zLet_s ev2 E
  refine zg_cVv (As := [.int p1, .int v2]) (st := []) X ha0 rfl (by decide) rfl (t_X11_looks l d L kd κ _ hI a0 ha0 p1 v2  (by omega)) mk_X11_351 mc_X11_looks mz_X11 mi_X11_looks ml_X11_looks (na := 2) ⟨md_X11.1, md_X11.2, by decide +kernel⟩ rfl ⟨by decide, by decide⟩ (Nat.le_of_ble_eq_true rfl) dX11_claimOf_8 (fun t3 hq => ?_)
  obtain ⟨hF, hI, g4⟩ := hq
  replace E := zLet_s hF E
  have hS := hS.tr g4 (by decide) (by decide)
  have gLt3 := gL.same hI ha0 g4 (by decide) hgL
  refine zg_iload_n X 2 rfl dX11_claimOf_11 ?_
  refine zg_if_ne X 24 dX11_claimOf_12 (by decide) (fun c5 => ?_) (fun c5 => ?_)
  · skip
    replace E := zIf_f c5 E
    refine zg_iload_n X 2 rfl dX11_claimOf_24 ?_
    refine zg_iconst X 1 dX11_claimOf_25 (by decide) (fun v6 _ hv6 => ?_)
    replace E := zLet_s (zcst hv6 (by decide)) E
    refine zg_icmp_ne X 38 dX11_claimOf_26 (by decide) (fun c7 => ?_) (fun c7 => ?_)
    · skip
      replace E := zIf_f c7 E
      refine zg_aload_n X 0 rfl dX11_claimOf_38 ?_
      refine fg_X11_101 X hI ha0 dX11_claimOf_39 (fun v8 ev8 hv8 => ?_)
      replace E := zLet_s (zgr ev8) E
      refine zg_iconst X 2 dX11_claimOf_42 (by decide) (fun v9 _ hv9 => ?_)
      replace E := zLet_s (zcst hv9 (by decide)) E
      refine ag_145 X hI hv8 (by omega) (by omega) dX11_claimOf_43 (fun v10 ev10 _ => ?_)
      replace E := zLet_s ev10 E
      refine zg_istore_n X [(3, .int v10), (0, .ref a0), (1, .int p1), (2, .int p2)] dX11_claimOf_44 (by decide) rfl ?_
      refine zg_aload_n X 1 rfl dX11_claimOf_45 ?_
      refine zg_iconst X 2 dX11_claimOf_46 (by decide) (fun v11 _ hv11 => ?_)
      replace E := zLet_s (zcst hv11 (by decide)) E
      refine zg_iload_n X 3 rfl dX11_claimOf_47 ?_
      refine zg_iadd X dX11_claimOf_48 (by omega) (by omega) (fun v12 ev12 hv12 => ?_)
      replace E := zLet_s ev12 E
      refine zg_iload_n X 0 rfl dX11_claimOf_49 ?_
      refine zg_cVi (As := [.int v12, .int v10]) (st := []) X ha0 rfl (by decide) rfl (t_X11_lawTells l d L kd κ _ hI a0 ha0 v12 v10  (by omega) gLt3) mk_X11_354 mc_X11_lawTells mz_X11 mi_X11_lawTells ml_X11_lawTells (na := 2) ⟨md_X11.1, md_X11.2, by decide +kernel⟩ rfl ⟨by decide, by decide⟩ (Nat.le_of_ble_eq_true rfl) dX11_claimOf_50 (fun v14 t13 hq => ?_)
      obtain ⟨hF, hI, g15⟩ := hq
      replace E := zLet2_s hF E
      have hS := hS.tr g15 (by decide) (by decide)
      refine zg_iconst X 0 dX11_claimOf_53 (by decide) (fun v16 _ hv16 => ?_)
      replace E := zLet_s (zcst hv16 (by decide)) E
      refine zg_ldcwE X wk_X11_366 dX11_claimOf_54 (fun v17 ev17 => ?_)
      replace E := zLet_s ev17 E
      refine zg_cSi (As := [.int v14, .int v16, .int v17]) (st := []) X (t_X11_within l d L kd _ v14 v16 v17 ) mk_X11_357 mc_X11_within mz_X11 ms_X11_within (na := 3) ⟨md_X11.1, md_X11.2, by decide +kernel⟩ rfl ⟨by decide, by decide⟩ (Nat.le_of_ble_eq_true rfl) dX11_claimOf_57 (fun v18 σ2 hq => ?_)
      obtain ⟨⟨hF, hv18⟩, rfl⟩ := hq
      replace E := zLet_s hF E
      exact ret _ _ _ _ dX11_claimOf_60 rfl ⟨E.symm.trans hR, ⟨hI, hS⟩⟩
    · skip
      replace E := zIf_t c7 E
      refine zg_aload_n X 0 rfl dX11_claimOf_29 ?_
      refine fg_X11_101 X hI ha0 dX11_claimOf_30 (fun v19 ev19 hv19 => ?_)
      replace E := zLet_s (zgr ev19) E
      refine zg_iconst X 4 dX11_claimOf_33 (by decide) (fun v20 _ hv20 => ?_)
      replace E := zLet_s (zcst hv20 (by decide)) E
      refine ag_145 X hI hv19 (by omega) (by omega) dX11_claimOf_34 (fun v21 ev21 _ => ?_)
      replace E := zLet_s ev21 E
      refine zg_goto X 44 dX11_claimOf_35 (by decide) ?_
      refine zg_istore_n X [(3, .int v21), (0, .ref a0), (1, .int p1), (2, .int p2)] dX11_claimOf_44 (by decide) rfl ?_
      refine zg_aload_n X 1 rfl dX11_claimOf_45 ?_
      refine zg_iconst X 2 dX11_claimOf_46 (by decide) (fun v22 _ hv22 => ?_)
      replace E := zLet_s (zcst hv22 (by decide)) E
      refine zg_iload_n X 3 rfl dX11_claimOf_47 ?_
      refine zg_iadd X dX11_claimOf_48 (by omega) (by omega) (fun v23 ev23 hv23 => ?_)
      replace E := zLet_s ev23 E
      refine zg_iload_n X 0 rfl dX11_claimOf_49 ?_
      refine zg_cVi (As := [.int v23, .int v21]) (st := []) X ha0 rfl (by decide) rfl (t_X11_lawTells l d L kd κ _ hI a0 ha0 v23 v21  (by omega) gLt3) mk_X11_354 mc_X11_lawTells mz_X11 mi_X11_lawTells ml_X11_lawTells (na := 2) ⟨md_X11.1, md_X11.2, by decide +kernel⟩ rfl ⟨by decide, by decide⟩ (Nat.le_of_ble_eq_true rfl) dX11_claimOf_50 (fun v25 t24 hq => ?_)
      obtain ⟨hF, hI, g26⟩ := hq
      replace E := zLet2_s hF E
      have hS := hS.tr g26 (by decide) (by decide)
      refine zg_iconst X 0 dX11_claimOf_53 (by decide) (fun v27 _ hv27 => ?_)
      replace E := zLet_s (zcst hv27 (by decide)) E
      refine zg_ldcwE X wk_X11_366 dX11_claimOf_54 (fun v28 ev28 => ?_)
      replace E := zLet_s ev28 E
      refine zg_cSi (As := [.int v25, .int v27, .int v28]) (st := []) X (t_X11_within l d L kd _ v25 v27 v28 ) mk_X11_357 mc_X11_within mz_X11 ms_X11_within (na := 3) ⟨md_X11.1, md_X11.2, by decide +kernel⟩ rfl ⟨by decide, by decide⟩ (Nat.le_of_ble_eq_true rfl) dX11_claimOf_57 (fun v29 σ2 hq => ?_)
      obtain ⟨⟨hF, hv29⟩, rfl⟩ := hq
      replace E := zLet_s hF E
      exact ret _ _ _ _ dX11_claimOf_60 rfl ⟨E.symm.trans hR, ⟨hI, hS⟩⟩
  · skip
    replace E := zIf_t c5 E
    refine zg_aload_n X 0 rfl dX11_claimOf_15 ?_
    refine fg_X11_101 X hI ha0 dX11_claimOf_16 (fun v30 ev30 hv30 => ?_)
    replace E := zLet_s (zgr ev30) E
    refine zg_iconst X 1 dX11_claimOf_19 (by decide) (fun v31 _ hv31 => ?_)
    replace E := zLet_s (zcst hv31 (by decide)) E
    refine ag_145 X hI hv30 (by omega) (by omega) dX11_claimOf_20 (fun v32 ev32 _ => ?_)
    replace E := zLet_s ev32 E
    refine zg_goto X 44 dX11_claimOf_21 (by decide) ?_
    refine zg_istore_n X [(3, .int v32), (0, .ref a0), (1, .int p1), (2, .int p2)] dX11_claimOf_44 (by decide) rfl ?_
    refine zg_aload_n X 1 rfl dX11_claimOf_45 ?_
    refine zg_iconst X 2 dX11_claimOf_46 (by decide) (fun v33 _ hv33 => ?_)
    replace E := zLet_s (zcst hv33 (by decide)) E
    refine zg_iload_n X 3 rfl dX11_claimOf_47 ?_
    refine zg_iadd X dX11_claimOf_48 (by omega) (by omega) (fun v34 ev34 hv34 => ?_)
    replace E := zLet_s ev34 E
    refine zg_iload_n X 0 rfl dX11_claimOf_49 ?_
    refine zg_cVi (As := [.int v34, .int v32]) (st := []) X ha0 rfl (by decide) rfl (t_X11_lawTells l d L kd κ _ hI a0 ha0 v34 v32  (by omega) gLt3) mk_X11_354 mc_X11_lawTells mz_X11 mi_X11_lawTells ml_X11_lawTells (na := 2) ⟨md_X11.1, md_X11.2, by decide +kernel⟩ rfl ⟨by decide, by decide⟩ (Nat.le_of_ble_eq_true rfl) dX11_claimOf_50 (fun v36 t35 hq => ?_)
    obtain ⟨hF, hI, g37⟩ := hq
    replace E := zLet2_s hF E
    have hS := hS.tr g37 (by decide) (by decide)
    refine zg_iconst X 0 dX11_claimOf_53 (by decide) (fun v38 _ hv38 => ?_)
    replace E := zLet_s (zcst hv38 (by decide)) E
    refine zg_ldcwE X wk_X11_366 dX11_claimOf_54 (fun v39 ev39 => ?_)
    replace E := zLet_s ev39 E
    refine zg_cSi (As := [.int v36, .int v38, .int v39]) (st := []) X (t_X11_within l d L kd _ v36 v38 v39 ) mk_X11_357 mc_X11_within mz_X11 ms_X11_within (na := 3) ⟨md_X11.1, md_X11.2, by decide +kernel⟩ rfl ⟨by decide, by decide⟩ (Nat.le_of_ble_eq_true rfl) dX11_claimOf_57 (fun v40 σ2 hq => ?_)
    obtain ⟨⟨hF, hv40⟩, rfl⟩ := hq
    replace E := zLet_s hF E
    exact ret _ _ _ _ dX11_claimOf_60 rfl ⟨E.symm.trans hR, ⟨hI, hS⟩⟩
set_option maxHeartbeats 4000000 in
set_option maxRecDepth 100000 in
theorem t_X11_winnerBy (l : Launch) (d : zD2) (L : List Nat) (kd : Nat → Nat) (κ : Int) (σ : zS) (hI : zJ κ L kd σ) (a0 : Nat) (ha0 : zT L kd a0 11) (p1 : Int32) (hq0 : 0 ≤ p1.toInt ∧ p1.toInt ≤ 2) (hgL : gL a0 σ) : zMi l yX11_winnerBy (Cond.code yX11_winnerBy cX11_winnerBy 6 (some .int) :: zWL) 3 [.ref a0, .int p1] d L kd σ (fun v σ2 => (v, σ2) = F_X11_winnerBy a0 p1 σ ∧ (((((-2) ≤ v.toInt ∧ v.toInt ≤ 11)) ∧ (v.toInt < zM a0 σ ∨ v.toInt = -2) ∧ ((v.toInt < 0 → ∀ o : Int, ¬ zSrc a0 σ o))) ∧ zJ κ L kd σ2 ∧ zSame a0 [47] [145, 146] L kd σ σ2)) := by
  refine zMi.of (own := RX11) (by decide +kernel) rfl rfl (Nat.le_of_ble_eq_true rfl) ?_
  intro p e s m args below meth c A Q X ret
  have hS : zSame a0 [47] [145, 146] L kd σ σ := zSame.rf
  refine zg_lv (lv2 := [(0, .ref a0), (1, .int p1)]) rfl ?_
  have zm := zM_in hI ha0
  have zt : ∀ τ : zS, zM a0 τ = zM a0 σ → zp a0 τ 54 = zp a0 σ 54 → ∀ o : Int, zSrc a0 σ o → zSrc a0 τ o := fun τ h1 h2 o h3 => by unfold zSrc at h3 ⊢; rw [h1, h2]; exact h3
  obtain ⟨R, hR⟩ : ∃ R, R = F_X11_winnerBy a0 p1 σ := ⟨_, rfl⟩
  have E := hR
  unfold F_X11_winnerBy at E
  refine zg_bipush X (-2) dX11_winnerBy_0 (by decide) (fun v1 _ hv1 => ?_)
  replace E := zLet_s (zcst hv1 (by decide)) E
  refine zg_istore_n X [(2, .int v1), (0, .ref a0), (1, .int p1)] dX11_winnerBy_2 (by decide) rfl ?_
  refine zg_iconst X 0 dX11_winnerBy_3 (by decide) (fun v2 _ hv2 => ?_)
  replace E := zLet_s (zcst hv2 (by decide)) E
  refine zg_istore_n X [(3, .int v2), (2, .int v1), (0, .ref a0), (1, .int p1)] dX11_winnerBy_4 (by decide) rfl ?_
  refine zg_iconst X 1 dX11_winnerBy_5 (by decide) (fun v3 _ hv3 => ?_)
  replace E := zLet_s (zcst hv3 (by decide)) E
  refine zg_istore X [(4, .int v3), (3, .int v2), (2, .int v1), (0, .ref a0), (1, .int p1)] dX11_winnerBy_6 (by decide) rfl ?_
  have Lp7 : ∀ (nLp7 : Nat) (τ7 : zS) (x4 : Int32) (x5 : Int32) (x6 : Int32), zJ κ L kd τ7 → zSame a0 [47] [145, 146] L kd σ τ7 → gL a0 τ7 → zM a0 τ7 = zM a0 σ → zp a0 τ7 54 = zp a0 σ 54 → R = F_X11_winnerBy_8 a0 p1  nLp7 x4 x5 x6 τ7 → (-2) ≤ x6.toInt ∧ x6.toInt ≤ 11 ∧ 1 ≤ x4.toInt ∧ x4.toInt ≤ 12 ∧ 1 ≤ x4.toInt ∧ (x6.toInt < zM a0 σ ∨ x6.toInt = -2) → (12) - x4.toInt + 1 < (nLp7 : Int) → (x6.toInt < 0 → ∀ o : Int, 1 ≤ o → o < x4.toInt → ¬ zSrc a0 σ o) → zG d L kd A 6 p l e (k2_rm 3 (100 * 3)) s m args below meth c Q τ7 8 [(4, .int x4), (3, .int x5), (2, .int x6), (0, .ref a0), (1, .int p1)] [] := by
    intro nLp7
    induction nLp7 with
    | zero => intro τ7 x4 x5 x6 hI hS gL_Lp7 M_Lp7 A54_Lp7 E  hxLp7 hm _ ; exact absurd hm (by omega)
    | succ nLp7 ihLp7 =>
      intro τ7 x4 x5 x6 hI hS gL_Lp7 M_Lp7 A54_Lp7 E  hxLp7 hmLp7 hs
      rw [F_X11_winnerBy_8] at E
      refine zg_iload X 0 rfl dX11_winnerBy_8 ?_
      refine zg_aload_n X 3 rfl dX11_winnerBy_10 ?_
      refine zg_cVi (As := []) (st := [.int x4]) X ha0 rfl (by decide) rfl (t_X11_many l d L kd κ _ hI a0 ha0   ) mk_X11_313 mc_X11_many mz_X11 mi_X11_many ml_X11_many (na := 0) ⟨md_X11.1, md_X11.2, by decide +kernel⟩ rfl ⟨by decide, by decide⟩ (Nat.le_of_ble_eq_true rfl) dX11_winnerBy_11 (fun v9 t8 hq => ?_)
      obtain ⟨⟨hF, ⟨ht8_res, ht8_fact0⟩⟩, rfl⟩ := hq
      replace E := zLet_s hF E
      refine zg_icmp_ge X 63 dX11_winnerBy_14 (by decide) (fun c10 => ?_) (fun c10 => ?_)
      · skip
        replace E := zIf_f (Int.not_lt.mpr c10) E
        refine zg_iload_n X 2 rfl dX11_winnerBy_63 ?_
        exact ret _ _ _ _ dX11_winnerBy_64 rfl ⟨E.symm.trans hR, ⟨⟨⟨by omega, by omega⟩, (by omega), (fun h0 o h3 => hs h0 o h3.1 (by have := h3.2.1; omega) h3)⟩, hI, hS⟩⟩
      · skip
        replace E := zIf_t c10 E
        refine zg_aload_n X 3 rfl dX11_winnerBy_17 ?_
        refine zg_iload X 0 rfl dX11_winnerBy_18 ?_
        refine zg_cVi (As := [.int x4]) (st := []) X ha0 rfl (by decide) rfl (t_X11_isSource l d L kd κ _ hI a0 ha0 x4  ) mk_X11_342 mc_X11_isSource mz_X11 mi_X11_isSource ml_X11_isSource (na := 1) ⟨md_X11.1, md_X11.2, by decide +kernel⟩ rfl ⟨by decide, by decide⟩ (Nat.le_of_ble_eq_true rfl) dX11_winnerBy_20 (fun v12 t11 hq => ?_)
        obtain ⟨⟨hF, ⟨ht11_res, ht11_fact0, ht11_fact1, ht11_fact2⟩⟩, rfl⟩ := hq
        replace E := zLet_s hF E
        have zs : v12.toInt = 0 → ∀ o : Int, o = x4.toInt → ¬ zSrc a0 σ o := fun h0 o e h3 => ht11_fact2 h0 (by have y := zt _ M_Lp7 A54_Lp7 o h3; rw [e] at y; exact y)
        refine zg_if_ne X 29 dX11_winnerBy_23 (by decide) (fun c13 => ?_) (fun c13 => ?_)
        · skip
          replace E := zIf_f c13 E
          refine zg_aload_n X 3 rfl dX11_winnerBy_29 ?_
          refine zg_iload X 0 rfl dX11_winnerBy_30 ?_
          refine zg_iload_n X 4 rfl dX11_winnerBy_32 ?_
          refine zg_cVi (As := [.int x4, .int p1]) (st := []) X ha0 rfl (by decide) rfl (t_X11_claimOf l d L kd κ _ hI a0 ha0 x4 p1  (by omega) (by omega) gL_Lp7) mk_X11_367 mc_X11_claimOf mz_X11 mi_X11_claimOf ml_X11_claimOf (na := 2) ⟨md_X11.1, md_X11.2, by decide +kernel⟩ rfl ⟨by decide, by decide⟩ (Nat.le_of_ble_eq_true rfl) dX11_winnerBy_33 (fun v15 t14 hq => ?_)
          obtain ⟨hF, hI, g16⟩ := hq
          replace E := zLet2_s hF E
          have hS := hS.tr g16 (by decide) (by decide)
          have Mt14 := (zM_same hI ha0 g16 (by decide)).trans M_Lp7
          have at14_54 := (zp_same hI ha0 g16 54 rfl (by decide) (by decide)).trans A54_Lp7
          have gLt14 := gL.same hI ha0 g16 (by decide) gL_Lp7
          refine zg_istore X [(5, .int v15), (4, .int x4), (3, .int x5), (2, .int x6), (0, .ref a0), (1, .int p1)] dX11_winnerBy_36 (by decide) rfl ?_
          refine zg_iload_n X 3 rfl dX11_winnerBy_38 ?_
          refine zg_if_lt X 51 dX11_winnerBy_39 (by decide) (fun c17 => ?_) (fun c17 => ?_)
          · skip
            replace E := zIf_t c17 E
            refine zg_iload X 1 rfl dX11_winnerBy_51 ?_
            refine zg_istore_n X [(2, .int x4), (5, .int v15), (4, .int x4), (3, .int x5), (0, .ref a0), (1, .int p1)] dX11_winnerBy_53 (by decide) rfl ?_
            refine zg_iload X 1 rfl dX11_winnerBy_54 ?_
            refine zg_istore_n X [(3, .int v15), (2, .int x4), (5, .int v15), (4, .int x4), (0, .ref a0), (1, .int p1)] dX11_winnerBy_56 (by decide) rfl ?_
            refine zg_iinc X 1 (fun v18 => [(4, .int v18), (3, .int v15), (2, .int x4), (5, .int v15), (0, .ref a0), (1, .int p1)]) 3 dX11_winnerBy_57 rfl (by decide) (by decide) (by omega) (by omega) (fun _ => rfl) (fun v18 ev18 hv18 => ?_)
            replace E := zLet_s (zinc ev18 (by decide)) E
            refine zg_goto X 8 dX11_winnerBy_60 (by decide) ?_
            refine zg_sub [0, 1, 2, 4, 5] rfl ?_
            exact ihLp7 _ v18 v15 x4 hI hS gLt14 Mt14 at14_54 E  (by omega) (by omega) (fun h0 o h1 h2 h3 => by first | (exfalso; omega) | exact if z : o < v18.toInt - 1 then hs (by omega) o h1 (by omega) h3 else zs (by omega) o (by omega) h3)
          · skip
            replace E := zIf_f (Int.not_lt.mpr c17) E
            refine zg_iload X 0 rfl dX11_winnerBy_42 ?_
            refine zg_iload_n X 2 rfl dX11_winnerBy_44 ?_
            have zv15_z19 := zb_rng v15
            have zx5_z20 := zb_rng x5
            refine zg_icmp_gt X 51 dX11_winnerBy_45 (by decide) (fun c21 => ?_) (fun c21 => ?_)
            · skip
              replace E := zIf_t c21 E
              refine zg_iload X 1 rfl dX11_winnerBy_51 ?_
              refine zg_istore_n X [(2, .int x4), (5, .int v15), (4, .int x4), (3, .int x5), (0, .ref a0), (1, .int p1)] dX11_winnerBy_53 (by decide) rfl ?_
              refine zg_iload X 1 rfl dX11_winnerBy_54 ?_
              refine zg_istore_n X [(3, .int v15), (2, .int x4), (5, .int v15), (4, .int x4), (0, .ref a0), (1, .int p1)] dX11_winnerBy_56 (by decide) rfl ?_
              refine zg_iinc X 1 (fun v22 => [(4, .int v22), (3, .int v15), (2, .int x4), (5, .int v15), (0, .ref a0), (1, .int p1)]) 3 dX11_winnerBy_57 rfl (by decide) (by decide) (by omega) (by omega) (fun _ => rfl) (fun v22 ev22 hv22 => ?_)
              replace E := zLet_s (zinc ev22 (by decide)) E
              refine zg_goto X 8 dX11_winnerBy_60 (by decide) ?_
              refine zg_sub [0, 1, 2, 4, 5] rfl ?_
              exact ihLp7 _ v22 v15 x4 hI hS gLt14 Mt14 at14_54 E  (by omega) (by omega) (fun h0 o h1 h2 h3 => by first | (exfalso; omega) | exact if z : o < v22.toInt - 1 then hs (by omega) o h1 (by omega) h3 else zs (by omega) o (by omega) h3)
            · skip
              replace E := zIf_f (Int.not_lt.mpr c21) E
              refine zg_goto X 57 dX11_winnerBy_48 (by decide) ?_
              refine zg_iinc X 1 (fun v23 => [(4, .int v23), (5, .int v15), (3, .int x5), (2, .int x6), (0, .ref a0), (1, .int p1)]) 1 dX11_winnerBy_57 rfl (by decide) (by decide) (by omega) (by omega) (fun _ => rfl) (fun v23 ev23 hv23 => ?_)
              replace E := zLet_s (zinc ev23 (by decide)) E
              refine zg_goto X 8 dX11_winnerBy_60 (by decide) ?_
              refine zg_sub [0, 2, 3, 4, 5] rfl ?_
              exact ihLp7 _ v23 x5 x6 hI hS gLt14 Mt14 at14_54 E  (by omega) (by omega) (fun h0 o h1 h2 h3 => by first | (exfalso; omega) | exact if z : o < v23.toInt - 1 then hs (by omega) o h1 (by omega) h3 else zs (by omega) o (by omega) h3)
        · skip
          replace E := zIf_t c13 E
          refine zg_goto X 57 dX11_winnerBy_26 (by decide) ?_
          refine zg_iinc X 1 (fun v24 => [(4, .int v24), (3, .int x5), (2, .int x6), (0, .ref a0), (1, .int p1)]) 0 dX11_winnerBy_57 rfl (by decide) (by decide) (by omega) (by omega) (fun _ => rfl) (fun v24 ev24 hv24 => ?_)
          replace E := zLet_s (zinc ev24 (by decide)) E
          refine zg_goto X 8 dX11_winnerBy_60 (by decide) ?_
          refine zg_sub [0, 1, 2, 3, 4] rfl ?_
          exact ihLp7 _ v24 x5 x6 hI hS gL_Lp7 M_Lp7 A54_Lp7 E  (by omega) (by omega) (fun h0 o h1 h2 h3 => by first | (exfalso; omega) | exact if z : o < v24.toInt - 1 then hs (by omega) o h1 (by omega) h3 else zs (by omega) o (by omega) h3)
  refine zg_sub [0, 1, 2, 3, 4] rfl ?_
  exact Lp7 10000 _ v3 v2 v1 hI hS hgL rfl rfl E  (by omega) (by omega) (fun _ o h1 h2 => absurd h2 (by omega))
set_option maxHeartbeats 4000000 in
set_option maxRecDepth 100000 in
theorem t_X11_fillsWays (l : Launch) (d : zD2) (L : List Nat) (kd : Nat → Nat) (κ : Int) (σ : zS) (hI : zJ κ L kd σ) (a0 : Nat) (ha0 : zT L kd a0 11) (hgR : gR a0 σ) : zMv l yX11_fillsWays (Cond.code yX11_fillsWays cX11_fillsWays 3 none :: zWL) 1 [.ref a0] d L kd σ (fun σ2 => σ2 = F_X11_fillsWays a0 σ ∧ ((gB a0 σ2) ∧ zJ κ L kd σ2 ∧ zSame a0 [] [152, 153, 154] L kd σ σ2)) := by
  refine zMv.of (own := RX11) (by decide +kernel) rfl rfl (Nat.le_of_ble_eq_true rfl) ?_
  intro p e s m args below meth c A Q X ret
  have hS : zSame a0 [] [152, 153, 154] L kd σ σ := zSame.rf
  refine zg_lv (lv2 := [(0, .ref a0)]) rfl ?_
  have zm := zM_in hI ha0
  obtain ⟨r, hr, hrb⟩ := gRow.rankB zm.2 (show gRow _ _ from hgR)
  have hf : ∀ a : Int, 1 ≤ a → a < zM a0 σ → 0 ≤ zp a0 σ 49 a ∧ zp a0 σ 49 a < zM a0 σ := fun a h1 h2 => ⟨(hr a h1 h2).1, (hr a h1 h2).2.1⟩
  obtain ⟨R, hR⟩ : ∃ R, R = F_X11_fillsWays a0 σ := ⟨_, rfl⟩
  have E := hR
  unfold F_X11_fillsWays at E
  refine zg_iconst X 0 dX11_fillsWays_0 (by decide) (fun v1 _ hv1 => ?_)
  replace E := zLet_s (zcst hv1 (by decide)) E
  refine zg_istore_n X [(1, .int v1), (0, .ref a0)] dX11_fillsWays_1 (by decide) rfl ?_
  have Lp3 : ∀ (nLp3 : Nat) (τ3 : zS) (x2 : Int32), zJ κ L kd τ3 → zSame a0 [] [152, 153, 154] L kd σ τ3 → gR a0 τ3 → zM a0 τ3 = zM a0 σ → zp a0 τ3 49 = zp a0 σ 49 → R = F_X11_fillsWays_2 a0  nLp3 x2 τ3 → 0 ≤ x2.toInt ∧ x2.toInt ≤ 12 → (12) - x2.toInt + 1 < (nLp3 : Int) → (∀ j : Int, 0 ≤ j → j < x2.toInt → zp a0 τ3 54 j = 0) → zG d L kd A 3 p l e (k2_rm 1 (100 * 1)) s m args below meth c Q τ3 2 [(1, .int x2), (0, .ref a0)] [] := by
    intro nLp3
    induction nLp3 with
    | zero => intro τ3 x2 hI hS gR_Lp3 M_Lp3 A49_Lp3 E  hxLp3 hm _ ; exact absurd hm (by omega)
    | succ nLp3 ihLp3 =>
      intro τ3 x2 hI hS gR_Lp3 M_Lp3 A49_Lp3 E  hxLp3 hmLp3 hc
      rw [F_X11_fillsWays_2] at E
      refine zg_iload_n X 0 rfl dX11_fillsWays_2 ?_
      refine zg_aload_n X 1 rfl dX11_fillsWays_3 ?_
      refine zg_cVi (As := []) (st := [.int x2]) X ha0 rfl (by decide) rfl (t_X11_many l d L kd κ _ hI a0 ha0   ) mk_X11_313 mc_X11_many mz_X11 mi_X11_many ml_X11_many (na := 0) ⟨md_X11.1, md_X11.2, by decide +kernel⟩ rfl ⟨by decide, by decide⟩ (Nat.le_of_ble_eq_true rfl) dX11_fillsWays_4 (fun v5 t4 hq => ?_)
      obtain ⟨⟨hF, ⟨ht4_res, ht4_fact0⟩⟩, rfl⟩ := hq
      replace E := zLet_s hF E
      refine zg_icmp_ge X 23 dX11_fillsWays_7 (by decide) (fun c6 => ?_) (fun c6 => ?_)
      · skip
        replace E := zIf_f (Int.not_lt.mpr c6) E
        refine zg_iconst X 0 dX11_fillsWays_23 (by decide) (fun v7 _ hv7 => ?_)
        replace E := zLet_s (zcst hv7 (by decide)) E
        refine zg_istore_n X [(1, .int v7), (0, .ref a0)] dX11_fillsWays_24 (by decide) rfl ?_
        have Lp9 : ∀ (nLp9 : Nat) (τ9 : zS) (x8 : Int32), zJ κ L kd τ9 → zSame a0 [] [152, 153, 154] L kd σ τ9 → gR a0 τ9 → zM a0 τ9 = zM a0 σ → zp a0 τ9 49 = zp a0 σ 49 → R = F_X11_fillsWays_25 a0 (F_X11_fillsWays_2 a0  nLp3) nLp9 x8 τ9 → 0 ≤ x8.toInt ∧ x8.toInt ≤ 12 → (12) - x8.toInt + 1 < (nLp9 : Int) → (gW1 (zM a0 σ) (zp a0 σ 49) (zp a0 τ9 54) x8.toInt) → zG d L kd A 3 p l e (k2_rm 1 (100 * 1)) s m args below meth c Q τ9 25 [(1, .int x8), (0, .ref a0)] [] := by
          intro nLp9
          induction nLp9 with
          | zero => intro τ9 x8 hI hS gR_Lp9 M_Lp9 A49_Lp9 E  hxLp9 hm _ ; exact absurd hm (by omega)
          | succ nLp9 ihLp9 =>
            intro τ9 x8 hI hS gR_Lp9 M_Lp9 A49_Lp9 E  hxLp9 hmLp9 hw
            rw [F_X11_fillsWays_25] at E
            refine zg_iload_n X 0 rfl dX11_fillsWays_25 ?_
            refine zg_aload_n X 1 rfl dX11_fillsWays_26 ?_
            refine zg_cVi (As := []) (st := [.int x8]) X ha0 rfl (by decide) rfl (t_X11_many l d L kd κ _ hI a0 ha0   ) mk_X11_313 mc_X11_many mz_X11 mi_X11_many ml_X11_many (na := 0) ⟨md_X11.1, md_X11.2, by decide +kernel⟩ rfl ⟨by decide, by decide⟩ (Nat.le_of_ble_eq_true rfl) dX11_fillsWays_27 (fun v11 t10 hq => ?_)
            obtain ⟨⟨hF, ⟨ht10_res, ht10_fact0⟩⟩, rfl⟩ := hq
            replace E := zLet_s hF E
            refine zg_icmp_ge X 126 dX11_fillsWays_30 (by decide) (fun c12 => ?_) (fun c12 => ?_)
            · skip
              replace E := zIf_f (Int.not_lt.mpr c12) E
              exact ret _ _ _ dX11_fillsWays_126 ⟨E.symm.trans hR, ⟨(by unfold gB; rw [M_Lp9, A49_Lp9]; exact fun o h0 h1 => hw.1 o h0 (by omega)), hI, hS⟩⟩
            · skip
              replace E := zIf_t c12 E
              refine zg_aload_n X 1 rfl dX11_fillsWays_33 ?_
              refine fg_X11_113 X hI ha0 dX11_fillsWays_34 (fun v13 ev13 hv13 => ?_)
              replace E := zLet_s (zgr ev13) E
              refine zg_iload_n X 0 rfl dX11_fillsWays_37 ?_
              refine zg_iconst X 0 dX11_fillsWays_38 (by decide) (fun v14 _ hv14 => ?_)
              replace E := zLet_s (zcst hv14 (by decide)) E
              refine as_152 X hI hv13 (by omega) (by omega) dX11_fillsWays_39 (fun s15 es15 hI => ?_)
              replace E := zLet_s es15 E
              have g16 := (zSame.rf (o := a0) (Wf := []) (Wa := [152]) (L := L) (kd := kd) (σ := τ9)).a ha0 hv13 es15 rfl (by decide)
              have hS := hS.tr g16 (by decide) (by decide)
              have Ms15 := (zM_same hI ha0 g16 (by decide)).trans M_Lp9
              have as15_49 := (zp_same hI ha0 g16 49 rfl (by decide) (by decide)).trans A49_Lp9
              have as15_54 := zp_same hI ha0 g16 54 rfl (by decide) (by decide)
              have gRs15 := gR.same hI ha0 g16 (by decide) gR_Lp9
              refine zg_aload_n X 1 rfl dX11_fillsWays_40 ?_
              refine fg_X11_116 X hI ha0 dX11_fillsWays_41 (fun v17 ev17 hv17 => ?_)
              replace E := zLet_s (zgr ev17) E
              refine zg_iload_n X 0 rfl dX11_fillsWays_44 ?_
              refine zg_iconst X 0 dX11_fillsWays_45 (by decide) (fun v18 _ hv18 => ?_)
              replace E := zLet_s (zcst hv18 (by decide)) E
              refine as_153 X hI hv17 (by omega) (by omega) dX11_fillsWays_46 (fun s19 es19 hI => ?_)
              replace E := zLet_s es19 E
              have g20 := (zSame.rf (o := a0) (Wf := []) (Wa := [153]) (L := L) (kd := kd) (σ := s15)).a ha0 hv17 es19 rfl (by decide)
              have hS := hS.tr g20 (by decide) (by decide)
              have Ms19 := (zM_same hI ha0 g20 (by decide)).trans Ms15
              have as19_49 := (zp_same hI ha0 g20 49 rfl (by decide) (by decide)).trans as15_49
              have as19_54 := (zp_same hI ha0 g20 54 rfl (by decide) (by decide)).trans as15_54
              have gRs19 := gR.same hI ha0 g20 (by decide) gRs15
              refine zg_iload_n X 0 rfl dX11_fillsWays_47 ?_
              refine zg_istore_n X [(2, .int x8), (1, .int x8), (0, .ref a0)] dX11_fillsWays_48 (by decide) rfl ?_
              refine zg_aload_n X 2 rfl dX11_fillsWays_49 ?_
              refine fg_X11_119 X hI ha0 dX11_fillsWays_50 (fun v21 ev21 hv21 => ?_)
              replace E := zLet_s (zgr ev21) E
              refine zg_iload_n X 1 rfl dX11_fillsWays_53 ?_
              refine zg_dup2 X dX11_fillsWays_54 rfl rfl ?_
              refine ag_154 X hI hv21 (by omega) (by omega) dX11_fillsWays_55 (fun v22 ev22 _ => ?_)
              replace E := zLet_s ev22 E
              have qv22 := zp_ld ev21 ev22
              rw [as19_54] at qv22
              refine zg_iconst X 1 dX11_fillsWays_56 (by decide) (fun v23 _ hv23 => ?_)
              replace E := zLet_s (zcst hv23 (by decide)) E
              refine zg_iload_n X 1 rfl dX11_fillsWays_57 ?_
              refine zg_ishlW X dX11_fillsWays_58 (fun v24 ev24 => ?_)
              replace E := zLet_s ev24 E
              refine zg_iorW X dX11_fillsWays_59 (fun v25 ev25 => ?_)
              replace E := zLet_s ev25 E
              refine as_154 X hI hv21 (by omega) (by omega) dX11_fillsWays_60 (fun s26 es26 hI => ?_)
              replace E := zLet_s es26 E
              have g27 := (zSame.rf (o := a0) (Wf := []) (Wa := [154]) (L := L) (kd := kd) (σ := s19)).a ha0 hv21 es26 rfl (by decide)
              have rs26 := zp_st (σ := s19) (σ2 := s26) (i := x8) (x := v25) ev21 es26 (by omega)
              have ws26 := rs26
              rw [as19_54] at ws26
              have hS := hS.tr g27 (by decide) (by decide)
              have Ms26 := (zM_same hI ha0 g27 (by decide)).trans Ms19
              have as26_49 := (zp_same hI ha0 g27 49 rfl (by decide) (by decide)).trans as19_49
              have gRs26 := gR.same hI ha0 g27 (by decide) gRs19
              have Lp29 : ∀ (nLp29 : Nat) (τ29 : zS) (x28 : Int32), zJ κ L kd τ29 → zSame a0 [] [152, 153, 154] L kd σ τ29 → gR a0 τ29 → zM a0 τ29 = zM a0 σ → zp a0 τ29 49 = zp a0 σ 49 → R = F_X11_fillsWays_61 x8 a0 (F_X11_fillsWays_2 a0  nLp3) (F_X11_fillsWays_25 a0 (F_X11_fillsWays_2 a0  nLp3) nLp9) nLp29 x28 τ29 → 0 ≤ x28.toInt ∧ x28.toInt ≤ 11 ∧ x28.toInt < zM a0 σ → (r x28.toInt : Int) < (nLp29 : Int) → (gW2 (zM a0 σ) (zp a0 σ 49) (zp a0 τ29 54) x8.toInt x28.toInt) → zG d L kd A 3 p l e (k2_rm 1 (100 * 1)) s m args below meth c Q τ29 61 [(2, .int x28), (1, .int x8), (0, .ref a0)] [] := by
                intro nLp29
                induction nLp29 with
                | zero => intro τ29 x28 hI hS gR_Lp29 M_Lp29 A49_Lp29 E  hxLp29 hm _ ; exact absurd hm (by omega)
                | succ nLp29 ihLp29 =>
                  intro τ29 x28 hI hS gR_Lp29 M_Lp29 A49_Lp29 E  hxLp29 hmLp29 hw2
                  rw [F_X11_fillsWays_61] at E
                  refine zg_iload_n X 0 rfl dX11_fillsWays_61 ?_
                  refine zg_if_le X 120 dX11_fillsWays_62 (by decide) (fun c30 => ?_) (fun c30 => ?_)
                  · skip
                    replace E := zIf_f (Int.not_lt.mpr c30) E
                    refine zg_iinc X 1 (fun v31 => [(1, .int v31), (2, .int x28), (0, .ref a0)]) 1 dX11_fillsWays_120 rfl (by decide) (by decide) (by omega) (by omega) (fun _ => rfl) (fun v31 ev31 hv31 => ?_)
                    replace E := zLet_s (zinc ev31 (by decide)) E
                    refine zg_goto X 25 dX11_fillsWays_123 (by decide) ?_
                    refine zg_sub [0, 2] rfl ?_
                    exact ihLp9 _ v31 hI hS gR_Lp29 M_Lp29 A49_Lp29 E  (by omega) (by omega) (hw2.done zm.2 (by omega) (by omega))
                  · skip
                    replace E := zIf_t c30 E
                    have zr := hr x28.toInt (by omega) (by omega)
                    refine zg_aload_n X 2 rfl dX11_fillsWays_65 ?_
                    refine fg_X11_113 X hI ha0 dX11_fillsWays_66 (fun v32 ev32 hv32 => ?_)
                    replace E := zLet_s (zgr ev32) E
                    refine zg_iload_n X 1 rfl dX11_fillsWays_69 ?_
                    refine zg_dup2 X dX11_fillsWays_70 rfl rfl ?_
                    refine ag_152 X hI hv32 (by omega) (by omega) dX11_fillsWays_71 (fun v33 ev33 _ => ?_)
                    replace E := zLet_s ev33 E
                    refine zg_aload_n X 2 rfl dX11_fillsWays_72 ?_
                    refine fg_X11_49 X hI ha0 dX11_fillsWays_73 (fun v34 ev34 hv34 => ?_)
                    replace E := zLet_s (zgr ev34) E
                    refine zg_bipush X 12 dX11_fillsWays_76 (by decide) (fun v35 _ hv35 => ?_)
                    replace E := zLet_s (zcst hv35 (by decide)) E
                    refine zg_aload_n X 2 rfl dX11_fillsWays_78 ?_
                    refine fg_X11_236 X hI ha0 dX11_fillsWays_79 (fun v36 ev36 hv36 => ?_)
                    replace E := zLet_s ev36 E
                    refine zg_imulc X 12 dX11_fillsWays_82 (by omega) (by omega) (by omega) (fun v37 ev37 hv37 => ?_)
                    replace E := zLet_s ev37 E
                    refine zg_iload_n X 0 rfl dX11_fillsWays_83 ?_
                    refine zg_iadd X dX11_fillsWays_84 (by omega) (by omega) (fun v38 ev38 hv38 => ?_)
                    replace E := zLet_s ev38 E
                    refine ag_123 X hI hv34 (by omega) (by omega) dX11_fillsWays_85 (fun v39 ev39 _ => ?_)
                    replace E := zLet_s ev39 E
                    refine zg_iaddW X dX11_fillsWays_86 (fun v40 ev40 => ?_)
                    replace E := zLet_s ev40 E
                    refine as_152 X hI hv32 (by omega) (by omega) dX11_fillsWays_87 (fun s41 es41 hI => ?_)
                    replace E := zLet_s es41 E
                    have g42 := (zSame.rf (o := a0) (Wf := []) (Wa := [152]) (L := L) (kd := kd) (σ := τ29)).a ha0 hv32 es41 rfl (by decide)
                    have hS := hS.tr g42 (by decide) (by decide)
                    have Ms41 := (zM_same hI ha0 g42 (by decide)).trans M_Lp29
                    have as41_49 := (zp_same hI ha0 g42 49 rfl (by decide) (by decide)).trans A49_Lp29
                    have as41_54 := zp_same hI ha0 g42 54 rfl (by decide) (by decide)
                    have gRs41 := gR.same hI ha0 g42 (by decide) gR_Lp29
                    refine zg_aload_n X 2 rfl dX11_fillsWays_88 ?_
                    refine fg_X11_116 X hI ha0 dX11_fillsWays_89 (fun v44 ev44 hv44 => ?_)
                    replace E := zLet_s (zgr ev44) E
                    refine zg_iload_n X 1 rfl dX11_fillsWays_92 ?_
                    refine zg_dup2 X dX11_fillsWays_93 rfl rfl ?_
                    refine ag_153 X hI hv44 (by omega) (by omega) dX11_fillsWays_94 (fun v45 ev45 _ => ?_)
                    replace E := zLet_s ev45 E
                    refine zg_iconst X 1 dX11_fillsWays_95 (by decide) (fun v46 _ hv46 => ?_)
                    replace E := zLet_s (zcst hv46 (by decide)) E
                    refine zg_iaddW X dX11_fillsWays_96 (fun v47 ev47 => ?_)
                    replace E := zLet_s ev47 E
                    refine as_153 X hI hv44 (by omega) (by omega) dX11_fillsWays_97 (fun s48 es48 hI => ?_)
                    replace E := zLet_s es48 E
                    have g49 := (zSame.rf (o := a0) (Wf := []) (Wa := [153]) (L := L) (kd := kd) (σ := s41)).a ha0 hv44 es48 rfl (by decide)
                    have hS := hS.tr g49 (by decide) (by decide)
                    have Ms48 := (zM_same hI ha0 g49 (by decide)).trans Ms41
                    have as48_49 := (zp_same hI ha0 g49 49 rfl (by decide) (by decide)).trans as41_49
                    have as48_54 := (zp_same hI ha0 g49 54 rfl (by decide) (by decide)).trans as41_54
                    have gRs48 := gR.same hI ha0 g49 (by decide) gRs41
                    refine zg_aload_n X 2 rfl dX11_fillsWays_98 ?_
                    refine fg_X11_110 X hI ha0 dX11_fillsWays_99 (fun v51 ev51 hv51 => ?_)
                    replace E := zLet_s (zgr ev51) E
                    refine zg_iload_n X 0 rfl dX11_fillsWays_102 ?_
                    refine ag_149 X hI hv51 (by omega) (by omega) dX11_fillsWays_103 (fun v52 ev52 _ => ?_)
                    replace E := zLet_s ev52 E
                    have qv52 := zp_ld ev51 ev52
                    rw [as48_49] at qv52
                    rw [← qv52] at zr
                    refine zg_istore_n X [(2, .int v52), (1, .int x8), (0, .ref a0)] dX11_fillsWays_104 (by decide) rfl ?_
                    refine zg_aload_n X 2 rfl dX11_fillsWays_105 ?_
                    refine fg_X11_119 X hI ha0 dX11_fillsWays_106 (fun v53 ev53 hv53 => ?_)
                    replace E := zLet_s (zgr ev53) E
                    refine zg_iload_n X 0 rfl dX11_fillsWays_109 ?_
                    refine zg_dup2 X dX11_fillsWays_110 rfl rfl ?_
                    refine ag_154 X hI hv53 (by omega) (by omega) dX11_fillsWays_111 (fun v54 ev54 _ => ?_)
                    replace E := zLet_s ev54 E
                    have qv54 := zp_ld ev53 ev54
                    rw [as48_54] at qv54
                    refine zg_iconst X 1 dX11_fillsWays_112 (by decide) (fun v55 _ hv55 => ?_)
                    replace E := zLet_s (zcst hv55 (by decide)) E
                    refine zg_iload_n X 1 rfl dX11_fillsWays_113 ?_
                    refine zg_ishlW X dX11_fillsWays_114 (fun v56 ev56 => ?_)
                    replace E := zLet_s ev56 E
                    refine zg_iorW X dX11_fillsWays_115 (fun v57 ev57 => ?_)
                    replace E := zLet_s ev57 E
                    refine as_154 X hI hv53 (by omega) (by omega) dX11_fillsWays_116 (fun s58 es58 hI => ?_)
                    replace E := zLet_s es58 E
                    have g59 := (zSame.rf (o := a0) (Wf := []) (Wa := [154]) (L := L) (kd := kd) (σ := s48)).a ha0 hv53 es58 rfl (by decide)
                    have rs58 := zp_st (σ := s48) (σ2 := s58) (i := v52) (x := v57) ev53 es58 (by omega)
                    have ws58 := rs58
                    rw [as48_54] at ws58
                    have hS := hS.tr g59 (by decide) (by decide)
                    have Ms58 := (zM_same hI ha0 g59 (by decide)).trans Ms48
                    have as58_49 := (zp_same hI ha0 g59 49 rfl (by decide) (by decide)).trans as48_49
                    have gRs58 := gR.same hI ha0 g59 (by decide) gRs48
                    refine zg_goto X 61 dX11_fillsWays_117 (by decide) ?_
                    refine zg_sub [0, 1, 2] rfl ?_
                    exact ihLp29 _ v52 hI hS gRs58 Ms58 as58_49 E  (by omega) (by omega) (gW2.go hf (b := zp a0 _ 54) hw2 (by omega) (by omega) zm.2 (by omega) (by omega) (by omega) (zbt_upd ws58 qv54 ev56 ev57 (by omega) (by omega) (by omega)))
              refine zg_sub [0, 1, 2] rfl ?_
              have zrb := hrb x8.toInt
              exact Lp29 10000 _ x8 hI hS gRs26 Ms26 as26_49 E  (by omega) (by omega) (gW1.go hf (b := zp a0 _ 54) hw (by omega) (by omega) zm.2 (zbt_upd ws26 qv22 ev24 ev25 (by omega) (by omega) (by omega)))
        refine zg_sub [0, 1] rfl ?_
        exact Lp9 10000 _ v7 hI hS gR_Lp3 M_Lp3 A49_Lp3 E  (by omega) (by omega) (by rw [show v7.toInt = 0 by omega]; exact gW1.z (fun j h0 h1 => hc j h0 (by omega)))
      · skip
        replace E := zIf_t c6 E
        refine zg_aload_n X 1 rfl dX11_fillsWays_10 ?_
        refine fg_X11_119 X hI ha0 dX11_fillsWays_11 (fun v61 ev61 hv61 => ?_)
        replace E := zLet_s (zgr ev61) E
        refine zg_iload_n X 0 rfl dX11_fillsWays_14 ?_
        refine zg_iconst X 0 dX11_fillsWays_15 (by decide) (fun v62 _ hv62 => ?_)
        replace E := zLet_s (zcst hv62 (by decide)) E
        refine as_154 X hI hv61 (by omega) (by omega) dX11_fillsWays_16 (fun s63 es63 hI => ?_)
        replace E := zLet_s es63 E
        have g64 := (zSame.rf (o := a0) (Wf := []) (Wa := [154]) (L := L) (kd := kd) (σ := τ3)).a ha0 hv61 es63 rfl (by decide)
        have rs63 := zp_st (σ := τ3) (σ2 := s63) (i := x2) (x := v62) ev61 es63 (by omega)
        have ws63 := rs63
        have hS := hS.tr g64 (by decide) (by decide)
        have Ms63 := (zM_same hI ha0 g64 (by decide)).trans M_Lp3
        have as63_49 := (zp_same hI ha0 g64 49 rfl (by decide) (by decide)).trans A49_Lp3
        have gRs63 := gR.same hI ha0 g64 (by decide) gR_Lp3
        refine zg_iinc X 1 (fun v65 => [(1, .int v65), (0, .ref a0)]) 0 dX11_fillsWays_17 rfl (by decide) (by decide) (by omega) (by omega) (fun _ => rfl) (fun v65 ev65 hv65 => ?_)
        replace E := zLet_s (zinc ev65 (by decide)) E
        refine zg_goto X 2 dX11_fillsWays_20 (by decide) ?_
        refine zg_sub [0, 1] rfl ?_
        exact ihLp3 _ v65 hI hS gRs63 Ms63 as63_49 E  (by omega) (by omega) (fun j h0 h1 => by rw [ws63 j h0]; split <;> rename_i hj <;> first | omega | exact hc j h0 (by omega))
  refine zg_sub [0, 1] rfl ?_
  exact Lp3 10000 _ v1 hI hS hgR rfl rfl E  (by omega) (by omega) (fun j h0 h1 => absurd h1 (by omega))
set_option maxHeartbeats 4000000 in
set_option maxRecDepth 100000 in
theorem t_X11_fillsFlows (l : Launch) (d : zD2) (L : List Nat) (kd : Nat → Nat) (κ : Int) (σ : zS) (hI : zJ κ L kd σ) (a0 : Nat) (ha0 : zT L kd a0 11) (p1 : Int32) (hgR : gR a0 σ) (hgL : gL a0 σ) : zMv l yX11_fillsFlows (Cond.code yX11_fillsFlows cX11_fillsFlows 5 none :: zWL) 3 [.ref a0, .int p1] d L kd σ (fun σ2 => σ2 = F_X11_fillsFlows a0 p1 σ ∧ (zJ κ L kd σ2 ∧ zSame a0 [47] [145, 146, 155] L kd σ σ2)) := by
  refine zMv.of (own := RX11) (by decide +kernel) rfl rfl (Nat.le_of_ble_eq_true rfl) ?_
  intro p e s m args below meth c A Q X ret
  have hS : zSame a0 [47] [145, 146, 155] L kd σ σ := zSame.rf
  refine zg_lv (lv2 := [(0, .ref a0), (1, .int p1)]) rfl ?_
  have zm := zM_in hI ha0
  obtain ⟨R, hR⟩ : ∃ R, R = F_X11_fillsFlows a0 p1 σ := ⟨_, rfl⟩
  have E := hR
  unfold F_X11_fillsFlows at E
  refine zg_iconst X 0 dX11_fillsFlows_0 (by decide) (fun v1 _ hv1 => ?_)
  replace E := zLet_s (zcst hv1 (by decide)) E
  refine zg_istore_n X [(2, .int v1), (0, .ref a0), (1, .int p1)] dX11_fillsFlows_1 (by decide) rfl ?_
  have Lp3 : ∀ (nLp3 : Nat) (τ3 : zS) (x2 : Int32), zJ κ L kd τ3 → zSame a0 [47] [145, 146, 155] L kd σ τ3 → gL a0 τ3 → gR a0 τ3 → zM a0 τ3 = zM a0 σ → zp a0 τ3 49 = zp a0 σ 49 → R = F_X11_fillsFlows_2 a0 p1  nLp3 x2 τ3 → 0 ≤ x2.toInt ∧ x2.toInt ≤ 12 → (12) - x2.toInt + 1 < (nLp3 : Int) → zG d L kd A 5 p l e (k2_rm 3 (100 * 3)) s m args below meth c Q τ3 2 [(2, .int x2), (0, .ref a0), (1, .int p1)] [] := by
    intro nLp3
    induction nLp3 with
    | zero => intro τ3 x2 hI hS gL_Lp3 gR_Lp3 M_Lp3 A49_Lp3 E  hxLp3 hm ; exact absurd hm (by omega)
    | succ nLp3 ihLp3 =>
      intro τ3 x2 hI hS gL_Lp3 gR_Lp3 M_Lp3 A49_Lp3 E  hxLp3 hmLp3 
      rw [F_X11_fillsFlows_2] at E
      refine zg_iload_n X 0 rfl dX11_fillsFlows_2 ?_
      refine zg_aload_n X 1 rfl dX11_fillsFlows_3 ?_
      refine zg_cVi (As := []) (st := [.int x2]) X ha0 rfl (by decide) rfl (t_X11_many l d L kd κ _ hI a0 ha0   ) mk_X11_313 mc_X11_many mz_X11 mi_X11_many ml_X11_many (na := 0) ⟨md_X11.1, md_X11.2, by decide +kernel⟩ rfl ⟨by decide, by decide⟩ (Nat.le_of_ble_eq_true rfl) dX11_fillsFlows_4 (fun v5 t4 hq => ?_)
      obtain ⟨⟨hF, ⟨ht4_res, ht4_fact0⟩⟩, rfl⟩ := hq
      replace E := zLet_s hF E
      refine zg_icmp_ge X 29 dX11_fillsFlows_7 (by decide) (fun c6 => ?_) (fun c6 => ?_)
      · skip
        replace E := zIf_f (Int.not_lt.mpr c6) E
        refine zg_bipush X 11 dX11_fillsFlows_29 (by decide) (fun v7 _ hv7 => ?_)
        replace E := zLet_s (zcst hv7 (by decide)) E
        refine zg_istore_n X [(2, .int v7), (0, .ref a0), (1, .int p1)] dX11_fillsFlows_31 (by decide) rfl ?_
        have Lp9 : ∀ (nLp9 : Nat) (τ9 : zS) (x8 : Int32), zJ κ L kd τ9 → zSame a0 [47] [145, 146, 155] L kd σ τ9 → gL a0 τ9 → gR a0 τ9 → zM a0 τ9 = zM a0 σ → zp a0 τ9 49 = zp a0 σ 49 → R = F_X11_fillsFlows_32 a0 p1 (F_X11_fillsFlows_2 a0 p1  nLp3) nLp9 x8 τ9 → 0 ≤ x8.toInt ∧ x8.toInt ≤ 11 → x8.toInt + 1 < (nLp9 : Int) → zG d L kd A 5 p l e (k2_rm 3 (100 * 3)) s m args below meth c Q τ9 32 [(2, .int x8), (0, .ref a0), (1, .int p1)] [] := by
          intro nLp9
          induction nLp9 with
          | zero => intro τ9 x8 hI hS gL_Lp9 gR_Lp9 M_Lp9 A49_Lp9 E  hxLp9 hm ; exact absurd hm (by omega)
          | succ nLp9 ihLp9 =>
            intro τ9 x8 hI hS gL_Lp9 gR_Lp9 M_Lp9 A49_Lp9 E  hxLp9 hmLp9 
            rw [F_X11_fillsFlows_32] at E
            refine zg_iload_n X 0 rfl dX11_fillsFlows_32 ?_
            refine zg_if_le X 114 dX11_fillsFlows_33 (by decide) (fun c10 => ?_) (fun c10 => ?_)
            · skip
              replace E := zIf_f (Int.not_lt.mpr c10) E
              exact ret _ _ _ dX11_fillsFlows_114 ⟨E.symm.trans hR, ⟨hI, hS⟩⟩
            · skip
              replace E := zIf_t c10 E
              refine zg_iconst X 1 dX11_fillsFlows_36 (by decide) (fun v11 _ hv11 => ?_)
              replace E := zLet_s (zcst hv11 (by decide)) E
              refine zg_istore_n X [(3, .int v11), (2, .int x8), (0, .ref a0), (1, .int p1)] dX11_fillsFlows_37 (by decide) rfl ?_
              have Lp13 : ∀ (nLp13 : Nat) (τ13 : zS) (x12 : Int32), zJ κ L kd τ13 → zSame a0 [47] [145, 146, 155] L kd σ τ13 → gL a0 τ13 → gR a0 τ13 → zM a0 τ13 = zM a0 σ → zp a0 τ13 49 = zp a0 σ 49 → R = F_X11_fillsFlows_38 x8 a0 p1 (F_X11_fillsFlows_2 a0 p1  nLp3) (F_X11_fillsFlows_32 a0 p1 (F_X11_fillsFlows_2 a0 p1  nLp3) nLp9) nLp13 x12 τ13 → 1 ≤ x12.toInt ∧ x12.toInt ≤ 12 → (12) - x12.toInt + 1 < (nLp13 : Int) → zG d L kd A 5 p l e (k2_rm 3 (100 * 3)) s m args below meth c Q τ13 38 [(3, .int x12), (2, .int x8), (0, .ref a0), (1, .int p1)] [] := by
                intro nLp13
                induction nLp13 with
                | zero => intro τ13 x12 hI hS gL_Lp13 gR_Lp13 M_Lp13 A49_Lp13 E  hxLp13 hm ; exact absurd hm (by omega)
                | succ nLp13 ihLp13 =>
                  intro τ13 x12 hI hS gL_Lp13 gR_Lp13 M_Lp13 A49_Lp13 E  hxLp13 hmLp13 
                  rw [F_X11_fillsFlows_38] at E
                  refine zg_iload_n X 0 rfl dX11_fillsFlows_38 ?_
                  refine zg_aload_n X 2 rfl dX11_fillsFlows_39 ?_
                  refine zg_cVi (As := []) (st := [.int x12]) X ha0 rfl (by decide) rfl (t_X11_many l d L kd κ _ hI a0 ha0   ) mk_X11_313 mc_X11_many mz_X11 mi_X11_many ml_X11_many (na := 0) ⟨md_X11.1, md_X11.2, by decide +kernel⟩ rfl ⟨by decide, by decide⟩ (Nat.le_of_ble_eq_true rfl) dX11_fillsFlows_40 (fun v15 t14 hq => ?_)
                  obtain ⟨⟨hF, ⟨ht14_res, ht14_fact0⟩⟩, rfl⟩ := hq
                  replace E := zLet_s hF E
                  refine zg_icmp_ge X 108 dX11_fillsFlows_43 (by decide) (fun c16 => ?_) (fun c16 => ?_)
                  · skip
                    replace E := zIf_f (Int.not_lt.mpr c16) E
                    refine zg_iinc X (-1) (fun v17 => [(2, .int v17), (3, .int x12), (0, .ref a0), (1, .int p1)]) 1 dX11_fillsFlows_108 rfl (by decide) (by decide) (by omega) (by omega) (fun _ => rfl) (fun v17 ev17 hv17 => ?_)
                    replace E := zLet_s (zinc ev17 (by decide)) E
                    refine zg_goto X 32 dX11_fillsFlows_111 (by decide) ?_
                    refine zg_sub [0, 2, 3] rfl ?_
                    exact ihLp9 _ v17 hI hS gL_Lp13 gR_Lp13 M_Lp13 A49_Lp13 E  (by omega) (by omega) 
                  · skip
                    replace E := zIf_t c16 E
                    refine zg_aload_n X 2 rfl dX11_fillsFlows_46 ?_
                    refine fg_X11_116 X hI ha0 dX11_fillsFlows_47 (fun v18 ev18 hv18 => ?_)
                    replace E := zLet_s (zgr ev18) E
                    refine zg_iload_n X 0 rfl dX11_fillsFlows_50 ?_
                    refine ag_153 X hI hv18 (by omega) (by omega) dX11_fillsFlows_51 (fun v19 ev19 _ => ?_)
                    replace E := zLet_s ev19 E
                    refine zg_iload_n X 1 rfl dX11_fillsFlows_52 ?_
                    refine zg_icmp_ne X 102 dX11_fillsFlows_53 (by decide) (fun c20 => ?_) (fun c20 => ?_)
                    · skip
                      replace E := zIf_f c20 E
                      refine zg_iinc X 1 (fun v21 => [(3, .int v21), (2, .int x8), (0, .ref a0), (1, .int p1)]) 0 dX11_fillsFlows_102 rfl (by decide) (by decide) (by omega) (by omega) (fun _ => rfl) (fun v21 ev21 hv21 => ?_)
                      replace E := zLet_s (zinc ev21 (by decide)) E
                      refine zg_goto X 38 dX11_fillsFlows_105 (by decide) ?_
                      refine zg_sub [0, 1, 2, 3] rfl ?_
                      exact ihLp13 _ v21 hI hS gL_Lp13 gR_Lp13 M_Lp13 A49_Lp13 E  (by omega) (by omega) 
                    · skip
                      replace E := zIf_t c20 E
                      refine zg_aload_n X 2 rfl dX11_fillsFlows_56 ?_
                      refine fg_X11_110 X hI ha0 dX11_fillsFlows_57 (fun v22 ev22 hv22 => ?_)
                      replace E := zLet_s (zgr ev22) E
                      refine zg_bipush X 12 dX11_fillsFlows_60 (by decide) (fun v23 _ hv23 => ?_)
                      replace E := zLet_s (zcst hv23 (by decide)) E
                      refine zg_iload_n X 0 rfl dX11_fillsFlows_62 ?_
                      refine zg_iadd X dX11_fillsFlows_63 (by omega) (by omega) (fun v24 ev24 hv24 => ?_)
                      replace E := zLet_s ev24 E
                      refine ag_149 X hI hv22 (by omega) (by omega) dX11_fillsFlows_64 (fun v25 ev25 _ => ?_)
                      replace E := zLet_s ev25 E
                      have qv25 := zp_ld ev22 ev25
                      rw [A49_Lp13] at qv25
                      refine zg_iconst X 1 dX11_fillsFlows_65 (by decide) (fun v26 _ hv26 => ?_)
                      replace E := zLet_s (zcst hv26 (by decide)) E
                      refine zg_icmp_ne X 72 dX11_fillsFlows_66 (by decide) (fun c27 => ?_) (fun c27 => ?_)
                      · skip
                        replace E := zIf_f c27 E
                        refine zg_aload_n X 2 rfl dX11_fillsFlows_72 ?_
                        refine fg_X11_122 X hI ha0 dX11_fillsFlows_73 (fun v28 ev28 hv28 => ?_)
                        replace E := zLet_s (zgr ev28) E
                        refine zg_iload_n X 0 rfl dX11_fillsFlows_76 ?_
                        refine ag_155 X hI hv28 (by omega) (by omega) dX11_fillsFlows_77 (fun v29 ev29 _ => ?_)
                        replace E := zLet_s ev29 E
                        refine zg_aload_n X 2 rfl dX11_fillsFlows_78 ?_
                        refine zg_iload_n X 0 rfl dX11_fillsFlows_79 ?_
                        refine zg_cVi (As := [.int x12]) (st := [.int v29]) X ha0 rfl (by decide) rfl (t_X11_driesAt l d L kd κ _ hI a0 ha0 x12  (by omega) gL_Lp13) mk_X11_363 mc_X11_driesAt mz_X11 mi_X11_driesAt ml_X11_driesAt (na := 1) ⟨md_X11.1, md_X11.2, by decide +kernel⟩ rfl ⟨by decide, by decide⟩ (Nat.le_of_ble_eq_true rfl) dX11_fillsFlows_80 (fun v31 t30 hq => ?_)
                        obtain ⟨hF, hI, g32⟩ := hq
                        replace E := zLet2_s hF E
                        have hS := hS.tr g32 (by decide) (by decide)
                        have Mt30 := (zM_same hI ha0 g32 (by decide)).trans M_Lp13
                        have at30_49 := (zp_same hI ha0 g32 49 rfl (by decide) (by decide)).trans A49_Lp13
                        have gLt30 := gL.same hI ha0 g32 (by decide) gL_Lp13
                        have gRt30 := gR.same hI ha0 g32 (by decide) gR_Lp13
                        refine zg_isubW X dX11_fillsFlows_83 (fun v33 ev33 => ?_)
                        replace E := zLet_s ev33 E
                        refine zg_istore X [(4, .int v33), (3, .int x12), (2, .int x8), (0, .ref a0), (1, .int p1)] dX11_fillsFlows_84 (by decide) rfl ?_
                        refine zg_aload_n X 3 rfl dX11_fillsFlows_86 ?_
                        refine fg_X11_122 X hI ha0 dX11_fillsFlows_87 (fun v34 ev34 hv34 => ?_)
                        replace E := zLet_s (zgr ev34) E
                        refine zg_aload_n X 3 rfl dX11_fillsFlows_90 ?_
                        refine fg_X11_110 X hI ha0 dX11_fillsFlows_91 (fun v35 ev35 hv35 => ?_)
                        replace E := zLet_s (zgr ev35) E
                        refine zg_iload_n X 1 rfl dX11_fillsFlows_94 ?_
                        refine ag_149 X hI hv35 (by omega) (by omega) dX11_fillsFlows_95 (fun v36 ev36 _ => ?_)
                        replace E := zLet_s ev36 E
                        have qv36 := zp_ld ev35 ev36
                        rw [at30_49] at qv36
                        have zr := gR_at hgR (c := x12.toInt) (by omega) (by omega)
                        refine zg_dup2 X dX11_fillsFlows_96 rfl rfl ?_
                        refine ag_155 X hI hv34 (by omega) (by omega) dX11_fillsFlows_97 (fun v37 ev37 _ => ?_)
                        replace E := zLet_s ev37 E
                        refine zg_iload X 0 rfl dX11_fillsFlows_98 ?_
                        refine zg_iaddW X dX11_fillsFlows_100 (fun v38 ev38 => ?_)
                        replace E := zLet_s ev38 E
                        refine as_155 X hI hv34 (by omega) (by omega) dX11_fillsFlows_101 (fun s39 es39 hI => ?_)
                        replace E := zLet_s es39 E
                        have g40 := (zSame.rf (o := a0) (Wf := []) (Wa := [155]) (L := L) (kd := kd) (σ := t30)).a ha0 hv34 es39 rfl (by decide)
                        have hS := hS.tr g40 (by decide) (by decide)
                        have Ms39 := (zM_same hI ha0 g40 (by decide)).trans Mt30
                        have as39_49 := (zp_same hI ha0 g40 49 rfl (by decide) (by decide)).trans at30_49
                        have gLs39 := gL.same hI ha0 g40 (by decide) gLt30
                        have gRs39 := gR.same hI ha0 g40 (by decide) gRt30
                        refine zg_iinc X 1 (fun v41 => [(3, .int v41), (4, .int v33), (2, .int x8), (0, .ref a0), (1, .int p1)]) 1 dX11_fillsFlows_102 rfl (by decide) (by decide) (by omega) (by omega) (fun _ => rfl) (fun v41 ev41 hv41 => ?_)
                        replace E := zLet_s (zinc ev41 (by decide)) E
                        refine zg_goto X 38 dX11_fillsFlows_105 (by decide) ?_
                        refine zg_sub [0, 2, 3, 4] rfl ?_
                        exact ihLp13 _ v41 hI hS gLs39 gRs39 Ms39 as39_49 E  (by omega) (by omega) 
                      · skip
                        replace E := zIf_t c27 E
                        refine zg_goto X 102 dX11_fillsFlows_69 (by decide) ?_
                        refine zg_iinc X 1 (fun v42 => [(3, .int v42), (2, .int x8), (0, .ref a0), (1, .int p1)]) 0 dX11_fillsFlows_102 rfl (by decide) (by decide) (by omega) (by omega) (fun _ => rfl) (fun v42 ev42 hv42 => ?_)
                        replace E := zLet_s (zinc ev42 (by decide)) E
                        refine zg_goto X 38 dX11_fillsFlows_105 (by decide) ?_
                        refine zg_sub [0, 1, 2, 3] rfl ?_
                        exact ihLp13 _ v42 hI hS gL_Lp13 gR_Lp13 M_Lp13 A49_Lp13 E  (by omega) (by omega) 
              refine zg_sub [0, 1, 2, 3] rfl ?_
              exact Lp13 10000 _ v11 hI hS gL_Lp9 gR_Lp9 M_Lp9 A49_Lp9 E  (by omega) (by omega) 
        refine zg_sub [0, 1, 2] rfl ?_
        exact Lp9 10000 _ v7 hI hS gL_Lp3 gR_Lp3 M_Lp3 A49_Lp3 E  (by omega) (by omega) 
      · skip
        replace E := zIf_t c6 E
        refine zg_aload_n X 1 rfl dX11_fillsFlows_10 ?_
        refine fg_X11_122 X hI ha0 dX11_fillsFlows_11 (fun v43 ev43 hv43 => ?_)
        replace E := zLet_s (zgr ev43) E
        refine zg_iload_n X 0 rfl dX11_fillsFlows_14 ?_
        refine zg_aload_n X 1 rfl dX11_fillsFlows_15 ?_
        refine zg_iload_n X 0 rfl dX11_fillsFlows_16 ?_
        refine zg_cVi (As := [.int x2]) (st := [.int x2, .ref v43]) X ha0 rfl (by decide) rfl (t_X11_rainsAt l d L kd κ _ hI a0 ha0 x2  (by omega) gL_Lp3) mk_X11_360 mc_X11_rainsAt mz_X11 mi_X11_rainsAt ml_X11_rainsAt (na := 1) ⟨md_X11.1, md_X11.2, by decide +kernel⟩ rfl ⟨by decide, by decide⟩ (Nat.le_of_ble_eq_true rfl) dX11_fillsFlows_17 (fun v45 t44 hq => ?_)
        obtain ⟨hF, hI, g46⟩ := hq
        replace E := zLet2_s hF E
        have hS := hS.tr g46 (by decide) (by decide)
        have Mt44 := (zM_same hI ha0 g46 (by decide)).trans M_Lp3
        have at44_49 := (zp_same hI ha0 g46 49 rfl (by decide) (by decide)).trans A49_Lp3
        have gLt44 := gL.same hI ha0 g46 (by decide) gL_Lp3
        have gRt44 := gR.same hI ha0 g46 (by decide) gR_Lp3
        refine zg_iload_n X 2 rfl dX11_fillsFlows_20 ?_
        refine zg_iaddW X dX11_fillsFlows_21 (fun v48 ev48 => ?_)
        replace E := zLet_s ev48 E
        refine as_155 X hI hv43 (by omega) (by omega) dX11_fillsFlows_22 (fun s49 es49 hI => ?_)
        replace E := zLet_s es49 E
        have g50 := (zSame.rf (o := a0) (Wf := []) (Wa := [155]) (L := L) (kd := kd) (σ := t44)).a ha0 hv43 es49 rfl (by decide)
        have hS := hS.tr g50 (by decide) (by decide)
        have Ms49 := (zM_same hI ha0 g50 (by decide)).trans Mt44
        have as49_49 := (zp_same hI ha0 g50 49 rfl (by decide) (by decide)).trans at44_49
        have gLs49 := gL.same hI ha0 g50 (by decide) gLt44
        have gRs49 := gR.same hI ha0 g50 (by decide) gRt44
        refine zg_iinc X 1 (fun v51 => [(2, .int v51), (0, .ref a0), (1, .int p1)]) 0 dX11_fillsFlows_23 rfl (by decide) (by decide) (by omega) (by omega) (fun _ => rfl) (fun v51 ev51 hv51 => ?_)
        replace E := zLet_s (zinc ev51 (by decide)) E
        refine zg_goto X 2 dX11_fillsFlows_26 (by decide) ?_
        refine zg_sub [0, 1, 2] rfl ?_
        exact ihLp3 _ v51 hI hS gLs49 gRs49 Ms49 as49_49 E  (by omega) (by omega) 
  refine zg_sub [0, 1, 2] rfl ?_
  exact Lp3 10000 _ v1 hI hS hgL hgR rfl rfl E  (by omega) (by omega) 
set_option maxHeartbeats 4000000 in
set_option maxRecDepth 100000 in
theorem t_X11_copies (l : Launch) (d : zD2) (L : List Nat) (kd : Nat → Nat) (κ : Int) (σ : zS) (hI : zJ κ L kd σ) (a0 : Nat) (ha0 : zT L kd a0 11) (hgN : gN a0 σ) (hgL : gL a0 σ) : zMv l yX11_copies (Cond.code yX11_copies cX11_copies 2 none :: zWL) 4 [.ref a0] d L kd σ (fun σ2 => σ2 = F_X11_copies a0 σ ∧ (((∀ j : Int, 0 ≤ j → j < 50 → zp a0 σ2 49 j = zp a0 σ2 48 j) ∧ (gR a0 σ2) ∧ (gB a0 σ2)) ∧ zJ κ L kd σ2 ∧ zSame a0 [47, 50, 51] [145, 146, 149, 152, 153, 154, 155] L kd σ σ2)) := by
  refine zMv.of (own := RX11) (by decide +kernel) rfl rfl (Nat.le_of_ble_eq_true rfl) ?_
  intro p e s m args below meth c A Q X ret
  have hS : zSame a0 [47, 50, 51] [145, 146, 149, 152, 153, 154, 155] L kd σ σ := zSame.rf
  refine zg_lv (lv2 := [(0, .ref a0)]) rfl ?_
  obtain ⟨R, hR⟩ : ∃ R, R = F_X11_copies a0 σ := ⟨_, rfl⟩
  have E := hR
  unfold F_X11_copies at E
  refine zg_iconst X 0 dX11_copies_0 (by decide) (fun v1 _ hv1 => ?_)
  replace E := zLet_s (zcst hv1 (by decide)) E
  refine zg_istore_n X [(1, .int v1), (0, .ref a0)] dX11_copies_1 (by decide) rfl ?_
  have Lp3 : ∀ (nLp3 : Nat) (τ3 : zS) (x2 : Int32), zJ κ L kd τ3 → zSame a0 [47, 50, 51] [145, 146, 149, 152, 153, 154, 155] L kd σ τ3 → gL a0 τ3 → gN a0 τ3 → zM a0 τ3 = zM a0 σ → zp a0 τ3 48 = zp a0 σ 48 → R = F_X11_copies_2 a0  nLp3 x2 τ3 → 0 ≤ x2.toInt ∧ x2.toInt ≤ 50 → (50) - x2.toInt + 1 < (nLp3 : Int) → (∀ j : Int, 0 ≤ j → j < x2.toInt → zp a0 τ3 49 j = zp a0 σ 48 j) → zG d L kd A 2 p l e (k2_rm 4 (100 * 4)) s m args below meth c Q τ3 2 [(1, .int x2), (0, .ref a0)] [] := by
    intro nLp3
    induction nLp3 with
    | zero => intro τ3 x2 hI hS gL_Lp3 gN_Lp3 M_Lp3 A48_Lp3 E  hxLp3 hm _ ; exact absurd hm (by omega)
    | succ nLp3 ihLp3 =>
      intro τ3 x2 hI hS gL_Lp3 gN_Lp3 M_Lp3 A48_Lp3 E  hxLp3 hmLp3 hc
      rw [F_X11_copies_2] at E
      refine zg_iload_n X 0 rfl dX11_copies_2 ?_
      refine zg_bipush X 50 dX11_copies_3 (by decide) (fun v4 _ hv4 => ?_)
      replace E := zLet_s (zcst hv4 (by decide)) E
      refine zg_icmp_ge X 26 dX11_copies_5 (by decide) (fun c5 => ?_) (fun c5 => ?_)
      · skip
        replace E := zIf_f (Int.not_lt.mpr c5) E
        have zm := zM_in hI ha0
        have hn : ∀ j : Int, 0 ≤ j → j < 50 → zp a0 τ3 49 j = zp a0 σ 48 j := fun j h0 h1 => hc j h0 (by omega)
        have gR_0 : gR a0 τ3 := by unfold gR; rw [M_Lp3]; exact gRow.congr (by omega) hgN (fun j h0 h1 => hn j (by omega) (by omega))
        refine zg_aload_n X 1 rfl dX11_copies_26 ?_
        refine zg_aload_n X 1 rfl dX11_copies_27 ?_
        refine fg_X11_67 X hI ha0 dX11_copies_28 (fun v6 ev6 hv6 => ?_)
        replace E := zLet_s (zgr ev6) E
        refine zg_aload_n X 1 rfl dX11_copies_31 ?_
        refine fg_X11_236 X hI ha0 dX11_copies_32 (fun v7 ev7 hv7 => ?_)
        replace E := zLet_s ev7 E
        refine ag_129 X hI hv6 (by omega) (by omega) dX11_copies_35 (fun v8 ev8 _ => ?_)
        replace E := zLet_s ev8 E
        refine fp_X11_320 X hI ha0 (zb_rng _) dX11_copies_36 (fun s9 es9 hI => ?_)
        replace E := zLet_s es9 E
        have g10 := (zSame.rf (o := a0) (Wf := [50]) (Wa := []) (L := L) (kd := kd) (σ := τ3)).f ha0 es9 rfl
        have hS := hS.tr g10 (by decide) (by decide)
        have Ms9 := (zM_same hI ha0 g10 (by decide)).trans M_Lp3
        have as9_48 := (zp_same hI ha0 g10 48 rfl (by decide) (by decide)).trans A48_Lp3
        have as9_49 := zp_same hI ha0 g10 49 rfl (by decide) (by decide)
        have gLs9 := gL.same hI ha0 g10 (by decide) gL_Lp3
        have gRs9 := gR.same hI ha0 g10 (by decide) gR_0
        have fs9_50 : (s9.1 a0 50).toInt = v8.toInt := by rw [es9]; exact congrArg _ (zu_s _ _ _ _)
        have e12 : v8 = s9.1 a0 50 := by rw [es9]; exact zm_s
        refine zg_aload_n X 1 rfl dX11_copies_39 ?_
        refine zg_iconst X 0 dX11_copies_40 (by decide) (fun v13 _ hv13 => ?_)
        replace E := zLet_s (zcst hv13 (by decide)) E
        refine fp_X11_323 X hI ha0 ⟨by omega, by omega⟩ dX11_copies_41 (fun s14 es14 hI => ?_)
        replace E := zLet_s es14 E
        have g15 := (zSame.rf (o := a0) (Wf := [51]) (Wa := []) (L := L) (kd := kd) (σ := s9)).f ha0 es14 rfl
        have hS := hS.tr g15 (by decide) (by decide)
        have Ms14 := (zM_same hI ha0 g15 (by decide)).trans Ms9
        have as14_48 := (zp_same hI ha0 g15 48 rfl (by decide) (by decide)).trans as9_48
        have as14_49 := (zp_same hI ha0 g15 49 rfl (by decide) (by decide)).trans as9_49
        have gLs14 := gL.same hI ha0 g15 (by decide) gLs9
        have gRs14 := gR.same hI ha0 g15 (by decide) gRs9
        have fs14_51 : (s14.1 a0 51).toInt = v13.toInt := by rw [es14]; exact congrArg _ (zu_s _ _ _ _)
        have e18 : v13 = s14.1 a0 51 := by rw [es14]; exact zm_s
        refine zg_aload_n X 1 rfl dX11_copies_44 ?_
        refine zg_cVv (As := []) (st := []) X ha0 rfl (by decide) rfl (t_X11_fillsWays l d L kd κ _ hI a0 ha0    gRs14) mk_X11_326 mc_X11_fillsWays mz_X11 mi_X11_fillsWays ml_X11_fillsWays (na := 0) ⟨md_X11.1, md_X11.2, by decide +kernel⟩ rfl ⟨by decide, by decide⟩ (Nat.le_of_ble_eq_true rfl) dX11_copies_45 (fun t19 hq => ?_)
        obtain ⟨hF, gBt19, hI, g20⟩ := hq
        replace E := zLet_s hF E
        have hS := hS.tr g20 (by decide) (by decide)
        have Mt19 := (zM_same hI ha0 g20 (by decide)).trans Ms14
        have at19_48 := (zp_same hI ha0 g20 48 rfl (by decide) (by decide)).trans as14_48
        have at19_49 := (zp_same hI ha0 g20 49 rfl (by decide) (by decide)).trans as14_49
        have gLt19 := gL.same hI ha0 g20 (by decide) gLs14
        have gRt19 := gR.same hI ha0 g20 (by decide) gRs14
        refine zg_aload_n X 1 rfl dX11_copies_48 ?_
        refine zg_iconst X 0 dX11_copies_49 (by decide) (fun v24 _ hv24 => ?_)
        replace E := zLet_s (zcst hv24 (by decide)) E
        refine zg_cVv (As := [.int v24]) (st := []) X ha0 rfl (by decide) rfl (t_X11_fillsFlows l d L kd κ _ hI a0 ha0 v24   gRt19 gLt19) mk_X11_329 mc_X11_fillsFlows mz_X11 mi_X11_fillsFlows ml_X11_fillsFlows (na := 1) ⟨md_X11.1, md_X11.2, by decide +kernel⟩ rfl ⟨by decide, by decide⟩ (Nat.le_of_ble_eq_true rfl) dX11_copies_50 (fun t25 hq => ?_)
        obtain ⟨hF, hI, g26⟩ := hq
        replace E := zLet_s hF E
        have hS := hS.tr g26 (by decide) (by decide)
        have Mt25 := (zM_same hI ha0 g26 (by decide)).trans Mt19
        have at25_48 := (zp_same hI ha0 g26 48 rfl (by decide) (by decide)).trans at19_48
        have at25_49 := (zp_same hI ha0 g26 49 rfl (by decide) (by decide)).trans at19_49
        have gRt25 := gR.same hI ha0 g26 (by decide) gRt19
        have gBt25 := gB.same hI ha0 g26 (by decide) gBt19
        exact ret _ _ _ dX11_copies_53 ⟨E.symm.trans hR, ⟨⟨(fun j h0 h1 => by rw [at25_48, at25_49]; exact hn j h0 h1), gRt25, gBt25⟩, hI, hS⟩⟩
      · skip
        replace E := zIf_t c5 E
        refine zg_aload_n X 1 rfl dX11_copies_8 ?_
        refine fg_X11_110 X hI ha0 dX11_copies_9 (fun v30 ev30 hv30 => ?_)
        replace E := zLet_s (zgr ev30) E
        refine zg_iload_n X 0 rfl dX11_copies_12 ?_
        refine zg_aload_n X 1 rfl dX11_copies_13 ?_
        refine fg_X11_107 X hI ha0 dX11_copies_14 (fun v31 ev31 hv31 => ?_)
        replace E := zLet_s (zgr ev31) E
        refine zg_iload_n X 0 rfl dX11_copies_17 ?_
        refine ag_148 X hI hv31 (by omega) (by omega) dX11_copies_18 (fun v32 ev32 _ => ?_)
        replace E := zLet_s ev32 E
        have qv32 := zp_ld ev31 ev32
        rw [A48_Lp3] at qv32
        refine as_149 X hI hv30 (by omega) (by omega) dX11_copies_19 (fun s33 es33 hI => ?_)
        replace E := zLet_s es33 E
        have g34 := (zSame.rf (o := a0) (Wf := []) (Wa := [149]) (L := L) (kd := kd) (σ := τ3)).a ha0 hv30 es33 rfl (by decide)
        have rs33 := zp_st (σ := τ3) (σ2 := s33) (i := x2) (x := v32) ev30 es33 (by omega)
        have ws33 := rs33
        have hS := hS.tr g34 (by decide) (by decide)
        have Ms33 := (zM_same hI ha0 g34 (by decide)).trans M_Lp3
        have as33_48 := (zp_same hI ha0 g34 48 rfl (by decide) (by decide)).trans A48_Lp3
        have gLs33 := gL.same hI ha0 g34 (by decide) gL_Lp3
        have gNs33 := gN.same hI ha0 g34 (by decide) gN_Lp3
        refine zg_iinc X 1 (fun v35 => [(1, .int v35), (0, .ref a0)]) 0 dX11_copies_20 rfl (by decide) (by decide) (by omega) (by omega) (fun _ => rfl) (fun v35 ev35 hv35 => ?_)
        replace E := zLet_s (zinc ev35 (by decide)) E
        refine zg_goto X 2 dX11_copies_23 (by decide) ?_
        refine zg_sub [0, 1] rfl ?_
        exact ihLp3 _ v35 hI hS gLs33 gNs33 Ms33 as33_48 E  (by omega) (by omega) (fun j h0 h1 => by rw [ws33 j h0]; split <;> rename_i hj <;> first | (rw [hj]; exact qv32) | exact hc j h0 (by omega))
  refine zg_sub [0, 1] rfl ?_
  exact Lp3 10000 _ v1 hI hS hgL hgN rfl rfl E  (by omega) (by omega) (fun j h0 h1 => absurd h1 (by omega))
end
-- 24.model3
section
set_option maxHeartbeats 4000000 in
set_option maxRecDepth 100000 in
theorem t_X11_isStorm (l : Launch) (d : zD2) (L : List Nat) (kd : Nat → Nat) (κ : Int) (σ : zS) (hI : zJ κ L kd σ) (a0 : Nat) (ha0 : zT L kd a0 11) : zMi l yX11_isStorm (Cond.code yX11_isStorm cX11_isStorm 1 (some .boolean) :: zWL) 1 [.ref a0] d L kd σ (fun v σ2 => (v = F_X11_isStorm a0 σ ∧ ((0 ≤ v.toInt ∧ v.toInt ≤ 1))) ∧ σ = σ2) := by
  refine zMi.of (own := RX11) (by decide +kernel) rfl rfl (Nat.le_of_ble_eq_true rfl) ?_
  intro p e s m args below meth c A Q X ret
  refine zg_lv (lv2 := [(0, .ref a0)]) rfl ?_
  obtain ⟨R, hR⟩ : ∃ R, R = F_X11_isStorm a0 σ := ⟨_, rfl⟩
  have E := hR
  unfold F_X11_isStorm at E
  refine zg_aload_n X 0 rfl dX11_isStorm_0 ?_
  refine fg_X11_320 X hI ha0 dX11_isStorm_1 (fun v1 ev1 _ => ?_)
  replace E := zLet_s ev1 E
  refine zg_sipush X 147 dX11_isStorm_4 (by decide) (fun v2 _ hv2 => ?_)
  replace E := zLet_s (zcst hv2 (by decide)) E
  refine zg_cSi (As := [.int v1, .int v2]) (st := []) X (t_X11_mixed l d L kd _ v1 v2 ) mk_X11_336 mc_X11_mixed mz_X11 ms_X11_mixed (na := 2) ⟨md_X11.1, md_X11.2, by decide +kernel⟩ rfl ⟨by decide, by decide⟩ (Nat.le_of_ble_eq_true rfl) dX11_isStorm_7 (fun v3 σ2 hq => ?_)
  obtain ⟨⟨hF, hv3⟩, rfl⟩ := hq
  replace E := zLet_s hF E
  refine zg_iconst X 4 dX11_isStorm_10 (by decide) (fun v4 _ hv4 => ?_)
  replace E := zLet_s (zcst hv4 (by decide)) E
  refine zg_aload_n X 0 rfl dX11_isStorm_11 ?_
  refine fg_X11_110 X hI ha0 dX11_isStorm_12 (fun v5 ev5 hv5 => ?_)
  replace E := zLet_s (zgr ev5) E
  refine zg_bipush X 48 dX11_isStorm_15 (by decide) (fun v6 _ hv6 => ?_)
  replace E := zLet_s (zcst hv6 (by decide)) E
  refine ag_149 X hI hv5 (by omega) (by omega) dX11_isStorm_17 (fun v7 ev7 _ => ?_)
  replace E := zLet_s ev7 E
  refine zg_imulW X dX11_isStorm_18 (fun v8 ev8 => ?_)
  replace E := zLet_s ev8 E
  refine zg_cSi (As := [.int v3, .int v8]) (st := []) X (t_X11_mixed l d L kd _ v3 v8 ) mk_X11_336 mc_X11_mixed mz_X11 ms_X11_mixed (na := 2) ⟨md_X11.1, md_X11.2, by decide +kernel⟩ rfl ⟨by decide, by decide⟩ (Nat.le_of_ble_eq_true rfl) dX11_isStorm_19 (fun v9 σ2 hq => ?_)
  obtain ⟨⟨hF, hv9⟩, rfl⟩ := hq
  replace E := zLet_s hF E
  refine zg_iconst X 1 dX11_isStorm_22 (by decide) (fun v10 _ hv10 => ?_)
  replace E := zLet_s (zcst hv10 (by decide)) E
  refine zg_iushrW X dX11_isStorm_23 (fun v11 ev11 => ?_)
  replace E := zLet_s ev11 E
  refine zg_bipush X 100 dX11_isStorm_24 (by decide) (fun v12 _ hv12 => ?_)
  replace E := zLet_s (zcst hv12 (by decide)) E
  refine zg_iremW X dX11_isStorm_26 (by omega) (fun v13 ev13 => ?_)
  replace E := zLet_s ev13 E
  have hv13 := zb_rem (x := v11) (y := v12) 100 (by omega) (by omega)
  rw [← ev13] at hv13
  refine zg_aload_n X 0 rfl dX11_isStorm_27 ?_
  refine fg_X11_58 X hI ha0 dX11_isStorm_28 (fun v14 ev14 hv14 => ?_)
  replace E := zLet_s (zgr ev14) E
  refine zg_aload_n X 0 rfl dX11_isStorm_31 ?_
  refine fg_X11_236 X hI ha0 dX11_isStorm_32 (fun v15 ev15 hv15 => ?_)
  replace E := zLet_s ev15 E
  refine ag_126 X hI hv14 (by omega) (by omega) dX11_isStorm_35 (fun v16 ev16 _ => ?_)
  replace E := zLet_s ev16 E
  have zv16_z17 := zb_rng v16
  refine zg_icmp_ge X 43 dX11_isStorm_36 (by decide) (fun c18 => ?_) (fun c18 => ?_)
  · skip
    replace E := zIf_f (Int.not_lt.mpr c18) E
    refine zg_iconst X 0 dX11_isStorm_43 (by decide) (fun v19 _ hv19 => ?_)
    replace E := zLet_s (zcst hv19 (by decide)) E
    exact ret _ _ _ _ dX11_isStorm_44 (zb_bool ⟨by omega, by omega⟩) ⟨⟨E.symm.trans hR, ⟨by omega, by omega⟩⟩, rfl⟩
  · skip
    replace E := zIf_t c18 E
    refine zg_iconst X 1 dX11_isStorm_39 (by decide) (fun v20 _ hv20 => ?_)
    replace E := zLet_s (zcst hv20 (by decide)) E
    refine zg_goto X 44 dX11_isStorm_40 (by decide) ?_
    exact ret _ _ _ _ dX11_isStorm_44 (zb_bool ⟨by omega, by omega⟩) ⟨⟨E.symm.trans hR, ⟨by omega, by omega⟩⟩, rfl⟩
set_option maxHeartbeats 4000000 in
set_option maxRecDepth 100000 in
theorem t_X11_monthGoes (l : Launch) (d : zD2) (L : List Nat) (kd : Nat → Nat) (κ : Int) (σ : zS) (hI : zJ κ L kd σ) (a0 : Nat) (ha0 : zT L kd a0 11) (hgR : gR a0 σ) (hgL : gL a0 σ) : zMv l yX11_monthGoes (Cond.code yX11_monthGoes cX11_monthGoes 1 none :: zWL) 4 [.ref a0] d L kd σ (fun σ2 => σ2 = F_X11_monthGoes a0 σ ∧ ((gR a0 σ2) ∧ zJ κ L kd σ2 ∧ zSame a0 [47, 56] [145, 146, 149, 155] L kd σ σ2)) := by
  refine zMv.of (own := RX11) (by decide +kernel) rfl rfl (Nat.le_of_ble_eq_true rfl) ?_
  intro p e s m args below meth c A Q X ret
  have hS : zSame a0 [47, 56] [145, 146, 149, 155] L kd σ σ := zSame.rf
  refine zg_lv (lv2 := [(0, .ref a0)]) rfl ?_
  have zm := zM_in hI ha0
  obtain ⟨R, hR⟩ : ∃ R, R = F_X11_monthGoes a0 σ := ⟨_, rfl⟩
  have E := hR
  unfold F_X11_monthGoes at E
  refine zg_aload_n X 0 rfl dX11_monthGoes_0 ?_
  refine zg_aload_n X 0 rfl dX11_monthGoes_1 ?_
  refine fg_X11_323 X hI ha0 dX11_monthGoes_2 (fun v1 ev1 hv1 => ?_)
  replace E := zLet_s ev1 E
  refine zg_if_ne X 27 dX11_monthGoes_5 (by decide) (fun c2 => ?_) (fun c2 => ?_)
  · skip
    replace E := zIf_f c2 E
    refine zg_iconst X 0 dX11_monthGoes_27 (by decide) (fun v3 _ hv3 => ?_)
    replace E := zLet_s (zcst hv3 (by decide)) E
    refine zg_cVv (As := [.int v3]) (st := []) X ha0 rfl (by decide) rfl (t_X11_fillsFlows l d L kd κ _ hI a0 ha0 v3   hgR hgL) mk_X11_329 mc_X11_fillsFlows mz_X11 mi_X11_fillsFlows ml_X11_fillsFlows (na := 1) ⟨md_X11.1, md_X11.2, by decide +kernel⟩ rfl ⟨by decide, by decide⟩ (Nat.le_of_ble_eq_true rfl) dX11_monthGoes_28 (fun t4 hq => ?_)
    obtain ⟨hF, hI, g5⟩ := hq
    replace E := zLet_s hF E
    have hS := hS.tr g5 (by decide) (by decide)
    have Mt4 := zM_same hI ha0 g5 (by decide)
    have at4_49 := zp_same hI ha0 g5 49 rfl (by decide) (by decide)
    have gRt4 := gR.same hI ha0 g5 (by decide) hgR
    have gLt4 := gL.same hI ha0 g5 (by decide) hgL
    refine zg_aload_n X 0 rfl dX11_monthGoes_31 ?_
    refine zg_aload_n X 0 rfl dX11_monthGoes_32 ?_
    refine zg_aload_n X 0 rfl dX11_monthGoes_33 ?_
    refine fg_X11_110 X hI ha0 dX11_monthGoes_34 (fun v7 ev7 hv7 => ?_)
    replace E := zLet_s (zgr ev7) E
    refine zg_bipush X 49 dX11_monthGoes_37 (by decide) (fun v8 _ hv8 => ?_)
    replace E := zLet_s (zcst hv8 (by decide)) E
    refine ag_149 X hI hv7 (by omega) (by omega) dX11_monthGoes_39 (fun v9 ev9 _ => ?_)
    replace E := zLet_s ev9 E
    have qv9 := zp_ld ev7 ev9
    rw [at4_49] at qv9
    rw [show v8.toInt = 49 by omega] at qv9
    have zl := gR_law gRt4
    rw [at4_49] at zl
    refine zg_cVi (As := [.int v9]) (st := [.ref a0]) X ha0 rfl (by decide) rfl (t_X11_winnerBy l d L kd κ _ hI a0 ha0 v9  (by omega) gLt4) mk_X11_374 mc_X11_winnerBy mz_X11 mi_X11_winnerBy ml_X11_winnerBy (na := 1) ⟨md_X11.1, md_X11.2, by decide +kernel⟩ rfl ⟨by decide, by decide⟩ (Nat.le_of_ble_eq_true rfl) dX11_monthGoes_40 (fun v11 t10 hq => ?_)
    obtain ⟨hF, ⟨ht10_res, ht10_fact0, ht10_fact1⟩, hI, g12⟩ := hq
    replace E := zLet2_s hF E
    have hS := hS.tr g12 (by decide) (by decide)
    have Mt10 := (zM_same hI ha0 g12 (by decide)).trans Mt4
    have at10_49 := (zp_same hI ha0 g12 49 rfl (by decide) (by decide)).trans at4_49
    have gRt10 := gR.same hI ha0 g12 (by decide) gRt4
    have gLt10 := gL.same hI ha0 g12 (by decide) gLt4
    refine fp_X11_377 X hI ha0 ⟨by omega, by omega⟩ dX11_monthGoes_43 (fun s14 es14 hI => ?_)
    replace E := zLet_s es14 E
    have g15 := (zSame.rf (o := a0) (Wf := [56]) (Wa := []) (L := L) (kd := kd) (σ := t10)).f ha0 es14 rfl
    have hS := hS.tr g15 (by decide) (by decide)
    have Ms14 := (zM_same hI ha0 g15 (by decide)).trans Mt10
    have as14_49 := (zp_same hI ha0 g15 49 rfl (by decide) (by decide)).trans at10_49
    have gRs14 := gR.same hI ha0 g15 (by decide) gRt10
    have gLs14 := gL.same hI ha0 g15 (by decide) gLt10
    have fs14_56 : (s14.1 a0 56).toInt = v11.toInt := by rw [es14]; exact congrArg _ (zu_s _ _ _ _)
    have e17 : v11 = s14.1 a0 56 := by rw [es14]; exact zm_s
    refine zg_aload_n X 0 rfl dX11_monthGoes_46 ?_
    refine fg_X11_377 X hI ha0 dX11_monthGoes_47 (fun v18 ev18 hv18 => ?_)
    replace E := zLet_s ev18 E
    have mv18 : v18.toInt = v11.toInt := by rw [ev18, ← e17]
    refine zg_if_lt X 110 dX11_monthGoes_50 (by decide) (fun c19 => ?_) (fun c19 => ?_)
    · skip
      replace E := zIf_t c19 E
      refine zg_aload_n X 0 rfl dX11_monthGoes_110 ?_
      refine fg_X11_110 X hI ha0 dX11_monthGoes_111 (fun v20 ev20 hv20 => ?_)
      replace E := zLet_s (zgr ev20) E
      refine zg_bipush X 48 dX11_monthGoes_114 (by decide) (fun v21 _ hv21 => ?_)
      replace E := zLet_s (zcst hv21 (by decide)) E
      refine zg_dup2 X dX11_monthGoes_116 rfl rfl ?_
      refine ag_149 X hI hv20 (by omega) (by omega) dX11_monthGoes_117 (fun v22 ev22 _ => ?_)
      replace E := zLet_s ev22 E
      have qv22 := zp_ld ev20 ev22
      rw [as14_49] at qv22
      rw [show v21.toInt = 48 by omega] at qv22
      refine zg_iconst X 1 dX11_monthGoes_118 (by decide) (fun v23 _ hv23 => ?_)
      replace E := zLet_s (zcst hv23 (by decide)) E
      refine zg_iaddW X dX11_monthGoes_119 (fun v24 ev24 => ?_)
      replace E := zLet_s ev24 E
      refine as_149 X hI hv20 (by omega) (by omega) dX11_monthGoes_120 (fun s25 es25 hI => ?_)
      replace E := zLet_s es25 E
      have g26 := (zSame.rf (o := a0) (Wf := []) (Wa := [149]) (L := L) (kd := kd) (σ := s14)).a ha0 hv20 es25 rfl (by decide)
      have rs25 := zp_st (σ := s14) (σ2 := s25) (i := v21) (x := v24) ev20 es25 (by omega)
      have ws25 := rs25
      rw [as14_49] at ws25
      have hS := hS.tr g26 (by decide) (by decide)
      have Ms25 := (zM_same hI ha0 g26 (by decide)).trans Ms14
      have gLs25 := gL.same hI ha0 g26 (by decide) gLs14
      have gRs25 := gR_row hI ha0 g26 rs25 (by omega) gRs14
      refine zg_aload_n X 0 rfl dX11_monthGoes_121 ?_
      refine zg_iconst X 0 dX11_monthGoes_122 (by decide) (fun v29 _ hv29 => ?_)
      replace E := zLet_s (zcst hv29 (by decide)) E
      refine zg_cVv (As := [.int v29]) (st := []) X ha0 rfl (by decide) rfl (t_X11_fillsFlows l d L kd κ _ hI a0 ha0 v29   gRs25 gLs25) mk_X11_329 mc_X11_fillsFlows mz_X11 mi_X11_fillsFlows ml_X11_fillsFlows (na := 1) ⟨md_X11.1, md_X11.2, by decide +kernel⟩ rfl ⟨by decide, by decide⟩ (Nat.le_of_ble_eq_true rfl) dX11_monthGoes_123 (fun t30 hq => ?_)
      obtain ⟨hF, hI, g31⟩ := hq
      replace E := zLet_s hF E
      have hS := hS.tr g31 (by decide) (by decide)
      have Mt30 := (zM_same hI ha0 g31 (by decide)).trans Ms25
      have gRt30 := gR.same hI ha0 g31 (by decide) gRs25
      exact ret _ _ _ dX11_monthGoes_126 ⟨E.symm.trans hR, ⟨gRt30, hI, hS⟩⟩
    · skip
      replace E := zIf_f (Int.not_lt.mpr c19) E
      refine zg_aload_n X 0 rfl dX11_monthGoes_53 ?_
      refine fg_X11_110 X hI ha0 dX11_monthGoes_54 (fun v34 ev34 hv34 => ?_)
      replace E := zLet_s (zgr ev34) E
      refine zg_bipush X 24 dX11_monthGoes_57 (by decide) (fun v35 _ hv35 => ?_)
      replace E := zLet_s (zcst hv35 (by decide)) E
      refine zg_aload_n X 0 rfl dX11_monthGoes_59 ?_
      refine fg_X11_377 X hI ha0 dX11_monthGoes_60 (fun v36 ev36 hv36 => ?_)
      replace E := zLet_s ev36 E
      have mv36 : v36.toInt = v18.toInt := by rw [ev36, ← ev18]
      refine zg_iadd X dX11_monthGoes_63 (by omega) (by omega) (fun v37 ev37 hv37 => ?_)
      replace E := zLet_s ev37 E
      refine zg_aload_n X 0 rfl dX11_monthGoes_64 ?_
      refine fg_X11_110 X hI ha0 dX11_monthGoes_65 (fun v38 ev38 hv38 => ?_)
      replace E := zLet_s (zgr ev38) E
      refine zg_bipush X 24 dX11_monthGoes_68 (by decide) (fun v39 _ hv39 => ?_)
      replace E := zLet_s (zcst hv39 (by decide)) E
      refine zg_aload_n X 0 rfl dX11_monthGoes_70 ?_
      refine fg_X11_377 X hI ha0 dX11_monthGoes_71 (fun v40 ev40 hv40 => ?_)
      replace E := zLet_s ev40 E
      have mv40 : v40.toInt = v36.toInt := by rw [ev40, ← ev36]
      refine zg_iadd X dX11_monthGoes_74 (by omega) (by omega) (fun v41 ev41 hv41 => ?_)
      replace E := zLet_s ev41 E
      refine ag_149 X hI hv38 (by omega) (by omega) dX11_monthGoes_75 (fun v42 ev42 _ => ?_)
      replace E := zLet_s ev42 E
      have qv42 := zp_ld ev38 ev42
      rw [as14_49] at qv42
      refine zg_iconst X 1 dX11_monthGoes_76 (by decide) (fun v43 _ hv43 => ?_)
      replace E := zLet_s (zcst hv43 (by decide)) E
      refine zg_iaddW X dX11_monthGoes_77 (fun v44 ev44 => ?_)
      replace E := zLet_s ev44 E
      refine zg_iconst X 0 dX11_monthGoes_78 (by decide) (fun v45 _ hv45 => ?_)
      replace E := zLet_s (zcst hv45 (by decide)) E
      refine zg_sipush X 999 dX11_monthGoes_79 (by decide) (fun v46 _ hv46 => ?_)
      replace E := zLet_s (zcst hv46 (by decide)) E
      refine zg_cSi (As := [.int v44, .int v45, .int v46]) (st := [.int v37, .ref v34]) X (t_X11_within l d L kd _ v44 v45 v46 ) mk_X11_357 mc_X11_within mz_X11 ms_X11_within (na := 3) ⟨md_X11.1, md_X11.2, by decide +kernel⟩ rfl ⟨by decide, by decide⟩ (Nat.le_of_ble_eq_true rfl) dX11_monthGoes_82 (fun v47 σ2 hq => ?_)
      obtain ⟨⟨hF, hv47⟩, rfl⟩ := hq
      replace E := zLet_s hF E
      refine as_149 X hI hv34 (by omega) (by omega) dX11_monthGoes_85 (fun s48 es48 hI => ?_)
      replace E := zLet_s es48 E
      have g49 := (zSame.rf (o := a0) (Wf := []) (Wa := [149]) (L := L) (kd := kd) (σ := s14)).a ha0 hv34 es48 rfl (by decide)
      have rs48 := zp_st (σ := s14) (σ2 := s48) (i := v37) (x := v47) ev34 es48 (by omega)
      have ws48 := rs48
      rw [as14_49] at ws48
      have hS := hS.tr g49 (by decide) (by decide)
      have Ms48 := (zM_same hI ha0 g49 (by decide)).trans Ms14
      have gLs48 := gL.same hI ha0 g49 (by decide) gLs14
      have e51 := g49.v ev40 (by decide)
      have gRs48 := gR_row hI ha0 g49 rs48 (by omega) gRs14
      refine zg_aload_n X 0 rfl dX11_monthGoes_86 ?_
      refine fg_X11_110 X hI ha0 dX11_monthGoes_87 (fun v52 ev52 hv52 => ?_)
      replace E := zLet_s (zgr ev52) E
      refine zg_bipush X 36 dX11_monthGoes_90 (by decide) (fun v53 _ hv53 => ?_)
      replace E := zLet_s (zcst hv53 (by decide)) E
      refine zg_aload_n X 0 rfl dX11_monthGoes_92 ?_
      refine fg_X11_377 X hI ha0 dX11_monthGoes_93 (fun v54 ev54 hv54 => ?_)
      replace E := zLet_s ev54 E
      have mv54 : v54.toInt = v40.toInt := by rw [ev54, ← e51]
      refine zg_iadd X dX11_monthGoes_96 (by omega) (by omega) (fun v55 ev55 hv55 => ?_)
      replace E := zLet_s ev55 E
      refine zg_dup2 X dX11_monthGoes_97 rfl rfl ?_
      refine ag_149 X hI hv52 (by omega) (by omega) dX11_monthGoes_98 (fun v56 ev56 _ => ?_)
      replace E := zLet_s ev56 E
      have qv56 := zp_ld ev52 ev56
      refine zg_aload_n X 0 rfl dX11_monthGoes_99 ?_
      refine fg_X11_64 X hI ha0 dX11_monthGoes_100 (fun v57 ev57 hv57 => ?_)
      replace E := zLet_s (zgr ev57) E
      refine zg_aload_n X 0 rfl dX11_monthGoes_103 ?_
      refine fg_X11_236 X hI ha0 dX11_monthGoes_104 (fun v58 ev58 hv58 => ?_)
      replace E := zLet_s ev58 E
      refine ag_128 X hI hv57 (by omega) (by omega) dX11_monthGoes_107 (fun v59 ev59 _ => ?_)
      replace E := zLet_s ev59 E
      refine zg_iaddW X dX11_monthGoes_108 (fun v60 ev60 => ?_)
      replace E := zLet_s ev60 E
      refine as_149 X hI hv52 (by omega) (by omega) dX11_monthGoes_109 (fun s61 es61 hI => ?_)
      replace E := zLet_s es61 E
      have g62 := (zSame.rf (o := a0) (Wf := []) (Wa := [149]) (L := L) (kd := kd) (σ := s48)).a ha0 hv52 es61 rfl (by decide)
      have rs61 := zp_st (σ := s48) (σ2 := s61) (i := v55) (x := v60) ev52 es61 (by omega)
      have hS := hS.tr g62 (by decide) (by decide)
      have Ms61 := (zM_same hI ha0 g62 (by decide)).trans Ms48
      have gLs61 := gL.same hI ha0 g62 (by decide) gLs48
      have gRs61 := gR_row hI ha0 g62 rs61 (by omega) gRs48
      refine zg_aload_n X 0 rfl dX11_monthGoes_110 ?_
      refine fg_X11_110 X hI ha0 dX11_monthGoes_111 (fun v66 ev66 hv66 => ?_)
      replace E := zLet_s (zgr ev66) E
      refine zg_bipush X 48 dX11_monthGoes_114 (by decide) (fun v67 _ hv67 => ?_)
      replace E := zLet_s (zcst hv67 (by decide)) E
      refine zg_dup2 X dX11_monthGoes_116 rfl rfl ?_
      refine ag_149 X hI hv66 (by omega) (by omega) dX11_monthGoes_117 (fun v68 ev68 _ => ?_)
      replace E := zLet_s ev68 E
      have qv68 := zp_ld ev66 ev68
      rw [show v67.toInt = 48 by omega] at qv68
      refine zg_iconst X 1 dX11_monthGoes_118 (by decide) (fun v69 _ hv69 => ?_)
      replace E := zLet_s (zcst hv69 (by decide)) E
      refine zg_iaddW X dX11_monthGoes_119 (fun v70 ev70 => ?_)
      replace E := zLet_s ev70 E
      refine as_149 X hI hv66 (by omega) (by omega) dX11_monthGoes_120 (fun s71 es71 hI => ?_)
      replace E := zLet_s es71 E
      have g72 := (zSame.rf (o := a0) (Wf := []) (Wa := [149]) (L := L) (kd := kd) (σ := s61)).a ha0 hv66 es71 rfl (by decide)
      have rs71 := zp_st (σ := s61) (σ2 := s71) (i := v67) (x := v70) ev66 es71 (by omega)
      have hS := hS.tr g72 (by decide) (by decide)
      have Ms71 := (zM_same hI ha0 g72 (by decide)).trans Ms61
      have gLs71 := gL.same hI ha0 g72 (by decide) gLs61
      have gRs71 := gR_row hI ha0 g72 rs71 (by omega) gRs61
      refine zg_aload_n X 0 rfl dX11_monthGoes_121 ?_
      refine zg_iconst X 0 dX11_monthGoes_122 (by decide) (fun v76 _ hv76 => ?_)
      replace E := zLet_s (zcst hv76 (by decide)) E
      refine zg_cVv (As := [.int v76]) (st := []) X ha0 rfl (by decide) rfl (t_X11_fillsFlows l d L kd κ _ hI a0 ha0 v76   gRs71 gLs71) mk_X11_329 mc_X11_fillsFlows mz_X11 mi_X11_fillsFlows ml_X11_fillsFlows (na := 1) ⟨md_X11.1, md_X11.2, by decide +kernel⟩ rfl ⟨by decide, by decide⟩ (Nat.le_of_ble_eq_true rfl) dX11_monthGoes_123 (fun t77 hq => ?_)
      obtain ⟨hF, hI, g78⟩ := hq
      replace E := zLet_s hF E
      have hS := hS.tr g78 (by decide) (by decide)
      have Mt77 := (zM_same hI ha0 g78 (by decide)).trans Ms71
      have gRt77 := gR.same hI ha0 g78 (by decide) gRs71
      exact ret _ _ _ dX11_monthGoes_126 ⟨E.symm.trans hR, ⟨gRt77, hI, hS⟩⟩
  · skip
    replace E := zIf_t c2 E
    refine zg_aload_n X 0 rfl dX11_monthGoes_8 ?_
    refine zg_cVi (As := []) (st := [.ref a0]) X ha0 rfl (by decide) rfl (t_X11_isStorm l d L kd κ _ hI a0 ha0   ) mk_X11_370 mc_X11_isStorm mz_X11 mi_X11_isStorm ml_X11_isStorm (na := 0) ⟨md_X11.1, md_X11.2, by decide +kernel⟩ rfl ⟨by decide, by decide⟩ (Nat.le_of_ble_eq_true rfl) dX11_monthGoes_9 (fun v83 t82 hq => ?_)
    obtain ⟨⟨hF, ht82_res⟩, rfl⟩ := hq
    replace E := zLet_s hF E
    refine zg_if_eq X 27 dX11_monthGoes_12 (by decide) (fun c84 => ?_) (fun c84 => ?_)
    · skip
      replace E := zIf_t c84 E
      refine zg_iconst X 0 dX11_monthGoes_27 (by decide) (fun v85 _ hv85 => ?_)
      replace E := zLet_s (zcst hv85 (by decide)) E
      refine zg_cVv (As := [.int v85]) (st := []) X ha0 rfl (by decide) rfl (t_X11_fillsFlows l d L kd κ _ hI a0 ha0 v85   hgR hgL) mk_X11_329 mc_X11_fillsFlows mz_X11 mi_X11_fillsFlows ml_X11_fillsFlows (na := 1) ⟨md_X11.1, md_X11.2, by decide +kernel⟩ rfl ⟨by decide, by decide⟩ (Nat.le_of_ble_eq_true rfl) dX11_monthGoes_28 (fun t86 hq => ?_)
      obtain ⟨hF, hI, g87⟩ := hq
      replace E := zLet_s hF E
      have hS := hS.tr g87 (by decide) (by decide)
      have Mt86 := zM_same hI ha0 g87 (by decide)
      have at86_49 := zp_same hI ha0 g87 49 rfl (by decide) (by decide)
      have gRt86 := gR.same hI ha0 g87 (by decide) hgR
      have gLt86 := gL.same hI ha0 g87 (by decide) hgL
      refine zg_aload_n X 0 rfl dX11_monthGoes_31 ?_
      refine zg_aload_n X 0 rfl dX11_monthGoes_32 ?_
      refine zg_aload_n X 0 rfl dX11_monthGoes_33 ?_
      refine fg_X11_110 X hI ha0 dX11_monthGoes_34 (fun v89 ev89 hv89 => ?_)
      replace E := zLet_s (zgr ev89) E
      refine zg_bipush X 49 dX11_monthGoes_37 (by decide) (fun v90 _ hv90 => ?_)
      replace E := zLet_s (zcst hv90 (by decide)) E
      refine ag_149 X hI hv89 (by omega) (by omega) dX11_monthGoes_39 (fun v91 ev91 _ => ?_)
      replace E := zLet_s ev91 E
      have qv91 := zp_ld ev89 ev91
      rw [at86_49] at qv91
      rw [show v90.toInt = 49 by omega] at qv91
      have zl := gR_law gRt86
      rw [at86_49] at zl
      refine zg_cVi (As := [.int v91]) (st := [.ref a0]) X ha0 rfl (by decide) rfl (t_X11_winnerBy l d L kd κ _ hI a0 ha0 v91  (by omega) gLt86) mk_X11_374 mc_X11_winnerBy mz_X11 mi_X11_winnerBy ml_X11_winnerBy (na := 1) ⟨md_X11.1, md_X11.2, by decide +kernel⟩ rfl ⟨by decide, by decide⟩ (Nat.le_of_ble_eq_true rfl) dX11_monthGoes_40 (fun v93 t92 hq => ?_)
      obtain ⟨hF, ⟨ht92_res, ht92_fact0, ht92_fact1⟩, hI, g94⟩ := hq
      replace E := zLet2_s hF E
      have hS := hS.tr g94 (by decide) (by decide)
      have Mt92 := (zM_same hI ha0 g94 (by decide)).trans Mt86
      have at92_49 := (zp_same hI ha0 g94 49 rfl (by decide) (by decide)).trans at86_49
      have gRt92 := gR.same hI ha0 g94 (by decide) gRt86
      have gLt92 := gL.same hI ha0 g94 (by decide) gLt86
      refine fp_X11_377 X hI ha0 ⟨by omega, by omega⟩ dX11_monthGoes_43 (fun s96 es96 hI => ?_)
      replace E := zLet_s es96 E
      have g97 := (zSame.rf (o := a0) (Wf := [56]) (Wa := []) (L := L) (kd := kd) (σ := t92)).f ha0 es96 rfl
      have hS := hS.tr g97 (by decide) (by decide)
      have Ms96 := (zM_same hI ha0 g97 (by decide)).trans Mt92
      have as96_49 := (zp_same hI ha0 g97 49 rfl (by decide) (by decide)).trans at92_49
      have gRs96 := gR.same hI ha0 g97 (by decide) gRt92
      have gLs96 := gL.same hI ha0 g97 (by decide) gLt92
      have fs96_56 : (s96.1 a0 56).toInt = v93.toInt := by rw [es96]; exact congrArg _ (zu_s _ _ _ _)
      have e99 : v93 = s96.1 a0 56 := by rw [es96]; exact zm_s
      refine zg_aload_n X 0 rfl dX11_monthGoes_46 ?_
      refine fg_X11_377 X hI ha0 dX11_monthGoes_47 (fun v100 ev100 hv100 => ?_)
      replace E := zLet_s ev100 E
      have mv100 : v100.toInt = v93.toInt := by rw [ev100, ← e99]
      refine zg_if_lt X 110 dX11_monthGoes_50 (by decide) (fun c101 => ?_) (fun c101 => ?_)
      · skip
        replace E := zIf_t c101 E
        refine zg_aload_n X 0 rfl dX11_monthGoes_110 ?_
        refine fg_X11_110 X hI ha0 dX11_monthGoes_111 (fun v102 ev102 hv102 => ?_)
        replace E := zLet_s (zgr ev102) E
        refine zg_bipush X 48 dX11_monthGoes_114 (by decide) (fun v103 _ hv103 => ?_)
        replace E := zLet_s (zcst hv103 (by decide)) E
        refine zg_dup2 X dX11_monthGoes_116 rfl rfl ?_
        refine ag_149 X hI hv102 (by omega) (by omega) dX11_monthGoes_117 (fun v104 ev104 _ => ?_)
        replace E := zLet_s ev104 E
        have qv104 := zp_ld ev102 ev104
        rw [as96_49] at qv104
        rw [show v103.toInt = 48 by omega] at qv104
        refine zg_iconst X 1 dX11_monthGoes_118 (by decide) (fun v105 _ hv105 => ?_)
        replace E := zLet_s (zcst hv105 (by decide)) E
        refine zg_iaddW X dX11_monthGoes_119 (fun v106 ev106 => ?_)
        replace E := zLet_s ev106 E
        refine as_149 X hI hv102 (by omega) (by omega) dX11_monthGoes_120 (fun s107 es107 hI => ?_)
        replace E := zLet_s es107 E
        have g108 := (zSame.rf (o := a0) (Wf := []) (Wa := [149]) (L := L) (kd := kd) (σ := s96)).a ha0 hv102 es107 rfl (by decide)
        have rs107 := zp_st (σ := s96) (σ2 := s107) (i := v103) (x := v106) ev102 es107 (by omega)
        have ws107 := rs107
        rw [as96_49] at ws107
        have hS := hS.tr g108 (by decide) (by decide)
        have Ms107 := (zM_same hI ha0 g108 (by decide)).trans Ms96
        have gLs107 := gL.same hI ha0 g108 (by decide) gLs96
        have gRs107 := gR_row hI ha0 g108 rs107 (by omega) gRs96
        refine zg_aload_n X 0 rfl dX11_monthGoes_121 ?_
        refine zg_iconst X 0 dX11_monthGoes_122 (by decide) (fun v111 _ hv111 => ?_)
        replace E := zLet_s (zcst hv111 (by decide)) E
        refine zg_cVv (As := [.int v111]) (st := []) X ha0 rfl (by decide) rfl (t_X11_fillsFlows l d L kd κ _ hI a0 ha0 v111   gRs107 gLs107) mk_X11_329 mc_X11_fillsFlows mz_X11 mi_X11_fillsFlows ml_X11_fillsFlows (na := 1) ⟨md_X11.1, md_X11.2, by decide +kernel⟩ rfl ⟨by decide, by decide⟩ (Nat.le_of_ble_eq_true rfl) dX11_monthGoes_123 (fun t112 hq => ?_)
        obtain ⟨hF, hI, g113⟩ := hq
        replace E := zLet_s hF E
        have hS := hS.tr g113 (by decide) (by decide)
        have Mt112 := (zM_same hI ha0 g113 (by decide)).trans Ms107
        have gRt112 := gR.same hI ha0 g113 (by decide) gRs107
        exact ret _ _ _ dX11_monthGoes_126 ⟨E.symm.trans hR, ⟨gRt112, hI, hS⟩⟩
      · skip
        replace E := zIf_f (Int.not_lt.mpr c101) E
        refine zg_aload_n X 0 rfl dX11_monthGoes_53 ?_
        refine fg_X11_110 X hI ha0 dX11_monthGoes_54 (fun v116 ev116 hv116 => ?_)
        replace E := zLet_s (zgr ev116) E
        refine zg_bipush X 24 dX11_monthGoes_57 (by decide) (fun v117 _ hv117 => ?_)
        replace E := zLet_s (zcst hv117 (by decide)) E
        refine zg_aload_n X 0 rfl dX11_monthGoes_59 ?_
        refine fg_X11_377 X hI ha0 dX11_monthGoes_60 (fun v118 ev118 hv118 => ?_)
        replace E := zLet_s ev118 E
        have mv118 : v118.toInt = v100.toInt := by rw [ev118, ← ev100]
        refine zg_iadd X dX11_monthGoes_63 (by omega) (by omega) (fun v119 ev119 hv119 => ?_)
        replace E := zLet_s ev119 E
        refine zg_aload_n X 0 rfl dX11_monthGoes_64 ?_
        refine fg_X11_110 X hI ha0 dX11_monthGoes_65 (fun v120 ev120 hv120 => ?_)
        replace E := zLet_s (zgr ev120) E
        refine zg_bipush X 24 dX11_monthGoes_68 (by decide) (fun v121 _ hv121 => ?_)
        replace E := zLet_s (zcst hv121 (by decide)) E
        refine zg_aload_n X 0 rfl dX11_monthGoes_70 ?_
        refine fg_X11_377 X hI ha0 dX11_monthGoes_71 (fun v122 ev122 hv122 => ?_)
        replace E := zLet_s ev122 E
        have mv122 : v122.toInt = v118.toInt := by rw [ev122, ← ev118]
        refine zg_iadd X dX11_monthGoes_74 (by omega) (by omega) (fun v123 ev123 hv123 => ?_)
        replace E := zLet_s ev123 E
        refine ag_149 X hI hv120 (by omega) (by omega) dX11_monthGoes_75 (fun v124 ev124 _ => ?_)
        replace E := zLet_s ev124 E
        have qv124 := zp_ld ev120 ev124
        rw [as96_49] at qv124
        refine zg_iconst X 1 dX11_monthGoes_76 (by decide) (fun v125 _ hv125 => ?_)
        replace E := zLet_s (zcst hv125 (by decide)) E
        refine zg_iaddW X dX11_monthGoes_77 (fun v126 ev126 => ?_)
        replace E := zLet_s ev126 E
        refine zg_iconst X 0 dX11_monthGoes_78 (by decide) (fun v127 _ hv127 => ?_)
        replace E := zLet_s (zcst hv127 (by decide)) E
        refine zg_sipush X 999 dX11_monthGoes_79 (by decide) (fun v128 _ hv128 => ?_)
        replace E := zLet_s (zcst hv128 (by decide)) E
        refine zg_cSi (As := [.int v126, .int v127, .int v128]) (st := [.int v119, .ref v116]) X (t_X11_within l d L kd _ v126 v127 v128 ) mk_X11_357 mc_X11_within mz_X11 ms_X11_within (na := 3) ⟨md_X11.1, md_X11.2, by decide +kernel⟩ rfl ⟨by decide, by decide⟩ (Nat.le_of_ble_eq_true rfl) dX11_monthGoes_82 (fun v129 σ2 hq => ?_)
        obtain ⟨⟨hF, hv129⟩, rfl⟩ := hq
        replace E := zLet_s hF E
        refine as_149 X hI hv116 (by omega) (by omega) dX11_monthGoes_85 (fun s130 es130 hI => ?_)
        replace E := zLet_s es130 E
        have g131 := (zSame.rf (o := a0) (Wf := []) (Wa := [149]) (L := L) (kd := kd) (σ := s96)).a ha0 hv116 es130 rfl (by decide)
        have rs130 := zp_st (σ := s96) (σ2 := s130) (i := v119) (x := v129) ev116 es130 (by omega)
        have ws130 := rs130
        rw [as96_49] at ws130
        have hS := hS.tr g131 (by decide) (by decide)
        have Ms130 := (zM_same hI ha0 g131 (by decide)).trans Ms96
        have gLs130 := gL.same hI ha0 g131 (by decide) gLs96
        have e133 := g131.v ev122 (by decide)
        have gRs130 := gR_row hI ha0 g131 rs130 (by omega) gRs96
        refine zg_aload_n X 0 rfl dX11_monthGoes_86 ?_
        refine fg_X11_110 X hI ha0 dX11_monthGoes_87 (fun v134 ev134 hv134 => ?_)
        replace E := zLet_s (zgr ev134) E
        refine zg_bipush X 36 dX11_monthGoes_90 (by decide) (fun v135 _ hv135 => ?_)
        replace E := zLet_s (zcst hv135 (by decide)) E
        refine zg_aload_n X 0 rfl dX11_monthGoes_92 ?_
        refine fg_X11_377 X hI ha0 dX11_monthGoes_93 (fun v136 ev136 hv136 => ?_)
        replace E := zLet_s ev136 E
        have mv136 : v136.toInt = v122.toInt := by rw [ev136, ← e133]
        refine zg_iadd X dX11_monthGoes_96 (by omega) (by omega) (fun v137 ev137 hv137 => ?_)
        replace E := zLet_s ev137 E
        refine zg_dup2 X dX11_monthGoes_97 rfl rfl ?_
        refine ag_149 X hI hv134 (by omega) (by omega) dX11_monthGoes_98 (fun v138 ev138 _ => ?_)
        replace E := zLet_s ev138 E
        have qv138 := zp_ld ev134 ev138
        refine zg_aload_n X 0 rfl dX11_monthGoes_99 ?_
        refine fg_X11_64 X hI ha0 dX11_monthGoes_100 (fun v139 ev139 hv139 => ?_)
        replace E := zLet_s (zgr ev139) E
        refine zg_aload_n X 0 rfl dX11_monthGoes_103 ?_
        refine fg_X11_236 X hI ha0 dX11_monthGoes_104 (fun v140 ev140 hv140 => ?_)
        replace E := zLet_s ev140 E
        refine ag_128 X hI hv139 (by omega) (by omega) dX11_monthGoes_107 (fun v141 ev141 _ => ?_)
        replace E := zLet_s ev141 E
        refine zg_iaddW X dX11_monthGoes_108 (fun v142 ev142 => ?_)
        replace E := zLet_s ev142 E
        refine as_149 X hI hv134 (by omega) (by omega) dX11_monthGoes_109 (fun s143 es143 hI => ?_)
        replace E := zLet_s es143 E
        have g144 := (zSame.rf (o := a0) (Wf := []) (Wa := [149]) (L := L) (kd := kd) (σ := s130)).a ha0 hv134 es143 rfl (by decide)
        have rs143 := zp_st (σ := s130) (σ2 := s143) (i := v137) (x := v142) ev134 es143 (by omega)
        have hS := hS.tr g144 (by decide) (by decide)
        have Ms143 := (zM_same hI ha0 g144 (by decide)).trans Ms130
        have gLs143 := gL.same hI ha0 g144 (by decide) gLs130
        have gRs143 := gR_row hI ha0 g144 rs143 (by omega) gRs130
        refine zg_aload_n X 0 rfl dX11_monthGoes_110 ?_
        refine fg_X11_110 X hI ha0 dX11_monthGoes_111 (fun v148 ev148 hv148 => ?_)
        replace E := zLet_s (zgr ev148) E
        refine zg_bipush X 48 dX11_monthGoes_114 (by decide) (fun v149 _ hv149 => ?_)
        replace E := zLet_s (zcst hv149 (by decide)) E
        refine zg_dup2 X dX11_monthGoes_116 rfl rfl ?_
        refine ag_149 X hI hv148 (by omega) (by omega) dX11_monthGoes_117 (fun v150 ev150 _ => ?_)
        replace E := zLet_s ev150 E
        have qv150 := zp_ld ev148 ev150
        rw [show v149.toInt = 48 by omega] at qv150
        refine zg_iconst X 1 dX11_monthGoes_118 (by decide) (fun v151 _ hv151 => ?_)
        replace E := zLet_s (zcst hv151 (by decide)) E
        refine zg_iaddW X dX11_monthGoes_119 (fun v152 ev152 => ?_)
        replace E := zLet_s ev152 E
        refine as_149 X hI hv148 (by omega) (by omega) dX11_monthGoes_120 (fun s153 es153 hI => ?_)
        replace E := zLet_s es153 E
        have g154 := (zSame.rf (o := a0) (Wf := []) (Wa := [149]) (L := L) (kd := kd) (σ := s143)).a ha0 hv148 es153 rfl (by decide)
        have rs153 := zp_st (σ := s143) (σ2 := s153) (i := v149) (x := v152) ev148 es153 (by omega)
        have hS := hS.tr g154 (by decide) (by decide)
        have Ms153 := (zM_same hI ha0 g154 (by decide)).trans Ms143
        have gLs153 := gL.same hI ha0 g154 (by decide) gLs143
        have gRs153 := gR_row hI ha0 g154 rs153 (by omega) gRs143
        refine zg_aload_n X 0 rfl dX11_monthGoes_121 ?_
        refine zg_iconst X 0 dX11_monthGoes_122 (by decide) (fun v158 _ hv158 => ?_)
        replace E := zLet_s (zcst hv158 (by decide)) E
        refine zg_cVv (As := [.int v158]) (st := []) X ha0 rfl (by decide) rfl (t_X11_fillsFlows l d L kd κ _ hI a0 ha0 v158   gRs153 gLs153) mk_X11_329 mc_X11_fillsFlows mz_X11 mi_X11_fillsFlows ml_X11_fillsFlows (na := 1) ⟨md_X11.1, md_X11.2, by decide +kernel⟩ rfl ⟨by decide, by decide⟩ (Nat.le_of_ble_eq_true rfl) dX11_monthGoes_123 (fun t159 hq => ?_)
        obtain ⟨hF, hI, g160⟩ := hq
        replace E := zLet_s hF E
        have hS := hS.tr g160 (by decide) (by decide)
        have Mt159 := (zM_same hI ha0 g160 (by decide)).trans Ms153
        have gRt159 := gR.same hI ha0 g160 (by decide) gRs153
        exact ret _ _ _ dX11_monthGoes_126 ⟨E.symm.trans hR, ⟨gRt159, hI, hS⟩⟩
    · skip
      replace E := zIf_f c84 E
      refine zg_aload_n X 0 rfl dX11_monthGoes_15 ?_
      refine fg_X11_61 X hI ha0 dX11_monthGoes_16 (fun v164 ev164 hv164 => ?_)
      replace E := zLet_s (zgr ev164) E
      refine zg_aload_n X 0 rfl dX11_monthGoes_19 ?_
      refine fg_X11_236 X hI ha0 dX11_monthGoes_20 (fun v165 ev165 hv165 => ?_)
      replace E := zLet_s ev165 E
      refine ag_127 X hI hv164 (by omega) (by omega) dX11_monthGoes_23 (fun v166 ev166 _ => ?_)
      replace E := zLet_s ev166 E
      refine zg_goto X 28 dX11_monthGoes_24 (by decide) ?_
      refine zg_cVv (As := [.int v166]) (st := []) X ha0 rfl (by decide) rfl (t_X11_fillsFlows l d L kd κ _ hI a0 ha0 v166   hgR hgL) mk_X11_329 mc_X11_fillsFlows mz_X11 mi_X11_fillsFlows ml_X11_fillsFlows (na := 1) ⟨md_X11.1, md_X11.2, by decide +kernel⟩ rfl ⟨by decide, by decide⟩ (Nat.le_of_ble_eq_true rfl) dX11_monthGoes_28 (fun t167 hq => ?_)
      obtain ⟨hF, hI, g168⟩ := hq
      replace E := zLet_s hF E
      have hS := hS.tr g168 (by decide) (by decide)
      have Mt167 := zM_same hI ha0 g168 (by decide)
      have at167_49 := zp_same hI ha0 g168 49 rfl (by decide) (by decide)
      have gRt167 := gR.same hI ha0 g168 (by decide) hgR
      have gLt167 := gL.same hI ha0 g168 (by decide) hgL
      have e170 := g168.v ev165 (by decide)
      refine zg_aload_n X 0 rfl dX11_monthGoes_31 ?_
      refine zg_aload_n X 0 rfl dX11_monthGoes_32 ?_
      refine zg_aload_n X 0 rfl dX11_monthGoes_33 ?_
      refine fg_X11_110 X hI ha0 dX11_monthGoes_34 (fun v171 ev171 hv171 => ?_)
      replace E := zLet_s (zgr ev171) E
      refine zg_bipush X 49 dX11_monthGoes_37 (by decide) (fun v172 _ hv172 => ?_)
      replace E := zLet_s (zcst hv172 (by decide)) E
      refine ag_149 X hI hv171 (by omega) (by omega) dX11_monthGoes_39 (fun v173 ev173 _ => ?_)
      replace E := zLet_s ev173 E
      have qv173 := zp_ld ev171 ev173
      rw [at167_49] at qv173
      rw [show v172.toInt = 49 by omega] at qv173
      have zl := gR_law gRt167
      rw [at167_49] at zl
      refine zg_cVi (As := [.int v173]) (st := [.ref a0]) X ha0 rfl (by decide) rfl (t_X11_winnerBy l d L kd κ _ hI a0 ha0 v173  (by omega) gLt167) mk_X11_374 mc_X11_winnerBy mz_X11 mi_X11_winnerBy ml_X11_winnerBy (na := 1) ⟨md_X11.1, md_X11.2, by decide +kernel⟩ rfl ⟨by decide, by decide⟩ (Nat.le_of_ble_eq_true rfl) dX11_monthGoes_40 (fun v175 t174 hq => ?_)
      obtain ⟨hF, ⟨ht174_res, ht174_fact0, ht174_fact1⟩, hI, g176⟩ := hq
      replace E := zLet2_s hF E
      have hS := hS.tr g176 (by decide) (by decide)
      have Mt174 := (zM_same hI ha0 g176 (by decide)).trans Mt167
      have at174_49 := (zp_same hI ha0 g176 49 rfl (by decide) (by decide)).trans at167_49
      have gRt174 := gR.same hI ha0 g176 (by decide) gRt167
      have gLt174 := gL.same hI ha0 g176 (by decide) gLt167
      have e178 := g176.v e170 (by decide)
      refine fp_X11_377 X hI ha0 ⟨by omega, by omega⟩ dX11_monthGoes_43 (fun s179 es179 hI => ?_)
      replace E := zLet_s es179 E
      have g180 := (zSame.rf (o := a0) (Wf := [56]) (Wa := []) (L := L) (kd := kd) (σ := t174)).f ha0 es179 rfl
      have hS := hS.tr g180 (by decide) (by decide)
      have Ms179 := (zM_same hI ha0 g180 (by decide)).trans Mt174
      have as179_49 := (zp_same hI ha0 g180 49 rfl (by decide) (by decide)).trans at174_49
      have gRs179 := gR.same hI ha0 g180 (by decide) gRt174
      have gLs179 := gL.same hI ha0 g180 (by decide) gLt174
      have e182 := g180.v e178 (by decide)
      have fs179_56 : (s179.1 a0 56).toInt = v175.toInt := by rw [es179]; exact congrArg _ (zu_s _ _ _ _)
      have e183 : v175 = s179.1 a0 56 := by rw [es179]; exact zm_s
      refine zg_aload_n X 0 rfl dX11_monthGoes_46 ?_
      refine fg_X11_377 X hI ha0 dX11_monthGoes_47 (fun v184 ev184 hv184 => ?_)
      replace E := zLet_s ev184 E
      have mv184 : v184.toInt = v175.toInt := by rw [ev184, ← e183]
      refine zg_if_lt X 110 dX11_monthGoes_50 (by decide) (fun c185 => ?_) (fun c185 => ?_)
      · skip
        replace E := zIf_t c185 E
        refine zg_aload_n X 0 rfl dX11_monthGoes_110 ?_
        refine fg_X11_110 X hI ha0 dX11_monthGoes_111 (fun v186 ev186 hv186 => ?_)
        replace E := zLet_s (zgr ev186) E
        refine zg_bipush X 48 dX11_monthGoes_114 (by decide) (fun v187 _ hv187 => ?_)
        replace E := zLet_s (zcst hv187 (by decide)) E
        refine zg_dup2 X dX11_monthGoes_116 rfl rfl ?_
        refine ag_149 X hI hv186 (by omega) (by omega) dX11_monthGoes_117 (fun v188 ev188 _ => ?_)
        replace E := zLet_s ev188 E
        have qv188 := zp_ld ev186 ev188
        rw [as179_49] at qv188
        rw [show v187.toInt = 48 by omega] at qv188
        refine zg_iconst X 1 dX11_monthGoes_118 (by decide) (fun v189 _ hv189 => ?_)
        replace E := zLet_s (zcst hv189 (by decide)) E
        refine zg_iaddW X dX11_monthGoes_119 (fun v190 ev190 => ?_)
        replace E := zLet_s ev190 E
        refine as_149 X hI hv186 (by omega) (by omega) dX11_monthGoes_120 (fun s191 es191 hI => ?_)
        replace E := zLet_s es191 E
        have g192 := (zSame.rf (o := a0) (Wf := []) (Wa := [149]) (L := L) (kd := kd) (σ := s179)).a ha0 hv186 es191 rfl (by decide)
        have rs191 := zp_st (σ := s179) (σ2 := s191) (i := v187) (x := v190) ev186 es191 (by omega)
        have ws191 := rs191
        rw [as179_49] at ws191
        have hS := hS.tr g192 (by decide) (by decide)
        have Ms191 := (zM_same hI ha0 g192 (by decide)).trans Ms179
        have gLs191 := gL.same hI ha0 g192 (by decide) gLs179
        have gRs191 := gR_row hI ha0 g192 rs191 (by omega) gRs179
        refine zg_aload_n X 0 rfl dX11_monthGoes_121 ?_
        refine zg_iconst X 0 dX11_monthGoes_122 (by decide) (fun v196 _ hv196 => ?_)
        replace E := zLet_s (zcst hv196 (by decide)) E
        refine zg_cVv (As := [.int v196]) (st := []) X ha0 rfl (by decide) rfl (t_X11_fillsFlows l d L kd κ _ hI a0 ha0 v196   gRs191 gLs191) mk_X11_329 mc_X11_fillsFlows mz_X11 mi_X11_fillsFlows ml_X11_fillsFlows (na := 1) ⟨md_X11.1, md_X11.2, by decide +kernel⟩ rfl ⟨by decide, by decide⟩ (Nat.le_of_ble_eq_true rfl) dX11_monthGoes_123 (fun t197 hq => ?_)
        obtain ⟨hF, hI, g198⟩ := hq
        replace E := zLet_s hF E
        have hS := hS.tr g198 (by decide) (by decide)
        have Mt197 := (zM_same hI ha0 g198 (by decide)).trans Ms191
        have gRt197 := gR.same hI ha0 g198 (by decide) gRs191
        exact ret _ _ _ dX11_monthGoes_126 ⟨E.symm.trans hR, ⟨gRt197, hI, hS⟩⟩
      · skip
        replace E := zIf_f (Int.not_lt.mpr c185) E
        refine zg_aload_n X 0 rfl dX11_monthGoes_53 ?_
        refine fg_X11_110 X hI ha0 dX11_monthGoes_54 (fun v202 ev202 hv202 => ?_)
        replace E := zLet_s (zgr ev202) E
        refine zg_bipush X 24 dX11_monthGoes_57 (by decide) (fun v203 _ hv203 => ?_)
        replace E := zLet_s (zcst hv203 (by decide)) E
        refine zg_aload_n X 0 rfl dX11_monthGoes_59 ?_
        refine fg_X11_377 X hI ha0 dX11_monthGoes_60 (fun v204 ev204 hv204 => ?_)
        replace E := zLet_s ev204 E
        have mv204 : v204.toInt = v184.toInt := by rw [ev204, ← ev184]
        refine zg_iadd X dX11_monthGoes_63 (by omega) (by omega) (fun v205 ev205 hv205 => ?_)
        replace E := zLet_s ev205 E
        refine zg_aload_n X 0 rfl dX11_monthGoes_64 ?_
        refine fg_X11_110 X hI ha0 dX11_monthGoes_65 (fun v206 ev206 hv206 => ?_)
        replace E := zLet_s (zgr ev206) E
        refine zg_bipush X 24 dX11_monthGoes_68 (by decide) (fun v207 _ hv207 => ?_)
        replace E := zLet_s (zcst hv207 (by decide)) E
        refine zg_aload_n X 0 rfl dX11_monthGoes_70 ?_
        refine fg_X11_377 X hI ha0 dX11_monthGoes_71 (fun v208 ev208 hv208 => ?_)
        replace E := zLet_s ev208 E
        have mv208 : v208.toInt = v204.toInt := by rw [ev208, ← ev204]
        refine zg_iadd X dX11_monthGoes_74 (by omega) (by omega) (fun v209 ev209 hv209 => ?_)
        replace E := zLet_s ev209 E
        refine ag_149 X hI hv206 (by omega) (by omega) dX11_monthGoes_75 (fun v210 ev210 _ => ?_)
        replace E := zLet_s ev210 E
        have qv210 := zp_ld ev206 ev210
        rw [as179_49] at qv210
        refine zg_iconst X 1 dX11_monthGoes_76 (by decide) (fun v211 _ hv211 => ?_)
        replace E := zLet_s (zcst hv211 (by decide)) E
        refine zg_iaddW X dX11_monthGoes_77 (fun v212 ev212 => ?_)
        replace E := zLet_s ev212 E
        refine zg_iconst X 0 dX11_monthGoes_78 (by decide) (fun v213 _ hv213 => ?_)
        replace E := zLet_s (zcst hv213 (by decide)) E
        refine zg_sipush X 999 dX11_monthGoes_79 (by decide) (fun v214 _ hv214 => ?_)
        replace E := zLet_s (zcst hv214 (by decide)) E
        refine zg_cSi (As := [.int v212, .int v213, .int v214]) (st := [.int v205, .ref v202]) X (t_X11_within l d L kd _ v212 v213 v214 ) mk_X11_357 mc_X11_within mz_X11 ms_X11_within (na := 3) ⟨md_X11.1, md_X11.2, by decide +kernel⟩ rfl ⟨by decide, by decide⟩ (Nat.le_of_ble_eq_true rfl) dX11_monthGoes_82 (fun v215 σ2 hq => ?_)
        obtain ⟨⟨hF, hv215⟩, rfl⟩ := hq
        replace E := zLet_s hF E
        refine as_149 X hI hv202 (by omega) (by omega) dX11_monthGoes_85 (fun s216 es216 hI => ?_)
        replace E := zLet_s es216 E
        have g217 := (zSame.rf (o := a0) (Wf := []) (Wa := [149]) (L := L) (kd := kd) (σ := s179)).a ha0 hv202 es216 rfl (by decide)
        have rs216 := zp_st (σ := s179) (σ2 := s216) (i := v205) (x := v215) ev202 es216 (by omega)
        have ws216 := rs216
        rw [as179_49] at ws216
        have hS := hS.tr g217 (by decide) (by decide)
        have Ms216 := (zM_same hI ha0 g217 (by decide)).trans Ms179
        have gLs216 := gL.same hI ha0 g217 (by decide) gLs179
        have e219 := g217.v e182 (by decide)
        have e220 := g217.v ev208 (by decide)
        have gRs216 := gR_row hI ha0 g217 rs216 (by omega) gRs179
        refine zg_aload_n X 0 rfl dX11_monthGoes_86 ?_
        refine fg_X11_110 X hI ha0 dX11_monthGoes_87 (fun v221 ev221 hv221 => ?_)
        replace E := zLet_s (zgr ev221) E
        refine zg_bipush X 36 dX11_monthGoes_90 (by decide) (fun v222 _ hv222 => ?_)
        replace E := zLet_s (zcst hv222 (by decide)) E
        refine zg_aload_n X 0 rfl dX11_monthGoes_92 ?_
        refine fg_X11_377 X hI ha0 dX11_monthGoes_93 (fun v223 ev223 hv223 => ?_)
        replace E := zLet_s ev223 E
        have mv223 : v223.toInt = v208.toInt := by rw [ev223, ← e220]
        refine zg_iadd X dX11_monthGoes_96 (by omega) (by omega) (fun v224 ev224 hv224 => ?_)
        replace E := zLet_s ev224 E
        refine zg_dup2 X dX11_monthGoes_97 rfl rfl ?_
        refine ag_149 X hI hv221 (by omega) (by omega) dX11_monthGoes_98 (fun v225 ev225 _ => ?_)
        replace E := zLet_s ev225 E
        have qv225 := zp_ld ev221 ev225
        refine zg_aload_n X 0 rfl dX11_monthGoes_99 ?_
        refine fg_X11_64 X hI ha0 dX11_monthGoes_100 (fun v226 ev226 hv226 => ?_)
        replace E := zLet_s (zgr ev226) E
        refine zg_aload_n X 0 rfl dX11_monthGoes_103 ?_
        refine fg_X11_236 X hI ha0 dX11_monthGoes_104 (fun v227 ev227 hv227 => ?_)
        replace E := zLet_s ev227 E
        have mv227 : v227.toInt = v165.toInt := by rw [ev227, ← e219]
        refine ag_128 X hI hv226 (by omega) (by omega) dX11_monthGoes_107 (fun v228 ev228 _ => ?_)
        replace E := zLet_s ev228 E
        refine zg_iaddW X dX11_monthGoes_108 (fun v229 ev229 => ?_)
        replace E := zLet_s ev229 E
        refine as_149 X hI hv221 (by omega) (by omega) dX11_monthGoes_109 (fun s230 es230 hI => ?_)
        replace E := zLet_s es230 E
        have g231 := (zSame.rf (o := a0) (Wf := []) (Wa := [149]) (L := L) (kd := kd) (σ := s216)).a ha0 hv221 es230 rfl (by decide)
        have rs230 := zp_st (σ := s216) (σ2 := s230) (i := v224) (x := v229) ev221 es230 (by omega)
        have hS := hS.tr g231 (by decide) (by decide)
        have Ms230 := (zM_same hI ha0 g231 (by decide)).trans Ms216
        have gLs230 := gL.same hI ha0 g231 (by decide) gLs216
        have gRs230 := gR_row hI ha0 g231 rs230 (by omega) gRs216
        refine zg_aload_n X 0 rfl dX11_monthGoes_110 ?_
        refine fg_X11_110 X hI ha0 dX11_monthGoes_111 (fun v235 ev235 hv235 => ?_)
        replace E := zLet_s (zgr ev235) E
        refine zg_bipush X 48 dX11_monthGoes_114 (by decide) (fun v236 _ hv236 => ?_)
        replace E := zLet_s (zcst hv236 (by decide)) E
        refine zg_dup2 X dX11_monthGoes_116 rfl rfl ?_
        refine ag_149 X hI hv235 (by omega) (by omega) dX11_monthGoes_117 (fun v237 ev237 _ => ?_)
        replace E := zLet_s ev237 E
        have qv237 := zp_ld ev235 ev237
        rw [show v236.toInt = 48 by omega] at qv237
        refine zg_iconst X 1 dX11_monthGoes_118 (by decide) (fun v238 _ hv238 => ?_)
        replace E := zLet_s (zcst hv238 (by decide)) E
        refine zg_iaddW X dX11_monthGoes_119 (fun v239 ev239 => ?_)
        replace E := zLet_s ev239 E
        refine as_149 X hI hv235 (by omega) (by omega) dX11_monthGoes_120 (fun s240 es240 hI => ?_)
        replace E := zLet_s es240 E
        have g241 := (zSame.rf (o := a0) (Wf := []) (Wa := [149]) (L := L) (kd := kd) (σ := s230)).a ha0 hv235 es240 rfl (by decide)
        have rs240 := zp_st (σ := s230) (σ2 := s240) (i := v236) (x := v239) ev235 es240 (by omega)
        have hS := hS.tr g241 (by decide) (by decide)
        have Ms240 := (zM_same hI ha0 g241 (by decide)).trans Ms230
        have gLs240 := gL.same hI ha0 g241 (by decide) gLs230
        have gRs240 := gR_row hI ha0 g241 rs240 (by omega) gRs230
        refine zg_aload_n X 0 rfl dX11_monthGoes_121 ?_
        refine zg_iconst X 0 dX11_monthGoes_122 (by decide) (fun v245 _ hv245 => ?_)
        replace E := zLet_s (zcst hv245 (by decide)) E
        refine zg_cVv (As := [.int v245]) (st := []) X ha0 rfl (by decide) rfl (t_X11_fillsFlows l d L kd κ _ hI a0 ha0 v245   gRs240 gLs240) mk_X11_329 mc_X11_fillsFlows mz_X11 mi_X11_fillsFlows ml_X11_fillsFlows (na := 1) ⟨md_X11.1, md_X11.2, by decide +kernel⟩ rfl ⟨by decide, by decide⟩ (Nat.le_of_ble_eq_true rfl) dX11_monthGoes_123 (fun t246 hq => ?_)
        obtain ⟨hF, hI, g247⟩ := hq
        replace E := zLet_s hF E
        have hS := hS.tr g247 (by decide) (by decide)
        have Mt246 := (zM_same hI ha0 g247 (by decide)).trans Ms240
        have gRt246 := gR.same hI ha0 g247 (by decide) gRs240
        exact ret _ _ _ dX11_monthGoes_126 ⟨E.symm.trans hR, ⟨gRt246, hI, hS⟩⟩
set_option maxHeartbeats 4000000 in
set_option maxRecDepth 100000 in
theorem t_X11_goes (l : Launch) (d : zD2) (L : List Nat) (kd : Nat → Nat) (κ : Int) (σ : zS) (hI : zJ κ L kd σ) (a0 : Nat) (ha0 : zT L kd a0 11) (p1 : Int32) (hgR : gR a0 σ) (hgL : gL a0 σ) : zMv l yX11_goes (Cond.code yX11_goes cX11_goes 3 none :: zWL) 5 [.ref a0, .int p1] d L kd σ (fun σ2 => σ2 = F_X11_goes a0 p1 σ ∧ ((gR a0 σ2) ∧ zJ κ L kd σ2 ∧ zSame a0 [47, 56] [145, 146, 149, 155] L kd σ σ2)) := by
  refine zMv.of (own := RX11) (by decide +kernel) rfl rfl (Nat.le_of_ble_eq_true rfl) ?_
  intro p e s m args below meth c A Q X ret
  have hS : zSame a0 [47, 56] [145, 146, 149, 155] L kd σ σ := zSame.rf
  refine zg_lv (lv2 := [(0, .ref a0), (1, .int p1)]) rfl ?_
  obtain ⟨R, hR⟩ : ∃ R, R = F_X11_goes a0 p1 σ := ⟨_, rfl⟩
  have E := hR
  unfold F_X11_goes at E
  refine zg_iconst X 0 dX11_goes_0 (by decide) (fun v1 _ hv1 => ?_)
  replace E := zLet_s (zcst hv1 (by decide)) E
  refine zg_istore_n X [(2, .int v1), (0, .ref a0), (1, .int p1)] dX11_goes_1 (by decide) rfl ?_
  have Lp3 : ∀ (nLp3 : Nat) (τ3 : zS) (x2 : Int32), zJ κ L kd τ3 → zSame a0 [47, 56] [145, 146, 149, 155] L kd σ τ3 → gL a0 τ3 → gR a0 τ3 → R = F_X11_goes_2 a0 p1  nLp3 x2 τ3 → 0 ≤ x2.toInt ∧ x2.toInt ≤ 2147483647 → (2147483647) - x2.toInt + 1 < (nLp3 : Int) → zG d L kd A 3 p l e (k2_rm 5 (100 * 5)) s m args below meth c Q τ3 2 [(2, .int x2), (0, .ref a0), (1, .int p1)] [] := by
    intro nLp3
    induction nLp3 with
    | zero => intro τ3 x2 hI hS gL_Lp3 gR_Lp3 E  hxLp3 hm ; exact absurd hm (by omega)
    | succ nLp3 ihLp3 =>
      intro τ3 x2 hI hS gL_Lp3 gR_Lp3 E  hxLp3 hmLp3 
      rw [F_X11_goes_2] at E
      refine zg_iload_n X 0 rfl dX11_goes_2 ?_
      refine zg_iload_n X 2 rfl dX11_goes_3 ?_
      have zx2_z4 := zb_rng x2
      have zp1_z5 := zb_rng p1
      refine zg_icmp_ge X 17 dX11_goes_4 (by decide) (fun c6 => ?_) (fun c6 => ?_)
      · skip
        replace E := zIf_f (Int.not_lt.mpr c6) E
        exact ret _ _ _ dX11_goes_17 ⟨E.symm.trans hR, ⟨gR_Lp3, hI, hS⟩⟩
      · skip
        replace E := zIf_t c6 E
        refine zg_aload_n X 1 rfl dX11_goes_7 ?_
        refine zg_cVv (As := []) (st := []) X ha0 rfl (by decide) rfl (t_X11_monthGoes l d L kd κ _ hI a0 ha0    gR_Lp3 gL_Lp3) mk_X11_380 mc_X11_monthGoes mz_X11 mi_X11_monthGoes ml_X11_monthGoes (na := 0) ⟨md_X11.1, md_X11.2, by decide +kernel⟩ rfl ⟨by decide, by decide⟩ (Nat.le_of_ble_eq_true rfl) dX11_goes_8 (fun t7 hq => ?_)
        obtain ⟨hF, gRt7, hI, g8⟩ := hq
        replace E := zLet_s hF E
        have hS := hS.tr g8 (by decide) (by decide)
        have gLt7 := gL.same hI ha0 g8 (by decide) gL_Lp3
        refine zg_iinc X 1 (fun v9 => [(2, .int v9), (0, .ref a0), (1, .int p1)]) 0 dX11_goes_11 rfl (by decide) (by decide) (by omega) (by omega) (fun _ => rfl) (fun v9 ev9 hv9 => ?_)
        replace E := zLet_s (zinc ev9 (by decide)) E
        refine zg_goto X 2 dX11_goes_14 (by decide) ?_
        refine zg_sub [0, 1, 2] rfl ?_
        exact ihLp3 _ v9 hI hS gLt7 gRt7 E  (by omega) (by omega) 
  have zrLp3 := zb_rng v1
  refine zg_sub [0, 1, 2] rfl ?_
  exact Lp3 4294967299 _ v1 hI hS hgL hgR E  (by omega) (by omega) 
set_option maxHeartbeats 4000000 in
set_option maxRecDepth 100000 in
theorem t_X11_begins (l : Launch) (d : zD2) (L : List Nat) (kd : Nat → Nat) (κ : Int) (σ : zS) (hI : zJ κ L kd σ) (a0 : Nat) (ha0 : zT L kd a0 11) (hgT : gT a0 σ) : zMv l yX11_begins (Cond.code yX11_begins cX11_begins 2 none :: zWL) 1 [.ref a0] d L kd σ (fun σ2 => σ2 = F_X11_begins a0 σ ∧ ((gR a0 σ2) ∧ zJ κ L kd σ2 ∧ zSame a0 [50, 51] [149] L kd σ σ2)) := by
  refine zMv.of (own := RX11) (by decide +kernel) rfl rfl (Nat.le_of_ble_eq_true rfl) ?_
  intro p e s m args below meth c A Q X ret
  have hS : zSame a0 [50, 51] [149] L kd σ σ := zSame.rf
  refine zg_lv (lv2 := [(0, .ref a0)]) rfl ?_
  have zm := zM_in hI ha0
  obtain ⟨R, hR⟩ : ∃ R, R = F_X11_begins a0 σ := ⟨_, rfl⟩
  have E := hR
  unfold F_X11_begins at E
  refine zg_iconst X 0 dX11_begins_0 (by decide) (fun v1 _ hv1 => ?_)
  replace E := zLet_s (zcst hv1 (by decide)) E
  refine zg_istore_n X [(1, .int v1), (0, .ref a0)] dX11_begins_1 (by decide) rfl ?_
  have Lp3 : ∀ (nLp3 : Nat) (τ3 : zS) (x2 : Int32), zJ κ L kd τ3 → zSame a0 [50, 51] [149] L kd σ τ3 → gT a0 τ3 → zM a0 τ3 = zM a0 σ → (τ3.1 a0 18).toInt = (σ.1 a0 18).toInt → zp a0 τ3 22 = zp a0 σ 22 → R = F_X11_begins_2 a0  nLp3 x2 τ3 → 0 ≤ x2.toInt ∧ x2.toInt ≤ 50 → (50) - x2.toInt + 1 < (nLp3 : Int) → (∀ j : Int, 0 ≤ j → j < x2.toInt → zp a0 τ3 49 j = 0) → zG d L kd A 2 p l e (k2_rm 1 (100 * 1)) s m args below meth c Q τ3 2 [(1, .int x2), (0, .ref a0)] [] := by
    intro nLp3
    induction nLp3 with
    | zero => intro τ3 x2 hI hS gT_Lp3 M_Lp3 T18_Lp3 A22_Lp3 E  hxLp3 hm _ ; exact absurd hm (by omega)
    | succ nLp3 ihLp3 =>
      intro τ3 x2 hI hS gT_Lp3 M_Lp3 T18_Lp3 A22_Lp3 E  hxLp3 hmLp3 hz
      rw [F_X11_begins_2] at E
      refine zg_iload_n X 0 rfl dX11_begins_2 ?_
      refine zg_bipush X 50 dX11_begins_3 (by decide) (fun v4 _ hv4 => ?_)
      replace E := zLet_s (zcst hv4 (by decide)) E
      refine zg_icmp_ge X 21 dX11_begins_5 (by decide) (fun c5 => ?_) (fun c5 => ?_)
      · skip
        replace E := zIf_f (Int.not_lt.mpr c5) E
        refine zg_iconst X 0 dX11_begins_21 (by decide) (fun v6 _ hv6 => ?_)
        replace E := zLet_s (zcst hv6 (by decide)) E
        refine zg_istore_n X [(1, .int v6), (0, .ref a0)] dX11_begins_22 (by decide) rfl ?_
        have Lp8 : ∀ (nLp8 : Nat) (τ8 : zS) (x7 : Int32), zJ κ L kd τ8 → zSame a0 [50, 51] [149] L kd σ τ8 → gT a0 τ8 → zM a0 τ8 = zM a0 σ → (τ8.1 a0 18).toInt = (σ.1 a0 18).toInt → zp a0 τ8 22 = zp a0 σ 22 → R = F_X11_begins_23 a0 (F_X11_begins_2 a0  nLp3) nLp8 x7 τ8 → 0 ≤ x7.toInt ∧ x7.toInt ≤ 12 ∧ x7.toInt ≤ zM a0 σ → (12) - x7.toInt + 1 < (nLp8 : Int) → (∀ j : Int, 0 ≤ j → j < 50 → (j < x7.toInt → zp a0 τ8 49 j = zp a0 σ 22 (12 * (σ.1 a0 18).toInt + j)) ∧ (x7.toInt ≤ j → zp a0 τ8 49 j = 0)) → zG d L kd A 2 p l e (k2_rm 1 (100 * 1)) s m args below meth c Q τ8 23 [(1, .int x7), (0, .ref a0)] [] := by
          intro nLp8
          induction nLp8 with
          | zero => intro τ8 x7 hI hS gT_Lp8 M_Lp8 T18_Lp8 A22_Lp8 E  hxLp8 hm _ ; exact absurd hm (by omega)
          | succ nLp8 ihLp8 =>
            intro τ8 x7 hI hS gT_Lp8 M_Lp8 T18_Lp8 A22_Lp8 E  hxLp8 hmLp8 hc
            rw [F_X11_begins_23] at E
            refine zg_iload_n X 0 rfl dX11_begins_23 ?_
            refine zg_aload_n X 1 rfl dX11_begins_24 ?_
            refine zg_cVi (As := []) (st := [.int x7]) X ha0 rfl (by decide) rfl (t_X11_many l d L kd κ _ hI a0 ha0   ) mk_X11_313 mc_X11_many mz_X11 mi_X11_many ml_X11_many (na := 0) ⟨md_X11.1, md_X11.2, by decide +kernel⟩ rfl ⟨by decide, by decide⟩ (Nat.le_of_ble_eq_true rfl) dX11_begins_25 (fun v10 t9 hq => ?_)
            obtain ⟨⟨hF, ⟨ht9_res, ht9_fact0⟩⟩, rfl⟩ := hq
            replace E := zLet_s hF E
            refine zg_icmp_ge X 57 dX11_begins_28 (by decide) (fun c11 => ?_) (fun c11 => ?_)
            · skip
              replace E := zIf_f (Int.not_lt.mpr c11) E
              refine zg_aload_n X 1 rfl dX11_begins_57 ?_
              refine zg_aload_n X 1 rfl dX11_begins_58 ?_
              refine fg_X11_67 X hI ha0 dX11_begins_59 (fun v12 ev12 hv12 => ?_)
              replace E := zLet_s (zgr ev12) E
              refine zg_aload_n X 1 rfl dX11_begins_62 ?_
              refine fg_X11_236 X hI ha0 dX11_begins_63 (fun v13 ev13 hv13 => ?_)
              replace E := zLet_s ev13 E
              have kv13 : (τ8.1 a0 18).toInt = v13.toInt := by rw [ev13]
              refine ag_129 X hI hv12 (by omega) (by omega) dX11_begins_66 (fun v14 ev14 _ => ?_)
              replace E := zLet_s ev14 E
              refine fp_X11_320 X hI ha0 (zb_rng _) dX11_begins_67 (fun s15 es15 hI => ?_)
              replace E := zLet_s es15 E
              have g16 := (zSame.rf (o := a0) (Wf := [50]) (Wa := []) (L := L) (kd := kd) (σ := τ8)).f ha0 es15 rfl
              have fs15_18 : (s15.1 a0 18).toInt = (τ8.1 a0 18).toInt := by rw [g16.2.1 18 (by decide)]
              have hS := hS.tr g16 (by decide) (by decide)
              have Ms15 := (zM_same hI ha0 g16 (by decide)).trans M_Lp8
              have as15_49 := zp_same hI ha0 g16 49 rfl (by decide) (by decide)
              have gTs15 := gT.same hI ha0 g16 (by decide) gT_Lp8
              have fs15_50 : (s15.1 a0 50).toInt = v14.toInt := by rw [es15]; exact congrArg _ (zu_s _ _ _ _)
              have e18 : v14 = s15.1 a0 50 := by rw [es15]; exact zm_s
              refine zg_aload_n X 1 rfl dX11_begins_70 ?_
              refine zg_iconst X 0 dX11_begins_71 (by decide) (fun v19 _ hv19 => ?_)
              replace E := zLet_s (zcst hv19 (by decide)) E
              refine fp_X11_323 X hI ha0 ⟨by omega, by omega⟩ dX11_begins_72 (fun s20 es20 hI => ?_)
              replace E := zLet_s es20 E
              have g21 := (zSame.rf (o := a0) (Wf := [51]) (Wa := []) (L := L) (kd := kd) (σ := s15)).f ha0 es20 rfl
              have fs20_18 : (s20.1 a0 18).toInt = (s15.1 a0 18).toInt := by rw [g21.2.1 18 (by decide)]
              have hS := hS.tr g21 (by decide) (by decide)
              have Ms20 := (zM_same hI ha0 g21 (by decide)).trans Ms15
              have as20_49 := (zp_same hI ha0 g21 49 rfl (by decide) (by decide)).trans as15_49
              have gTs20 := gT.same hI ha0 g21 (by decide) gTs15
              have fs20_51 : (s20.1 a0 51).toInt = v19.toInt := by rw [es20]; exact congrArg _ (zu_s _ _ _ _)
              have e24 : v19 = s20.1 a0 51 := by rw [es20]; exact zm_s
              exact ret _ _ _ dX11_begins_75 ⟨E.symm.trans hR, ⟨(by unfold gR; rw [Ms20, as20_49]; exact gRow.told zm.2 hgT (fun c h1 h2 => (hc c h1 (by omega)).1 (by omega)) ((hc 49 (by decide) (by decide)).2 (by omega))), hI, hS⟩⟩
            · skip
              replace E := zIf_t c11 E
              refine zg_aload_n X 1 rfl dX11_begins_31 ?_
              refine fg_X11_110 X hI ha0 dX11_begins_32 (fun v25 ev25 hv25 => ?_)
              replace E := zLet_s (zgr ev25) E
              refine zg_iload_n X 0 rfl dX11_begins_35 ?_
              refine zg_aload_n X 1 rfl dX11_begins_36 ?_
              refine fg_X11_46 X hI ha0 dX11_begins_37 (fun v26 ev26 hv26 => ?_)
              replace E := zLet_s (zgr ev26) E
              refine zg_bipush X 12 dX11_begins_40 (by decide) (fun v27 _ hv27 => ?_)
              replace E := zLet_s (zcst hv27 (by decide)) E
              refine zg_aload_n X 1 rfl dX11_begins_42 ?_
              refine fg_X11_236 X hI ha0 dX11_begins_43 (fun v28 ev28 hv28 => ?_)
              replace E := zLet_s ev28 E
              have kv28 : (τ8.1 a0 18).toInt = v28.toInt := by rw [ev28]
              refine zg_imulc X 12 dX11_begins_46 (by omega) (by omega) (by omega) (fun v29 ev29 hv29 => ?_)
              replace E := zLet_s ev29 E
              refine zg_iload_n X 0 rfl dX11_begins_47 ?_
              refine zg_iadd X dX11_begins_48 (by omega) (by omega) (fun v30 ev30 hv30 => ?_)
              replace E := zLet_s ev30 E
              refine ag_122 X hI hv26 (by omega) (by omega) dX11_begins_49 (fun v31 ev31 _ => ?_)
              replace E := zLet_s ev31 E
              have qv31 := zp_ld ev26 ev31
              rw [A22_Lp8] at qv31
              refine as_149 X hI hv25 (by omega) (by omega) dX11_begins_50 (fun s32 es32 hI => ?_)
              replace E := zLet_s es32 E
              have g33 := (zSame.rf (o := a0) (Wf := []) (Wa := [149]) (L := L) (kd := kd) (σ := τ8)).a ha0 hv25 es32 rfl (by decide)
              have rs32 := zp_st (σ := τ8) (σ2 := s32) (i := x7) (x := v31) ev25 es32 (by omega)
              have ws32 := rs32
              have fs32_18 : (s32.1 a0 18).toInt = (τ8.1 a0 18).toInt := by rw [g33.2.1 18 (by decide)]
              have hS := hS.tr g33 (by decide) (by decide)
              have Ms32 := (zM_same hI ha0 g33 (by decide)).trans M_Lp8
              have as32_22 := (zp_same hI ha0 g33 22 rfl (by decide) (by decide)).trans A22_Lp8
              have gTs32 := gT.same hI ha0 g33 (by decide) gT_Lp8
              refine zg_iinc X 1 (fun v35 => [(1, .int v35), (0, .ref a0)]) 0 dX11_begins_51 rfl (by decide) (by decide) (by omega) (by omega) (fun _ => rfl) (fun v35 ev35 hv35 => ?_)
              replace E := zLet_s (zinc ev35 (by decide)) E
              refine zg_goto X 23 dX11_begins_54 (by decide) ?_
              refine zg_sub [0, 1] rfl ?_
              exact ihLp8 _ v35 hI hS gTs32 Ms32 (by omega) as32_22 E  (by omega) (by omega) (fun j h0 h1 => by rw [ws32 j h0]; have zj := hc j h0 h1; split <;> rename_i hj <;> first | (refine ⟨fun h2 => ?_, fun h2 => absurd h2 (by omega)⟩; rw [qv31, hj]; congr 1; omega) | exact ⟨fun h2 => zj.1 (by omega), fun h2 => zj.2 (by omega)⟩)
        refine zg_sub [0, 1] rfl ?_
        exact Lp8 10000 _ v6 hI hS gT_Lp3 M_Lp3 (by omega) A22_Lp3 E  (by omega) (by omega) (fun j h0 h1 => ⟨fun h2 => absurd h2 (by omega), fun h2 => hz j h0 (by omega)⟩)
      · skip
        replace E := zIf_t c5 E
        refine zg_aload_n X 1 rfl dX11_begins_8 ?_
        refine fg_X11_110 X hI ha0 dX11_begins_9 (fun v36 ev36 hv36 => ?_)
        replace E := zLet_s (zgr ev36) E
        refine zg_iload_n X 0 rfl dX11_begins_12 ?_
        refine zg_iconst X 0 dX11_begins_13 (by decide) (fun v37 _ hv37 => ?_)
        replace E := zLet_s (zcst hv37 (by decide)) E
        refine as_149 X hI hv36 (by omega) (by omega) dX11_begins_14 (fun s38 es38 hI => ?_)
        replace E := zLet_s es38 E
        have g39 := (zSame.rf (o := a0) (Wf := []) (Wa := [149]) (L := L) (kd := kd) (σ := τ3)).a ha0 hv36 es38 rfl (by decide)
        have rs38 := zp_st (σ := τ3) (σ2 := s38) (i := x2) (x := v37) ev36 es38 (by omega)
        have ws38 := rs38
        have fs38_18 : (s38.1 a0 18).toInt = (τ3.1 a0 18).toInt := by rw [g39.2.1 18 (by decide)]
        have hS := hS.tr g39 (by decide) (by decide)
        have Ms38 := (zM_same hI ha0 g39 (by decide)).trans M_Lp3
        have as38_22 := (zp_same hI ha0 g39 22 rfl (by decide) (by decide)).trans A22_Lp3
        have gTs38 := gT.same hI ha0 g39 (by decide) gT_Lp3
        refine zg_iinc X 1 (fun v40 => [(1, .int v40), (0, .ref a0)]) 0 dX11_begins_15 rfl (by decide) (by decide) (by omega) (by omega) (fun _ => rfl) (fun v40 ev40 hv40 => ?_)
        replace E := zLet_s (zinc ev40 (by decide)) E
        refine zg_goto X 2 dX11_begins_18 (by decide) ?_
        refine zg_sub [0, 1] rfl ?_
        exact ihLp3 _ v40 hI hS gTs38 Ms38 (by omega) as38_22 E  (by omega) (by omega) (fun j h0 h1 => by rw [ws38 j h0]; split <;> rename_i hj <;> first | omega | exact hz j h0 (by omega))
  refine zg_sub [0, 1] rfl ?_
  exact Lp3 10000 _ v1 hI hS hgT rfl (by omega) rfl E  (by omega) (by omega) (fun j h0 h1 => absurd h1 (by omega))
set_option maxHeartbeats 4000000 in
set_option maxRecDepth 100000 in
theorem t_X11_copiesStill (l : Launch) (d : zD2) (L : List Nat) (kd : Nat → Nat) (κ : Int) (σ : zS) (hI : zJ κ L kd σ) (a0 : Nat) (ha0 : zT L kd a0 11) (hgN : gN a0 σ) (hgL : gL a0 σ) : zMv l yX11_copiesStill (Cond.code yX11_copiesStill cX11_copiesStill 1 none :: zWL) 5 [.ref a0] d L kd σ (fun σ2 => σ2 = F_X11_copiesStill a0 σ ∧ (((gR a0 σ2) ∧ (gB a0 σ2)) ∧ zJ κ L kd σ2 ∧ zSame a0 [47, 50, 51] [145, 146, 149, 152, 153, 154, 155] L kd σ σ2)) := by
  refine zMv.of (own := RX11) (by decide +kernel) rfl rfl (Nat.le_of_ble_eq_true rfl) ?_
  intro p e s m args below meth c A Q X ret
  have hS : zSame a0 [47, 50, 51] [145, 146, 149, 152, 153, 154, 155] L kd σ σ := zSame.rf
  refine zg_lv (lv2 := [(0, .ref a0)]) rfl ?_
  obtain ⟨R, hR⟩ : ∃ R, R = F_X11_copiesStill a0 σ := ⟨_, rfl⟩
  have E := hR
  unfold F_X11_copiesStill at E
  refine zg_aload_n X 0 rfl dX11_copiesStill_0 ?_
  refine zg_cVv (As := []) (st := []) X ha0 rfl (by decide) rfl (t_X11_copies l d L kd κ _ hI a0 ha0    hgN hgL) mk_X11_332 mc_X11_copies mz_X11 mi_X11_copies ml_X11_copies (na := 0) ⟨md_X11.1, md_X11.2, by decide +kernel⟩ rfl ⟨by decide, by decide⟩ (Nat.le_of_ble_eq_true rfl) dX11_copiesStill_1 (fun t1 hq => ?_)
  obtain ⟨hF, ⟨ht1_fact0, gRt1, gBt1⟩, hI, g2⟩ := hq
  replace E := zLet_s hF E
  have hS := hS.tr g2 (by decide) (by decide)
  refine zg_aload_n X 0 rfl dX11_copiesStill_4 ?_
  refine zg_iconst X 1 dX11_copiesStill_5 (by decide) (fun v3 _ hv3 => ?_)
  replace E := zLet_s (zcst hv3 (by decide)) E
  refine fp_X11_323 X hI ha0 ⟨by omega, by omega⟩ dX11_copiesStill_6 (fun s4 es4 hI => ?_)
  replace E := zLet_s es4 E
  have g5 := (zSame.rf (o := a0) (Wf := [51]) (Wa := []) (L := L) (kd := kd) (σ := t1)).f ha0 es4 rfl
  have hS := hS.tr g5 (by decide) (by decide)
  have gRs4 := gR.same hI ha0 g5 (by decide) gRt1
  have gBs4 := gB.same hI ha0 g5 (by decide) gBt1
  have fs4_51 : (s4.1 a0 51).toInt = v3.toInt := by rw [es4]; exact congrArg _ (zu_s _ _ _ _)
  have e6 : v3 = s4.1 a0 51 := by rw [es4]; exact zm_s
  exact ret _ _ _ dX11_copiesStill_9 ⟨E.symm.trans hR, ⟨⟨gRs4, gBs4⟩, hI, hS⟩⟩
set_option maxHeartbeats 4000000 in
set_option maxRecDepth 100000 in
theorem t_X11_records (l : Launch) (d : zD2) (L : List Nat) (kd : Nat → Nat) (κ : Int) (σ : zS) (hI : zJ κ L kd σ) (a0 : Nat) (ha0 : zT L kd a0 11) (hgR : gR a0 σ) (hgN : gN a0 σ) (hgH : gH a0 σ) : zMv l yX11_records (Cond.code yX11_records cX11_records 2 none :: zWL) 1 [.ref a0] d L kd σ (fun σ2 => σ2 = F_X11_records a0 σ ∧ (((gR a0 σ2) ∧ (gN a0 σ2) ∧ (gH a0 σ2)) ∧ zJ κ L kd σ2 ∧ zSame a0 [57] [148, 158] L kd σ σ2)) := by
  refine zMv.of (own := RX11) (by decide +kernel) rfl rfl (Nat.le_of_ble_eq_true rfl) ?_
  intro p e s m args below meth c A Q X ret
  have hS : zSame a0 [57] [148, 158] L kd σ σ := zSame.rf
  refine zg_lv (lv2 := [(0, .ref a0)]) rfl ?_
  have zm := zM_in hI ha0
  obtain ⟨R, hR⟩ : ∃ R, R = F_X11_records a0 σ := ⟨_, rfl⟩
  have E := hR
  unfold F_X11_records at E
  refine zg_aload_n X 0 rfl dX11_records_0 ?_
  refine fg_X11_258 X hI ha0 dX11_records_1 (fun v1 ev1 hv1 => ?_)
  replace E := zLet_s ev1 E
  have kv1 : (σ.1 a0 57).toInt = v1.toInt := by rw [ev1]
  refine zg_bipush X 40 dX11_records_4 (by decide) (fun v2 _ hv2 => ?_)
  replace E := zLet_s (zcst hv2 (by decide)) E
  refine zg_icmp_ne X 49 dX11_records_6 (by decide) (fun c3 => ?_) (fun c3 => ?_)
  · skip
    replace E := zIf_f c3 E
    have HH : ∀ i : Int, 0 ≤ i → i < (σ.1 a0 57).toInt → gRow (zM a0 σ) (fun j => zp a0 σ 58 (50 * i + j)) := hgH
    refine zg_iconst X 0 dX11_records_49 (by decide) (fun v4 _ hv4 => ?_)
    replace E := zLet_s (zcst hv4 (by decide)) E
    refine zg_istore_n X [(1, .int v4), (0, .ref a0)] dX11_records_50 (by decide) rfl ?_
    have Lp6 : ∀ (nLp6 : Nat) (τ6 : zS) (x5 : Int32), zJ κ L kd τ6 → zSame a0 [57] [148, 158] L kd σ τ6 → gR a0 τ6 → zM a0 τ6 = zM a0 σ → zp a0 τ6 48 = zp a0 σ 48 → zp a0 τ6 49 = zp a0 σ 49 → R = F_X11_records_51 a0  nLp6 x5 τ6 → 0 ≤ x5.toInt ∧ x5.toInt ≤ 50 ∧ (τ6.1 a0 57).toInt = (σ.1 a0 57).toInt ∧ 0 ≤ (τ6.1 a0 57).toInt ∧ (τ6.1 a0 57).toInt ≤ 39 → (50) - x5.toInt + 1 < (nLp6 : Int) → (∀ i : Int, 0 ≤ i → i < (σ.1 a0 57).toInt → gRow (zM a0 σ) (fun j => zp a0 τ6 58 (50 * i + j))) → (∀ j : Int, 0 ≤ j → j < x5.toInt → zp a0 τ6 58 (50 * (σ.1 a0 57).toInt + j) = zp a0 σ 48 j) → zG d L kd A 2 p l e (k2_rm 1 (100 * 1)) s m args below meth c Q τ6 51 [(1, .int x5), (0, .ref a0)] [] := by
      intro nLp6
      induction nLp6 with
      | zero => intro τ6 x5 hI hS gR_Lp6 M_Lp6 A48_Lp6 A49_Lp6 E  hxLp6 hm _ _ ; exact absurd hm (by omega)
      | succ nLp6 ihLp6 =>
        intro τ6 x5 hI hS gR_Lp6 M_Lp6 A48_Lp6 A49_Lp6 E  hxLp6 hmLp6 hH hn
        rw [F_X11_records_51] at E
        refine zg_iload_n X 0 rfl dX11_records_51 ?_
        refine zg_bipush X 50 dX11_records_52 (by decide) (fun v7 _ hv7 => ?_)
        replace E := zLet_s (zcst hv7 (by decide)) E
        refine zg_icmp_ge X 83 dX11_records_54 (by decide) (fun c8 => ?_) (fun c8 => ?_)
        · skip
          replace E := zIf_f (Int.not_lt.mpr c8) E
          refine zg_aload_n X 1 rfl dX11_records_83 ?_
          refine zg_dup X dX11_records_84 rfl ?_
          refine fg_X11_258 X hI ha0 dX11_records_85 (fun v9 ev9 hv9 => ?_)
          replace E := zLet_s ev9 E
          have kv9 : (τ6.1 a0 57).toInt = v9.toInt := by rw [ev9]
          refine zg_iconst X 1 dX11_records_88 (by decide) (fun v10 _ hv10 => ?_)
          replace E := zLet_s (zcst hv10 (by decide)) E
          refine zg_iadd X dX11_records_89 (by omega) (by omega) (fun v11 ev11 hv11 => ?_)
          replace E := zLet_s ev11 E
          refine fp_X11_258 X hI ha0 ⟨by omega, by omega⟩ dX11_records_90 (fun s12 es12 hI => ?_)
          replace E := zLet_s es12 E
          have g13 := (zSame.rf (o := a0) (Wf := [57]) (Wa := []) (L := L) (kd := kd) (σ := τ6)).f ha0 es12 rfl
          have hS := hS.tr g13 (by decide) (by decide)
          have Ms12 := (zM_same hI ha0 g13 (by decide)).trans M_Lp6
          have as12_58 := zp_same hI ha0 g13 58 rfl (by decide) (by decide)
          have gRs12 := gR.same hI ha0 g13 (by decide) gR_Lp6
          have fs12_57 : (s12.1 a0 57).toInt = v11.toInt := by rw [es12]; exact congrArg _ (zu_s _ _ _ _)
          have e14 : v11 = s12.1 a0 57 := by rw [es12]; exact zm_s
          refine zg_aload_n X 1 rfl dX11_records_93 ?_
          refine zg_cVv (As := []) (st := []) X ha0 rfl (by decide) rfl (t_X11_keepsRow l d L kd κ _ hI a0 ha0   ) mk_X11_166 mc_X11_keepsRow mz_X11 mi_X11_keepsRow ml_X11_keepsRow (na := 0) ⟨md_X11.1, md_X11.2, by decide +kernel⟩ rfl ⟨by decide, by decide⟩ (Nat.le_of_ble_eq_true rfl) dX11_records_94 (fun t15 hq => ?_)
          obtain ⟨hF, ht15_fact0, hI, g16⟩ := hq
          replace E := zLet_s hF E
          have ft15_57 : (t15.1 a0 57).toInt = (s12.1 a0 57).toInt := by rw [g16.2.1 57 (by decide)]
          have hS := hS.tr g16 (by decide) (by decide)
          have Mt15 := (zM_same hI ha0 g16 (by decide)).trans Ms12
          have at15_58 := (zp_same hI ha0 g16 58 rfl (by decide) (by decide)).trans as12_58
          have gRt15 := gR.same hI ha0 g16 (by decide) gRs12
          exact ret _ _ _ dX11_records_97 ⟨E.symm.trans hR, ⟨⟨gRt15, (by unfold gN; rw [Mt15]; have z := gRt15; unfold gR at z; rw [Mt15] at z; exact gRow.congr zm.2 z (fun j h1 h2 => ht15_fact0 j (by omega) (by omega))), (by unfold gH; rw [Mt15]; intro i h0 h1; exact if z : i + 1 < (t15.1 a0 57).toInt then gRow.congr zm.2 (hH i h0 (by omega)) (fun j h2 h3 => by show zp a0 _ 58 (50 * i + j) = zp a0 _ 58 (50 * i + j); rw [at15_58]) else gRow.congr zm.2 (show gRow _ _ from hgN) (fun j h2 h3 => by show zp a0 _ 58 (50 * i + j) = zp a0 _ 48 j; rw [at15_58, ← hn j (by omega) (by omega)]; congr 1; omega))⟩, hI, hS⟩⟩
        · skip
          replace E := zIf_t c8 E
          refine zg_aload_n X 1 rfl dX11_records_57 ?_
          refine fg_X11_125 X hI ha0 dX11_records_58 (fun v18 ev18 hv18 => ?_)
          replace E := zLet_s (zgr ev18) E
          refine zg_bipush X 50 dX11_records_61 (by decide) (fun v19 _ hv19 => ?_)
          replace E := zLet_s (zcst hv19 (by decide)) E
          refine zg_aload_n X 1 rfl dX11_records_63 ?_
          refine fg_X11_258 X hI ha0 dX11_records_64 (fun v20 ev20 hv20 => ?_)
          replace E := zLet_s ev20 E
          have kv20 : (τ6.1 a0 57).toInt = v20.toInt := by rw [ev20]
          refine zg_imulc X 50 dX11_records_67 (by omega) (by omega) (by omega) (fun v21 ev21 hv21 => ?_)
          replace E := zLet_s ev21 E
          refine zg_iload_n X 0 rfl dX11_records_68 ?_
          refine zg_iadd X dX11_records_69 (by omega) (by omega) (fun v22 ev22 hv22 => ?_)
          replace E := zLet_s ev22 E
          refine zg_aload_n X 1 rfl dX11_records_70 ?_
          refine fg_X11_107 X hI ha0 dX11_records_71 (fun v23 ev23 hv23 => ?_)
          replace E := zLet_s (zgr ev23) E
          refine zg_iload_n X 0 rfl dX11_records_74 ?_
          refine ag_148 X hI hv23 (by omega) (by omega) dX11_records_75 (fun v24 ev24 _ => ?_)
          replace E := zLet_s ev24 E
          have qv24 := zp_ld ev23 ev24
          rw [A48_Lp6] at qv24
          refine as_158 X hI hv18 (by omega) (by omega) dX11_records_76 (fun s25 es25 hI => ?_)
          replace E := zLet_s es25 E
          have g26 := (zSame.rf (o := a0) (Wf := []) (Wa := [158]) (L := L) (kd := kd) (σ := τ6)).a ha0 hv18 es25 rfl (by decide)
          have rs25 := zp_st (σ := τ6) (σ2 := s25) (i := v22) (x := v24) ev18 es25 (by omega)
          have ws25 := rs25
          have fs25_57 : (s25.1 a0 57).toInt = (τ6.1 a0 57).toInt := by rw [g26.2.1 57 (by decide)]
          have hS := hS.tr g26 (by decide) (by decide)
          have Ms25 := (zM_same hI ha0 g26 (by decide)).trans M_Lp6
          have as25_48 := (zp_same hI ha0 g26 48 rfl (by decide) (by decide)).trans A48_Lp6
          have as25_49 := (zp_same hI ha0 g26 49 rfl (by decide) (by decide)).trans A49_Lp6
          have gRs25 := gR.same hI ha0 g26 (by decide) gR_Lp6
          refine zg_iinc X 1 (fun v28 => [(1, .int v28), (0, .ref a0)]) 0 dX11_records_77 rfl (by decide) (by decide) (by omega) (by omega) (fun _ => rfl) (fun v28 ev28 hv28 => ?_)
          replace E := zLet_s (zinc ev28 (by decide)) E
          refine zg_goto X 51 dX11_records_80 (by decide) ?_
          refine zg_sub [0, 1] rfl ?_
          exact ihLp6 _ v28 hI hS gRs25 Ms25 as25_48 as25_49 E  (by omega) (by omega) (fun i h0 h1 => gRow.congr zm.2 (hH i h0 h1) (fun j h2 h3 => by show zp a0 _ 58 (50 * i + j) = zp a0 _ 58 (50 * i + j); rw [ws25 _ (by omega), if_neg (by omega)])) (fun j h0 h1 => by rw [ws25 _ (by omega)]; split <;> rename_i hj <;> first | (rw [qv24]; congr 1; omega) | exact hn j h0 (by omega))
    refine zg_sub [0, 1] rfl ?_
    exact Lp6 10000 _ v4 hI hS hgR rfl rfl rfl E  (by omega) (by omega) (HH) (fun j h0 h1 => absurd h1 (by omega))
  · skip
    replace E := zIf_t c3 E
    refine zg_iconst X 0 dX11_records_9 (by decide) (fun v29 _ hv29 => ?_)
    replace E := zLet_s (zcst hv29 (by decide)) E
    refine zg_istore_n X [(1, .int v29), (0, .ref a0)] dX11_records_10 (by decide) rfl ?_
    have Lp31 : ∀ (nLp31 : Nat) (τ31 : zS) (x30 : Int32), zJ κ L kd τ31 → zSame a0 [57] [148, 158] L kd σ τ31 → gR a0 τ31 → zM a0 τ31 = zM a0 σ → zp a0 τ31 48 = zp a0 σ 48 → zp a0 τ31 49 = zp a0 σ 49 → R = F_X11_records_11 a0  nLp31 x30 τ31 → 0 ≤ x30.toInt ∧ x30.toInt ≤ 1950 ∧ (σ.1 a0 57).toInt = 40 ∧ (τ31.1 a0 57).toInt = 40 → (1950) - x30.toInt + 1 < (nLp31 : Int) → (∀ j : Int, 0 ≤ j → j < 2000 → (j < x30.toInt → zp a0 τ31 58 j = zp a0 σ 58 (j + 50)) ∧ (x30.toInt ≤ j → zp a0 τ31 58 j = zp a0 σ 58 j)) → zG d L kd A 2 p l e (k2_rm 1 (100 * 1)) s m args below meth c Q τ31 11 [(1, .int x30), (0, .ref a0)] [] := by
      intro nLp31
      induction nLp31 with
      | zero => intro τ31 x30 hI hS gR_Lp31 M_Lp31 A48_Lp31 A49_Lp31 E  hxLp31 hm _ ; exact absurd hm (by omega)
      | succ nLp31 ihLp31 =>
        intro τ31 x30 hI hS gR_Lp31 M_Lp31 A48_Lp31 A49_Lp31 E  hxLp31 hmLp31 hh
        rw [F_X11_records_11] at E
        refine zg_iload_n X 0 rfl dX11_records_11 ?_
        refine zg_sipush X 1950 dX11_records_12 (by decide) (fun v32 _ hv32 => ?_)
        replace E := zLet_s (zcst hv32 (by decide)) E
        refine zg_icmp_ge X 39 dX11_records_15 (by decide) (fun c33 => ?_) (fun c33 => ?_)
        · skip
          replace E := zIf_f (Int.not_lt.mpr c33) E
          refine zg_aload_n X 1 rfl dX11_records_39 ?_
          refine zg_dup X dX11_records_40 rfl ?_
          refine fg_X11_258 X hI ha0 dX11_records_41 (fun v34 ev34 hv34 => ?_)
          replace E := zLet_s ev34 E
          have kv34 : (τ31.1 a0 57).toInt = v34.toInt := by rw [ev34]
          refine zg_iconst X 1 dX11_records_44 (by decide) (fun v35 _ hv35 => ?_)
          replace E := zLet_s (zcst hv35 (by decide)) E
          refine zg_isub X dX11_records_45 (by omega) (by omega) (fun v36 ev36 hv36 => ?_)
          replace E := zLet_s ev36 E
          refine fp_X11_258 X hI ha0 ⟨by omega, by omega⟩ dX11_records_46 (fun s37 es37 hI => ?_)
          replace E := zLet_s es37 E
          have g38 := (zSame.rf (o := a0) (Wf := [57]) (Wa := []) (L := L) (kd := kd) (σ := τ31)).f ha0 es37 rfl
          have hS := hS.tr g38 (by decide) (by decide)
          have Ms37 := (zM_same hI ha0 g38 (by decide)).trans M_Lp31
          have as37_48 := (zp_same hI ha0 g38 48 rfl (by decide) (by decide)).trans A48_Lp31
          have as37_49 := (zp_same hI ha0 g38 49 rfl (by decide) (by decide)).trans A49_Lp31
          have as37_58 := zp_same hI ha0 g38 58 rfl (by decide) (by decide)
          have gRs37 := gR.same hI ha0 g38 (by decide) gR_Lp31
          have fs37_57 : (s37.1 a0 57).toInt = v36.toInt := by rw [es37]; exact congrArg _ (zu_s _ _ _ _)
          have e39 : v36 = s37.1 a0 57 := by rw [es37]; exact zm_s
          have HH : ∀ i : Int, 0 ≤ i → i < (s37.1 a0 57).toInt → gRow (zM a0 σ) (fun j => zp a0 s37 58 (50 * i + j)) := fun i h0 h1 => gRow.congr zm.2 (hgH (i + 1) (by omega) (by omega)) (fun j h2 h3 => by show zp a0 _ 58 (50 * i + j) = zp a0 _ 58 (50 * (i + 1) + j); rw [as37_58, (hh _ (by omega) (by omega)).1 (by omega)]; congr 1; omega)
          refine zg_iconst X 0 dX11_records_49 (by decide) (fun v40 _ hv40 => ?_)
          replace E := zLet_s (zcst hv40 (by decide)) E
          refine zg_istore_n X [(1, .int v40), (0, .ref a0)] dX11_records_50 (by decide) rfl ?_
          have Lp42 : ∀ (nLp42 : Nat) (τ42 : zS) (x41 : Int32), zJ κ L kd τ42 → zSame a0 [57] [148, 158] L kd σ τ42 → gR a0 τ42 → zM a0 τ42 = zM a0 σ → zp a0 τ42 48 = zp a0 σ 48 → zp a0 τ42 49 = zp a0 σ 49 → R = F_X11_records_51_1 a0 (F_X11_records_11 a0  nLp31) nLp42 x41 τ42 → 0 ≤ x41.toInt ∧ x41.toInt ≤ 50 ∧ (τ42.1 a0 57).toInt = (s37.1 a0 57).toInt ∧ 0 ≤ (τ42.1 a0 57).toInt ∧ (τ42.1 a0 57).toInt ≤ 39 → (50) - x41.toInt + 1 < (nLp42 : Int) → (∀ i : Int, 0 ≤ i → i < (s37.1 a0 57).toInt → gRow (zM a0 σ) (fun j => zp a0 τ42 58 (50 * i + j))) → (∀ j : Int, 0 ≤ j → j < x41.toInt → zp a0 τ42 58 (50 * (s37.1 a0 57).toInt + j) = zp a0 σ 48 j) → zG d L kd A 2 p l e (k2_rm 1 (100 * 1)) s m args below meth c Q τ42 51 [(1, .int x41), (0, .ref a0)] [] := by
            intro nLp42
            induction nLp42 with
            | zero => intro τ42 x41 hI hS gR_Lp42 M_Lp42 A48_Lp42 A49_Lp42 E  hxLp42 hm _ _ ; exact absurd hm (by omega)
            | succ nLp42 ihLp42 =>
              intro τ42 x41 hI hS gR_Lp42 M_Lp42 A48_Lp42 A49_Lp42 E  hxLp42 hmLp42 hH hn
              rw [F_X11_records_51_1] at E
              refine zg_iload_n X 0 rfl dX11_records_51 ?_
              refine zg_bipush X 50 dX11_records_52 (by decide) (fun v43 _ hv43 => ?_)
              replace E := zLet_s (zcst hv43 (by decide)) E
              refine zg_icmp_ge X 83 dX11_records_54 (by decide) (fun c44 => ?_) (fun c44 => ?_)
              · skip
                replace E := zIf_f (Int.not_lt.mpr c44) E
                refine zg_aload_n X 1 rfl dX11_records_83 ?_
                refine zg_dup X dX11_records_84 rfl ?_
                refine fg_X11_258 X hI ha0 dX11_records_85 (fun v45 ev45 hv45 => ?_)
                replace E := zLet_s ev45 E
                have kv45 : (τ42.1 a0 57).toInt = v45.toInt := by rw [ev45]
                refine zg_iconst X 1 dX11_records_88 (by decide) (fun v46 _ hv46 => ?_)
                replace E := zLet_s (zcst hv46 (by decide)) E
                refine zg_iadd X dX11_records_89 (by omega) (by omega) (fun v47 ev47 hv47 => ?_)
                replace E := zLet_s ev47 E
                refine fp_X11_258 X hI ha0 ⟨by omega, by omega⟩ dX11_records_90 (fun s48 es48 hI => ?_)
                replace E := zLet_s es48 E
                have g49 := (zSame.rf (o := a0) (Wf := [57]) (Wa := []) (L := L) (kd := kd) (σ := τ42)).f ha0 es48 rfl
                have hS := hS.tr g49 (by decide) (by decide)
                have Ms48 := (zM_same hI ha0 g49 (by decide)).trans M_Lp42
                have as48_58 := zp_same hI ha0 g49 58 rfl (by decide) (by decide)
                have gRs48 := gR.same hI ha0 g49 (by decide) gR_Lp42
                have fs48_57 : (s48.1 a0 57).toInt = v47.toInt := by rw [es48]; exact congrArg _ (zu_s _ _ _ _)
                have e50 : v47 = s48.1 a0 57 := by rw [es48]; exact zm_s
                refine zg_aload_n X 1 rfl dX11_records_93 ?_
                refine zg_cVv (As := []) (st := []) X ha0 rfl (by decide) rfl (t_X11_keepsRow l d L kd κ _ hI a0 ha0   ) mk_X11_166 mc_X11_keepsRow mz_X11 mi_X11_keepsRow ml_X11_keepsRow (na := 0) ⟨md_X11.1, md_X11.2, by decide +kernel⟩ rfl ⟨by decide, by decide⟩ (Nat.le_of_ble_eq_true rfl) dX11_records_94 (fun t51 hq => ?_)
                obtain ⟨hF, ht51_fact0, hI, g52⟩ := hq
                replace E := zLet_s hF E
                have ft51_57 : (t51.1 a0 57).toInt = (s48.1 a0 57).toInt := by rw [g52.2.1 57 (by decide)]
                have hS := hS.tr g52 (by decide) (by decide)
                have Mt51 := (zM_same hI ha0 g52 (by decide)).trans Ms48
                have at51_58 := (zp_same hI ha0 g52 58 rfl (by decide) (by decide)).trans as48_58
                have gRt51 := gR.same hI ha0 g52 (by decide) gRs48
                exact ret _ _ _ dX11_records_97 ⟨E.symm.trans hR, ⟨⟨gRt51, (by unfold gN; rw [Mt51]; have z := gRt51; unfold gR at z; rw [Mt51] at z; exact gRow.congr zm.2 z (fun j h1 h2 => ht51_fact0 j (by omega) (by omega))), (by unfold gH; rw [Mt51]; intro i h0 h1; exact if z : i + 1 < (t51.1 a0 57).toInt then gRow.congr zm.2 (hH i h0 (by omega)) (fun j h2 h3 => by show zp a0 _ 58 (50 * i + j) = zp a0 _ 58 (50 * i + j); rw [at51_58]) else gRow.congr zm.2 (show gRow _ _ from hgN) (fun j h2 h3 => by show zp a0 _ 58 (50 * i + j) = zp a0 _ 48 j; rw [at51_58, ← hn j (by omega) (by omega)]; congr 1; omega))⟩, hI, hS⟩⟩
              · skip
                replace E := zIf_t c44 E
                refine zg_aload_n X 1 rfl dX11_records_57 ?_
                refine fg_X11_125 X hI ha0 dX11_records_58 (fun v54 ev54 hv54 => ?_)
                replace E := zLet_s (zgr ev54) E
                refine zg_bipush X 50 dX11_records_61 (by decide) (fun v55 _ hv55 => ?_)
                replace E := zLet_s (zcst hv55 (by decide)) E
                refine zg_aload_n X 1 rfl dX11_records_63 ?_
                refine fg_X11_258 X hI ha0 dX11_records_64 (fun v56 ev56 hv56 => ?_)
                replace E := zLet_s ev56 E
                have kv56 : (τ42.1 a0 57).toInt = v56.toInt := by rw [ev56]
                refine zg_imulc X 50 dX11_records_67 (by omega) (by omega) (by omega) (fun v57 ev57 hv57 => ?_)
                replace E := zLet_s ev57 E
                refine zg_iload_n X 0 rfl dX11_records_68 ?_
                refine zg_iadd X dX11_records_69 (by omega) (by omega) (fun v58 ev58 hv58 => ?_)
                replace E := zLet_s ev58 E
                refine zg_aload_n X 1 rfl dX11_records_70 ?_
                refine fg_X11_107 X hI ha0 dX11_records_71 (fun v59 ev59 hv59 => ?_)
                replace E := zLet_s (zgr ev59) E
                refine zg_iload_n X 0 rfl dX11_records_74 ?_
                refine ag_148 X hI hv59 (by omega) (by omega) dX11_records_75 (fun v60 ev60 _ => ?_)
                replace E := zLet_s ev60 E
                have qv60 := zp_ld ev59 ev60
                rw [A48_Lp42] at qv60
                refine as_158 X hI hv54 (by omega) (by omega) dX11_records_76 (fun s61 es61 hI => ?_)
                replace E := zLet_s es61 E
                have g62 := (zSame.rf (o := a0) (Wf := []) (Wa := [158]) (L := L) (kd := kd) (σ := τ42)).a ha0 hv54 es61 rfl (by decide)
                have rs61 := zp_st (σ := τ42) (σ2 := s61) (i := v58) (x := v60) ev54 es61 (by omega)
                have ws61 := rs61
                have fs61_57 : (s61.1 a0 57).toInt = (τ42.1 a0 57).toInt := by rw [g62.2.1 57 (by decide)]
                have hS := hS.tr g62 (by decide) (by decide)
                have Ms61 := (zM_same hI ha0 g62 (by decide)).trans M_Lp42
                have as61_48 := (zp_same hI ha0 g62 48 rfl (by decide) (by decide)).trans A48_Lp42
                have as61_49 := (zp_same hI ha0 g62 49 rfl (by decide) (by decide)).trans A49_Lp42
                have gRs61 := gR.same hI ha0 g62 (by decide) gR_Lp42
                refine zg_iinc X 1 (fun v64 => [(1, .int v64), (0, .ref a0)]) 0 dX11_records_77 rfl (by decide) (by decide) (by omega) (by omega) (fun _ => rfl) (fun v64 ev64 hv64 => ?_)
                replace E := zLet_s (zinc ev64 (by decide)) E
                refine zg_goto X 51 dX11_records_80 (by decide) ?_
                refine zg_sub [0, 1] rfl ?_
                exact ihLp42 _ v64 hI hS gRs61 Ms61 as61_48 as61_49 E  (by omega) (by omega) (fun i h0 h1 => gRow.congr zm.2 (hH i h0 h1) (fun j h2 h3 => by show zp a0 _ 58 (50 * i + j) = zp a0 _ 58 (50 * i + j); rw [ws61 _ (by omega), if_neg (by omega)])) (fun j h0 h1 => by rw [ws61 _ (by omega)]; split <;> rename_i hj <;> first | (rw [qv60]; congr 1; omega) | exact hn j h0 (by omega))
          refine zg_sub [0, 1] rfl ?_
          exact Lp42 10000 _ v40 hI hS gRs37 Ms37 as37_48 as37_49 E  (by omega) (by omega) (HH) (fun j h0 h1 => absurd h1 (by omega))
        · skip
          replace E := zIf_t c33 E
          refine zg_aload_n X 1 rfl dX11_records_18 ?_
          refine fg_X11_125 X hI ha0 dX11_records_19 (fun v65 ev65 hv65 => ?_)
          replace E := zLet_s (zgr ev65) E
          refine zg_iload_n X 0 rfl dX11_records_22 ?_
          refine zg_aload_n X 1 rfl dX11_records_23 ?_
          refine fg_X11_125 X hI ha0 dX11_records_24 (fun v66 ev66 hv66 => ?_)
          replace E := zLet_s (zgr ev66) E
          refine zg_iload_n X 0 rfl dX11_records_27 ?_
          refine zg_bipush X 50 dX11_records_28 (by decide) (fun v67 _ hv67 => ?_)
          replace E := zLet_s (zcst hv67 (by decide)) E
          refine zg_iadd X dX11_records_30 (by omega) (by omega) (fun v68 ev68 hv68 => ?_)
          replace E := zLet_s ev68 E
          refine ag_158 X hI hv66 (by omega) (by omega) dX11_records_31 (fun v69 ev69 _ => ?_)
          replace E := zLet_s ev69 E
          have qv69 := zp_ld ev66 ev69
          refine as_158 X hI hv65 (by omega) (by omega) dX11_records_32 (fun s70 es70 hI => ?_)
          replace E := zLet_s es70 E
          have g71 := (zSame.rf (o := a0) (Wf := []) (Wa := [158]) (L := L) (kd := kd) (σ := τ31)).a ha0 hv65 es70 rfl (by decide)
          have rs70 := zp_st (σ := τ31) (σ2 := s70) (i := x30) (x := v69) ev65 es70 (by omega)
          have ws70 := rs70
          have fs70_57 : (s70.1 a0 57).toInt = (τ31.1 a0 57).toInt := by rw [g71.2.1 57 (by decide)]
          have hS := hS.tr g71 (by decide) (by decide)
          have Ms70 := (zM_same hI ha0 g71 (by decide)).trans M_Lp31
          have as70_48 := (zp_same hI ha0 g71 48 rfl (by decide) (by decide)).trans A48_Lp31
          have as70_49 := (zp_same hI ha0 g71 49 rfl (by decide) (by decide)).trans A49_Lp31
          have gRs70 := gR.same hI ha0 g71 (by decide) gR_Lp31
          refine zg_iinc X 1 (fun v72 => [(1, .int v72), (0, .ref a0)]) 0 dX11_records_33 rfl (by decide) (by decide) (by omega) (by omega) (fun _ => rfl) (fun v72 ev72 hv72 => ?_)
          replace E := zLet_s (zinc ev72 (by decide)) E
          refine zg_goto X 11 dX11_records_36 (by decide) ?_
          refine zg_sub [0, 1] rfl ?_
          exact ihLp31 _ v72 hI hS gRs70 Ms70 as70_48 as70_49 E  (by omega) (by omega) (fun j h0 h1 => by rw [ws70 j h0]; have zj := hh j h0 h1; split <;> rename_i hj <;> first | (refine ⟨fun h2 => ?_, fun h2 => absurd h2 (by omega)⟩; rw [qv69, (hh _ (by omega) (by omega)).2 (by omega)]; congr 1; omega) | exact ⟨fun h2 => zj.1 (by omega), fun h2 => zj.2 (by omega)⟩)
    refine zg_sub [0, 1] rfl ?_
    exact Lp31 10000 _ v29 hI hS hgR rfl rfl rfl E  (by omega) (by omega) (fun j h0 h1 => ⟨fun h2 => absurd h2 (by omega), fun h2 => rfl⟩)
set_option maxHeartbeats 4000000 in
set_option maxRecDepth 100000 in
theorem t_X11_does (l : Launch) (d : zD2) (L : List Nat) (kd : Nat → Nat) (κ : Int) (σ : zS) (hI : zJ κ L kd σ) (a0 : Nat) (ha0 : zT L kd a0 11) (p1 : Int32) (p2 : Int32) (hq0 : 0 ≤ p1.toInt ∧ p1.toInt ≤ 49) (hq1 : gRow (zM a0 σ) (fun j => if j = p1.toInt then p2.toInt else zp a0 σ 48 j)) (hgN : gN a0 σ) (hgH : gH a0 σ) (hgL : gL a0 σ) : zMv l yX11_does (Cond.code yX11_does cX11_does 3 none :: zWL) 5 [.ref a0, .int p1, .int p2] d L kd σ (fun σ2 => σ2 = F_X11_does a0 p1 p2 σ ∧ (((gN a0 σ2) ∧ (gH a0 σ2)) ∧ zJ κ L kd σ2 ∧ zSame a0 [47, 50, 51, 57] [145, 146, 148, 149, 152, 153, 154, 155, 158] L kd σ σ2)) := by
  refine zMv.of (own := RX11) (by decide +kernel) rfl rfl (Nat.le_of_ble_eq_true rfl) ?_
  intro p e s m args below meth c A Q X ret
  have hS : zSame a0 [47, 50, 51, 57] [145, 146, 148, 149, 152, 153, 154, 155, 158] L kd σ σ := zSame.rf
  refine zg_lv (lv2 := [(0, .ref a0), (1, .int p1), (2, .int p2)]) rfl ?_
  have zm := zM_in hI ha0
  obtain ⟨R, hR⟩ : ∃ R, R = F_X11_does a0 p1 p2 σ := ⟨_, rfl⟩
  have E := hR
  unfold F_X11_does at E
  refine zg_aload_n X 0 rfl dX11_does_0 ?_
  refine zg_cVv (As := []) (st := []) X ha0 rfl (by decide) rfl (t_X11_copies l d L kd κ _ hI a0 ha0    hgN hgL) mk_X11_332 mc_X11_copies mz_X11 mi_X11_copies ml_X11_copies (na := 0) ⟨md_X11.1, md_X11.2, by decide +kernel⟩ rfl ⟨by decide, by decide⟩ (Nat.le_of_ble_eq_true rfl) dX11_does_1 (fun t1 hq => ?_)
  obtain ⟨hF, ⟨ht1_fact0, gRt1, gBt1⟩, hI, g2⟩ := hq
  replace E := zLet_s hF E
  have hS := hS.tr g2 (by decide) (by decide)
  have Mt1 := zM_same hI ha0 g2 (by decide)
  have at1_48 := zp_same hI ha0 g2 48 rfl (by decide) (by decide)
  have gNt1 := gN.same hI ha0 g2 (by decide) hgN
  have gHt1 := gH.same hI ha0 g2 (by decide) hgH
  have zaf := at1_48
  refine zg_aload_n X 0 rfl dX11_does_4 ?_
  refine fg_X11_110 X hI ha0 dX11_does_5 (fun v3 ev3 hv3 => ?_)
  replace E := zLet_s (zgr ev3) E
  refine zg_iload_n X 1 rfl dX11_does_8 ?_
  refine zg_iload_n X 2 rfl dX11_does_9 ?_
  refine as_149 X hI hv3 (by omega) (by omega) dX11_does_10 (fun s4 es4 hI => ?_)
  replace E := zLet_s es4 E
  have g5 := (zSame.rf (o := a0) (Wf := []) (Wa := [149]) (L := L) (kd := kd) (σ := t1)).a ha0 hv3 es4 rfl (by decide)
  have rs4 := zp_st (σ := t1) (σ2 := s4) (i := p1) (x := p2) ev3 es4 (by omega)
  have ws4 := rs4
  have hS := hS.tr g5 (by decide) (by decide)
  have Ms4 := (zM_same hI ha0 g5 (by decide)).trans Mt1
  have gNs4 := gN.same hI ha0 g5 (by decide) gNt1
  have gHs4 := gH.same hI ha0 g5 (by decide) gHt1
  have gR_1 : gR a0 s4 := by
    unfold gR
    rw [Ms4]
    refine gRow.congr zm.2 hq1 (fun j h1 h2 => ?_)
    show _ = if j = p1.toInt then p2.toInt else zp a0 σ 48 j
    rw [ws4 j (by omega)]
    split
    · rfl
    · rw [ht1_fact0 j (by omega) (by omega), zaf]
  refine zg_aload_n X 0 rfl dX11_does_11 ?_
  refine zg_cVv (As := []) (st := []) X ha0 rfl (by decide) rfl (t_X11_records l d L kd κ _ hI a0 ha0    gR_1 gNs4 gHs4) mk_X11_393 mc_X11_records mz_X11 mi_X11_records ml_X11_records (na := 0) ⟨md_X11.1, md_X11.2, by decide +kernel⟩ rfl ⟨by decide, by decide⟩ (Nat.le_of_ble_eq_true rfl) dX11_does_12 (fun t6 hq => ?_)
  obtain ⟨hF, ⟨gRt6, gNt6, gHt6⟩, hI, g7⟩ := hq
  replace E := zLet_s hF E
  have hS := hS.tr g7 (by decide) (by decide)
  have Mt6 := (zM_same hI ha0 g7 (by decide)).trans Ms4
  have gRt6 := gR.same hI ha0 g7 (by decide) gR_1
  exact ret _ _ _ dX11_does_15 ⟨E.symm.trans hR, ⟨⟨gNt6, gHt6⟩, hI, hS⟩⟩
end
-- 25.model4
section
set_option maxHeartbeats 4000000 in
set_option maxRecDepth 100000 in
theorem t_X11_spot (l : Launch) (d : zD2) (L : List Nat) (kd : Nat → Nat) (κ : Int) (σ : zS) (hI : zJ κ L kd σ) (a0 : Nat) (ha0 : zT L kd a0 11) (p1 : Int32) (p2 : Int32) (hgN : gN a0 σ) (hgH : gH a0 σ) (hgE : gE a0 σ) (hgL : gL a0 σ) : zMi l yX11_spot (Cond.code yX11_spot cX11_spot 3 (some .int) :: zWL) 5 [.ref a0, .int p1, .int p2] d L kd σ (fun v σ2 => (v, σ2) = F_X11_spot a0 p1 p2 σ ∧ (((gN a0 σ2) ∧ (gH a0 σ2) ∧ (gE a0 σ2) ∧ (gL a0 σ2)) ∧ zJ κ L kd σ2 ∧ zSame a0 [47, 50, 51] [145, 146, 149, 152, 153, 154, 155] L kd σ σ2)) := by
  refine zMi.of (own := RX11) (by decide +kernel) rfl rfl (Nat.le_of_ble_eq_true rfl) ?_
  intro p e s m args below meth c A Q X ret
  have hS : zSame a0 [47, 50, 51] [145, 146, 149, 152, 153, 154, 155] L kd σ σ := zSame.rf
  refine zg_lv (lv2 := [(0, .ref a0), (1, .int p1), (2, .int p2)]) rfl ?_
  have zm := zM_in hI ha0
  obtain ⟨R, hR⟩ : ∃ R, R = F_X11_spot a0 p1 p2 σ := ⟨_, rfl⟩
  have E := hR
  unfold F_X11_spot at E
  refine zg_aload_n X 0 rfl dX11_spot_0 ?_
  refine zg_iload_n X 1 rfl dX11_spot_1 ?_
  refine zg_cVi (As := [.int p1]) (st := []) X ha0 rfl (by decide) rfl (t_X11_isPlace l d L kd κ _ hI a0 ha0 p1  ) mk_X11_383 mc_X11_isPlace mz_X11 mi_X11_isPlace ml_X11_isPlace (na := 1) ⟨md_X11.1, md_X11.2, by decide +kernel⟩ rfl ⟨by decide, by decide⟩ (Nat.le_of_ble_eq_true rfl) dX11_spot_2 (fun v2 t1 hq => ?_)
  obtain ⟨⟨hF, ⟨ht1_res, ht1_fact0⟩⟩, rfl⟩ := hq
  replace E := zLet_s hF E
  refine zg_if_ne X 10 dX11_spot_5 (by decide) (fun c3 => ?_) (fun c3 => ?_)
  · skip
    replace E := zIf_f c3 E
    refine zg_aload_n X 0 rfl dX11_spot_10 ?_
    refine zg_cVv (As := []) (st := []) X ha0 rfl (by decide) rfl (t_X11_copies l d L kd κ _ hI a0 ha0    hgN hgL) mk_X11_332 mc_X11_copies mz_X11 mi_X11_copies ml_X11_copies (na := 0) ⟨md_X11.1, md_X11.2, by decide +kernel⟩ rfl ⟨by decide, by decide⟩ (Nat.le_of_ble_eq_true rfl) dX11_spot_11 (fun t4 hq => ?_)
    obtain ⟨hF, ⟨ht4_fact0, gRt4, gBt4⟩, hI, g5⟩ := hq
    replace E := zLet_s hF E
    have hS := hS.tr g5 (by decide) (by decide)
    have Mt4 := zM_same hI ha0 g5 (by decide)
    have gNt4 := gN.same hI ha0 g5 (by decide) hgN
    have gHt4 := gH.same hI ha0 g5 (by decide) hgH
    have gEt4 := gE.same hI ha0 g5 (by decide) hgE
    have gLt4 := gL.same hI ha0 g5 (by decide) hgL
    refine zg_iload_n X 2 rfl dX11_spot_14 ?_
    by_cases q6 : p2.toInt = 0
    · refine zg_tabIn X 80 0 dX11_spot_15 q6 (by decide) (by decide) rfl (by decide) ?_
      replace E := zIf_t q6 E
      refine zg_aload_n X 0 rfl dX11_spot_80 ?_
      refine fg_X11_110 X hI ha0 dX11_spot_81 (fun v7 ev7 hv7 => ?_)
      replace E := zLet_s (zgr ev7) E
      refine zg_iload_n X 1 rfl dX11_spot_84 ?_
      refine ag_149 X hI hv7 (by omega) (by omega) dX11_spot_85 (fun v8 ev8 _ => ?_)
      replace E := zLet_s ev8 E
      exact ret _ _ _ _ dX11_spot_86 rfl ⟨E.symm.trans hR, ⟨⟨gNt4, gHt4, gEt4, gLt4⟩, hI, hS⟩⟩
    · skip
      replace E := zIf_f q6 E
      by_cases q9 : p2.toInt = 1
      · refine zg_tabIn X 87 1 dX11_spot_15 q9 (by decide) (by decide) rfl (by decide) ?_
        replace E := zIf_t q9 E
        refine zg_aload_n X 0 rfl dX11_spot_87 ?_
        refine fg_X11_49 X hI ha0 dX11_spot_88 (fun v10 ev10 hv10 => ?_)
        replace E := zLet_s (zgr ev10) E
        refine zg_bipush X 12 dX11_spot_91 (by decide) (fun v11 _ hv11 => ?_)
        replace E := zLet_s (zcst hv11 (by decide)) E
        refine zg_aload_n X 0 rfl dX11_spot_93 ?_
        refine fg_X11_236 X hI ha0 dX11_spot_94 (fun v12 ev12 hv12 => ?_)
        replace E := zLet_s ev12 E
        refine zg_imulc X 12 dX11_spot_97 (by omega) (by omega) (by omega) (fun v13 ev13 hv13 => ?_)
        replace E := zLet_s ev13 E
        refine zg_iload_n X 1 rfl dX11_spot_98 ?_
        refine zg_iadd X dX11_spot_99 (by omega) (by omega) (fun v14 ev14 hv14 => ?_)
        replace E := zLet_s ev14 E
        refine ag_123 X hI hv10 (by omega) (by omega) dX11_spot_100 (fun v15 ev15 _ => ?_)
        replace E := zLet_s ev15 E
        exact ret _ _ _ _ dX11_spot_101 rfl ⟨E.symm.trans hR, ⟨⟨gNt4, gHt4, gEt4, gLt4⟩, hI, hS⟩⟩
      · skip
        replace E := zIf_f q9 E
        by_cases q16 : p2.toInt = 2
        · refine zg_tabIn X 102 2 dX11_spot_15 q16 (by decide) (by decide) rfl (by decide) ?_
          replace E := zIf_t q16 E
          refine zg_aload_n X 0 rfl dX11_spot_102 ?_
          refine fg_X11_52 X hI ha0 dX11_spot_103 (fun v17 ev17 hv17 => ?_)
          replace E := zLet_s (zgr ev17) E
          refine zg_bipush X 12 dX11_spot_106 (by decide) (fun v18 _ hv18 => ?_)
          replace E := zLet_s (zcst hv18 (by decide)) E
          refine zg_aload_n X 0 rfl dX11_spot_108 ?_
          refine fg_X11_236 X hI ha0 dX11_spot_109 (fun v19 ev19 hv19 => ?_)
          replace E := zLet_s ev19 E
          refine zg_imulc X 12 dX11_spot_112 (by omega) (by omega) (by omega) (fun v20 ev20 hv20 => ?_)
          replace E := zLet_s ev20 E
          refine zg_iload_n X 1 rfl dX11_spot_113 ?_
          refine zg_iadd X dX11_spot_114 (by omega) (by omega) (fun v21 ev21 hv21 => ?_)
          replace E := zLet_s ev21 E
          refine ag_124 X hI hv17 (by omega) (by omega) dX11_spot_115 (fun v22 ev22 _ => ?_)
          replace E := zLet_s ev22 E
          exact ret _ _ _ _ dX11_spot_116 rfl ⟨E.symm.trans hR, ⟨⟨gNt4, gHt4, gEt4, gLt4⟩, hI, hS⟩⟩
        · skip
          replace E := zIf_f q16 E
          by_cases q23 : p2.toInt = 3
          · refine zg_tabIn X 117 3 dX11_spot_15 q23 (by decide) (by decide) rfl (by decide) ?_
            replace E := zIf_t q23 E
            refine zg_aload_n X 0 rfl dX11_spot_117 ?_
            refine fg_X11_55 X hI ha0 dX11_spot_118 (fun v24 ev24 hv24 => ?_)
            replace E := zLet_s (zgr ev24) E
            refine zg_bipush X 12 dX11_spot_121 (by decide) (fun v25 _ hv25 => ?_)
            replace E := zLet_s (zcst hv25 (by decide)) E
            refine zg_aload_n X 0 rfl dX11_spot_123 ?_
            refine fg_X11_236 X hI ha0 dX11_spot_124 (fun v26 ev26 hv26 => ?_)
            replace E := zLet_s ev26 E
            refine zg_imulc X 12 dX11_spot_127 (by omega) (by omega) (by omega) (fun v27 ev27 hv27 => ?_)
            replace E := zLet_s ev27 E
            refine zg_iload_n X 1 rfl dX11_spot_128 ?_
            refine zg_iadd X dX11_spot_129 (by omega) (by omega) (fun v28 ev28 hv28 => ?_)
            replace E := zLet_s ev28 E
            refine ag_125 X hI hv24 (by omega) (by omega) dX11_spot_130 (fun v29 ev29 _ => ?_)
            replace E := zLet_s ev29 E
            exact ret _ _ _ _ dX11_spot_131 rfl ⟨E.symm.trans hR, ⟨⟨gNt4, gHt4, gEt4, gLt4⟩, hI, hS⟩⟩
          · skip
            replace E := zIf_f q23 E
            by_cases q30 : p2.toInt = 4
            · refine zg_tabIn X 132 4 dX11_spot_15 q30 (by decide) (by decide) rfl (by decide) ?_
              replace E := zIf_t q30 E
              refine zg_aload_n X 0 rfl dX11_spot_132 ?_
              refine fg_X11_110 X hI ha0 dX11_spot_133 (fun v31 ev31 hv31 => ?_)
              replace E := zLet_s (zgr ev31) E
              refine zg_bipush X 12 dX11_spot_136 (by decide) (fun v32 _ hv32 => ?_)
              replace E := zLet_s (zcst hv32 (by decide)) E
              refine zg_iload_n X 1 rfl dX11_spot_138 ?_
              refine zg_iadd X dX11_spot_139 (by omega) (by omega) (fun v33 ev33 hv33 => ?_)
              replace E := zLet_s ev33 E
              refine ag_149 X hI hv31 (by omega) (by omega) dX11_spot_140 (fun v34 ev34 _ => ?_)
              replace E := zLet_s ev34 E
              exact ret _ _ _ _ dX11_spot_141 rfl ⟨E.symm.trans hR, ⟨⟨gNt4, gHt4, gEt4, gLt4⟩, hI, hS⟩⟩
            · skip
              replace E := zIf_f q30 E
              by_cases q35 : p2.toInt = 5
              · refine zg_tabIn X 142 5 dX11_spot_15 q35 (by decide) (by decide) rfl (by decide) ?_
                replace E := zIf_t q35 E
                refine zg_aload_n X 0 rfl dX11_spot_142 ?_
                refine fg_X11_122 X hI ha0 dX11_spot_143 (fun v36 ev36 hv36 => ?_)
                replace E := zLet_s (zgr ev36) E
                refine zg_iload_n X 1 rfl dX11_spot_146 ?_
                refine ag_155 X hI hv36 (by omega) (by omega) dX11_spot_147 (fun v37 ev37 _ => ?_)
                replace E := zLet_s ev37 E
                exact ret _ _ _ _ dX11_spot_148 rfl ⟨E.symm.trans hR, ⟨⟨gNt4, gHt4, gEt4, gLt4⟩, hI, hS⟩⟩
              · skip
                replace E := zIf_f q35 E
                by_cases q38 : p2.toInt = 6
                · refine zg_tabIn X 149 6 dX11_spot_15 q38 (by decide) (by decide) rfl (by decide) ?_
                  replace E := zIf_t q38 E
                  refine zg_aload_n X 0 rfl dX11_spot_149 ?_
                  refine fg_X11_113 X hI ha0 dX11_spot_150 (fun v39 ev39 hv39 => ?_)
                  replace E := zLet_s (zgr ev39) E
                  refine zg_iload_n X 1 rfl dX11_spot_153 ?_
                  refine ag_152 X hI hv39 (by omega) (by omega) dX11_spot_154 (fun v40 ev40 _ => ?_)
                  replace E := zLet_s ev40 E
                  exact ret _ _ _ _ dX11_spot_155 rfl ⟨E.symm.trans hR, ⟨⟨gNt4, gHt4, gEt4, gLt4⟩, hI, hS⟩⟩
                · skip
                  replace E := zIf_f q38 E
                  by_cases q41 : p2.toInt = 7
                  · refine zg_tabIn X 156 7 dX11_spot_15 q41 (by decide) (by decide) rfl (by decide) ?_
                    replace E := zIf_t q41 E
                    refine zg_aload_n X 0 rfl dX11_spot_156 ?_
                    refine fg_X11_119 X hI ha0 dX11_spot_157 (fun v42 ev42 hv42 => ?_)
                    replace E := zLet_s (zgr ev42) E
                    refine zg_iload_n X 1 rfl dX11_spot_160 ?_
                    refine ag_154 X hI hv42 (by omega) (by omega) dX11_spot_161 (fun v43 ev43 _ => ?_)
                    replace E := zLet_s ev43 E
                    refine zg_cSi (As := [.int v43]) (st := []) X (t_X11_bits l d L kd _ v43 ) mk_X11_345 mc_X11_bits mz_X11 ms_X11_bits (na := 1) ⟨md_X11.1, md_X11.2, by decide +kernel⟩ rfl ⟨by decide, by decide⟩ (Nat.le_of_ble_eq_true rfl) dX11_spot_162 (fun v44 σ2 hq => ?_)
                    obtain ⟨⟨hF, hv44⟩, rfl⟩ := hq
                    replace E := zLet_s hF E
                    refine zg_iconst X 1 dX11_spot_165 (by decide) (fun v45 _ hv45 => ?_)
                    replace E := zLet_s (zcst hv45 (by decide)) E
                    refine zg_isubW X dX11_spot_166 (fun v46 ev46 => ?_)
                    replace E := zLet_s ev46 E
                    exact ret _ _ _ _ dX11_spot_167 rfl ⟨E.symm.trans hR, ⟨⟨gNt4, gHt4, gEt4, gLt4⟩, hI, hS⟩⟩
                  · skip
                    replace E := zIf_f q41 E
                    by_cases q47 : p2.toInt = 8
                    · refine zg_tabIn X 168 8 dX11_spot_15 q47 (by decide) (by decide) rfl (by decide) ?_
                      replace E := zIf_t q47 E
                      refine zg_aload_n X 0 rfl dX11_spot_168 ?_
                      refine zg_iload_n X 1 rfl dX11_spot_169 ?_
                      refine zg_cVi (As := [.int p1]) (st := []) X ha0 rfl (by decide) rfl (t_X11_isSource l d L kd κ _ hI a0 ha0 p1  ) mk_X11_342 mc_X11_isSource mz_X11 mi_X11_isSource ml_X11_isSource (na := 1) ⟨md_X11.1, md_X11.2, by decide +kernel⟩ rfl ⟨by decide, by decide⟩ (Nat.le_of_ble_eq_true rfl) dX11_spot_170 (fun v49 t48 hq => ?_)
                      obtain ⟨⟨hF, ⟨ht48_res, ht48_fact0, ht48_fact1, ht48_fact2⟩⟩, rfl⟩ := hq
                      replace E := zLet_s hF E
                      refine zg_if_eq X 180 dX11_spot_173 (by decide) (fun c50 => ?_) (fun c50 => ?_)
                      · skip
                        replace E := zIf_t c50 E
                        refine zg_iconst X 0 dX11_spot_180 (by decide) (fun v51 _ hv51 => ?_)
                        replace E := zLet_s (zcst hv51 (by decide)) E
                        exact ret _ _ _ _ dX11_spot_181 rfl ⟨E.symm.trans hR, ⟨⟨gNt4, gHt4, gEt4, gLt4⟩, hI, hS⟩⟩
                      · skip
                        replace E := zIf_f c50 E
                        refine zg_iconst X 1 dX11_spot_176 (by decide) (fun v52 _ hv52 => ?_)
                        replace E := zLet_s (zcst hv52 (by decide)) E
                        refine zg_goto X 181 dX11_spot_177 (by decide) ?_
                        exact ret _ _ _ _ dX11_spot_181 rfl ⟨E.symm.trans hR, ⟨⟨gNt4, gHt4, gEt4, gLt4⟩, hI, hS⟩⟩
                    · skip
                      replace E := zIf_f q47 E
                      by_cases q53 : p2.toInt = 9
                      · refine zg_tabIn X 182 9 dX11_spot_15 q53 (by decide) (by decide) rfl (by decide) ?_
                        replace E := zIf_t q53 E
                        refine zg_aload_n X 0 rfl dX11_spot_182 ?_
                        refine fg_X11_110 X hI ha0 dX11_spot_183 (fun v54 ev54 hv54 => ?_)
                        replace E := zLet_s (zgr ev54) E
                        refine zg_bipush X 24 dX11_spot_186 (by decide) (fun v55 _ hv55 => ?_)
                        replace E := zLet_s (zcst hv55 (by decide)) E
                        refine zg_iload_n X 1 rfl dX11_spot_188 ?_
                        refine zg_iadd X dX11_spot_189 (by omega) (by omega) (fun v56 ev56 hv56 => ?_)
                        replace E := zLet_s ev56 E
                        refine ag_149 X hI hv54 (by omega) (by omega) dX11_spot_190 (fun v57 ev57 _ => ?_)
                        replace E := zLet_s ev57 E
                        exact ret _ _ _ _ dX11_spot_191 rfl ⟨E.symm.trans hR, ⟨⟨gNt4, gHt4, gEt4, gLt4⟩, hI, hS⟩⟩
                      · skip
                        replace E := zIf_f q53 E
                        by_cases q58 : p2.toInt = 10
                        · refine zg_tabIn X 192 10 dX11_spot_15 q58 (by decide) (by decide) rfl (by decide) ?_
                          replace E := zIf_t q58 E
                          refine zg_aload_n X 0 rfl dX11_spot_192 ?_
                          refine fg_X11_110 X hI ha0 dX11_spot_193 (fun v59 ev59 hv59 => ?_)
                          replace E := zLet_s (zgr ev59) E
                          refine zg_bipush X 36 dX11_spot_196 (by decide) (fun v60 _ hv60 => ?_)
                          replace E := zLet_s (zcst hv60 (by decide)) E
                          refine zg_iload_n X 1 rfl dX11_spot_198 ?_
                          refine zg_iadd X dX11_spot_199 (by omega) (by omega) (fun v61 ev61 hv61 => ?_)
                          replace E := zLet_s ev61 E
                          refine ag_149 X hI hv59 (by omega) (by omega) dX11_spot_200 (fun v62 ev62 _ => ?_)
                          replace E := zLet_s ev62 E
                          exact ret _ _ _ _ dX11_spot_201 rfl ⟨E.symm.trans hR, ⟨⟨gNt4, gHt4, gEt4, gLt4⟩, hI, hS⟩⟩
                        · skip
                          replace E := zIf_f q58 E
                          by_cases q63 : p2.toInt = 11
                          · refine zg_tabIn X 202 11 dX11_spot_15 q63 (by decide) (by decide) rfl (by decide) ?_
                            replace E := zIf_t q63 E
                            refine zg_aload_n X 0 rfl dX11_spot_202 ?_
                            refine zg_iload_n X 1 rfl dX11_spot_203 ?_
                            refine zg_cVi (As := [.int p1]) (st := []) X ha0 rfl (by decide) rfl (t_X11_rainsAt l d L kd κ _ hI a0 ha0 p1  (by omega) gLt4) mk_X11_360 mc_X11_rainsAt mz_X11 mi_X11_rainsAt ml_X11_rainsAt (na := 1) ⟨md_X11.1, md_X11.2, by decide +kernel⟩ rfl ⟨by decide, by decide⟩ (Nat.le_of_ble_eq_true rfl) dX11_spot_204 (fun v65 t64 hq => ?_)
                            obtain ⟨hF, hI, g66⟩ := hq
                            replace E := zLet2_s hF E
                            have hS := hS.tr g66 (by decide) (by decide)
                            have Mt64 := (zM_same hI ha0 g66 (by decide)).trans Mt4
                            have gNt64 := gN.same hI ha0 g66 (by decide) gNt4
                            have gHt64 := gH.same hI ha0 g66 (by decide) gHt4
                            have gEt64 := gE.same hI ha0 g66 (by decide) gEt4
                            have gLt64 := gL.same hI ha0 g66 (by decide) gLt4
                            have gRt64 := gR.same hI ha0 g66 (by decide) gRt4
                            have gBt64 := gB.same hI ha0 g66 (by decide) gBt4
                            exact ret _ _ _ _ dX11_spot_207 rfl ⟨E.symm.trans hR, ⟨⟨gNt64, gHt64, gEt64, gLt64⟩, hI, hS⟩⟩
                          · skip
                            replace E := zIf_f q63 E
                            by_cases q67 : p2.toInt = 12
                            · refine zg_tabIn X 208 12 dX11_spot_15 q67 (by decide) (by decide) rfl (by decide) ?_
                              replace E := zIf_t q67 E
                              refine zg_aload_n X 0 rfl dX11_spot_208 ?_
                              refine zg_iload_n X 1 rfl dX11_spot_209 ?_
                              refine zg_cVi (As := [.int p1]) (st := []) X ha0 rfl (by decide) rfl (t_X11_driesAt l d L kd κ _ hI a0 ha0 p1  (by omega) gLt4) mk_X11_363 mc_X11_driesAt mz_X11 mi_X11_driesAt ml_X11_driesAt (na := 1) ⟨md_X11.1, md_X11.2, by decide +kernel⟩ rfl ⟨by decide, by decide⟩ (Nat.le_of_ble_eq_true rfl) dX11_spot_210 (fun v69 t68 hq => ?_)
                              obtain ⟨hF, hI, g70⟩ := hq
                              replace E := zLet2_s hF E
                              have hS := hS.tr g70 (by decide) (by decide)
                              have Mt68 := (zM_same hI ha0 g70 (by decide)).trans Mt4
                              have gNt68 := gN.same hI ha0 g70 (by decide) gNt4
                              have gHt68 := gH.same hI ha0 g70 (by decide) gHt4
                              have gEt68 := gE.same hI ha0 g70 (by decide) gEt4
                              have gLt68 := gL.same hI ha0 g70 (by decide) gLt4
                              have gRt68 := gR.same hI ha0 g70 (by decide) gRt4
                              have gBt68 := gB.same hI ha0 g70 (by decide) gBt4
                              exact ret _ _ _ _ dX11_spot_213 rfl ⟨E.symm.trans hR, ⟨⟨gNt68, gHt68, gEt68, gLt68⟩, hI, hS⟩⟩
                            · skip
                              replace E := zIf_f q67 E
                              refine zg_tabOut X 214 dX11_spot_15 (by omega) (by decide) ?_
                              refine zg_iconst X (-1) dX11_spot_214 (by decide) (fun v71 _ hv71 => ?_)
                              replace E := zLet_s (zcst hv71 (by decide)) E
                              exact ret _ _ _ _ dX11_spot_215 rfl ⟨E.symm.trans hR, ⟨⟨gNt4, gHt4, gEt4, gLt4⟩, hI, hS⟩⟩
  · skip
    replace E := zIf_t c3 E
    refine zg_iconst X (-1) dX11_spot_8 (by decide) (fun v72 _ hv72 => ?_)
    replace E := zLet_s (zcst hv72 (by decide)) E
    exact ret _ _ _ _ dX11_spot_9 rfl ⟨E.symm.trans hR, ⟨⟨hgN, hgH, hgE, hgL⟩, hI, hS⟩⟩
set_option maxHeartbeats 4000000 in
set_option maxRecDepth 100000 in
theorem t_X11_isClaim (l : Launch) (d : zD2) (L : List Nat) (kd : Nat → Nat) (κ : Int) (σ : zS) (hI : zJ κ L kd σ) (a0 : Nat) (ha0 : zT L kd a0 11) (p1 : Int32) (p2 : Int32) (hgN : gN a0 σ) (hgL : gL a0 σ) : zMi l yX11_isClaim (Cond.code yX11_isClaim cX11_isClaim 3 (some .boolean) :: zWL) 5 [.ref a0, .int p1, .int p2] d L kd σ (fun v σ2 => (v, σ2) = F_X11_isClaim a0 p1 p2 σ ∧ ((((0 ≤ v.toInt ∧ v.toInt ≤ 1)) ∧ (((v.toInt = 1 ∧ 1 ≤ p1.toInt ∧ p1.toInt < zM a0 σ ∧ 0 ≤ p2.toInt ∧ p2.toInt ≤ 2) ∨ v.toInt = 0)) ∧ ((v.toInt = 1 → zSrc a0 σ2 p1.toInt)) ∧ (gR a0 σ2) ∧ (gB a0 σ2)) ∧ zJ κ L kd σ2 ∧ zSame a0 [47, 50, 51] [145, 146, 149, 152, 153, 154, 155] L kd σ σ2)) := by
  refine zMi.of (own := RX11) (by decide +kernel) rfl rfl (Nat.le_of_ble_eq_true rfl) ?_
  intro p e s m args below meth c A Q X ret
  have hS : zSame a0 [47, 50, 51] [145, 146, 149, 152, 153, 154, 155] L kd σ σ := zSame.rf
  refine zg_lv (lv2 := [(0, .ref a0), (1, .int p1), (2, .int p2)]) rfl ?_
  have zm := zM_in hI ha0
  obtain ⟨R, hR⟩ : ∃ R, R = F_X11_isClaim a0 p1 p2 σ := ⟨_, rfl⟩
  have E := hR
  unfold F_X11_isClaim at E
  refine zg_aload_n X 0 rfl dX11_isClaim_0 ?_
  refine zg_cVv (As := []) (st := []) X ha0 rfl (by decide) rfl (t_X11_copies l d L kd κ _ hI a0 ha0    hgN hgL) mk_X11_332 mc_X11_copies mz_X11 mi_X11_copies ml_X11_copies (na := 0) ⟨md_X11.1, md_X11.2, by decide +kernel⟩ rfl ⟨by decide, by decide⟩ (Nat.le_of_ble_eq_true rfl) dX11_isClaim_1 (fun t1 hq => ?_)
  obtain ⟨hF, ⟨ht1_fact0, gRt1, gBt1⟩, hI, g2⟩ := hq
  replace E := zLet_s hF E
  have hS := hS.tr g2 (by decide) (by decide)
  have Mt1 := zM_same hI ha0 g2 (by decide)
  refine zg_aload_n X 0 rfl dX11_isClaim_4 ?_
  refine zg_iload_n X 1 rfl dX11_isClaim_5 ?_
  refine zg_cVi (As := [.int p1]) (st := []) X ha0 rfl (by decide) rfl (t_X11_isSource l d L kd κ _ hI a0 ha0 p1  ) mk_X11_342 mc_X11_isSource mz_X11 mi_X11_isSource ml_X11_isSource (na := 1) ⟨md_X11.1, md_X11.2, by decide +kernel⟩ rfl ⟨by decide, by decide⟩ (Nat.le_of_ble_eq_true rfl) dX11_isClaim_6 (fun v4 t3 hq => ?_)
  obtain ⟨⟨hF, ⟨ht3_res, ht3_fact0, ht3_fact1, ht3_fact2⟩⟩, rfl⟩ := hq
  replace E := zLet_s hF E
  have zs := ht3_fact1
  refine zg_if_eq X 23 dX11_isClaim_9 (by decide) (fun c5 => ?_) (fun c5 => ?_)
  · skip
    replace E := zIf_t c5 E
    refine zg_iconst X 0 dX11_isClaim_23 (by decide) (fun v6 _ hv6 => ?_)
    replace E := zLet_s (zcst hv6 (by decide)) E
    exact ret _ _ _ _ dX11_isClaim_24 (zb_bool ⟨by omega, by omega⟩) ⟨E.symm.trans hR, ⟨⟨⟨by omega, by omega⟩, (by omega), (fun hv => by first | (exfalso; omega) | exact zs (by omega)), gRt1, gBt1⟩, hI, hS⟩⟩
  · skip
    replace E := zIf_f c5 E
    refine zg_iload_n X 2 rfl dX11_isClaim_12 ?_
    refine zg_cSi (As := [.int p2]) (st := []) X (t_X11_isLaw l d L kd _ p2 ) mk_X11_386 mc_X11_isLaw mz_X11 ms_X11_isLaw (na := 1) ⟨md_X11.1, md_X11.2, by decide +kernel⟩ rfl ⟨by decide, by decide⟩ (Nat.le_of_ble_eq_true rfl) dX11_isClaim_13 (fun v7 σ2 hq => ?_)
    obtain ⟨⟨hF, hv7⟩, rfl⟩ := hq
    replace E := zLet_s hF E
    refine zg_if_eq X 23 dX11_isClaim_16 (by decide) (fun c8 => ?_) (fun c8 => ?_)
    · skip
      replace E := zIf_t c8 E
      refine zg_iconst X 0 dX11_isClaim_23 (by decide) (fun v9 _ hv9 => ?_)
      replace E := zLet_s (zcst hv9 (by decide)) E
      exact ret _ _ _ _ dX11_isClaim_24 (zb_bool ⟨by omega, by omega⟩) ⟨E.symm.trans hR, ⟨⟨⟨by omega, by omega⟩, (by omega), (fun hv => by first | (exfalso; omega) | exact zs (by omega)), gRt1, gBt1⟩, hI, hS⟩⟩
    · skip
      replace E := zIf_f c8 E
      refine zg_iconst X 1 dX11_isClaim_19 (by decide) (fun v10 _ hv10 => ?_)
      replace E := zLet_s (zcst hv10 (by decide)) E
      refine zg_goto X 24 dX11_isClaim_20 (by decide) ?_
      exact ret _ _ _ _ dX11_isClaim_24 (zb_bool ⟨by omega, by omega⟩) ⟨E.symm.trans hR, ⟨⟨⟨by omega, by omega⟩, (by omega), (fun hv => by first | (exfalso; omega) | exact zs (by omega)), gRt1, gBt1⟩, hI, hS⟩⟩
set_option maxHeartbeats 4000000 in
set_option maxRecDepth 100000 in
theorem t_X11_claim (l : Launch) (d : zD2) (L : List Nat) (kd : Nat → Nat) (κ : Int) (σ : zS) (hI : zJ κ L kd σ) (a0 : Nat) (ha0 : zT L kd a0 11) (p1 : Int32) (p2 : Int32) (hgN : gN a0 σ) (hgH : gH a0 σ) (hgE : gE a0 σ) (hgL : gL a0 σ) : zMi l yX11_claim (Cond.code yX11_claim cX11_claim 3 (some .int) :: zWL) 6 [.ref a0, .int p1, .int p2] d L kd σ (fun v σ2 => (v, σ2) = F_X11_claim a0 p1 p2 σ ∧ (((gN a0 σ2) ∧ (gH a0 σ2) ∧ (gE a0 σ2) ∧ (gL a0 σ2)) ∧ zJ κ L kd σ2 ∧ zSame a0 [47, 50, 51] [145, 146, 149, 152, 153, 154, 155] L kd σ σ2)) := by
  refine zMi.of (own := RX11) (by decide +kernel) rfl rfl (Nat.le_of_ble_eq_true rfl) ?_
  intro p e s m args below meth c A Q X ret
  have hS : zSame a0 [47, 50, 51] [145, 146, 149, 152, 153, 154, 155] L kd σ σ := zSame.rf
  refine zg_lv (lv2 := [(0, .ref a0), (1, .int p1), (2, .int p2)]) rfl ?_
  have zm := zM_in hI ha0
  obtain ⟨R, hR⟩ : ∃ R, R = F_X11_claim a0 p1 p2 σ := ⟨_, rfl⟩
  have E := hR
  unfold F_X11_claim at E
  refine zg_aload_n X 0 rfl dX11_claim_0 ?_
  refine zg_iload_n X 1 rfl dX11_claim_1 ?_
  refine zg_iload_n X 2 rfl dX11_claim_2 ?_
  refine zg_cVi (As := [.int p1, .int p2]) (st := []) X ha0 rfl (by decide) rfl (t_X11_isClaim l d L kd κ _ hI a0 ha0 p1 p2   hgN hgL) mk_X11_389 mc_X11_isClaim mz_X11 mi_X11_isClaim ml_X11_isClaim (na := 2) ⟨md_X11.1, md_X11.2, by decide +kernel⟩ rfl ⟨by decide, by decide⟩ (Nat.le_of_ble_eq_true rfl) dX11_claim_3 (fun v2 t1 hq => ?_)
  obtain ⟨hF, ⟨ht1_res, ht1_fact0, ht1_fact1, gRt1, gBt1⟩, hI, g3⟩ := hq
  replace E := zLet2_s hF E
  have hS := hS.tr g3 (by decide) (by decide)
  have gNt1 := gN.same hI ha0 g3 (by decide) hgN
  have gHt1 := gH.same hI ha0 g3 (by decide) hgH
  have gEt1 := gE.same hI ha0 g3 (by decide) hgE
  have gLt1 := gL.same hI ha0 g3 (by decide) hgL
  refine zg_if_eq X 18 dX11_claim_6 (by decide) (fun c4 => ?_) (fun c4 => ?_)
  · skip
    replace E := zIf_t c4 E
    refine zg_iconst X (-1) dX11_claim_18 (by decide) (fun v5 _ hv5 => ?_)
    replace E := zLet_s (zcst hv5 (by decide)) E
    exact ret _ _ _ _ dX11_claim_19 rfl ⟨E.symm.trans hR, ⟨⟨gNt1, gHt1, gEt1, gLt1⟩, hI, hS⟩⟩
  · skip
    replace E := zIf_f c4 E
    refine zg_aload_n X 0 rfl dX11_claim_9 ?_
    refine zg_iload_n X 1 rfl dX11_claim_10 ?_
    refine zg_iload_n X 2 rfl dX11_claim_11 ?_
    refine zg_cVi (As := [.int p1, .int p2]) (st := []) X ha0 rfl (by decide) rfl (t_X11_claimOf l d L kd κ _ hI a0 ha0 p1 p2  (by omega) (by omega) gLt1) mk_X11_367 mc_X11_claimOf mz_X11 mi_X11_claimOf ml_X11_claimOf (na := 2) ⟨md_X11.1, md_X11.2, by decide +kernel⟩ rfl ⟨by decide, by decide⟩ (Nat.le_of_ble_eq_true rfl) dX11_claim_12 (fun v7 t6 hq => ?_)
    obtain ⟨hF, hI, g8⟩ := hq
    replace E := zLet2_s hF E
    have hS := hS.tr g8 (by decide) (by decide)
    have gNt6 := gN.same hI ha0 g8 (by decide) gNt1
    have gHt6 := gH.same hI ha0 g8 (by decide) gHt1
    have gEt6 := gE.same hI ha0 g8 (by decide) gEt1
    have gLt6 := gL.same hI ha0 g8 (by decide) gLt1
    have gRt6 := gR.same hI ha0 g8 (by decide) gRt1
    have gBt6 := gB.same hI ha0 g8 (by decide) gBt1
    refine zg_goto X 19 dX11_claim_15 (by decide) ?_
    exact ret _ _ _ _ dX11_claim_19 rfl ⟨E.symm.trans hR, ⟨⟨gNt6, gHt6, gEt6, gLt6⟩, hI, hS⟩⟩
set_option maxHeartbeats 4000000 in
set_option maxRecDepth 100000 in
theorem t_X11_winner (l : Launch) (d : zD2) (L : List Nat) (kd : Nat → Nat) (κ : Int) (σ : zS) (hI : zJ κ L kd σ) (a0 : Nat) (ha0 : zT L kd a0 11) (p1 : Int32) (hgN : gN a0 σ) (hgH : gH a0 σ) (hgE : gE a0 σ) (hgL : gL a0 σ) : zMi l yX11_winner (Cond.code yX11_winner cX11_winner 2 (some .int) :: zWL) 5 [.ref a0, .int p1] d L kd σ (fun v σ2 => (v, σ2) = F_X11_winner a0 p1 σ ∧ (((gN a0 σ2) ∧ (gH a0 σ2) ∧ (gE a0 σ2) ∧ (gL a0 σ2)) ∧ zJ κ L kd σ2 ∧ zSame a0 [47, 50, 51] [145, 146, 149, 152, 153, 154, 155] L kd σ σ2)) := by
  refine zMi.of (own := RX11) (by decide +kernel) rfl rfl (Nat.le_of_ble_eq_true rfl) ?_
  intro p e s m args below meth c A Q X ret
  have hS : zSame a0 [47, 50, 51] [145, 146, 149, 152, 153, 154, 155] L kd σ σ := zSame.rf
  refine zg_lv (lv2 := [(0, .ref a0), (1, .int p1)]) rfl ?_
  obtain ⟨R, hR⟩ : ∃ R, R = F_X11_winner a0 p1 σ := ⟨_, rfl⟩
  have E := hR
  unfold F_X11_winner at E
  refine zg_iload_n X 1 rfl dX11_winner_0 ?_
  refine zg_cSi (As := [.int p1]) (st := []) X (t_X11_isLaw l d L kd _ p1 ) mk_X11_386 mc_X11_isLaw mz_X11 ms_X11_isLaw (na := 1) ⟨md_X11.1, md_X11.2, by decide +kernel⟩ rfl ⟨by decide, by decide⟩ (Nat.le_of_ble_eq_true rfl) dX11_winner_1 (fun v1 σ2 hq => ?_)
  obtain ⟨⟨hF, hv1⟩, rfl⟩ := hq
  replace E := zLet_s hF E
  refine zg_if_ne X 9 dX11_winner_4 (by decide) (fun c2 => ?_) (fun c2 => ?_)
  · skip
    replace E := zIf_f c2 E
    refine zg_aload_n X 0 rfl dX11_winner_9 ?_
    refine zg_cVv (As := []) (st := []) X ha0 rfl (by decide) rfl (t_X11_copies l d L kd κ _ hI a0 ha0    hgN hgL) mk_X11_332 mc_X11_copies mz_X11 mi_X11_copies ml_X11_copies (na := 0) ⟨md_X11.1, md_X11.2, by decide +kernel⟩ rfl ⟨by decide, by decide⟩ (Nat.le_of_ble_eq_true rfl) dX11_winner_10 (fun t3 hq => ?_)
    obtain ⟨hF, ⟨ht3_fact0, gRt3, gBt3⟩, hI, g4⟩ := hq
    replace E := zLet_s hF E
    have hS := hS.tr g4 (by decide) (by decide)
    have gNt3 := gN.same hI ha0 g4 (by decide) hgN
    have gHt3 := gH.same hI ha0 g4 (by decide) hgH
    have gEt3 := gE.same hI ha0 g4 (by decide) hgE
    have gLt3 := gL.same hI ha0 g4 (by decide) hgL
    refine zg_aload_n X 0 rfl dX11_winner_13 ?_
    refine zg_iload_n X 1 rfl dX11_winner_14 ?_
    refine zg_cVi (As := [.int p1]) (st := []) X ha0 rfl (by decide) rfl (t_X11_winnerBy l d L kd κ _ hI a0 ha0 p1  (by omega) gLt3) mk_X11_374 mc_X11_winnerBy mz_X11 mi_X11_winnerBy ml_X11_winnerBy (na := 1) ⟨md_X11.1, md_X11.2, by decide +kernel⟩ rfl ⟨by decide, by decide⟩ (Nat.le_of_ble_eq_true rfl) dX11_winner_15 (fun v6 t5 hq => ?_)
    obtain ⟨hF, ⟨ht5_res, ht5_fact0, ht5_fact1⟩, hI, g7⟩ := hq
    replace E := zLet2_s hF E
    have hS := hS.tr g7 (by decide) (by decide)
    have gNt5 := gN.same hI ha0 g7 (by decide) gNt3
    have gHt5 := gH.same hI ha0 g7 (by decide) gHt3
    have gEt5 := gE.same hI ha0 g7 (by decide) gEt3
    have gLt5 := gL.same hI ha0 g7 (by decide) gLt3
    have gRt5 := gR.same hI ha0 g7 (by decide) gRt3
    have gBt5 := gB.same hI ha0 g7 (by decide) gBt3
    exact ret _ _ _ _ dX11_winner_18 rfl ⟨E.symm.trans hR, ⟨⟨gNt5, gHt5, gEt5, gLt5⟩, hI, hS⟩⟩
  · skip
    replace E := zIf_t c2 E
    refine zg_iconst X (-1) dX11_winner_7 (by decide) (fun v8 _ hv8 => ?_)
    replace E := zLet_s (zcst hv8 (by decide)) E
    exact ret _ _ _ _ dX11_winner_8 rfl ⟨E.symm.trans hR, ⟨⟨hgN, hgH, hgE, hgL⟩, hI, hS⟩⟩
set_option maxHeartbeats 4000000 in
set_option maxRecDepth 100000 in
theorem t_X11_canTurn (l : Launch) (d : zD2) (L : List Nat) (kd : Nat → Nat) (κ : Int) (σ : zS) (hI : zJ κ L kd σ) (a0 : Nat) (ha0 : zT L kd a0 11) (p1 : Int32) (p2 : Int32) : zMi l yX11_canTurn (Cond.code yX11_canTurn cX11_canTurn 3 (some .boolean) :: zWL) 2 [.ref a0, .int p1, .int p2] d L kd σ (fun v σ2 => (v = F_X11_canTurn a0 p1 p2 σ ∧ (((0 ≤ v.toInt ∧ v.toInt ≤ 1)) ∧ (((v.toInt = 1 ∧ 1 ≤ p1.toInt ∧ p1.toInt < zM a0 σ ∧ 0 ≤ p2.toInt ∧ p2.toInt < zM a0 σ ∧ ¬ zbt (zp a0 σ 54 p1.toInt) p2.toInt) ∨ v.toInt = 0)))) ∧ σ = σ2) := by
  refine zMi.of (own := RX11) (by decide +kernel) rfl rfl (Nat.le_of_ble_eq_true rfl) ?_
  intro p e s m args below meth c A Q X ret
  refine zg_lv (lv2 := [(0, .ref a0), (1, .int p1), (2, .int p2)]) rfl ?_
  have zm := zM_in hI ha0
  obtain ⟨R, hR⟩ : ∃ R, R = F_X11_canTurn a0 p1 p2 σ := ⟨_, rfl⟩
  have E := hR
  unfold F_X11_canTurn at E
  refine zg_aload_n X 0 rfl dX11_canTurn_0 ?_
  refine zg_iload_n X 1 rfl dX11_canTurn_1 ?_
  refine zg_cVi (As := [.int p1]) (st := []) X ha0 rfl (by decide) rfl (t_X11_isBeside l d L kd κ _ hI a0 ha0 p1  ) mk_X11_339 mc_X11_isBeside mz_X11 mi_X11_isBeside ml_X11_isBeside (na := 1) ⟨md_X11.1, md_X11.2, by decide +kernel⟩ rfl ⟨by decide, by decide⟩ (Nat.le_of_ble_eq_true rfl) dX11_canTurn_2 (fun v2 t1 hq => ?_)
  obtain ⟨⟨hF, ⟨ht1_res, ht1_fact0⟩⟩, rfl⟩ := hq
  replace E := zLet_s hF E
  refine zg_if_eq X 43 dX11_canTurn_5 (by decide) (fun c3 => ?_) (fun c3 => ?_)
  · skip
    replace E := zIf_t c3 E
    refine zg_iconst X 0 dX11_canTurn_43 (by decide) (fun v4 _ hv4 => ?_)
    replace E := zLet_s (zcst hv4 (by decide)) E
    exact ret _ _ _ _ dX11_canTurn_44 (zb_bool ⟨by omega, by omega⟩) ⟨⟨E.symm.trans hR, ⟨⟨by omega, by omega⟩, (by first | exact Or.inr (by omega) | exact Or.inl ⟨by omega, by omega, by omega, by omega, by omega, zx.elim (fun z => z.2) (fun z => absurd z.1 (by omega))⟩)⟩⟩, rfl⟩
  · skip
    replace E := zIf_f c3 E
    refine zg_aload_n X 0 rfl dX11_canTurn_8 ?_
    refine zg_iload_n X 2 rfl dX11_canTurn_9 ?_
    refine zg_cVi (As := [.int p2]) (st := []) X ha0 rfl (by decide) rfl (t_X11_isPlace l d L kd κ _ hI a0 ha0 p2  ) mk_X11_383 mc_X11_isPlace mz_X11 mi_X11_isPlace ml_X11_isPlace (na := 1) ⟨md_X11.1, md_X11.2, by decide +kernel⟩ rfl ⟨by decide, by decide⟩ (Nat.le_of_ble_eq_true rfl) dX11_canTurn_10 (fun v6 t5 hq => ?_)
    obtain ⟨⟨hF, ⟨ht5_res, ht5_fact0⟩⟩, rfl⟩ := hq
    replace E := zLet_s hF E
    refine zg_if_eq X 43 dX11_canTurn_13 (by decide) (fun c7 => ?_) (fun c7 => ?_)
    · skip
      replace E := zIf_t c7 E
      refine zg_iconst X 0 dX11_canTurn_43 (by decide) (fun v8 _ hv8 => ?_)
      replace E := zLet_s (zcst hv8 (by decide)) E
      exact ret _ _ _ _ dX11_canTurn_44 (zb_bool ⟨by omega, by omega⟩) ⟨⟨E.symm.trans hR, ⟨⟨by omega, by omega⟩, (by first | exact Or.inr (by omega) | exact Or.inl ⟨by omega, by omega, by omega, by omega, by omega, zx.elim (fun z => z.2) (fun z => absurd z.1 (by omega))⟩)⟩⟩, rfl⟩
    · skip
      replace E := zIf_f c7 E
      refine zg_aload_n X 0 rfl dX11_canTurn_16 ?_
      refine fg_X11_107 X hI ha0 dX11_canTurn_17 (fun v9 ev9 hv9 => ?_)
      replace E := zLet_s (zgr ev9) E
      refine zg_iload_n X 1 rfl dX11_canTurn_20 ?_
      refine ag_148 X hI hv9 (by omega) (by omega) dX11_canTurn_21 (fun v10 ev10 _ => ?_)
      replace E := zLet_s ev10 E
      refine zg_iload_n X 2 rfl dX11_canTurn_22 ?_
      refine zg_icmp_eq X 43 dX11_canTurn_23 (by decide) (fun c11 => ?_) (fun c11 => ?_)
      · skip
        replace E := zIf_t c11 E
        refine zg_iconst X 0 dX11_canTurn_43 (by decide) (fun v12 _ hv12 => ?_)
        replace E := zLet_s (zcst hv12 (by decide)) E
        exact ret _ _ _ _ dX11_canTurn_44 (zb_bool ⟨by omega, by omega⟩) ⟨⟨E.symm.trans hR, ⟨⟨by omega, by omega⟩, (by first | exact Or.inr (by omega) | exact Or.inl ⟨by omega, by omega, by omega, by omega, by omega, zx.elim (fun z => z.2) (fun z => absurd z.1 (by omega))⟩)⟩⟩, rfl⟩
      · skip
        replace E := zIf_f c11 E
        refine zg_aload_n X 0 rfl dX11_canTurn_26 ?_
        refine fg_X11_119 X hI ha0 dX11_canTurn_27 (fun v13 ev13 hv13 => ?_)
        replace E := zLet_s (zgr ev13) E
        refine zg_iload_n X 1 rfl dX11_canTurn_30 ?_
        refine ag_154 X hI hv13 (by omega) (by omega) dX11_canTurn_31 (fun v14 ev14 _ => ?_)
        replace E := zLet_s ev14 E
        have qv14 := zp_ld ev13 ev14
        refine zg_iload_n X 2 rfl dX11_canTurn_32 ?_
        refine zg_ishrW X dX11_canTurn_33 (fun v15 ev15 => ?_)
        replace E := zLet_s ev15 E
        refine zg_iconst X 1 dX11_canTurn_34 (by decide) (fun v16 _ hv16 => ?_)
        replace E := zLet_s (zcst hv16 (by decide)) E
        refine zg_iandW X dX11_canTurn_35 (fun v17 ev17 => ?_)
        replace E := zLet_s ev17 E
        have zx := zbt_t (by omega) ev15 ev17 (by omega) (by omega)
        rw [qv14] at zx
        refine zg_if_ne X 43 dX11_canTurn_36 (by decide) (fun c18 => ?_) (fun c18 => ?_)
        · skip
          replace E := zIf_f c18 E
          refine zg_iconst X 0 dX11_canTurn_43 (by decide) (fun v19 _ hv19 => ?_)
          replace E := zLet_s (zcst hv19 (by decide)) E
          exact ret _ _ _ _ dX11_canTurn_44 (zb_bool ⟨by omega, by omega⟩) ⟨⟨E.symm.trans hR, ⟨⟨by omega, by omega⟩, (by first | exact Or.inr (by omega) | exact Or.inl ⟨by omega, by omega, by omega, by omega, by omega, zx.elim (fun z => z.2) (fun z => absurd z.1 (by omega))⟩)⟩⟩, rfl⟩
        · skip
          replace E := zIf_t c18 E
          refine zg_iconst X 1 dX11_canTurn_39 (by decide) (fun v20 _ hv20 => ?_)
          replace E := zLet_s (zcst hv20 (by decide)) E
          refine zg_goto X 44 dX11_canTurn_40 (by decide) ?_
          exact ret _ _ _ _ dX11_canTurn_44 (zb_bool ⟨by omega, by omega⟩) ⟨⟨E.symm.trans hR, ⟨⟨by omega, by omega⟩, (by first | exact Or.inr (by omega) | exact Or.inl ⟨by omega, by omega, by omega, by omega, by omega, zx.elim (fun z => z.2) (fun z => absurd z.1 (by omega))⟩)⟩⟩, rfl⟩
set_option maxHeartbeats 4000000 in
set_option maxRecDepth 100000 in
theorem t_X11_turn (l : Launch) (d : zD2) (L : List Nat) (kd : Nat → Nat) (κ : Int) (σ : zS) (hI : zJ κ L kd σ) (a0 : Nat) (ha0 : zT L kd a0 11) (p1 : Int32) (p2 : Int32) (hgN : gN a0 σ) (hgH : gH a0 σ) (hgE : gE a0 σ) (hgL : gL a0 σ) : zMi l yX11_turn (Cond.code yX11_turn cX11_turn 3 (some .boolean) :: zWL) 6 [.ref a0, .int p1, .int p2] d L kd σ (fun v σ2 => (v, σ2) = F_X11_turn a0 p1 p2 σ ∧ ((((0 ≤ v.toInt ∧ v.toInt ≤ 1)) ∧ (gN a0 σ2) ∧ (gH a0 σ2) ∧ (gE a0 σ2) ∧ (gL a0 σ2)) ∧ zJ κ L kd σ2 ∧ zSame a0 [47, 50, 51, 57] [145, 146, 148, 149, 152, 153, 154, 155, 158] L kd σ σ2)) := by
  refine zMi.of (own := RX11) (by decide +kernel) rfl rfl (Nat.le_of_ble_eq_true rfl) ?_
  intro p e s m args below meth c A Q X ret
  have hS : zSame a0 [47, 50, 51, 57] [145, 146, 148, 149, 152, 153, 154, 155, 158] L kd σ σ := zSame.rf
  refine zg_lv (lv2 := [(0, .ref a0), (1, .int p1), (2, .int p2)]) rfl ?_
  have zm := zM_in hI ha0
  obtain ⟨R, hR⟩ : ∃ R, R = F_X11_turn a0 p1 p2 σ := ⟨_, rfl⟩
  have E := hR
  unfold F_X11_turn at E
  refine zg_aload_n X 0 rfl dX11_turn_0 ?_
  refine zg_cVv (As := []) (st := []) X ha0 rfl (by decide) rfl (t_X11_copies l d L kd κ _ hI a0 ha0    hgN hgL) mk_X11_332 mc_X11_copies mz_X11 mi_X11_copies ml_X11_copies (na := 0) ⟨md_X11.1, md_X11.2, by decide +kernel⟩ rfl ⟨by decide, by decide⟩ (Nat.le_of_ble_eq_true rfl) dX11_turn_1 (fun t1 hq => ?_)
  obtain ⟨hF, ⟨ht1_fact0, gRt1, gBt1⟩, hI, g2⟩ := hq
  replace E := zLet_s hF E
  have hS := hS.tr g2 (by decide) (by decide)
  have Mt1 := zM_same hI ha0 g2 (by decide)
  have gNt1 := gN.same hI ha0 g2 (by decide) hgN
  have gHt1 := gH.same hI ha0 g2 (by decide) hgH
  have gEt1 := gE.same hI ha0 g2 (by decide) hgE
  have gLt1 := gL.same hI ha0 g2 (by decide) hgL
  have zrow := ht1_fact0
  refine zg_aload_n X 0 rfl dX11_turn_4 ?_
  refine zg_iload_n X 1 rfl dX11_turn_5 ?_
  refine zg_iload_n X 2 rfl dX11_turn_6 ?_
  refine zg_cVi (As := [.int p1, .int p2]) (st := []) X ha0 rfl (by decide) rfl (t_X11_canTurn l d L kd κ _ hI a0 ha0 p1 p2  ) mk_X11_399 mc_X11_canTurn mz_X11 mi_X11_canTurn ml_X11_canTurn (na := 2) ⟨md_X11.1, md_X11.2, by decide +kernel⟩ rfl ⟨by decide, by decide⟩ (Nat.le_of_ble_eq_true rfl) dX11_turn_7 (fun v4 t3 hq => ?_)
  obtain ⟨⟨hF, ⟨ht3_res, ht3_fact0⟩⟩, rfl⟩ := hq
  replace E := zLet_s hF E
  have zcan := ht3_fact0
  refine zg_if_ne X 15 dX11_turn_10 (by decide) (fun c5 => ?_) (fun c5 => ?_)
  · skip
    replace E := zIf_f c5 E
    obtain ⟨zc1, zc2, zc3, zc4, zc5, zc6⟩ := zcan.resolve_right (by omega)
    refine zg_aload_n X 0 rfl dX11_turn_15 ?_
    refine zg_iload_n X 1 rfl dX11_turn_16 ?_
    refine zg_iload_n X 2 rfl dX11_turn_17 ?_
    refine zg_cVv (As := [.int p1, .int p2]) (st := []) X ha0 rfl (by decide) rfl (t_X11_does l d L kd κ _ hI a0 ha0 p1 p2  (by omega) (gRow.turn (m := zM a0 t1) (by omega) gRt1 gBt1 zc2 zc3 zc4 zc5 zc6 (fun j h0 h1 => by show (if j = p1.toInt then p2.toInt else zp a0 t1 48 j) = _; rw [zrow j h0 h1])) gNt1 gHt1 gLt1) mk_X11_396 mc_X11_does mz_X11 mi_X11_does ml_X11_does (na := 2) ⟨md_X11.1, md_X11.2, by decide +kernel⟩ rfl ⟨by decide, by decide⟩ (Nat.le_of_ble_eq_true rfl) dX11_turn_18 (fun t6 hq => ?_)
    obtain ⟨hF, ⟨gNt6, gHt6⟩, hI, g7⟩ := hq
    replace E := zLet_s hF E
    have hS := hS.tr g7 (by decide) (by decide)
    have Mt6 := (zM_same hI ha0 g7 (by decide)).trans Mt1
    have gEt6 := gE.same hI ha0 g7 (by decide) gEt1
    have gLt6 := gL.same hI ha0 g7 (by decide) gLt1
    refine zg_iconst X 1 dX11_turn_21 (by decide) (fun v8 _ hv8 => ?_)
    replace E := zLet_s (zcst hv8 (by decide)) E
    exact ret _ _ _ _ dX11_turn_22 (zb_bool ⟨by omega, by omega⟩) ⟨E.symm.trans hR, ⟨⟨⟨by omega, by omega⟩, gNt6, gHt6, gEt6, gLt6⟩, hI, hS⟩⟩
  · skip
    replace E := zIf_t c5 E
    refine zg_iconst X 0 dX11_turn_13 (by decide) (fun v9 _ hv9 => ?_)
    replace E := zLet_s (zcst hv9 (by decide)) E
    exact ret _ _ _ _ dX11_turn_14 (zb_bool ⟨by omega, by omega⟩) ⟨E.symm.trans hR, ⟨⟨⟨by omega, by omega⟩, gNt1, gHt1, gEt1, gLt1⟩, hI, hS⟩⟩
set_option maxHeartbeats 4000000 in
set_option maxRecDepth 100000 in
theorem t_X11_dam (l : Launch) (d : zD2) (L : List Nat) (kd : Nat → Nat) (κ : Int) (σ : zS) (hI : zJ κ L kd σ) (a0 : Nat) (ha0 : zT L kd a0 11) (p1 : Int32) (p2 : Int32) (hgN : gN a0 σ) (hgH : gH a0 σ) (hgE : gE a0 σ) (hgL : gL a0 σ) : zMi l yX11_dam (Cond.code yX11_dam cX11_dam 3 (some .boolean) :: zWL) 6 [.ref a0, .int p1, .int p2] d L kd σ (fun v σ2 => (v, σ2) = F_X11_dam a0 p1 p2 σ ∧ ((((0 ≤ v.toInt ∧ v.toInt ≤ 1)) ∧ (gN a0 σ2) ∧ (gH a0 σ2) ∧ (gE a0 σ2) ∧ (gL a0 σ2)) ∧ zJ κ L kd σ2 ∧ zSame a0 [47, 50, 51, 57] [145, 146, 148, 149, 152, 153, 154, 155, 158] L kd σ σ2)) := by
  refine zMi.of (own := RX11) (by decide +kernel) rfl rfl (Nat.le_of_ble_eq_true rfl) ?_
  intro p e s m args below meth c A Q X ret
  have hS : zSame a0 [47, 50, 51, 57] [145, 146, 148, 149, 152, 153, 154, 155, 158] L kd σ σ := zSame.rf
  refine zg_lv (lv2 := [(0, .ref a0), (1, .int p1), (2, .int p2)]) rfl ?_
  have zm := zM_in hI ha0
  obtain ⟨R, hR⟩ : ∃ R, R = F_X11_dam a0 p1 p2 σ := ⟨_, rfl⟩
  have E := hR
  unfold F_X11_dam at E
  refine zg_aload_n X 0 rfl dX11_dam_0 ?_
  refine zg_iload_n X 1 rfl dX11_dam_1 ?_
  refine zg_cVi (As := [.int p1]) (st := []) X ha0 rfl (by decide) rfl (t_X11_isBeside l d L kd κ _ hI a0 ha0 p1  ) mk_X11_339 mc_X11_isBeside mz_X11 mi_X11_isBeside ml_X11_isBeside (na := 1) ⟨md_X11.1, md_X11.2, by decide +kernel⟩ rfl ⟨by decide, by decide⟩ (Nat.le_of_ble_eq_true rfl) dX11_dam_2 (fun v2 t1 hq => ?_)
  obtain ⟨⟨hF, ⟨ht1_res, ht1_fact0⟩⟩, rfl⟩ := hq
  replace E := zLet_s hF E
  refine zg_if_eq X 30 dX11_dam_5 (by decide) (fun c3 => ?_) (fun c3 => ?_)
  · skip
    replace E := zIf_t c3 E
    refine zg_iconst X 0 dX11_dam_30 (by decide) (fun v4 _ hv4 => ?_)
    replace E := zLet_s (zcst hv4 (by decide)) E
    exact ret _ _ _ _ dX11_dam_31 (zb_bool ⟨by omega, by omega⟩) ⟨E.symm.trans hR, ⟨⟨⟨by omega, by omega⟩, hgN, hgH, hgE, hgL⟩, hI, hS⟩⟩
  · skip
    replace E := zIf_f c3 E
    refine zg_aload_n X 0 rfl dX11_dam_8 ?_
    refine fg_X11_107 X hI ha0 dX11_dam_9 (fun v5 ev5 hv5 => ?_)
    replace E := zLet_s (zgr ev5) E
    refine zg_bipush X 12 dX11_dam_12 (by decide) (fun v6 _ hv6 => ?_)
    replace E := zLet_s (zcst hv6 (by decide)) E
    refine zg_iload_n X 1 rfl dX11_dam_14 ?_
    refine zg_iadd X dX11_dam_15 (by omega) (by omega) (fun v7 ev7 hv7 => ?_)
    replace E := zLet_s ev7 E
    refine ag_148 X hI hv5 (by omega) (by omega) dX11_dam_16 (fun v8 ev8 _ => ?_)
    replace E := zLet_s ev8 E
    refine zg_iconst X 1 dX11_dam_17 (by decide) (fun v9 _ hv9 => ?_)
    replace E := zLet_s (zcst hv9 (by decide)) E
    refine zg_icmp_ne X 25 dX11_dam_18 (by decide) (fun c10 => ?_) (fun c10 => ?_)
    · skip
      replace E := zIf_f c10 E
      refine zg_iconst X 0 dX11_dam_25 (by decide) (fun v11 _ hv11 => ?_)
      replace E := zLet_s (zcst hv11 (by decide)) E
      refine zg_iload_n X 2 rfl dX11_dam_26 ?_
      refine zg_icmp_ne X 32 dX11_dam_27 (by decide) (fun c12 => ?_) (fun c12 => ?_)
      · skip
        replace E := zIf_f c12 E
        refine zg_aload_n X 0 rfl dX11_dam_32 ?_
        refine zg_bipush X 12 dX11_dam_33 (by decide) (fun v13 _ hv13 => ?_)
        replace E := zLet_s (zcst hv13 (by decide)) E
        refine zg_iload_n X 1 rfl dX11_dam_35 ?_
        refine zg_iadd X dX11_dam_36 (by omega) (by omega) (fun v14 ev14 hv14 => ?_)
        replace E := zLet_s ev14 E
        refine zg_iload_n X 2 rfl dX11_dam_37 ?_
        refine zg_if_eq X 45 dX11_dam_38 (by decide) (fun c15 => ?_) (fun c15 => ?_)
        · skip
          replace E := zIf_t c15 E
          refine zg_iconst X 0 dX11_dam_45 (by decide) (fun v16 _ hv16 => ?_)
          replace E := zLet_s (zcst hv16 (by decide)) E
          refine zg_cVv (As := [.int v14, .int v16]) (st := []) X ha0 rfl (by decide) rfl (t_X11_does l d L kd κ _ hI a0 ha0 v14 v16  (by omega) (gRow.congr zm.2 hgN (fun j h1 h2 => by show (if _ then _ else _) = _; rw [if_neg (by omega)])) hgN hgH hgL) mk_X11_396 mc_X11_does mz_X11 mi_X11_does ml_X11_does (na := 2) ⟨md_X11.1, md_X11.2, by decide +kernel⟩ rfl ⟨by decide, by decide⟩ (Nat.le_of_ble_eq_true rfl) dX11_dam_46 (fun t17 hq => ?_)
          obtain ⟨hF, ⟨gNt17, gHt17⟩, hI, g18⟩ := hq
          replace E := zLet_s hF E
          have hS := hS.tr g18 (by decide) (by decide)
          have Mt17 := zM_same hI ha0 g18 (by decide)
          have gEt17 := gE.same hI ha0 g18 (by decide) hgE
          have gLt17 := gL.same hI ha0 g18 (by decide) hgL
          refine zg_iconst X 1 dX11_dam_49 (by decide) (fun v19 _ hv19 => ?_)
          replace E := zLet_s (zcst hv19 (by decide)) E
          exact ret _ _ _ _ dX11_dam_50 (zb_bool ⟨by omega, by omega⟩) ⟨E.symm.trans hR, ⟨⟨⟨by omega, by omega⟩, gNt17, gHt17, gEt17, gLt17⟩, hI, hS⟩⟩
        · skip
          replace E := zIf_f c15 E
          refine zg_iconst X 1 dX11_dam_41 (by decide) (fun v20 _ hv20 => ?_)
          replace E := zLet_s (zcst hv20 (by decide)) E
          refine zg_goto X 46 dX11_dam_42 (by decide) ?_
          refine zg_cVv (As := [.int v14, .int v20]) (st := []) X ha0 rfl (by decide) rfl (t_X11_does l d L kd κ _ hI a0 ha0 v14 v20  (by omega) (gRow.congr zm.2 hgN (fun j h1 h2 => by show (if _ then _ else _) = _; rw [if_neg (by omega)])) hgN hgH hgL) mk_X11_396 mc_X11_does mz_X11 mi_X11_does ml_X11_does (na := 2) ⟨md_X11.1, md_X11.2, by decide +kernel⟩ rfl ⟨by decide, by decide⟩ (Nat.le_of_ble_eq_true rfl) dX11_dam_46 (fun t21 hq => ?_)
          obtain ⟨hF, ⟨gNt21, gHt21⟩, hI, g22⟩ := hq
          replace E := zLet_s hF E
          have hS := hS.tr g22 (by decide) (by decide)
          have Mt21 := zM_same hI ha0 g22 (by decide)
          have gEt21 := gE.same hI ha0 g22 (by decide) hgE
          have gLt21 := gL.same hI ha0 g22 (by decide) hgL
          refine zg_iconst X 1 dX11_dam_49 (by decide) (fun v23 _ hv23 => ?_)
          replace E := zLet_s (zcst hv23 (by decide)) E
          exact ret _ _ _ _ dX11_dam_50 (zb_bool ⟨by omega, by omega⟩) ⟨E.symm.trans hR, ⟨⟨⟨by omega, by omega⟩, gNt21, gHt21, gEt21, gLt21⟩, hI, hS⟩⟩
      · skip
        replace E := zIf_t c12 E
        refine zg_iconst X 0 dX11_dam_30 (by decide) (fun v24 _ hv24 => ?_)
        replace E := zLet_s (zcst hv24 (by decide)) E
        exact ret _ _ _ _ dX11_dam_31 (zb_bool ⟨by omega, by omega⟩) ⟨E.symm.trans hR, ⟨⟨⟨by omega, by omega⟩, hgN, hgH, hgE, hgL⟩, hI, hS⟩⟩
    · skip
      replace E := zIf_t c10 E
      refine zg_iconst X 1 dX11_dam_21 (by decide) (fun v25 _ hv25 => ?_)
      replace E := zLet_s (zcst hv25 (by decide)) E
      refine zg_goto X 26 dX11_dam_22 (by decide) ?_
      refine zg_iload_n X 2 rfl dX11_dam_26 ?_
      refine zg_icmp_ne X 32 dX11_dam_27 (by decide) (fun c26 => ?_) (fun c26 => ?_)
      · skip
        replace E := zIf_f c26 E
        refine zg_aload_n X 0 rfl dX11_dam_32 ?_
        refine zg_bipush X 12 dX11_dam_33 (by decide) (fun v27 _ hv27 => ?_)
        replace E := zLet_s (zcst hv27 (by decide)) E
        refine zg_iload_n X 1 rfl dX11_dam_35 ?_
        refine zg_iadd X dX11_dam_36 (by omega) (by omega) (fun v28 ev28 hv28 => ?_)
        replace E := zLet_s ev28 E
        refine zg_iload_n X 2 rfl dX11_dam_37 ?_
        refine zg_if_eq X 45 dX11_dam_38 (by decide) (fun c29 => ?_) (fun c29 => ?_)
        · skip
          replace E := zIf_t c29 E
          refine zg_iconst X 0 dX11_dam_45 (by decide) (fun v30 _ hv30 => ?_)
          replace E := zLet_s (zcst hv30 (by decide)) E
          refine zg_cVv (As := [.int v28, .int v30]) (st := []) X ha0 rfl (by decide) rfl (t_X11_does l d L kd κ _ hI a0 ha0 v28 v30  (by omega) (gRow.congr zm.2 hgN (fun j h1 h2 => by show (if _ then _ else _) = _; rw [if_neg (by omega)])) hgN hgH hgL) mk_X11_396 mc_X11_does mz_X11 mi_X11_does ml_X11_does (na := 2) ⟨md_X11.1, md_X11.2, by decide +kernel⟩ rfl ⟨by decide, by decide⟩ (Nat.le_of_ble_eq_true rfl) dX11_dam_46 (fun t31 hq => ?_)
          obtain ⟨hF, ⟨gNt31, gHt31⟩, hI, g32⟩ := hq
          replace E := zLet_s hF E
          have hS := hS.tr g32 (by decide) (by decide)
          have Mt31 := zM_same hI ha0 g32 (by decide)
          have gEt31 := gE.same hI ha0 g32 (by decide) hgE
          have gLt31 := gL.same hI ha0 g32 (by decide) hgL
          refine zg_iconst X 1 dX11_dam_49 (by decide) (fun v33 _ hv33 => ?_)
          replace E := zLet_s (zcst hv33 (by decide)) E
          exact ret _ _ _ _ dX11_dam_50 (zb_bool ⟨by omega, by omega⟩) ⟨E.symm.trans hR, ⟨⟨⟨by omega, by omega⟩, gNt31, gHt31, gEt31, gLt31⟩, hI, hS⟩⟩
        · skip
          replace E := zIf_f c29 E
          refine zg_iconst X 1 dX11_dam_41 (by decide) (fun v34 _ hv34 => ?_)
          replace E := zLet_s (zcst hv34 (by decide)) E
          refine zg_goto X 46 dX11_dam_42 (by decide) ?_
          refine zg_cVv (As := [.int v28, .int v34]) (st := []) X ha0 rfl (by decide) rfl (t_X11_does l d L kd κ _ hI a0 ha0 v28 v34  (by omega) (gRow.congr zm.2 hgN (fun j h1 h2 => by show (if _ then _ else _) = _; rw [if_neg (by omega)])) hgN hgH hgL) mk_X11_396 mc_X11_does mz_X11 mi_X11_does ml_X11_does (na := 2) ⟨md_X11.1, md_X11.2, by decide +kernel⟩ rfl ⟨by decide, by decide⟩ (Nat.le_of_ble_eq_true rfl) dX11_dam_46 (fun t35 hq => ?_)
          obtain ⟨hF, ⟨gNt35, gHt35⟩, hI, g36⟩ := hq
          replace E := zLet_s hF E
          have hS := hS.tr g36 (by decide) (by decide)
          have Mt35 := zM_same hI ha0 g36 (by decide)
          have gEt35 := gE.same hI ha0 g36 (by decide) hgE
          have gLt35 := gL.same hI ha0 g36 (by decide) hgL
          refine zg_iconst X 1 dX11_dam_49 (by decide) (fun v37 _ hv37 => ?_)
          replace E := zLet_s (zcst hv37 (by decide)) E
          exact ret _ _ _ _ dX11_dam_50 (zb_bool ⟨by omega, by omega⟩) ⟨E.symm.trans hR, ⟨⟨⟨by omega, by omega⟩, gNt35, gHt35, gEt35, gLt35⟩, hI, hS⟩⟩
      · skip
        replace E := zIf_t c26 E
        refine zg_iconst X 0 dX11_dam_30 (by decide) (fun v38 _ hv38 => ?_)
        replace E := zLet_s (zcst hv38 (by decide)) E
        exact ret _ _ _ _ dX11_dam_31 (zb_bool ⟨by omega, by omega⟩) ⟨E.symm.trans hR, ⟨⟨⟨by omega, by omega⟩, hgN, hgH, hgE, hgL⟩, hI, hS⟩⟩
set_option maxHeartbeats 4000000 in
set_option maxRecDepth 100000 in
theorem t_X11_rule (l : Launch) (d : zD2) (L : List Nat) (kd : Nat → Nat) (κ : Int) (σ : zS) (hI : zJ κ L kd σ) (a0 : Nat) (ha0 : zT L kd a0 11) (p1 : Int32) (hgN : gN a0 σ) (hgH : gH a0 σ) (hgE : gE a0 σ) (hgL : gL a0 σ) : zMi l yX11_rule (Cond.code yX11_rule cX11_rule 2 (some .boolean) :: zWL) 6 [.ref a0, .int p1] d L kd σ (fun v σ2 => (v, σ2) = F_X11_rule a0 p1 σ ∧ ((((0 ≤ v.toInt ∧ v.toInt ≤ 1)) ∧ (gN a0 σ2) ∧ (gH a0 σ2) ∧ (gE a0 σ2) ∧ (gL a0 σ2)) ∧ zJ κ L kd σ2 ∧ zSame a0 [47, 50, 51, 57] [145, 146, 148, 149, 152, 153, 154, 155, 158] L kd σ σ2)) := by
  refine zMi.of (own := RX11) (by decide +kernel) rfl rfl (Nat.le_of_ble_eq_true rfl) ?_
  intro p e s m args below meth c A Q X ret
  have hS : zSame a0 [47, 50, 51, 57] [145, 146, 148, 149, 152, 153, 154, 155, 158] L kd σ σ := zSame.rf
  refine zg_lv (lv2 := [(0, .ref a0), (1, .int p1)]) rfl ?_
  have zm := zM_in hI ha0
  obtain ⟨R, hR⟩ : ∃ R, R = F_X11_rule a0 p1 σ := ⟨_, rfl⟩
  have E := hR
  unfold F_X11_rule at E
  refine zg_iload_n X 1 rfl dX11_rule_0 ?_
  refine zg_cSi (As := [.int p1]) (st := []) X (t_X11_isLaw l d L kd _ p1 ) mk_X11_386 mc_X11_isLaw mz_X11 ms_X11_isLaw (na := 1) ⟨md_X11.1, md_X11.2, by decide +kernel⟩ rfl ⟨by decide, by decide⟩ (Nat.le_of_ble_eq_true rfl) dX11_rule_1 (fun v1 σ2 hq => ?_)
  obtain ⟨⟨hF, hv1⟩, rfl⟩ := hq
  replace E := zLet_s hF E
  refine zg_if_eq X 18 dX11_rule_4 (by decide) (fun c2 => ?_) (fun c2 => ?_)
  · skip
    replace E := zIf_t c2 E
    refine zg_iconst X 0 dX11_rule_18 (by decide) (fun v3 _ hv3 => ?_)
    replace E := zLet_s (zcst hv3 (by decide)) E
    exact ret _ _ _ _ dX11_rule_19 (zb_bool ⟨by omega, by omega⟩) ⟨E.symm.trans hR, ⟨⟨⟨by omega, by omega⟩, hgN, hgH, hgE, hgL⟩, hI, hS⟩⟩
  · skip
    replace E := zIf_f c2 E
    refine zg_aload_n X 0 rfl dX11_rule_7 ?_
    refine fg_X11_107 X hI ha0 dX11_rule_8 (fun v4 ev4 hv4 => ?_)
    replace E := zLet_s (zgr ev4) E
    refine zg_bipush X 49 dX11_rule_11 (by decide) (fun v5 _ hv5 => ?_)
    replace E := zLet_s (zcst hv5 (by decide)) E
    refine ag_148 X hI hv4 (by omega) (by omega) dX11_rule_13 (fun v6 ev6 _ => ?_)
    replace E := zLet_s ev6 E
    refine zg_iload_n X 1 rfl dX11_rule_14 ?_
    refine zg_icmp_ne X 20 dX11_rule_15 (by decide) (fun c7 => ?_) (fun c7 => ?_)
    · skip
      replace E := zIf_f c7 E
      refine zg_aload_n X 0 rfl dX11_rule_20 ?_
      refine zg_bipush X 49 dX11_rule_21 (by decide) (fun v8 _ hv8 => ?_)
      replace E := zLet_s (zcst hv8 (by decide)) E
      refine zg_iload_n X 1 rfl dX11_rule_23 ?_
      refine zg_cVv (As := [.int v8, .int p1]) (st := []) X ha0 rfl (by decide) rfl (t_X11_does l d L kd κ _ hI a0 ha0 v8 p1  (by omega) (gRow.law zm.2 hgN (v := p1.toInt) (by omega) (by omega) (fun j h1 h2 => by show (if _ then _ else _) = _; rw [if_neg (by omega)]) (by show (if _ then _ else _) = _; rw [if_pos (by omega)])) hgN hgH hgL) mk_X11_396 mc_X11_does mz_X11 mi_X11_does ml_X11_does (na := 2) ⟨md_X11.1, md_X11.2, by decide +kernel⟩ rfl ⟨by decide, by decide⟩ (Nat.le_of_ble_eq_true rfl) dX11_rule_24 (fun t9 hq => ?_)
      obtain ⟨hF, ⟨gNt9, gHt9⟩, hI, g10⟩ := hq
      replace E := zLet_s hF E
      have hS := hS.tr g10 (by decide) (by decide)
      have Mt9 := zM_same hI ha0 g10 (by decide)
      have gEt9 := gE.same hI ha0 g10 (by decide) hgE
      have gLt9 := gL.same hI ha0 g10 (by decide) hgL
      refine zg_iconst X 1 dX11_rule_27 (by decide) (fun v11 _ hv11 => ?_)
      replace E := zLet_s (zcst hv11 (by decide)) E
      exact ret _ _ _ _ dX11_rule_28 (zb_bool ⟨by omega, by omega⟩) ⟨E.symm.trans hR, ⟨⟨⟨by omega, by omega⟩, gNt9, gHt9, gEt9, gLt9⟩, hI, hS⟩⟩
    · skip
      replace E := zIf_t c7 E
      refine zg_iconst X 0 dX11_rule_18 (by decide) (fun v12 _ hv12 => ?_)
      replace E := zLet_s (zcst hv12 (by decide)) E
      exact ret _ _ _ _ dX11_rule_19 (zb_bool ⟨by omega, by omega⟩) ⟨E.symm.trans hR, ⟨⟨⟨by omega, by omega⟩, hgN, hgH, hgE, hgL⟩, hI, hS⟩⟩
set_option maxHeartbeats 4000000 in
set_option maxRecDepth 100000 in
theorem t_X11_months (l : Launch) (d : zD2) (L : List Nat) (kd : Nat → Nat) (κ : Int) (σ : zS) (hI : zJ κ L kd σ) (a0 : Nat) (ha0 : zT L kd a0 11) (p1 : Int32) (hgN : gN a0 σ) (hgH : gH a0 σ) (hgE : gE a0 σ) (hgL : gL a0 σ) : zMi l yX11_months (Cond.code yX11_months cX11_months 2 (some .int) :: zWL) 6 [.ref a0, .int p1] d L kd σ (fun v σ2 => (v, σ2) = F_X11_months a0 p1 σ ∧ (((gN a0 σ2) ∧ (gH a0 σ2) ∧ (gE a0 σ2) ∧ (gL a0 σ2)) ∧ zJ κ L kd σ2 ∧ zSame a0 [47, 50, 51, 56, 57] [145, 146, 148, 149, 152, 153, 154, 155, 158] L kd σ σ2)) := by
  refine zMi.of (own := RX11) (by decide +kernel) rfl rfl (Nat.le_of_ble_eq_true rfl) ?_
  intro p e s m args below meth c A Q X ret
  have hS : zSame a0 [47, 50, 51, 56, 57] [145, 146, 148, 149, 152, 153, 154, 155, 158] L kd σ σ := zSame.rf
  refine zg_lv (lv2 := [(0, .ref a0), (1, .int p1)]) rfl ?_
  obtain ⟨R, hR⟩ : ∃ R, R = F_X11_months a0 p1 σ := ⟨_, rfl⟩
  have E := hR
  unfold F_X11_months at E
  refine zg_iload_n X 1 rfl dX11_months_0 ?_
  refine zg_cSi (As := [.int p1]) (st := []) X (t_X11_isLong l d L kd _ p1 ) mk_X11_402 mc_X11_isLong mz_X11 ms_X11_isLong (na := 1) ⟨md_X11.1, md_X11.2, by decide +kernel⟩ rfl ⟨by decide, by decide⟩ (Nat.le_of_ble_eq_true rfl) dX11_months_1 (fun v1 σ2 hq => ?_)
  obtain ⟨⟨hF, hv1⟩, rfl⟩ := hq
  replace E := zLet_s hF E
  refine zg_if_ne X 9 dX11_months_4 (by decide) (fun c2 => ?_) (fun c2 => ?_)
  · skip
    replace E := zIf_f c2 E
    refine zg_iload_n X 1 rfl dX11_months_9 ?_
    refine zg_if_ne X 21 dX11_months_10 (by decide) (fun c3 => ?_) (fun c3 => ?_)
    · skip
      replace E := zIf_f c3 E
      refine zg_aload_n X 0 rfl dX11_months_21 ?_
      refine zg_cVv (As := []) (st := []) X ha0 rfl (by decide) rfl (t_X11_copies l d L kd κ _ hI a0 ha0    hgN hgL) mk_X11_332 mc_X11_copies mz_X11 mi_X11_copies ml_X11_copies (na := 0) ⟨md_X11.1, md_X11.2, by decide +kernel⟩ rfl ⟨by decide, by decide⟩ (Nat.le_of_ble_eq_true rfl) dX11_months_22 (fun t4 hq => ?_)
      obtain ⟨hF, ⟨ht4_fact0, gRt4, gBt4⟩, hI, g5⟩ := hq
      replace E := zLet_s hF E
      have hS := hS.tr g5 (by decide) (by decide)
      have gNt4 := gN.same hI ha0 g5 (by decide) hgN
      have gHt4 := gH.same hI ha0 g5 (by decide) hgH
      have gEt4 := gE.same hI ha0 g5 (by decide) hgE
      have gLt4 := gL.same hI ha0 g5 (by decide) hgL
      refine zg_aload_n X 0 rfl dX11_months_25 ?_
      refine zg_iload_n X 1 rfl dX11_months_26 ?_
      refine zg_cVv (As := [.int p1]) (st := []) X ha0 rfl (by decide) rfl (t_X11_goes l d L kd κ _ hI a0 ha0 p1   gRt4 gLt4) mk_X11_405 mc_X11_goes mz_X11 mi_X11_goes ml_X11_goes (na := 1) ⟨md_X11.1, md_X11.2, by decide +kernel⟩ rfl ⟨by decide, by decide⟩ (Nat.le_of_ble_eq_true rfl) dX11_months_27 (fun t6 hq => ?_)
      obtain ⟨hF, gRt6, hI, g7⟩ := hq
      replace E := zLet_s hF E
      have hS := hS.tr g7 (by decide) (by decide)
      have gNt6 := gN.same hI ha0 g7 (by decide) gNt4
      have gHt6 := gH.same hI ha0 g7 (by decide) gHt4
      have gEt6 := gE.same hI ha0 g7 (by decide) gEt4
      have gLt6 := gL.same hI ha0 g7 (by decide) gLt4
      refine zg_aload_n X 0 rfl dX11_months_30 ?_
      refine zg_cVv (As := []) (st := []) X ha0 rfl (by decide) rfl (t_X11_records l d L kd κ _ hI a0 ha0    gRt6 gNt6 gHt6) mk_X11_393 mc_X11_records mz_X11 mi_X11_records ml_X11_records (na := 0) ⟨md_X11.1, md_X11.2, by decide +kernel⟩ rfl ⟨by decide, by decide⟩ (Nat.le_of_ble_eq_true rfl) dX11_months_31 (fun t8 hq => ?_)
      obtain ⟨hF, ⟨gRt8, gNt8, gHt8⟩, hI, g9⟩ := hq
      replace E := zLet_s hF E
      have hS := hS.tr g9 (by decide) (by decide)
      have gEt8 := gE.same hI ha0 g9 (by decide) gEt6
      have gLt8 := gL.same hI ha0 g9 (by decide) gLt6
      have gRt8 := gR.same hI ha0 g9 (by decide) gRt6
      refine zg_aload_n X 0 rfl dX11_months_34 ?_
      refine fg_X11_107 X hI ha0 dX11_months_35 (fun v10 ev10 hv10 => ?_)
      replace E := zLet_s (zgr ev10) E
      refine zg_bipush X 48 dX11_months_38 (by decide) (fun v11 _ hv11 => ?_)
      replace E := zLet_s (zcst hv11 (by decide)) E
      refine ag_148 X hI hv10 (by omega) (by omega) dX11_months_40 (fun v12 ev12 _ => ?_)
      replace E := zLet_s ev12 E
      exact ret _ _ _ _ dX11_months_41 rfl ⟨E.symm.trans hR, ⟨⟨gNt8, gHt8, gEt8, gLt8⟩, hI, hS⟩⟩
    · skip
      replace E := zIf_t c3 E
      refine zg_aload_n X 0 rfl dX11_months_13 ?_
      refine fg_X11_107 X hI ha0 dX11_months_14 (fun v13 ev13 hv13 => ?_)
      replace E := zLet_s (zgr ev13) E
      refine zg_bipush X 48 dX11_months_17 (by decide) (fun v14 _ hv14 => ?_)
      replace E := zLet_s (zcst hv14 (by decide)) E
      refine ag_148 X hI hv13 (by omega) (by omega) dX11_months_19 (fun v15 ev15 _ => ?_)
      replace E := zLet_s ev15 E
      exact ret _ _ _ _ dX11_months_20 rfl ⟨E.symm.trans hR, ⟨⟨hgN, hgH, hgE, hgL⟩, hI, hS⟩⟩
  · skip
    replace E := zIf_t c2 E
    refine zg_iconst X (-1) dX11_months_7 (by decide) (fun v16 _ hv16 => ?_)
    replace E := zLet_s (zcst hv16 (by decide)) E
    exact ret _ _ _ _ dX11_months_8 rfl ⟨E.symm.trans hR, ⟨⟨hgN, hgH, hgE, hgL⟩, hI, hS⟩⟩
set_option maxHeartbeats 4000000 in
set_option maxRecDepth 100000 in
theorem t_X11_undo (l : Launch) (d : zD2) (L : List Nat) (kd : Nat → Nat) (κ : Int) (σ : zS) (hI : zJ κ L kd σ) (a0 : Nat) (ha0 : zT L kd a0 11) (hgN : gN a0 σ) (hgH : gH a0 σ) (hgE : gE a0 σ) (hgL : gL a0 σ) : zMi l yX11_undo (Cond.code yX11_undo cX11_undo 2 (some .boolean) :: zWL) 0 [.ref a0] d L kd σ (fun v σ2 => (v, σ2) = F_X11_undo a0 σ ∧ ((((0 ≤ v.toInt ∧ v.toInt ≤ 1)) ∧ (gN a0 σ2) ∧ (gH a0 σ2) ∧ (gE a0 σ2) ∧ (gL a0 σ2)) ∧ zJ κ L kd σ2 ∧ zSame a0 [57] [148] L kd σ σ2)) := by
  refine zMi.of (own := RX11) (by decide +kernel) rfl rfl (Nat.le_of_ble_eq_true rfl) ?_
  intro p e s m args below meth c A Q X ret
  have hS : zSame a0 [57] [148] L kd σ σ := zSame.rf
  refine zg_lv (lv2 := [(0, .ref a0)]) rfl ?_
  have zm := zM_in hI ha0
  obtain ⟨R, hR⟩ : ∃ R, R = F_X11_undo a0 σ := ⟨_, rfl⟩
  have E := hR
  unfold F_X11_undo at E
  refine zg_aload_n X 0 rfl dX11_undo_0 ?_
  refine fg_X11_258 X hI ha0 dX11_undo_1 (fun v1 ev1 hv1 => ?_)
  replace E := zLet_s ev1 E
  have kv1 : (σ.1 a0 57).toInt = v1.toInt := by rw [ev1]
  refine zg_if_ne X 9 dX11_undo_4 (by decide) (fun c2 => ?_) (fun c2 => ?_)
  · skip
    replace E := zIf_f c2 E
    refine zg_aload_n X 0 rfl dX11_undo_9 ?_
    refine zg_dup X dX11_undo_10 rfl ?_
    refine fg_X11_258 X hI ha0 dX11_undo_11 (fun v3 ev3 hv3 => ?_)
    replace E := zLet_s ev3 E
    have kv3 : (σ.1 a0 57).toInt = v3.toInt := by rw [ev3]
    have mv3 : v3.toInt = v1.toInt := by rw [ev3, ← ev1]
    refine zg_iconst X 1 dX11_undo_14 (by decide) (fun v4 _ hv4 => ?_)
    replace E := zLet_s (zcst hv4 (by decide)) E
    refine zg_isub X dX11_undo_15 (by omega) (by omega) (fun v5 ev5 hv5 => ?_)
    replace E := zLet_s ev5 E
    refine fp_X11_258 X hI ha0 ⟨by omega, by omega⟩ dX11_undo_16 (fun s6 es6 hI => ?_)
    replace E := zLet_s es6 E
    have g7 := (zSame.rf (o := a0) (Wf := [57]) (Wa := []) (L := L) (kd := kd) (σ := σ)).f ha0 es6 rfl
    have hS := hS.tr g7 (by decide) (by decide)
    have Ms6 := zM_same hI ha0 g7 (by decide)
    have as6_58 := zp_same hI ha0 g7 58 rfl (by decide) (by decide)
    have gEs6 := gE.same hI ha0 g7 (by decide) hgE
    have gLs6 := gL.same hI ha0 g7 (by decide) hgL
    have fs6_57 : (s6.1 a0 57).toInt = v5.toInt := by rw [es6]; exact congrArg _ (zu_s _ _ _ _)
    have e8 : v5 = s6.1 a0 57 := by rw [es6]; exact zm_s
    refine zg_iconst X 0 dX11_undo_19 (by decide) (fun v9 _ hv9 => ?_)
    replace E := zLet_s (zcst hv9 (by decide)) E
    refine zg_istore_n X [(1, .int v9), (0, .ref a0)] dX11_undo_20 (by decide) rfl ?_
    have Lp11 : ∀ (nLp11 : Nat) (τ11 : zS) (x10 : Int32), zJ κ L kd τ11 → zSame a0 [57] [148] L kd σ τ11 → gE a0 τ11 → gL a0 τ11 → zM a0 τ11 = zM a0 σ → zp a0 τ11 58 = zp a0 σ 58 → R = F_X11_undo_21 a0  nLp11 x10 τ11 → 0 ≤ x10.toInt ∧ x10.toInt ≤ 50 ∧ (τ11.1 a0 57).toInt = (s6.1 a0 57).toInt → (50) - x10.toInt + 1 < (nLp11 : Int) → (∀ j : Int, 0 ≤ j → j < x10.toInt → zp a0 τ11 48 j = zp a0 σ 58 (50 * (s6.1 a0 57).toInt + j)) → zG d L kd A 2 p l e (k2_rm 0 (100 * 0)) s m args below meth c Q τ11 21 [(1, .int x10), (0, .ref a0)] [] := by
      intro nLp11
      induction nLp11 with
      | zero => intro τ11 x10 hI hS gE_Lp11 gL_Lp11 M_Lp11 A58_Lp11 E  hxLp11 hm _ ; exact absurd hm (by omega)
      | succ nLp11 ihLp11 =>
        intro τ11 x10 hI hS gE_Lp11 gL_Lp11 M_Lp11 A58_Lp11 E  hxLp11 hmLp11 hc
        rw [F_X11_undo_21] at E
        refine zg_iload_n X 0 rfl dX11_undo_21 ?_
        refine zg_bipush X 50 dX11_undo_22 (by decide) (fun v12 _ hv12 => ?_)
        replace E := zLet_s (zcst hv12 (by decide)) E
        refine zg_icmp_ge X 53 dX11_undo_24 (by decide) (fun c13 => ?_) (fun c13 => ?_)
        · skip
          replace E := zIf_f (Int.not_lt.mpr c13) E
          refine zg_iconst X 1 dX11_undo_53 (by decide) (fun v14 _ hv14 => ?_)
          replace E := zLet_s (zcst hv14 (by decide)) E
          exact ret _ _ _ _ dX11_undo_54 (zb_bool ⟨by omega, by omega⟩) ⟨E.symm.trans hR, ⟨⟨⟨by omega, by omega⟩, (by first | exact hgN | (unfold gN; rw [M_Lp11]; exact gRow.congr zm.2 (hgH _ (by omega) (by omega)) (fun j h1 h2 => hc j (by omega) (by omega)))), (by first | exact hgH | (unfold gH; rw [M_Lp11, A58_Lp11]; exact fun i h0 h1 => hgH i h0 (by omega))), gE_Lp11, gL_Lp11⟩, hI, hS⟩⟩
        · skip
          replace E := zIf_t c13 E
          refine zg_aload_n X 1 rfl dX11_undo_27 ?_
          refine fg_X11_107 X hI ha0 dX11_undo_28 (fun v15 ev15 hv15 => ?_)
          replace E := zLet_s (zgr ev15) E
          refine zg_iload_n X 0 rfl dX11_undo_31 ?_
          refine zg_aload_n X 1 rfl dX11_undo_32 ?_
          refine fg_X11_125 X hI ha0 dX11_undo_33 (fun v16 ev16 hv16 => ?_)
          replace E := zLet_s (zgr ev16) E
          refine zg_bipush X 50 dX11_undo_36 (by decide) (fun v17 _ hv17 => ?_)
          replace E := zLet_s (zcst hv17 (by decide)) E
          refine zg_aload_n X 1 rfl dX11_undo_38 ?_
          refine fg_X11_258 X hI ha0 dX11_undo_39 (fun v18 ev18 hv18 => ?_)
          replace E := zLet_s ev18 E
          have kv18 : (τ11.1 a0 57).toInt = v18.toInt := by rw [ev18]
          refine zg_imulc X 50 dX11_undo_42 (by omega) (by omega) (by omega) (fun v19 ev19 hv19 => ?_)
          replace E := zLet_s ev19 E
          refine zg_iload_n X 0 rfl dX11_undo_43 ?_
          refine zg_iadd X dX11_undo_44 (by omega) (by omega) (fun v20 ev20 hv20 => ?_)
          replace E := zLet_s ev20 E
          refine ag_158 X hI hv16 (by omega) (by omega) dX11_undo_45 (fun v21 ev21 _ => ?_)
          replace E := zLet_s ev21 E
          have qv21 := zp_ld ev16 ev21
          rw [A58_Lp11] at qv21
          refine as_148 X hI hv15 (by omega) (by omega) dX11_undo_46 (fun s22 es22 hI => ?_)
          replace E := zLet_s es22 E
          have g23 := (zSame.rf (o := a0) (Wf := []) (Wa := [148]) (L := L) (kd := kd) (σ := τ11)).a ha0 hv15 es22 rfl (by decide)
          have rs22 := zp_st (σ := τ11) (σ2 := s22) (i := x10) (x := v21) ev15 es22 (by omega)
          have ws22 := rs22
          have fs22_57 : (s22.1 a0 57).toInt = (τ11.1 a0 57).toInt := by rw [g23.2.1 57 (by decide)]
          have hS := hS.tr g23 (by decide) (by decide)
          have Ms22 := (zM_same hI ha0 g23 (by decide)).trans M_Lp11
          have as22_58 := (zp_same hI ha0 g23 58 rfl (by decide) (by decide)).trans A58_Lp11
          have gEs22 := gE.same hI ha0 g23 (by decide) gE_Lp11
          have gLs22 := gL.same hI ha0 g23 (by decide) gL_Lp11
          refine zg_iinc X 1 (fun v25 => [(1, .int v25), (0, .ref a0)]) 0 dX11_undo_47 rfl (by decide) (by decide) (by omega) (by omega) (fun _ => rfl) (fun v25 ev25 hv25 => ?_)
          replace E := zLet_s (zinc ev25 (by decide)) E
          refine zg_goto X 21 dX11_undo_50 (by decide) ?_
          refine zg_sub [0, 1] rfl ?_
          exact ihLp11 _ v25 hI hS gEs22 gLs22 Ms22 as22_58 E  (by omega) (by omega) (fun j h0 h1 => by rw [ws22 j h0]; split <;> rename_i hj <;> first | (rw [qv21]; congr 1; omega) | exact hc j h0 (by omega))
    refine zg_sub [0, 1] rfl ?_
    exact Lp11 10000 _ v9 hI hS gEs6 gLs6 Ms6 as6_58 E  (by omega) (by omega) (fun j h0 h1 => absurd h1 (by omega))
  · skip
    replace E := zIf_t c2 E
    refine zg_iconst X 0 dX11_undo_7 (by decide) (fun v26 _ hv26 => ?_)
    replace E := zLet_s (zcst hv26 (by decide)) E
    exact ret _ _ _ _ dX11_undo_8 (zb_bool ⟨by omega, by omega⟩) ⟨E.symm.trans hR, ⟨⟨⟨by omega, by omega⟩, (by first | exact hgN | (unfold gN; rw [rfl]; exact gRow.congr zm.2 (hgH _ (by omega) (by omega)) (fun j h1 h2 => hc j (by omega) (by omega)))), (by first | exact hgH | (unfold gH; rw [rfl, rfl]; exact fun i h0 h1 => hgH i h0 (by omega))), hgE, hgL⟩, hI, hS⟩⟩
set_option maxHeartbeats 4000000 in
set_option maxRecDepth 100000 in
theorem t_X11_agree (l : Launch) (d : zD2) (L : List Nat) (kd : Nat → Nat) (κ : Int) (σ : zS) (hI : zJ κ L kd σ) (a0 : Nat) (ha0 : zT L kd a0 11) (p1 : Int32) (hgN : gN a0 σ) (hgH : gH a0 σ) (hgE : gE a0 σ) (hgL : gL a0 σ) : zMi l yX11_agree (Cond.code yX11_agree cX11_agree 5 (some .int) :: zWL) 6 [.ref a0, .int p1] d L kd σ (fun v σ2 => (v, σ2) = F_X11_agree a0 p1 σ ∧ (((gN a0 σ2) ∧ (gH a0 σ2) ∧ (gE a0 σ2) ∧ (gL a0 σ2)) ∧ zJ κ L kd σ2 ∧ zSame a0 [47, 50, 51, 56] [145, 146, 149, 152, 153, 154, 155] L kd σ σ2)) := by
  refine zMi.of (own := RX11) (by decide +kernel) rfl rfl (Nat.le_of_ble_eq_true rfl) ?_
  intro p e s m args below meth c A Q X ret
  have hS : zSame a0 [47, 50, 51, 56] [145, 146, 149, 152, 153, 154, 155] L kd σ σ := zSame.rf
  refine zg_lv (lv2 := [(0, .ref a0), (1, .int p1)]) rfl ?_
  obtain ⟨R, hR⟩ : ∃ R, R = F_X11_agree a0 p1 σ := ⟨_, rfl⟩
  have E := hR
  unfold F_X11_agree at E
  refine zg_iload_n X 1 rfl dX11_agree_0 ?_
  refine zg_cSi (As := [.int p1]) (st := []) X (t_X11_isSome l d L kd _ p1 ) mk_X11_408 mc_X11_isSome mz_X11 ms_X11_isSome (na := 1) ⟨md_X11.1, md_X11.2, by decide +kernel⟩ rfl ⟨by decide, by decide⟩ (Nat.le_of_ble_eq_true rfl) dX11_agree_1 (fun v1 σ2 hq => ?_)
  obtain ⟨⟨hF, hv1⟩, rfl⟩ := hq
  replace E := zLet_s hF E
  refine zg_if_ne X 9 dX11_agree_4 (by decide) (fun c2 => ?_) (fun c2 => ?_)
  · skip
    replace E := zIf_f c2 E
    refine zg_aload_n X 0 rfl dX11_agree_9 ?_
    refine zg_cVv (As := []) (st := []) X ha0 rfl (by decide) rfl (t_X11_copiesStill l d L kd κ _ hI a0 ha0    hgN hgL) mk_X11_411 mc_X11_copiesStill mz_X11 mi_X11_copiesStill ml_X11_copiesStill (na := 0) ⟨md_X11.1, md_X11.2, by decide +kernel⟩ rfl ⟨by decide, by decide⟩ (Nat.le_of_ble_eq_true rfl) dX11_agree_10 (fun t3 hq => ?_)
    obtain ⟨hF, ⟨gRt3, gBt3⟩, hI, g4⟩ := hq
    replace E := zLet_s hF E
    have hS := hS.tr g4 (by decide) (by decide)
    have gNt3 := gN.same hI ha0 g4 (by decide) hgN
    have gHt3 := gH.same hI ha0 g4 (by decide) hgH
    have gEt3 := gE.same hI ha0 g4 (by decide) hgE
    have gLt3 := gL.same hI ha0 g4 (by decide) hgL
    refine zg_iconst X 0 dX11_agree_13 (by decide) (fun v5 _ hv5 => ?_)
    replace E := zLet_s (zcst hv5 (by decide)) E
    refine zg_istore_n X [(2, .int v5), (0, .ref a0), (1, .int p1)] dX11_agree_14 (by decide) rfl ?_
    refine zg_iconst X 0 dX11_agree_15 (by decide) (fun v6 _ hv6 => ?_)
    replace E := zLet_s (zcst hv6 (by decide)) E
    refine zg_istore_n X [(3, .int v6), (2, .int v5), (0, .ref a0), (1, .int p1)] dX11_agree_16 (by decide) rfl ?_
    have Lp9 : ∀ (nLp9 : Nat) (τ9 : zS) (x7 : Int32) (x8 : Int32), zJ κ L kd τ9 → zSame a0 [47, 50, 51, 56] [145, 146, 149, 152, 153, 154, 155] L kd σ τ9 → gE a0 τ9 → gH a0 τ9 → gL a0 τ9 → gN a0 τ9 → gR a0 τ9 → R = F_X11_agree_17 a0 p1  nLp9 x7 x8 τ9 → 0 ≤ x7.toInt ∧ x7.toInt ≤ 2147483647 → (2147483647) - x7.toInt + 1 < (nLp9 : Int) → zG d L kd A 5 p l e (k2_rm 6 (100 * 6)) s m args below meth c Q τ9 17 [(3, .int x7), (2, .int x8), (0, .ref a0), (1, .int p1)] [] := by
      intro nLp9
      induction nLp9 with
      | zero => intro τ9 x7 x8 hI hS gE_Lp9 gH_Lp9 gL_Lp9 gN_Lp9 gR_Lp9 E  hxLp9 hm ; exact absurd hm (by omega)
      | succ nLp9 ihLp9 =>
        intro τ9 x7 x8 hI hS gE_Lp9 gH_Lp9 gL_Lp9 gN_Lp9 gR_Lp9 E  hxLp9 hmLp9 
        rw [F_X11_agree_17] at E
        refine zg_iload_n X 0 rfl dX11_agree_17 ?_
        refine zg_iload_n X 3 rfl dX11_agree_18 ?_
        have zx7_z10 := zb_rng x7
        have zp1_z11 := zb_rng p1
        refine zg_icmp_ge X 67 dX11_agree_19 (by decide) (fun c12 => ?_) (fun c12 => ?_)
        · skip
          replace E := zIf_f (Int.not_lt.mpr c12) E
          refine zg_iload_n X 1 rfl dX11_agree_67 ?_
          exact ret _ _ _ _ dX11_agree_68 rfl ⟨E.symm.trans hR, ⟨⟨gN_Lp9, gH_Lp9, gE_Lp9, gL_Lp9⟩, hI, hS⟩⟩
        · skip
          replace E := zIf_t c12 E
          refine zg_aload_n X 2 rfl dX11_agree_22 ?_
          refine zg_iconst X 0 dX11_agree_23 (by decide) (fun v13 _ hv13 => ?_)
          replace E := zLet_s (zcst hv13 (by decide)) E
          refine zg_cVi (As := [.int v13]) (st := []) X ha0 rfl (by decide) rfl (t_X11_winnerBy l d L kd κ _ hI a0 ha0 v13  (by omega) gL_Lp9) mk_X11_374 mc_X11_winnerBy mz_X11 mi_X11_winnerBy ml_X11_winnerBy (na := 1) ⟨md_X11.1, md_X11.2, by decide +kernel⟩ rfl ⟨by decide, by decide⟩ (Nat.le_of_ble_eq_true rfl) dX11_agree_24 (fun v15 t14 hq => ?_)
          obtain ⟨hF, ⟨ht14_res, ht14_fact0, ht14_fact1⟩, hI, g16⟩ := hq
          replace E := zLet2_s hF E
          have hS := hS.tr g16 (by decide) (by decide)
          have gEt14 := gE.same hI ha0 g16 (by decide) gE_Lp9
          have gHt14 := gH.same hI ha0 g16 (by decide) gH_Lp9
          have gLt14 := gL.same hI ha0 g16 (by decide) gL_Lp9
          have gNt14 := gN.same hI ha0 g16 (by decide) gN_Lp9
          have gRt14 := gR.same hI ha0 g16 (by decide) gR_Lp9
          refine zg_istore X [(4, .int v15), (3, .int x7), (2, .int x8), (0, .ref a0), (1, .int p1)] dX11_agree_27 (by decide) rfl ?_
          refine zg_iload X 0 rfl dX11_agree_29 ?_
          refine zg_if_lt X 57 dX11_agree_31 (by decide) (fun c17 => ?_) (fun c17 => ?_)
          · skip
            replace E := zIf_t c17 E
            refine zg_aload_n X 3 rfl dX11_agree_57 ?_
            refine zg_cVv (As := []) (st := []) X ha0 rfl (by decide) rfl (t_X11_monthGoes l d L kd κ _ hI a0 ha0    gRt14 gLt14) mk_X11_380 mc_X11_monthGoes mz_X11 mi_X11_monthGoes ml_X11_monthGoes (na := 0) ⟨md_X11.1, md_X11.2, by decide +kernel⟩ rfl ⟨by decide, by decide⟩ (Nat.le_of_ble_eq_true rfl) dX11_agree_58 (fun t18 hq => ?_)
            obtain ⟨hF, gRt18, hI, g19⟩ := hq
            replace E := zLet_s hF E
            have hS := hS.tr g19 (by decide) (by decide)
            have gEt18 := gE.same hI ha0 g19 (by decide) gEt14
            have gHt18 := gH.same hI ha0 g19 (by decide) gHt14
            have gLt18 := gL.same hI ha0 g19 (by decide) gLt14
            have gNt18 := gN.same hI ha0 g19 (by decide) gNt14
            refine zg_iinc X 1 (fun v20 => [(3, .int v20), (4, .int v15), (2, .int x8), (0, .ref a0), (1, .int p1)]) 1 dX11_agree_61 rfl (by decide) (by decide) (by omega) (by omega) (fun _ => rfl) (fun v20 ev20 hv20 => ?_)
            replace E := zLet_s (zinc ev20 (by decide)) E
            refine zg_goto X 17 dX11_agree_64 (by decide) ?_
            refine zg_sub [0, 2, 3, 4] rfl ?_
            exact ihLp9 _ v20 x8 hI hS gEt18 gHt18 gLt18 gNt18 gRt18 E  (by omega) (by omega) 
          · skip
            replace E := zIf_f (Int.not_lt.mpr c17) E
            refine zg_aload_n X 3 rfl dX11_agree_34 ?_
            refine zg_iconst X 1 dX11_agree_35 (by decide) (fun v21 _ hv21 => ?_)
            replace E := zLet_s (zcst hv21 (by decide)) E
            refine zg_cVi (As := [.int v21]) (st := []) X ha0 rfl (by decide) rfl (t_X11_winnerBy l d L kd κ _ hI a0 ha0 v21  (by omega) gLt14) mk_X11_374 mc_X11_winnerBy mz_X11 mi_X11_winnerBy ml_X11_winnerBy (na := 1) ⟨md_X11.1, md_X11.2, by decide +kernel⟩ rfl ⟨by decide, by decide⟩ (Nat.le_of_ble_eq_true rfl) dX11_agree_36 (fun v23 t22 hq => ?_)
            obtain ⟨hF, ⟨ht22_res, ht22_fact0, ht22_fact1⟩, hI, g24⟩ := hq
            replace E := zLet2_s hF E
            have hS := hS.tr g24 (by decide) (by decide)
            have gEt22 := gE.same hI ha0 g24 (by decide) gEt14
            have gHt22 := gH.same hI ha0 g24 (by decide) gHt14
            have gLt22 := gL.same hI ha0 g24 (by decide) gLt14
            have gNt22 := gN.same hI ha0 g24 (by decide) gNt14
            have gRt22 := gR.same hI ha0 g24 (by decide) gRt14
            refine zg_iload X 0 rfl dX11_agree_39 ?_
            refine zg_icmp_ne X 57 dX11_agree_41 (by decide) (fun c25 => ?_) (fun c25 => ?_)
            · skip
              replace E := zIf_f c25 E
              refine zg_aload_n X 3 rfl dX11_agree_57 ?_
              refine zg_cVv (As := []) (st := []) X ha0 rfl (by decide) rfl (t_X11_monthGoes l d L kd κ _ hI a0 ha0    gRt22 gLt22) mk_X11_380 mc_X11_monthGoes mz_X11 mi_X11_monthGoes ml_X11_monthGoes (na := 0) ⟨md_X11.1, md_X11.2, by decide +kernel⟩ rfl ⟨by decide, by decide⟩ (Nat.le_of_ble_eq_true rfl) dX11_agree_58 (fun t26 hq => ?_)
              obtain ⟨hF, gRt26, hI, g27⟩ := hq
              replace E := zLet_s hF E
              have hS := hS.tr g27 (by decide) (by decide)
              have gEt26 := gE.same hI ha0 g27 (by decide) gEt22
              have gHt26 := gH.same hI ha0 g27 (by decide) gHt22
              have gLt26 := gL.same hI ha0 g27 (by decide) gLt22
              have gNt26 := gN.same hI ha0 g27 (by decide) gNt22
              refine zg_iinc X 1 (fun v28 => [(3, .int v28), (4, .int v15), (2, .int x8), (0, .ref a0), (1, .int p1)]) 1 dX11_agree_61 rfl (by decide) (by decide) (by omega) (by omega) (fun _ => rfl) (fun v28 ev28 hv28 => ?_)
              replace E := zLet_s (zinc ev28 (by decide)) E
              refine zg_goto X 17 dX11_agree_64 (by decide) ?_
              refine zg_sub [0, 2, 3, 4] rfl ?_
              exact ihLp9 _ v28 x8 hI hS gEt26 gHt26 gLt26 gNt26 gRt26 E  (by omega) (by omega) 
            · skip
              replace E := zIf_t c25 E
              refine zg_aload_n X 3 rfl dX11_agree_44 ?_
              refine zg_iconst X 2 dX11_agree_45 (by decide) (fun v29 _ hv29 => ?_)
              replace E := zLet_s (zcst hv29 (by decide)) E
              refine zg_cVi (As := [.int v29]) (st := []) X ha0 rfl (by decide) rfl (t_X11_winnerBy l d L kd κ _ hI a0 ha0 v29  (by omega) gLt22) mk_X11_374 mc_X11_winnerBy mz_X11 mi_X11_winnerBy ml_X11_winnerBy (na := 1) ⟨md_X11.1, md_X11.2, by decide +kernel⟩ rfl ⟨by decide, by decide⟩ (Nat.le_of_ble_eq_true rfl) dX11_agree_46 (fun v31 t30 hq => ?_)
              obtain ⟨hF, ⟨ht30_res, ht30_fact0, ht30_fact1⟩, hI, g32⟩ := hq
              replace E := zLet2_s hF E
              have hS := hS.tr g32 (by decide) (by decide)
              have gEt30 := gE.same hI ha0 g32 (by decide) gEt22
              have gHt30 := gH.same hI ha0 g32 (by decide) gHt22
              have gLt30 := gL.same hI ha0 g32 (by decide) gLt22
              have gNt30 := gN.same hI ha0 g32 (by decide) gNt22
              have gRt30 := gR.same hI ha0 g32 (by decide) gRt22
              refine zg_iload X 0 rfl dX11_agree_49 ?_
              refine zg_icmp_ne X 57 dX11_agree_51 (by decide) (fun c33 => ?_) (fun c33 => ?_)
              · skip
                replace E := zIf_f c33 E
                refine zg_aload_n X 3 rfl dX11_agree_57 ?_
                refine zg_cVv (As := []) (st := []) X ha0 rfl (by decide) rfl (t_X11_monthGoes l d L kd κ _ hI a0 ha0    gRt30 gLt30) mk_X11_380 mc_X11_monthGoes mz_X11 mi_X11_monthGoes ml_X11_monthGoes (na := 0) ⟨md_X11.1, md_X11.2, by decide +kernel⟩ rfl ⟨by decide, by decide⟩ (Nat.le_of_ble_eq_true rfl) dX11_agree_58 (fun t34 hq => ?_)
                obtain ⟨hF, gRt34, hI, g35⟩ := hq
                replace E := zLet_s hF E
                have hS := hS.tr g35 (by decide) (by decide)
                have gEt34 := gE.same hI ha0 g35 (by decide) gEt30
                have gHt34 := gH.same hI ha0 g35 (by decide) gHt30
                have gLt34 := gL.same hI ha0 g35 (by decide) gLt30
                have gNt34 := gN.same hI ha0 g35 (by decide) gNt30
                refine zg_iinc X 1 (fun v36 => [(3, .int v36), (4, .int v15), (2, .int x8), (0, .ref a0), (1, .int p1)]) 1 dX11_agree_61 rfl (by decide) (by decide) (by omega) (by omega) (fun _ => rfl) (fun v36 ev36 hv36 => ?_)
                replace E := zLet_s (zinc ev36 (by decide)) E
                refine zg_goto X 17 dX11_agree_64 (by decide) ?_
                refine zg_sub [0, 2, 3, 4] rfl ?_
                exact ihLp9 _ v36 x8 hI hS gEt34 gHt34 gLt34 gNt34 gRt34 E  (by omega) (by omega) 
              · skip
                replace E := zIf_t c33 E
                refine zg_iincW X (fun v37 => [(2, .int v37), (4, .int v15), (3, .int x7), (0, .ref a0), (1, .int p1)]) 2 dX11_agree_54 rfl (by decide) (fun _ => rfl) (fun v37 ev37 => ?_)
                replace E := zLet_s (zinc ev37 (by decide)) E
                refine zg_aload_n X 3 rfl dX11_agree_57 ?_
                refine zg_cVv (As := []) (st := []) X ha0 rfl (by decide) rfl (t_X11_monthGoes l d L kd κ _ hI a0 ha0    gRt30 gLt30) mk_X11_380 mc_X11_monthGoes mz_X11 mi_X11_monthGoes ml_X11_monthGoes (na := 0) ⟨md_X11.1, md_X11.2, by decide +kernel⟩ rfl ⟨by decide, by decide⟩ (Nat.le_of_ble_eq_true rfl) dX11_agree_58 (fun t38 hq => ?_)
                obtain ⟨hF, gRt38, hI, g39⟩ := hq
                replace E := zLet_s hF E
                have hS := hS.tr g39 (by decide) (by decide)
                have gEt38 := gE.same hI ha0 g39 (by decide) gEt30
                have gHt38 := gH.same hI ha0 g39 (by decide) gHt30
                have gLt38 := gL.same hI ha0 g39 (by decide) gLt30
                have gNt38 := gN.same hI ha0 g39 (by decide) gNt30
                refine zg_iinc X 1 (fun v40 => [(3, .int v40), (2, .int v37), (4, .int v15), (0, .ref a0), (1, .int p1)]) 2 dX11_agree_61 rfl (by decide) (by decide) (by omega) (by omega) (fun _ => rfl) (fun v40 ev40 hv40 => ?_)
                replace E := zLet_s (zinc ev40 (by decide)) E
                refine zg_goto X 17 dX11_agree_64 (by decide) ?_
                refine zg_sub [0, 1, 3, 4] rfl ?_
                exact ihLp9 _ v40 v37 hI hS gEt38 gHt38 gLt38 gNt38 gRt38 E  (by omega) (by omega) 
    have zrLp9 := zb_rng v6
    refine zg_sub [0, 1, 2, 3] rfl ?_
    exact Lp9 4294967299 _ v6 v5 hI hS gEt3 gHt3 gLt3 gNt3 gRt3 E  (by omega) (by omega) 
  · skip
    replace E := zIf_t c2 E
    refine zg_iconst X (-1) dX11_agree_7 (by decide) (fun v41 _ hv41 => ?_)
    replace E := zLet_s (zcst hv41 (by decide)) E
    exact ret _ _ _ _ dX11_agree_8 rfl ⟨E.symm.trans hR, ⟨⟨hgN, hgH, hgE, hgL⟩, hI, hS⟩⟩
set_option maxHeartbeats 4000000 in
set_option maxRecDepth 100000 in
theorem t_X11_behind (l : Launch) (d : zD2) (L : List Nat) (kd : Nat → Nat) (κ : Int) (σ : zS) (hI : zJ κ L kd σ) (a0 : Nat) (ha0 : zT L kd a0 11) (p1 : Int32) (p2 : Int32) (hgN : gN a0 σ) (hgH : gH a0 σ) (hgE : gE a0 σ) (hgL : gL a0 σ) : zMi l yX11_behind (Cond.code yX11_behind cX11_behind 3 (some .int) :: zWL) 6 [.ref a0, .int p1, .int p2] d L kd σ (fun v σ2 => (v, σ2) = F_X11_behind a0 p1 p2 σ ∧ (((gN a0 σ2) ∧ (gH a0 σ2) ∧ (gE a0 σ2) ∧ (gL a0 σ2)) ∧ zJ κ L kd σ2 ∧ zSame a0 [47, 50, 51] [145, 146, 149, 152, 153, 154, 155] L kd σ σ2)) := by
  refine zMi.of (own := RX11) (by decide +kernel) rfl rfl (Nat.le_of_ble_eq_true rfl) ?_
  intro p e s m args below meth c A Q X ret
  have hS : zSame a0 [47, 50, 51] [145, 146, 149, 152, 153, 154, 155] L kd σ σ := zSame.rf
  refine zg_lv (lv2 := [(0, .ref a0), (1, .int p1), (2, .int p2)]) rfl ?_
  have zm := zM_in hI ha0
  obtain ⟨R, hR⟩ : ∃ R, R = F_X11_behind a0 p1 p2 σ := ⟨_, rfl⟩
  have E := hR
  unfold F_X11_behind at E
  refine zg_aload_n X 0 rfl dX11_behind_0 ?_
  refine zg_iload_n X 1 rfl dX11_behind_1 ?_
  refine zg_iload_n X 2 rfl dX11_behind_2 ?_
  refine zg_cVi (As := [.int p1, .int p2]) (st := []) X ha0 rfl (by decide) rfl (t_X11_isClaim l d L kd κ _ hI a0 ha0 p1 p2   hgN hgL) mk_X11_389 mc_X11_isClaim mz_X11 mi_X11_isClaim ml_X11_isClaim (na := 2) ⟨md_X11.1, md_X11.2, by decide +kernel⟩ rfl ⟨by decide, by decide⟩ (Nat.le_of_ble_eq_true rfl) dX11_behind_3 (fun v2 t1 hq => ?_)
  obtain ⟨hF, ⟨ht1_res, ht1_fact0, ht1_fact1, gRt1, gBt1⟩, hI, g3⟩ := hq
  replace E := zLet2_s hF E
  have hS := hS.tr g3 (by decide) (by decide)
  have Mt1 := zM_same hI ha0 g3 (by decide)
  have gNt1 := gN.same hI ha0 g3 (by decide) hgN
  have gHt1 := gH.same hI ha0 g3 (by decide) hgH
  have gEt1 := gE.same hI ha0 g3 (by decide) hgE
  have gLt1 := gL.same hI ha0 g3 (by decide) hgL
  have zsrc := ht1_fact1
  refine zg_if_ne X 11 dX11_behind_6 (by decide) (fun c4 => ?_) (fun c4 => ?_)
  · skip
    replace E := zIf_f c4 E
    refine zg_aload_n X 0 rfl dX11_behind_11 ?_
    refine zg_aload_n X 0 rfl dX11_behind_12 ?_
    refine zg_iload_n X 2 rfl dX11_behind_13 ?_
    refine zg_cVi (As := [.int p2]) (st := [.ref a0]) X ha0 rfl (by decide) rfl (t_X11_winnerBy l d L kd κ _ hI a0 ha0 p2  (by omega) gLt1) mk_X11_374 mc_X11_winnerBy mz_X11 mi_X11_winnerBy ml_X11_winnerBy (na := 1) ⟨md_X11.1, md_X11.2, by decide +kernel⟩ rfl ⟨by decide, by decide⟩ (Nat.le_of_ble_eq_true rfl) dX11_behind_14 (fun v6 t5 hq => ?_)
    obtain ⟨hF, ⟨ht5_res, ht5_fact0, ht5_fact1⟩, hI, g7⟩ := hq
    replace E := zLet2_s hF E
    have hS := hS.tr g7 (by decide) (by decide)
    have Mt5 := (zM_same hI ha0 g7 (by decide)).trans Mt1
    have gNt5 := gN.same hI ha0 g7 (by decide) gNt1
    have gHt5 := gH.same hI ha0 g7 (by decide) gHt1
    have gEt5 := gE.same hI ha0 g7 (by decide) gEt1
    have gLt5 := gL.same hI ha0 g7 (by decide) gLt1
    have gRt5 := gR.same hI ha0 g7 (by decide) gRt1
    have gBt5 := gB.same hI ha0 g7 (by decide) gBt1
    have zw : 0 ≤ v6.toInt := by
      rcases Int.lt_or_le v6.toInt 0 with z | z
      · exact absurd (zsrc (by omega)) (ht5_fact1 z _)
      · exact z
    refine zg_iload_n X 2 rfl dX11_behind_17 ?_
    refine zg_cVi (As := [.int v6, .int p2]) (st := []) X ha0 rfl (by decide) rfl (t_X11_claimOf l d L kd κ _ hI a0 ha0 v6 p2  (by omega) (by omega) gLt5) mk_X11_367 mc_X11_claimOf mz_X11 mi_X11_claimOf ml_X11_claimOf (na := 2) ⟨md_X11.1, md_X11.2, by decide +kernel⟩ rfl ⟨by decide, by decide⟩ (Nat.le_of_ble_eq_true rfl) dX11_behind_18 (fun v9 t8 hq => ?_)
    obtain ⟨hF, hI, g10⟩ := hq
    replace E := zLet2_s hF E
    have hS := hS.tr g10 (by decide) (by decide)
    have Mt8 := (zM_same hI ha0 g10 (by decide)).trans Mt5
    have gNt8 := gN.same hI ha0 g10 (by decide) gNt5
    have gHt8 := gH.same hI ha0 g10 (by decide) gHt5
    have gEt8 := gE.same hI ha0 g10 (by decide) gEt5
    have gLt8 := gL.same hI ha0 g10 (by decide) gLt5
    have gRt8 := gR.same hI ha0 g10 (by decide) gRt5
    have gBt8 := gB.same hI ha0 g10 (by decide) gBt5
    refine zg_aload_n X 0 rfl dX11_behind_21 ?_
    refine zg_iload_n X 1 rfl dX11_behind_22 ?_
    refine zg_iload_n X 2 rfl dX11_behind_23 ?_
    refine zg_cVi (As := [.int p1, .int p2]) (st := [.int v9]) X ha0 rfl (by decide) rfl (t_X11_claimOf l d L kd κ _ hI a0 ha0 p1 p2  (by omega) (by omega) gLt8) mk_X11_367 mc_X11_claimOf mz_X11 mi_X11_claimOf ml_X11_claimOf (na := 2) ⟨md_X11.1, md_X11.2, by decide +kernel⟩ rfl ⟨by decide, by decide⟩ (Nat.le_of_ble_eq_true rfl) dX11_behind_24 (fun v12 t11 hq => ?_)
    obtain ⟨hF, hI, g13⟩ := hq
    replace E := zLet2_s hF E
    have hS := hS.tr g13 (by decide) (by decide)
    have Mt11 := (zM_same hI ha0 g13 (by decide)).trans Mt8
    have gNt11 := gN.same hI ha0 g13 (by decide) gNt8
    have gHt11 := gH.same hI ha0 g13 (by decide) gHt8
    have gEt11 := gE.same hI ha0 g13 (by decide) gEt8
    have gLt11 := gL.same hI ha0 g13 (by decide) gLt8
    have gRt11 := gR.same hI ha0 g13 (by decide) gRt8
    have gBt11 := gB.same hI ha0 g13 (by decide) gBt8
    refine zg_isubW X dX11_behind_27 (fun v14 ev14 => ?_)
    replace E := zLet_s ev14 E
    exact ret _ _ _ _ dX11_behind_28 rfl ⟨E.symm.trans hR, ⟨⟨gNt11, gHt11, gEt11, gLt11⟩, hI, hS⟩⟩
  · skip
    replace E := zIf_t c4 E
    refine zg_iconst X (-1) dX11_behind_9 (by decide) (fun v15 _ hv15 => ?_)
    replace E := zLet_s (zcst hv15 (by decide)) E
    exact ret _ _ _ _ dX11_behind_10 rfl ⟨E.symm.trans hR, ⟨⟨gNt1, gHt1, gEt1, gLt1⟩, hI, hS⟩⟩
set_option maxHeartbeats 4000000 in
set_option maxRecDepth 100000 in
theorem t_X11_margin (l : Launch) (d : zD2) (L : List Nat) (kd : Nat → Nat) (κ : Int) (σ : zS) (hI : zJ κ L kd σ) (a0 : Nat) (ha0 : zT L kd a0 11) (p1 : Int32) (hgN : gN a0 σ) (hgH : gH a0 σ) (hgE : gE a0 σ) (hgL : gL a0 σ) : zMi l yX11_margin (Cond.code yX11_margin cX11_margin 5 (some .int) :: zWL) 5 [.ref a0, .int p1] d L kd σ (fun v σ2 => (v, σ2) = F_X11_margin a0 p1 σ ∧ (((gN a0 σ2) ∧ (gH a0 σ2) ∧ (gE a0 σ2) ∧ (gL a0 σ2)) ∧ zJ κ L kd σ2 ∧ zSame a0 [47, 50, 51] [145, 146, 149, 152, 153, 154, 155] L kd σ σ2)) := by
  refine zMi.of (own := RX11) (by decide +kernel) rfl rfl (Nat.le_of_ble_eq_true rfl) ?_
  intro p e s m args below meth c A Q X ret
  have hS : zSame a0 [47, 50, 51] [145, 146, 149, 152, 153, 154, 155] L kd σ σ := zSame.rf
  refine zg_lv (lv2 := [(0, .ref a0), (1, .int p1)]) rfl ?_
  have zm := zM_in hI ha0
  obtain ⟨R, hR⟩ : ∃ R, R = F_X11_margin a0 p1 σ := ⟨_, rfl⟩
  have E := hR
  unfold F_X11_margin at E
  refine zg_iload_n X 1 rfl dX11_margin_0 ?_
  refine zg_cSi (As := [.int p1]) (st := []) X (t_X11_isLaw l d L kd _ p1 ) mk_X11_386 mc_X11_isLaw mz_X11 ms_X11_isLaw (na := 1) ⟨md_X11.1, md_X11.2, by decide +kernel⟩ rfl ⟨by decide, by decide⟩ (Nat.le_of_ble_eq_true rfl) dX11_margin_1 (fun v1 σ2 hq => ?_)
  obtain ⟨⟨hF, hv1⟩, rfl⟩ := hq
  replace E := zLet_s hF E
  refine zg_if_ne X 9 dX11_margin_4 (by decide) (fun c2 => ?_) (fun c2 => ?_)
  · skip
    replace E := zIf_f c2 E
    refine zg_aload_n X 0 rfl dX11_margin_9 ?_
    refine zg_cVv (As := []) (st := []) X ha0 rfl (by decide) rfl (t_X11_copies l d L kd κ _ hI a0 ha0    hgN hgL) mk_X11_332 mc_X11_copies mz_X11 mi_X11_copies ml_X11_copies (na := 0) ⟨md_X11.1, md_X11.2, by decide +kernel⟩ rfl ⟨by decide, by decide⟩ (Nat.le_of_ble_eq_true rfl) dX11_margin_10 (fun t3 hq => ?_)
    obtain ⟨hF, ⟨ht3_fact0, gRt3, gBt3⟩, hI, g4⟩ := hq
    replace E := zLet_s hF E
    have hS := hS.tr g4 (by decide) (by decide)
    have Mt3 := zM_same hI ha0 g4 (by decide)
    have gNt3 := gN.same hI ha0 g4 (by decide) hgN
    have gHt3 := gH.same hI ha0 g4 (by decide) hgH
    have gEt3 := gE.same hI ha0 g4 (by decide) hgE
    have gLt3 := gL.same hI ha0 g4 (by decide) hgL
    have zm1 := Mt3
    refine zg_aload_n X 0 rfl dX11_margin_13 ?_
    refine zg_iload_n X 1 rfl dX11_margin_14 ?_
    refine zg_cVi (As := [.int p1]) (st := []) X ha0 rfl (by decide) rfl (t_X11_winnerBy l d L kd κ _ hI a0 ha0 p1  (by omega) gLt3) mk_X11_374 mc_X11_winnerBy mz_X11 mi_X11_winnerBy ml_X11_winnerBy (na := 1) ⟨md_X11.1, md_X11.2, by decide +kernel⟩ rfl ⟨by decide, by decide⟩ (Nat.le_of_ble_eq_true rfl) dX11_margin_15 (fun v6 t5 hq => ?_)
    obtain ⟨hF, ⟨ht5_res, ht5_fact0, ht5_fact1⟩, hI, g7⟩ := hq
    replace E := zLet2_s hF E
    have hS := hS.tr g7 (by decide) (by decide)
    have Mt5 := (zM_same hI ha0 g7 (by decide)).trans Mt3
    have at5_54 := zp_same hI ha0 g7 54 rfl (by decide) (by decide)
    have gNt5 := gN.same hI ha0 g7 (by decide) gNt3
    have gHt5 := gH.same hI ha0 g7 (by decide) gHt3
    have gEt5 := gE.same hI ha0 g7 (by decide) gEt3
    have gLt5 := gL.same hI ha0 g7 (by decide) gLt3
    have gRt5 := gR.same hI ha0 g7 (by decide) gRt3
    have gBt5 := gB.same hI ha0 g7 (by decide) gBt3
    have zwin := ht5_fact1
    refine zg_istore_n X [(2, .int v6), (0, .ref a0), (1, .int p1)] dX11_margin_18 (by decide) rfl ?_
    refine zg_bipush X (-2) dX11_margin_19 (by decide) (fun v8 _ hv8 => ?_)
    replace E := zLet_s (zcst hv8 (by decide)) E
    refine zg_istore_n X [(3, .int v8), (2, .int v6), (0, .ref a0), (1, .int p1)] dX11_margin_21 (by decide) rfl ?_
    refine zg_iconst X 1 dX11_margin_22 (by decide) (fun v9 _ hv9 => ?_)
    replace E := zLet_s (zcst hv9 (by decide)) E
    refine zg_istore X [(4, .int v9), (3, .int v8), (2, .int v6), (0, .ref a0), (1, .int p1)] dX11_margin_23 (by decide) rfl ?_
    have Lp12 : ∀ (nLp12 : Nat) (τ12 : zS) (x10 : Int32) (x11 : Int32), zJ κ L kd τ12 → zSame a0 [47, 50, 51] [145, 146, 149, 152, 153, 154, 155] L kd σ τ12 → gE a0 τ12 → gH a0 τ12 → gL a0 τ12 → gN a0 τ12 → zM a0 τ12 = zM a0 σ → zp a0 τ12 54 = zp a0 t3 54 → R = F_X11_margin_25 v6 a0 p1  nLp12 x10 x11 τ12 → 1 ≤ x10.toInt ∧ x10.toInt ≤ 12 ∧ (x11.toInt < 0 ∨ 0 ≤ v6.toInt) → (12) - x10.toInt + 1 < (nLp12 : Int) → zG d L kd A 5 p l e (k2_rm 5 (100 * 5)) s m args below meth c Q τ12 25 [(4, .int x10), (3, .int x11), (2, .int v6), (0, .ref a0), (1, .int p1)] [] := by
      intro nLp12
      induction nLp12 with
      | zero => intro τ12 x10 x11 hI hS gE_Lp12 gH_Lp12 gL_Lp12 gN_Lp12 M_Lp12 A54_Lp12 E  hxLp12 hm ; exact absurd hm (by omega)
      | succ nLp12 ihLp12 =>
        intro τ12 x10 x11 hI hS gE_Lp12 gH_Lp12 gL_Lp12 gN_Lp12 M_Lp12 A54_Lp12 E  hxLp12 hmLp12 
        rw [F_X11_margin_25] at E
        refine zg_iload X 0 rfl dX11_margin_25 ?_
        refine zg_aload_n X 3 rfl dX11_margin_27 ?_
        refine zg_cVi (As := []) (st := [.int x10]) X ha0 rfl (by decide) rfl (t_X11_many l d L kd κ _ hI a0 ha0   ) mk_X11_313 mc_X11_many mz_X11 mi_X11_many ml_X11_many (na := 0) ⟨md_X11.1, md_X11.2, by decide +kernel⟩ rfl ⟨by decide, by decide⟩ (Nat.le_of_ble_eq_true rfl) dX11_margin_28 (fun v14 t13 hq => ?_)
        obtain ⟨⟨hF, ⟨ht13_res, ht13_fact0⟩⟩, rfl⟩ := hq
        replace E := zLet_s hF E
        refine zg_icmp_ge X 74 dX11_margin_31 (by decide) (fun c15 => ?_) (fun c15 => ?_)
        · skip
          replace E := zIf_f (Int.not_lt.mpr c15) E
          refine zg_iload_n X 1 rfl dX11_margin_74 ?_
          refine zg_if_ge X 83 dX11_margin_75 (by decide) (fun c16 => ?_) (fun c16 => ?_)
          · skip
            replace E := zIf_f (Int.not_lt.mpr c16) E
            refine zg_aload_n X 3 rfl dX11_margin_83 ?_
            refine zg_iload_n X 2 rfl dX11_margin_84 ?_
            refine zg_iload_n X 4 rfl dX11_margin_85 ?_
            refine zg_cVi (As := [.int v6, .int p1]) (st := []) X ha0 rfl (by decide) rfl (t_X11_claimOf l d L kd κ _ hI a0 ha0 v6 p1  (by omega) (by omega) gL_Lp12) mk_X11_367 mc_X11_claimOf mz_X11 mi_X11_claimOf ml_X11_claimOf (na := 2) ⟨md_X11.1, md_X11.2, by decide +kernel⟩ rfl ⟨by decide, by decide⟩ (Nat.le_of_ble_eq_true rfl) dX11_margin_86 (fun v18 t17 hq => ?_)
            obtain ⟨hF, hI, g19⟩ := hq
            replace E := zLet2_s hF E
            have hS := hS.tr g19 (by decide) (by decide)
            have Mt17 := (zM_same hI ha0 g19 (by decide)).trans M_Lp12
            have gEt17 := gE.same hI ha0 g19 (by decide) gE_Lp12
            have gHt17 := gH.same hI ha0 g19 (by decide) gH_Lp12
            have gLt17 := gL.same hI ha0 g19 (by decide) gL_Lp12
            have gNt17 := gN.same hI ha0 g19 (by decide) gN_Lp12
            refine zg_iload_n X 1 rfl dX11_margin_89 ?_
            refine zg_isubW X dX11_margin_90 (fun v20 ev20 => ?_)
            replace E := zLet_s ev20 E
            exact ret _ _ _ _ dX11_margin_91 rfl ⟨E.symm.trans hR, ⟨⟨gNt17, gHt17, gEt17, gLt17⟩, hI, hS⟩⟩
          · skip
            replace E := zIf_t c16 E
            refine zg_bipush X (-2) dX11_margin_78 (by decide) (fun v21 _ hv21 => ?_)
            replace E := zLet_s (zcst hv21 (by decide)) E
            refine zg_goto X 91 dX11_margin_80 (by decide) ?_
            exact ret _ _ _ _ dX11_margin_91 rfl ⟨E.symm.trans hR, ⟨⟨gN_Lp12, gH_Lp12, gE_Lp12, gL_Lp12⟩, hI, hS⟩⟩
        · skip
          replace E := zIf_t c15 E
          refine zg_iload X 0 rfl dX11_margin_34 ?_
          refine zg_iload_n X 2 rfl dX11_margin_36 ?_
          refine zg_icmp_eq X 68 dX11_margin_37 (by decide) (fun c22 => ?_) (fun c22 => ?_)
          · skip
            replace E := zIf_t c22 E
            refine zg_iinc X 1 (fun v23 => [(4, .int v23), (3, .int x11), (2, .int v6), (0, .ref a0), (1, .int p1)]) 0 dX11_margin_68 rfl (by decide) (by decide) (by omega) (by omega) (fun _ => rfl) (fun v23 ev23 hv23 => ?_)
            replace E := zLet_s (zinc ev23 (by decide)) E
            refine zg_goto X 25 dX11_margin_71 (by decide) ?_
            refine zg_sub [0, 1, 2, 3, 4] rfl ?_
            exact ihLp12 _ v23 x11 hI hS gE_Lp12 gH_Lp12 gL_Lp12 gN_Lp12 M_Lp12 A54_Lp12 E  (by omega) (by omega) 
          · skip
            replace E := zIf_f c22 E
            refine zg_aload_n X 3 rfl dX11_margin_40 ?_
            refine zg_iload X 0 rfl dX11_margin_41 ?_
            refine zg_cVi (As := [.int x10]) (st := []) X ha0 rfl (by decide) rfl (t_X11_isSource l d L kd κ _ hI a0 ha0 x10  ) mk_X11_342 mc_X11_isSource mz_X11 mi_X11_isSource ml_X11_isSource (na := 1) ⟨md_X11.1, md_X11.2, by decide +kernel⟩ rfl ⟨by decide, by decide⟩ (Nat.le_of_ble_eq_true rfl) dX11_margin_43 (fun v25 t24 hq => ?_)
            obtain ⟨⟨hF, ⟨ht24_res, ht24_fact0, ht24_fact1, ht24_fact2⟩⟩, rfl⟩ := hq
            replace E := zLet_s hF E
            have zs : v25.toInt = 1 → 0 ≤ v6.toInt := fun h0 => by
              rcases Int.lt_or_le v6.toInt 0 with z | z
              · refine absurd (ht24_fact1 h0) (fun y => zwin z x10.toInt ?_)
                unfold zSrc at y ⊢
                rw [M_Lp12, A54_Lp12] at y
                rw [zm1]
                exact y
              · exact z
            refine zg_if_eq X 68 dX11_margin_46 (by decide) (fun c26 => ?_) (fun c26 => ?_)
            · skip
              replace E := zIf_t c26 E
              refine zg_iinc X 1 (fun v27 => [(4, .int v27), (3, .int x11), (2, .int v6), (0, .ref a0), (1, .int p1)]) 0 dX11_margin_68 rfl (by decide) (by decide) (by omega) (by omega) (fun _ => rfl) (fun v27 ev27 hv27 => ?_)
              replace E := zLet_s (zinc ev27 (by decide)) E
              refine zg_goto X 25 dX11_margin_71 (by decide) ?_
              refine zg_sub [0, 1, 2, 3, 4] rfl ?_
              exact ihLp12 _ v27 x11 hI hS gE_Lp12 gH_Lp12 gL_Lp12 gN_Lp12 M_Lp12 A54_Lp12 E  (by omega) (by omega) 
            · skip
              replace E := zIf_f c26 E
              refine zg_aload_n X 3 rfl dX11_margin_49 ?_
              refine zg_iload X 0 rfl dX11_margin_50 ?_
              refine zg_iload_n X 4 rfl dX11_margin_52 ?_
              refine zg_cVi (As := [.int x10, .int p1]) (st := []) X ha0 rfl (by decide) rfl (t_X11_claimOf l d L kd κ _ hI a0 ha0 x10 p1  (by omega) (by omega) gL_Lp12) mk_X11_367 mc_X11_claimOf mz_X11 mi_X11_claimOf ml_X11_claimOf (na := 2) ⟨md_X11.1, md_X11.2, by decide +kernel⟩ rfl ⟨by decide, by decide⟩ (Nat.le_of_ble_eq_true rfl) dX11_margin_53 (fun v29 t28 hq => ?_)
              obtain ⟨hF, hI, g30⟩ := hq
              replace E := zLet2_s hF E
              have hS := hS.tr g30 (by decide) (by decide)
              have Mt28 := (zM_same hI ha0 g30 (by decide)).trans M_Lp12
              have at28_54 := (zp_same hI ha0 g30 54 rfl (by decide) (by decide)).trans A54_Lp12
              have gEt28 := gE.same hI ha0 g30 (by decide) gE_Lp12
              have gHt28 := gH.same hI ha0 g30 (by decide) gH_Lp12
              have gLt28 := gL.same hI ha0 g30 (by decide) gL_Lp12
              have gNt28 := gN.same hI ha0 g30 (by decide) gN_Lp12
              refine zg_iload_n X 1 rfl dX11_margin_56 ?_
              have zv29_z31 := zb_rng v29
              have zx11_z32 := zb_rng x11
              refine zg_icmp_le X 68 dX11_margin_57 (by decide) (fun c33 => ?_) (fun c33 => ?_)
              · skip
                replace E := zIf_f (Int.not_lt.mpr c33) E
                refine zg_iinc X 1 (fun v34 => [(4, .int v34), (3, .int x11), (2, .int v6), (0, .ref a0), (1, .int p1)]) 0 dX11_margin_68 rfl (by decide) (by decide) (by omega) (by omega) (fun _ => rfl) (fun v34 ev34 hv34 => ?_)
                replace E := zLet_s (zinc ev34 (by decide)) E
                refine zg_goto X 25 dX11_margin_71 (by decide) ?_
                refine zg_sub [0, 1, 2, 3, 4] rfl ?_
                exact ihLp12 _ v34 x11 hI hS gEt28 gHt28 gLt28 gNt28 Mt28 at28_54 E  (by omega) (by omega) 
              · skip
                replace E := zIf_t c33 E
                refine zg_aload_n X 3 rfl dX11_margin_60 ?_
                refine zg_iload X 0 rfl dX11_margin_61 ?_
                refine zg_iload_n X 4 rfl dX11_margin_63 ?_
                refine zg_cVi (As := [.int x10, .int p1]) (st := []) X ha0 rfl (by decide) rfl (t_X11_claimOf l d L kd κ _ hI a0 ha0 x10 p1  (by omega) (by omega) gLt28) mk_X11_367 mc_X11_claimOf mz_X11 mi_X11_claimOf ml_X11_claimOf (na := 2) ⟨md_X11.1, md_X11.2, by decide +kernel⟩ rfl ⟨by decide, by decide⟩ (Nat.le_of_ble_eq_true rfl) dX11_margin_64 (fun v36 t35 hq => ?_)
                obtain ⟨hF, hI, g37⟩ := hq
                replace E := zLet2_s hF E
                have hS := hS.tr g37 (by decide) (by decide)
                have Mt35 := (zM_same hI ha0 g37 (by decide)).trans Mt28
                have at35_54 := (zp_same hI ha0 g37 54 rfl (by decide) (by decide)).trans at28_54
                have gEt35 := gE.same hI ha0 g37 (by decide) gEt28
                have gHt35 := gH.same hI ha0 g37 (by decide) gHt28
                have gLt35 := gL.same hI ha0 g37 (by decide) gLt28
                have gNt35 := gN.same hI ha0 g37 (by decide) gNt28
                refine zg_istore_n X [(3, .int v36), (4, .int x10), (2, .int v6), (0, .ref a0), (1, .int p1)] dX11_margin_67 (by decide) rfl ?_
                refine zg_iinc X 1 (fun v38 => [(4, .int v38), (3, .int v36), (2, .int v6), (0, .ref a0), (1, .int p1)]) 1 dX11_margin_68 rfl (by decide) (by decide) (by omega) (by omega) (fun _ => rfl) (fun v38 ev38 hv38 => ?_)
                replace E := zLet_s (zinc ev38 (by decide)) E
                refine zg_goto X 25 dX11_margin_71 (by decide) ?_
                refine zg_sub [0, 1, 2, 3, 4] rfl ?_
                exact ihLp12 _ v38 v36 hI hS gEt35 gHt35 gLt35 gNt35 Mt35 at35_54 E  (by omega) (by omega) 
    refine zg_sub [0, 1, 2, 3, 4] rfl ?_
    exact Lp12 10000 _ v9 v8 hI hS gEt5 gHt5 gLt5 gNt5 Mt5 at5_54 E  (by omega) (by omega) 
  · skip
    replace E := zIf_t c2 E
    refine zg_iconst X (-1) dX11_margin_7 (by decide) (fun v39 _ hv39 => ?_)
    replace E := zLet_s (zcst hv39 (by decide)) E
    exact ret _ _ _ _ dX11_margin_8 rfl ⟨E.symm.trans hR, ⟨⟨hgN, hgH, hgE, hgL⟩, hI, hS⟩⟩
set_option maxHeartbeats 4000000 in
set_option maxRecDepth 100000 in
theorem t_X11_richest (l : Launch) (d : zD2) (L : List Nat) (kd : Nat → Nat) (κ : Int) (σ : zS) (hI : zJ κ L kd σ) (a0 : Nat) (ha0 : zT L kd a0 11) (p1 : Int32) : zMi l yX11_richest (Cond.code yX11_richest cX11_richest 4 (some .int) :: zWL) 1 [.ref a0, .int p1] d L kd σ (fun v σ2 => v = F_X11_richest a0 p1 σ ∧ σ = σ2) := by
  refine zMi.of (own := RX11) (by decide +kernel) rfl rfl (Nat.le_of_ble_eq_true rfl) ?_
  intro p e s m args below meth c A Q X ret
  refine zg_lv (lv2 := [(0, .ref a0), (1, .int p1)]) rfl ?_
  obtain ⟨R, hR⟩ : ∃ R, R = F_X11_richest a0 p1 σ := ⟨_, rfl⟩
  have E := hR
  unfold F_X11_richest at E
  refine zg_iload_n X 1 rfl dX11_richest_0 ?_
  refine zg_iconst X 0 dX11_richest_1 (by decide) (fun v1 _ hv1 => ?_)
  replace E := zLet_s (zcst hv1 (by decide)) E
  refine zg_iconst X 1 dX11_richest_2 (by decide) (fun v2 _ hv2 => ?_)
  replace E := zLet_s (zcst hv2 (by decide)) E
  refine zg_cSi (As := [.int p1, .int v1, .int v2]) (st := []) X (t_X11_in l d L kd _ p1 v1 v2 ) mk_X11_316 mc_X11_in mz_X11 ms_X11_in (na := 3) ⟨md_X11.1, md_X11.2, by decide +kernel⟩ rfl ⟨by decide, by decide⟩ (Nat.le_of_ble_eq_true rfl) dX11_richest_3 (fun v3 σ2 hq => ?_)
  obtain ⟨⟨hF, hv3⟩, rfl⟩ := hq
  replace E := zLet_s hF E
  refine zg_if_ne X 11 dX11_richest_6 (by decide) (fun c4 => ?_) (fun c4 => ?_)
  · skip
    replace E := zIf_f c4 E
    refine zg_bipush X (-2) dX11_richest_11 (by decide) (fun v5 _ hv5 => ?_)
    replace E := zLet_s (zcst hv5 (by decide)) E
    refine zg_istore_n X [(2, .int v5), (0, .ref a0), (1, .int p1)] dX11_richest_13 (by decide) rfl ?_
    refine zg_iconst X 1 dX11_richest_14 (by decide) (fun v6 _ hv6 => ?_)
    replace E := zLet_s (zcst hv6 (by decide)) E
    refine zg_istore_n X [(3, .int v6), (2, .int v5), (0, .ref a0), (1, .int p1)] dX11_richest_15 (by decide) rfl ?_
    have Lp9 : ∀ (nLp9 : Nat) (x7 : Int32) (x8 : Int32), R = F_X11_richest_16 a0 p1 σ  nLp9 x7 x8 → (-2) ≤ x8.toInt ∧ x8.toInt ≤ 11 ∧ 1 ≤ x7.toInt ∧ x7.toInt ≤ 12 → (12) - x7.toInt + 1 < (nLp9 : Int) → zG d L kd A 4 p l e (k2_rm 1 (100 * 1)) s m args below meth c Q σ 16 [(3, .int x7), (2, .int x8), (0, .ref a0), (1, .int p1)] [] := by
      intro nLp9
      induction nLp9 with
      | zero => intro x7 x8  E  hxLp9 hm ; exact absurd hm (by omega)
      | succ nLp9 ihLp9 =>
        intro x7 x8  E  hxLp9 hmLp9 
        rw [F_X11_richest_16] at E
        refine zg_iload_n X 0 rfl dX11_richest_16 ?_
        refine zg_aload_n X 2 rfl dX11_richest_17 ?_
        refine zg_cVi (As := []) (st := [.int x7]) X ha0 rfl (by decide) rfl (t_X11_many l d L kd κ _ hI a0 ha0   ) mk_X11_313 mc_X11_many mz_X11 mi_X11_many ml_X11_many (na := 0) ⟨md_X11.1, md_X11.2, by decide +kernel⟩ rfl ⟨by decide, by decide⟩ (Nat.le_of_ble_eq_true rfl) dX11_richest_18 (fun v11 t10 hq => ?_)
        obtain ⟨⟨hF, ⟨ht10_res, ht10_fact0⟩⟩, rfl⟩ := hq
        replace E := zLet_s hF E
        refine zg_icmp_ge X 61 dX11_richest_21 (by decide) (fun c12 => ?_) (fun c12 => ?_)
        · skip
          replace E := zIf_f (Int.not_lt.mpr c12) E
          refine zg_iload_n X 1 rfl dX11_richest_61 ?_
          refine zg_if_lt X 69 dX11_richest_62 (by decide) (fun c13 => ?_) (fun c13 => ?_)
          · skip
            replace E := zIf_t c13 E
            refine zg_iload_n X 1 rfl dX11_richest_69 ?_
            refine zg_goto X 82 dX11_richest_70 (by decide) ?_
            exact ret _ _ _ _ dX11_richest_82 rfl ⟨E.symm.trans hR, rfl⟩
          · skip
            replace E := zIf_f (Int.not_lt.mpr c13) E
            refine zg_iload_n X 3 rfl dX11_richest_65 ?_
            refine zg_if_ne X 73 dX11_richest_66 (by decide) (fun c14 => ?_) (fun c14 => ?_)
            · skip
              replace E := zIf_f c14 E
              refine zg_aload_n X 2 rfl dX11_richest_73 ?_
              refine fg_X11_107 X hI ha0 dX11_richest_74 (fun v15 ev15 hv15 => ?_)
              replace E := zLet_s (zgr ev15) E
              refine zg_bipush X 36 dX11_richest_77 (by decide) (fun v16 _ hv16 => ?_)
              replace E := zLet_s (zcst hv16 (by decide)) E
              refine zg_iload_n X 1 rfl dX11_richest_79 ?_
              refine zg_iadd X dX11_richest_80 (by omega) (by omega) (fun v17 ev17 hv17 => ?_)
              replace E := zLet_s ev17 E
              refine ag_148 X hI hv15 (by omega) (by omega) dX11_richest_81 (fun v18 ev18 _ => ?_)
              replace E := zLet_s ev18 E
              exact ret _ _ _ _ dX11_richest_82 rfl ⟨E.symm.trans hR, rfl⟩
            · skip
              replace E := zIf_t c14 E
              refine zg_iload_n X 1 rfl dX11_richest_69 ?_
              refine zg_goto X 82 dX11_richest_70 (by decide) ?_
              exact ret _ _ _ _ dX11_richest_82 rfl ⟨E.symm.trans hR, rfl⟩
        · skip
          replace E := zIf_t c12 E
          refine zg_aload_n X 2 rfl dX11_richest_24 ?_
          refine fg_X11_107 X hI ha0 dX11_richest_25 (fun v19 ev19 hv19 => ?_)
          replace E := zLet_s (zgr ev19) E
          refine zg_bipush X 36 dX11_richest_28 (by decide) (fun v20 _ hv20 => ?_)
          replace E := zLet_s (zcst hv20 (by decide)) E
          refine zg_iload_n X 0 rfl dX11_richest_30 ?_
          refine zg_iadd X dX11_richest_31 (by omega) (by omega) (fun v21 ev21 hv21 => ?_)
          replace E := zLet_s ev21 E
          refine ag_148 X hI hv19 (by omega) (by omega) dX11_richest_32 (fun v22 ev22 _ => ?_)
          replace E := zLet_s ev22 E
          refine zg_iload_n X 1 rfl dX11_richest_33 ?_
          refine zg_if_ge X 41 dX11_richest_34 (by decide) (fun c23 => ?_) (fun c23 => ?_)
          · skip
            replace E := zIf_f (Int.not_lt.mpr c23) E
            refine zg_aload_n X 2 rfl dX11_richest_41 ?_
            refine fg_X11_107 X hI ha0 dX11_richest_42 (fun v24 ev24 hv24 => ?_)
            replace E := zLet_s (zgr ev24) E
            refine zg_bipush X 36 dX11_richest_45 (by decide) (fun v25 _ hv25 => ?_)
            replace E := zLet_s (zcst hv25 (by decide)) E
            refine zg_iload_n X 1 rfl dX11_richest_47 ?_
            refine zg_iadd X dX11_richest_48 (by omega) (by omega) (fun v26 ev26 hv26 => ?_)
            replace E := zLet_s ev26 E
            refine ag_148 X hI hv24 (by omega) (by omega) dX11_richest_49 (fun v27 ev27 _ => ?_)
            replace E := zLet_s ev27 E
            have zv22_z28 := zb_rng v22
            have zv27_z29 := zb_rng v27
            refine zg_icmp_le X 55 dX11_richest_50 (by decide) (fun c30 => ?_) (fun c30 => ?_)
            · skip
              replace E := zIf_f (Int.not_lt.mpr c30) E
              refine zg_iinc X 1 (fun v31 => [(3, .int v31), (2, .int x8), (0, .ref a0), (1, .int p1)]) 0 dX11_richest_55 rfl (by decide) (by decide) (by omega) (by omega) (fun _ => rfl) (fun v31 ev31 hv31 => ?_)
              replace E := zLet_s (zinc ev31 (by decide)) E
              refine zg_goto X 16 dX11_richest_58 (by decide) ?_
              refine zg_sub [0, 1, 2, 3] rfl ?_
              exact ihLp9 v31 x8   E  (by omega) (by omega) 
            · skip
              replace E := zIf_t c30 E
              refine zg_iload_n X 0 rfl dX11_richest_53 ?_
              refine zg_istore_n X [(2, .int x7), (3, .int x7), (0, .ref a0), (1, .int p1)] dX11_richest_54 (by decide) rfl ?_
              refine zg_iinc X 1 (fun v32 => [(3, .int v32), (2, .int x7), (0, .ref a0), (1, .int p1)]) 1 dX11_richest_55 rfl (by decide) (by decide) (by omega) (by omega) (fun _ => rfl) (fun v32 ev32 hv32 => ?_)
              replace E := zLet_s (zinc ev32 (by decide)) E
              refine zg_goto X 16 dX11_richest_58 (by decide) ?_
              refine zg_sub [0, 1, 2, 3] rfl ?_
              exact ihLp9 v32 x7   E  (by omega) (by omega) 
          · skip
            replace E := zIf_t c23 E
            refine zg_iconst X 0 dX11_richest_37 (by decide) (fun v33 _ hv33 => ?_)
            replace E := zLet_s (zcst hv33 (by decide)) E
            refine zg_goto X 50 dX11_richest_38 (by decide) ?_
            have zv22_z34 := zb_rng v22
            refine zg_icmp_le X 55 dX11_richest_50 (by decide) (fun c35 => ?_) (fun c35 => ?_)
            · skip
              replace E := zIf_f (Int.not_lt.mpr c35) E
              refine zg_iinc X 1 (fun v36 => [(3, .int v36), (2, .int x8), (0, .ref a0), (1, .int p1)]) 0 dX11_richest_55 rfl (by decide) (by decide) (by omega) (by omega) (fun _ => rfl) (fun v36 ev36 hv36 => ?_)
              replace E := zLet_s (zinc ev36 (by decide)) E
              refine zg_goto X 16 dX11_richest_58 (by decide) ?_
              refine zg_sub [0, 1, 2, 3] rfl ?_
              exact ihLp9 v36 x8   E  (by omega) (by omega) 
            · skip
              replace E := zIf_t c35 E
              refine zg_iload_n X 0 rfl dX11_richest_53 ?_
              refine zg_istore_n X [(2, .int x7), (3, .int x7), (0, .ref a0), (1, .int p1)] dX11_richest_54 (by decide) rfl ?_
              refine zg_iinc X 1 (fun v37 => [(3, .int v37), (2, .int x7), (0, .ref a0), (1, .int p1)]) 1 dX11_richest_55 rfl (by decide) (by decide) (by omega) (by omega) (fun _ => rfl) (fun v37 ev37 hv37 => ?_)
              replace E := zLet_s (zinc ev37 (by decide)) E
              refine zg_goto X 16 dX11_richest_58 (by decide) ?_
              refine zg_sub [0, 1, 2, 3] rfl ?_
              exact ihLp9 v37 x7   E  (by omega) (by omega) 
    refine zg_sub [0, 1, 2, 3] rfl ?_
    exact Lp9 10000 v6 v5   E  (by omega) (by omega) 
  · skip
    replace E := zIf_t c4 E
    refine zg_iconst X (-1) dX11_richest_9 (by decide) (fun v38 _ hv38 => ?_)
    replace E := zLet_s (zcst hv38 (by decide)) E
    exact ret _ _ _ _ dX11_richest_10 rfl ⟨E.symm.trans hR, rfl⟩
set_option maxHeartbeats 4000000 in
set_option maxRecDepth 100000 in
theorem t_X11_rankOf (l : Launch) (d : zD2) (L : List Nat) (kd : Nat → Nat) (κ : Int) (σ : zS) (hI : zJ κ L kd σ) (a0 : Nat) (ha0 : zT L kd a0 11) (p1 : Int32) (p2 : Int32) (hq0 : 0 ≤ p1.toInt ∧ p1.toInt ≤ 11) (hq1 : 0 ≤ p2.toInt ∧ p2.toInt ≤ 2) (hgL : gL a0 σ) : zMi l yX11_rankOf (Cond.code yX11_rankOf cX11_rankOf 7 (some .int) :: zWL) 3 [.ref a0, .int p1, .int p2] d L kd σ (fun v σ2 => (v, σ2) = F_X11_rankOf a0 p1 p2 σ ∧ (zJ κ L kd σ2 ∧ zSame a0 [47] [145, 146] L kd σ σ2)) := by
  refine zMi.of (own := RX11) (by decide +kernel) rfl rfl (Nat.le_of_ble_eq_true rfl) ?_
  intro p e s m args below meth c A Q X ret
  have hS : zSame a0 [47] [145, 146] L kd σ σ := zSame.rf
  refine zg_lv (lv2 := [(0, .ref a0), (1, .int p1), (2, .int p2)]) rfl ?_
  obtain ⟨R, hR⟩ : ∃ R, R = F_X11_rankOf a0 p1 p2 σ := ⟨_, rfl⟩
  have E := hR
  unfold F_X11_rankOf at E
  refine zg_iconst X 0 dX11_rankOf_0 (by decide) (fun v1 _ hv1 => ?_)
  replace E := zLet_s (zcst hv1 (by decide)) E
  refine zg_istore_n X [(3, .int v1), (0, .ref a0), (1, .int p1), (2, .int p2)] dX11_rankOf_1 (by decide) rfl ?_
  refine zg_aload_n X 1 rfl dX11_rankOf_2 ?_
  refine zg_iload_n X 2 rfl dX11_rankOf_3 ?_
  refine zg_iload_n X 3 rfl dX11_rankOf_4 ?_
  refine zg_cVi (As := [.int p1, .int p2]) (st := []) X ha0 rfl (by decide) rfl (t_X11_claimOf l d L kd κ _ hI a0 ha0 p1 p2  (by omega) (by omega) hgL) mk_X11_367 mc_X11_claimOf mz_X11 mi_X11_claimOf ml_X11_claimOf (na := 2) ⟨md_X11.1, md_X11.2, by decide +kernel⟩ rfl ⟨by decide, by decide⟩ (Nat.le_of_ble_eq_true rfl) dX11_rankOf_5 (fun v3 t2 hq => ?_)
  obtain ⟨hF, hI, g4⟩ := hq
  replace E := zLet2_s hF E
  have hS := hS.tr g4 (by decide) (by decide)
  have gLt2 := gL.same hI ha0 g4 (by decide) hgL
  refine zg_istore X [(4, .int v3), (3, .int v1), (0, .ref a0), (1, .int p1), (2, .int p2)] dX11_rankOf_8 (by decide) rfl ?_
  refine zg_iconst X 1 dX11_rankOf_10 (by decide) (fun v5 _ hv5 => ?_)
  replace E := zLet_s (zcst hv5 (by decide)) E
  refine zg_istore X [(5, .int v5), (4, .int v3), (3, .int v1), (0, .ref a0), (1, .int p1), (2, .int p2)] dX11_rankOf_11 (by decide) rfl ?_
  have Lp8 : ∀ (nLp8 : Nat) (τ8 : zS) (x6 : Int32) (x7 : Int32), zJ κ L kd τ8 → zSame a0 [47] [145, 146] L kd σ τ8 → gL a0 τ8 → R = F_X11_rankOf_13 v3 a0 p1 p2  nLp8 x6 x7 τ8 → 1 ≤ x6.toInt ∧ x6.toInt ≤ 12 → (12) - x6.toInt + 1 < (nLp8 : Int) → zG d L kd A 7 p l e (k2_rm 3 (100 * 3)) s m args below meth c Q τ8 13 [(5, .int x6), (4, .int v3), (3, .int x7), (0, .ref a0), (1, .int p1), (2, .int p2)] [] := by
    intro nLp8
    induction nLp8 with
    | zero => intro τ8 x6 x7 hI hS gL_Lp8 E  hxLp8 hm ; exact absurd hm (by omega)
    | succ nLp8 ihLp8 =>
      intro τ8 x6 x7 hI hS gL_Lp8 E  hxLp8 hmLp8 
      rw [F_X11_rankOf_13] at E
      refine zg_iload X 0 rfl dX11_rankOf_13 ?_
      refine zg_aload_n X 3 rfl dX11_rankOf_15 ?_
      refine zg_cVi (As := []) (st := [.int x6]) X ha0 rfl (by decide) rfl (t_X11_many l d L kd κ _ hI a0 ha0   ) mk_X11_313 mc_X11_many mz_X11 mi_X11_many ml_X11_many (na := 0) ⟨md_X11.1, md_X11.2, by decide +kernel⟩ rfl ⟨by decide, by decide⟩ (Nat.le_of_ble_eq_true rfl) dX11_rankOf_16 (fun v10 t9 hq => ?_)
      obtain ⟨⟨hF, ⟨ht9_res, ht9_fact0⟩⟩, rfl⟩ := hq
      replace E := zLet_s hF E
      refine zg_icmp_ge X 78 dX11_rankOf_19 (by decide) (fun c11 => ?_) (fun c11 => ?_)
      · skip
        replace E := zIf_f (Int.not_lt.mpr c11) E
        refine zg_iload_n X 2 rfl dX11_rankOf_78 ?_
        exact ret _ _ _ _ dX11_rankOf_79 rfl ⟨E.symm.trans hR, ⟨hI, hS⟩⟩
      · skip
        replace E := zIf_t c11 E
        refine zg_iload X 0 rfl dX11_rankOf_22 ?_
        refine zg_iload_n X 4 rfl dX11_rankOf_24 ?_
        refine zg_icmp_eq X 72 dX11_rankOf_25 (by decide) (fun c12 => ?_) (fun c12 => ?_)
        · skip
          replace E := zIf_t c12 E
          refine zg_iinc X 1 (fun v13 => [(5, .int v13), (4, .int v3), (3, .int x7), (0, .ref a0), (1, .int p1), (2, .int p2)]) 0 dX11_rankOf_72 rfl (by decide) (by decide) (by omega) (by omega) (fun _ => rfl) (fun v13 ev13 hv13 => ?_)
          replace E := zLet_s (zinc ev13 (by decide)) E
          refine zg_goto X 13 dX11_rankOf_75 (by decide) ?_
          refine zg_sub [0, 1, 2, 3, 4, 5] rfl ?_
          exact ihLp8 _ v13 x7 hI hS gL_Lp8 E  (by omega) (by omega) 
        · skip
          replace E := zIf_f c12 E
          refine zg_aload_n X 3 rfl dX11_rankOf_28 ?_
          refine zg_iload X 0 rfl dX11_rankOf_29 ?_
          refine zg_cVi (As := [.int x6]) (st := []) X ha0 rfl (by decide) rfl (t_X11_isSource l d L kd κ _ hI a0 ha0 x6  ) mk_X11_342 mc_X11_isSource mz_X11 mi_X11_isSource ml_X11_isSource (na := 1) ⟨md_X11.1, md_X11.2, by decide +kernel⟩ rfl ⟨by decide, by decide⟩ (Nat.le_of_ble_eq_true rfl) dX11_rankOf_31 (fun v15 t14 hq => ?_)
          obtain ⟨⟨hF, ⟨ht14_res, ht14_fact0, ht14_fact1, ht14_fact2⟩⟩, rfl⟩ := hq
          replace E := zLet_s hF E
          refine zg_if_ne X 40 dX11_rankOf_34 (by decide) (fun c16 => ?_) (fun c16 => ?_)
          · skip
            replace E := zIf_f c16 E
            refine zg_aload_n X 3 rfl dX11_rankOf_40 ?_
            refine zg_iload X 0 rfl dX11_rankOf_41 ?_
            refine zg_iload_n X 5 rfl dX11_rankOf_43 ?_
            refine zg_cVi (As := [.int x6, .int p2]) (st := []) X ha0 rfl (by decide) rfl (t_X11_claimOf l d L kd κ _ hI a0 ha0 x6 p2  (by omega) (by omega) gL_Lp8) mk_X11_367 mc_X11_claimOf mz_X11 mi_X11_claimOf ml_X11_claimOf (na := 2) ⟨md_X11.1, md_X11.2, by decide +kernel⟩ rfl ⟨by decide, by decide⟩ (Nat.le_of_ble_eq_true rfl) dX11_rankOf_44 (fun v18 t17 hq => ?_)
            obtain ⟨hF, hI, g19⟩ := hq
            replace E := zLet2_s hF E
            have hS := hS.tr g19 (by decide) (by decide)
            have gLt17 := gL.same hI ha0 g19 (by decide) gL_Lp8
            refine zg_istore X [(6, .int v18), (5, .int x6), (4, .int v3), (3, .int x7), (0, .ref a0), (1, .int p1), (2, .int p2)] dX11_rankOf_47 (by decide) rfl ?_
            refine zg_iload X 0 rfl dX11_rankOf_49 ?_
            refine zg_iload X 2 rfl dX11_rankOf_51 ?_
            have zv18_z20 := zb_rng v18
            have zv3_z21 := zb_rng v3
            refine zg_icmp_gt X 69 dX11_rankOf_53 (by decide) (fun c22 => ?_) (fun c22 => ?_)
            · skip
              replace E := zIf_t c22 E
              refine zg_iincW X (fun v23 => [(3, .int v23), (6, .int v18), (5, .int x6), (4, .int v3), (0, .ref a0), (1, .int p1), (2, .int p2)]) 3 dX11_rankOf_69 rfl (by decide) (fun _ => rfl) (fun v23 ev23 => ?_)
              replace E := zLet_s (zinc ev23 (by decide)) E
              refine zg_iinc X 1 (fun v24 => [(5, .int v24), (3, .int v23), (6, .int v18), (4, .int v3), (0, .ref a0), (1, .int p1), (2, .int p2)]) 2 dX11_rankOf_72 rfl (by decide) (by decide) (by omega) (by omega) (fun _ => rfl) (fun v24 ev24 hv24 => ?_)
              replace E := zLet_s (zinc ev24 (by decide)) E
              refine zg_goto X 13 dX11_rankOf_75 (by decide) ?_
              refine zg_sub [0, 3, 1, 4, 5, 6] rfl ?_
              exact ihLp8 _ v24 v23 hI hS gLt17 E  (by omega) (by omega) 
            · skip
              replace E := zIf_f (Int.not_lt.mpr c22) E
              refine zg_iload X 0 rfl dX11_rankOf_56 ?_
              refine zg_iload X 2 rfl dX11_rankOf_58 ?_
              refine zg_icmp_ne X 72 dX11_rankOf_60 (by decide) (fun c25 => ?_) (fun c25 => ?_)
              · skip
                replace E := zIf_f c25 E
                refine zg_iinc X 1 (fun v26 => [(5, .int v26), (6, .int v18), (4, .int v3), (3, .int x7), (0, .ref a0), (1, .int p1), (2, .int p2)]) 1 dX11_rankOf_72 rfl (by decide) (by decide) (by omega) (by omega) (fun _ => rfl) (fun v26 ev26 hv26 => ?_)
                replace E := zLet_s (zinc ev26 (by decide)) E
                refine zg_goto X 13 dX11_rankOf_75 (by decide) ?_
                refine zg_sub [0, 2, 3, 4, 5, 6] rfl ?_
                exact ihLp8 _ v26 x7 hI hS gLt17 E  (by omega) (by omega) 
              · skip
                replace E := zIf_t c25 E
                refine zg_iload X 1 rfl dX11_rankOf_63 ?_
                refine zg_iload_n X 5 rfl dX11_rankOf_65 ?_
                refine zg_icmp_ge X 72 dX11_rankOf_66 (by decide) (fun c27 => ?_) (fun c27 => ?_)
                · skip
                  replace E := zIf_f (Int.not_lt.mpr c27) E
                  refine zg_iinc X 1 (fun v28 => [(5, .int v28), (6, .int v18), (4, .int v3), (3, .int x7), (0, .ref a0), (1, .int p1), (2, .int p2)]) 1 dX11_rankOf_72 rfl (by decide) (by decide) (by omega) (by omega) (fun _ => rfl) (fun v28 ev28 hv28 => ?_)
                  replace E := zLet_s (zinc ev28 (by decide)) E
                  refine zg_goto X 13 dX11_rankOf_75 (by decide) ?_
                  refine zg_sub [0, 2, 3, 4, 5, 6] rfl ?_
                  exact ihLp8 _ v28 x7 hI hS gLt17 E  (by omega) (by omega) 
                · skip
                  replace E := zIf_t c27 E
                  refine zg_iincW X (fun v29 => [(3, .int v29), (6, .int v18), (5, .int x6), (4, .int v3), (0, .ref a0), (1, .int p1), (2, .int p2)]) 3 dX11_rankOf_69 rfl (by decide) (fun _ => rfl) (fun v29 ev29 => ?_)
                  replace E := zLet_s (zinc ev29 (by decide)) E
                  refine zg_iinc X 1 (fun v30 => [(5, .int v30), (3, .int v29), (6, .int v18), (4, .int v3), (0, .ref a0), (1, .int p1), (2, .int p2)]) 2 dX11_rankOf_72 rfl (by decide) (by decide) (by omega) (by omega) (fun _ => rfl) (fun v30 ev30 hv30 => ?_)
                  replace E := zLet_s (zinc ev30 (by decide)) E
                  refine zg_goto X 13 dX11_rankOf_75 (by decide) ?_
                  refine zg_sub [0, 3, 1, 4, 5, 6] rfl ?_
                  exact ihLp8 _ v30 v29 hI hS gLt17 E  (by omega) (by omega) 
          · skip
            replace E := zIf_t c16 E
            refine zg_goto X 72 dX11_rankOf_37 (by decide) ?_
            refine zg_iinc X 1 (fun v31 => [(5, .int v31), (4, .int v3), (3, .int x7), (0, .ref a0), (1, .int p1), (2, .int p2)]) 0 dX11_rankOf_72 rfl (by decide) (by decide) (by omega) (by omega) (fun _ => rfl) (fun v31 ev31 hv31 => ?_)
            replace E := zLet_s (zinc ev31 (by decide)) E
            refine zg_goto X 13 dX11_rankOf_75 (by decide) ?_
            refine zg_sub [0, 1, 2, 3, 4, 5] rfl ?_
            exact ihLp8 _ v31 x7 hI hS gL_Lp8 E  (by omega) (by omega) 
  refine zg_sub [0, 1, 2, 3, 4, 5] rfl ?_
  exact Lp8 10000 _ v5 v1 hI hS gLt2 E  (by omega) (by omega) 
set_option maxHeartbeats 4000000 in
set_option maxRecDepth 100000 in
theorem t_X11_rank (l : Launch) (d : zD2) (L : List Nat) (kd : Nat → Nat) (κ : Int) (σ : zS) (hI : zJ κ L kd σ) (a0 : Nat) (ha0 : zT L kd a0 11) (p1 : Int32) (p2 : Int32) (hgN : gN a0 σ) (hgH : gH a0 σ) (hgE : gE a0 σ) (hgL : gL a0 σ) : zMi l yX11_rank (Cond.code yX11_rank cX11_rank 3 (some .int) :: zWL) 6 [.ref a0, .int p1, .int p2] d L kd σ (fun v σ2 => (v, σ2) = F_X11_rank a0 p1 p2 σ ∧ (((gN a0 σ2) ∧ (gH a0 σ2) ∧ (gE a0 σ2) ∧ (gL a0 σ2)) ∧ zJ κ L kd σ2 ∧ zSame a0 [47, 50, 51] [145, 146, 149, 152, 153, 154, 155] L kd σ σ2)) := by
  refine zMi.of (own := RX11) (by decide +kernel) rfl rfl (Nat.le_of_ble_eq_true rfl) ?_
  intro p e s m args below meth c A Q X ret
  have hS : zSame a0 [47, 50, 51] [145, 146, 149, 152, 153, 154, 155] L kd σ σ := zSame.rf
  refine zg_lv (lv2 := [(0, .ref a0), (1, .int p1), (2, .int p2)]) rfl ?_
  have zm := zM_in hI ha0
  obtain ⟨R, hR⟩ : ∃ R, R = F_X11_rank a0 p1 p2 σ := ⟨_, rfl⟩
  have E := hR
  unfold F_X11_rank at E
  refine zg_aload_n X 0 rfl dX11_rank_0 ?_
  refine zg_iload_n X 1 rfl dX11_rank_1 ?_
  refine zg_iload_n X 2 rfl dX11_rank_2 ?_
  refine zg_cVi (As := [.int p1, .int p2]) (st := []) X ha0 rfl (by decide) rfl (t_X11_isClaim l d L kd κ _ hI a0 ha0 p1 p2   hgN hgL) mk_X11_389 mc_X11_isClaim mz_X11 mi_X11_isClaim ml_X11_isClaim (na := 2) ⟨md_X11.1, md_X11.2, by decide +kernel⟩ rfl ⟨by decide, by decide⟩ (Nat.le_of_ble_eq_true rfl) dX11_rank_3 (fun v2 t1 hq => ?_)
  obtain ⟨hF, ⟨ht1_res, ht1_fact0, ht1_fact1, gRt1, gBt1⟩, hI, g3⟩ := hq
  replace E := zLet2_s hF E
  have hS := hS.tr g3 (by decide) (by decide)
  have gNt1 := gN.same hI ha0 g3 (by decide) hgN
  have gHt1 := gH.same hI ha0 g3 (by decide) hgH
  have gEt1 := gE.same hI ha0 g3 (by decide) hgE
  have gLt1 := gL.same hI ha0 g3 (by decide) hgL
  refine zg_if_eq X 18 dX11_rank_6 (by decide) (fun c4 => ?_) (fun c4 => ?_)
  · skip
    replace E := zIf_t c4 E
    refine zg_iconst X (-1) dX11_rank_18 (by decide) (fun v5 _ hv5 => ?_)
    replace E := zLet_s (zcst hv5 (by decide)) E
    exact ret _ _ _ _ dX11_rank_19 rfl ⟨E.symm.trans hR, ⟨⟨gNt1, gHt1, gEt1, gLt1⟩, hI, hS⟩⟩
  · skip
    replace E := zIf_f c4 E
    refine zg_aload_n X 0 rfl dX11_rank_9 ?_
    refine zg_iload_n X 1 rfl dX11_rank_10 ?_
    refine zg_iload_n X 2 rfl dX11_rank_11 ?_
    refine zg_cVi (As := [.int p1, .int p2]) (st := []) X ha0 rfl (by decide) rfl (t_X11_rankOf l d L kd κ _ hI a0 ha0 p1 p2  (by omega) (by omega) gLt1) mk_X11_414 mc_X11_rankOf mz_X11 mi_X11_rankOf ml_X11_rankOf (na := 2) ⟨md_X11.1, md_X11.2, by decide +kernel⟩ rfl ⟨by decide, by decide⟩ (Nat.le_of_ble_eq_true rfl) dX11_rank_12 (fun v7 t6 hq => ?_)
    obtain ⟨hF, hI, g8⟩ := hq
    replace E := zLet2_s hF E
    have hS := hS.tr g8 (by decide) (by decide)
    have gNt6 := gN.same hI ha0 g8 (by decide) gNt1
    have gHt6 := gH.same hI ha0 g8 (by decide) gHt1
    have gEt6 := gE.same hI ha0 g8 (by decide) gEt1
    have gLt6 := gL.same hI ha0 g8 (by decide) gLt1
    have gRt6 := gR.same hI ha0 g8 (by decide) gRt1
    have gBt6 := gB.same hI ha0 g8 (by decide) gBt1
    refine zg_goto X 19 dX11_rank_15 (by decide) ?_
    exact ret _ _ _ _ dX11_rank_19 rfl ⟨E.symm.trans hR, ⟨⟨gNt6, gHt6, gEt6, gLt6⟩, hI, hS⟩⟩
set_option maxHeartbeats 4000000 in
set_option maxRecDepth 100000 in
theorem t_X11_vote (l : Launch) (d : zD2) (L : List Nat) (kd : Nat → Nat) (κ : Int) (σ : zS) (hI : zJ κ L kd σ) (a0 : Nat) (ha0 : zT L kd a0 11) (p1 : Int32) (hgN : gN a0 σ) (hgH : gH a0 σ) (hgE : gE a0 σ) (hgL : gL a0 σ) : zMi l yX11_vote (Cond.code yX11_vote cX11_vote 5 (some .int) :: zWL) 5 [.ref a0, .int p1] d L kd σ (fun v σ2 => (v, σ2) = F_X11_vote a0 p1 σ ∧ (((gN a0 σ2) ∧ (gH a0 σ2) ∧ (gE a0 σ2) ∧ (gL a0 σ2)) ∧ zJ κ L kd σ2 ∧ zSame a0 [47, 50, 51] [145, 146, 149, 152, 153, 154, 155, 159] L kd σ σ2)) := by
  refine zMi.of (own := RX11) (by decide +kernel) rfl rfl (Nat.le_of_ble_eq_true rfl) ?_
  intro p e s m args below meth c A Q X ret
  have hS : zSame a0 [47, 50, 51] [145, 146, 149, 152, 153, 154, 155, 159] L kd σ σ := zSame.rf
  refine zg_lv (lv2 := [(0, .ref a0), (1, .int p1)]) rfl ?_
  have zm := zM_in hI ha0
  obtain ⟨R, hR⟩ : ∃ R, R = F_X11_vote a0 p1 σ := ⟨_, rfl⟩
  have E := hR
  unfold F_X11_vote at E
  refine zg_iload_n X 1 rfl dX11_vote_0 ?_
  refine zg_iconst X 0 dX11_vote_1 (by decide) (fun v1 _ hv1 => ?_)
  replace E := zLet_s (zcst hv1 (by decide)) E
  refine zg_iconst X 1 dX11_vote_2 (by decide) (fun v2 _ hv2 => ?_)
  replace E := zLet_s (zcst hv2 (by decide)) E
  refine zg_cSi (As := [.int p1, .int v1, .int v2]) (st := []) X (t_X11_in l d L kd _ p1 v1 v2 ) mk_X11_316 mc_X11_in mz_X11 ms_X11_in (na := 3) ⟨md_X11.1, md_X11.2, by decide +kernel⟩ rfl ⟨by decide, by decide⟩ (Nat.le_of_ble_eq_true rfl) dX11_vote_3 (fun v3 σ2 hq => ?_)
  obtain ⟨⟨hF, hv3⟩, rfl⟩ := hq
  replace E := zLet_s hF E
  refine zg_if_ne X 11 dX11_vote_6 (by decide) (fun c4 => ?_) (fun c4 => ?_)
  · skip
    replace E := zIf_f c4 E
    refine zg_aload_n X 0 rfl dX11_vote_11 ?_
    refine zg_cVv (As := []) (st := []) X ha0 rfl (by decide) rfl (t_X11_copies l d L kd κ _ hI a0 ha0    hgN hgL) mk_X11_332 mc_X11_copies mz_X11 mi_X11_copies ml_X11_copies (na := 0) ⟨md_X11.1, md_X11.2, by decide +kernel⟩ rfl ⟨by decide, by decide⟩ (Nat.le_of_ble_eq_true rfl) dX11_vote_12 (fun t5 hq => ?_)
    obtain ⟨hF, ⟨ht5_fact0, gRt5, gBt5⟩, hI, g6⟩ := hq
    replace E := zLet_s hF E
    have hS := hS.tr g6 (by decide) (by decide)
    have gNt5 := gN.same hI ha0 g6 (by decide) hgN
    have gHt5 := gH.same hI ha0 g6 (by decide) hgH
    have gEt5 := gE.same hI ha0 g6 (by decide) hgE
    have gLt5 := gL.same hI ha0 g6 (by decide) hgL
    refine zg_aload_n X 0 rfl dX11_vote_15 ?_
    refine zg_cVi (As := []) (st := []) X ha0 rfl (by decide) rfl (t_X11_sourceBits l d L kd κ _ hI a0 ha0   ) mk_X11_417 mc_X11_sourceBits mz_X11 mi_X11_sourceBits ml_X11_sourceBits (na := 0) ⟨md_X11.1, md_X11.2, by decide +kernel⟩ rfl ⟨by decide, by decide⟩ (Nat.le_of_ble_eq_true rfl) dX11_vote_16 (fun v8 t7 hq => ?_)
    obtain ⟨⟨hF, ht7_res⟩, rfl⟩ := hq
    replace E := zLet_s hF E
    refine zg_if_ne X 25 dX11_vote_19 (by decide) (fun c9 => ?_) (fun c9 => ?_)
    · skip
      replace E := zIf_f c9 E
      refine zg_iconst X 0 dX11_vote_25 (by decide) (fun v10 _ hv10 => ?_)
      replace E := zLet_s (zcst hv10 (by decide)) E
      refine zg_istore_n X [(2, .int v10), (0, .ref a0), (1, .int p1)] dX11_vote_26 (by decide) rfl ?_
      have Lp12 : ∀ (nLp12 : Nat) (τ12 : zS) (x11 : Int32), zJ κ L kd τ12 → zSame a0 [47, 50, 51] [145, 146, 149, 152, 153, 154, 155, 159] L kd σ τ12 → gE a0 τ12 → gH a0 τ12 → gL a0 τ12 → gN a0 τ12 → R = F_X11_vote_27 a0 p1  nLp12 x11 τ12 → 0 ≤ x11.toInt ∧ x11.toInt ≤ 3 → (3) - x11.toInt + 1 < (nLp12 : Int) → zG d L kd A 5 p l e (k2_rm 5 (100 * 5)) s m args below meth c Q τ12 27 [(2, .int x11), (0, .ref a0), (1, .int p1)] [] := by
        intro nLp12
        induction nLp12 with
        | zero => intro τ12 x11 hI hS gE_Lp12 gH_Lp12 gL_Lp12 gN_Lp12 E  hxLp12 hm ; exact absurd hm (by omega)
        | succ nLp12 ihLp12 =>
          intro τ12 x11 hI hS gE_Lp12 gH_Lp12 gL_Lp12 gN_Lp12 E  hxLp12 hmLp12 
          rw [F_X11_vote_27] at E
          refine zg_iload_n X 0 rfl dX11_vote_27 ?_
          refine zg_iconst X 3 dX11_vote_28 (by decide) (fun v13 _ hv13 => ?_)
          replace E := zLet_s (zcst hv13 (by decide)) E
          refine zg_icmp_ge X 45 dX11_vote_29 (by decide) (fun c14 => ?_) (fun c14 => ?_)
          · skip
            replace E := zIf_f (Int.not_lt.mpr c14) E
            refine zg_iconst X 1 dX11_vote_45 (by decide) (fun v15 _ hv15 => ?_)
            replace E := zLet_s (zcst hv15 (by decide)) E
            refine zg_istore_n X [(2, .int v15), (0, .ref a0), (1, .int p1)] dX11_vote_46 (by decide) rfl ?_
            have Lp17 : ∀ (nLp17 : Nat) (τ17 : zS) (x16 : Int32), zJ κ L kd τ17 → zSame a0 [47, 50, 51] [145, 146, 149, 152, 153, 154, 155, 159] L kd σ τ17 → gE a0 τ17 → gH a0 τ17 → gL a0 τ17 → gN a0 τ17 → R = F_X11_vote_47 a0 p1 (F_X11_vote_27 a0 p1  nLp12) nLp17 x16 τ17 → 1 ≤ x16.toInt ∧ x16.toInt ≤ 12 → (12) - x16.toInt + 1 < (nLp17 : Int) → zG d L kd A 5 p l e (k2_rm 5 (100 * 5)) s m args below meth c Q τ17 47 [(2, .int x16), (0, .ref a0), (1, .int p1)] [] := by
              intro nLp17
              induction nLp17 with
              | zero => intro τ17 x16 hI hS gE_Lp17 gH_Lp17 gL_Lp17 gN_Lp17 E  hxLp17 hm ; exact absurd hm (by omega)
              | succ nLp17 ihLp17 =>
                intro τ17 x16 hI hS gE_Lp17 gH_Lp17 gL_Lp17 gN_Lp17 E  hxLp17 hmLp17 
                rw [F_X11_vote_47] at E
                refine zg_iload_n X 0 rfl dX11_vote_47 ?_
                refine zg_aload_n X 1 rfl dX11_vote_48 ?_
                refine zg_cVi (As := []) (st := [.int x16]) X ha0 rfl (by decide) rfl (t_X11_many l d L kd κ _ hI a0 ha0   ) mk_X11_313 mc_X11_many mz_X11 mi_X11_many ml_X11_many (na := 0) ⟨md_X11.1, md_X11.2, by decide +kernel⟩ rfl ⟨by decide, by decide⟩ (Nat.le_of_ble_eq_true rfl) dX11_vote_49 (fun v19 t18 hq => ?_)
                obtain ⟨⟨hF, ⟨ht18_res, ht18_fact0⟩⟩, rfl⟩ := hq
                replace E := zLet_s hF E
                refine zg_icmp_ge X 118 dX11_vote_52 (by decide) (fun c20 => ?_) (fun c20 => ?_)
                · skip
                  replace E := zIf_f (Int.not_lt.mpr c20) E
                  refine zg_iconst X 0 dX11_vote_118 (by decide) (fun v21 _ hv21 => ?_)
                  replace E := zLet_s (zcst hv21 (by decide)) E
                  refine zg_istore_n X [(2, .int v21), (0, .ref a0), (1, .int p1)] dX11_vote_119 (by decide) rfl ?_
                  refine zg_iconst X 1 dX11_vote_120 (by decide) (fun v22 _ hv22 => ?_)
                  replace E := zLet_s (zcst hv22 (by decide)) E
                  refine zg_istore_n X [(3, .int v22), (2, .int v21), (0, .ref a0), (1, .int p1)] dX11_vote_121 (by decide) rfl ?_
                  have Lp25 : ∀ (nLp25 : Nat) (τ25 : zS) (x23 : Int32) (x24 : Int32), zJ κ L kd τ25 → zSame a0 [47, 50, 51] [145, 146, 149, 152, 153, 154, 155, 159] L kd σ τ25 → gE a0 τ25 → gH a0 τ25 → gL a0 τ25 → gN a0 τ25 → R = F_X11_vote_122 a0 p1 (F_X11_vote_27 a0 p1  nLp12) (F_X11_vote_47 a0 p1 (F_X11_vote_27 a0 p1  nLp12) nLp17) nLp25 x23 x24 τ25 → 0 ≤ x24.toInt ∧ x24.toInt ≤ 2 ∧ 1 ≤ x23.toInt ∧ x23.toInt ≤ 3 → (3) - x23.toInt + 1 < (nLp25 : Int) → zG d L kd A 5 p l e (k2_rm 5 (100 * 5)) s m args below meth c Q τ25 122 [(3, .int x23), (2, .int x24), (0, .ref a0), (1, .int p1)] [] := by
                    intro nLp25
                    induction nLp25 with
                    | zero => intro τ25 x23 x24 hI hS gE_Lp25 gH_Lp25 gL_Lp25 gN_Lp25 E  hxLp25 hm ; exact absurd hm (by omega)
                    | succ nLp25 ihLp25 =>
                      intro τ25 x23 x24 hI hS gE_Lp25 gH_Lp25 gL_Lp25 gN_Lp25 E  hxLp25 hmLp25 
                      rw [F_X11_vote_122] at E
                      refine zg_iload_n X 0 rfl dX11_vote_122 ?_
                      refine zg_iconst X 3 dX11_vote_123 (by decide) (fun v26 _ hv26 => ?_)
                      replace E := zLet_s (zcst hv26 (by decide)) E
                      refine zg_icmp_ge X 150 dX11_vote_124 (by decide) (fun c27 => ?_) (fun c27 => ?_)
                      · skip
                        replace E := zIf_f (Int.not_lt.mpr c27) E
                        refine zg_iload_n X 3 rfl dX11_vote_150 ?_
                        refine zg_if_ne X 158 dX11_vote_151 (by decide) (fun c28 => ?_) (fun c28 => ?_)
                        · skip
                          replace E := zIf_f c28 E
                          refine zg_aload_n X 2 rfl dX11_vote_158 ?_
                          refine fg_X11_128 X hI ha0 dX11_vote_159 (fun v29 ev29 hv29 => ?_)
                          replace E := zLet_s (zgr ev29) E
                          refine zg_iload_n X 1 rfl dX11_vote_162 ?_
                          refine ag_159 X hI hv29 (by omega) (by omega) dX11_vote_163 (fun v30 ev30 _ => ?_)
                          replace E := zLet_s ev30 E
                          exact ret _ _ _ _ dX11_vote_164 rfl ⟨E.symm.trans hR, ⟨⟨gN_Lp25, gH_Lp25, gE_Lp25, gL_Lp25⟩, hI, hS⟩⟩
                        · skip
                          replace E := zIf_t c28 E
                          refine zg_iload_n X 1 rfl dX11_vote_154 ?_
                          refine zg_goto X 164 dX11_vote_155 (by decide) ?_
                          exact ret _ _ _ _ dX11_vote_164 rfl ⟨E.symm.trans hR, ⟨⟨gN_Lp25, gH_Lp25, gE_Lp25, gL_Lp25⟩, hI, hS⟩⟩
                      · skip
                        replace E := zIf_t c27 E
                        refine zg_aload_n X 2 rfl dX11_vote_127 ?_
                        refine fg_X11_128 X hI ha0 dX11_vote_128 (fun v31 ev31 hv31 => ?_)
                        replace E := zLet_s (zgr ev31) E
                        refine zg_iload_n X 0 rfl dX11_vote_131 ?_
                        refine ag_159 X hI hv31 (by omega) (by omega) dX11_vote_132 (fun v32 ev32 _ => ?_)
                        replace E := zLet_s ev32 E
                        refine zg_aload_n X 2 rfl dX11_vote_133 ?_
                        refine fg_X11_128 X hI ha0 dX11_vote_134 (fun v33 ev33 hv33 => ?_)
                        replace E := zLet_s (zgr ev33) E
                        refine zg_iload_n X 1 rfl dX11_vote_137 ?_
                        refine ag_159 X hI hv33 (by omega) (by omega) dX11_vote_138 (fun v34 ev34 _ => ?_)
                        replace E := zLet_s ev34 E
                        have zv32_z35 := zb_rng v32
                        have zv34_z36 := zb_rng v34
                        refine zg_icmp_le X 144 dX11_vote_139 (by decide) (fun c37 => ?_) (fun c37 => ?_)
                        · skip
                          replace E := zIf_f (Int.not_lt.mpr c37) E
                          refine zg_iinc X 1 (fun v38 => [(3, .int v38), (2, .int x24), (0, .ref a0), (1, .int p1)]) 0 dX11_vote_144 rfl (by decide) (by decide) (by omega) (by omega) (fun _ => rfl) (fun v38 ev38 hv38 => ?_)
                          replace E := zLet_s (zinc ev38 (by decide)) E
                          refine zg_goto X 122 dX11_vote_147 (by decide) ?_
                          refine zg_sub [0, 1, 2, 3] rfl ?_
                          exact ihLp25 _ v38 x24 hI hS gE_Lp25 gH_Lp25 gL_Lp25 gN_Lp25 E  (by omega) (by omega) 
                        · skip
                          replace E := zIf_t c37 E
                          refine zg_iload_n X 0 rfl dX11_vote_142 ?_
                          refine zg_istore_n X [(2, .int x23), (3, .int x23), (0, .ref a0), (1, .int p1)] dX11_vote_143 (by decide) rfl ?_
                          refine zg_iinc X 1 (fun v39 => [(3, .int v39), (2, .int x23), (0, .ref a0), (1, .int p1)]) 1 dX11_vote_144 rfl (by decide) (by decide) (by omega) (by omega) (fun _ => rfl) (fun v39 ev39 hv39 => ?_)
                          replace E := zLet_s (zinc ev39 (by decide)) E
                          refine zg_goto X 122 dX11_vote_147 (by decide) ?_
                          refine zg_sub [0, 1, 2, 3] rfl ?_
                          exact ihLp25 _ v39 x23 hI hS gE_Lp25 gH_Lp25 gL_Lp25 gN_Lp25 E  (by omega) (by omega) 
                  refine zg_sub [0, 1, 2, 3] rfl ?_
                  exact Lp25 10000 _ v22 v21 hI hS gE_Lp17 gH_Lp17 gL_Lp17 gN_Lp17 E  (by omega) (by omega) 
                · skip
                  replace E := zIf_t c20 E
                  refine zg_aload_n X 1 rfl dX11_vote_55 ?_
                  refine zg_iload_n X 0 rfl dX11_vote_56 ?_
                  refine zg_cVi (As := [.int x16]) (st := []) X ha0 rfl (by decide) rfl (t_X11_isSource l d L kd κ _ hI a0 ha0 x16  ) mk_X11_342 mc_X11_isSource mz_X11 mi_X11_isSource ml_X11_isSource (na := 1) ⟨md_X11.1, md_X11.2, by decide +kernel⟩ rfl ⟨by decide, by decide⟩ (Nat.le_of_ble_eq_true rfl) dX11_vote_57 (fun v41 t40 hq => ?_)
                  obtain ⟨⟨hF, ⟨ht40_res, ht40_fact0, ht40_fact1, ht40_fact2⟩⟩, rfl⟩ := hq
                  replace E := zLet_s hF E
                  refine zg_if_ne X 66 dX11_vote_60 (by decide) (fun c42 => ?_) (fun c42 => ?_)
                  · skip
                    replace E := zIf_f c42 E
                    refine zg_iconst X 0 dX11_vote_66 (by decide) (fun v43 _ hv43 => ?_)
                    replace E := zLet_s (zcst hv43 (by decide)) E
                    refine zg_istore_n X [(3, .int v43), (2, .int x16), (0, .ref a0), (1, .int p1)] dX11_vote_67 (by decide) rfl ?_
                    refine zg_iconst X 1 dX11_vote_68 (by decide) (fun v44 _ hv44 => ?_)
                    replace E := zLet_s (zcst hv44 (by decide)) E
                    refine zg_istore X [(4, .int v44), (3, .int v43), (2, .int x16), (0, .ref a0), (1, .int p1)] dX11_vote_69 (by decide) rfl ?_
                    have Lp47 : ∀ (nLp47 : Nat) (τ47 : zS) (x45 : Int32) (x46 : Int32), zJ κ L kd τ47 → zSame a0 [47, 50, 51] [145, 146, 149, 152, 153, 154, 155, 159] L kd σ τ47 → gE a0 τ47 → gH a0 τ47 → gL a0 τ47 → gN a0 τ47 → R = F_X11_vote_71 x16 a0 p1 (F_X11_vote_27 a0 p1  nLp12) (F_X11_vote_47 a0 p1 (F_X11_vote_27 a0 p1  nLp12) nLp17) nLp47 x45 x46 τ47 → 0 ≤ x46.toInt ∧ x46.toInt ≤ 2 ∧ 1 ≤ x45.toInt ∧ x45.toInt ≤ 3 → (3) - x45.toInt + 1 < (nLp47 : Int) → zG d L kd A 5 p l e (k2_rm 5 (100 * 5)) s m args below meth c Q τ47 71 [(4, .int x45), (3, .int x46), (2, .int x16), (0, .ref a0), (1, .int p1)] [] := by
                      intro nLp47
                      induction nLp47 with
                      | zero => intro τ47 x45 x46 hI hS gE_Lp47 gH_Lp47 gL_Lp47 gN_Lp47 E  hxLp47 hm ; exact absurd hm (by omega)
                      | succ nLp47 ihLp47 =>
                        intro τ47 x45 x46 hI hS gE_Lp47 gH_Lp47 gL_Lp47 gN_Lp47 E  hxLp47 hmLp47 
                        rw [F_X11_vote_71] at E
                        refine zg_iload X 0 rfl dX11_vote_71 ?_
                        refine zg_iconst X 3 dX11_vote_73 (by decide) (fun v48 _ hv48 => ?_)
                        replace E := zLet_s (zcst hv48 (by decide)) E
                        refine zg_icmp_ge X 102 dX11_vote_74 (by decide) (fun c49 => ?_) (fun c49 => ?_)
                        · skip
                          replace E := zIf_f (Int.not_lt.mpr c49) E
                          refine zg_aload_n X 3 rfl dX11_vote_102 ?_
                          refine fg_X11_128 X hI ha0 dX11_vote_103 (fun v50 ev50 hv50 => ?_)
                          replace E := zLet_s (zgr ev50) E
                          refine zg_iload_n X 1 rfl dX11_vote_106 ?_
                          refine zg_dup2 X dX11_vote_107 rfl rfl ?_
                          refine ag_159 X hI hv50 (by omega) (by omega) dX11_vote_108 (fun v51 ev51 _ => ?_)
                          replace E := zLet_s ev51 E
                          refine zg_iconst X 1 dX11_vote_109 (by decide) (fun v52 _ hv52 => ?_)
                          replace E := zLet_s (zcst hv52 (by decide)) E
                          refine zg_iaddW X dX11_vote_110 (fun v53 ev53 => ?_)
                          replace E := zLet_s ev53 E
                          refine as_159 X hI hv50 (by omega) (by omega) dX11_vote_111 (fun s54 es54 hI => ?_)
                          replace E := zLet_s es54 E
                          have g55 := (zSame.rf (o := a0) (Wf := []) (Wa := [159]) (L := L) (kd := kd) (σ := τ47)).a ha0 hv50 es54 rfl (by decide)
                          have hS := hS.tr g55 (by decide) (by decide)
                          have gEs54 := gE.same hI ha0 g55 (by decide) gE_Lp47
                          have gHs54 := gH.same hI ha0 g55 (by decide) gH_Lp47
                          have gLs54 := gL.same hI ha0 g55 (by decide) gL_Lp47
                          have gNs54 := gN.same hI ha0 g55 (by decide) gN_Lp47
                          refine zg_iinc X 1 (fun v56 => [(2, .int v56), (4, .int x45), (3, .int x46), (0, .ref a0), (1, .int p1)]) 2 dX11_vote_112 rfl (by decide) (by decide) (by omega) (by omega) (fun _ => rfl) (fun v56 ev56 hv56 => ?_)
                          replace E := zLet_s (zinc ev56 (by decide)) E
                          refine zg_goto X 47 dX11_vote_115 (by decide) ?_
                          refine zg_sub [0, 3, 4] rfl ?_
                          exact ihLp17 _ v56 hI hS gEs54 gHs54 gLs54 gNs54 E  (by omega) (by omega) 
                        · skip
                          replace E := zIf_t c49 E
                          refine zg_aload_n X 3 rfl dX11_vote_77 ?_
                          refine zg_iload_n X 2 rfl dX11_vote_78 ?_
                          refine zg_iload X 0 rfl dX11_vote_79 ?_
                          refine zg_cVi (As := [.int x16, .int x45]) (st := []) X ha0 rfl (by decide) rfl (t_X11_rankOf l d L kd κ _ hI a0 ha0 x16 x45  (by omega) (by omega) gL_Lp47) mk_X11_414 mc_X11_rankOf mz_X11 mi_X11_rankOf ml_X11_rankOf (na := 2) ⟨md_X11.1, md_X11.2, by decide +kernel⟩ rfl ⟨by decide, by decide⟩ (Nat.le_of_ble_eq_true rfl) dX11_vote_81 (fun v58 t57 hq => ?_)
                          obtain ⟨hF, hI, g59⟩ := hq
                          replace E := zLet2_s hF E
                          have hS := hS.tr g59 (by decide) (by decide)
                          have gEt57 := gE.same hI ha0 g59 (by decide) gE_Lp47
                          have gHt57 := gH.same hI ha0 g59 (by decide) gH_Lp47
                          have gLt57 := gL.same hI ha0 g59 (by decide) gL_Lp47
                          have gNt57 := gN.same hI ha0 g59 (by decide) gN_Lp47
                          refine zg_aload_n X 3 rfl dX11_vote_84 ?_
                          refine zg_iload_n X 2 rfl dX11_vote_85 ?_
                          refine zg_iload_n X 1 rfl dX11_vote_86 ?_
                          refine zg_cVi (As := [.int x16, .int x46]) (st := [.int v58]) X ha0 rfl (by decide) rfl (t_X11_rankOf l d L kd κ _ hI a0 ha0 x16 x46  (by omega) (by omega) gLt57) mk_X11_414 mc_X11_rankOf mz_X11 mi_X11_rankOf ml_X11_rankOf (na := 2) ⟨md_X11.1, md_X11.2, by decide +kernel⟩ rfl ⟨by decide, by decide⟩ (Nat.le_of_ble_eq_true rfl) dX11_vote_87 (fun v61 t60 hq => ?_)
                          obtain ⟨hF, hI, g62⟩ := hq
                          replace E := zLet2_s hF E
                          have hS := hS.tr g62 (by decide) (by decide)
                          have gEt60 := gE.same hI ha0 g62 (by decide) gEt57
                          have gHt60 := gH.same hI ha0 g62 (by decide) gHt57
                          have gLt60 := gL.same hI ha0 g62 (by decide) gLt57
                          have gNt60 := gN.same hI ha0 g62 (by decide) gNt57
                          have zv58_z63 := zb_rng v58
                          have zv61_z64 := zb_rng v61
                          refine zg_icmp_ge X 96 dX11_vote_90 (by decide) (fun c65 => ?_) (fun c65 => ?_)
                          · skip
                            replace E := zIf_f (Int.not_lt.mpr c65) E
                            refine zg_iinc X 1 (fun v66 => [(4, .int v66), (3, .int x46), (2, .int x16), (0, .ref a0), (1, .int p1)]) 0 dX11_vote_96 rfl (by decide) (by decide) (by omega) (by omega) (fun _ => rfl) (fun v66 ev66 hv66 => ?_)
                            replace E := zLet_s (zinc ev66 (by decide)) E
                            refine zg_goto X 71 dX11_vote_99 (by decide) ?_
                            refine zg_sub [0, 1, 2, 3, 4] rfl ?_
                            exact ihLp47 _ v66 x46 hI hS gEt60 gHt60 gLt60 gNt60 E  (by omega) (by omega) 
                          · skip
                            replace E := zIf_t c65 E
                            refine zg_iload X 0 rfl dX11_vote_93 ?_
                            refine zg_istore_n X [(3, .int x45), (4, .int x45), (2, .int x16), (0, .ref a0), (1, .int p1)] dX11_vote_95 (by decide) rfl ?_
                            refine zg_iinc X 1 (fun v67 => [(4, .int v67), (3, .int x45), (2, .int x16), (0, .ref a0), (1, .int p1)]) 1 dX11_vote_96 rfl (by decide) (by decide) (by omega) (by omega) (fun _ => rfl) (fun v67 ev67 hv67 => ?_)
                            replace E := zLet_s (zinc ev67 (by decide)) E
                            refine zg_goto X 71 dX11_vote_99 (by decide) ?_
                            refine zg_sub [0, 1, 2, 3, 4] rfl ?_
                            exact ihLp47 _ v67 x45 hI hS gEt60 gHt60 gLt60 gNt60 E  (by omega) (by omega) 
                    refine zg_sub [0, 1, 2, 3, 4] rfl ?_
                    exact Lp47 10000 _ v44 v43 hI hS gE_Lp17 gH_Lp17 gL_Lp17 gN_Lp17 E  (by omega) (by omega) 
                  · skip
                    replace E := zIf_t c42 E
                    refine zg_goto X 112 dX11_vote_63 (by decide) ?_
                    refine zg_iinc X 1 (fun v68 => [(2, .int v68), (0, .ref a0), (1, .int p1)]) 0 dX11_vote_112 rfl (by decide) (by decide) (by omega) (by omega) (fun _ => rfl) (fun v68 ev68 hv68 => ?_)
                    replace E := zLet_s (zinc ev68 (by decide)) E
                    refine zg_goto X 47 dX11_vote_115 (by decide) ?_
                    refine zg_sub [0, 1, 2] rfl ?_
                    exact ihLp17 _ v68 hI hS gE_Lp17 gH_Lp17 gL_Lp17 gN_Lp17 E  (by omega) (by omega) 
            refine zg_sub [0, 1, 2] rfl ?_
            exact Lp17 10000 _ v15 hI hS gE_Lp12 gH_Lp12 gL_Lp12 gN_Lp12 E  (by omega) (by omega) 
          · skip
            replace E := zIf_t c14 E
            refine zg_aload_n X 1 rfl dX11_vote_32 ?_
            refine fg_X11_128 X hI ha0 dX11_vote_33 (fun v69 ev69 hv69 => ?_)
            replace E := zLet_s (zgr ev69) E
            refine zg_iload_n X 0 rfl dX11_vote_36 ?_
            refine zg_iconst X 0 dX11_vote_37 (by decide) (fun v70 _ hv70 => ?_)
            replace E := zLet_s (zcst hv70 (by decide)) E
            refine as_159 X hI hv69 (by omega) (by omega) dX11_vote_38 (fun s71 es71 hI => ?_)
            replace E := zLet_s es71 E
            have g72 := (zSame.rf (o := a0) (Wf := []) (Wa := [159]) (L := L) (kd := kd) (σ := τ12)).a ha0 hv69 es71 rfl (by decide)
            have hS := hS.tr g72 (by decide) (by decide)
            have gEs71 := gE.same hI ha0 g72 (by decide) gE_Lp12
            have gHs71 := gH.same hI ha0 g72 (by decide) gH_Lp12
            have gLs71 := gL.same hI ha0 g72 (by decide) gL_Lp12
            have gNs71 := gN.same hI ha0 g72 (by decide) gN_Lp12
            refine zg_iinc X 1 (fun v73 => [(2, .int v73), (0, .ref a0), (1, .int p1)]) 0 dX11_vote_39 rfl (by decide) (by decide) (by omega) (by omega) (fun _ => rfl) (fun v73 ev73 hv73 => ?_)
            replace E := zLet_s (zinc ev73 (by decide)) E
            refine zg_goto X 27 dX11_vote_42 (by decide) ?_
            refine zg_sub [0, 1, 2] rfl ?_
            exact ihLp12 _ v73 hI hS gEs71 gHs71 gLs71 gNs71 E  (by omega) (by omega) 
      refine zg_sub [0, 1, 2] rfl ?_
      exact Lp12 10000 _ v10 hI hS gEt5 gHt5 gLt5 gNt5 E  (by omega) (by omega) 
    · skip
      replace E := zIf_t c9 E
      refine zg_bipush X (-2) dX11_vote_22 (by decide) (fun v74 _ hv74 => ?_)
      replace E := zLet_s (zcst hv74 (by decide)) E
      exact ret _ _ _ _ dX11_vote_24 rfl ⟨E.symm.trans hR, ⟨⟨gNt5, gHt5, gEt5, gLt5⟩, hI, hS⟩⟩
  · skip
    replace E := zIf_t c4 E
    refine zg_iconst X (-1) dX11_vote_9 (by decide) (fun v75 _ hv75 => ?_)
    replace E := zLet_s (zcst hv75 (by decide)) E
    exact ret _ _ _ _ dX11_vote_10 rfl ⟨E.symm.trans hR, ⟨⟨hgN, hgH, hgE, hgL⟩, hI, hS⟩⟩
end
