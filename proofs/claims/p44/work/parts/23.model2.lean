set_option maxHeartbeats 4000000 in
set_option maxRecDepth 100000 in
theorem t_X11_looks (l : Launch) (d : zD2) (L : List Nat) (kd : Nat → Nat) (κ : Int) (σ : zS) (hI : zJ κ L kd σ) (a0 : Nat) (ha0 : zT L kd a0 11) (p1 : Int32) (p2 : Int32) (hq0 : 0 ≤ p1.toInt ∧ p1.toInt ≤ 11) : zMv l yX11_looks (Cond.code yX11_looks cX11_looks 3 none :: zWL) 1 [.ref a0, .int p1, .int p2] d L kd σ (fun σ2 => σ2 = F_X11_looks a0 p1 p2 σ ∧ (zJ κ L kd σ2 ∧ zSame a0 [] [145] L kd σ σ2)) := by
  refine zMv.of (own := RX11) (by decide +kernel) rfl rfl (Nat.le_of_ble_eq_true rfl) ?_
  intro p e s m args below meth c A Q X ret
  have hS : zSame a0 [] [145] L kd σ σ := zSame.rf
  refine zg_lv (lv2 := [(0, .ref a0), (1, .int p1), (2, .int p2)]) rfl ?_
  obtain ⟨R, hR⟩ : ∃ R, R = F_X11_looks a0 p1 p2 σ := ⟨_, rfl⟩
  have E := hR
  unfold F_X11_looks at E
  refine zg_aload_n X 0 rfl dX11_looks_0 ?_
  refine fg_X11_101 X hI ha0 dX11_looks_1 (fun v1 ev1 hv1 => ?_)
  replace E := zLet_s (zgr ev1) E
  refine zg_iconst X 0 dX11_looks_4 (by decide) (fun v2 _ hv2 => ?_)
  replace E := zLet_s (zcst hv2 (by decide)) E
  refine zg_aload_n X 0 rfl dX11_looks_5 ?_
  refine fg_X11_52 X hI ha0 dX11_looks_6 (fun v3 ev3 hv3 => ?_)
  replace E := zLet_s (zgr ev3) E
  refine zg_bipush X 12 dX11_looks_9 (by decide) (fun v4 _ hv4 => ?_)
  replace E := zLet_s (zcst hv4 (by decide)) E
  refine zg_aload_n X 0 rfl dX11_looks_11 ?_
  refine fg_X11_236 X hI ha0 dX11_looks_12 (fun v5 ev5 hv5 => ?_)
  replace E := zLet_s ev5 E
  refine zg_imulc X 12 dX11_looks_15 (by omega) (by omega) (by omega) (fun v6 ev6 hv6 => ?_)
  replace E := zLet_s ev6 E
  refine zg_iload_n X 1 rfl dX11_looks_16 ?_
  refine zg_iadd X dX11_looks_17 (by omega) (by omega) (fun v7 ev7 hv7 => ?_)
  replace E := zLet_s ev7 E
  refine ag_124 X hI hv3 (by omega) (by omega) dX11_looks_18 (fun v8 ev8 _ => ?_)
  replace E := zLet_s ev8 E
  refine as_145 X hI hv1 (by omega) (by omega) dX11_looks_19 (fun s9 es9 hI => ?_)
  replace E := zLet_s es9 E
  have g10 := (zSame.rf (o := a0) (Wf := []) (Wa := [145]) (L := L) (kd := kd) (σ := σ)).a ha0 hv1 es9 rfl (by decide)
  have hS := hS.tr g10 (by decide) (by decide)
  have e11 := g10.v ev5 (by decide)
  refine zg_aload_n X 0 rfl dX11_looks_20 ?_
  refine fg_X11_101 X hI ha0 dX11_looks_21 (fun v12 ev12 hv12 => ?_)
  replace E := zLet_s (zgr ev12) E
  refine zg_iconst X 1 dX11_looks_24 (by decide) (fun v13 _ hv13 => ?_)
  replace E := zLet_s (zcst hv13 (by decide)) E
  refine zg_aload_n X 0 rfl dX11_looks_25 ?_
  refine fg_X11_113 X hI ha0 dX11_looks_26 (fun v14 ev14 hv14 => ?_)
  replace E := zLet_s (zgr ev14) E
  refine zg_iload_n X 1 rfl dX11_looks_29 ?_
  refine ag_152 X hI hv14 (by omega) (by omega) dX11_looks_30 (fun v15 ev15 _ => ?_)
  replace E := zLet_s ev15 E
  refine as_145 X hI hv12 (by omega) (by omega) dX11_looks_31 (fun s16 es16 hI => ?_)
  replace E := zLet_s es16 E
  have g17 := (zSame.rf (o := a0) (Wf := []) (Wa := [145]) (L := L) (kd := kd) (σ := s9)).a ha0 hv12 es16 rfl (by decide)
  have hS := hS.tr g17 (by decide) (by decide)
  have e18 := g17.v e11 (by decide)
  refine zg_aload_n X 0 rfl dX11_looks_32 ?_
  refine fg_X11_101 X hI ha0 dX11_looks_33 (fun v19 ev19 hv19 => ?_)
  replace E := zLet_s (zgr ev19) E
  refine zg_iconst X 2 dX11_looks_36 (by decide) (fun v20 _ hv20 => ?_)
  replace E := zLet_s (zcst hv20 (by decide)) E
  refine zg_aload_n X 0 rfl dX11_looks_37 ?_
  refine fg_X11_55 X hI ha0 dX11_looks_38 (fun v21 ev21 hv21 => ?_)
  replace E := zLet_s (zgr ev21) E
  refine zg_bipush X 12 dX11_looks_41 (by decide) (fun v22 _ hv22 => ?_)
  replace E := zLet_s (zcst hv22 (by decide)) E
  refine zg_aload_n X 0 rfl dX11_looks_43 ?_
  refine fg_X11_236 X hI ha0 dX11_looks_44 (fun v23 ev23 hv23 => ?_)
  replace E := zLet_s ev23 E
  have mv23 : v23.toInt = v5.toInt := by rw [ev23, ← e18]
  refine zg_imulc X 12 dX11_looks_47 (by omega) (by omega) (by omega) (fun v24 ev24 hv24 => ?_)
  replace E := zLet_s ev24 E
  refine zg_iload_n X 1 rfl dX11_looks_48 ?_
  refine zg_iadd X dX11_looks_49 (by omega) (by omega) (fun v25 ev25 hv25 => ?_)
  replace E := zLet_s ev25 E
  refine ag_125 X hI hv21 (by omega) (by omega) dX11_looks_50 (fun v26 ev26 _ => ?_)
  replace E := zLet_s ev26 E
  refine as_145 X hI hv19 (by omega) (by omega) dX11_looks_51 (fun s27 es27 hI => ?_)
  replace E := zLet_s es27 E
  have g28 := (zSame.rf (o := a0) (Wf := []) (Wa := [145]) (L := L) (kd := kd) (σ := s16)).a ha0 hv19 es27 rfl (by decide)
  have hS := hS.tr g28 (by decide) (by decide)
  have e29 := g28.v ev23 (by decide)
  refine zg_aload_n X 0 rfl dX11_looks_52 ?_
  refine fg_X11_101 X hI ha0 dX11_looks_53 (fun v30 ev30 hv30 => ?_)
  replace E := zLet_s (zgr ev30) E
  refine zg_iconst X 3 dX11_looks_56 (by decide) (fun v31 _ hv31 => ?_)
  replace E := zLet_s (zcst hv31 (by decide)) E
  refine zg_aload_n X 0 rfl dX11_looks_57 ?_
  refine fg_X11_110 X hI ha0 dX11_looks_58 (fun v32 ev32 hv32 => ?_)
  replace E := zLet_s (zgr ev32) E
  refine zg_bipush X 48 dX11_looks_61 (by decide) (fun v33 _ hv33 => ?_)
  replace E := zLet_s (zcst hv33 (by decide)) E
  refine ag_149 X hI hv32 (by omega) (by omega) dX11_looks_63 (fun v34 ev34 _ => ?_)
  replace E := zLet_s ev34 E
  refine zg_bipush X 12 dX11_looks_64 (by decide) (fun v35 _ hv35 => ?_)
  replace E := zLet_s (zcst hv35 (by decide)) E
  refine zg_iremW X dX11_looks_66 (by omega) (fun v36 ev36 => ?_)
  replace E := zLet_s ev36 E
  have hv36 := zb_rem (x := v34) (y := v35) 12 (by omega) (by omega)
  rw [← ev36] at hv36
  refine as_145 X hI hv30 (by omega) (by omega) dX11_looks_67 (fun s37 es37 hI => ?_)
  replace E := zLet_s es37 E
  have g38 := (zSame.rf (o := a0) (Wf := []) (Wa := [145]) (L := L) (kd := kd) (σ := s27)).a ha0 hv30 es37 rfl (by decide)
  have hS := hS.tr g38 (by decide) (by decide)
  have e39 := g38.v e29 (by decide)
  refine zg_aload_n X 0 rfl dX11_looks_68 ?_
  refine fg_X11_101 X hI ha0 dX11_looks_69 (fun v40 ev40 hv40 => ?_)
  replace E := zLet_s (zgr ev40) E
  refine zg_iconst X 4 dX11_looks_72 (by decide) (fun v41 _ hv41 => ?_)
  replace E := zLet_s (zcst hv41 (by decide)) E
  refine zg_iload_n X 2 rfl dX11_looks_73 ?_
  refine as_145 X hI hv40 (by omega) (by omega) dX11_looks_74 (fun s42 es42 hI => ?_)
  replace E := zLet_s es42 E
  have g43 := (zSame.rf (o := a0) (Wf := []) (Wa := [145]) (L := L) (kd := kd) (σ := s37)).a ha0 hv40 es42 rfl (by decide)
  have hS := hS.tr g43 (by decide) (by decide)
  have e44 := g43.v e39 (by decide)
  refine zg_aload_n X 0 rfl dX11_looks_75 ?_
  refine fg_X11_101 X hI ha0 dX11_looks_76 (fun v45 ev45 hv45 => ?_)
  replace E := zLet_s (zgr ev45) E
  refine zg_iconst X 5 dX11_looks_79 (by decide) (fun v46 _ hv46 => ?_)
  replace E := zLet_s (zcst hv46 (by decide)) E
  refine zg_aload_n X 0 rfl dX11_looks_80 ?_
  refine fg_X11_49 X hI ha0 dX11_looks_81 (fun v47 ev47 hv47 => ?_)
  replace E := zLet_s (zgr ev47) E
  refine zg_bipush X 12 dX11_looks_84 (by decide) (fun v48 _ hv48 => ?_)
  replace E := zLet_s (zcst hv48 (by decide)) E
  refine zg_aload_n X 0 rfl dX11_looks_86 ?_
  refine fg_X11_236 X hI ha0 dX11_looks_87 (fun v49 ev49 hv49 => ?_)
  replace E := zLet_s ev49 E
  have mv49 : v49.toInt = v23.toInt := by rw [ev49, ← e44]
  refine zg_imulc X 12 dX11_looks_90 (by omega) (by omega) (by omega) (fun v50 ev50 hv50 => ?_)
  replace E := zLet_s ev50 E
  refine zg_iload_n X 1 rfl dX11_looks_91 ?_
  refine zg_iadd X dX11_looks_92 (by omega) (by omega) (fun v51 ev51 hv51 => ?_)
  replace E := zLet_s ev51 E
  refine ag_123 X hI hv47 (by omega) (by omega) dX11_looks_93 (fun v52 ev52 _ => ?_)
  replace E := zLet_s ev52 E
  refine as_145 X hI hv45 (by omega) (by omega) dX11_looks_94 (fun s53 es53 hI => ?_)
  replace E := zLet_s es53 E
  have g54 := (zSame.rf (o := a0) (Wf := []) (Wa := [145]) (L := L) (kd := kd) (σ := s42)).a ha0 hv45 es53 rfl (by decide)
  have hS := hS.tr g54 (by decide) (by decide)
  have e55 := g54.v ev49 (by decide)
  refine zg_aload_n X 0 rfl dX11_looks_95 ?_
  refine fg_X11_101 X hI ha0 dX11_looks_96 (fun v56 ev56 hv56 => ?_)
  replace E := zLet_s (zgr ev56) E
  refine zg_bipush X 6 dX11_looks_99 (by decide) (fun v57 _ hv57 => ?_)
  replace E := zLet_s (zcst hv57 (by decide)) E
  refine zg_aload_n X 0 rfl dX11_looks_101 ?_
  refine fg_X11_110 X hI ha0 dX11_looks_102 (fun v58 ev58 hv58 => ?_)
  replace E := zLet_s (zgr ev58) E
  refine zg_bipush X 24 dX11_looks_105 (by decide) (fun v59 _ hv59 => ?_)
  replace E := zLet_s (zcst hv59 (by decide)) E
  refine zg_iload_n X 1 rfl dX11_looks_107 ?_
  refine zg_iadd X dX11_looks_108 (by omega) (by omega) (fun v60 ev60 hv60 => ?_)
  replace E := zLet_s ev60 E
  refine ag_149 X hI hv58 (by omega) (by omega) dX11_looks_109 (fun v61 ev61 _ => ?_)
  replace E := zLet_s ev61 E
  refine as_145 X hI hv56 (by omega) (by omega) dX11_looks_110 (fun s62 es62 hI => ?_)
  replace E := zLet_s es62 E
  have g63 := (zSame.rf (o := a0) (Wf := []) (Wa := [145]) (L := L) (kd := kd) (σ := s53)).a ha0 hv56 es62 rfl (by decide)
  have hS := hS.tr g63 (by decide) (by decide)
  have e64 := g63.v e55 (by decide)
  refine zg_aload_n X 0 rfl dX11_looks_111 ?_
  refine fg_X11_101 X hI ha0 dX11_looks_112 (fun v65 ev65 hv65 => ?_)
  replace E := zLet_s (zgr ev65) E
  refine zg_bipush X 7 dX11_looks_115 (by decide) (fun v66 _ hv66 => ?_)
  replace E := zLet_s (zcst hv66 (by decide)) E
  refine zg_iload_n X 1 rfl dX11_looks_117 ?_
  refine as_145 X hI hv65 (by omega) (by omega) dX11_looks_118 (fun s67 es67 hI => ?_)
  replace E := zLet_s es67 E
  have g68 := (zSame.rf (o := a0) (Wf := []) (Wa := [145]) (L := L) (kd := kd) (σ := s62)).a ha0 hv65 es67 rfl (by decide)
  have hS := hS.tr g68 (by decide) (by decide)
  have e69 := g68.v e64 (by decide)
  refine zg_aload_n X 0 rfl dX11_looks_119 ?_
  refine fg_X11_101 X hI ha0 dX11_looks_120 (fun v70 ev70 hv70 => ?_)
  replace E := zLet_s (zgr ev70) E
  refine zg_bipush X 8 dX11_looks_123 (by decide) (fun v71 _ hv71 => ?_)
  replace E := zLet_s (zcst hv71 (by decide)) E
  refine zg_aload_n X 0 rfl dX11_looks_125 ?_
  refine fg_X11_119 X hI ha0 dX11_looks_126 (fun v72 ev72 hv72 => ?_)
  replace E := zLet_s (zgr ev72) E
  refine zg_iload_n X 1 rfl dX11_looks_129 ?_
  refine ag_154 X hI hv72 (by omega) (by omega) dX11_looks_130 (fun v73 ev73 _ => ?_)
  replace E := zLet_s ev73 E
  refine zg_cSi (As := [.int v73]) (st := [.int v71, .ref v70]) X (t_X11_bits l d L kd _ v73 ) mk_X11_345 mc_X11_bits mz_X11 ms_X11_bits (na := 1) ⟨md_X11.1, md_X11.2, by decide +kernel⟩ rfl ⟨by decide, by decide⟩ (Nat.le_of_ble_eq_true rfl) dX11_looks_131 (fun v74 σ2 hq => ?_)
  obtain ⟨⟨hF, hv74⟩, rfl⟩ := hq
  replace E := zLet_s hF E
  refine zg_iconst X 1 dX11_looks_134 (by decide) (fun v75 _ hv75 => ?_)
  replace E := zLet_s (zcst hv75 (by decide)) E
  refine zg_isubW X dX11_looks_135 (fun v76 ev76 => ?_)
  replace E := zLet_s ev76 E
  refine as_145 X hI hv70 (by omega) (by omega) dX11_looks_136 (fun s77 es77 hI => ?_)
  replace E := zLet_s es77 E
  have g78 := (zSame.rf (o := a0) (Wf := []) (Wa := [145]) (L := L) (kd := kd) (σ := s67)).a ha0 hv70 es77 rfl (by decide)
  have hS := hS.tr g78 (by decide) (by decide)
  have e79 := g78.v e69 (by decide)
  exact ret _ _ _ dX11_looks_137 ⟨E.symm.trans hR, ⟨hI, hS⟩⟩
set_option maxHeartbeats 4000000 in
set_option maxRecDepth 100000 in
theorem t_X11_termOf (l : Launch) (d : zD2) (L : List Nat) (kd : Nat → Nat) (κ : Int) (σ : zS) (hI : zJ κ L kd σ) (a0 : Nat) (ha0 : zT L kd a0 11) (p1 : Int32) (p2 : Int32) (hq0 : gCod (zp a0 σ 39) (zp a0 σ 40) p1.toInt p2.toInt) : zMi l yX11_termOf (Cond.code yX11_termOf cX11_termOf 8 (some .int) :: zWL) 0 [.ref a0, .int p1, .int p2] d L kd σ (fun v σ2 => (v, σ2) = F_X11_termOf a0 p1 p2 σ ∧ (zJ κ L kd σ2 ∧ zSame a0 [47] [146] L kd σ σ2)) := by
  refine zMi.of (own := RX11) (by decide +kernel) rfl rfl (Nat.le_of_ble_eq_true rfl) ?_
  intro p e s m args below meth c A Q X ret
  have hS : zSame a0 [47] [146] L kd σ σ := zSame.rf
  refine zg_lv (lv2 := [(0, .ref a0), (1, .int p1), (2, .int p2)]) rfl ?_
  have z0 := hq0.2.2.1
  have z1 := hq0.1
  have z2 := hq0.2.1
  obtain ⟨R, hR⟩ : ∃ R, R = F_X11_termOf a0 p1 p2 σ := ⟨_, rfl⟩
  have E := hR
  unfold F_X11_termOf at E
  refine zg_iconst X 0 dX11_termOf_0 (by decide) (fun v1 _ hv1 => ?_)
  replace E := zLet_s (zcst hv1 (by decide)) E
  refine zg_istore_n X [(3, .int v1), (0, .ref a0), (1, .int p1), (2, .int p2)] dX11_termOf_1 (by decide) rfl ?_
  have zd : gDep (zp a0 σ 39) p1.toInt (p1.toInt - p1.toInt).toNat = 0 := by rw [Int.sub_self]; rfl
  refine zg_iload_n X 2 rfl dX11_termOf_2 ?_
  refine zg_istore X [(4, .int p1), (3, .int v1), (0, .ref a0), (1, .int p1), (2, .int p2)] dX11_termOf_3 (by decide) rfl ?_
  have Lp4 : ∀ (nLp4 : Nat) (τ4 : zS) (x2 : Int32) (x3 : Int32), zJ κ L kd τ4 → zSame a0 [47] [146] L kd σ τ4 → zp a0 τ4 39 = zp a0 σ 39 → zp a0 τ4 40 = zp a0 σ 40 → R = F_X11_termOf_5 a0 p1 p2  nLp4 x2 x3 τ4 → 0 ≤ x3.toInt ∧ x3.toInt ≤ 400 ∧ 0 ≤ x2.toInt ∧ x2.toInt ≤ 840 ∧ p1.toInt ≤ x2.toInt ∧ x2.toInt ≤ p2.toInt ∧ x3.toInt = gDep (zp a0 σ 39) p1.toInt (x2.toInt - p1.toInt).toNat → p2.toInt - x2.toInt + 1 < (nLp4 : Int) → zG d L kd A 8 p l e (k2_rm 0 (100 * 0)) s m args below meth c Q τ4 5 [(4, .int x2), (3, .int x3), (0, .ref a0), (1, .int p1), (2, .int p2)] [] := by
    intro nLp4
    induction nLp4 with
    | zero => intro τ4 x2 x3 hI hS A39_Lp4 A40_Lp4 E  hxLp4 hm ; exact absurd hm (by omega)
    | succ nLp4 ihLp4 =>
      intro τ4 x2 x3 hI hS A39_Lp4 A40_Lp4 E  hxLp4 hmLp4 
      rw [F_X11_termOf_5] at E
      refine zg_iload X 0 rfl dX11_termOf_5 ?_
      refine zg_iload_n X 4 rfl dX11_termOf_7 ?_
      refine zg_icmp_ge X 165 dX11_termOf_8 (by decide) (fun c5 => ?_) (fun c5 => ?_)
      · skip
        replace E := zIf_f (Int.not_lt.mpr c5) E
        refine zg_aload_n X 2 rfl dX11_termOf_165 ?_
        refine fg_X11_104 X hI ha0 dX11_termOf_166 (fun v6 ev6 hv6 => ?_)
        replace E := zLet_s (zgr ev6) E
        refine zg_iconst X 0 dX11_termOf_169 (by decide) (fun v7 _ hv7 => ?_)
        replace E := zLet_s (zcst hv7 (by decide)) E
        refine ag_146 X hI hv6 (by omega) (by omega) dX11_termOf_170 (fun v8 ev8 _ => ?_)
        replace E := zLet_s ev8 E
        exact ret _ _ _ _ dX11_termOf_171 rfl ⟨E.symm.trans hR, ⟨hI, hS⟩⟩
      · skip
        replace E := zIf_t c5 E
        refine zg_aload_n X 2 rfl dX11_termOf_11 ?_
        refine fg_X11_92 X hI ha0 dX11_termOf_12 (fun v9 ev9 hv9 => ?_)
        replace E := zLet_s (zgr ev9) E
        refine zg_iload X 0 rfl dX11_termOf_15 ?_
        refine ag_139 X hI hv9 (by omega) (by omega) dX11_termOf_17 (fun v10 ev10 _ => ?_)
        replace E := zLet_s ev10 E
        have qv10 := zp_ld ev9 ev10
        rw [A39_Lp4] at qv10
        have zc := gCod_at hq0 (c := x2.toInt) (by omega) (by omega)
        refine zg_istore X [(5, .int v10), (4, .int x2), (3, .int x3), (0, .ref a0), (1, .int p1), (2, .int p2)] dX11_termOf_18 (by decide) rfl ?_
        refine zg_iload X 0 rfl dX11_termOf_20 ?_
        refine zg_iconst X 2 dX11_termOf_22 (by decide) (fun v11 _ hv11 => ?_)
        replace E := zLet_s (zcst hv11 (by decide)) E
        have zv10_z12 := zb_rng v10
        refine zg_icmp_ge X 65 dX11_termOf_23 (by decide) (fun c13 => ?_) (fun c13 => ?_)
        · skip
          replace E := zIf_f (Int.not_lt.mpr c13) E
          refine zg_iinc X (-1) (fun v14 => [(3, .int v14), (5, .int v10), (4, .int x2), (0, .ref a0), (1, .int p1), (2, .int p2)]) 2 dX11_termOf_65 rfl (by decide) (by decide) (by omega) (by omega) (fun _ => rfl) (fun v14 ev14 hv14 => ?_)
          replace E := zLet_s (zinc ev14 (by decide)) E
          refine zg_aload_n X 3 rfl dX11_termOf_68 ?_
          refine fg_X11_104 X hI ha0 dX11_termOf_69 (fun v15 ev15 hv15 => ?_)
          replace E := zLet_s (zgr ev15) E
          refine zg_iload_n X 0 rfl dX11_termOf_72 ?_
          refine zg_iconst X 1 dX11_termOf_73 (by decide) (fun v16 _ hv16 => ?_)
          replace E := zLet_s (zcst hv16 (by decide)) E
          refine zg_isub X dX11_termOf_74 (by omega) (by omega) (fun v17 ev17 hv17 => ?_)
          replace E := zLet_s ev17 E
          refine ag_146 X hI hv15 (by omega) (by omega) dX11_termOf_75 (fun v18 ev18 _ => ?_)
          replace E := zLet_s ev18 E
          refine zg_istore X [(6, .int v18), (3, .int v14), (5, .int v10), (4, .int x2), (0, .ref a0), (1, .int p1), (2, .int p2)] dX11_termOf_76 (by decide) rfl ?_
          refine zg_aload_n X 4 rfl dX11_termOf_78 ?_
          refine fg_X11_104 X hI ha0 dX11_termOf_79 (fun v19 ev19 hv19 => ?_)
          replace E := zLet_s (zgr ev19) E
          refine zg_iload_n X 1 rfl dX11_termOf_82 ?_
          refine ag_146 X hI hv19 (by omega) (by omega) dX11_termOf_83 (fun v20 ev20 _ => ?_)
          replace E := zLet_s ev20 E
          refine zg_istore X [(7, .int v20), (6, .int v18), (3, .int v14), (5, .int v10), (4, .int x2), (0, .ref a0), (1, .int p1), (2, .int p2)] dX11_termOf_84 (by decide) rfl ?_
          refine zg_iload X 3 rfl dX11_termOf_86 ?_
          refine zg_iconst X 5 dX11_termOf_88 (by decide) (fun v21 _ hv21 => ?_)
          replace E := zLet_s (zcst hv21 (by decide)) E
          refine zg_icmp_ne X 104 dX11_termOf_89 (by decide) (fun c22 => ?_) (fun c22 => ?_)
          · skip
            replace E := zIf_f c22 E
            refine zg_aload_n X 5 rfl dX11_termOf_104 ?_
            refine fg_X11_104 X hI ha0 dX11_termOf_105 (fun v23 ev23 hv23 => ?_)
            replace E := zLet_s (zgr ev23) E
            refine zg_iload_n X 2 rfl dX11_termOf_108 ?_
            refine zg_iconst X 1 dX11_termOf_109 (by decide) (fun v24 _ hv24 => ?_)
            replace E := zLet_s (zcst hv24 (by decide)) E
            refine zg_isub X dX11_termOf_110 (by omega) (by omega) (fun v25 ev25 hv25 => ?_)
            replace E := zLet_s ev25 E
            refine zg_iload X 3 rfl dX11_termOf_111 ?_
            refine zg_iconst X 2 dX11_termOf_113 (by decide) (fun v26 _ hv26 => ?_)
            replace E := zLet_s (zcst hv26 (by decide)) E
            refine zg_icmp_ne X 125 dX11_termOf_114 (by decide) (fun c27 => ?_) (fun c27 => ?_)
            · skip
              replace E := zIf_f c27 E
              refine zg_iload X 3 rfl dX11_termOf_125 ?_
              refine zg_iconst X 3 dX11_termOf_127 (by decide) (fun v28 _ hv28 => ?_)
              replace E := zLet_s (zcst hv28 (by decide)) E
              refine zg_icmp_ne X 139 dX11_termOf_128 (by decide) (fun c29 => ?_) (fun c29 => ?_)
              · skip
                replace E := zIf_f c29 E
                refine zg_iload X 3 rfl dX11_termOf_139 ?_
                refine zg_iconst X 4 dX11_termOf_141 (by decide) (fun v30 _ hv30 => ?_)
                replace E := zLet_s (zcst hv30 (by decide)) E
                refine zg_icmp_ne X 153 dX11_termOf_142 (by decide) (fun c31 => ?_) (fun c31 => ?_)
                · skip
                  replace E := zIf_f c31 E
                  refine zg_iload X 1 rfl dX11_termOf_153 ?_
                  refine zg_iload X 0 rfl dX11_termOf_155 ?_
                  refine zg_idivW X dX11_termOf_157 (by omega) (fun v32 ev32 => ?_)
                  replace E := zLet_s ev32 E
                  refine as_146 X hI hv23 (by omega) (by omega) dX11_termOf_158 (fun s33 es33 hI => ?_)
                  replace E := zLet_s es33 E
                  have g34 := (zSame.rf (o := a0) (Wf := []) (Wa := [146]) (L := L) (kd := kd) (σ := τ4)).a ha0 hv23 es33 rfl (by decide)
                  have hS := hS.tr g34 (by decide) (by decide)
                  have us33_39 := zp_same hI ha0 g34 39 rfl (by decide) (by decide)
                  have as33_39 := us33_39.trans A39_Lp4
                  have us33_40 := zp_same hI ha0 g34 40 rfl (by decide) (by decide)
                  have as33_40 := us33_40.trans A40_Lp4
                  refine zg_iinc X 1 (fun v35 => [(4, .int v35), (7, .int v20), (6, .int v18), (3, .int v14), (5, .int v10), (0, .ref a0), (1, .int p1), (2, .int p2)]) 4 dX11_termOf_159 rfl (by decide) (by decide) (by omega) (by omega) (fun _ => rfl) (fun v35 ev35 hv35 => ?_)
                  replace E := zLet_s (zinc ev35 (by decide)) E
                  rw [← hv35] at zc
                  refine zg_goto X 5 dX11_termOf_162 (by decide) ?_
                  refine zg_sub [0, 3, 5, 6, 7] rfl ?_
                  exact ihLp4 _ v35 v14 hI hS as33_39 as33_40 E  (by omega) (by omega) 
                · skip
                  replace E := zIf_t c31 E
                  refine zg_iload X 1 rfl dX11_termOf_145 ?_
                  refine zg_iload X 0 rfl dX11_termOf_147 ?_
                  refine zg_imulW X dX11_termOf_149 (fun v36 ev36 => ?_)
                  replace E := zLet_s ev36 E
                  refine zg_goto X 158 dX11_termOf_150 (by decide) ?_
                  refine as_146 X hI hv23 (by omega) (by omega) dX11_termOf_158 (fun s37 es37 hI => ?_)
                  replace E := zLet_s es37 E
                  have g38 := (zSame.rf (o := a0) (Wf := []) (Wa := [146]) (L := L) (kd := kd) (σ := τ4)).a ha0 hv23 es37 rfl (by decide)
                  have hS := hS.tr g38 (by decide) (by decide)
                  have us37_39 := zp_same hI ha0 g38 39 rfl (by decide) (by decide)
                  have as37_39 := us37_39.trans A39_Lp4
                  have us37_40 := zp_same hI ha0 g38 40 rfl (by decide) (by decide)
                  have as37_40 := us37_40.trans A40_Lp4
                  refine zg_iinc X 1 (fun v39 => [(4, .int v39), (7, .int v20), (6, .int v18), (3, .int v14), (5, .int v10), (0, .ref a0), (1, .int p1), (2, .int p2)]) 4 dX11_termOf_159 rfl (by decide) (by decide) (by omega) (by omega) (fun _ => rfl) (fun v39 ev39 hv39 => ?_)
                  replace E := zLet_s (zinc ev39 (by decide)) E
                  rw [← hv39] at zc
                  refine zg_goto X 5 dX11_termOf_162 (by decide) ?_
                  refine zg_sub [0, 3, 5, 6, 7] rfl ?_
                  exact ihLp4 _ v39 v14 hI hS as37_39 as37_40 E  (by omega) (by omega) 
              · skip
                replace E := zIf_t c29 E
                refine zg_iload X 1 rfl dX11_termOf_131 ?_
                refine zg_iload X 0 rfl dX11_termOf_133 ?_
                refine zg_isubW X dX11_termOf_135 (fun v40 ev40 => ?_)
                replace E := zLet_s ev40 E
                refine zg_goto X 158 dX11_termOf_136 (by decide) ?_
                refine as_146 X hI hv23 (by omega) (by omega) dX11_termOf_158 (fun s41 es41 hI => ?_)
                replace E := zLet_s es41 E
                have g42 := (zSame.rf (o := a0) (Wf := []) (Wa := [146]) (L := L) (kd := kd) (σ := τ4)).a ha0 hv23 es41 rfl (by decide)
                have hS := hS.tr g42 (by decide) (by decide)
                have us41_39 := zp_same hI ha0 g42 39 rfl (by decide) (by decide)
                have as41_39 := us41_39.trans A39_Lp4
                have us41_40 := zp_same hI ha0 g42 40 rfl (by decide) (by decide)
                have as41_40 := us41_40.trans A40_Lp4
                refine zg_iinc X 1 (fun v43 => [(4, .int v43), (7, .int v20), (6, .int v18), (3, .int v14), (5, .int v10), (0, .ref a0), (1, .int p1), (2, .int p2)]) 4 dX11_termOf_159 rfl (by decide) (by decide) (by omega) (by omega) (fun _ => rfl) (fun v43 ev43 hv43 => ?_)
                replace E := zLet_s (zinc ev43 (by decide)) E
                rw [← hv43] at zc
                refine zg_goto X 5 dX11_termOf_162 (by decide) ?_
                refine zg_sub [0, 3, 5, 6, 7] rfl ?_
                exact ihLp4 _ v43 v14 hI hS as41_39 as41_40 E  (by omega) (by omega) 
            · skip
              replace E := zIf_t c27 E
              refine zg_iload X 1 rfl dX11_termOf_117 ?_
              refine zg_iload X 0 rfl dX11_termOf_119 ?_
              refine zg_iaddW X dX11_termOf_121 (fun v44 ev44 => ?_)
              replace E := zLet_s ev44 E
              refine zg_goto X 158 dX11_termOf_122 (by decide) ?_
              refine as_146 X hI hv23 (by omega) (by omega) dX11_termOf_158 (fun s45 es45 hI => ?_)
              replace E := zLet_s es45 E
              have g46 := (zSame.rf (o := a0) (Wf := []) (Wa := [146]) (L := L) (kd := kd) (σ := τ4)).a ha0 hv23 es45 rfl (by decide)
              have hS := hS.tr g46 (by decide) (by decide)
              have us45_39 := zp_same hI ha0 g46 39 rfl (by decide) (by decide)
              have as45_39 := us45_39.trans A39_Lp4
              have us45_40 := zp_same hI ha0 g46 40 rfl (by decide) (by decide)
              have as45_40 := us45_40.trans A40_Lp4
              refine zg_iinc X 1 (fun v47 => [(4, .int v47), (7, .int v20), (6, .int v18), (3, .int v14), (5, .int v10), (0, .ref a0), (1, .int p1), (2, .int p2)]) 4 dX11_termOf_159 rfl (by decide) (by decide) (by omega) (by omega) (fun _ => rfl) (fun v47 ev47 hv47 => ?_)
              replace E := zLet_s (zinc ev47 (by decide)) E
              rw [← hv47] at zc
              refine zg_goto X 5 dX11_termOf_162 (by decide) ?_
              refine zg_sub [0, 3, 5, 6, 7] rfl ?_
              exact ihLp4 _ v47 v14 hI hS as45_39 as45_40 E  (by omega) (by omega) 
          · skip
            replace E := zIf_t c22 E
            refine zg_iload X 0 rfl dX11_termOf_92 ?_
            refine zg_if_ne X 104 dX11_termOf_94 (by decide) (fun c48 => ?_) (fun c48 => ?_)
            · skip
              replace E := zIf_f c48 E
              refine zg_aload_n X 5 rfl dX11_termOf_104 ?_
              refine fg_X11_104 X hI ha0 dX11_termOf_105 (fun v49 ev49 hv49 => ?_)
              replace E := zLet_s (zgr ev49) E
              refine zg_iload_n X 2 rfl dX11_termOf_108 ?_
              refine zg_iconst X 1 dX11_termOf_109 (by decide) (fun v50 _ hv50 => ?_)
              replace E := zLet_s (zcst hv50 (by decide)) E
              refine zg_isub X dX11_termOf_110 (by omega) (by omega) (fun v51 ev51 hv51 => ?_)
              replace E := zLet_s ev51 E
              refine zg_iload X 3 rfl dX11_termOf_111 ?_
              refine zg_iconst X 2 dX11_termOf_113 (by decide) (fun v52 _ hv52 => ?_)
              replace E := zLet_s (zcst hv52 (by decide)) E
              refine zg_icmp_ne X 125 dX11_termOf_114 (by decide) (fun c53 => ?_) (fun c53 => ?_)
              · skip
                replace E := zIf_f c53 E
                refine zg_iload X 3 rfl dX11_termOf_125 ?_
                refine zg_iconst X 3 dX11_termOf_127 (by decide) (fun v54 _ hv54 => ?_)
                replace E := zLet_s (zcst hv54 (by decide)) E
                refine zg_icmp_ne X 139 dX11_termOf_128 (by decide) (fun c55 => ?_) (fun c55 => ?_)
                · skip
                  replace E := zIf_f c55 E
                  refine zg_iload X 3 rfl dX11_termOf_139 ?_
                  refine zg_iconst X 4 dX11_termOf_141 (by decide) (fun v56 _ hv56 => ?_)
                  replace E := zLet_s (zcst hv56 (by decide)) E
                  refine zg_icmp_ne X 153 dX11_termOf_142 (by decide) (fun c57 => ?_) (fun c57 => ?_)
                  · skip
                    replace E := zIf_f c57 E
                    refine zg_iload X 1 rfl dX11_termOf_153 ?_
                    refine zg_iload X 0 rfl dX11_termOf_155 ?_
                    refine zg_idivW X dX11_termOf_157 (by omega) (fun v58 ev58 => ?_)
                    replace E := zLet_s ev58 E
                    refine as_146 X hI hv49 (by omega) (by omega) dX11_termOf_158 (fun s59 es59 hI => ?_)
                    replace E := zLet_s es59 E
                    have g60 := (zSame.rf (o := a0) (Wf := []) (Wa := [146]) (L := L) (kd := kd) (σ := τ4)).a ha0 hv49 es59 rfl (by decide)
                    have hS := hS.tr g60 (by decide) (by decide)
                    have us59_39 := zp_same hI ha0 g60 39 rfl (by decide) (by decide)
                    have as59_39 := us59_39.trans A39_Lp4
                    have us59_40 := zp_same hI ha0 g60 40 rfl (by decide) (by decide)
                    have as59_40 := us59_40.trans A40_Lp4
                    refine zg_iinc X 1 (fun v61 => [(4, .int v61), (7, .int v20), (6, .int v18), (3, .int v14), (5, .int v10), (0, .ref a0), (1, .int p1), (2, .int p2)]) 4 dX11_termOf_159 rfl (by decide) (by decide) (by omega) (by omega) (fun _ => rfl) (fun v61 ev61 hv61 => ?_)
                    replace E := zLet_s (zinc ev61 (by decide)) E
                    rw [← hv61] at zc
                    refine zg_goto X 5 dX11_termOf_162 (by decide) ?_
                    refine zg_sub [0, 3, 5, 6, 7] rfl ?_
                    exact ihLp4 _ v61 v14 hI hS as59_39 as59_40 E  (by omega) (by omega) 
                  · omega
                · omega
              · omega
            · skip
              replace E := zIf_t c48 E
              refine zg_aload_n X 5 rfl dX11_termOf_97 ?_
              refine zg_iconst X 1 dX11_termOf_98 (by decide) (fun v62 _ hv62 => ?_)
              replace E := zLet_s (zcst hv62 (by decide)) E
              refine fp_X11_310 X hI ha0 ⟨by omega, by omega⟩ dX11_termOf_99 (fun s63 es63 hI => ?_)
              replace E := zLet_s es63 E
              have g64 := (zSame.rf (o := a0) (Wf := [47]) (Wa := []) (L := L) (kd := kd) (σ := τ4)).f ha0 es63 rfl
              have hS := hS.tr g64 (by decide) (by decide)
              have us63_39 := zp_same hI ha0 g64 39 rfl (by decide) (by decide)
              have as63_39 := us63_39.trans A39_Lp4
              have us63_40 := zp_same hI ha0 g64 40 rfl (by decide) (by decide)
              have as63_40 := us63_40.trans A40_Lp4
              have fs63_47 : (s63.1 a0 47).toInt = v62.toInt := by rw [es63]; exact congrArg _ (zu_s _ _ _ _)
              have e65 : v62 = s63.1 a0 47 := by rw [es63]; exact zm_s
              refine zg_iconst X 0 dX11_termOf_102 (by decide) (fun v66 _ hv66 => ?_)
              replace E := zLet_s (zcst hv66 (by decide)) E
              exact ret _ _ _ _ dX11_termOf_103 rfl ⟨E.symm.trans hR, ⟨hI, hS⟩⟩
        · skip
          replace E := zIf_t c13 E
          refine zg_aload_n X 3 rfl dX11_termOf_26 ?_
          refine fg_X11_104 X hI ha0 dX11_termOf_27 (fun v67 ev67 hv67 => ?_)
          replace E := zLet_s (zgr ev67) E
          refine zg_iload_n X 2 rfl dX11_termOf_30 ?_
          refine zg_iload X 0 rfl dX11_termOf_31 ?_
          refine zg_if_ne X 46 dX11_termOf_33 (by decide) (fun c68 => ?_) (fun c68 => ?_)
          · skip
            replace E := zIf_f c68 E
            refine zg_aload_n X 3 rfl dX11_termOf_46 ?_
            refine fg_X11_101 X hI ha0 dX11_termOf_47 (fun v69 ev69 hv69 => ?_)
            replace E := zLet_s (zgr ev69) E
            refine zg_aload_n X 3 rfl dX11_termOf_50 ?_
            refine fg_X11_95 X hI ha0 dX11_termOf_51 (fun v70 ev70 hv70 => ?_)
            replace E := zLet_s (zgr ev70) E
            refine zg_iload X 1 rfl dX11_termOf_54 ?_
            refine ag_140 X hI hv70 (by omega) (by omega) dX11_termOf_56 (fun v71 ev71 _ => ?_)
            replace E := zLet_s ev71 E
            have qv71 := zp_ld ev70 ev71
            rw [A40_Lp4] at qv71
            refine ag_145 X hI hv69 (by omega) (by omega) dX11_termOf_57 (fun v72 ev72 _ => ?_)
            replace E := zLet_s ev72 E
            refine as_146 X hI hv67 (by omega) (by omega) dX11_termOf_58 (fun s73 es73 hI => ?_)
            replace E := zLet_s es73 E
            have g74 := (zSame.rf (o := a0) (Wf := []) (Wa := [146]) (L := L) (kd := kd) (σ := τ4)).a ha0 hv67 es73 rfl (by decide)
            have hS := hS.tr g74 (by decide) (by decide)
            have us73_39 := zp_same hI ha0 g74 39 rfl (by decide) (by decide)
            have as73_39 := us73_39.trans A39_Lp4
            have us73_40 := zp_same hI ha0 g74 40 rfl (by decide) (by decide)
            have as73_40 := us73_40.trans A40_Lp4
            refine zg_iinc X 1 (fun v75 => [(3, .int v75), (5, .int v10), (4, .int x2), (0, .ref a0), (1, .int p1), (2, .int p2)]) 2 dX11_termOf_59 rfl (by decide) (by decide) (by omega) (by omega) (fun _ => rfl) (fun v75 ev75 hv75 => ?_)
            replace E := zLet_s (zinc ev75 (by decide)) E
            refine zg_goto X 159 dX11_termOf_62 (by decide) ?_
            refine zg_iinc X 1 (fun v76 => [(4, .int v76), (3, .int v75), (5, .int v10), (0, .ref a0), (1, .int p1), (2, .int p2)]) 2 dX11_termOf_159 rfl (by decide) (by decide) (by omega) (by omega) (fun _ => rfl) (fun v76 ev76 hv76 => ?_)
            replace E := zLet_s (zinc ev76 (by decide)) E
            rw [← hv76] at zc
            refine zg_goto X 5 dX11_termOf_162 (by decide) ?_
            refine zg_sub [0, 1, 3, 4, 5] rfl ?_
            exact ihLp4 _ v76 v75 hI hS as73_39 as73_40 E  (by omega) (by omega) 
          · skip
            replace E := zIf_t c68 E
            refine zg_aload_n X 3 rfl dX11_termOf_36 ?_
            refine fg_X11_95 X hI ha0 dX11_termOf_37 (fun v77 ev77 hv77 => ?_)
            replace E := zLet_s (zgr ev77) E
            refine zg_iload X 1 rfl dX11_termOf_40 ?_
            refine ag_140 X hI hv77 (by omega) (by omega) dX11_termOf_42 (fun v78 ev78 _ => ?_)
            replace E := zLet_s ev78 E
            have qv78 := zp_ld ev77 ev78
            rw [A40_Lp4] at qv78
            refine zg_goto X 58 dX11_termOf_43 (by decide) ?_
            refine as_146 X hI hv67 (by omega) (by omega) dX11_termOf_58 (fun s79 es79 hI => ?_)
            replace E := zLet_s es79 E
            have g80 := (zSame.rf (o := a0) (Wf := []) (Wa := [146]) (L := L) (kd := kd) (σ := τ4)).a ha0 hv67 es79 rfl (by decide)
            have hS := hS.tr g80 (by decide) (by decide)
            have us79_39 := zp_same hI ha0 g80 39 rfl (by decide) (by decide)
            have as79_39 := us79_39.trans A39_Lp4
            have us79_40 := zp_same hI ha0 g80 40 rfl (by decide) (by decide)
            have as79_40 := us79_40.trans A40_Lp4
            refine zg_iinc X 1 (fun v81 => [(3, .int v81), (5, .int v10), (4, .int x2), (0, .ref a0), (1, .int p1), (2, .int p2)]) 2 dX11_termOf_59 rfl (by decide) (by decide) (by omega) (by omega) (fun _ => rfl) (fun v81 ev81 hv81 => ?_)
            replace E := zLet_s (zinc ev81 (by decide)) E
            refine zg_goto X 159 dX11_termOf_62 (by decide) ?_
            refine zg_iinc X 1 (fun v82 => [(4, .int v82), (3, .int v81), (5, .int v10), (0, .ref a0), (1, .int p1), (2, .int p2)]) 2 dX11_termOf_159 rfl (by decide) (by decide) (by omega) (by omega) (fun _ => rfl) (fun v82 ev82 hv82 => ?_)
            replace E := zLet_s (zinc ev82 (by decide)) E
            rw [← hv82] at zc
            refine zg_goto X 5 dX11_termOf_162 (by decide) ?_
            refine zg_sub [0, 1, 3, 4, 5] rfl ?_
            exact ihLp4 _ v82 v81 hI hS as79_39 as79_40 E  (by omega) (by omega) 
  refine zg_sub [0, 1, 2, 3, 4] rfl ?_
  exact Lp4 10000 _ p1 v1 hI hS rfl rfl E  (by omega) (by omega) 
set_option maxHeartbeats 4000000 in
set_option maxRecDepth 100000 in
theorem t_X11_lawTells (l : Launch) (d : zD2) (L : List Nat) (kd : Nat → Nat) (κ : Int) (σ : zS) (hI : zJ κ L kd σ) (a0 : Nat) (ha0 : zT L kd a0 11) (p1 : Int32) (p2 : Int32) (hq0 : 0 ≤ p1.toInt ∧ p1.toInt ≤ 4) (hgL : gL a0 σ) : zMi l yX11_lawTells (Cond.code yX11_lawTells cX11_lawTells 7 (some .int) :: zWL) 1 [.ref a0, .int p1, .int p2] d L kd σ (fun v σ2 => (v, σ2) = F_X11_lawTells a0 p1 p2 σ ∧ (zJ κ L kd σ2 ∧ zSame a0 [47] [146] L kd σ σ2)) := by
  refine zMi.of (own := RX11) (by decide +kernel) rfl rfl (Nat.le_of_ble_eq_true rfl) ?_
  intro p e s m args below meth c A Q X ret
  have hS : zSame a0 [47] [146] L kd σ σ := zSame.rf
  refine zg_lv (lv2 := [(0, .ref a0), (1, .int p1), (2, .int p2)]) rfl ?_
  obtain ⟨R, hR⟩ : ∃ R, R = F_X11_lawTells a0 p1 p2 σ := ⟨_, rfl⟩
  have E := hR
  unfold F_X11_lawTells at E
  refine zg_iconst X 5 dX11_lawTells_0 (by decide) (fun v1 _ hv1 => ?_)
  replace E := zLet_s (zcst hv1 (by decide)) E
  refine zg_aload_n X 0 rfl dX11_lawTells_1 ?_
  refine fg_X11_236 X hI ha0 dX11_lawTells_2 (fun v2 ev2 hv2 => ?_)
  replace E := zLet_s ev2 E
  have kv2 : (σ.1 a0 18).toInt = v2.toInt := by rw [ev2]
  refine zg_imulc X 5 dX11_lawTells_5 (by omega) (by omega) (by omega) (fun v3 ev3 hv3 => ?_)
  replace E := zLet_s ev3 E
  refine zg_iload_n X 1 rfl dX11_lawTells_6 ?_
  refine zg_iadd X dX11_lawTells_7 (by omega) (by omega) (fun v4 ev4 hv4 => ?_)
  replace E := zLet_s ev4 E
  refine zg_istore_n X [(3, .int v4), (0, .ref a0), (1, .int p1), (2, .int p2)] dX11_lawTells_8 (by decide) rfl ?_
  refine zg_aload_n X 1 rfl dX11_lawTells_9 ?_
  refine fg_X11_70 X hI ha0 dX11_lawTells_10 (fun v5 ev5 hv5 => ?_)
  replace E := zLet_s (zgr ev5) E
  refine zg_iload_n X 0 rfl dX11_lawTells_13 ?_
  refine ag_130 X hI hv5 (by omega) (by omega) dX11_lawTells_14 (fun v6 ev6 _ => ?_)
  replace E := zLet_s ev6 E
  have qv6 := zp_ld ev5 ev6
  refine zg_aload_n X 1 rfl dX11_lawTells_15 ?_
  refine fg_X11_73 X hI ha0 dX11_lawTells_16 (fun v7 ev7 hv7 => ?_)
  replace E := zLet_s (zgr ev7) E
  refine zg_iload_n X 0 rfl dX11_lawTells_19 ?_
  refine ag_131 X hI hv7 (by omega) (by omega) dX11_lawTells_20 (fun v8 ev8 _ => ?_)
  replace E := zLet_s ev8 E
  have qv8 := zp_ld ev7 ev8
  refine zg_icmp_ne X 26 dX11_lawTells_21 (by decide) (fun c9 => ?_) (fun c9 => ?_)
  · skip
    replace E := zIf_f c9 E
    refine zg_aload_n X 1 rfl dX11_lawTells_26 ?_
    refine zg_iconst X 0 dX11_lawTells_27 (by decide) (fun v10 _ hv10 => ?_)
    replace E := zLet_s (zcst hv10 (by decide)) E
    refine fp_X11_310 X hI ha0 ⟨by omega, by omega⟩ dX11_lawTells_28 (fun s11 es11 hI => ?_)
    replace E := zLet_s es11 E
    have g12 := (zSame.rf (o := a0) (Wf := [47]) (Wa := []) (L := L) (kd := kd) (σ := σ)).f ha0 es11 rfl
    have fs11_18 : (s11.1 a0 18).toInt = (σ.1 a0 18).toInt := by rw [g12.2.1 18 (by decide)]
    have hS := hS.tr g12 (by decide) (by decide)
    have us11_30 := zp_same hI ha0 g12 30 rfl (by decide) (by decide)
    have as11_30 := us11_30
    have us11_31 := zp_same hI ha0 g12 31 rfl (by decide) (by decide)
    have as11_31 := us11_31
    have us11_33 := zp_same hI ha0 g12 33 rfl (by decide) (by decide)
    have as11_33 := us11_33
    have us11_34 := zp_same hI ha0 g12 34 rfl (by decide) (by decide)
    have as11_34 := us11_34
    have us11_35 := zp_same hI ha0 g12 35 rfl (by decide) (by decide)
    have as11_35 := us11_35
    have us11_36 := zp_same hI ha0 g12 36 rfl (by decide) (by decide)
    have as11_36 := us11_36
    have us11_37 := zp_same hI ha0 g12 37 rfl (by decide) (by decide)
    have as11_37 := us11_37
    have us11_39 := zp_same hI ha0 g12 39 rfl (by decide) (by decide)
    have as11_39 := us11_39
    have us11_40 := zp_same hI ha0 g12 40 rfl (by decide) (by decide)
    have as11_40 := us11_40
    have gLs11 := gL.same hI ha0 g12 (by decide) hgL
    have e13 := g12.v ev2 (by decide)
    have fs11_47 : (s11.1 a0 47).toInt = v10.toInt := by rw [es11]; exact congrArg _ (zu_s _ _ _ _)
    have e14 : v10 = s11.1 a0 47 := by rw [es11]; exact zm_s
    refine zg_aload_n X 1 rfl dX11_lawTells_31 ?_
    refine fg_X11_70 X hI ha0 dX11_lawTells_32 (fun v15 ev15 hv15 => ?_)
    replace E := zLet_s (zgr ev15) E
    refine zg_iload_n X 0 rfl dX11_lawTells_35 ?_
    refine ag_130 X hI hv15 (by omega) (by omega) dX11_lawTells_36 (fun v16 ev16 _ => ?_)
    replace E := zLet_s ev16 E
    have qv16 := zp_ld ev15 ev16
    rw [as11_30] at qv16
    refine zg_istore X [(4, .int v16), (3, .int v4), (0, .ref a0), (1, .int p1), (2, .int p2)] dX11_lawTells_37 (by decide) rfl ?_
    have Lp18 : ∀ (nLp18 : Nat) (τ18 : zS) (x17 : Int32), zJ κ L kd τ18 → zSame a0 [47] [146] L kd σ τ18 → gL a0 τ18 → (τ18.1 a0 18).toInt = (σ.1 a0 18).toInt → zp a0 τ18 30 = zp a0 σ 30 → zp a0 τ18 31 = zp a0 σ 31 → zp a0 τ18 33 = zp a0 σ 33 → zp a0 τ18 34 = zp a0 σ 34 → zp a0 τ18 35 = zp a0 σ 35 → zp a0 τ18 36 = zp a0 σ 36 → zp a0 τ18 37 = zp a0 σ 37 → zp a0 τ18 39 = zp a0 σ 39 → zp a0 τ18 40 = zp a0 σ 40 → R = F_X11_lawTells_39 v4 a0 p1 p2  nLp18 x17 τ18 → zp a0 σ 30 v4.toInt ≤ x17.toInt → max (zp a0 σ 31 v4.toInt - x17.toInt) 0 < (nLp18 : Int) → zG d L kd A 7 p l e (k2_rm 1 (100 * 1)) s m args below meth c Q τ18 39 [(4, .int x17), (3, .int v4), (0, .ref a0), (1, .int p1), (2, .int p2)] [] := by
      intro nLp18
      induction nLp18 with
      | zero => intro τ18 x17 hI hS gL_Lp18 T18_Lp18 A30_Lp18 A31_Lp18 A33_Lp18 A34_Lp18 A35_Lp18 A36_Lp18 A37_Lp18 A39_Lp18 A40_Lp18 E  hxLp18 hm ; exact absurd hm (by omega)
      | succ nLp18 ihLp18 =>
        intro τ18 x17 hI hS gL_Lp18 T18_Lp18 A30_Lp18 A31_Lp18 A33_Lp18 A34_Lp18 A35_Lp18 A36_Lp18 A37_Lp18 A39_Lp18 A40_Lp18 E  hxLp18 hmLp18 
        rw [F_X11_lawTells_39] at E
        refine zg_iload X 0 rfl dX11_lawTells_39 ?_
        refine zg_aload_n X 2 rfl dX11_lawTells_41 ?_
        refine fg_X11_73 X hI ha0 dX11_lawTells_42 (fun v19 ev19 hv19 => ?_)
        replace E := zLet_s (zgr ev19) E
        refine zg_iload_n X 1 rfl dX11_lawTells_45 ?_
        refine ag_131 X hI hv19 (by omega) (by omega) dX11_lawTells_46 (fun v20 ev20 _ => ?_)
        replace E := zLet_s ev20 E
        have qv20 := zp_ld ev19 ev20
        rw [A31_Lp18] at qv20
        have zx17_z21 := zb_rng x17
        have zv20_z22 := zb_rng v20
        refine zg_icmp_ge X 159 dX11_lawTells_47 (by decide) (fun c23 => ?_) (fun c23 => ?_)
        · skip
          replace E := zIf_f (Int.not_lt.mpr c23) E
          refine zg_iconst X 0 dX11_lawTells_159 (by decide) (fun v24 _ hv24 => ?_)
          replace E := zLet_s (zcst hv24 (by decide)) E
          exact ret _ _ _ _ dX11_lawTells_160 rfl ⟨E.symm.trans hR, ⟨hI, hS⟩⟩
        · skip
          replace E := zIf_t c23 E
          have zb := gL_at hgL (k := p1.toInt) (a := v4.toInt) (b := x17.toInt) (by omega) (by omega) (by omega) (by omega) (by omega) (by omega) (by omega)
          refine zg_aload_n X 2 rfl dX11_lawTells_50 ?_
          refine fg_X11_76 X hI ha0 dX11_lawTells_51 (fun v25 ev25 hv25 => ?_)
          replace E := zLet_s (zgr ev25) E
          refine zg_iload X 0 rfl dX11_lawTells_54 ?_
          refine ag_133 X hI hv25 (by omega) (by omega) dX11_lawTells_56 (fun v26 ev26 hv26 => ?_)
          replace E := zLet_s ev26 E
          have qv26 := zp_ld ev25 ev26
          rw [A33_Lp18] at qv26
          refine zg_if_eq X 119 dX11_lawTells_57 (by decide) (fun c27 => ?_) (fun c27 => ?_)
          · skip
            replace E := zIf_t c27 E
            refine zg_aload_n X 2 rfl dX11_lawTells_119 ?_
            refine zg_aload_n X 2 rfl dX11_lawTells_120 ?_
            refine fg_X11_86 X hI ha0 dX11_lawTells_121 (fun v28 ev28 hv28 => ?_)
            replace E := zLet_s (zgr ev28) E
            refine zg_iload X 0 rfl dX11_lawTells_124 ?_
            refine ag_136 X hI hv28 (by omega) (by omega) dX11_lawTells_126 (fun v29 ev29 _ => ?_)
            replace E := zLet_s ev29 E
            have qv29 := zp_ld ev28 ev29
            rw [A36_Lp18] at qv29
            refine zg_aload_n X 2 rfl dX11_lawTells_127 ?_
            refine fg_X11_89 X hI ha0 dX11_lawTells_128 (fun v30 ev30 hv30 => ?_)
            replace E := zLet_s (zgr ev30) E
            refine zg_iload X 0 rfl dX11_lawTells_131 ?_
            refine ag_137 X hI hv30 (by omega) (by omega) dX11_lawTells_133 (fun v31 ev31 _ => ?_)
            replace E := zLet_s ev31 E
            have qv31 := zp_ld ev30 ev31
            rw [A37_Lp18] at qv31
            refine zg_cVi (As := [.int v29, .int v31]) (st := []) X ha0 rfl (by decide) rfl (t_X11_termOf l d L kd κ _ hI a0 ha0 v29 v31  (by rw [A39_Lp18, A40_Lp18, qv29, qv31]; exact zb.2.2.1)) mk_X11_348 mc_X11_termOf mz_X11 mi_X11_termOf ml_X11_termOf (na := 2) ⟨md_X11.1, md_X11.2, by decide +kernel⟩ rfl ⟨by decide, by decide⟩ (Nat.le_of_ble_eq_true rfl) dX11_lawTells_134 (fun v33 t32 hq => ?_)
            obtain ⟨hF, hI, g34⟩ := hq
            replace E := zLet2_s hF E
            have ft32_18 : (t32.1 a0 18).toInt = (τ18.1 a0 18).toInt := by rw [g34.2.1 18 (by decide)]
            have hS := hS.tr g34 (by decide) (by decide)
            have ut32_30 := zp_same hI ha0 g34 30 rfl (by decide) (by decide)
            have at32_30 := ut32_30.trans A30_Lp18
            have ut32_31 := zp_same hI ha0 g34 31 rfl (by decide) (by decide)
            have at32_31 := ut32_31.trans A31_Lp18
            have ut32_33 := zp_same hI ha0 g34 33 rfl (by decide) (by decide)
            have at32_33 := ut32_33.trans A33_Lp18
            have ut32_34 := zp_same hI ha0 g34 34 rfl (by decide) (by decide)
            have at32_34 := ut32_34.trans A34_Lp18
            have ut32_35 := zp_same hI ha0 g34 35 rfl (by decide) (by decide)
            have at32_35 := ut32_35.trans A35_Lp18
            have ut32_36 := zp_same hI ha0 g34 36 rfl (by decide) (by decide)
            have at32_36 := ut32_36.trans A36_Lp18
            have ut32_37 := zp_same hI ha0 g34 37 rfl (by decide) (by decide)
            have at32_37 := ut32_37.trans A37_Lp18
            have ut32_39 := zp_same hI ha0 g34 39 rfl (by decide) (by decide)
            have at32_39 := ut32_39.trans A39_Lp18
            have ut32_40 := zp_same hI ha0 g34 40 rfl (by decide) (by decide)
            have at32_40 := ut32_40.trans A40_Lp18
            have gLt32 := gL.same hI ha0 g34 (by decide) gL_Lp18
            refine zg_istore X [(5, .int v33), (4, .int x17), (3, .int v4), (0, .ref a0), (1, .int p1), (2, .int p2)] dX11_lawTells_137 (by decide) rfl ?_
            refine zg_aload_n X 3 rfl dX11_lawTells_139 ?_
            refine fg_X11_310 X hI ha0 dX11_lawTells_140 (fun v35 ev35 hv35 => ?_)
            replace E := zLet_s ev35 E
            refine zg_if_eq X 150 dX11_lawTells_143 (by decide) (fun c36 => ?_) (fun c36 => ?_)
            · skip
              replace E := zIf_t c36 E
              refine zg_iload X 0 rfl dX11_lawTells_150 ?_
              exact ret _ _ _ _ dX11_lawTells_152 rfl ⟨E.symm.trans hR, ⟨hI, hS⟩⟩
            · skip
              replace E := zIf_f c36 E
              refine zg_iconst X 0 dX11_lawTells_146 (by decide) (fun v37 _ hv37 => ?_)
              replace E := zLet_s (zcst hv37 (by decide)) E
              refine zg_goto X 152 dX11_lawTells_147 (by decide) ?_
              exact ret _ _ _ _ dX11_lawTells_152 rfl ⟨E.symm.trans hR, ⟨hI, hS⟩⟩
          · skip
            replace E := zIf_f c27 E
            refine zg_aload_n X 2 rfl dX11_lawTells_60 ?_
            refine zg_aload_n X 2 rfl dX11_lawTells_61 ?_
            refine fg_X11_80 X hI ha0 dX11_lawTells_62 (fun v38 ev38 hv38 => ?_)
            replace E := zLet_s (zgr ev38) E
            refine zg_iload X 0 rfl dX11_lawTells_65 ?_
            refine ag_134 X hI hv38 (by omega) (by omega) dX11_lawTells_67 (fun v39 ev39 _ => ?_)
            replace E := zLet_s ev39 E
            have qv39 := zp_ld ev38 ev39
            rw [A34_Lp18] at qv39
            refine zg_aload_n X 2 rfl dX11_lawTells_68 ?_
            refine fg_X11_83 X hI ha0 dX11_lawTells_69 (fun v40 ev40 hv40 => ?_)
            replace E := zLet_s (zgr ev40) E
            refine zg_iload X 0 rfl dX11_lawTells_72 ?_
            refine ag_135 X hI hv40 (by omega) (by omega) dX11_lawTells_74 (fun v41 ev41 _ => ?_)
            replace E := zLet_s ev41 E
            have qv41 := zp_ld ev40 ev41
            rw [A35_Lp18] at qv41
            refine zg_cVi (As := [.int v39, .int v41]) (st := []) X ha0 rfl (by decide) rfl (t_X11_termOf l d L kd κ _ hI a0 ha0 v39 v41  (by rw [A39_Lp18, A40_Lp18, qv39, qv41]; exact (zb.2.1 (by omega)).1)) mk_X11_348 mc_X11_termOf mz_X11 mi_X11_termOf ml_X11_termOf (na := 2) ⟨md_X11.1, md_X11.2, by decide +kernel⟩ rfl ⟨by decide, by decide⟩ (Nat.le_of_ble_eq_true rfl) dX11_lawTells_75 (fun v43 t42 hq => ?_)
            obtain ⟨hF, hI, g44⟩ := hq
            replace E := zLet2_s hF E
            have ft42_18 : (t42.1 a0 18).toInt = (τ18.1 a0 18).toInt := by rw [g44.2.1 18 (by decide)]
            have hS := hS.tr g44 (by decide) (by decide)
            have ut42_30 := zp_same hI ha0 g44 30 rfl (by decide) (by decide)
            have at42_30 := ut42_30.trans A30_Lp18
            have ut42_31 := zp_same hI ha0 g44 31 rfl (by decide) (by decide)
            have at42_31 := ut42_31.trans A31_Lp18
            have ut42_33 := zp_same hI ha0 g44 33 rfl (by decide) (by decide)
            have at42_33 := ut42_33.trans A33_Lp18
            have ut42_34 := zp_same hI ha0 g44 34 rfl (by decide) (by decide)
            have at42_34 := ut42_34.trans A34_Lp18
            have ut42_35 := zp_same hI ha0 g44 35 rfl (by decide) (by decide)
            have at42_35 := ut42_35.trans A35_Lp18
            have ut42_36 := zp_same hI ha0 g44 36 rfl (by decide) (by decide)
            have at42_36 := ut42_36.trans A36_Lp18
            have ut42_37 := zp_same hI ha0 g44 37 rfl (by decide) (by decide)
            have at42_37 := ut42_37.trans A37_Lp18
            have ut42_39 := zp_same hI ha0 g44 39 rfl (by decide) (by decide)
            have at42_39 := ut42_39.trans A39_Lp18
            have ut42_40 := zp_same hI ha0 g44 40 rfl (by decide) (by decide)
            have at42_40 := ut42_40.trans A40_Lp18
            have gLt42 := gL.same hI ha0 g44 (by decide) gL_Lp18
            refine zg_istore X [(5, .int v43), (4, .int x17), (3, .int v4), (0, .ref a0), (1, .int p1), (2, .int p2)] dX11_lawTells_78 (by decide) rfl ?_
            refine zg_aload_n X 3 rfl dX11_lawTells_80 ?_
            refine zg_aload_n X 3 rfl dX11_lawTells_81 ?_
            refine fg_X11_83 X hI ha0 dX11_lawTells_82 (fun v45 ev45 hv45 => ?_)
            replace E := zLet_s (zgr ev45) E
            refine zg_iload X 1 rfl dX11_lawTells_85 ?_
            refine ag_135 X hI hv45 (by omega) (by omega) dX11_lawTells_87 (fun v46 ev46 _ => ?_)
            replace E := zLet_s ev46 E
            have qv46 := zp_ld ev45 ev46
            rw [at42_35] at qv46
            refine zg_aload_n X 3 rfl dX11_lawTells_88 ?_
            refine fg_X11_86 X hI ha0 dX11_lawTells_89 (fun v47 ev47 hv47 => ?_)
            replace E := zLet_s (zgr ev47) E
            refine zg_iload X 1 rfl dX11_lawTells_92 ?_
            refine ag_136 X hI hv47 (by omega) (by omega) dX11_lawTells_94 (fun v48 ev48 _ => ?_)
            replace E := zLet_s ev48 E
            have qv48 := zp_ld ev47 ev48
            rw [at42_36] at qv48
            refine zg_cVi (As := [.int v46, .int v48]) (st := []) X ha0 rfl (by decide) rfl (t_X11_termOf l d L kd κ _ hI a0 ha0 v46 v48  (by rw [at42_39, at42_40, qv46, qv48]; exact (zb.2.1 (by omega)).2.1)) mk_X11_348 mc_X11_termOf mz_X11 mi_X11_termOf ml_X11_termOf (na := 2) ⟨md_X11.1, md_X11.2, by decide +kernel⟩ rfl ⟨by decide, by decide⟩ (Nat.le_of_ble_eq_true rfl) dX11_lawTells_95 (fun v50 t49 hq => ?_)
            obtain ⟨hF, hI, g51⟩ := hq
            replace E := zLet2_s hF E
            have ft49_18 : (t49.1 a0 18).toInt = (t42.1 a0 18).toInt := by rw [g51.2.1 18 (by decide)]
            have hS := hS.tr g51 (by decide) (by decide)
            have ut49_30 := zp_same hI ha0 g51 30 rfl (by decide) (by decide)
            have at49_30 := ut49_30.trans at42_30
            have ut49_31 := zp_same hI ha0 g51 31 rfl (by decide) (by decide)
            have at49_31 := ut49_31.trans at42_31
            have ut49_33 := zp_same hI ha0 g51 33 rfl (by decide) (by decide)
            have at49_33 := ut49_33.trans at42_33
            have ut49_34 := zp_same hI ha0 g51 34 rfl (by decide) (by decide)
            have at49_34 := ut49_34.trans at42_34
            have ut49_35 := zp_same hI ha0 g51 35 rfl (by decide) (by decide)
            have at49_35 := ut49_35.trans at42_35
            have ut49_36 := zp_same hI ha0 g51 36 rfl (by decide) (by decide)
            have at49_36 := ut49_36.trans at42_36
            have ut49_37 := zp_same hI ha0 g51 37 rfl (by decide) (by decide)
            have at49_37 := ut49_37.trans at42_37
            have ut49_39 := zp_same hI ha0 g51 39 rfl (by decide) (by decide)
            have at49_39 := ut49_39.trans at42_39
            have ut49_40 := zp_same hI ha0 g51 40 rfl (by decide) (by decide)
            have at49_40 := ut49_40.trans at42_40
            have gLt49 := gL.same hI ha0 g51 (by decide) gLt42
            refine zg_istore X [(6, .int v50), (5, .int v43), (4, .int x17), (3, .int v4), (0, .ref a0), (1, .int p1), (2, .int p2)] dX11_lawTells_98 (by decide) rfl ?_
            refine zg_aload_n X 4 rfl dX11_lawTells_100 ?_
            refine fg_X11_310 X hI ha0 dX11_lawTells_101 (fun v52 ev52 hv52 => ?_)
            replace E := zLet_s ev52 E
            refine zg_if_eq X 109 dX11_lawTells_104 (by decide) (fun c53 => ?_) (fun c53 => ?_)
            · skip
              replace E := zIf_t c53 E
              refine zg_iload X 1 rfl dX11_lawTells_109 ?_
              refine zg_iload X 0 rfl dX11_lawTells_111 ?_
              have zv43_z54 := zb_rng v43
              have zv50_z55 := zb_rng v50
              refine zg_icmp_lt X 119 dX11_lawTells_113 (by decide) (fun c56 => ?_) (fun c56 => ?_)
              · skip
                replace E := zIf_t c56 E
                refine zg_aload_n X 4 rfl dX11_lawTells_119 ?_
                refine zg_aload_n X 4 rfl dX11_lawTells_120 ?_
                refine fg_X11_86 X hI ha0 dX11_lawTells_121 (fun v57 ev57 hv57 => ?_)
                replace E := zLet_s (zgr ev57) E
                refine zg_iload X 2 rfl dX11_lawTells_124 ?_
                refine ag_136 X hI hv57 (by omega) (by omega) dX11_lawTells_126 (fun v58 ev58 _ => ?_)
                replace E := zLet_s ev58 E
                have qv58 := zp_ld ev57 ev58
                rw [at49_36] at qv58
                refine zg_aload_n X 4 rfl dX11_lawTells_127 ?_
                refine fg_X11_89 X hI ha0 dX11_lawTells_128 (fun v59 ev59 hv59 => ?_)
                replace E := zLet_s (zgr ev59) E
                refine zg_iload X 2 rfl dX11_lawTells_131 ?_
                refine ag_137 X hI hv59 (by omega) (by omega) dX11_lawTells_133 (fun v60 ev60 _ => ?_)
                replace E := zLet_s ev60 E
                have qv60 := zp_ld ev59 ev60
                rw [at49_37] at qv60
                refine zg_cVi (As := [.int v58, .int v60]) (st := []) X ha0 rfl (by decide) rfl (t_X11_termOf l d L kd κ _ hI a0 ha0 v58 v60  (by rw [at49_39, at49_40, qv58, qv60]; exact zb.2.2.1)) mk_X11_348 mc_X11_termOf mz_X11 mi_X11_termOf ml_X11_termOf (na := 2) ⟨md_X11.1, md_X11.2, by decide +kernel⟩ rfl ⟨by decide, by decide⟩ (Nat.le_of_ble_eq_true rfl) dX11_lawTells_134 (fun v62 t61 hq => ?_)
                obtain ⟨hF, hI, g63⟩ := hq
                replace E := zLet2_s hF E
                have ft61_18 : (t61.1 a0 18).toInt = (t49.1 a0 18).toInt := by rw [g63.2.1 18 (by decide)]
                have hS := hS.tr g63 (by decide) (by decide)
                have ut61_30 := zp_same hI ha0 g63 30 rfl (by decide) (by decide)
                have at61_30 := ut61_30.trans at49_30
                have ut61_31 := zp_same hI ha0 g63 31 rfl (by decide) (by decide)
                have at61_31 := ut61_31.trans at49_31
                have ut61_33 := zp_same hI ha0 g63 33 rfl (by decide) (by decide)
                have at61_33 := ut61_33.trans at49_33
                have ut61_34 := zp_same hI ha0 g63 34 rfl (by decide) (by decide)
                have at61_34 := ut61_34.trans at49_34
                have ut61_35 := zp_same hI ha0 g63 35 rfl (by decide) (by decide)
                have at61_35 := ut61_35.trans at49_35
                have ut61_36 := zp_same hI ha0 g63 36 rfl (by decide) (by decide)
                have at61_36 := ut61_36.trans at49_36
                have ut61_37 := zp_same hI ha0 g63 37 rfl (by decide) (by decide)
                have at61_37 := ut61_37.trans at49_37
                have ut61_39 := zp_same hI ha0 g63 39 rfl (by decide) (by decide)
                have at61_39 := ut61_39.trans at49_39
                have ut61_40 := zp_same hI ha0 g63 40 rfl (by decide) (by decide)
                have at61_40 := ut61_40.trans at49_40
                have gLt61 := gL.same hI ha0 g63 (by decide) gLt49
                refine zg_istore X [(5, .int v62), (6, .int v50), (4, .int x17), (3, .int v4), (0, .ref a0), (1, .int p1), (2, .int p2)] dX11_lawTells_137 (by decide) rfl ?_
                refine zg_aload_n X 4 rfl dX11_lawTells_139 ?_
                refine fg_X11_310 X hI ha0 dX11_lawTells_140 (fun v64 ev64 hv64 => ?_)
                replace E := zLet_s ev64 E
                refine zg_if_eq X 150 dX11_lawTells_143 (by decide) (fun c65 => ?_) (fun c65 => ?_)
                · skip
                  replace E := zIf_t c65 E
                  refine zg_iload X 0 rfl dX11_lawTells_150 ?_
                  exact ret _ _ _ _ dX11_lawTells_152 rfl ⟨E.symm.trans hR, ⟨hI, hS⟩⟩
                · skip
                  replace E := zIf_f c65 E
                  refine zg_iconst X 0 dX11_lawTells_146 (by decide) (fun v66 _ hv66 => ?_)
                  replace E := zLet_s (zcst hv66 (by decide)) E
                  refine zg_goto X 152 dX11_lawTells_147 (by decide) ?_
                  exact ret _ _ _ _ dX11_lawTells_152 rfl ⟨E.symm.trans hR, ⟨hI, hS⟩⟩
              · skip
                replace E := zIf_f (Int.not_lt.mpr c56) E
                refine zg_goto X 153 dX11_lawTells_116 (by decide) ?_
                refine zg_iinc X 1 (fun v67 => [(4, .int v67), (6, .int v50), (5, .int v43), (3, .int v4), (0, .ref a0), (1, .int p1), (2, .int p2)]) 2 dX11_lawTells_153 rfl (by decide) (by decide) (by omega) (by omega) (fun _ => rfl) (fun v67 ev67 hv67 => ?_)
                replace E := zLet_s (zinc ev67 (by decide)) E
                refine zg_goto X 39 dX11_lawTells_156 (by decide) ?_
                refine zg_sub [0, 3, 4, 5, 6] rfl ?_
                exact ihLp18 _ v67 hI hS gLt49 (by omega) at49_30 at49_31 at49_33 at49_34 at49_35 at49_36 at49_37 at49_39 at49_40 E  (by omega) (by omega) 
            · skip
              replace E := zIf_f c53 E
              refine zg_iconst X 0 dX11_lawTells_107 (by decide) (fun v68 _ hv68 => ?_)
              replace E := zLet_s (zcst hv68 (by decide)) E
              exact ret _ _ _ _ dX11_lawTells_108 rfl ⟨E.symm.trans hR, ⟨hI, hS⟩⟩
    refine zg_sub [0, 1, 2, 3, 4] rfl ?_
    exact Lp18 4294967299 _ v16 hI hS gLs11 (by omega) as11_30 as11_31 as11_33 as11_34 as11_35 as11_36 as11_37 as11_39 as11_40 E  (by omega) (by omega) 
  · skip
    replace E := zIf_t c9 E
    refine zg_iload_n X 3 rfl dX11_lawTells_24 ?_
    exact ret _ _ _ _ dX11_lawTells_25 rfl ⟨E.symm.trans hR, ⟨hI, hS⟩⟩
set_option maxHeartbeats 4000000 in
set_option maxRecDepth 100000 in
theorem t_X11_isSource (l : Launch) (d : zD2) (L : List Nat) (kd : Nat → Nat) (κ : Int) (σ : zS) (hI : zJ κ L kd σ) (a0 : Nat) (ha0 : zT L kd a0 11) (p1 : Int32) : zMi l yX11_isSource (Cond.code yX11_isSource cX11_isSource 2 (some .boolean) :: zWL) 2 [.ref a0, .int p1] d L kd σ (fun v σ2 => (v = F_X11_isSource a0 p1 σ ∧ (((0 ≤ v.toInt ∧ v.toInt ≤ 1)) ∧ (((v.toInt = 1 ∧ 1 ≤ p1.toInt ∧ p1.toInt < zM a0 σ) ∨ v.toInt = 0)) ∧ ((v.toInt = 1 → zSrc a0 σ p1.toInt)) ∧ ((v.toInt = 0 → ¬ zSrc a0 σ p1.toInt)))) ∧ σ = σ2) := by
  refine zMi.of (own := RX11) (by decide +kernel) rfl rfl (Nat.le_of_ble_eq_true rfl) ?_
  intro p e s m args below meth c A Q X ret
  refine zg_lv (lv2 := [(0, .ref a0), (1, .int p1)]) rfl ?_
  have zm := zM_in hI ha0
  obtain ⟨R, hR⟩ : ∃ R, R = F_X11_isSource a0 p1 σ := ⟨_, rfl⟩
  have E := hR
  unfold F_X11_isSource at E
  refine zg_aload_n X 0 rfl dX11_isSource_0 ?_
  refine zg_iload_n X 1 rfl dX11_isSource_1 ?_
  refine zg_cVi (As := [.int p1]) (st := []) X ha0 rfl (by decide) rfl (t_X11_isBeside l d L kd κ _ hI a0 ha0 p1  ) mk_X11_339 mc_X11_isBeside mz_X11 mi_X11_isBeside ml_X11_isBeside (na := 1) ⟨md_X11.1, md_X11.2, by decide +kernel⟩ rfl ⟨by decide, by decide⟩ (Nat.le_of_ble_eq_true rfl) dX11_isSource_2 (fun v2 t1 hq => ?_)
  obtain ⟨⟨hF, ⟨ht1_res, ht1_fact0⟩⟩, rfl⟩ := hq
  replace E := zLet_s hF E
  refine zg_if_eq X 24 dX11_isSource_5 (by decide) (fun c3 => ?_) (fun c3 => ?_)
  · skip
    replace E := zIf_t c3 E
    refine zg_iconst X 0 dX11_isSource_24 (by decide) (fun v4 _ hv4 => ?_)
    replace E := zLet_s (zcst hv4 (by decide)) E
    exact ret _ _ _ _ dX11_isSource_25 (zb_bool ⟨by omega, by omega⟩) ⟨⟨E.symm.trans hR, ⟨⟨by omega, by omega⟩, (by omega), (fun hv => by first | (exfalso; omega) | exact ⟨by omega, by omega, by omega⟩), (fun hv hz => by obtain ⟨z1, z2, z3⟩ := hz; omega)⟩⟩, rfl⟩
  · skip
    replace E := zIf_f c3 E
    refine zg_aload_n X 0 rfl dX11_isSource_8 ?_
    refine fg_X11_119 X hI ha0 dX11_isSource_9 (fun v5 ev5 hv5 => ?_)
    replace E := zLet_s (zgr ev5) E
    refine zg_iload_n X 1 rfl dX11_isSource_12 ?_
    refine ag_154 X hI hv5 (by omega) (by omega) dX11_isSource_13 (fun v6 ev6 _ => ?_)
    replace E := zLet_s ev6 E
    have qv6 := zp_ld ev5 ev6
    refine zg_iconst X 1 dX11_isSource_14 (by decide) (fun v7 _ hv7 => ?_)
    replace E := zLet_s (zcst hv7 (by decide)) E
    refine zg_iload_n X 1 rfl dX11_isSource_15 ?_
    refine zg_ishlW X dX11_isSource_16 (fun v8 ev8 => ?_)
    replace E := zLet_s ev8 E
    have zz := zSrc_iff (by omega) ev8
    refine zg_icmp_ne X 24 dX11_isSource_17 (by decide) (fun c9 => ?_) (fun c9 => ?_)
    · skip
      replace E := zIf_f c9 E
      refine zg_iconst X 0 dX11_isSource_24 (by decide) (fun v10 _ hv10 => ?_)
      replace E := zLet_s (zcst hv10 (by decide)) E
      exact ret _ _ _ _ dX11_isSource_25 (zb_bool ⟨by omega, by omega⟩) ⟨⟨E.symm.trans hR, ⟨⟨by omega, by omega⟩, (by omega), (fun hv => by first | (exfalso; omega) | exact ⟨by omega, by omega, by omega⟩), (fun hv hz => by obtain ⟨z1, z2, z3⟩ := hz; omega)⟩⟩, rfl⟩
    · skip
      replace E := zIf_t c9 E
      refine zg_iconst X 1 dX11_isSource_20 (by decide) (fun v11 _ hv11 => ?_)
      replace E := zLet_s (zcst hv11 (by decide)) E
      refine zg_goto X 25 dX11_isSource_21 (by decide) ?_
      exact ret _ _ _ _ dX11_isSource_25 (zb_bool ⟨by omega, by omega⟩) ⟨⟨E.symm.trans hR, ⟨⟨by omega, by omega⟩, (by omega), (fun hv => by first | (exfalso; omega) | exact ⟨by omega, by omega, by omega⟩), (fun hv hz => by obtain ⟨z1, z2, z3⟩ := hz; omega)⟩⟩, rfl⟩
set_option maxHeartbeats 4000000 in
set_option maxRecDepth 100000 in
theorem t_X11_sourceBits (l : Launch) (d : zD2) (L : List Nat) (kd : Nat → Nat) (κ : Int) (σ : zS) (hI : zJ κ L kd σ) (a0 : Nat) (ha0 : zT L kd a0 11) : zMi l yX11_sourceBits (Cond.code yX11_sourceBits cX11_sourceBits 3 (some .int) :: zWL) 3 [.ref a0] d L kd σ (fun v σ2 => (v = F_X11_sourceBits a0 σ ∧ ((0 ≤ v.toInt ∧ v.toInt ≤ 4095))) ∧ σ = σ2) := by
  refine zMi.of (own := RX11) (by decide +kernel) rfl rfl (Nat.le_of_ble_eq_true rfl) ?_
  intro p e s m args below meth c A Q X ret
  refine zg_lv (lv2 := [(0, .ref a0)]) rfl ?_
  obtain ⟨R, hR⟩ : ∃ R, R = F_X11_sourceBits a0 σ := ⟨_, rfl⟩
  have E := hR
  unfold F_X11_sourceBits at E
  refine zg_iconst X 0 dX11_sourceBits_0 (by decide) (fun v1 _ hv1 => ?_)
  replace E := zLet_s (zcst hv1 (by decide)) E
  refine zg_istore_n X [(1, .int v1), (0, .ref a0)] dX11_sourceBits_1 (by decide) rfl ?_
  refine zg_iconst X 1 dX11_sourceBits_2 (by decide) (fun v2 _ hv2 => ?_)
  replace E := zLet_s (zcst hv2 (by decide)) E
  refine zg_istore_n X [(2, .int v2), (1, .int v1), (0, .ref a0)] dX11_sourceBits_3 (by decide) rfl ?_
  have Lp5 : ∀ (nLp5 : Nat) (x3 : Int32) (x4 : Int32), R = F_X11_sourceBits_4 a0 σ  nLp5 x3 x4 → 0 ≤ x4.toInt ∧ x4.toInt ≤ 4095 ∧ 1 ≤ x3.toInt ∧ x3.toInt ≤ 12 → (12) - x3.toInt + 1 < (nLp5 : Int) → zG d L kd A 3 p l e (k2_rm 3 (100 * 3)) s m args below meth c Q σ 4 [(2, .int x3), (1, .int x4), (0, .ref a0)] [] := by
    intro nLp5
    induction nLp5 with
    | zero => intro x3 x4  E  hxLp5 hm ; exact absurd hm (by omega)
    | succ nLp5 ihLp5 =>
      intro x3 x4  E  hxLp5 hmLp5 
      rw [F_X11_sourceBits_4] at E
      refine zg_iload_n X 0 rfl dX11_sourceBits_4 ?_
      refine zg_aload_n X 2 rfl dX11_sourceBits_5 ?_
      refine zg_cVi (As := []) (st := [.int x3]) X ha0 rfl (by decide) rfl (t_X11_many l d L kd κ _ hI a0 ha0   ) mk_X11_313 mc_X11_many mz_X11 mi_X11_many ml_X11_many (na := 0) ⟨md_X11.1, md_X11.2, by decide +kernel⟩ rfl ⟨by decide, by decide⟩ (Nat.le_of_ble_eq_true rfl) dX11_sourceBits_6 (fun v7 t6 hq => ?_)
      obtain ⟨⟨hF, ⟨ht6_res, ht6_fact0⟩⟩, rfl⟩ := hq
      replace E := zLet_s hF E
      refine zg_icmp_ge X 32 dX11_sourceBits_9 (by decide) (fun c8 => ?_) (fun c8 => ?_)
      · skip
        replace E := zIf_f (Int.not_lt.mpr c8) E
        refine zg_iload_n X 1 rfl dX11_sourceBits_32 ?_
        exact ret _ _ _ _ dX11_sourceBits_33 rfl ⟨⟨E.symm.trans hR, ⟨by omega, by omega⟩⟩, rfl⟩
      · skip
        replace E := zIf_t c8 E
        refine zg_aload_n X 2 rfl dX11_sourceBits_12 ?_
        refine zg_iload_n X 0 rfl dX11_sourceBits_13 ?_
        refine zg_cVi (As := [.int x3]) (st := []) X ha0 rfl (by decide) rfl (t_X11_isSource l d L kd κ _ hI a0 ha0 x3  ) mk_X11_342 mc_X11_isSource mz_X11 mi_X11_isSource ml_X11_isSource (na := 1) ⟨md_X11.1, md_X11.2, by decide +kernel⟩ rfl ⟨by decide, by decide⟩ (Nat.le_of_ble_eq_true rfl) dX11_sourceBits_14 (fun v10 t9 hq => ?_)
        obtain ⟨⟨hF, ⟨ht9_res, ht9_fact0, ht9_fact1, ht9_fact2⟩⟩, rfl⟩ := hq
        replace E := zLet_s hF E
        refine zg_if_eq X 26 dX11_sourceBits_17 (by decide) (fun c11 => ?_) (fun c11 => ?_)
        · skip
          replace E := zIf_t c11 E
          skip
          refine zg_iinc X 1 (fun v12 => [(2, .int v12), (1, .int x4), (0, .ref a0)]) 0 dX11_sourceBits_26 rfl (by decide) (by decide) (by omega) (by omega) (fun _ => rfl) (fun v12 ev12 hv12 => ?_)
          replace E := zLet_s (zinc ev12 (by decide)) E
          refine zg_goto X 4 dX11_sourceBits_29 (by decide) ?_
          refine zg_sub [0, 1, 2] rfl ?_
          exact ihLp5 v12 x4   E  (by omega) (by omega) 
        · skip
          replace E := zIf_f c11 E
          refine zg_iload_n X 1 rfl dX11_sourceBits_20 ?_
          refine zg_iconst X 1 dX11_sourceBits_21 (by decide) (fun v13 _ hv13 => ?_)
          replace E := zLet_s (zcst hv13 (by decide)) E
          refine zg_iload_n X 0 rfl dX11_sourceBits_22 ?_
          refine zg_ishlW X dX11_sourceBits_23 (fun v14 ev14 => ?_)
          replace E := zLet_s ev14 E
          refine zg_iorW X dX11_sourceBits_24 (fun v15 ev15 => ?_)
          replace E := zLet_s ev15 E
          refine zg_istore_n X [(1, .int v15), (2, .int x3), (0, .ref a0)] dX11_sourceBits_25 (by decide) rfl ?_
          have zk := zsh_le (by omega) ev14 (by omega) (by omega)
          have zo := zor_le ev15 (by omega) (by omega) (by omega) (by omega)
          refine zg_iinc X 1 (fun v16 => [(2, .int v16), (1, .int v15), (0, .ref a0)]) 1 dX11_sourceBits_26 rfl (by decide) (by decide) (by omega) (by omega) (fun _ => rfl) (fun v16 ev16 hv16 => ?_)
          replace E := zLet_s (zinc ev16 (by decide)) E
          refine zg_goto X 4 dX11_sourceBits_29 (by decide) ?_
          refine zg_sub [0, 1, 2] rfl ?_
          exact ihLp5 v16 v15   E  (by omega) (by omega) 
  refine zg_sub [0, 1, 2] rfl ?_
  exact Lp5 10000 v2 v1   E  (by omega) (by omega) 
set_option maxHeartbeats 4000000 in
set_option maxRecDepth 100000 in
theorem t_X11_rainsAt (l : Launch) (d : zD2) (L : List Nat) (kd : Nat → Nat) (κ : Int) (σ : zS) (hI : zJ κ L kd σ) (a0 : Nat) (ha0 : zT L kd a0 11) (p1 : Int32) (hq0 : 0 ≤ p1.toInt ∧ p1.toInt ≤ 11) (hgL : gL a0 σ) : zMi l yX11_rainsAt (Cond.code yX11_rainsAt cX11_rainsAt 2 (some .int) :: zWL) 2 [.ref a0, .int p1] d L kd σ (fun v σ2 => (v, σ2) = F_X11_rainsAt a0 p1 σ ∧ (zJ κ L kd σ2 ∧ zSame a0 [47] [145, 146] L kd σ σ2)) := by
  refine zMi.of (own := RX11) (by decide +kernel) rfl rfl (Nat.le_of_ble_eq_true rfl) ?_
  intro p e s m args below meth c A Q X ret
  have hS : zSame a0 [47] [145, 146] L kd σ σ := zSame.rf
  refine zg_lv (lv2 := [(0, .ref a0), (1, .int p1)]) rfl ?_
  obtain ⟨R, hR⟩ : ∃ R, R = F_X11_rainsAt a0 p1 σ := ⟨_, rfl⟩
  have E := hR
  unfold F_X11_rainsAt at E
  refine zg_aload_n X 0 rfl dX11_rainsAt_0 ?_
  refine zg_iload_n X 1 rfl dX11_rainsAt_1 ?_
  refine zg_iconst X 0 dX11_rainsAt_2 (by decide) (fun v1 _ hv1 => ?_)
  replace E := zLet_s (zcst hv1 (by decide)) E
  refine zg_cVv (As := [.int p1, .int v1]) (st := []) X ha0 rfl (by decide) rfl (t_X11_looks l d L kd κ _ hI a0 ha0 p1 v1  (by omega)) mk_X11_351 mc_X11_looks mz_X11 mi_X11_looks ml_X11_looks (na := 2) ⟨md_X11.1, md_X11.2, by decide +kernel⟩ rfl ⟨by decide, by decide⟩ (Nat.le_of_ble_eq_true rfl) dX11_rainsAt_3 (fun t2 hq => ?_)
  obtain ⟨hF, hI, g3⟩ := hq
  replace E := zLet_s hF E
  have hS := hS.tr g3 (by decide) (by decide)
  have gLt2 := gL.same hI ha0 g3 (by decide) hgL
  refine zg_aload_n X 0 rfl dX11_rainsAt_6 ?_
  refine zg_iconst X 0 dX11_rainsAt_7 (by decide) (fun v4 _ hv4 => ?_)
  replace E := zLet_s (zcst hv4 (by decide)) E
  refine zg_aload_n X 0 rfl dX11_rainsAt_8 ?_
  refine fg_X11_101 X hI ha0 dX11_rainsAt_9 (fun v5 ev5 hv5 => ?_)
  replace E := zLet_s (zgr ev5) E
  refine zg_iconst X 0 dX11_rainsAt_12 (by decide) (fun v6 _ hv6 => ?_)
  replace E := zLet_s (zcst hv6 (by decide)) E
  refine ag_145 X hI hv5 (by omega) (by omega) dX11_rainsAt_13 (fun v7 ev7 _ => ?_)
  replace E := zLet_s ev7 E
  refine zg_cVi (As := [.int v4, .int v7]) (st := []) X ha0 rfl (by decide) rfl (t_X11_lawTells l d L kd κ _ hI a0 ha0 v4 v7  (by omega) gLt2) mk_X11_354 mc_X11_lawTells mz_X11 mi_X11_lawTells ml_X11_lawTells (na := 2) ⟨md_X11.1, md_X11.2, by decide +kernel⟩ rfl ⟨by decide, by decide⟩ (Nat.le_of_ble_eq_true rfl) dX11_rainsAt_14 (fun v9 t8 hq => ?_)
  obtain ⟨hF, hI, g10⟩ := hq
  replace E := zLet2_s hF E
  have hS := hS.tr g10 (by decide) (by decide)
  have gLt8 := gL.same hI ha0 g10 (by decide) gLt2
  refine zg_iconst X 0 dX11_rainsAt_17 (by decide) (fun v11 _ hv11 => ?_)
  replace E := zLet_s (zcst hv11 (by decide)) E
  refine zg_sipush X 999 dX11_rainsAt_18 (by decide) (fun v12 _ hv12 => ?_)
  replace E := zLet_s (zcst hv12 (by decide)) E
  refine zg_cSi (As := [.int v9, .int v11, .int v12]) (st := []) X (t_X11_within l d L kd _ v9 v11 v12 ) mk_X11_357 mc_X11_within mz_X11 ms_X11_within (na := 3) ⟨md_X11.1, md_X11.2, by decide +kernel⟩ rfl ⟨by decide, by decide⟩ (Nat.le_of_ble_eq_true rfl) dX11_rainsAt_21 (fun v13 σ2 hq => ?_)
  obtain ⟨⟨hF, hv13⟩, rfl⟩ := hq
  replace E := zLet_s hF E
  exact ret _ _ _ _ dX11_rainsAt_24 rfl ⟨E.symm.trans hR, ⟨hI, hS⟩⟩
set_option maxHeartbeats 4000000 in
set_option maxRecDepth 100000 in
theorem t_X11_driesAt (l : Launch) (d : zD2) (L : List Nat) (kd : Nat → Nat) (κ : Int) (σ : zS) (hI : zJ κ L kd σ) (a0 : Nat) (ha0 : zT L kd a0 11) (p1 : Int32) (hq0 : 0 ≤ p1.toInt ∧ p1.toInt ≤ 11) (hgL : gL a0 σ) : zMi l yX11_driesAt (Cond.code yX11_driesAt cX11_driesAt 2 (some .int) :: zWL) 2 [.ref a0, .int p1] d L kd σ (fun v σ2 => (v, σ2) = F_X11_driesAt a0 p1 σ ∧ (zJ κ L kd σ2 ∧ zSame a0 [47] [145, 146] L kd σ σ2)) := by
  refine zMi.of (own := RX11) (by decide +kernel) rfl rfl (Nat.le_of_ble_eq_true rfl) ?_
  intro p e s m args below meth c A Q X ret
  have hS : zSame a0 [47] [145, 146] L kd σ σ := zSame.rf
  refine zg_lv (lv2 := [(0, .ref a0), (1, .int p1)]) rfl ?_
  obtain ⟨R, hR⟩ : ∃ R, R = F_X11_driesAt a0 p1 σ := ⟨_, rfl⟩
  have E := hR
  unfold F_X11_driesAt at E
  refine zg_aload_n X 0 rfl dX11_driesAt_0 ?_
  refine zg_iload_n X 1 rfl dX11_driesAt_1 ?_
  refine zg_aload_n X 0 rfl dX11_driesAt_2 ?_
  refine fg_X11_122 X hI ha0 dX11_driesAt_3 (fun v1 ev1 hv1 => ?_)
  replace E := zLet_s (zgr ev1) E
  refine zg_iload_n X 1 rfl dX11_driesAt_6 ?_
  refine ag_155 X hI hv1 (by omega) (by omega) dX11_driesAt_7 (fun v2 ev2 _ => ?_)
  replace E := zLet_s ev2 E
  refine zg_cVv (As := [.int p1, .int v2]) (st := []) X ha0 rfl (by decide) rfl (t_X11_looks l d L kd κ _ hI a0 ha0 p1 v2  (by omega)) mk_X11_351 mc_X11_looks mz_X11 mi_X11_looks ml_X11_looks (na := 2) ⟨md_X11.1, md_X11.2, by decide +kernel⟩ rfl ⟨by decide, by decide⟩ (Nat.le_of_ble_eq_true rfl) dX11_driesAt_8 (fun t3 hq => ?_)
  obtain ⟨hF, hI, g4⟩ := hq
  replace E := zLet_s hF E
  have hS := hS.tr g4 (by decide) (by decide)
  have gLt3 := gL.same hI ha0 g4 (by decide) hgL
  refine zg_aload_n X 0 rfl dX11_driesAt_11 ?_
  refine zg_iconst X 1 dX11_driesAt_12 (by decide) (fun v5 _ hv5 => ?_)
  replace E := zLet_s (zcst hv5 (by decide)) E
  refine zg_iconst X 0 dX11_driesAt_13 (by decide) (fun v6 _ hv6 => ?_)
  replace E := zLet_s (zcst hv6 (by decide)) E
  refine zg_cVi (As := [.int v5, .int v6]) (st := []) X ha0 rfl (by decide) rfl (t_X11_lawTells l d L kd κ _ hI a0 ha0 v5 v6  (by omega) gLt3) mk_X11_354 mc_X11_lawTells mz_X11 mi_X11_lawTells ml_X11_lawTells (na := 2) ⟨md_X11.1, md_X11.2, by decide +kernel⟩ rfl ⟨by decide, by decide⟩ (Nat.le_of_ble_eq_true rfl) dX11_driesAt_14 (fun v8 t7 hq => ?_)
  obtain ⟨hF, hI, g9⟩ := hq
  replace E := zLet2_s hF E
  have hS := hS.tr g9 (by decide) (by decide)
  have gLt7 := gL.same hI ha0 g9 (by decide) gLt3
  refine zg_iconst X 0 dX11_driesAt_17 (by decide) (fun v10 _ hv10 => ?_)
  replace E := zLet_s (zcst hv10 (by decide)) E
  refine zg_aload_n X 0 rfl dX11_driesAt_18 ?_
  refine fg_X11_122 X hI ha0 dX11_driesAt_19 (fun v11 ev11 hv11 => ?_)
  replace E := zLet_s (zgr ev11) E
  refine zg_iload_n X 1 rfl dX11_driesAt_22 ?_
  refine ag_155 X hI hv11 (by omega) (by omega) dX11_driesAt_23 (fun v12 ev12 _ => ?_)
  replace E := zLet_s ev12 E
  refine zg_cSi (As := [.int v8, .int v10, .int v12]) (st := []) X (t_X11_within l d L kd _ v8 v10 v12 ) mk_X11_357 mc_X11_within mz_X11 ms_X11_within (na := 3) ⟨md_X11.1, md_X11.2, by decide +kernel⟩ rfl ⟨by decide, by decide⟩ (Nat.le_of_ble_eq_true rfl) dX11_driesAt_24 (fun v13 σ2 hq => ?_)
  obtain ⟨⟨hF, hv13⟩, rfl⟩ := hq
  replace E := zLet_s hF E
  exact ret _ _ _ _ dX11_driesAt_27 rfl ⟨E.symm.trans hR, ⟨hI, hS⟩⟩
set_option maxHeartbeats 4000000 in
set_option maxRecDepth 100000 in
theorem t_X11_claimOf (l : Launch) (d : zD2) (L : List Nat) (kd : Nat → Nat) (κ : Int) (σ : zS) (hI : zJ κ L kd σ) (a0 : Nat) (ha0 : zT L kd a0 11) (p1 : Int32) (p2 : Int32) (hq0 : 0 ≤ p1.toInt ∧ p1.toInt ≤ 11) (hq1 : 0 ≤ p2.toInt ∧ p2.toInt ≤ 2) (hgL : gL a0 σ) : zMi l yX11_claimOf (Cond.code yX11_claimOf cX11_claimOf 4 (some .int) :: zWL) 2 [.ref a0, .int p1, .int p2] d L kd σ (fun v σ2 => (v, σ2) = F_X11_claimOf a0 p1 p2 σ ∧ (zJ κ L kd σ2 ∧ zSame a0 [47] [145, 146] L kd σ σ2)) := by
  refine zMi.of (own := RX11) (by decide +kernel) rfl rfl (Nat.le_of_ble_eq_true rfl) ?_
  intro p e s m args below meth c A Q X ret
  have hS : zSame a0 [47] [145, 146] L kd σ σ := zSame.rf
  refine zg_lv (lv2 := [(0, .ref a0), (1, .int p1), (2, .int p2)]) rfl ?_
  obtain ⟨R, hR⟩ : ∃ R, R = F_X11_claimOf a0 p1 p2 σ := ⟨_, rfl⟩
  have E := hR
  unfold F_X11_claimOf at E
  refine zg_aload_n X 0 rfl dX11_claimOf_0 ?_
  refine zg_iload_n X 1 rfl dX11_claimOf_1 ?_
  refine zg_aload_n X 0 rfl dX11_claimOf_2 ?_
  refine fg_X11_122 X hI ha0 dX11_claimOf_3 (fun v1 ev1 hv1 => ?_)
  replace E := zLet_s (zgr ev1) E
  refine zg_iload_n X 1 rfl dX11_claimOf_6 ?_
  refine ag_155 X hI hv1 (by omega) (by omega) dX11_claimOf_7 (fun v2 ev2 _ => ?_)
  replace E := zLet_s ev2 E
  refine zg_cVv (As := [.int p1, .int v2]) (st := []) X ha0 rfl (by decide) rfl (t_X11_looks l d L kd κ _ hI a0 ha0 p1 v2  (by omega)) mk_X11_351 mc_X11_looks mz_X11 mi_X11_looks ml_X11_looks (na := 2) ⟨md_X11.1, md_X11.2, by decide +kernel⟩ rfl ⟨by decide, by decide⟩ (Nat.le_of_ble_eq_true rfl) dX11_claimOf_8 (fun t3 hq => ?_)
  obtain ⟨hF, hI, g4⟩ := hq
  replace E := zLet_s hF E
  have hS := hS.tr g4 (by decide) (by decide)
  have gLt3 := gL.same hI ha0 g4 (by decide) hgL
  refine zg_iload_n X 2 rfl dX11_claimOf_11 ?_
  refine zg_if_ne X 24 dX11_claimOf_12 (by decide) (fun c5 => ?_) (fun c5 => ?_)
  · skip
    replace E := zIf_f c5 E
    refine zg_iload_n X 2 rfl dX11_claimOf_24 ?_
    refine zg_iconst X 1 dX11_claimOf_25 (by decide) (fun v6 _ hv6 => ?_)
    replace E := zLet_s (zcst hv6 (by decide)) E
    refine zg_icmp_ne X 38 dX11_claimOf_26 (by decide) (fun c7 => ?_) (fun c7 => ?_)
    · skip
      replace E := zIf_f c7 E
      refine zg_aload_n X 0 rfl dX11_claimOf_38 ?_
      refine fg_X11_101 X hI ha0 dX11_claimOf_39 (fun v8 ev8 hv8 => ?_)
      replace E := zLet_s (zgr ev8) E
      refine zg_iconst X 2 dX11_claimOf_42 (by decide) (fun v9 _ hv9 => ?_)
      replace E := zLet_s (zcst hv9 (by decide)) E
      refine ag_145 X hI hv8 (by omega) (by omega) dX11_claimOf_43 (fun v10 ev10 _ => ?_)
      replace E := zLet_s ev10 E
      refine zg_istore_n X [(3, .int v10), (0, .ref a0), (1, .int p1), (2, .int p2)] dX11_claimOf_44 (by decide) rfl ?_
      refine zg_aload_n X 1 rfl dX11_claimOf_45 ?_
      refine zg_iconst X 2 dX11_claimOf_46 (by decide) (fun v11 _ hv11 => ?_)
      replace E := zLet_s (zcst hv11 (by decide)) E
      refine zg_iload_n X 3 rfl dX11_claimOf_47 ?_
      refine zg_iadd X dX11_claimOf_48 (by omega) (by omega) (fun v12 ev12 hv12 => ?_)
      replace E := zLet_s ev12 E
      refine zg_iload_n X 0 rfl dX11_claimOf_49 ?_
      refine zg_cVi (As := [.int v12, .int v10]) (st := []) X ha0 rfl (by decide) rfl (t_X11_lawTells l d L kd κ _ hI a0 ha0 v12 v10  (by omega) gLt3) mk_X11_354 mc_X11_lawTells mz_X11 mi_X11_lawTells ml_X11_lawTells (na := 2) ⟨md_X11.1, md_X11.2, by decide +kernel⟩ rfl ⟨by decide, by decide⟩ (Nat.le_of_ble_eq_true rfl) dX11_claimOf_50 (fun v14 t13 hq => ?_)
      obtain ⟨hF, hI, g15⟩ := hq
      replace E := zLet2_s hF E
      have hS := hS.tr g15 (by decide) (by decide)
      have gLt13 := gL.same hI ha0 g15 (by decide) gLt3
      refine zg_iconst X 0 dX11_claimOf_53 (by decide) (fun v16 _ hv16 => ?_)
      replace E := zLet_s (zcst hv16 (by decide)) E
      refine zg_ldcwE X wk_X11_366 dX11_claimOf_54 (fun v17 ev17 => ?_)
      replace E := zLet_s ev17 E
      refine zg_cSi (As := [.int v14, .int v16, .int v17]) (st := []) X (t_X11_within l d L kd _ v14 v16 v17 ) mk_X11_357 mc_X11_within mz_X11 ms_X11_within (na := 3) ⟨md_X11.1, md_X11.2, by decide +kernel⟩ rfl ⟨by decide, by decide⟩ (Nat.le_of_ble_eq_true rfl) dX11_claimOf_57 (fun v18 σ2 hq => ?_)
      obtain ⟨⟨hF, hv18⟩, rfl⟩ := hq
      replace E := zLet_s hF E
      exact ret _ _ _ _ dX11_claimOf_60 rfl ⟨E.symm.trans hR, ⟨hI, hS⟩⟩
    · skip
      replace E := zIf_t c7 E
      refine zg_aload_n X 0 rfl dX11_claimOf_29 ?_
      refine fg_X11_101 X hI ha0 dX11_claimOf_30 (fun v19 ev19 hv19 => ?_)
      replace E := zLet_s (zgr ev19) E
      refine zg_iconst X 4 dX11_claimOf_33 (by decide) (fun v20 _ hv20 => ?_)
      replace E := zLet_s (zcst hv20 (by decide)) E
      refine ag_145 X hI hv19 (by omega) (by omega) dX11_claimOf_34 (fun v21 ev21 _ => ?_)
      replace E := zLet_s ev21 E
      refine zg_goto X 44 dX11_claimOf_35 (by decide) ?_
      refine zg_istore_n X [(3, .int v21), (0, .ref a0), (1, .int p1), (2, .int p2)] dX11_claimOf_44 (by decide) rfl ?_
      refine zg_aload_n X 1 rfl dX11_claimOf_45 ?_
      refine zg_iconst X 2 dX11_claimOf_46 (by decide) (fun v22 _ hv22 => ?_)
      replace E := zLet_s (zcst hv22 (by decide)) E
      refine zg_iload_n X 3 rfl dX11_claimOf_47 ?_
      refine zg_iadd X dX11_claimOf_48 (by omega) (by omega) (fun v23 ev23 hv23 => ?_)
      replace E := zLet_s ev23 E
      refine zg_iload_n X 0 rfl dX11_claimOf_49 ?_
      refine zg_cVi (As := [.int v23, .int v21]) (st := []) X ha0 rfl (by decide) rfl (t_X11_lawTells l d L kd κ _ hI a0 ha0 v23 v21  (by omega) gLt3) mk_X11_354 mc_X11_lawTells mz_X11 mi_X11_lawTells ml_X11_lawTells (na := 2) ⟨md_X11.1, md_X11.2, by decide +kernel⟩ rfl ⟨by decide, by decide⟩ (Nat.le_of_ble_eq_true rfl) dX11_claimOf_50 (fun v25 t24 hq => ?_)
      obtain ⟨hF, hI, g26⟩ := hq
      replace E := zLet2_s hF E
      have hS := hS.tr g26 (by decide) (by decide)
      have gLt24 := gL.same hI ha0 g26 (by decide) gLt3
      refine zg_iconst X 0 dX11_claimOf_53 (by decide) (fun v27 _ hv27 => ?_)
      replace E := zLet_s (zcst hv27 (by decide)) E
      refine zg_ldcwE X wk_X11_366 dX11_claimOf_54 (fun v28 ev28 => ?_)
      replace E := zLet_s ev28 E
      refine zg_cSi (As := [.int v25, .int v27, .int v28]) (st := []) X (t_X11_within l d L kd _ v25 v27 v28 ) mk_X11_357 mc_X11_within mz_X11 ms_X11_within (na := 3) ⟨md_X11.1, md_X11.2, by decide +kernel⟩ rfl ⟨by decide, by decide⟩ (Nat.le_of_ble_eq_true rfl) dX11_claimOf_57 (fun v29 σ2 hq => ?_)
      obtain ⟨⟨hF, hv29⟩, rfl⟩ := hq
      replace E := zLet_s hF E
      exact ret _ _ _ _ dX11_claimOf_60 rfl ⟨E.symm.trans hR, ⟨hI, hS⟩⟩
  · skip
    replace E := zIf_t c5 E
    refine zg_aload_n X 0 rfl dX11_claimOf_15 ?_
    refine fg_X11_101 X hI ha0 dX11_claimOf_16 (fun v30 ev30 hv30 => ?_)
    replace E := zLet_s (zgr ev30) E
    refine zg_iconst X 1 dX11_claimOf_19 (by decide) (fun v31 _ hv31 => ?_)
    replace E := zLet_s (zcst hv31 (by decide)) E
    refine ag_145 X hI hv30 (by omega) (by omega) dX11_claimOf_20 (fun v32 ev32 _ => ?_)
    replace E := zLet_s ev32 E
    refine zg_goto X 44 dX11_claimOf_21 (by decide) ?_
    refine zg_istore_n X [(3, .int v32), (0, .ref a0), (1, .int p1), (2, .int p2)] dX11_claimOf_44 (by decide) rfl ?_
    refine zg_aload_n X 1 rfl dX11_claimOf_45 ?_
    refine zg_iconst X 2 dX11_claimOf_46 (by decide) (fun v33 _ hv33 => ?_)
    replace E := zLet_s (zcst hv33 (by decide)) E
    refine zg_iload_n X 3 rfl dX11_claimOf_47 ?_
    refine zg_iadd X dX11_claimOf_48 (by omega) (by omega) (fun v34 ev34 hv34 => ?_)
    replace E := zLet_s ev34 E
    refine zg_iload_n X 0 rfl dX11_claimOf_49 ?_
    refine zg_cVi (As := [.int v34, .int v32]) (st := []) X ha0 rfl (by decide) rfl (t_X11_lawTells l d L kd κ _ hI a0 ha0 v34 v32  (by omega) gLt3) mk_X11_354 mc_X11_lawTells mz_X11 mi_X11_lawTells ml_X11_lawTells (na := 2) ⟨md_X11.1, md_X11.2, by decide +kernel⟩ rfl ⟨by decide, by decide⟩ (Nat.le_of_ble_eq_true rfl) dX11_claimOf_50 (fun v36 t35 hq => ?_)
    obtain ⟨hF, hI, g37⟩ := hq
    replace E := zLet2_s hF E
    have hS := hS.tr g37 (by decide) (by decide)
    have gLt35 := gL.same hI ha0 g37 (by decide) gLt3
    refine zg_iconst X 0 dX11_claimOf_53 (by decide) (fun v38 _ hv38 => ?_)
    replace E := zLet_s (zcst hv38 (by decide)) E
    refine zg_ldcwE X wk_X11_366 dX11_claimOf_54 (fun v39 ev39 => ?_)
    replace E := zLet_s ev39 E
    refine zg_cSi (As := [.int v36, .int v38, .int v39]) (st := []) X (t_X11_within l d L kd _ v36 v38 v39 ) mk_X11_357 mc_X11_within mz_X11 ms_X11_within (na := 3) ⟨md_X11.1, md_X11.2, by decide +kernel⟩ rfl ⟨by decide, by decide⟩ (Nat.le_of_ble_eq_true rfl) dX11_claimOf_57 (fun v40 σ2 hq => ?_)
    obtain ⟨⟨hF, hv40⟩, rfl⟩ := hq
    replace E := zLet_s hF E
    exact ret _ _ _ _ dX11_claimOf_60 rfl ⟨E.symm.trans hR, ⟨hI, hS⟩⟩
set_option maxHeartbeats 4000000 in
set_option maxRecDepth 100000 in
theorem t_X11_winnerBy (l : Launch) (d : zD2) (L : List Nat) (kd : Nat → Nat) (κ : Int) (σ : zS) (hI : zJ κ L kd σ) (a0 : Nat) (ha0 : zT L kd a0 11) (p1 : Int32) (hq0 : 0 ≤ p1.toInt ∧ p1.toInt ≤ 2) (hgL : gL a0 σ) : zMi l yX11_winnerBy (Cond.code yX11_winnerBy cX11_winnerBy 6 (some .int) :: zWL) 3 [.ref a0, .int p1] d L kd σ (fun v σ2 => (v, σ2) = F_X11_winnerBy a0 p1 σ ∧ (((((-2) ≤ v.toInt ∧ v.toInt ≤ 11)) ∧ (v.toInt < zM a0 σ ∨ v.toInt = -2) ∧ ((v.toInt < 0 → ∀ o : Int, ¬ zSrc a0 σ o))) ∧ zJ κ L kd σ2 ∧ zSame a0 [47] [145, 146] L kd σ σ2)) := by
  refine zMi.of (own := RX11) (by decide +kernel) rfl rfl (Nat.le_of_ble_eq_true rfl) ?_
  intro p e s m args below meth c A Q X ret
  have hS : zSame a0 [47] [145, 146] L kd σ σ := zSame.rf
  refine zg_lv (lv2 := [(0, .ref a0), (1, .int p1)]) rfl ?_
  have zm := zM_in hI ha0
  have zt : ∀ τ : zS, zM a0 τ = zM a0 σ → zp a0 τ 54 = zp a0 σ 54 → ∀ o : Int, zSrc a0 σ o → zSrc a0 τ o := fun τ h1 h2 o h3 => by unfold zSrc at h3 ⊢; rw [h1, h2]; exact h3
  obtain ⟨R, hR⟩ : ∃ R, R = F_X11_winnerBy a0 p1 σ := ⟨_, rfl⟩
  have E := hR
  unfold F_X11_winnerBy at E
  refine zg_bipush X (-2) dX11_winnerBy_0 (by decide) (fun v1 _ hv1 => ?_)
  replace E := zLet_s (zcst hv1 (by decide)) E
  refine zg_istore_n X [(2, .int v1), (0, .ref a0), (1, .int p1)] dX11_winnerBy_2 (by decide) rfl ?_
  refine zg_iconst X 0 dX11_winnerBy_3 (by decide) (fun v2 _ hv2 => ?_)
  replace E := zLet_s (zcst hv2 (by decide)) E
  refine zg_istore_n X [(3, .int v2), (2, .int v1), (0, .ref a0), (1, .int p1)] dX11_winnerBy_4 (by decide) rfl ?_
  refine zg_iconst X 1 dX11_winnerBy_5 (by decide) (fun v3 _ hv3 => ?_)
  replace E := zLet_s (zcst hv3 (by decide)) E
  refine zg_istore X [(4, .int v3), (3, .int v2), (2, .int v1), (0, .ref a0), (1, .int p1)] dX11_winnerBy_6 (by decide) rfl ?_
  have Lp7 : ∀ (nLp7 : Nat) (τ7 : zS) (x4 : Int32) (x5 : Int32) (x6 : Int32), zJ κ L kd τ7 → zSame a0 [47] [145, 146] L kd σ τ7 → gL a0 τ7 → zM a0 τ7 = zM a0 σ → zp a0 τ7 54 = zp a0 σ 54 → R = F_X11_winnerBy_8 a0 p1  nLp7 x4 x5 x6 τ7 → (-2) ≤ x6.toInt ∧ x6.toInt ≤ 11 ∧ 1 ≤ x4.toInt ∧ x4.toInt ≤ 12 ∧ 1 ≤ x4.toInt ∧ (x6.toInt < zM a0 σ ∨ x6.toInt = -2) → (12) - x4.toInt + 1 < (nLp7 : Int) → (x6.toInt < 0 → ∀ o : Int, 1 ≤ o → o < x4.toInt → ¬ zSrc a0 σ o) → zG d L kd A 6 p l e (k2_rm 3 (100 * 3)) s m args below meth c Q τ7 8 [(4, .int x4), (3, .int x5), (2, .int x6), (0, .ref a0), (1, .int p1)] [] := by
    intro nLp7
    induction nLp7 with
    | zero => intro τ7 x4 x5 x6 hI hS gL_Lp7 M_Lp7 A54_Lp7 E  hxLp7 hm _ ; exact absurd hm (by omega)
    | succ nLp7 ihLp7 =>
      intro τ7 x4 x5 x6 hI hS gL_Lp7 M_Lp7 A54_Lp7 E  hxLp7 hmLp7 hs
      rw [F_X11_winnerBy_8] at E
      refine zg_iload X 0 rfl dX11_winnerBy_8 ?_
      refine zg_aload_n X 3 rfl dX11_winnerBy_10 ?_
      refine zg_cVi (As := []) (st := [.int x4]) X ha0 rfl (by decide) rfl (t_X11_many l d L kd κ _ hI a0 ha0   ) mk_X11_313 mc_X11_many mz_X11 mi_X11_many ml_X11_many (na := 0) ⟨md_X11.1, md_X11.2, by decide +kernel⟩ rfl ⟨by decide, by decide⟩ (Nat.le_of_ble_eq_true rfl) dX11_winnerBy_11 (fun v9 t8 hq => ?_)
      obtain ⟨⟨hF, ⟨ht8_res, ht8_fact0⟩⟩, rfl⟩ := hq
      replace E := zLet_s hF E
      refine zg_icmp_ge X 63 dX11_winnerBy_14 (by decide) (fun c10 => ?_) (fun c10 => ?_)
      · skip
        replace E := zIf_f (Int.not_lt.mpr c10) E
        refine zg_iload_n X 2 rfl dX11_winnerBy_63 ?_
        exact ret _ _ _ _ dX11_winnerBy_64 rfl ⟨E.symm.trans hR, ⟨⟨⟨by omega, by omega⟩, (by omega), (fun h0 o h3 => hs h0 o h3.1 (by have := h3.2.1; omega) h3)⟩, hI, hS⟩⟩
      · skip
        replace E := zIf_t c10 E
        refine zg_aload_n X 3 rfl dX11_winnerBy_17 ?_
        refine zg_iload X 0 rfl dX11_winnerBy_18 ?_
        refine zg_cVi (As := [.int x4]) (st := []) X ha0 rfl (by decide) rfl (t_X11_isSource l d L kd κ _ hI a0 ha0 x4  ) mk_X11_342 mc_X11_isSource mz_X11 mi_X11_isSource ml_X11_isSource (na := 1) ⟨md_X11.1, md_X11.2, by decide +kernel⟩ rfl ⟨by decide, by decide⟩ (Nat.le_of_ble_eq_true rfl) dX11_winnerBy_20 (fun v12 t11 hq => ?_)
        obtain ⟨⟨hF, ⟨ht11_res, ht11_fact0, ht11_fact1, ht11_fact2⟩⟩, rfl⟩ := hq
        replace E := zLet_s hF E
        have zs : v12.toInt = 0 → ∀ o : Int, o = x4.toInt → ¬ zSrc a0 σ o := fun h0 o e h3 => ht11_fact2 h0 (by have y := zt _ M_Lp7 A54_Lp7 o h3; rw [e] at y; exact y)
        refine zg_if_ne X 29 dX11_winnerBy_23 (by decide) (fun c13 => ?_) (fun c13 => ?_)
        · skip
          replace E := zIf_f c13 E
          refine zg_aload_n X 3 rfl dX11_winnerBy_29 ?_
          refine zg_iload X 0 rfl dX11_winnerBy_30 ?_
          refine zg_iload_n X 4 rfl dX11_winnerBy_32 ?_
          refine zg_cVi (As := [.int x4, .int p1]) (st := []) X ha0 rfl (by decide) rfl (t_X11_claimOf l d L kd κ _ hI a0 ha0 x4 p1  (by omega) (by omega) gL_Lp7) mk_X11_367 mc_X11_claimOf mz_X11 mi_X11_claimOf ml_X11_claimOf (na := 2) ⟨md_X11.1, md_X11.2, by decide +kernel⟩ rfl ⟨by decide, by decide⟩ (Nat.le_of_ble_eq_true rfl) dX11_winnerBy_33 (fun v15 t14 hq => ?_)
          obtain ⟨hF, hI, g16⟩ := hq
          replace E := zLet2_s hF E
          have hS := hS.tr g16 (by decide) (by decide)
          have Mt14 := (zM_same hI ha0 g16 (by decide)).trans M_Lp7
          have ut14_54 := zp_same hI ha0 g16 54 rfl (by decide) (by decide)
          have at14_54 := ut14_54.trans A54_Lp7
          have gLt14 := gL.same hI ha0 g16 (by decide) gL_Lp7
          refine zg_istore X [(5, .int v15), (4, .int x4), (3, .int x5), (2, .int x6), (0, .ref a0), (1, .int p1)] dX11_winnerBy_36 (by decide) rfl ?_
          refine zg_iload_n X 3 rfl dX11_winnerBy_38 ?_
          refine zg_if_lt X 51 dX11_winnerBy_39 (by decide) (fun c17 => ?_) (fun c17 => ?_)
          · skip
            replace E := zIf_t c17 E
            refine zg_iload X 1 rfl dX11_winnerBy_51 ?_
            refine zg_istore_n X [(2, .int x4), (5, .int v15), (4, .int x4), (3, .int x5), (0, .ref a0), (1, .int p1)] dX11_winnerBy_53 (by decide) rfl ?_
            refine zg_iload X 1 rfl dX11_winnerBy_54 ?_
            refine zg_istore_n X [(3, .int v15), (2, .int x4), (5, .int v15), (4, .int x4), (0, .ref a0), (1, .int p1)] dX11_winnerBy_56 (by decide) rfl ?_
            refine zg_iinc X 1 (fun v18 => [(4, .int v18), (3, .int v15), (2, .int x4), (5, .int v15), (0, .ref a0), (1, .int p1)]) 3 dX11_winnerBy_57 rfl (by decide) (by decide) (by omega) (by omega) (fun _ => rfl) (fun v18 ev18 hv18 => ?_)
            replace E := zLet_s (zinc ev18 (by decide)) E
            refine zg_goto X 8 dX11_winnerBy_60 (by decide) ?_
            refine zg_sub [0, 1, 2, 4, 5] rfl ?_
            exact ihLp7 _ v18 v15 x4 hI hS gLt14 Mt14 at14_54 E  (by omega) (by omega) (fun h0 o h1 h2 h3 => by first | (exfalso; omega) | exact if z : o < v18.toInt - 1 then hs (by omega) o h1 (by omega) h3 else zs (by omega) o (by omega) h3)
          · skip
            replace E := zIf_f (Int.not_lt.mpr c17) E
            refine zg_iload X 0 rfl dX11_winnerBy_42 ?_
            refine zg_iload_n X 2 rfl dX11_winnerBy_44 ?_
            have zv15_z19 := zb_rng v15
            have zx5_z20 := zb_rng x5
            refine zg_icmp_gt X 51 dX11_winnerBy_45 (by decide) (fun c21 => ?_) (fun c21 => ?_)
            · skip
              replace E := zIf_t c21 E
              refine zg_iload X 1 rfl dX11_winnerBy_51 ?_
              refine zg_istore_n X [(2, .int x4), (5, .int v15), (4, .int x4), (3, .int x5), (0, .ref a0), (1, .int p1)] dX11_winnerBy_53 (by decide) rfl ?_
              refine zg_iload X 1 rfl dX11_winnerBy_54 ?_
              refine zg_istore_n X [(3, .int v15), (2, .int x4), (5, .int v15), (4, .int x4), (0, .ref a0), (1, .int p1)] dX11_winnerBy_56 (by decide) rfl ?_
              refine zg_iinc X 1 (fun v22 => [(4, .int v22), (3, .int v15), (2, .int x4), (5, .int v15), (0, .ref a0), (1, .int p1)]) 3 dX11_winnerBy_57 rfl (by decide) (by decide) (by omega) (by omega) (fun _ => rfl) (fun v22 ev22 hv22 => ?_)
              replace E := zLet_s (zinc ev22 (by decide)) E
              refine zg_goto X 8 dX11_winnerBy_60 (by decide) ?_
              refine zg_sub [0, 1, 2, 4, 5] rfl ?_
              exact ihLp7 _ v22 v15 x4 hI hS gLt14 Mt14 at14_54 E  (by omega) (by omega) (fun h0 o h1 h2 h3 => by first | (exfalso; omega) | exact if z : o < v22.toInt - 1 then hs (by omega) o h1 (by omega) h3 else zs (by omega) o (by omega) h3)
            · skip
              replace E := zIf_f (Int.not_lt.mpr c21) E
              refine zg_goto X 57 dX11_winnerBy_48 (by decide) ?_
              refine zg_iinc X 1 (fun v23 => [(4, .int v23), (5, .int v15), (3, .int x5), (2, .int x6), (0, .ref a0), (1, .int p1)]) 1 dX11_winnerBy_57 rfl (by decide) (by decide) (by omega) (by omega) (fun _ => rfl) (fun v23 ev23 hv23 => ?_)
              replace E := zLet_s (zinc ev23 (by decide)) E
              refine zg_goto X 8 dX11_winnerBy_60 (by decide) ?_
              refine zg_sub [0, 2, 3, 4, 5] rfl ?_
              exact ihLp7 _ v23 x5 x6 hI hS gLt14 Mt14 at14_54 E  (by omega) (by omega) (fun h0 o h1 h2 h3 => by first | (exfalso; omega) | exact if z : o < v23.toInt - 1 then hs (by omega) o h1 (by omega) h3 else zs (by omega) o (by omega) h3)
        · skip
          replace E := zIf_t c13 E
          refine zg_goto X 57 dX11_winnerBy_26 (by decide) ?_
          refine zg_iinc X 1 (fun v24 => [(4, .int v24), (3, .int x5), (2, .int x6), (0, .ref a0), (1, .int p1)]) 0 dX11_winnerBy_57 rfl (by decide) (by decide) (by omega) (by omega) (fun _ => rfl) (fun v24 ev24 hv24 => ?_)
          replace E := zLet_s (zinc ev24 (by decide)) E
          refine zg_goto X 8 dX11_winnerBy_60 (by decide) ?_
          refine zg_sub [0, 1, 2, 3, 4] rfl ?_
          exact ihLp7 _ v24 x5 x6 hI hS gL_Lp7 M_Lp7 A54_Lp7 E  (by omega) (by omega) (fun h0 o h1 h2 h3 => by first | (exfalso; omega) | exact if z : o < v24.toInt - 1 then hs (by omega) o h1 (by omega) h3 else zs (by omega) o (by omega) h3)
  refine zg_sub [0, 1, 2, 3, 4] rfl ?_
  exact Lp7 10000 _ v3 v2 v1 hI hS hgL rfl rfl E  (by omega) (by omega) (fun _ o h1 h2 => absurd h2 (by omega))
set_option maxHeartbeats 4000000 in
set_option maxRecDepth 100000 in
theorem t_X11_fillsWays (l : Launch) (d : zD2) (L : List Nat) (kd : Nat → Nat) (κ : Int) (σ : zS) (hI : zJ κ L kd σ) (a0 : Nat) (ha0 : zT L kd a0 11) (hgR : gR a0 σ) : zMv l yX11_fillsWays (Cond.code yX11_fillsWays cX11_fillsWays 3 none :: zWL) 1 [.ref a0] d L kd σ (fun σ2 => σ2 = F_X11_fillsWays a0 σ ∧ ((gB a0 σ2) ∧ zJ κ L kd σ2 ∧ zSame a0 [] [152, 153, 154] L kd σ σ2)) := by
  refine zMv.of (own := RX11) (by decide +kernel) rfl rfl (Nat.le_of_ble_eq_true rfl) ?_
  intro p e s m args below meth c A Q X ret
  have hS : zSame a0 [] [152, 153, 154] L kd σ σ := zSame.rf
  refine zg_lv (lv2 := [(0, .ref a0)]) rfl ?_
  have zm := zM_in hI ha0
  obtain ⟨r, hr, hrb⟩ := gRow.rankB zm.2 (show gRow _ _ from hgR)
  have hf : ∀ a : Int, 1 ≤ a → a < zM a0 σ → 0 ≤ zp a0 σ 49 a ∧ zp a0 σ 49 a < zM a0 σ := fun a h1 h2 => ⟨(hr a h1 h2).1, (hr a h1 h2).2.1⟩
  obtain ⟨R, hR⟩ : ∃ R, R = F_X11_fillsWays a0 σ := ⟨_, rfl⟩
  have E := hR
  unfold F_X11_fillsWays at E
  refine zg_iconst X 0 dX11_fillsWays_0 (by decide) (fun v1 _ hv1 => ?_)
  replace E := zLet_s (zcst hv1 (by decide)) E
  refine zg_istore_n X [(1, .int v1), (0, .ref a0)] dX11_fillsWays_1 (by decide) rfl ?_
  have Lp3 : ∀ (nLp3 : Nat) (τ3 : zS) (x2 : Int32), zJ κ L kd τ3 → zSame a0 [] [152, 153, 154] L kd σ τ3 → gR a0 τ3 → zM a0 τ3 = zM a0 σ → zp a0 τ3 49 = zp a0 σ 49 → R = F_X11_fillsWays_2 a0  nLp3 x2 τ3 → 0 ≤ x2.toInt ∧ x2.toInt ≤ 12 → (12) - x2.toInt + 1 < (nLp3 : Int) → (∀ j : Int, 0 ≤ j → j < x2.toInt → zp a0 τ3 54 j = 0) → zG d L kd A 3 p l e (k2_rm 1 (100 * 1)) s m args below meth c Q τ3 2 [(1, .int x2), (0, .ref a0)] [] := by
    intro nLp3
    induction nLp3 with
    | zero => intro τ3 x2 hI hS gR_Lp3 M_Lp3 A49_Lp3 E  hxLp3 hm _ ; exact absurd hm (by omega)
    | succ nLp3 ihLp3 =>
      intro τ3 x2 hI hS gR_Lp3 M_Lp3 A49_Lp3 E  hxLp3 hmLp3 hc
      rw [F_X11_fillsWays_2] at E
      refine zg_iload_n X 0 rfl dX11_fillsWays_2 ?_
      refine zg_aload_n X 1 rfl dX11_fillsWays_3 ?_
      refine zg_cVi (As := []) (st := [.int x2]) X ha0 rfl (by decide) rfl (t_X11_many l d L kd κ _ hI a0 ha0   ) mk_X11_313 mc_X11_many mz_X11 mi_X11_many ml_X11_many (na := 0) ⟨md_X11.1, md_X11.2, by decide +kernel⟩ rfl ⟨by decide, by decide⟩ (Nat.le_of_ble_eq_true rfl) dX11_fillsWays_4 (fun v5 t4 hq => ?_)
      obtain ⟨⟨hF, ⟨ht4_res, ht4_fact0⟩⟩, rfl⟩ := hq
      replace E := zLet_s hF E
      refine zg_icmp_ge X 23 dX11_fillsWays_7 (by decide) (fun c6 => ?_) (fun c6 => ?_)
      · skip
        replace E := zIf_f (Int.not_lt.mpr c6) E
        refine zg_iconst X 0 dX11_fillsWays_23 (by decide) (fun v7 _ hv7 => ?_)
        replace E := zLet_s (zcst hv7 (by decide)) E
        refine zg_istore_n X [(1, .int v7), (0, .ref a0)] dX11_fillsWays_24 (by decide) rfl ?_
        have Lp9 : ∀ (nLp9 : Nat) (τ9 : zS) (x8 : Int32), zJ κ L kd τ9 → zSame a0 [] [152, 153, 154] L kd σ τ9 → gR a0 τ9 → zM a0 τ9 = zM a0 σ → zp a0 τ9 49 = zp a0 σ 49 → R = F_X11_fillsWays_25 a0 (F_X11_fillsWays_2 a0  nLp3) nLp9 x8 τ9 → 0 ≤ x8.toInt ∧ x8.toInt ≤ 12 → (12) - x8.toInt + 1 < (nLp9 : Int) → (gW1 (zM a0 σ) (zp a0 σ 49) (zp a0 τ9 54) x8.toInt) → zG d L kd A 3 p l e (k2_rm 1 (100 * 1)) s m args below meth c Q τ9 25 [(1, .int x8), (0, .ref a0)] [] := by
          intro nLp9
          induction nLp9 with
          | zero => intro τ9 x8 hI hS gR_Lp9 M_Lp9 A49_Lp9 E  hxLp9 hm _ ; exact absurd hm (by omega)
          | succ nLp9 ihLp9 =>
            intro τ9 x8 hI hS gR_Lp9 M_Lp9 A49_Lp9 E  hxLp9 hmLp9 hw
            rw [F_X11_fillsWays_25] at E
            refine zg_iload_n X 0 rfl dX11_fillsWays_25 ?_
            refine zg_aload_n X 1 rfl dX11_fillsWays_26 ?_
            refine zg_cVi (As := []) (st := [.int x8]) X ha0 rfl (by decide) rfl (t_X11_many l d L kd κ _ hI a0 ha0   ) mk_X11_313 mc_X11_many mz_X11 mi_X11_many ml_X11_many (na := 0) ⟨md_X11.1, md_X11.2, by decide +kernel⟩ rfl ⟨by decide, by decide⟩ (Nat.le_of_ble_eq_true rfl) dX11_fillsWays_27 (fun v11 t10 hq => ?_)
            obtain ⟨⟨hF, ⟨ht10_res, ht10_fact0⟩⟩, rfl⟩ := hq
            replace E := zLet_s hF E
            refine zg_icmp_ge X 126 dX11_fillsWays_30 (by decide) (fun c12 => ?_) (fun c12 => ?_)
            · skip
              replace E := zIf_f (Int.not_lt.mpr c12) E
              exact ret _ _ _ dX11_fillsWays_126 ⟨E.symm.trans hR, ⟨(by unfold gB; rw [M_Lp9, A49_Lp9]; exact fun o h0 h1 => hw.1 o h0 (by omega)), hI, hS⟩⟩
            · skip
              replace E := zIf_t c12 E
              refine zg_aload_n X 1 rfl dX11_fillsWays_33 ?_
              refine fg_X11_113 X hI ha0 dX11_fillsWays_34 (fun v13 ev13 hv13 => ?_)
              replace E := zLet_s (zgr ev13) E
              refine zg_iload_n X 0 rfl dX11_fillsWays_37 ?_
              refine zg_iconst X 0 dX11_fillsWays_38 (by decide) (fun v14 _ hv14 => ?_)
              replace E := zLet_s (zcst hv14 (by decide)) E
              refine as_152 X hI hv13 (by omega) (by omega) dX11_fillsWays_39 (fun s15 es15 hI => ?_)
              replace E := zLet_s es15 E
              have g16 := (zSame.rf (o := a0) (Wf := []) (Wa := [152]) (L := L) (kd := kd) (σ := τ9)).a ha0 hv13 es15 rfl (by decide)
              have hS := hS.tr g16 (by decide) (by decide)
              have Ms15 := (zM_same hI ha0 g16 (by decide)).trans M_Lp9
              have us15_49 := zp_same hI ha0 g16 49 rfl (by decide) (by decide)
              have as15_49 := us15_49.trans A49_Lp9
              have us15_54 := zp_same hI ha0 g16 54 rfl (by decide) (by decide)
              have as15_54 := us15_54
              have gRs15 := gR.same hI ha0 g16 (by decide) gR_Lp9
              refine zg_aload_n X 1 rfl dX11_fillsWays_40 ?_
              refine fg_X11_116 X hI ha0 dX11_fillsWays_41 (fun v17 ev17 hv17 => ?_)
              replace E := zLet_s (zgr ev17) E
              refine zg_iload_n X 0 rfl dX11_fillsWays_44 ?_
              refine zg_iconst X 0 dX11_fillsWays_45 (by decide) (fun v18 _ hv18 => ?_)
              replace E := zLet_s (zcst hv18 (by decide)) E
              refine as_153 X hI hv17 (by omega) (by omega) dX11_fillsWays_46 (fun s19 es19 hI => ?_)
              replace E := zLet_s es19 E
              have g20 := (zSame.rf (o := a0) (Wf := []) (Wa := [153]) (L := L) (kd := kd) (σ := s15)).a ha0 hv17 es19 rfl (by decide)
              have hS := hS.tr g20 (by decide) (by decide)
              have Ms19 := (zM_same hI ha0 g20 (by decide)).trans Ms15
              have us19_49 := zp_same hI ha0 g20 49 rfl (by decide) (by decide)
              have as19_49 := us19_49.trans as15_49
              have us19_54 := zp_same hI ha0 g20 54 rfl (by decide) (by decide)
              have as19_54 := us19_54.trans as15_54
              have gRs19 := gR.same hI ha0 g20 (by decide) gRs15
              refine zg_iload_n X 0 rfl dX11_fillsWays_47 ?_
              refine zg_istore_n X [(2, .int x8), (1, .int x8), (0, .ref a0)] dX11_fillsWays_48 (by decide) rfl ?_
              refine zg_aload_n X 2 rfl dX11_fillsWays_49 ?_
              refine fg_X11_119 X hI ha0 dX11_fillsWays_50 (fun v21 ev21 hv21 => ?_)
              replace E := zLet_s (zgr ev21) E
              refine zg_iload_n X 1 rfl dX11_fillsWays_53 ?_
              refine zg_dup2 X dX11_fillsWays_54 rfl rfl ?_
              refine ag_154 X hI hv21 (by omega) (by omega) dX11_fillsWays_55 (fun v22 ev22 _ => ?_)
              replace E := zLet_s ev22 E
              have qv22 := zp_ld ev21 ev22
              rw [as19_54] at qv22
              refine zg_iconst X 1 dX11_fillsWays_56 (by decide) (fun v23 _ hv23 => ?_)
              replace E := zLet_s (zcst hv23 (by decide)) E
              refine zg_iload_n X 1 rfl dX11_fillsWays_57 ?_
              refine zg_ishlW X dX11_fillsWays_58 (fun v24 ev24 => ?_)
              replace E := zLet_s ev24 E
              refine zg_iorW X dX11_fillsWays_59 (fun v25 ev25 => ?_)
              replace E := zLet_s ev25 E
              refine as_154 X hI hv21 (by omega) (by omega) dX11_fillsWays_60 (fun s26 es26 hI => ?_)
              replace E := zLet_s es26 E
              have g27 := (zSame.rf (o := a0) (Wf := []) (Wa := [154]) (L := L) (kd := kd) (σ := s19)).a ha0 hv21 es26 rfl (by decide)
              have rs26 := zp_st (σ := s19) (σ2 := s26) (i := x8) (x := v25) ev21 es26 (by omega)
              have ws26 := rs26
              rw [as19_54] at ws26
              have hS := hS.tr g27 (by decide) (by decide)
              have Ms26 := (zM_same hI ha0 g27 (by decide)).trans Ms19
              have us26_49 := zp_same hI ha0 g27 49 rfl (by decide) (by decide)
              have as26_49 := us26_49.trans as19_49
              have gRs26 := gR.same hI ha0 g27 (by decide) gRs19
              have Lp29 : ∀ (nLp29 : Nat) (τ29 : zS) (x28 : Int32), zJ κ L kd τ29 → zSame a0 [] [152, 153, 154] L kd σ τ29 → gR a0 τ29 → zM a0 τ29 = zM a0 σ → zp a0 τ29 49 = zp a0 σ 49 → R = F_X11_fillsWays_61 x8 a0 (F_X11_fillsWays_2 a0  nLp3) (F_X11_fillsWays_25 a0 (F_X11_fillsWays_2 a0  nLp3) nLp9) nLp29 x28 τ29 → 0 ≤ x28.toInt ∧ x28.toInt ≤ 11 ∧ x28.toInt < zM a0 σ → (r x28.toInt : Int) < (nLp29 : Int) → (gW2 (zM a0 σ) (zp a0 σ 49) (zp a0 τ29 54) x8.toInt x28.toInt) → zG d L kd A 3 p l e (k2_rm 1 (100 * 1)) s m args below meth c Q τ29 61 [(2, .int x28), (1, .int x8), (0, .ref a0)] [] := by
                intro nLp29
                induction nLp29 with
                | zero => intro τ29 x28 hI hS gR_Lp29 M_Lp29 A49_Lp29 E  hxLp29 hm _ ; exact absurd hm (by omega)
                | succ nLp29 ihLp29 =>
                  intro τ29 x28 hI hS gR_Lp29 M_Lp29 A49_Lp29 E  hxLp29 hmLp29 hw2
                  rw [F_X11_fillsWays_61] at E
                  refine zg_iload_n X 0 rfl dX11_fillsWays_61 ?_
                  refine zg_if_le X 120 dX11_fillsWays_62 (by decide) (fun c30 => ?_) (fun c30 => ?_)
                  · skip
                    replace E := zIf_f (Int.not_lt.mpr c30) E
                    refine zg_iinc X 1 (fun v31 => [(1, .int v31), (2, .int x28), (0, .ref a0)]) 1 dX11_fillsWays_120 rfl (by decide) (by decide) (by omega) (by omega) (fun _ => rfl) (fun v31 ev31 hv31 => ?_)
                    replace E := zLet_s (zinc ev31 (by decide)) E
                    refine zg_goto X 25 dX11_fillsWays_123 (by decide) ?_
                    refine zg_sub [0, 2] rfl ?_
                    exact ihLp9 _ v31 hI hS gR_Lp29 M_Lp29 A49_Lp29 E  (by omega) (by omega) (hw2.done zm.2 (by omega) (by omega))
                  · skip
                    replace E := zIf_t c30 E
                    have zr := hr x28.toInt (by omega) (by omega)
                    refine zg_aload_n X 2 rfl dX11_fillsWays_65 ?_
                    refine fg_X11_113 X hI ha0 dX11_fillsWays_66 (fun v32 ev32 hv32 => ?_)
                    replace E := zLet_s (zgr ev32) E
                    refine zg_iload_n X 1 rfl dX11_fillsWays_69 ?_
                    refine zg_dup2 X dX11_fillsWays_70 rfl rfl ?_
                    refine ag_152 X hI hv32 (by omega) (by omega) dX11_fillsWays_71 (fun v33 ev33 _ => ?_)
                    replace E := zLet_s ev33 E
                    refine zg_aload_n X 2 rfl dX11_fillsWays_72 ?_
                    refine fg_X11_49 X hI ha0 dX11_fillsWays_73 (fun v34 ev34 hv34 => ?_)
                    replace E := zLet_s (zgr ev34) E
                    refine zg_bipush X 12 dX11_fillsWays_76 (by decide) (fun v35 _ hv35 => ?_)
                    replace E := zLet_s (zcst hv35 (by decide)) E
                    refine zg_aload_n X 2 rfl dX11_fillsWays_78 ?_
                    refine fg_X11_236 X hI ha0 dX11_fillsWays_79 (fun v36 ev36 hv36 => ?_)
                    replace E := zLet_s ev36 E
                    refine zg_imulc X 12 dX11_fillsWays_82 (by omega) (by omega) (by omega) (fun v37 ev37 hv37 => ?_)
                    replace E := zLet_s ev37 E
                    refine zg_iload_n X 0 rfl dX11_fillsWays_83 ?_
                    refine zg_iadd X dX11_fillsWays_84 (by omega) (by omega) (fun v38 ev38 hv38 => ?_)
                    replace E := zLet_s ev38 E
                    refine ag_123 X hI hv34 (by omega) (by omega) dX11_fillsWays_85 (fun v39 ev39 _ => ?_)
                    replace E := zLet_s ev39 E
                    refine zg_iaddW X dX11_fillsWays_86 (fun v40 ev40 => ?_)
                    replace E := zLet_s ev40 E
                    refine as_152 X hI hv32 (by omega) (by omega) dX11_fillsWays_87 (fun s41 es41 hI => ?_)
                    replace E := zLet_s es41 E
                    have g42 := (zSame.rf (o := a0) (Wf := []) (Wa := [152]) (L := L) (kd := kd) (σ := τ29)).a ha0 hv32 es41 rfl (by decide)
                    have hS := hS.tr g42 (by decide) (by decide)
                    have Ms41 := (zM_same hI ha0 g42 (by decide)).trans M_Lp29
                    have us41_49 := zp_same hI ha0 g42 49 rfl (by decide) (by decide)
                    have as41_49 := us41_49.trans A49_Lp29
                    have us41_54 := zp_same hI ha0 g42 54 rfl (by decide) (by decide)
                    have as41_54 := us41_54
                    have gRs41 := gR.same hI ha0 g42 (by decide) gR_Lp29
                    have e43 := g42.v ev36 (by decide)
                    refine zg_aload_n X 2 rfl dX11_fillsWays_88 ?_
                    refine fg_X11_116 X hI ha0 dX11_fillsWays_89 (fun v44 ev44 hv44 => ?_)
                    replace E := zLet_s (zgr ev44) E
                    refine zg_iload_n X 1 rfl dX11_fillsWays_92 ?_
                    refine zg_dup2 X dX11_fillsWays_93 rfl rfl ?_
                    refine ag_153 X hI hv44 (by omega) (by omega) dX11_fillsWays_94 (fun v45 ev45 _ => ?_)
                    replace E := zLet_s ev45 E
                    refine zg_iconst X 1 dX11_fillsWays_95 (by decide) (fun v46 _ hv46 => ?_)
                    replace E := zLet_s (zcst hv46 (by decide)) E
                    refine zg_iaddW X dX11_fillsWays_96 (fun v47 ev47 => ?_)
                    replace E := zLet_s ev47 E
                    refine as_153 X hI hv44 (by omega) (by omega) dX11_fillsWays_97 (fun s48 es48 hI => ?_)
                    replace E := zLet_s es48 E
                    have g49 := (zSame.rf (o := a0) (Wf := []) (Wa := [153]) (L := L) (kd := kd) (σ := s41)).a ha0 hv44 es48 rfl (by decide)
                    have hS := hS.tr g49 (by decide) (by decide)
                    have Ms48 := (zM_same hI ha0 g49 (by decide)).trans Ms41
                    have us48_49 := zp_same hI ha0 g49 49 rfl (by decide) (by decide)
                    have as48_49 := us48_49.trans as41_49
                    have us48_54 := zp_same hI ha0 g49 54 rfl (by decide) (by decide)
                    have as48_54 := us48_54.trans as41_54
                    have gRs48 := gR.same hI ha0 g49 (by decide) gRs41
                    have e50 := g49.v e43 (by decide)
                    refine zg_aload_n X 2 rfl dX11_fillsWays_98 ?_
                    refine fg_X11_110 X hI ha0 dX11_fillsWays_99 (fun v51 ev51 hv51 => ?_)
                    replace E := zLet_s (zgr ev51) E
                    refine zg_iload_n X 0 rfl dX11_fillsWays_102 ?_
                    refine ag_149 X hI hv51 (by omega) (by omega) dX11_fillsWays_103 (fun v52 ev52 _ => ?_)
                    replace E := zLet_s ev52 E
                    have qv52 := zp_ld ev51 ev52
                    rw [as48_49] at qv52
                    rw [← qv52] at zr
                    refine zg_istore_n X [(2, .int v52), (1, .int x8), (0, .ref a0)] dX11_fillsWays_104 (by decide) rfl ?_
                    refine zg_aload_n X 2 rfl dX11_fillsWays_105 ?_
                    refine fg_X11_119 X hI ha0 dX11_fillsWays_106 (fun v53 ev53 hv53 => ?_)
                    replace E := zLet_s (zgr ev53) E
                    refine zg_iload_n X 0 rfl dX11_fillsWays_109 ?_
                    refine zg_dup2 X dX11_fillsWays_110 rfl rfl ?_
                    refine ag_154 X hI hv53 (by omega) (by omega) dX11_fillsWays_111 (fun v54 ev54 _ => ?_)
                    replace E := zLet_s ev54 E
                    have qv54 := zp_ld ev53 ev54
                    rw [as48_54] at qv54
                    refine zg_iconst X 1 dX11_fillsWays_112 (by decide) (fun v55 _ hv55 => ?_)
                    replace E := zLet_s (zcst hv55 (by decide)) E
                    refine zg_iload_n X 1 rfl dX11_fillsWays_113 ?_
                    refine zg_ishlW X dX11_fillsWays_114 (fun v56 ev56 => ?_)
                    replace E := zLet_s ev56 E
                    refine zg_iorW X dX11_fillsWays_115 (fun v57 ev57 => ?_)
                    replace E := zLet_s ev57 E
                    refine as_154 X hI hv53 (by omega) (by omega) dX11_fillsWays_116 (fun s58 es58 hI => ?_)
                    replace E := zLet_s es58 E
                    have g59 := (zSame.rf (o := a0) (Wf := []) (Wa := [154]) (L := L) (kd := kd) (σ := s48)).a ha0 hv53 es58 rfl (by decide)
                    have rs58 := zp_st (σ := s48) (σ2 := s58) (i := v52) (x := v57) ev53 es58 (by omega)
                    have ws58 := rs58
                    rw [as48_54] at ws58
                    have hS := hS.tr g59 (by decide) (by decide)
                    have Ms58 := (zM_same hI ha0 g59 (by decide)).trans Ms48
                    have us58_49 := zp_same hI ha0 g59 49 rfl (by decide) (by decide)
                    have as58_49 := us58_49.trans as48_49
                    have gRs58 := gR.same hI ha0 g59 (by decide) gRs48
                    have e60 := g59.v e50 (by decide)
                    refine zg_goto X 61 dX11_fillsWays_117 (by decide) ?_
                    refine zg_sub [0, 1, 2] rfl ?_
                    exact ihLp29 _ v52 hI hS gRs58 Ms58 as58_49 E  (by omega) (by omega) (gW2.go hf (b := zp a0 _ 54) hw2 (by omega) (by omega) zm.2 (by omega) (by omega) (by omega) (zbt_upd ws58 qv54 ev56 ev57 (by omega) (by omega) (by omega)))
              refine zg_sub [0, 1, 2] rfl ?_
              have zrb := hrb x8.toInt
              exact Lp29 10000 _ x8 hI hS gRs26 Ms26 as26_49 E  (by omega) (by omega) (gW1.go hf (b := zp a0 _ 54) hw (by omega) (by omega) zm.2 (zbt_upd ws26 qv22 ev24 ev25 (by omega) (by omega) (by omega)))
        refine zg_sub [0, 1] rfl ?_
        exact Lp9 10000 _ v7 hI hS gR_Lp3 M_Lp3 A49_Lp3 E  (by omega) (by omega) (by rw [show v7.toInt = 0 by omega]; exact gW1.z (fun j h0 h1 => hc j h0 (by omega)))
      · skip
        replace E := zIf_t c6 E
        refine zg_aload_n X 1 rfl dX11_fillsWays_10 ?_
        refine fg_X11_119 X hI ha0 dX11_fillsWays_11 (fun v61 ev61 hv61 => ?_)
        replace E := zLet_s (zgr ev61) E
        refine zg_iload_n X 0 rfl dX11_fillsWays_14 ?_
        refine zg_iconst X 0 dX11_fillsWays_15 (by decide) (fun v62 _ hv62 => ?_)
        replace E := zLet_s (zcst hv62 (by decide)) E
        refine as_154 X hI hv61 (by omega) (by omega) dX11_fillsWays_16 (fun s63 es63 hI => ?_)
        replace E := zLet_s es63 E
        have g64 := (zSame.rf (o := a0) (Wf := []) (Wa := [154]) (L := L) (kd := kd) (σ := τ3)).a ha0 hv61 es63 rfl (by decide)
        have rs63 := zp_st (σ := τ3) (σ2 := s63) (i := x2) (x := v62) ev61 es63 (by omega)
        have ws63 := rs63
        have hS := hS.tr g64 (by decide) (by decide)
        have Ms63 := (zM_same hI ha0 g64 (by decide)).trans M_Lp3
        have us63_49 := zp_same hI ha0 g64 49 rfl (by decide) (by decide)
        have as63_49 := us63_49.trans A49_Lp3
        have gRs63 := gR.same hI ha0 g64 (by decide) gR_Lp3
        refine zg_iinc X 1 (fun v65 => [(1, .int v65), (0, .ref a0)]) 0 dX11_fillsWays_17 rfl (by decide) (by decide) (by omega) (by omega) (fun _ => rfl) (fun v65 ev65 hv65 => ?_)
        replace E := zLet_s (zinc ev65 (by decide)) E
        refine zg_goto X 2 dX11_fillsWays_20 (by decide) ?_
        refine zg_sub [0, 1] rfl ?_
        exact ihLp3 _ v65 hI hS gRs63 Ms63 as63_49 E  (by omega) (by omega) (fun j h0 h1 => by rw [ws63 j h0]; split <;> rename_i hj <;> first | omega | exact hc j h0 (by omega))
  refine zg_sub [0, 1] rfl ?_
  exact Lp3 10000 _ v1 hI hS hgR rfl rfl E  (by omega) (by omega) (fun j h0 h1 => absurd h1 (by omega))
set_option maxHeartbeats 4000000 in
set_option maxRecDepth 100000 in
theorem t_X11_fillsFlows (l : Launch) (d : zD2) (L : List Nat) (kd : Nat → Nat) (κ : Int) (σ : zS) (hI : zJ κ L kd σ) (a0 : Nat) (ha0 : zT L kd a0 11) (p1 : Int32) (hgR : gR a0 σ) (hgL : gL a0 σ) : zMv l yX11_fillsFlows (Cond.code yX11_fillsFlows cX11_fillsFlows 5 none :: zWL) 3 [.ref a0, .int p1] d L kd σ (fun σ2 => σ2 = F_X11_fillsFlows a0 p1 σ ∧ (zJ κ L kd σ2 ∧ zSame a0 [47] [145, 146, 155] L kd σ σ2)) := by
  refine zMv.of (own := RX11) (by decide +kernel) rfl rfl (Nat.le_of_ble_eq_true rfl) ?_
  intro p e s m args below meth c A Q X ret
  have hS : zSame a0 [47] [145, 146, 155] L kd σ σ := zSame.rf
  refine zg_lv (lv2 := [(0, .ref a0), (1, .int p1)]) rfl ?_
  have zm := zM_in hI ha0
  obtain ⟨R, hR⟩ : ∃ R, R = F_X11_fillsFlows a0 p1 σ := ⟨_, rfl⟩
  have E := hR
  unfold F_X11_fillsFlows at E
  refine zg_iconst X 0 dX11_fillsFlows_0 (by decide) (fun v1 _ hv1 => ?_)
  replace E := zLet_s (zcst hv1 (by decide)) E
  refine zg_istore_n X [(2, .int v1), (0, .ref a0), (1, .int p1)] dX11_fillsFlows_1 (by decide) rfl ?_
  have Lp3 : ∀ (nLp3 : Nat) (τ3 : zS) (x2 : Int32), zJ κ L kd τ3 → zSame a0 [47] [145, 146, 155] L kd σ τ3 → gL a0 τ3 → gR a0 τ3 → zM a0 τ3 = zM a0 σ → zp a0 τ3 49 = zp a0 σ 49 → R = F_X11_fillsFlows_2 a0 p1  nLp3 x2 τ3 → 0 ≤ x2.toInt ∧ x2.toInt ≤ 12 → (12) - x2.toInt + 1 < (nLp3 : Int) → zG d L kd A 5 p l e (k2_rm 3 (100 * 3)) s m args below meth c Q τ3 2 [(2, .int x2), (0, .ref a0), (1, .int p1)] [] := by
    intro nLp3
    induction nLp3 with
    | zero => intro τ3 x2 hI hS gL_Lp3 gR_Lp3 M_Lp3 A49_Lp3 E  hxLp3 hm ; exact absurd hm (by omega)
    | succ nLp3 ihLp3 =>
      intro τ3 x2 hI hS gL_Lp3 gR_Lp3 M_Lp3 A49_Lp3 E  hxLp3 hmLp3 
      rw [F_X11_fillsFlows_2] at E
      refine zg_iload_n X 0 rfl dX11_fillsFlows_2 ?_
      refine zg_aload_n X 1 rfl dX11_fillsFlows_3 ?_
      refine zg_cVi (As := []) (st := [.int x2]) X ha0 rfl (by decide) rfl (t_X11_many l d L kd κ _ hI a0 ha0   ) mk_X11_313 mc_X11_many mz_X11 mi_X11_many ml_X11_many (na := 0) ⟨md_X11.1, md_X11.2, by decide +kernel⟩ rfl ⟨by decide, by decide⟩ (Nat.le_of_ble_eq_true rfl) dX11_fillsFlows_4 (fun v5 t4 hq => ?_)
      obtain ⟨⟨hF, ⟨ht4_res, ht4_fact0⟩⟩, rfl⟩ := hq
      replace E := zLet_s hF E
      refine zg_icmp_ge X 29 dX11_fillsFlows_7 (by decide) (fun c6 => ?_) (fun c6 => ?_)
      · skip
        replace E := zIf_f (Int.not_lt.mpr c6) E
        refine zg_bipush X 11 dX11_fillsFlows_29 (by decide) (fun v7 _ hv7 => ?_)
        replace E := zLet_s (zcst hv7 (by decide)) E
        refine zg_istore_n X [(2, .int v7), (0, .ref a0), (1, .int p1)] dX11_fillsFlows_31 (by decide) rfl ?_
        have Lp9 : ∀ (nLp9 : Nat) (τ9 : zS) (x8 : Int32), zJ κ L kd τ9 → zSame a0 [47] [145, 146, 155] L kd σ τ9 → gL a0 τ9 → gR a0 τ9 → zM a0 τ9 = zM a0 σ → zp a0 τ9 49 = zp a0 σ 49 → R = F_X11_fillsFlows_32 a0 p1 (F_X11_fillsFlows_2 a0 p1  nLp3) nLp9 x8 τ9 → 0 ≤ x8.toInt ∧ x8.toInt ≤ 11 → x8.toInt + 1 < (nLp9 : Int) → zG d L kd A 5 p l e (k2_rm 3 (100 * 3)) s m args below meth c Q τ9 32 [(2, .int x8), (0, .ref a0), (1, .int p1)] [] := by
          intro nLp9
          induction nLp9 with
          | zero => intro τ9 x8 hI hS gL_Lp9 gR_Lp9 M_Lp9 A49_Lp9 E  hxLp9 hm ; exact absurd hm (by omega)
          | succ nLp9 ihLp9 =>
            intro τ9 x8 hI hS gL_Lp9 gR_Lp9 M_Lp9 A49_Lp9 E  hxLp9 hmLp9 
            rw [F_X11_fillsFlows_32] at E
            refine zg_iload_n X 0 rfl dX11_fillsFlows_32 ?_
            refine zg_if_le X 114 dX11_fillsFlows_33 (by decide) (fun c10 => ?_) (fun c10 => ?_)
            · skip
              replace E := zIf_f (Int.not_lt.mpr c10) E
              exact ret _ _ _ dX11_fillsFlows_114 ⟨E.symm.trans hR, ⟨hI, hS⟩⟩
            · skip
              replace E := zIf_t c10 E
              refine zg_iconst X 1 dX11_fillsFlows_36 (by decide) (fun v11 _ hv11 => ?_)
              replace E := zLet_s (zcst hv11 (by decide)) E
              refine zg_istore_n X [(3, .int v11), (2, .int x8), (0, .ref a0), (1, .int p1)] dX11_fillsFlows_37 (by decide) rfl ?_
              have Lp13 : ∀ (nLp13 : Nat) (τ13 : zS) (x12 : Int32), zJ κ L kd τ13 → zSame a0 [47] [145, 146, 155] L kd σ τ13 → gL a0 τ13 → gR a0 τ13 → zM a0 τ13 = zM a0 σ → zp a0 τ13 49 = zp a0 σ 49 → R = F_X11_fillsFlows_38 x8 a0 p1 (F_X11_fillsFlows_2 a0 p1  nLp3) (F_X11_fillsFlows_32 a0 p1 (F_X11_fillsFlows_2 a0 p1  nLp3) nLp9) nLp13 x12 τ13 → 1 ≤ x12.toInt ∧ x12.toInt ≤ 12 → (12) - x12.toInt + 1 < (nLp13 : Int) → zG d L kd A 5 p l e (k2_rm 3 (100 * 3)) s m args below meth c Q τ13 38 [(3, .int x12), (2, .int x8), (0, .ref a0), (1, .int p1)] [] := by
                intro nLp13
                induction nLp13 with
                | zero => intro τ13 x12 hI hS gL_Lp13 gR_Lp13 M_Lp13 A49_Lp13 E  hxLp13 hm ; exact absurd hm (by omega)
                | succ nLp13 ihLp13 =>
                  intro τ13 x12 hI hS gL_Lp13 gR_Lp13 M_Lp13 A49_Lp13 E  hxLp13 hmLp13 
                  rw [F_X11_fillsFlows_38] at E
                  refine zg_iload_n X 0 rfl dX11_fillsFlows_38 ?_
                  refine zg_aload_n X 2 rfl dX11_fillsFlows_39 ?_
                  refine zg_cVi (As := []) (st := [.int x12]) X ha0 rfl (by decide) rfl (t_X11_many l d L kd κ _ hI a0 ha0   ) mk_X11_313 mc_X11_many mz_X11 mi_X11_many ml_X11_many (na := 0) ⟨md_X11.1, md_X11.2, by decide +kernel⟩ rfl ⟨by decide, by decide⟩ (Nat.le_of_ble_eq_true rfl) dX11_fillsFlows_40 (fun v15 t14 hq => ?_)
                  obtain ⟨⟨hF, ⟨ht14_res, ht14_fact0⟩⟩, rfl⟩ := hq
                  replace E := zLet_s hF E
                  refine zg_icmp_ge X 108 dX11_fillsFlows_43 (by decide) (fun c16 => ?_) (fun c16 => ?_)
                  · skip
                    replace E := zIf_f (Int.not_lt.mpr c16) E
                    refine zg_iinc X (-1) (fun v17 => [(2, .int v17), (3, .int x12), (0, .ref a0), (1, .int p1)]) 1 dX11_fillsFlows_108 rfl (by decide) (by decide) (by omega) (by omega) (fun _ => rfl) (fun v17 ev17 hv17 => ?_)
                    replace E := zLet_s (zinc ev17 (by decide)) E
                    refine zg_goto X 32 dX11_fillsFlows_111 (by decide) ?_
                    refine zg_sub [0, 2, 3] rfl ?_
                    exact ihLp9 _ v17 hI hS gL_Lp13 gR_Lp13 M_Lp13 A49_Lp13 E  (by omega) (by omega) 
                  · skip
                    replace E := zIf_t c16 E
                    refine zg_aload_n X 2 rfl dX11_fillsFlows_46 ?_
                    refine fg_X11_116 X hI ha0 dX11_fillsFlows_47 (fun v18 ev18 hv18 => ?_)
                    replace E := zLet_s (zgr ev18) E
                    refine zg_iload_n X 0 rfl dX11_fillsFlows_50 ?_
                    refine ag_153 X hI hv18 (by omega) (by omega) dX11_fillsFlows_51 (fun v19 ev19 _ => ?_)
                    replace E := zLet_s ev19 E
                    refine zg_iload_n X 1 rfl dX11_fillsFlows_52 ?_
                    refine zg_icmp_ne X 102 dX11_fillsFlows_53 (by decide) (fun c20 => ?_) (fun c20 => ?_)
                    · skip
                      replace E := zIf_f c20 E
                      refine zg_iinc X 1 (fun v21 => [(3, .int v21), (2, .int x8), (0, .ref a0), (1, .int p1)]) 0 dX11_fillsFlows_102 rfl (by decide) (by decide) (by omega) (by omega) (fun _ => rfl) (fun v21 ev21 hv21 => ?_)
                      replace E := zLet_s (zinc ev21 (by decide)) E
                      refine zg_goto X 38 dX11_fillsFlows_105 (by decide) ?_
                      refine zg_sub [0, 1, 2, 3] rfl ?_
                      exact ihLp13 _ v21 hI hS gL_Lp13 gR_Lp13 M_Lp13 A49_Lp13 E  (by omega) (by omega) 
                    · skip
                      replace E := zIf_t c20 E
                      refine zg_aload_n X 2 rfl dX11_fillsFlows_56 ?_
                      refine fg_X11_110 X hI ha0 dX11_fillsFlows_57 (fun v22 ev22 hv22 => ?_)
                      replace E := zLet_s (zgr ev22) E
                      refine zg_bipush X 12 dX11_fillsFlows_60 (by decide) (fun v23 _ hv23 => ?_)
                      replace E := zLet_s (zcst hv23 (by decide)) E
                      refine zg_iload_n X 0 rfl dX11_fillsFlows_62 ?_
                      refine zg_iadd X dX11_fillsFlows_63 (by omega) (by omega) (fun v24 ev24 hv24 => ?_)
                      replace E := zLet_s ev24 E
                      refine ag_149 X hI hv22 (by omega) (by omega) dX11_fillsFlows_64 (fun v25 ev25 _ => ?_)
                      replace E := zLet_s ev25 E
                      have qv25 := zp_ld ev22 ev25
                      rw [A49_Lp13] at qv25
                      refine zg_iconst X 1 dX11_fillsFlows_65 (by decide) (fun v26 _ hv26 => ?_)
                      replace E := zLet_s (zcst hv26 (by decide)) E
                      refine zg_icmp_ne X 72 dX11_fillsFlows_66 (by decide) (fun c27 => ?_) (fun c27 => ?_)
                      · skip
                        replace E := zIf_f c27 E
                        refine zg_aload_n X 2 rfl dX11_fillsFlows_72 ?_
                        refine fg_X11_122 X hI ha0 dX11_fillsFlows_73 (fun v28 ev28 hv28 => ?_)
                        replace E := zLet_s (zgr ev28) E
                        refine zg_iload_n X 0 rfl dX11_fillsFlows_76 ?_
                        refine ag_155 X hI hv28 (by omega) (by omega) dX11_fillsFlows_77 (fun v29 ev29 _ => ?_)
                        replace E := zLet_s ev29 E
                        refine zg_aload_n X 2 rfl dX11_fillsFlows_78 ?_
                        refine zg_iload_n X 0 rfl dX11_fillsFlows_79 ?_
                        refine zg_cVi (As := [.int x12]) (st := [.int v29]) X ha0 rfl (by decide) rfl (t_X11_driesAt l d L kd κ _ hI a0 ha0 x12  (by omega) gL_Lp13) mk_X11_363 mc_X11_driesAt mz_X11 mi_X11_driesAt ml_X11_driesAt (na := 1) ⟨md_X11.1, md_X11.2, by decide +kernel⟩ rfl ⟨by decide, by decide⟩ (Nat.le_of_ble_eq_true rfl) dX11_fillsFlows_80 (fun v31 t30 hq => ?_)
                        obtain ⟨hF, hI, g32⟩ := hq
                        replace E := zLet2_s hF E
                        have hS := hS.tr g32 (by decide) (by decide)
                        have Mt30 := (zM_same hI ha0 g32 (by decide)).trans M_Lp13
                        have ut30_49 := zp_same hI ha0 g32 49 rfl (by decide) (by decide)
                        have at30_49 := ut30_49.trans A49_Lp13
                        have gLt30 := gL.same hI ha0 g32 (by decide) gL_Lp13
                        have gRt30 := gR.same hI ha0 g32 (by decide) gR_Lp13
                        refine zg_isubW X dX11_fillsFlows_83 (fun v33 ev33 => ?_)
                        replace E := zLet_s ev33 E
                        refine zg_istore X [(4, .int v33), (3, .int x12), (2, .int x8), (0, .ref a0), (1, .int p1)] dX11_fillsFlows_84 (by decide) rfl ?_
                        refine zg_aload_n X 3 rfl dX11_fillsFlows_86 ?_
                        refine fg_X11_122 X hI ha0 dX11_fillsFlows_87 (fun v34 ev34 hv34 => ?_)
                        replace E := zLet_s (zgr ev34) E
                        refine zg_aload_n X 3 rfl dX11_fillsFlows_90 ?_
                        refine fg_X11_110 X hI ha0 dX11_fillsFlows_91 (fun v35 ev35 hv35 => ?_)
                        replace E := zLet_s (zgr ev35) E
                        refine zg_iload_n X 1 rfl dX11_fillsFlows_94 ?_
                        refine ag_149 X hI hv35 (by omega) (by omega) dX11_fillsFlows_95 (fun v36 ev36 _ => ?_)
                        replace E := zLet_s ev36 E
                        have qv36 := zp_ld ev35 ev36
                        rw [at30_49] at qv36
                        have zr := gR_at hgR (c := x12.toInt) (by omega) (by omega)
                        refine zg_dup2 X dX11_fillsFlows_96 rfl rfl ?_
                        refine ag_155 X hI hv34 (by omega) (by omega) dX11_fillsFlows_97 (fun v37 ev37 _ => ?_)
                        replace E := zLet_s ev37 E
                        refine zg_iload X 0 rfl dX11_fillsFlows_98 ?_
                        refine zg_iaddW X dX11_fillsFlows_100 (fun v38 ev38 => ?_)
                        replace E := zLet_s ev38 E
                        refine as_155 X hI hv34 (by omega) (by omega) dX11_fillsFlows_101 (fun s39 es39 hI => ?_)
                        replace E := zLet_s es39 E
                        have g40 := (zSame.rf (o := a0) (Wf := []) (Wa := [155]) (L := L) (kd := kd) (σ := t30)).a ha0 hv34 es39 rfl (by decide)
                        have hS := hS.tr g40 (by decide) (by decide)
                        have Ms39 := (zM_same hI ha0 g40 (by decide)).trans Mt30
                        have us39_49 := zp_same hI ha0 g40 49 rfl (by decide) (by decide)
                        have as39_49 := us39_49.trans at30_49
                        have gLs39 := gL.same hI ha0 g40 (by decide) gLt30
                        have gRs39 := gR.same hI ha0 g40 (by decide) gRt30
                        refine zg_iinc X 1 (fun v41 => [(3, .int v41), (4, .int v33), (2, .int x8), (0, .ref a0), (1, .int p1)]) 1 dX11_fillsFlows_102 rfl (by decide) (by decide) (by omega) (by omega) (fun _ => rfl) (fun v41 ev41 hv41 => ?_)
                        replace E := zLet_s (zinc ev41 (by decide)) E
                        refine zg_goto X 38 dX11_fillsFlows_105 (by decide) ?_
                        refine zg_sub [0, 2, 3, 4] rfl ?_
                        exact ihLp13 _ v41 hI hS gLs39 gRs39 Ms39 as39_49 E  (by omega) (by omega) 
                      · skip
                        replace E := zIf_t c27 E
                        refine zg_goto X 102 dX11_fillsFlows_69 (by decide) ?_
                        refine zg_iinc X 1 (fun v42 => [(3, .int v42), (2, .int x8), (0, .ref a0), (1, .int p1)]) 0 dX11_fillsFlows_102 rfl (by decide) (by decide) (by omega) (by omega) (fun _ => rfl) (fun v42 ev42 hv42 => ?_)
                        replace E := zLet_s (zinc ev42 (by decide)) E
                        refine zg_goto X 38 dX11_fillsFlows_105 (by decide) ?_
                        refine zg_sub [0, 1, 2, 3] rfl ?_
                        exact ihLp13 _ v42 hI hS gL_Lp13 gR_Lp13 M_Lp13 A49_Lp13 E  (by omega) (by omega) 
              refine zg_sub [0, 1, 2, 3] rfl ?_
              exact Lp13 10000 _ v11 hI hS gL_Lp9 gR_Lp9 M_Lp9 A49_Lp9 E  (by omega) (by omega) 
        refine zg_sub [0, 1, 2] rfl ?_
        exact Lp9 10000 _ v7 hI hS gL_Lp3 gR_Lp3 M_Lp3 A49_Lp3 E  (by omega) (by omega) 
      · skip
        replace E := zIf_t c6 E
        refine zg_aload_n X 1 rfl dX11_fillsFlows_10 ?_
        refine fg_X11_122 X hI ha0 dX11_fillsFlows_11 (fun v43 ev43 hv43 => ?_)
        replace E := zLet_s (zgr ev43) E
        refine zg_iload_n X 0 rfl dX11_fillsFlows_14 ?_
        refine zg_aload_n X 1 rfl dX11_fillsFlows_15 ?_
        refine zg_iload_n X 0 rfl dX11_fillsFlows_16 ?_
        refine zg_cVi (As := [.int x2]) (st := [.int x2, .ref v43]) X ha0 rfl (by decide) rfl (t_X11_rainsAt l d L kd κ _ hI a0 ha0 x2  (by omega) gL_Lp3) mk_X11_360 mc_X11_rainsAt mz_X11 mi_X11_rainsAt ml_X11_rainsAt (na := 1) ⟨md_X11.1, md_X11.2, by decide +kernel⟩ rfl ⟨by decide, by decide⟩ (Nat.le_of_ble_eq_true rfl) dX11_fillsFlows_17 (fun v45 t44 hq => ?_)
        obtain ⟨hF, hI, g46⟩ := hq
        replace E := zLet2_s hF E
        have hS := hS.tr g46 (by decide) (by decide)
        have e47 := (congrFun (congrFun g46.2.2 a0) 55).trans ev43
        have Mt44 := (zM_same hI ha0 g46 (by decide)).trans M_Lp3
        have ut44_49 := zp_same hI ha0 g46 49 rfl (by decide) (by decide)
        have at44_49 := ut44_49.trans A49_Lp3
        have gLt44 := gL.same hI ha0 g46 (by decide) gL_Lp3
        have gRt44 := gR.same hI ha0 g46 (by decide) gR_Lp3
        refine zg_iload_n X 2 rfl dX11_fillsFlows_20 ?_
        refine zg_iaddW X dX11_fillsFlows_21 (fun v48 ev48 => ?_)
        replace E := zLet_s ev48 E
        refine as_155 X hI hv43 (by omega) (by omega) dX11_fillsFlows_22 (fun s49 es49 hI => ?_)
        replace E := zLet_s es49 E
        have g50 := (zSame.rf (o := a0) (Wf := []) (Wa := [155]) (L := L) (kd := kd) (σ := t44)).a ha0 hv43 es49 rfl (by decide)
        have hS := hS.tr g50 (by decide) (by decide)
        have Ms49 := (zM_same hI ha0 g50 (by decide)).trans Mt44
        have us49_49 := zp_same hI ha0 g50 49 rfl (by decide) (by decide)
        have as49_49 := us49_49.trans at44_49
        have gLs49 := gL.same hI ha0 g50 (by decide) gLt44
        have gRs49 := gR.same hI ha0 g50 (by decide) gRt44
        refine zg_iinc X 1 (fun v51 => [(2, .int v51), (0, .ref a0), (1, .int p1)]) 0 dX11_fillsFlows_23 rfl (by decide) (by decide) (by omega) (by omega) (fun _ => rfl) (fun v51 ev51 hv51 => ?_)
        replace E := zLet_s (zinc ev51 (by decide)) E
        refine zg_goto X 2 dX11_fillsFlows_26 (by decide) ?_
        refine zg_sub [0, 1, 2] rfl ?_
        exact ihLp3 _ v51 hI hS gLs49 gRs49 Ms49 as49_49 E  (by omega) (by omega) 
  refine zg_sub [0, 1, 2] rfl ?_
  exact Lp3 10000 _ v1 hI hS hgL hgR rfl rfl E  (by omega) (by omega) 
set_option maxHeartbeats 4000000 in
set_option maxRecDepth 100000 in
theorem t_X11_copies (l : Launch) (d : zD2) (L : List Nat) (kd : Nat → Nat) (κ : Int) (σ : zS) (hI : zJ κ L kd σ) (a0 : Nat) (ha0 : zT L kd a0 11) (hgN : gN a0 σ) (hgL : gL a0 σ) : zMv l yX11_copies (Cond.code yX11_copies cX11_copies 2 none :: zWL) 4 [.ref a0] d L kd σ (fun σ2 => σ2 = F_X11_copies a0 σ ∧ (((∀ j : Int, 0 ≤ j → j < 50 → zp a0 σ2 49 j = zp a0 σ2 48 j) ∧ (gR a0 σ2) ∧ (gB a0 σ2)) ∧ zJ κ L kd σ2 ∧ zSame a0 [47, 50, 51] [145, 146, 149, 152, 153, 154, 155] L kd σ σ2)) := by
  refine zMv.of (own := RX11) (by decide +kernel) rfl rfl (Nat.le_of_ble_eq_true rfl) ?_
  intro p e s m args below meth c A Q X ret
  have hS : zSame a0 [47, 50, 51] [145, 146, 149, 152, 153, 154, 155] L kd σ σ := zSame.rf
  refine zg_lv (lv2 := [(0, .ref a0)]) rfl ?_
  obtain ⟨R, hR⟩ : ∃ R, R = F_X11_copies a0 σ := ⟨_, rfl⟩
  have E := hR
  unfold F_X11_copies at E
  refine zg_iconst X 0 dX11_copies_0 (by decide) (fun v1 _ hv1 => ?_)
  replace E := zLet_s (zcst hv1 (by decide)) E
  refine zg_istore_n X [(1, .int v1), (0, .ref a0)] dX11_copies_1 (by decide) rfl ?_
  have Lp3 : ∀ (nLp3 : Nat) (τ3 : zS) (x2 : Int32), zJ κ L kd τ3 → zSame a0 [47, 50, 51] [145, 146, 149, 152, 153, 154, 155] L kd σ τ3 → gL a0 τ3 → gN a0 τ3 → zM a0 τ3 = zM a0 σ → zp a0 τ3 48 = zp a0 σ 48 → R = F_X11_copies_2 a0  nLp3 x2 τ3 → 0 ≤ x2.toInt ∧ x2.toInt ≤ 50 → (50) - x2.toInt + 1 < (nLp3 : Int) → (∀ j : Int, 0 ≤ j → j < x2.toInt → zp a0 τ3 49 j = zp a0 σ 48 j) → zG d L kd A 2 p l e (k2_rm 4 (100 * 4)) s m args below meth c Q τ3 2 [(1, .int x2), (0, .ref a0)] [] := by
    intro nLp3
    induction nLp3 with
    | zero => intro τ3 x2 hI hS gL_Lp3 gN_Lp3 M_Lp3 A48_Lp3 E  hxLp3 hm _ ; exact absurd hm (by omega)
    | succ nLp3 ihLp3 =>
      intro τ3 x2 hI hS gL_Lp3 gN_Lp3 M_Lp3 A48_Lp3 E  hxLp3 hmLp3 hc
      rw [F_X11_copies_2] at E
      refine zg_iload_n X 0 rfl dX11_copies_2 ?_
      refine zg_bipush X 50 dX11_copies_3 (by decide) (fun v4 _ hv4 => ?_)
      replace E := zLet_s (zcst hv4 (by decide)) E
      refine zg_icmp_ge X 26 dX11_copies_5 (by decide) (fun c5 => ?_) (fun c5 => ?_)
      · skip
        replace E := zIf_f (Int.not_lt.mpr c5) E
        have zm := zM_in hI ha0
        have hn : ∀ j : Int, 0 ≤ j → j < 50 → zp a0 τ3 49 j = zp a0 σ 48 j := fun j h0 h1 => hc j h0 (by omega)
        have gR_0 : gR a0 τ3 := by unfold gR; rw [M_Lp3]; exact gRow.congr (by omega) hgN (fun j h0 h1 => hn j (by omega) (by omega))
        refine zg_aload_n X 1 rfl dX11_copies_26 ?_
        refine zg_aload_n X 1 rfl dX11_copies_27 ?_
        refine fg_X11_67 X hI ha0 dX11_copies_28 (fun v6 ev6 hv6 => ?_)
        replace E := zLet_s (zgr ev6) E
        refine zg_aload_n X 1 rfl dX11_copies_31 ?_
        refine fg_X11_236 X hI ha0 dX11_copies_32 (fun v7 ev7 hv7 => ?_)
        replace E := zLet_s ev7 E
        refine ag_129 X hI hv6 (by omega) (by omega) dX11_copies_35 (fun v8 ev8 _ => ?_)
        replace E := zLet_s ev8 E
        refine fp_X11_320 X hI ha0 (zb_rng _) dX11_copies_36 (fun s9 es9 hI => ?_)
        replace E := zLet_s es9 E
        have g10 := (zSame.rf (o := a0) (Wf := [50]) (Wa := []) (L := L) (kd := kd) (σ := τ3)).f ha0 es9 rfl
        have hS := hS.tr g10 (by decide) (by decide)
        have Ms9 := (zM_same hI ha0 g10 (by decide)).trans M_Lp3
        have us9_48 := zp_same hI ha0 g10 48 rfl (by decide) (by decide)
        have as9_48 := us9_48.trans A48_Lp3
        have us9_49 := zp_same hI ha0 g10 49 rfl (by decide) (by decide)
        have as9_49 := us9_49
        have gLs9 := gL.same hI ha0 g10 (by decide) gL_Lp3
        have gNs9 := gN.same hI ha0 g10 (by decide) gN_Lp3
        have gRs9 := gR.same hI ha0 g10 (by decide) gR_0
        have e11 := g10.v ev7 (by decide)
        have fs9_50 : (s9.1 a0 50).toInt = v8.toInt := by rw [es9]; exact congrArg _ (zu_s _ _ _ _)
        have e12 : v8 = s9.1 a0 50 := by rw [es9]; exact zm_s
        refine zg_aload_n X 1 rfl dX11_copies_39 ?_
        refine zg_iconst X 0 dX11_copies_40 (by decide) (fun v13 _ hv13 => ?_)
        replace E := zLet_s (zcst hv13 (by decide)) E
        refine fp_X11_323 X hI ha0 ⟨by omega, by omega⟩ dX11_copies_41 (fun s14 es14 hI => ?_)
        replace E := zLet_s es14 E
        have g15 := (zSame.rf (o := a0) (Wf := [51]) (Wa := []) (L := L) (kd := kd) (σ := s9)).f ha0 es14 rfl
        have hS := hS.tr g15 (by decide) (by decide)
        have Ms14 := (zM_same hI ha0 g15 (by decide)).trans Ms9
        have us14_48 := zp_same hI ha0 g15 48 rfl (by decide) (by decide)
        have as14_48 := us14_48.trans as9_48
        have us14_49 := zp_same hI ha0 g15 49 rfl (by decide) (by decide)
        have as14_49 := us14_49.trans as9_49
        have gLs14 := gL.same hI ha0 g15 (by decide) gLs9
        have gNs14 := gN.same hI ha0 g15 (by decide) gNs9
        have gRs14 := gR.same hI ha0 g15 (by decide) gRs9
        have e16 := g15.v e11 (by decide)
        have e17 := g15.v e12 (by decide)
        have fs14_51 : (s14.1 a0 51).toInt = v13.toInt := by rw [es14]; exact congrArg _ (zu_s _ _ _ _)
        have e18 : v13 = s14.1 a0 51 := by rw [es14]; exact zm_s
        refine zg_aload_n X 1 rfl dX11_copies_44 ?_
        refine zg_cVv (As := []) (st := []) X ha0 rfl (by decide) rfl (t_X11_fillsWays l d L kd κ _ hI a0 ha0    gRs14) mk_X11_326 mc_X11_fillsWays mz_X11 mi_X11_fillsWays ml_X11_fillsWays (na := 0) ⟨md_X11.1, md_X11.2, by decide +kernel⟩ rfl ⟨by decide, by decide⟩ (Nat.le_of_ble_eq_true rfl) dX11_copies_45 (fun t19 hq => ?_)
        obtain ⟨hF, gBt19, hI, g20⟩ := hq
        replace E := zLet_s hF E
        have hS := hS.tr g20 (by decide) (by decide)
        have Mt19 := (zM_same hI ha0 g20 (by decide)).trans Ms14
        have ut19_48 := zp_same hI ha0 g20 48 rfl (by decide) (by decide)
        have at19_48 := ut19_48.trans as14_48
        have ut19_49 := zp_same hI ha0 g20 49 rfl (by decide) (by decide)
        have at19_49 := ut19_49.trans as14_49
        have gLt19 := gL.same hI ha0 g20 (by decide) gLs14
        have gNt19 := gN.same hI ha0 g20 (by decide) gNs14
        have gRt19 := gR.same hI ha0 g20 (by decide) gRs14
        have e21 := g20.v e16 (by decide)
        have e22 := g20.v e17 (by decide)
        have e23 := g20.v e18 (by decide)
        refine zg_aload_n X 1 rfl dX11_copies_48 ?_
        refine zg_iconst X 0 dX11_copies_49 (by decide) (fun v24 _ hv24 => ?_)
        replace E := zLet_s (zcst hv24 (by decide)) E
        refine zg_cVv (As := [.int v24]) (st := []) X ha0 rfl (by decide) rfl (t_X11_fillsFlows l d L kd κ _ hI a0 ha0 v24   gRt19 gLt19) mk_X11_329 mc_X11_fillsFlows mz_X11 mi_X11_fillsFlows ml_X11_fillsFlows (na := 1) ⟨md_X11.1, md_X11.2, by decide +kernel⟩ rfl ⟨by decide, by decide⟩ (Nat.le_of_ble_eq_true rfl) dX11_copies_50 (fun t25 hq => ?_)
        obtain ⟨hF, hI, g26⟩ := hq
        replace E := zLet_s hF E
        have hS := hS.tr g26 (by decide) (by decide)
        have Mt25 := (zM_same hI ha0 g26 (by decide)).trans Mt19
        have ut25_48 := zp_same hI ha0 g26 48 rfl (by decide) (by decide)
        have at25_48 := ut25_48.trans at19_48
        have ut25_49 := zp_same hI ha0 g26 49 rfl (by decide) (by decide)
        have at25_49 := ut25_49.trans at19_49
        have gLt25 := gL.same hI ha0 g26 (by decide) gLt19
        have gNt25 := gN.same hI ha0 g26 (by decide) gNt19
        have gRt25 := gR.same hI ha0 g26 (by decide) gRt19
        have gBt25 := gB.same hI ha0 g26 (by decide) gBt19
        have e27 := g26.v e21 (by decide)
        have e28 := g26.v e22 (by decide)
        have e29 := g26.v e23 (by decide)
        exact ret _ _ _ dX11_copies_53 ⟨E.symm.trans hR, ⟨⟨(fun j h0 h1 => by rw [at25_48, at25_49]; exact hn j h0 h1), gRt25, gBt25⟩, hI, hS⟩⟩
      · skip
        replace E := zIf_t c5 E
        refine zg_aload_n X 1 rfl dX11_copies_8 ?_
        refine fg_X11_110 X hI ha0 dX11_copies_9 (fun v30 ev30 hv30 => ?_)
        replace E := zLet_s (zgr ev30) E
        refine zg_iload_n X 0 rfl dX11_copies_12 ?_
        refine zg_aload_n X 1 rfl dX11_copies_13 ?_
        refine fg_X11_107 X hI ha0 dX11_copies_14 (fun v31 ev31 hv31 => ?_)
        replace E := zLet_s (zgr ev31) E
        refine zg_iload_n X 0 rfl dX11_copies_17 ?_
        refine ag_148 X hI hv31 (by omega) (by omega) dX11_copies_18 (fun v32 ev32 _ => ?_)
        replace E := zLet_s ev32 E
        have qv32 := zp_ld ev31 ev32
        rw [A48_Lp3] at qv32
        refine as_149 X hI hv30 (by omega) (by omega) dX11_copies_19 (fun s33 es33 hI => ?_)
        replace E := zLet_s es33 E
        have g34 := (zSame.rf (o := a0) (Wf := []) (Wa := [149]) (L := L) (kd := kd) (σ := τ3)).a ha0 hv30 es33 rfl (by decide)
        have rs33 := zp_st (σ := τ3) (σ2 := s33) (i := x2) (x := v32) ev30 es33 (by omega)
        have ws33 := rs33
        have hS := hS.tr g34 (by decide) (by decide)
        have Ms33 := (zM_same hI ha0 g34 (by decide)).trans M_Lp3
        have us33_48 := zp_same hI ha0 g34 48 rfl (by decide) (by decide)
        have as33_48 := us33_48.trans A48_Lp3
        have gLs33 := gL.same hI ha0 g34 (by decide) gL_Lp3
        have gNs33 := gN.same hI ha0 g34 (by decide) gN_Lp3
        refine zg_iinc X 1 (fun v35 => [(1, .int v35), (0, .ref a0)]) 0 dX11_copies_20 rfl (by decide) (by decide) (by omega) (by omega) (fun _ => rfl) (fun v35 ev35 hv35 => ?_)
        replace E := zLet_s (zinc ev35 (by decide)) E
        refine zg_goto X 2 dX11_copies_23 (by decide) ?_
        refine zg_sub [0, 1] rfl ?_
        exact ihLp3 _ v35 hI hS gLs33 gNs33 Ms33 as33_48 E  (by omega) (by omega) (fun j h0 h1 => by rw [ws33 j h0]; split <;> rename_i hj <;> first | (rw [hj]; exact qv32) | exact hc j h0 (by omega))
  refine zg_sub [0, 1] rfl ?_
  exact Lp3 10000 _ v1 hI hS hgL hgN rfl rfl E  (by omega) (by omega) (fun j h0 h1 => absurd h1 (by omega))
