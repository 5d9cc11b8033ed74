set_option maxHeartbeats 4000000 in
set_option maxRecDepth 100000 in
theorem t_X11_term (l : Launch) (d : zD2) (L : List Nat) (kd : Nat → Nat) (κ : Int) (σ : zS) (hI : zJ κ L kd σ) (a0 : Nat) (ha0 : zT L kd a0 11) (hq0 : (σ.1 a0 38).toInt ≤ 425 + (σ.1 a0 11).toInt) (hq1 : (1 ≤ (σ.1 a0 13).toInt ∨ (σ.1 a0 12).toInt = 0)) (hq2 : (σ.1 a0 32).toInt ≤ 259) : zMv l yX11_term (Cond.code yX11_term cX11_term 1 none :: zWL) 4 [.ref a0] d L kd σ (fun σ2 => σ2 = F_X11_term a0 σ ∧ (((((σ2.1 a0 32).toInt = (σ.1 a0 32).toInt + 1 ∧ (σ.1 a0 11).toInt ≤ (σ2.1 a0 11).toInt ∧ (σ.1 a0 38).toInt ≤ (σ2.1 a0 38).toInt ∧ (σ2.1 a0 38).toInt ≤ (σ.1 a0 38).toInt + (σ2.1 a0 11).toInt - (σ.1 a0 11).toInt + 1 ∧ ((σ.1 a0 13).toInt = 0 ∨ (1 ≤ (σ2.1 a0 13).toInt ∧ (σ2.1 a0 38).toInt = (σ.1 a0 38).toInt)))) ∧ ((1 ≤ (σ2.1 a0 13).toInt ∨ ((σ.1 a0 13).toInt = 0 ∧ (σ2.1 a0 13).toInt = 0 ∧ (σ2.1 a0 38).toInt ≤ (σ.1 a0 38).toInt + (σ2.1 a0 11).toInt - (σ.1 a0 11).toInt ∧ (σ.1 a0 11).toInt < (σ2.1 a0 11).toInt ∧ (σ2.1 a0 12).toInt = (σ.1 a0 12).toInt))) ∧ (((σ2.1 a0 13).toInt = 0 → gCod (zp a0 σ2 39) (zp a0 σ2 40) (σ.1 a0 38).toInt (σ2.1 a0 38).toInt)) ∧ (zKc a0 σ σ2) ∧ ((∀ b : Int, 0 ≤ b → b ≠ (σ.1 a0 32).toInt → zp a0 σ2 36 b = zp a0 σ 36 b ∧ zp a0 σ2 37 b = zp a0 σ 37 b)) ∧ ((zp a0 σ2 36 (σ.1 a0 32).toInt = (σ.1 a0 38).toInt ∧ zp a0 σ2 37 (σ.1 a0 32).toInt = (σ2.1 a0 38).toInt))) ∧ zJ κ L kd σ2 ∧ zSame a0 [11, 12, 13, 14, 32, 38, 44] [136, 137, 139, 140, 143] L kd σ σ2)) := by
  refine zMv.of (own := RX11) (by decide +kernel) rfl rfl (Nat.le_of_ble_eq_true rfl) ?_
  intro p e s m args below meth c A Q X ret
  have hS : zSame a0 [11, 12, 13, 14, 32, 38, 44] [136, 137, 139, 140, 143] L kd σ σ := zSame.rf
  refine zg_lv (lv2 := [(0, .ref a0)]) rfl ?_
  have z11 : 0 ≤ (σ.1 a0 11).toInt ∧ (σ.1 a0 11).toInt ≤ 400 := zj_get hI ha0 rfl
  have z12 : 0 ≤ (σ.1 a0 12).toInt ∧ (σ.1 a0 12).toInt ≤ 7 := zj_get hI ha0 rfl
  have z13 : 0 ≤ (σ.1 a0 13).toInt ∧ (σ.1 a0 13).toInt ≤ 2147483647 := zj_get hI ha0 rfl
  have z32 : 0 ≤ (σ.1 a0 32).toInt ∧ (σ.1 a0 32).toInt ≤ 260 := zj_get hI ha0 rfl
  have z38 : 0 ≤ (σ.1 a0 38).toInt ∧ (σ.1 a0 38).toInt ≤ 840 := zj_get hI ha0 rfl
  obtain ⟨R, hR⟩ : ∃ R, R = F_X11_term a0 σ := ⟨_, rfl⟩
  have E := hR
  unfold F_X11_term at E
  refine zg_aload_n X 0 rfl dX11_term_0 ?_
  refine fg_X11_86 X hI ha0 dX11_term_1 (fun v1 ev1 hv1 => ?_)
  replace E := zLet_s (zgr ev1) E
  refine zg_aload_n X 0 rfl dX11_term_4 ?_
  refine fg_X11_242 X hI ha0 dX11_term_5 (fun v2 ev2 hv2 => ?_)
  replace E := zLet_s ev2 E
  have kv2 : (σ.1 a0 32).toInt = v2.toInt := by rw [ev2]
  refine zg_aload_n X 0 rfl dX11_term_8 ?_
  refine fg_X11_245 X hI ha0 dX11_term_9 (fun v3 ev3 hv3 => ?_)
  replace E := zLet_s ev3 E
  have kv3 : (σ.1 a0 38).toInt = v3.toInt := by rw [ev3]
  refine as_136 X hI hv1 (by omega) (by omega) dX11_term_12 (fun s4 es4 hI => ?_)
  replace E := zLet_s es4 E
  have g5 := (zSame.rf (o := a0) (Wf := []) (Wa := [136]) (L := L) (kd := kd) (σ := σ)).a ha0 hv1 es4 rfl (by decide)
  have rs4 := zp_st (σ := σ) (σ2 := s4) (i := v2) (x := v3) ev1 es4 (by omega)
  have ws4 := rs4
  rw [← kv2] at ws4
  have fs4_11 : (s4.1 a0 11).toInt = (σ.1 a0 11).toInt := by rw [g5.2.1 11 (by decide)]
  have fs4_12 : (s4.1 a0 12).toInt = (σ.1 a0 12).toInt := by rw [g5.2.1 12 (by decide)]
  have fs4_13 : (s4.1 a0 13).toInt = (σ.1 a0 13).toInt := by rw [g5.2.1 13 (by decide)]
  have fs4_32 : (s4.1 a0 32).toInt = (σ.1 a0 32).toInt := by rw [g5.2.1 32 (by decide)]
  have fs4_38 : (s4.1 a0 38).toInt = (σ.1 a0 38).toInt := by rw [g5.2.1 38 (by decide)]
  have hS := hS.tr g5 (by decide) (by decide)
  have as4_37 := zp_same hI ha0 g5 37 rfl (by decide) (by decide)
  have as4_39 := zp_same hI ha0 g5 39 rfl (by decide) (by decide)
  have as4_40 := zp_same hI ha0 g5 40 rfl (by decide) (by decide)
  have e6 := g5.v ev2 (by decide)
  have e7 := g5.v ev3 (by decide)
  refine zg_aload_n X 0 rfl dX11_term_13 ?_
  refine fg_X11_206 X hI ha0 dX11_term_14 (fun v8 ev8 hv8 => ?_)
  replace E := zLet_s ev8 E
  have kv8 : (s4.1 a0 13).toInt = v8.toInt := by rw [ev8]
  refine zg_if_ne X 24 dX11_term_17 (by decide) (fun c9 => ?_) (fun c9 => ?_)
  · skip
    replace E := zIf_f c9 E
    refine zg_aload_n X 0 rfl dX11_term_24 ?_
    refine fg_X11_89 X hI ha0 dX11_term_25 (fun v10 ev10 hv10 => ?_)
    replace E := zLet_s (zgr ev10) E
    refine zg_aload_n X 0 rfl dX11_term_28 ?_
    refine fg_X11_242 X hI ha0 dX11_term_29 (fun v11 ev11 hv11 => ?_)
    replace E := zLet_s ev11 E
    have kv11 : (s4.1 a0 32).toInt = v11.toInt := by rw [ev11]
    have mv11 : v11.toInt = v2.toInt := by rw [ev11, ← e6]
    refine zg_aload_n X 0 rfl dX11_term_32 ?_
    refine fg_X11_245 X hI ha0 dX11_term_33 (fun v12 ev12 hv12 => ?_)
    replace E := zLet_s ev12 E
    have kv12 : (s4.1 a0 38).toInt = v12.toInt := by rw [ev12]
    have mv12 : v12.toInt = v3.toInt := by rw [ev12, ← e7]
    refine as_137 X hI hv10 (by omega) (by omega) dX11_term_36 (fun s13 es13 hI => ?_)
    replace E := zLet_s es13 E
    have g14 := (zSame.rf (o := a0) (Wf := []) (Wa := [137]) (L := L) (kd := kd) (σ := s4)).a ha0 hv10 es13 rfl (by decide)
    have rs13 := zp_st (σ := s4) (σ2 := s13) (i := v11) (x := v12) ev10 es13 (by omega)
    have ws13 := rs13
    rw [as4_37] at ws13
    rw [← kv11] at ws13
    have fs13_11 : (s13.1 a0 11).toInt = (s4.1 a0 11).toInt := by rw [g14.2.1 11 (by decide)]
    have fs13_12 : (s13.1 a0 12).toInt = (s4.1 a0 12).toInt := by rw [g14.2.1 12 (by decide)]
    have fs13_13 : (s13.1 a0 13).toInt = (s4.1 a0 13).toInt := by rw [g14.2.1 13 (by decide)]
    have fs13_32 : (s13.1 a0 32).toInt = (s4.1 a0 32).toInt := by rw [g14.2.1 32 (by decide)]
    have fs13_38 : (s13.1 a0 38).toInt = (s4.1 a0 38).toInt := by rw [g14.2.1 38 (by decide)]
    have hS := hS.tr g14 (by decide) (by decide)
    have as13_36 := zp_same hI ha0 g14 36 rfl (by decide) (by decide)
    have as13_39 := (zp_same hI ha0 g14 39 rfl (by decide) (by decide)).trans as4_39
    have as13_40 := (zp_same hI ha0 g14 40 rfl (by decide) (by decide)).trans as4_40
    have e15 := g14.v ev11 (by decide)
    refine zg_aload_n X 0 rfl dX11_term_37 ?_
    refine zg_dup X dX11_term_38 rfl ?_
    refine fg_X11_242 X hI ha0 dX11_term_39 (fun v18 ev18 hv18 => ?_)
    replace E := zLet_s ev18 E
    have kv18 : (s13.1 a0 32).toInt = v18.toInt := by rw [ev18]
    have mv18 : v18.toInt = v11.toInt := by rw [ev18, ← e15]
    refine zg_iconst X 1 dX11_term_42 (by decide) (fun v19 _ hv19 => ?_)
    replace E := zLet_s (zcst hv19 (by decide)) E
    refine zg_iadd X dX11_term_43 (by omega) (by omega) (fun v20 ev20 hv20 => ?_)
    replace E := zLet_s ev20 E
    refine fp_X11_242 X hI ha0 ⟨by omega, by omega⟩ dX11_term_44 (fun s21 es21 hI => ?_)
    replace E := zLet_s es21 E
    have g22 := (zSame.rf (o := a0) (Wf := [32]) (Wa := []) (L := L) (kd := kd) (σ := s13)).f ha0 es21 rfl
    have fs21_11 : (s21.1 a0 11).toInt = (s13.1 a0 11).toInt := by rw [g22.2.1 11 (by decide)]
    have fs21_12 : (s21.1 a0 12).toInt = (s13.1 a0 12).toInt := by rw [g22.2.1 12 (by decide)]
    have fs21_13 : (s21.1 a0 13).toInt = (s13.1 a0 13).toInt := by rw [g22.2.1 13 (by decide)]
    have fs21_38 : (s21.1 a0 38).toInt = (s13.1 a0 38).toInt := by rw [g22.2.1 38 (by decide)]
    have hS := hS.tr g22 (by decide) (by decide)
    have as21_36 := (zp_same hI ha0 g22 36 rfl (by decide) (by decide)).trans as13_36
    have as21_37 := zp_same hI ha0 g22 37 rfl (by decide) (by decide)
    have as21_39 := (zp_same hI ha0 g22 39 rfl (by decide) (by decide)).trans as13_39
    have as21_40 := (zp_same hI ha0 g22 40 rfl (by decide) (by decide)).trans as13_40
    have fs21_32 : (s21.1 a0 32).toInt = v20.toInt := by rw [es21]; exact congrArg _ (zu_s _ _ _ _)
    have e25 : v20 = s21.1 a0 32 := by rw [es21]; exact zm_s
    exact ret _ _ _ dX11_term_47 ⟨E.symm.trans hR, ⟨⟨(by omega), (by omega), (fun h0 => by first | (exfalso; omega) | (rw [as21_39, as21_40, show (s21.1 a0 38).toInt = y38 by omega]; exact ze2 (by omega))), (by first | exact zKc.eq as21_39 as21_40 | exact fun j h0 h1 => by have x := ze3 j h0 (by omega); rw [zs39, zs40] at x; rw [as21_39, as21_40]; exact x), (fun b h0 h1 => by rw [as21_36, as21_37, ws4 b h0, ws13 b h0, if_neg (by omega), if_neg (by omega)]; exact ⟨rfl, rfl⟩), (by rw [as21_36, as21_37, ws4 _ (by omega), ws13 _ (by omega), if_pos (by omega), if_pos (by omega)]; exact ⟨by omega, by omega⟩)⟩, hI, hS⟩⟩
  · skip
    replace E := zIf_t c9 E
    refine zg_aload_n X 0 rfl dX11_term_20 ?_
    have zs39 : zp a0 s4 39 = zp a0 σ 39 := as4_39
    have zs40 : zp a0 s4 40 = zp a0 σ 40 := as4_40
    refine zg_cVv (As := []) (st := []) X ha0 rfl (by decide) rfl (t_X11_expression l d L kd κ _ hI a0 ha0   (by omega) (by omega)) mk_X11_291 mc_X11_expression mz_X11 mi_X11_expression ml_X11_expression (na := 0) ⟨md_X11.1, md_X11.2, by decide +kernel⟩ rfl ⟨by decide, by decide⟩ (Nat.le_of_ble_eq_true rfl) dX11_term_21 (fun t26 hq => ?_)
    obtain ⟨hF, ⟨ht26_fact0, ht26_fact1, ht26_fact2, ht26_fact3⟩, hI, g27⟩ := hq
    replace E := zLet_s hF E
    have ft26_32 : (t26.1 a0 32).toInt = (s4.1 a0 32).toInt := by rw [g27.2.1 32 (by decide)]
    have hS := hS.tr g27 (by decide) (by decide)
    have at26_36 := zp_same hI ha0 g27 36 rfl (by decide) (by decide)
    have at26_37 := (zp_same hI ha0 g27 37 rfl (by decide) (by decide)).trans as4_37
    have e28 := g27.v e6 (by decide)
    have ze2 := ht26_fact2
    have ze3 := ht26_fact3
    clear ht26_fact2 ht26_fact3
    rw [show (s4.1 a0 38).toInt = (σ.1 a0 38).toInt by omega] at ze2
    obtain ⟨y38, hy38⟩ : ∃ x : Int, x = (t26.1 a0 38).toInt := ⟨_, rfl⟩
    rw [← hy38] at ze2
    refine zg_aload_n X 0 rfl dX11_term_24 ?_
    refine fg_X11_89 X hI ha0 dX11_term_25 (fun v29 ev29 hv29 => ?_)
    replace E := zLet_s (zgr ev29) E
    refine zg_aload_n X 0 rfl dX11_term_28 ?_
    refine fg_X11_242 X hI ha0 dX11_term_29 (fun v30 ev30 hv30 => ?_)
    replace E := zLet_s ev30 E
    have kv30 : (t26.1 a0 32).toInt = v30.toInt := by rw [ev30]
    have mv30 : v30.toInt = v2.toInt := by rw [ev30, ← e28]
    refine zg_aload_n X 0 rfl dX11_term_32 ?_
    refine fg_X11_245 X hI ha0 dX11_term_33 (fun v31 ev31 hv31 => ?_)
    replace E := zLet_s ev31 E
    have kv31 : (t26.1 a0 38).toInt = v31.toInt := by rw [ev31]
    refine as_137 X hI hv29 (by omega) (by omega) dX11_term_36 (fun s32 es32 hI => ?_)
    replace E := zLet_s es32 E
    have g33 := (zSame.rf (o := a0) (Wf := []) (Wa := [137]) (L := L) (kd := kd) (σ := t26)).a ha0 hv29 es32 rfl (by decide)
    have rs32 := zp_st (σ := t26) (σ2 := s32) (i := v30) (x := v31) ev29 es32 (by omega)
    have ws32 := rs32
    rw [at26_37] at ws32
    rw [← kv30] at ws32
    have fs32_11 : (s32.1 a0 11).toInt = (t26.1 a0 11).toInt := by rw [g33.2.1 11 (by decide)]
    have fs32_12 : (s32.1 a0 12).toInt = (t26.1 a0 12).toInt := by rw [g33.2.1 12 (by decide)]
    have fs32_13 : (s32.1 a0 13).toInt = (t26.1 a0 13).toInt := by rw [g33.2.1 13 (by decide)]
    have fs32_32 : (s32.1 a0 32).toInt = (t26.1 a0 32).toInt := by rw [g33.2.1 32 (by decide)]
    have fs32_38 : (s32.1 a0 38).toInt = (t26.1 a0 38).toInt := by rw [g33.2.1 38 (by decide)]
    have hS := hS.tr g33 (by decide) (by decide)
    have as32_36 := (zp_same hI ha0 g33 36 rfl (by decide) (by decide)).trans at26_36
    have as32_39 := zp_same hI ha0 g33 39 rfl (by decide) (by decide)
    have as32_40 := zp_same hI ha0 g33 40 rfl (by decide) (by decide)
    have e34 := g33.v ev30 (by decide)
    refine zg_aload_n X 0 rfl dX11_term_37 ?_
    refine zg_dup X dX11_term_38 rfl ?_
    refine fg_X11_242 X hI ha0 dX11_term_39 (fun v36 ev36 hv36 => ?_)
    replace E := zLet_s ev36 E
    have kv36 : (s32.1 a0 32).toInt = v36.toInt := by rw [ev36]
    have mv36 : v36.toInt = v30.toInt := by rw [ev36, ← e34]
    refine zg_iconst X 1 dX11_term_42 (by decide) (fun v37 _ hv37 => ?_)
    replace E := zLet_s (zcst hv37 (by decide)) E
    refine zg_iadd X dX11_term_43 (by omega) (by omega) (fun v38 ev38 hv38 => ?_)
    replace E := zLet_s ev38 E
    refine fp_X11_242 X hI ha0 ⟨by omega, by omega⟩ dX11_term_44 (fun s39 es39 hI => ?_)
    replace E := zLet_s es39 E
    have g40 := (zSame.rf (o := a0) (Wf := [32]) (Wa := []) (L := L) (kd := kd) (σ := s32)).f ha0 es39 rfl
    have fs39_11 : (s39.1 a0 11).toInt = (s32.1 a0 11).toInt := by rw [g40.2.1 11 (by decide)]
    have fs39_12 : (s39.1 a0 12).toInt = (s32.1 a0 12).toInt := by rw [g40.2.1 12 (by decide)]
    have fs39_13 : (s39.1 a0 13).toInt = (s32.1 a0 13).toInt := by rw [g40.2.1 13 (by decide)]
    have fs39_38 : (s39.1 a0 38).toInt = (s32.1 a0 38).toInt := by rw [g40.2.1 38 (by decide)]
    have hS := hS.tr g40 (by decide) (by decide)
    have as39_36 := (zp_same hI ha0 g40 36 rfl (by decide) (by decide)).trans as32_36
    have as39_37 := zp_same hI ha0 g40 37 rfl (by decide) (by decide)
    have as39_39 := (zp_same hI ha0 g40 39 rfl (by decide) (by decide)).trans as32_39
    have as39_40 := (zp_same hI ha0 g40 40 rfl (by decide) (by decide)).trans as32_40
    have fs39_32 : (s39.1 a0 32).toInt = v38.toInt := by rw [es39]; exact congrArg _ (zu_s _ _ _ _)
    have e42 : v38 = s39.1 a0 32 := by rw [es39]; exact zm_s
    exact ret _ _ _ dX11_term_47 ⟨E.symm.trans hR, ⟨⟨(by omega), (by omega), (fun h0 => by first | (exfalso; omega) | (rw [as39_39, as39_40, show (s39.1 a0 38).toInt = y38 by omega]; exact ze2 (by omega))), (by first | exact zKc.eq as39_39 as39_40 | exact fun j h0 h1 => by have x := ze3 j h0 (by omega); rw [zs39, zs40] at x; rw [as39_39, as39_40]; exact x), (fun b h0 h1 => by rw [as39_36, as39_37, ws4 b h0, ws32 b h0, if_neg (by omega), if_neg (by omega)]; exact ⟨rfl, rfl⟩), (by rw [as39_36, as39_37, ws4 _ (by omega), ws32 _ (by omega), if_pos (by omega), if_pos (by omega)]; exact ⟨by omega, by omega⟩)⟩, hI, hS⟩⟩
set_option maxHeartbeats 4000000 in
set_option maxRecDepth 100000 in
theorem t_X11_tellLaw (l : Launch) (d : zD2) (L : List Nat) (kd : Nat → Nat) (κ : Int) (σ : zS) (hI : zJ κ L kd σ) (a0 : Nat) (ha0 : zT L kd a0 11) (p1 : Int32) (hq0 : 0 ≤ p1.toInt ∧ p1.toInt ≤ 4) (hq1 : (σ.1 a0 19).toInt + (σ.1 a0 18).toInt = 1) (hq2 : 420 * (σ.1 a0 19).toInt ≤ (σ.1 a0 38).toInt ∧ (σ.1 a0 38).toInt ≤ 420 * (σ.1 a0 19).toInt + (σ.1 a0 11).toInt) (hq3 : 130 * (σ.1 a0 19).toInt ≤ (σ.1 a0 32).toInt ∧ 4 * ((σ.1 a0 32).toInt - 130 * (σ.1 a0 19).toInt) ≤ (σ.1 a0 11).toInt) (hq4 : (1 ≤ (σ.1 a0 13).toInt ∨ (σ.1 a0 12).toInt = 0)) (hgP : gP a0 σ) (hgL : gL a0 σ) : zMv l yX11_tellLaw (Cond.code yX11_tellLaw cX11_tellLaw 4 none :: zWL) 5 [.ref a0, .int p1] d L kd σ (fun σ2 => σ2 = F_X11_tellLaw a0 p1 σ ∧ (((((σ.1 a0 11).toInt ≤ (σ2.1 a0 11).toInt ∧ (1 ≤ (σ2.1 a0 13).toInt ∨ ((σ.1 a0 13).toInt = 0 ∧ (σ2.1 a0 13).toInt = 0 ∧ (σ.1 a0 11).toInt < (σ2.1 a0 11).toInt ∧ (σ2.1 a0 12).toInt = 0 ∧ (σ.1 a0 38).toInt ≤ (σ2.1 a0 38).toInt ∧ (σ2.1 a0 38).toInt ≤ (σ.1 a0 38).toInt + (σ2.1 a0 11).toInt - (σ.1 a0 11).toInt ∧ (σ.1 a0 32).toInt ≤ (σ2.1 a0 32).toInt ∧ 4 * ((σ2.1 a0 32).toInt - (σ.1 a0 32).toInt) ≤ (σ2.1 a0 11).toInt - (σ.1 a0 11).toInt + 1)))) ∧ (((σ2.1 a0 13).toInt = 0 → gP a0 σ2)) ∧ (zLkp a0 σ σ2) ∧ (gL a0 σ2)) ∧ zJ κ L kd σ2 ∧ zSame a0 [11, 12, 13, 14, 32, 38, 44] [130, 131, 133, 134, 135, 136, 137, 139, 140, 143] L kd σ σ2)) := by
  refine zMv.of (own := RX11) (by decide +kernel) rfl rfl (Nat.le_of_ble_eq_true rfl) ?_
  intro p e s m args below meth c A Q X ret
  have hS : zSame a0 [11, 12, 13, 14, 32, 38, 44] [130, 131, 133, 134, 135, 136, 137, 139, 140, 143] L kd σ σ := zSame.rf
  refine zg_lv (lv2 := [(0, .ref a0), (1, .int p1)]) rfl ?_
  have z11 : 0 ≤ (σ.1 a0 11).toInt ∧ (σ.1 a0 11).toInt ≤ 400 := zj_get hI ha0 rfl
  have z12 : 0 ≤ (σ.1 a0 12).toInt ∧ (σ.1 a0 12).toInt ≤ 7 := zj_get hI ha0 rfl
  have z13 : 0 ≤ (σ.1 a0 13).toInt ∧ (σ.1 a0 13).toInt ≤ 2147483647 := zj_get hI ha0 rfl
  have z18 : 0 ≤ (σ.1 a0 18).toInt ∧ (σ.1 a0 18).toInt ≤ 1 := zj_get hI ha0 rfl
  have z19 : 0 ≤ (σ.1 a0 19).toInt ∧ (σ.1 a0 19).toInt ≤ 1 := zj_get hI ha0 rfl
  have z32 : 0 ≤ (σ.1 a0 32).toInt ∧ (σ.1 a0 32).toInt ≤ 260 := zj_get hI ha0 rfl
  have z38 : 0 ≤ (σ.1 a0 38).toInt ∧ (σ.1 a0 38).toInt ≤ 840 := zj_get hI ha0 rfl
  obtain ⟨R, hR⟩ : ∃ R, R = F_X11_tellLaw a0 p1 σ := ⟨_, rfl⟩
  have E := hR
  unfold F_X11_tellLaw at E
  refine zg_aload_n X 0 rfl dX11_tellLaw_0 ?_
  refine zg_iconst X 5 dX11_tellLaw_1 (by decide) (fun v1 _ hv1 => ?_)
  replace E := zLet_s (zcst hv1 (by decide)) E
  refine zg_cVv (As := [.int v1]) (st := []) X ha0 rfl (by decide) rfl (t_X11_must l d L kd κ _ hI a0 ha0 v1  ) mk_X11_274 mc_X11_must mz_X11 mi_X11_must ml_X11_must (na := 1) ⟨md_X11.1, md_X11.2, by decide +kernel⟩ rfl ⟨by decide, by decide⟩ (Nat.le_of_ble_eq_true rfl) dX11_tellLaw_2 (fun t2 hq => ?_)
  obtain ⟨hF, ht2_fact0, hI, g3⟩ := hq
  replace E := zLet_s hF E
  have ft2_12 : (t2.1 a0 12).toInt = (σ.1 a0 12).toInt := by rw [g3.2.1 12 (by decide)]
  have ft2_32 : (t2.1 a0 32).toInt = (σ.1 a0 32).toInt := by rw [g3.2.1 32 (by decide)]
  have ft2_38 : (t2.1 a0 38).toInt = (σ.1 a0 38).toInt := by rw [g3.2.1 38 (by decide)]
  have hS := hS.tr g3 (by decide) (by decide)
  have at2_30 := zp_same hI ha0 g3 30 rfl (by decide) (by decide)
  have at2_31 := zp_same hI ha0 g3 31 rfl (by decide) (by decide)
  have at2_33 := zp_same hI ha0 g3 33 rfl (by decide) (by decide)
  have at2_34 := zp_same hI ha0 g3 34 rfl (by decide) (by decide)
  have at2_35 := zp_same hI ha0 g3 35 rfl (by decide) (by decide)
  have at2_36 := zp_same hI ha0 g3 36 rfl (by decide) (by decide)
  have at2_37 := zp_same hI ha0 g3 37 rfl (by decide) (by decide)
  have at2_39 := zp_same hI ha0 g3 39 rfl (by decide) (by decide)
  have at2_40 := zp_same hI ha0 g3 40 rfl (by decide) (by decide)
  have gPt2 := gP.same hI ha0 g3 (by decide) hgP
  have z11e : 0 ≤ (t2.1 a0 11).toInt ∧ (t2.1 a0 11).toInt ≤ 400 := zj_get hI ha0 rfl
  refine zg_aload_n X 0 rfl dX11_tellLaw_5 ?_
  refine fg_X11_242 X hI ha0 dX11_tellLaw_6 (fun v4 ev4 hv4 => ?_)
  replace E := zLet_s ev4 E
  have kv4 : (t2.1 a0 32).toInt = v4.toInt := by rw [ev4]
  refine zg_istore_n X [(2, .int v4), (0, .ref a0), (1, .int p1)] dX11_tellLaw_9 (by decide) rfl ?_
  refine zg_iconst X 0 dX11_tellLaw_10 (by decide) (fun v5 _ hv5 => ?_)
  replace E := zLet_s (zcst hv5 (by decide)) E
  refine zg_istore_n X [(3, .int v5), (2, .int v4), (0, .ref a0), (1, .int p1)] dX11_tellLaw_11 (by decide) rfl ?_
  have Lp7 : ∀ (nLp7 : Nat) (τ7 : zS) (x6 : Int32), zJ κ L kd τ7 → zSame a0 [11, 12, 13, 14, 32, 38, 44] [130, 131, 133, 134, 135, 136, 137, 139, 140, 143] L kd σ τ7 → (τ7.1 a0 18).toInt = (σ.1 a0 18).toInt → (τ7.1 a0 19).toInt = (σ.1 a0 19).toInt → zp a0 τ7 30 = zp a0 σ 30 → zp a0 τ7 31 = zp a0 σ 31 → R = F_X11_tellLaw_12 v4 a0 p1  nLp7 x6 τ7 → 0 ≤ x6.toInt ∧ x6.toInt ≤ 4 ∧ 0 ≤ x6.toInt ∧ x6.toInt ≤ 4 ∧ (τ7.1 a0 32).toInt = (σ.1 a0 32).toInt + x6.toInt ∧ (σ.1 a0 11).toInt ≤ (τ7.1 a0 11).toInt ∧ (τ7.1 a0 11).toInt ≤ 400 ∧ 0 ≤ (τ7.1 a0 13).toInt ∧ (σ.1 a0 38).toInt ≤ (τ7.1 a0 38).toInt ∧ (τ7.1 a0 38).toInt ≤ (σ.1 a0 38).toInt + (τ7.1 a0 11).toInt - (σ.1 a0 11).toInt + min (τ7.1 a0 13).toInt 1 ∧ (σ.1 a0 11).toInt + 1 + 7 * x6.toInt ≤ (τ7.1 a0 11).toInt + 40 * min (τ7.1 a0 13).toInt 1 ∧ 0 ≤ (τ7.1 a0 12).toInt ∧ (τ7.1 a0 12).toInt ≤ 7 * min (τ7.1 a0 13).toInt 1 ∧ (1 ≤ (τ7.1 a0 13).toInt ∨ (σ.1 a0 13).toInt = 0) → 5 - x6.toInt < (nLp7 : Int) → (zKc a0 σ τ7) → (zRk a0 σ τ7 (σ.1 a0 32).toInt) → (((τ7.1 a0 13).toInt = 0 → ∀ b : Int, (σ.1 a0 32).toInt ≤ b → b < (τ7.1 a0 32).toInt → gBr a0 τ7 (420 * (σ.1 a0 19).toInt) (τ7.1 a0 38).toInt b)) → zG d L kd A 4 p l e (k2_rm 5 (100 * 5)) s m args below meth c Q τ7 12 [(3, .int x6), (2, .int v4), (0, .ref a0), (1, .int p1)] [] := by
    intro nLp7
    induction nLp7 with
    | zero => intro τ7 x6 hI hS T18_Lp7 T19_Lp7 A30_Lp7 A31_Lp7 E  hxLp7 hm _ _ _ ; exact absurd hm (by omega)
    | succ nLp7 ihLp7 =>
      intro τ7 x6 hI hS T18_Lp7 T19_Lp7 A30_Lp7 A31_Lp7 E  hxLp7 hmLp7 hk hr hb
      rw [F_X11_tellLaw_12] at E
      clear hq4
      refine zg_aload_n X 2 rfl dX11_tellLaw_12 ?_
      refine fg_X11_206 X hI ha0 dX11_tellLaw_13 (fun v8 ev8 hv8 => ?_)
      replace E := zLet_s ev8 E
      have kv8 : (τ7.1 a0 13).toInt = v8.toInt := by rw [ev8]
      have h13p : 0 ≤ (τ7.1 a0 13).toInt := by omega
      obtain ⟨e0, he0⟩ : ∃ e : Int, e = min (τ7.1 a0 13).toInt 1 := ⟨_, rfl⟩
      rw [← he0] at hxLp7
      have hzr := zb_rng (τ7.1 a0 13)
      have hB0 : zHide ((τ7.1 a0 13).toInt ≤ 2147483647 * e0) := zHide.mk (by clear hxLp7; omega)
      replace he0 : e0 ≤ 1 ∧ e0 ≤ (τ7.1 a0 13).toInt ∧ 0 ≤ e0 := by omega
      clear hzr
      refine zg_if_ne X 129 dX11_tellLaw_16 (by decide) (fun c9 => ?_) (fun c9 => ?_)
      · skip
        replace E := zIf_f c9 E
        have he1 : 1 ≤ e0 := by have y := hB0.un; omega
        refine zg_aload_n X 2 rfl dX11_tellLaw_129 ?_
        refine fg_X11_76 X hI ha0 dX11_tellLaw_130 (fun v10 ev10 hv10 => ?_)
        replace E := zLet_s (zgr ev10) E
        refine zg_aload_n X 2 rfl dX11_tellLaw_133 ?_
        refine fg_X11_242 X hI ha0 dX11_tellLaw_134 (fun v11 ev11 hv11 => ?_)
        replace E := zLet_s ev11 E
        have kv11 : (τ7.1 a0 32).toInt = v11.toInt := by rw [ev11]
        refine zg_iconst X 0 dX11_tellLaw_137 (by decide) (fun v12 _ hv12 => ?_)
        replace E := zLet_s (zcst hv12 (by decide)) E
        refine as_133 X hI hv10 (by omega) (by omega) ⟨by omega, by omega⟩ dX11_tellLaw_138 (fun s13 es13 hI => ?_)
        replace E := zLet_s es13 E
        have g14 := (zSame.rf (o := a0) (Wf := []) (Wa := [133]) (L := L) (kd := kd) (σ := τ7)).a ha0 hv10 es13 rfl (by decide)
        have rs13 := zp_st (σ := τ7) (σ2 := s13) (i := v11) (x := v12) ev10 (by rw [es13, zb_nz ⟨by omega, by omega⟩]) (by omega)
        have ws13 := rs13
        rw [← kv11] at ws13
        have fs13_11 : (s13.1 a0 11).toInt = (τ7.1 a0 11).toInt := by rw [g14.2.1 11 (by decide)]
        have fs13_12 : (s13.1 a0 12).toInt = (τ7.1 a0 12).toInt := by rw [g14.2.1 12 (by decide)]
        have fs13_13 : (s13.1 a0 13).toInt = (τ7.1 a0 13).toInt := by rw [g14.2.1 13 (by decide)]
        have fs13_32 : (s13.1 a0 32).toInt = (τ7.1 a0 32).toInt := by rw [g14.2.1 32 (by decide)]
        have fs13_38 : (s13.1 a0 38).toInt = (τ7.1 a0 38).toInt := by rw [g14.2.1 38 (by decide)]
        have hS := hS.tr g14 (by decide) (by decide)
        have as13_30 := (zp_same hI ha0 g14 30 rfl (by decide) (by decide)).trans A30_Lp7
        have as13_31 := (zp_same hI ha0 g14 31 rfl (by decide) (by decide)).trans A31_Lp7
        have as13_34 := zp_same hI ha0 g14 34 rfl (by decide) (by decide)
        have as13_35 := zp_same hI ha0 g14 35 rfl (by decide) (by decide)
        have as13_36 := zp_same hI ha0 g14 36 rfl (by decide) (by decide)
        have as13_37 := zp_same hI ha0 g14 37 rfl (by decide) (by decide)
        have as13_39 := zp_same hI ha0 g14 39 rfl (by decide) (by decide)
        have as13_40 := zp_same hI ha0 g14 40 rfl (by decide) (by decide)
        refine zg_aload_n X 2 rfl dX11_tellLaw_139 ?_
        obtain ⟨yb, hyb⟩ : ∃ x : Int, x = (s13.1 a0 32).toInt := ⟨_, rfl⟩
        have zt36 : zp a0 s13 36 = zp a0 τ7 36 := as13_36
        have zt37 : zp a0 s13 37 = zp a0 τ7 37 := as13_37
        have zd39 : zp a0 s13 39 = zp a0 τ7 39 := as13_39
        have zd40 : zp a0 s13 40 = zp a0 τ7 40 := as13_40
        have zq3 : (s13.1 a0 38).toInt = (τ7.1 a0 38).toInt := by omega
        refine zg_cVv (As := []) (st := []) X ha0 rfl (by decide) rfl (t_X11_term l d L kd κ _ hI a0 ha0   (by omega) (by omega) (by omega)) mk_X11_294 mc_X11_term mz_X11 mi_X11_term ml_X11_term (na := 0) ⟨md_X11.1, md_X11.2, by decide +kernel⟩ rfl ⟨by decide, by decide⟩ (Nat.le_of_ble_eq_true rfl) dX11_tellLaw_140 (fun t17 hq => ?_)
        obtain ⟨hF, ⟨ht17_fact0, ht17_fact1, ht17_fact2, ht17_fact3, ht17_fact4, ht17_fact5⟩, hI, g18⟩ := hq
        replace E := zLet_s hF E
        have hS := hS.tr g18 (by decide) (by decide)
        have at17_30 := (zp_same hI ha0 g18 30 rfl (by decide) (by decide)).trans as13_30
        have at17_31 := (zp_same hI ha0 g18 31 rfl (by decide) (by decide)).trans as13_31
        have at17_33 := zp_same hI ha0 g18 33 rfl (by decide) (by decide)
        have at17_34 := (zp_same hI ha0 g18 34 rfl (by decide) (by decide)).trans as13_34
        have at17_35 := (zp_same hI ha0 g18 35 rfl (by decide) (by decide)).trans as13_35
        have z12o : 0 ≤ (t17.1 a0 12).toInt ∧ (t17.1 a0 12).toInt ≤ 7 := zj_get hI ha0 rfl
        obtain ⟨e6, qa6, qb6, qc6, qd6, qB6, qe6⟩ := zfe_ex (e := e0) (by omega) z12o.2 (by omega) (by omega) (by omega) ht17_fact0.2 ht17_fact1
        replace qB6 := zHide.mk qB6
        have zB1 := ht17_fact0.1
        clear ht17_fact0 ht17_fact1
        have zg3 := ht17_fact2
        have zx3 := ht17_fact3
        have zt4 := ht17_fact4
        have zt5 := ht17_fact5
        clear ht17_fact5 ht17_fact4 ht17_fact3 ht17_fact2
        rw [← hyb] at zt4 zt5
        rw [zt36, zt37] at zt4
        obtain ⟨f5, hf5⟩ : ∃ f : Int → Int, f = zp a0 t17 39 := ⟨_, rfl⟩
        obtain ⟨f6, hf6⟩ : ∃ f : Int → Int, f = zp a0 t17 40 := ⟨_, rfl⟩
        obtain ⟨y3, hy3⟩ : ∃ x : Int, x = (t17.1 a0 38).toInt := ⟨_, rfl⟩
        rw [zq3, ← hy3, ← hf5, ← hf6] at zg3
        rw [zq3, ← hy3] at zt5
        have o6 : (s13.1 a0 38).toInt ≤ (t17.1 a0 38).toInt := by omega
        have u6 : (τ7.1 a0 11).toInt + 1 ≤ (t17.1 a0 11).toInt + 1 * e6 ∧ (τ7.1 a0 11).toInt ≤ (t17.1 a0 11).toInt ∧ e0 ≤ e6 ∧ (τ7.1 a0 38).toInt ≤ (t17.1 a0 38).toInt ∧ (t17.1 a0 38).toInt ≤ (τ7.1 a0 38).toInt + (t17.1 a0 11).toInt - (τ7.1 a0 11).toInt + e6 - e0 ∧ 0 ≤ (t17.1 a0 12).toInt ∧ (t17.1 a0 12).toInt ≤ (τ7.1 a0 12).toInt + 21 * e6 := ⟨by omega, by omega, by omega, by omega, by omega, by omega, by omega⟩
        clear qe6
        have zk3 : ∀ j : Int, 0 ≤ j → (j < (τ7.1 a0 38).toInt ∨ y3 ≤ j) → f5 j = zp a0 τ7 39 j ∧ f6 j = zp a0 τ7 40 j := fun j h0 h1 => by have x := zx3 j h0 (by omega); rw [zd39, zd40, ← hf5, ← hf6] at x; exact x
        refine zg_aload_n X 2 rfl dX11_tellLaw_143 ?_
        refine zg_iconst X 4 dX11_tellLaw_144 (by decide) (fun v19 _ hv19 => ?_)
        replace E := zLet_s (zcst hv19 (by decide)) E
        refine zg_cVv (As := [.int v19]) (st := []) X ha0 rfl (by decide) rfl (t_X11_must l d L kd κ _ hI a0 ha0 v19  ) mk_X11_274 mc_X11_must mz_X11 mi_X11_must ml_X11_must (na := 1) ⟨md_X11.1, md_X11.2, by decide +kernel⟩ rfl ⟨by decide, by decide⟩ (Nat.le_of_ble_eq_true rfl) dX11_tellLaw_145 (fun t20 hq => ?_)
        obtain ⟨hF, ht20_fact0, hI, g21⟩ := hq
        replace E := zLet_s hF E
        have ft20_12 : (t20.1 a0 12).toInt = (t17.1 a0 12).toInt := by rw [g21.2.1 12 (by decide)]
        have ft20_32 : (t20.1 a0 32).toInt = (t17.1 a0 32).toInt := by rw [g21.2.1 32 (by decide)]
        have ft20_38 : (t20.1 a0 38).toInt = (t17.1 a0 38).toInt := by rw [g21.2.1 38 (by decide)]
        have hS := hS.tr g21 (by decide) (by decide)
        have at20_30 := (zp_same hI ha0 g21 30 rfl (by decide) (by decide)).trans at17_30
        have at20_31 := (zp_same hI ha0 g21 31 rfl (by decide) (by decide)).trans at17_31
        have at20_33 := (zp_same hI ha0 g21 33 rfl (by decide) (by decide)).trans at17_33
        have at20_34 := (zp_same hI ha0 g21 34 rfl (by decide) (by decide)).trans at17_34
        have at20_35 := (zp_same hI ha0 g21 35 rfl (by decide) (by decide)).trans at17_35
        have at20_36 := zp_same hI ha0 g21 36 rfl (by decide) (by decide)
        have at20_37 := zp_same hI ha0 g21 37 rfl (by decide) (by decide)
        have at20_39 := zp_same hI ha0 g21 39 rfl (by decide) (by decide)
        have at20_40 := zp_same hI ha0 g21 40 rfl (by decide) (by decide)
        refine zg_aload_n X 2 rfl dX11_tellLaw_148 ?_
        refine fg_X11_206 X hI ha0 dX11_tellLaw_149 (fun v22 ev22 hv22 => ?_)
        replace E := zLet_s ev22 E
        have kv22 : (t20.1 a0 13).toInt = v22.toInt := by rw [ev22]
        refine zg_if_le X 156 dX11_tellLaw_152 (by decide) (fun c23 => ?_) (fun c23 => ?_)
        · omega
        · skip
          replace E := zIf_t c23 E
          have z11f : 0 ≤ (t20.1 a0 11).toInt ∧ (t20.1 a0 11).toInt ≤ 400 := zj_get hI ha0 rfl
          have zKf : zKc a0 σ t20 := fun j h0 h1 => by have y := hk j h0 (by omega); have x := zk3 j h0 (by omega); rw [at20_39, at20_40, ← hf5, ← hf6]; exact ⟨x.1.trans y.1, x.2.trans y.2⟩
          have zRf : zRk a0 σ t20 (σ.1 a0 32).toInt := fun b h0 h1 => by have y := hr b h0 h1; have x := zt4 b h0 (by omega); rw [at20_33, at20_34, at20_35, at20_36, at20_37, ws13 b h0, if_neg (by omega), x.1, x.2]; exact y
          have zLf : gL a0 t20 := gL.region hgL (s := (σ.1 a0 19).toInt) (congrArg Int32.toInt (hS.2.1 18 (by decide))) (by omega) (by omega) zKf zRf (by omega) (by omega) (by omega) (by omega) (fun k h0 h5 => by rw [at20_30, at20_31]; exact ⟨rfl, rfl⟩)
          have zLkf : zLkp a0 σ t20 := zLkp.region (s := (σ.1 a0 19).toInt) (by omega) (by omega) zKf zRf (by omega) (by omega) (by omega) (by omega) (fun k h0 h5 => by rw [at20_30, at20_31]; exact ⟨rfl, rfl⟩)
          exact ret _ _ _ dX11_tellLaw_155 ⟨E.symm.trans hR, ⟨⟨(by omega), (fun h0 => by exfalso; omega), (zLkf), zLf⟩, hI, hS⟩⟩
      · skip
        replace E := zIf_t c9 E
        refine zg_aload_n X 2 rfl dX11_tellLaw_19 ?_
        refine zg_bipush X 30 dX11_tellLaw_20 (by decide) (fun v24 _ hv24 => ?_)
        replace E := zLet_s (zcst hv24 (by decide)) E
        refine zg_cVi (As := [.int v24]) (st := []) X ha0 rfl (by decide) rfl (t_X11_is l d L kd κ _ hI a0 ha0 v24  ) mk_X11_224 mc_X11_is mz_X11 mi_X11_is ml_X11_is (na := 1) ⟨md_X11.1, md_X11.2, by decide +kernel⟩ rfl ⟨by decide, by decide⟩ (Nat.le_of_ble_eq_true rfl) dX11_tellLaw_22 (fun v26 t25 hq => ?_)
        obtain ⟨⟨hF, ⟨ht25_res, ht25_fact0⟩⟩, rfl⟩ := hq
        replace E := zLet_s hF E
        replace ht25_fact0 := zHide.mk ht25_fact0
        refine zg_if_eq X 129 dX11_tellLaw_25 (by decide) (fun c27 => ?_) (fun c27 => ?_)
        · skip
          replace E := zIf_t c27 E
          skip
          refine zg_aload_n X 2 rfl dX11_tellLaw_129 ?_
          refine fg_X11_76 X hI ha0 dX11_tellLaw_130 (fun v28 ev28 hv28 => ?_)
          replace E := zLet_s (zgr ev28) E
          refine zg_aload_n X 2 rfl dX11_tellLaw_133 ?_
          refine fg_X11_242 X hI ha0 dX11_tellLaw_134 (fun v29 ev29 hv29 => ?_)
          replace E := zLet_s ev29 E
          have kv29 : (τ7.1 a0 32).toInt = v29.toInt := by rw [ev29]
          refine zg_iconst X 0 dX11_tellLaw_137 (by decide) (fun v30 _ hv30 => ?_)
          replace E := zLet_s (zcst hv30 (by decide)) E
          refine as_133 X hI hv28 (by omega) (by omega) ⟨by omega, by omega⟩ dX11_tellLaw_138 (fun s31 es31 hI => ?_)
          replace E := zLet_s es31 E
          have g32 := (zSame.rf (o := a0) (Wf := []) (Wa := [133]) (L := L) (kd := kd) (σ := τ7)).a ha0 hv28 es31 rfl (by decide)
          have rs31 := zp_st (σ := τ7) (σ2 := s31) (i := v29) (x := v30) ev28 (by rw [es31, zb_nz ⟨by omega, by omega⟩]) (by omega)
          have ws31 := rs31
          rw [← kv29] at ws31
          have fs31_11 : (s31.1 a0 11).toInt = (τ7.1 a0 11).toInt := by rw [g32.2.1 11 (by decide)]
          have fs31_12 : (s31.1 a0 12).toInt = (τ7.1 a0 12).toInt := by rw [g32.2.1 12 (by decide)]
          have fs31_13 : (s31.1 a0 13).toInt = (τ7.1 a0 13).toInt := by rw [g32.2.1 13 (by decide)]
          have fs31_32 : (s31.1 a0 32).toInt = (τ7.1 a0 32).toInt := by rw [g32.2.1 32 (by decide)]
          have fs31_38 : (s31.1 a0 38).toInt = (τ7.1 a0 38).toInt := by rw [g32.2.1 38 (by decide)]
          have hS := hS.tr g32 (by decide) (by decide)
          have as31_30 := (zp_same hI ha0 g32 30 rfl (by decide) (by decide)).trans A30_Lp7
          have as31_31 := (zp_same hI ha0 g32 31 rfl (by decide) (by decide)).trans A31_Lp7
          have as31_34 := zp_same hI ha0 g32 34 rfl (by decide) (by decide)
          have as31_35 := zp_same hI ha0 g32 35 rfl (by decide) (by decide)
          have as31_36 := zp_same hI ha0 g32 36 rfl (by decide) (by decide)
          have as31_37 := zp_same hI ha0 g32 37 rfl (by decide) (by decide)
          have as31_39 := zp_same hI ha0 g32 39 rfl (by decide) (by decide)
          have as31_40 := zp_same hI ha0 g32 40 rfl (by decide) (by decide)
          refine zg_aload_n X 2 rfl dX11_tellLaw_139 ?_
          obtain ⟨yb, hyb⟩ : ∃ x : Int, x = (s31.1 a0 32).toInt := ⟨_, rfl⟩
          have zt36 : zp a0 s31 36 = zp a0 τ7 36 := as31_36
          have zt37 : zp a0 s31 37 = zp a0 τ7 37 := as31_37
          have zd39 : zp a0 s31 39 = zp a0 τ7 39 := as31_39
          have zd40 : zp a0 s31 40 = zp a0 τ7 40 := as31_40
          have zq3 : (s31.1 a0 38).toInt = (τ7.1 a0 38).toInt := by omega
          refine zg_cVv (As := []) (st := []) X ha0 rfl (by decide) rfl (t_X11_term l d L kd κ _ hI a0 ha0   (by omega) (by omega) (by omega)) mk_X11_294 mc_X11_term mz_X11 mi_X11_term ml_X11_term (na := 0) ⟨md_X11.1, md_X11.2, by decide +kernel⟩ rfl ⟨by decide, by decide⟩ (Nat.le_of_ble_eq_true rfl) dX11_tellLaw_140 (fun t35 hq => ?_)
          obtain ⟨hF, ⟨ht35_fact0, ht35_fact1, ht35_fact2, ht35_fact3, ht35_fact4, ht35_fact5⟩, hI, g36⟩ := hq
          replace E := zLet_s hF E
          have hS := hS.tr g36 (by decide) (by decide)
          have at35_30 := (zp_same hI ha0 g36 30 rfl (by decide) (by decide)).trans as31_30
          have at35_31 := (zp_same hI ha0 g36 31 rfl (by decide) (by decide)).trans as31_31
          have at35_33 := zp_same hI ha0 g36 33 rfl (by decide) (by decide)
          have at35_34 := (zp_same hI ha0 g36 34 rfl (by decide) (by decide)).trans as31_34
          have at35_35 := (zp_same hI ha0 g36 35 rfl (by decide) (by decide)).trans as31_35
          have z12o : 0 ≤ (t35.1 a0 12).toInt ∧ (t35.1 a0 12).toInt ≤ 7 := zj_get hI ha0 rfl
          obtain ⟨e6, qa6, qb6, qc6, qd6, qB6, qe6⟩ := zfe_ex (e := e0) (by omega) z12o.2 (by omega) (by omega) (by omega) ht35_fact0.2 ht35_fact1
          replace qB6 := zHide.mk qB6
          have zB1 := ht35_fact0.1
          clear ht35_fact0 ht35_fact1
          have zg3 := ht35_fact2
          have zx3 := ht35_fact3
          have zt4 := ht35_fact4
          have zt5 := ht35_fact5
          clear ht35_fact5 ht35_fact4 ht35_fact3 ht35_fact2
          rw [← hyb] at zt4 zt5
          rw [zt36, zt37] at zt4
          obtain ⟨f5, hf5⟩ : ∃ f : Int → Int, f = zp a0 t35 39 := ⟨_, rfl⟩
          obtain ⟨f6, hf6⟩ : ∃ f : Int → Int, f = zp a0 t35 40 := ⟨_, rfl⟩
          obtain ⟨y3, hy3⟩ : ∃ x : Int, x = (t35.1 a0 38).toInt := ⟨_, rfl⟩
          rw [zq3, ← hy3, ← hf5, ← hf6] at zg3
          rw [zq3, ← hy3] at zt5
          have o6 : (s31.1 a0 38).toInt ≤ (t35.1 a0 38).toInt := by omega
          have u6 : (τ7.1 a0 11).toInt + 1 ≤ (t35.1 a0 11).toInt + 1 * e6 ∧ (τ7.1 a0 11).toInt ≤ (t35.1 a0 11).toInt ∧ e0 ≤ e6 ∧ (τ7.1 a0 38).toInt ≤ (t35.1 a0 38).toInt ∧ (t35.1 a0 38).toInt ≤ (τ7.1 a0 38).toInt + (t35.1 a0 11).toInt - (τ7.1 a0 11).toInt + e6 - e0 ∧ 0 ≤ (t35.1 a0 12).toInt ∧ (t35.1 a0 12).toInt ≤ (τ7.1 a0 12).toInt + 21 * e6 := ⟨by omega, by omega, by omega, by omega, by omega, by omega, by omega⟩
          clear qe6
          have zk3 : ∀ j : Int, 0 ≤ j → (j < (τ7.1 a0 38).toInt ∨ y3 ≤ j) → f5 j = zp a0 τ7 39 j ∧ f6 j = zp a0 τ7 40 j := fun j h0 h1 => by have x := zx3 j h0 (by omega); rw [zd39, zd40, ← hf5, ← hf6] at x; exact x
          refine zg_aload_n X 2 rfl dX11_tellLaw_143 ?_
          refine zg_iconst X 4 dX11_tellLaw_144 (by decide) (fun v37 _ hv37 => ?_)
          replace E := zLet_s (zcst hv37 (by decide)) E
          refine zg_cVv (As := [.int v37]) (st := []) X ha0 rfl (by decide) rfl (t_X11_must l d L kd κ _ hI a0 ha0 v37  ) mk_X11_274 mc_X11_must mz_X11 mi_X11_must ml_X11_must (na := 1) ⟨md_X11.1, md_X11.2, by decide +kernel⟩ rfl ⟨by decide, by decide⟩ (Nat.le_of_ble_eq_true rfl) dX11_tellLaw_145 (fun t38 hq => ?_)
          obtain ⟨hF, ht38_fact0, hI, g39⟩ := hq
          replace E := zLet_s hF E
          have ft38_12 : (t38.1 a0 12).toInt = (t35.1 a0 12).toInt := by rw [g39.2.1 12 (by decide)]
          have ft38_32 : (t38.1 a0 32).toInt = (t35.1 a0 32).toInt := by rw [g39.2.1 32 (by decide)]
          have ft38_38 : (t38.1 a0 38).toInt = (t35.1 a0 38).toInt := by rw [g39.2.1 38 (by decide)]
          have hS := hS.tr g39 (by decide) (by decide)
          have at38_30 := (zp_same hI ha0 g39 30 rfl (by decide) (by decide)).trans at35_30
          have at38_31 := (zp_same hI ha0 g39 31 rfl (by decide) (by decide)).trans at35_31
          have at38_33 := (zp_same hI ha0 g39 33 rfl (by decide) (by decide)).trans at35_33
          have at38_34 := (zp_same hI ha0 g39 34 rfl (by decide) (by decide)).trans at35_34
          have at38_35 := (zp_same hI ha0 g39 35 rfl (by decide) (by decide)).trans at35_35
          have at38_36 := zp_same hI ha0 g39 36 rfl (by decide) (by decide)
          have at38_37 := zp_same hI ha0 g39 37 rfl (by decide) (by decide)
          have at38_39 := zp_same hI ha0 g39 39 rfl (by decide) (by decide)
          have at38_40 := zp_same hI ha0 g39 40 rfl (by decide) (by decide)
          refine zg_aload_n X 2 rfl dX11_tellLaw_148 ?_
          refine fg_X11_206 X hI ha0 dX11_tellLaw_149 (fun v40 ev40 hv40 => ?_)
          replace E := zLet_s ev40 E
          have kv40 : (t38.1 a0 13).toInt = v40.toInt := by rw [ev40]
          refine zg_if_le X 156 dX11_tellLaw_152 (by decide) (fun c41 => ?_) (fun c41 => ?_)
          · skip
            replace E := zIf_f (Int.not_lt.mpr c41) E
            refine zg_aload_n X 2 rfl dX11_tellLaw_156 ?_
            refine fg_X11_70 X hI ha0 dX11_tellLaw_157 (fun v42 ev42 hv42 => ?_)
            replace E := zLet_s (zgr ev42) E
            refine zg_iconst X 5 dX11_tellLaw_160 (by decide) (fun v43 _ hv43 => ?_)
            replace E := zLet_s (zcst hv43 (by decide)) E
            refine zg_aload_n X 2 rfl dX11_tellLaw_161 ?_
            refine fg_X11_239 X hI ha0 dX11_tellLaw_162 (fun v44 ev44 hv44 => ?_)
            replace E := zLet_s ev44 E
            have kv44 : (t38.1 a0 19).toInt = v44.toInt := by rw [ev44]
            have kqv44 : (σ.1 a0 19).toInt = v44.toInt := by rw [← hS.2.1 19 (by decide)]; exact kv44
            refine zg_imulc X 5 dX11_tellLaw_165 (by omega) (by omega) (by omega) (fun v45 ev45 hv45 => ?_)
            replace E := zLet_s ev45 E
            refine zg_iload_n X 3 rfl dX11_tellLaw_166 ?_
            refine zg_iadd X dX11_tellLaw_167 (by omega) (by omega) (fun v46 ev46 hv46 => ?_)
            replace E := zLet_s ev46 E
            refine zg_iload_n X 1 rfl dX11_tellLaw_168 ?_
            refine as_130 X hI hv42 (by omega) (by omega) dX11_tellLaw_169 (fun s47 es47 hI => ?_)
            replace E := zLet_s es47 E
            have g48 := (zSame.rf (o := a0) (Wf := []) (Wa := [130]) (L := L) (kd := kd) (σ := t38)).a ha0 hv42 es47 rfl (by decide)
            have rs47 := zp_st (σ := t38) (σ2 := s47) (i := v46) (x := v4) ev42 es47 (by omega)
            have ws47 := rs47
            rw [at38_30] at ws47
            have fs47_11 : (s47.1 a0 11).toInt = (t38.1 a0 11).toInt := by rw [g48.2.1 11 (by decide)]
            have fs47_12 : (s47.1 a0 12).toInt = (t38.1 a0 12).toInt := by rw [g48.2.1 12 (by decide)]
            have fs47_13 : (s47.1 a0 13).toInt = (t38.1 a0 13).toInt := by rw [g48.2.1 13 (by decide)]
            have fs47_32 : (s47.1 a0 32).toInt = (t38.1 a0 32).toInt := by rw [g48.2.1 32 (by decide)]
            have fs47_38 : (s47.1 a0 38).toInt = (t38.1 a0 38).toInt := by rw [g48.2.1 38 (by decide)]
            have hS := hS.tr g48 (by decide) (by decide)
            have as47_31 := (zp_same hI ha0 g48 31 rfl (by decide) (by decide)).trans at38_31
            have as47_33 := (zp_same hI ha0 g48 33 rfl (by decide) (by decide)).trans at38_33
            have as47_34 := (zp_same hI ha0 g48 34 rfl (by decide) (by decide)).trans at38_34
            have as47_35 := (zp_same hI ha0 g48 35 rfl (by decide) (by decide)).trans at38_35
            have as47_36 := (zp_same hI ha0 g48 36 rfl (by decide) (by decide)).trans at38_36
            have as47_37 := (zp_same hI ha0 g48 37 rfl (by decide) (by decide)).trans at38_37
            have as47_39 := (zp_same hI ha0 g48 39 rfl (by decide) (by decide)).trans at38_39
            have as47_40 := (zp_same hI ha0 g48 40 rfl (by decide) (by decide)).trans at38_40
            have e50 := g48.v ev44 (by decide)
            refine zg_aload_n X 2 rfl dX11_tellLaw_170 ?_
            refine fg_X11_73 X hI ha0 dX11_tellLaw_171 (fun v51 ev51 hv51 => ?_)
            replace E := zLet_s (zgr ev51) E
            refine zg_iconst X 5 dX11_tellLaw_174 (by decide) (fun v52 _ hv52 => ?_)
            replace E := zLet_s (zcst hv52 (by decide)) E
            refine zg_aload_n X 2 rfl dX11_tellLaw_175 ?_
            refine fg_X11_239 X hI ha0 dX11_tellLaw_176 (fun v53 ev53 hv53 => ?_)
            replace E := zLet_s ev53 E
            have kv53 : (s47.1 a0 19).toInt = v53.toInt := by rw [ev53]
            have kqv53 : (σ.1 a0 19).toInt = v53.toInt := by rw [← hS.2.1 19 (by decide)]; exact kv53
            have mv53 : v53.toInt = v44.toInt := by rw [ev53, ← e50]
            refine zg_imulc X 5 dX11_tellLaw_179 (by omega) (by omega) (by omega) (fun v54 ev54 hv54 => ?_)
            replace E := zLet_s ev54 E
            refine zg_iload_n X 3 rfl dX11_tellLaw_180 ?_
            refine zg_iadd X dX11_tellLaw_181 (by omega) (by omega) (fun v55 ev55 hv55 => ?_)
            replace E := zLet_s ev55 E
            refine zg_aload_n X 2 rfl dX11_tellLaw_182 ?_
            refine fg_X11_242 X hI ha0 dX11_tellLaw_183 (fun v56 ev56 hv56 => ?_)
            replace E := zLet_s ev56 E
            have kv56 : (s47.1 a0 32).toInt = v56.toInt := by rw [ev56]
            refine as_131 X hI hv51 (by omega) (by omega) dX11_tellLaw_186 (fun s57 es57 hI => ?_)
            replace E := zLet_s es57 E
            have g58 := (zSame.rf (o := a0) (Wf := []) (Wa := [131]) (L := L) (kd := kd) (σ := s47)).a ha0 hv51 es57 rfl (by decide)
            have rs57 := zp_st (σ := s47) (σ2 := s57) (i := v55) (x := v56) ev51 es57 (by omega)
            have ws57 := rs57
            rw [as47_31] at ws57
            have fs57_11 : (s57.1 a0 11).toInt = (s47.1 a0 11).toInt := by rw [g58.2.1 11 (by decide)]
            have fs57_12 : (s57.1 a0 12).toInt = (s47.1 a0 12).toInt := by rw [g58.2.1 12 (by decide)]
            have fs57_13 : (s57.1 a0 13).toInt = (s47.1 a0 13).toInt := by rw [g58.2.1 13 (by decide)]
            have fs57_32 : (s57.1 a0 32).toInt = (s47.1 a0 32).toInt := by rw [g58.2.1 32 (by decide)]
            have fs57_38 : (s57.1 a0 38).toInt = (s47.1 a0 38).toInt := by rw [g58.2.1 38 (by decide)]
            have hS := hS.tr g58 (by decide) (by decide)
            have as57_30 := zp_same hI ha0 g58 30 rfl (by decide) (by decide)
            have as57_33 := (zp_same hI ha0 g58 33 rfl (by decide) (by decide)).trans as47_33
            have as57_34 := (zp_same hI ha0 g58 34 rfl (by decide) (by decide)).trans as47_34
            have as57_35 := (zp_same hI ha0 g58 35 rfl (by decide) (by decide)).trans as47_35
            have as57_36 := (zp_same hI ha0 g58 36 rfl (by decide) (by decide)).trans as47_36
            have as57_37 := (zp_same hI ha0 g58 37 rfl (by decide) (by decide)).trans as47_37
            have as57_39 := (zp_same hI ha0 g58 39 rfl (by decide) (by decide)).trans as47_39
            have as57_40 := (zp_same hI ha0 g58 40 rfl (by decide) (by decide)).trans as47_40
            have zS0 : (σ.1 a0 13).toInt = 0 := by have y := hB0.un; omega
            have z11f : 0 ≤ (s57.1 a0 11).toInt ∧ (s57.1 a0 11).toInt ≤ 400 := zj_get hI ha0 rfl
            have zKf : zKc a0 σ s57 := fun j h0 h1 => by have y := hk j h0 (by omega); have x := zk3 j h0 (by omega); rw [as57_39, as57_40, ← hf5, ← hf6]; exact ⟨x.1.trans y.1, x.2.trans y.2⟩
            have zRf : zRk a0 σ s57 (σ.1 a0 32).toInt := fun b h0 h1 => by have y := hr b h0 h1; have x := zt4 b h0 (by omega); rw [as57_33, as57_34, as57_35, as57_36, as57_37, ws31 b h0, if_neg (by omega), x.1, x.2]; exact y
            have zLf : gL a0 s57 := gL.region hgL (s := (σ.1 a0 19).toInt) (congrArg Int32.toInt (hS.2.1 18 (by decide))) (by omega) (by omega) zKf zRf (by omega) (by omega) (by omega) (by omega) (fun k h0 h5 => by rw [as57_30, ws47 _ (by omega), ws57 _ (by omega), if_neg (by omega), if_neg (by omega)]; exact ⟨rfl, rfl⟩)
            have zLkf : zLkp a0 σ s57 := zLkp.region (s := (σ.1 a0 19).toInt) (by omega) (by omega) zKf zRf (by omega) (by omega) (by omega) (by omega) (fun k h0 h5 => by rw [as57_30, ws47 _ (by omega), ws57 _ (by omega), if_neg (by omega), if_neg (by omega)]; exact ⟨rfl, rfl⟩)
            exact ret _ _ _ dX11_tellLaw_187 ⟨E.symm.trans hR, ⟨⟨(by omega), (fun hF => by
  unfold gP
  rw [hS.2.1 19 (by decide)]
  intro k h0 h5
  by_cases zk : k = p1.toInt
  · rw [as57_30, ws47 _ (by omega), ws57 _ (by omega), if_pos (by omega), if_pos (by omega)]
    refine Or.inr ⟨by omega, by omega, fun b g0 g1 => ?_⟩
    by_cases z : b = yb
    · have v33 : zp a0 s57 33 b = 0 := by rw [as57_33, ws31 b (by omega), if_pos (by omega)]; omega
      have v36 : zp a0 s57 36 b = (τ7.1 a0 38).toInt := by rw [as57_36, z]; exact zt5.1
      have v37 : zp a0 s57 37 b = y3 := by rw [as57_37, z]; exact zt5.2
      unfold gBr
      rw [v33, v36, v37, as57_39, as57_40, ← hf5, ← hf6]
      exact ⟨fun q => absurd q (by decide), zg3 (by have y := qB6.un; omega), by omega, by omega⟩
    · refine gBr.kept (hb (by have y := hB0.un; omega) b (by omega) (by omega)) (fun j g0 g1 => by have x := zk3 j (by omega) (by omega); rw [as57_39, as57_40, ← hf5, ← hf6]; exact x) ?_ (by omega)
      have x := zt4 b (by omega) (by omega)
      rw [as57_33, as57_34, as57_35, as57_36, as57_37, ws31 b (by omega), if_neg (by omega)]
      exact ⟨rfl, rfl, rfl, x.1, x.2⟩
  · exact gLw.kept hgP (by omega) (by omega) (fun j g1 g2 => zKf j (by omega) (by omega)) (fun b g1 g2 => zRf b (by omega) (by omega)) k h0 h5 (by rw [as57_30, ws47 _ (by omega), ws57 _ (by omega), if_neg (by omega), if_neg (by omega)]; exact ⟨rfl, rfl⟩)), (zLkf), zLf⟩, hI, hS⟩⟩
          · skip
            replace E := zIf_t c41 E
            have z11f : 0 ≤ (t38.1 a0 11).toInt ∧ (t38.1 a0 11).toInt ≤ 400 := zj_get hI ha0 rfl
            have zKf : zKc a0 σ t38 := fun j h0 h1 => by have y := hk j h0 (by omega); have x := zk3 j h0 (by omega); rw [at38_39, at38_40, ← hf5, ← hf6]; exact ⟨x.1.trans y.1, x.2.trans y.2⟩
            have zRf : zRk a0 σ t38 (σ.1 a0 32).toInt := fun b h0 h1 => by have y := hr b h0 h1; have x := zt4 b h0 (by omega); rw [at38_33, at38_34, at38_35, at38_36, at38_37, ws31 b h0, if_neg (by omega), x.1, x.2]; exact y
            have zLf : gL a0 t38 := gL.region hgL (s := (σ.1 a0 19).toInt) (congrArg Int32.toInt (hS.2.1 18 (by decide))) (by omega) (by omega) zKf zRf (by omega) (by omega) (by omega) (by omega) (fun k h0 h5 => by rw [at38_30, at38_31]; exact ⟨rfl, rfl⟩)
            have zLkf : zLkp a0 σ t38 := zLkp.region (s := (σ.1 a0 19).toInt) (by omega) (by omega) zKf zRf (by omega) (by omega) (by omega) (by omega) (fun k h0 h5 => by rw [at38_30, at38_31]; exact ⟨rfl, rfl⟩)
            exact ret _ _ _ dX11_tellLaw_155 ⟨E.symm.trans hR, ⟨⟨(by omega), (fun h0 => by exfalso; omega), (zLkf), zLf⟩, hI, hS⟩⟩
        · skip
          replace E := zIf_f c27 E
          have zi := ht25_fact0.un.resolve_right (fun z => absurd z.1 (by omega))
          have zF : (τ7.1 a0 13).toInt = 0 := zi.2.1
          refine zg_iload_n X 0 rfl dX11_tellLaw_28 ?_
          refine zg_iconst X 4 dX11_tellLaw_29 (by decide) (fun v62 _ hv62 => ?_)
          replace E := zLet_s (zcst hv62 (by decide)) E
          refine zg_icmp_ne X 38 dX11_tellLaw_30 (by decide) (fun c63 => ?_) (fun c63 => ?_)
          · skip
            replace E := zIf_f c63 E
            refine zg_aload_n X 2 rfl dX11_tellLaw_38 ?_
            refine fg_X11_206 X hI ha0 dX11_tellLaw_39 (fun v64 ev64 hv64 => ?_)
            replace E := zLet_s ev64 E
            have kv64 : (τ7.1 a0 13).toInt = v64.toInt := by rw [ev64]
            have mv64 : v64.toInt = v8.toInt := by rw [ev64, ← ev8]
            refine zg_if_le X 46 dX11_tellLaw_42 (by decide) (fun c65 => ?_) (fun c65 => ?_)
            · skip
              replace E := zIf_f (Int.not_lt.mpr c65) E
              refine zg_iinc X 1 (fun v66 => [(3, .int v66), (2, .int v4), (0, .ref a0), (1, .int p1)]) 0 dX11_tellLaw_46 rfl (by decide) (by decide) (by omega) (by omega) (fun _ => rfl) (fun v66 ev66 hv66 => ?_)
              replace E := zLet_s (zinc ev66 (by decide)) E
              refine zg_aload_n X 2 rfl dX11_tellLaw_49 ?_
              refine zg_cVv (As := []) (st := []) X ha0 rfl (by decide) rfl (t_X11_goesOn l d L kd κ _ hI a0 ha0   ) mk_X11_227 mc_X11_goesOn mz_X11 mi_X11_goesOn ml_X11_goesOn (na := 0) ⟨md_X11.1, md_X11.2, by decide +kernel⟩ rfl ⟨by decide, by decide⟩ (Nat.le_of_ble_eq_true rfl) dX11_tellLaw_50 (fun t67 hq => ?_)
              obtain ⟨hF, ht67_fact0, hI, g68⟩ := hq
              replace E := zLet_s hF E
              have ft67_12 : (t67.1 a0 12).toInt = (τ7.1 a0 12).toInt := by rw [g68.2.1 12 (by decide)]
              have ft67_32 : (t67.1 a0 32).toInt = (τ7.1 a0 32).toInt := by rw [g68.2.1 32 (by decide)]
              have ft67_38 : (t67.1 a0 38).toInt = (τ7.1 a0 38).toInt := by rw [g68.2.1 38 (by decide)]
              have hS := hS.tr g68 (by decide) (by decide)
              have at67_30 := (zp_same hI ha0 g68 30 rfl (by decide) (by decide)).trans A30_Lp7
              have at67_31 := (zp_same hI ha0 g68 31 rfl (by decide) (by decide)).trans A31_Lp7
              have at67_33 := zp_same hI ha0 g68 33 rfl (by decide) (by decide)
              have at67_34 := zp_same hI ha0 g68 34 rfl (by decide) (by decide)
              have at67_35 := zp_same hI ha0 g68 35 rfl (by decide) (by decide)
              have at67_36 := zp_same hI ha0 g68 36 rfl (by decide) (by decide)
              have at67_37 := zp_same hI ha0 g68 37 rfl (by decide) (by decide)
              have at67_39 := zp_same hI ha0 g68 39 rfl (by decide) (by decide)
              have at67_40 := zp_same hI ha0 g68 40 rfl (by decide) (by decide)
              obtain ⟨e1, qa1, qb1, qc1, qd1, qB1, qe1⟩ := zfe_go (e := e0) (by omega) (by omega) (by omega) (by have y := hB0.un; omega) ht67_fact0
              replace qB1 := zHide.mk qB1
              clear ht67_fact0
              have o1 : (τ7.1 a0 38).toInt ≤ (t67.1 a0 38).toInt := by omega
              have u1 : (τ7.1 a0 11).toInt + 1 ≤ (t67.1 a0 11).toInt + 1 * e1 ∧ (τ7.1 a0 11).toInt ≤ (t67.1 a0 11).toInt ∧ e0 ≤ e1 ∧ (τ7.1 a0 38).toInt ≤ (t67.1 a0 38).toInt ∧ (t67.1 a0 38).toInt ≤ (τ7.1 a0 38).toInt + (t67.1 a0 11).toInt - (τ7.1 a0 11).toInt + e1 - e0 ∧ 0 ≤ (t67.1 a0 12).toInt ∧ (t67.1 a0 12).toInt ≤ (τ7.1 a0 12).toInt + 21 * e1 := ⟨by omega, by omega, by omega, by omega, by omega, by omega, by omega⟩
              clear qe1
              refine zg_aload_n X 2 rfl dX11_tellLaw_53 ?_
              refine fg_X11_76 X hI ha0 dX11_tellLaw_54 (fun v69 ev69 hv69 => ?_)
              replace E := zLet_s (zgr ev69) E
              refine zg_aload_n X 2 rfl dX11_tellLaw_57 ?_
              refine fg_X11_242 X hI ha0 dX11_tellLaw_58 (fun v70 ev70 hv70 => ?_)
              replace E := zLet_s ev70 E
              have kv70 : (t67.1 a0 32).toInt = v70.toInt := by rw [ev70]
              refine zg_iconst X 1 dX11_tellLaw_61 (by decide) (fun v71 _ hv71 => ?_)
              replace E := zLet_s (zcst hv71 (by decide)) E
              refine as_133 X hI hv69 (by omega) (by omega) ⟨by omega, by omega⟩ dX11_tellLaw_62 (fun s72 es72 hI => ?_)
              replace E := zLet_s es72 E
              have g73 := (zSame.rf (o := a0) (Wf := []) (Wa := [133]) (L := L) (kd := kd) (σ := t67)).a ha0 hv69 es72 rfl (by decide)
              have rs72 := zp_st (σ := t67) (σ2 := s72) (i := v70) (x := v71) ev69 (by rw [es72, zb_nz ⟨by omega, by omega⟩]) (by omega)
              have ws72 := rs72
              rw [at67_33] at ws72
              rw [← kv70] at ws72
              have fs72_11 : (s72.1 a0 11).toInt = (t67.1 a0 11).toInt := by rw [g73.2.1 11 (by decide)]
              have fs72_12 : (s72.1 a0 12).toInt = (t67.1 a0 12).toInt := by rw [g73.2.1 12 (by decide)]
              have fs72_13 : (s72.1 a0 13).toInt = (t67.1 a0 13).toInt := by rw [g73.2.1 13 (by decide)]
              have fs72_32 : (s72.1 a0 32).toInt = (t67.1 a0 32).toInt := by rw [g73.2.1 32 (by decide)]
              have fs72_38 : (s72.1 a0 38).toInt = (t67.1 a0 38).toInt := by rw [g73.2.1 38 (by decide)]
              have hS := hS.tr g73 (by decide) (by decide)
              have as72_30 := (zp_same hI ha0 g73 30 rfl (by decide) (by decide)).trans at67_30
              have as72_31 := (zp_same hI ha0 g73 31 rfl (by decide) (by decide)).trans at67_31
              have as72_34 := (zp_same hI ha0 g73 34 rfl (by decide) (by decide)).trans at67_34
              have as72_35 := (zp_same hI ha0 g73 35 rfl (by decide) (by decide)).trans at67_35
              have as72_36 := (zp_same hI ha0 g73 36 rfl (by decide) (by decide)).trans at67_36
              have as72_37 := (zp_same hI ha0 g73 37 rfl (by decide) (by decide)).trans at67_37
              have as72_39 := (zp_same hI ha0 g73 39 rfl (by decide) (by decide)).trans at67_39
              have as72_40 := (zp_same hI ha0 g73 40 rfl (by decide) (by decide)).trans at67_40
              have e74 := g73.v ev70 (by decide)
              refine zg_aload_n X 2 rfl dX11_tellLaw_63 ?_
              refine fg_X11_80 X hI ha0 dX11_tellLaw_64 (fun v75 ev75 hv75 => ?_)
              replace E := zLet_s (zgr ev75) E
              refine zg_aload_n X 2 rfl dX11_tellLaw_67 ?_
              refine fg_X11_242 X hI ha0 dX11_tellLaw_68 (fun v76 ev76 hv76 => ?_)
              replace E := zLet_s ev76 E
              have kv76 : (s72.1 a0 32).toInt = v76.toInt := by rw [ev76]
              have mv76 : v76.toInt = v70.toInt := by rw [ev76, ← e74]
              refine zg_aload_n X 2 rfl dX11_tellLaw_71 ?_
              refine fg_X11_245 X hI ha0 dX11_tellLaw_72 (fun v77 ev77 hv77 => ?_)
              replace E := zLet_s ev77 E
              have kv77 : (s72.1 a0 38).toInt = v77.toInt := by rw [ev77]
              refine as_134 X hI hv75 (by omega) (by omega) dX11_tellLaw_75 (fun s78 es78 hI => ?_)
              replace E := zLet_s es78 E
              have g79 := (zSame.rf (o := a0) (Wf := []) (Wa := [134]) (L := L) (kd := kd) (σ := s72)).a ha0 hv75 es78 rfl (by decide)
              have rs78 := zp_st (σ := s72) (σ2 := s78) (i := v76) (x := v77) ev75 es78 (by omega)
              have ws78 := rs78
              rw [as72_34] at ws78
              rw [← kv76] at ws78
              have fs78_11 : (s78.1 a0 11).toInt = (s72.1 a0 11).toInt := by rw [g79.2.1 11 (by decide)]
              have fs78_12 : (s78.1 a0 12).toInt = (s72.1 a0 12).toInt := by rw [g79.2.1 12 (by decide)]
              have fs78_13 : (s78.1 a0 13).toInt = (s72.1 a0 13).toInt := by rw [g79.2.1 13 (by decide)]
              have fs78_32 : (s78.1 a0 32).toInt = (s72.1 a0 32).toInt := by rw [g79.2.1 32 (by decide)]
              have fs78_38 : (s78.1 a0 38).toInt = (s72.1 a0 38).toInt := by rw [g79.2.1 38 (by decide)]
              have hS := hS.tr g79 (by decide) (by decide)
              have as78_30 := (zp_same hI ha0 g79 30 rfl (by decide) (by decide)).trans as72_30
              have as78_31 := (zp_same hI ha0 g79 31 rfl (by decide) (by decide)).trans as72_31
              have as78_33 := zp_same hI ha0 g79 33 rfl (by decide) (by decide)
              have as78_35 := (zp_same hI ha0 g79 35 rfl (by decide) (by decide)).trans as72_35
              have as78_36 := (zp_same hI ha0 g79 36 rfl (by decide) (by decide)).trans as72_36
              have as78_37 := (zp_same hI ha0 g79 37 rfl (by decide) (by decide)).trans as72_37
              have as78_39 := (zp_same hI ha0 g79 39 rfl (by decide) (by decide)).trans as72_39
              have as78_40 := (zp_same hI ha0 g79 40 rfl (by decide) (by decide)).trans as72_40
              have e80 := g79.v ev76 (by decide)
              refine zg_aload_n X 2 rfl dX11_tellLaw_76 ?_
              have za39 : zp a0 s78 39 = zp a0 τ7 39 := as78_39
              have za40 : zp a0 s78 40 = zp a0 τ7 40 := as78_40
              have zq1 : (s78.1 a0 38).toInt = (τ7.1 a0 38).toInt := by omega
              refine zg_cVv (As := []) (st := []) X ha0 rfl (by decide) rfl (t_X11_expression l d L kd κ _ hI a0 ha0   (by omega) (by omega)) mk_X11_291 mc_X11_expression mz_X11 mi_X11_expression ml_X11_expression (na := 0) ⟨md_X11.1, md_X11.2, by decide +kernel⟩ rfl ⟨by decide, by decide⟩ (Nat.le_of_ble_eq_true rfl) dX11_tellLaw_77 (fun t82 hq => ?_)
              obtain ⟨hF, ⟨ht82_fact0, ht82_fact1, ht82_fact2, ht82_fact3⟩, hI, g83⟩ := hq
              replace E := zLet_s hF E
              have ft82_32 : (t82.1 a0 32).toInt = (s78.1 a0 32).toInt := by rw [g83.2.1 32 (by decide)]
              have hS := hS.tr g83 (by decide) (by decide)
              have at82_30 := (zp_same hI ha0 g83 30 rfl (by decide) (by decide)).trans as78_30
              have at82_31 := (zp_same hI ha0 g83 31 rfl (by decide) (by decide)).trans as78_31
              have at82_33 := (zp_same hI ha0 g83 33 rfl (by decide) (by decide)).trans as78_33
              have at82_34 := zp_same hI ha0 g83 34 rfl (by decide) (by decide)
              have at82_35 := (zp_same hI ha0 g83 35 rfl (by decide) (by decide)).trans as78_35
              have at82_36 := (zp_same hI ha0 g83 36 rfl (by decide) (by decide)).trans as78_36
              have at82_37 := (zp_same hI ha0 g83 37 rfl (by decide) (by decide)).trans as78_37
              have e84 := g83.v e80 (by decide)
              have z12o : 0 ≤ (t82.1 a0 12).toInt ∧ (t82.1 a0 12).toInt ≤ 7 := zj_get hI ha0 rfl
              obtain ⟨e2, qa2, qb2, qc2, qd2, qB2, qe2⟩ := zfe_ex (e := e1) (by omega) z12o.2 (by omega) (by omega) (by omega) ht82_fact0 ht82_fact1
              replace qB2 := zHide.mk qB2
              clear ht82_fact0 ht82_fact1
              have o2 : (s78.1 a0 38).toInt ≤ (t82.1 a0 38).toInt := by omega
              have u2 : (τ7.1 a0 11).toInt + 2 ≤ (t82.1 a0 11).toInt + 2 * e2 ∧ (τ7.1 a0 11).toInt ≤ (t82.1 a0 11).toInt ∧ e0 ≤ e2 ∧ (τ7.1 a0 38).toInt ≤ (t82.1 a0 38).toInt ∧ (t82.1 a0 38).toInt ≤ (τ7.1 a0 38).toInt + (t82.1 a0 11).toInt - (τ7.1 a0 11).toInt + e2 - e0 ∧ 0 ≤ (t82.1 a0 12).toInt ∧ (t82.1 a0 12).toInt ≤ (τ7.1 a0 12).toInt + 21 * e2 := ⟨by omega, by omega, by omega, by omega, by omega, by omega, by omega⟩
              clear qe2 u1
              have zg1 := ht82_fact2
              have zx1 := ht82_fact3
              clear ht82_fact3 ht82_fact2
              obtain ⟨f1, hf1⟩ : ∃ f : Int → Int, f = zp a0 t82 39 := ⟨_, rfl⟩
              obtain ⟨f2, hf2⟩ : ∃ f : Int → Int, f = zp a0 t82 40 := ⟨_, rfl⟩
              obtain ⟨y1, hy1⟩ : ∃ x : Int, x = (t82.1 a0 38).toInt := ⟨_, rfl⟩
              have zk1 : ∀ j : Int, 0 ≤ j → (j < (τ7.1 a0 38).toInt ∨ y1 ≤ j) → f1 j = zp a0 τ7 39 j ∧ f2 j = zp a0 τ7 40 j := fun j h0 h1 => by have x := zx1 j h0 (by omega); rw [za39, za40, ← hf1, ← hf2] at x; exact x
              rw [zq1, ← hy1, ← hf1, ← hf2] at zg1
              refine zg_aload_n X 2 rfl dX11_tellLaw_80 ?_
              refine zg_bipush X 13 dX11_tellLaw_81 (by decide) (fun v85 _ hv85 => ?_)
              replace E := zLet_s (zcst hv85 (by decide)) E
              refine zg_cVv (As := [.int v85]) (st := []) X ha0 rfl (by decide) rfl (t_X11_must l d L kd κ _ hI a0 ha0 v85  ) mk_X11_274 mc_X11_must mz_X11 mi_X11_must ml_X11_must (na := 1) ⟨md_X11.1, md_X11.2, by decide +kernel⟩ rfl ⟨by decide, by decide⟩ (Nat.le_of_ble_eq_true rfl) dX11_tellLaw_83 (fun t86 hq => ?_)
              obtain ⟨hF, ht86_fact0, hI, g87⟩ := hq
              replace E := zLet_s hF E
              have ft86_12 : (t86.1 a0 12).toInt = (t82.1 a0 12).toInt := by rw [g87.2.1 12 (by decide)]
              have ft86_32 : (t86.1 a0 32).toInt = (t82.1 a0 32).toInt := by rw [g87.2.1 32 (by decide)]
              have ft86_38 : (t86.1 a0 38).toInt = (t82.1 a0 38).toInt := by rw [g87.2.1 38 (by decide)]
              have hS := hS.tr g87 (by decide) (by decide)
              have at86_30 := (zp_same hI ha0 g87 30 rfl (by decide) (by decide)).trans at82_30
              have at86_31 := (zp_same hI ha0 g87 31 rfl (by decide) (by decide)).trans at82_31
              have at86_33 := (zp_same hI ha0 g87 33 rfl (by decide) (by decide)).trans at82_33
              have at86_34 := (zp_same hI ha0 g87 34 rfl (by decide) (by decide)).trans at82_34
              have at86_35 := (zp_same hI ha0 g87 35 rfl (by decide) (by decide)).trans at82_35
              have at86_36 := (zp_same hI ha0 g87 36 rfl (by decide) (by decide)).trans at82_36
              have at86_37 := (zp_same hI ha0 g87 37 rfl (by decide) (by decide)).trans at82_37
              have at86_39 := zp_same hI ha0 g87 39 rfl (by decide) (by decide)
              have at86_40 := zp_same hI ha0 g87 40 rfl (by decide) (by decide)
              have e88 := g87.v e84 (by decide)
              obtain ⟨e3, qa3, qb3, qc3, qd3, qB3, qe3⟩ := zfe_must (e := e2) (by omega) (by omega) ht86_fact0
              replace qB3 := zHide.mk qB3
              clear ht86_fact0
              have o3 : (t82.1 a0 38).toInt ≤ (t86.1 a0 38).toInt := by omega
              have u3 : (τ7.1 a0 11).toInt + 3 ≤ (t86.1 a0 11).toInt + 3 * e3 ∧ (τ7.1 a0 11).toInt ≤ (t86.1 a0 11).toInt ∧ e0 ≤ e3 ∧ (τ7.1 a0 38).toInt ≤ (t86.1 a0 38).toInt ∧ (t86.1 a0 38).toInt ≤ (τ7.1 a0 38).toInt + (t86.1 a0 11).toInt - (τ7.1 a0 11).toInt + e3 - e0 ∧ 0 ≤ (t86.1 a0 12).toInt ∧ (t86.1 a0 12).toInt ≤ (τ7.1 a0 12).toInt + 21 * e3 := ⟨by omega, by omega, by omega, by omega, by omega, by omega, by omega⟩
              clear qe3 u2
              refine zg_aload_n X 2 rfl dX11_tellLaw_86 ?_
              refine fg_X11_83 X hI ha0 dX11_tellLaw_87 (fun v89 ev89 hv89 => ?_)
              replace E := zLet_s (zgr ev89) E
              refine zg_aload_n X 2 rfl dX11_tellLaw_90 ?_
              refine fg_X11_242 X hI ha0 dX11_tellLaw_91 (fun v90 ev90 hv90 => ?_)
              replace E := zLet_s ev90 E
              have kv90 : (t86.1 a0 32).toInt = v90.toInt := by rw [ev90]
              have mv90 : v90.toInt = v76.toInt := by rw [ev90, ← e88]
              refine zg_aload_n X 2 rfl dX11_tellLaw_94 ?_
              refine fg_X11_245 X hI ha0 dX11_tellLaw_95 (fun v91 ev91 hv91 => ?_)
              replace E := zLet_s ev91 E
              have kv91 : (t86.1 a0 38).toInt = v91.toInt := by rw [ev91]
              refine as_135 X hI hv89 (by omega) (by omega) dX11_tellLaw_98 (fun s92 es92 hI => ?_)
              replace E := zLet_s es92 E
              have g93 := (zSame.rf (o := a0) (Wf := []) (Wa := [135]) (L := L) (kd := kd) (σ := t86)).a ha0 hv89 es92 rfl (by decide)
              have rs92 := zp_st (σ := t86) (σ2 := s92) (i := v90) (x := v91) ev89 es92 (by omega)
              have ws92 := rs92
              rw [at86_35] at ws92
              rw [← kv90] at ws92
              have fs92_11 : (s92.1 a0 11).toInt = (t86.1 a0 11).toInt := by rw [g93.2.1 11 (by decide)]
              have fs92_12 : (s92.1 a0 12).toInt = (t86.1 a0 12).toInt := by rw [g93.2.1 12 (by decide)]
              have fs92_13 : (s92.1 a0 13).toInt = (t86.1 a0 13).toInt := by rw [g93.2.1 13 (by decide)]
              have fs92_32 : (s92.1 a0 32).toInt = (t86.1 a0 32).toInt := by rw [g93.2.1 32 (by decide)]
              have fs92_38 : (s92.1 a0 38).toInt = (t86.1 a0 38).toInt := by rw [g93.2.1 38 (by decide)]
              have hS := hS.tr g93 (by decide) (by decide)
              have as92_30 := (zp_same hI ha0 g93 30 rfl (by decide) (by decide)).trans at86_30
              have as92_31 := (zp_same hI ha0 g93 31 rfl (by decide) (by decide)).trans at86_31
              have as92_33 := (zp_same hI ha0 g93 33 rfl (by decide) (by decide)).trans at86_33
              have as92_34 := (zp_same hI ha0 g93 34 rfl (by decide) (by decide)).trans at86_34
              have as92_36 := (zp_same hI ha0 g93 36 rfl (by decide) (by decide)).trans at86_36
              have as92_37 := (zp_same hI ha0 g93 37 rfl (by decide) (by decide)).trans at86_37
              have as92_39 := (zp_same hI ha0 g93 39 rfl (by decide) (by decide)).trans at86_39
              have as92_40 := (zp_same hI ha0 g93 40 rfl (by decide) (by decide)).trans at86_40
              refine zg_aload_n X 2 rfl dX11_tellLaw_99 ?_
              refine fg_X11_206 X hI ha0 dX11_tellLaw_100 (fun v96 ev96 hv96 => ?_)
              replace E := zLet_s ev96 E
              have kv96 : (s92.1 a0 13).toInt = v96.toInt := by rw [ev96]
              refine zg_if_ne X 110 dX11_tellLaw_103 (by decide) (fun c97 => ?_) (fun c97 => ?_)
              · skip
                replace E := zIf_f c97 E
                have he3 : 1 ≤ e3 := by have y := qB3.un; omega
                obtain ⟨e4, qe4⟩ : ∃ e : Int, e = e3 := ⟨_, rfl⟩
                obtain ⟨f3, hf3⟩ : ∃ f : Int → Int, f = f1 := ⟨_, rfl⟩
                obtain ⟨f4, hf4⟩ : ∃ f : Int → Int, f = f2 := ⟨_, rfl⟩
                have zk2 : ∀ j : Int, 0 ≤ j → (j < (τ7.1 a0 38).toInt ∨ y1 ≤ j) → f3 j = zp a0 τ7 39 j ∧ f4 j = zp a0 τ7 40 j := fun j h0 h1 => by rw [hf3, hf4]; exact zk1 j h0 h1
                obtain ⟨y2, hy2⟩ : ∃ x : Int, x = y1 := ⟨_, rfl⟩
                refine zg_aload_n X 2 rfl dX11_tellLaw_110 ?_
                refine zg_bipush X 31 dX11_tellLaw_111 (by decide) (fun v98 _ hv98 => ?_)
                replace E := zLet_s (zcst hv98 (by decide)) E
                refine zg_cVv (As := [.int v98]) (st := []) X ha0 rfl (by decide) rfl (t_X11_must l d L kd κ _ hI a0 ha0 v98  ) mk_X11_274 mc_X11_must mz_X11 mi_X11_must ml_X11_must (na := 1) ⟨md_X11.1, md_X11.2, by decide +kernel⟩ rfl ⟨by decide, by decide⟩ (Nat.le_of_ble_eq_true rfl) dX11_tellLaw_113 (fun t99 hq => ?_)
                obtain ⟨hF, ht99_fact0, hI, g100⟩ := hq
                replace E := zLet_s hF E
                have ft99_12 : (t99.1 a0 12).toInt = (s92.1 a0 12).toInt := by rw [g100.2.1 12 (by decide)]
                have ft99_32 : (t99.1 a0 32).toInt = (s92.1 a0 32).toInt := by rw [g100.2.1 32 (by decide)]
                have ft99_38 : (t99.1 a0 38).toInt = (s92.1 a0 38).toInt := by rw [g100.2.1 38 (by decide)]
                have hS := hS.tr g100 (by decide) (by decide)
                have at99_30 := (zp_same hI ha0 g100 30 rfl (by decide) (by decide)).trans as92_30
                have at99_31 := (zp_same hI ha0 g100 31 rfl (by decide) (by decide)).trans as92_31
                have at99_33 := (zp_same hI ha0 g100 33 rfl (by decide) (by decide)).trans as92_33
                have at99_34 := (zp_same hI ha0 g100 34 rfl (by decide) (by decide)).trans as92_34
                have at99_35 := zp_same hI ha0 g100 35 rfl (by decide) (by decide)
                have at99_36 := (zp_same hI ha0 g100 36 rfl (by decide) (by decide)).trans as92_36
                have at99_37 := (zp_same hI ha0 g100 37 rfl (by decide) (by decide)).trans as92_37
                have at99_39 := (zp_same hI ha0 g100 39 rfl (by decide) (by decide)).trans as92_39
                have at99_40 := (zp_same hI ha0 g100 40 rfl (by decide) (by decide)).trans as92_40
                obtain ⟨e5, qa5, qb5, qc5, qd5, qB5, qe5⟩ := zfe_must (e := e4) (by omega) (by omega) ht99_fact0
                replace qB5 := zHide.mk qB5
                clear ht99_fact0
                have o5 : (s92.1 a0 38).toInt ≤ (t99.1 a0 38).toInt := by omega
                have u5 : (τ7.1 a0 11).toInt + 4 ≤ (t99.1 a0 11).toInt + 4 * e5 ∧ (τ7.1 a0 11).toInt ≤ (t99.1 a0 11).toInt ∧ e0 ≤ e5 ∧ (τ7.1 a0 38).toInt ≤ (t99.1 a0 38).toInt ∧ (t99.1 a0 38).toInt ≤ (τ7.1 a0 38).toInt + (t99.1 a0 11).toInt - (τ7.1 a0 11).toInt + e5 - e0 ∧ 0 ≤ (t99.1 a0 12).toInt ∧ (t99.1 a0 12).toInt ≤ (τ7.1 a0 12).toInt + 21 * e5 := ⟨by omega, by omega, by omega, by omega, by omega, by omega, by omega⟩
                clear qe5 u3
                refine zg_aload_n X 2 rfl dX11_tellLaw_116 ?_
                obtain ⟨yb, hyb⟩ : ∃ x : Int, x = (t99.1 a0 32).toInt := ⟨_, rfl⟩
                have zt36 : zp a0 t99 36 = zp a0 τ7 36 := at99_36
                have zt37 : zp a0 t99 37 = zp a0 τ7 37 := at99_37
                have zd39 : zp a0 t99 39 = f3 := by rw [at99_39]; first | exact hf3.symm | (rw [hf3]; exact hf1.symm)
                have zd40 : zp a0 t99 40 = f4 := by rw [at99_40]; first | exact hf4.symm | (rw [hf4]; exact hf2.symm)
                have zq3 : (t99.1 a0 38).toInt = y2 := by omega
                refine zg_cVv (As := []) (st := []) X ha0 rfl (by decide) rfl (t_X11_term l d L kd κ _ hI a0 ha0   (by omega) (by omega) (by omega)) mk_X11_294 mc_X11_term mz_X11 mi_X11_term ml_X11_term (na := 0) ⟨md_X11.1, md_X11.2, by decide +kernel⟩ rfl ⟨by decide, by decide⟩ (Nat.le_of_ble_eq_true rfl) dX11_tellLaw_117 (fun t103 hq => ?_)
                obtain ⟨hF, ⟨ht103_fact0, ht103_fact1, ht103_fact2, ht103_fact3, ht103_fact4, ht103_fact5⟩, hI, g104⟩ := hq
                replace E := zLet_s hF E
                have hS := hS.tr g104 (by decide) (by decide)
                have at103_30 := (zp_same hI ha0 g104 30 rfl (by decide) (by decide)).trans at99_30
                have at103_31 := (zp_same hI ha0 g104 31 rfl (by decide) (by decide)).trans at99_31
                have at103_33 := (zp_same hI ha0 g104 33 rfl (by decide) (by decide)).trans at99_33
                have at103_34 := (zp_same hI ha0 g104 34 rfl (by decide) (by decide)).trans at99_34
                have at103_35 := (zp_same hI ha0 g104 35 rfl (by decide) (by decide)).trans at99_35
                have z12o : 0 ≤ (t103.1 a0 12).toInt ∧ (t103.1 a0 12).toInt ≤ 7 := zj_get hI ha0 rfl
                obtain ⟨e6, qa6, qb6, qc6, qd6, qB6, qe6⟩ := zfe_ex (e := e5) (by omega) z12o.2 (by omega) (by omega) (by omega) ht103_fact0.2 ht103_fact1
                replace qB6 := zHide.mk qB6
                have zB1 := ht103_fact0.1
                clear ht103_fact0 ht103_fact1
                have zg3 := ht103_fact2
                have zx3 := ht103_fact3
                have zt4 := ht103_fact4
                have zt5 := ht103_fact5
                clear ht103_fact5 ht103_fact4 ht103_fact3 ht103_fact2
                rw [← hyb] at zt4 zt5
                rw [zt36, zt37] at zt4
                obtain ⟨f5, hf5⟩ : ∃ f : Int → Int, f = zp a0 t103 39 := ⟨_, rfl⟩
                obtain ⟨f6, hf6⟩ : ∃ f : Int → Int, f = zp a0 t103 40 := ⟨_, rfl⟩
                obtain ⟨y3, hy3⟩ : ∃ x : Int, x = (t103.1 a0 38).toInt := ⟨_, rfl⟩
                rw [zq3, ← hy3, ← hf5, ← hf6] at zg3
                rw [zq3, ← hy3] at zt5
                have o6 : (t99.1 a0 38).toInt ≤ (t103.1 a0 38).toInt := by omega
                have u6 : (τ7.1 a0 11).toInt + 5 ≤ (t103.1 a0 11).toInt + 5 * e6 ∧ (τ7.1 a0 11).toInt ≤ (t103.1 a0 11).toInt ∧ e0 ≤ e6 ∧ (τ7.1 a0 38).toInt ≤ (t103.1 a0 38).toInt ∧ (t103.1 a0 38).toInt ≤ (τ7.1 a0 38).toInt + (t103.1 a0 11).toInt - (τ7.1 a0 11).toInt + e6 - e0 ∧ 0 ≤ (t103.1 a0 12).toInt ∧ (t103.1 a0 12).toInt ≤ (τ7.1 a0 12).toInt + 21 * e6 := ⟨by omega, by omega, by omega, by omega, by omega, by omega, by omega⟩
                clear qe6 u5
                have zm23 : ∀ j : Int, 0 ≤ j → (j < y2 ∨ y3 ≤ j) → f5 j = f3 j ∧ f6 j = f4 j := fun j h0 h1 => by have x := zx3 j h0 (by omega); rw [zd39, zd40, ← hf5, ← hf6] at x; exact x
                have zk3 : ∀ j : Int, 0 ≤ j → (j < (τ7.1 a0 38).toInt ∨ y3 ≤ j) → f5 j = zp a0 τ7 39 j ∧ f6 j = zp a0 τ7 40 j := fun j h0 h1 => by have x := zm23 j h0 (by omega); have y := zk2 j h0 (by omega); exact ⟨x.1.trans y.1, x.2.trans y.2⟩
                refine zg_aload_n X 2 rfl dX11_tellLaw_120 ?_
                refine zg_bipush X 32 dX11_tellLaw_121 (by decide) (fun v105 _ hv105 => ?_)
                replace E := zLet_s (zcst hv105 (by decide)) E
                refine zg_cVv (As := [.int v105]) (st := []) X ha0 rfl (by decide) rfl (t_X11_must l d L kd κ _ hI a0 ha0 v105  ) mk_X11_274 mc_X11_must mz_X11 mi_X11_must ml_X11_must (na := 1) ⟨md_X11.1, md_X11.2, by decide +kernel⟩ rfl ⟨by decide, by decide⟩ (Nat.le_of_ble_eq_true rfl) dX11_tellLaw_123 (fun t106 hq => ?_)
                obtain ⟨hF, ht106_fact0, hI, g107⟩ := hq
                replace E := zLet_s hF E
                have ft106_12 : (t106.1 a0 12).toInt = (t103.1 a0 12).toInt := by rw [g107.2.1 12 (by decide)]
                have ft106_32 : (t106.1 a0 32).toInt = (t103.1 a0 32).toInt := by rw [g107.2.1 32 (by decide)]
                have ft106_38 : (t106.1 a0 38).toInt = (t103.1 a0 38).toInt := by rw [g107.2.1 38 (by decide)]
                have hS := hS.tr g107 (by decide) (by decide)
                have at106_30 := (zp_same hI ha0 g107 30 rfl (by decide) (by decide)).trans at103_30
                have at106_31 := (zp_same hI ha0 g107 31 rfl (by decide) (by decide)).trans at103_31
                have at106_33 := (zp_same hI ha0 g107 33 rfl (by decide) (by decide)).trans at103_33
                have at106_34 := (zp_same hI ha0 g107 34 rfl (by decide) (by decide)).trans at103_34
                have at106_35 := (zp_same hI ha0 g107 35 rfl (by decide) (by decide)).trans at103_35
                have at106_36 := zp_same hI ha0 g107 36 rfl (by decide) (by decide)
                have at106_37 := zp_same hI ha0 g107 37 rfl (by decide) (by decide)
                have at106_39 := zp_same hI ha0 g107 39 rfl (by decide) (by decide)
                have at106_40 := zp_same hI ha0 g107 40 rfl (by decide) (by decide)
                obtain ⟨e7, qa7, qb7, qc7, qd7, qB7, qe7⟩ := zfe_must (e := e6) (by omega) (by omega) ht106_fact0
                replace qB7 := zHide.mk qB7
                clear ht106_fact0
                have o7 : (t103.1 a0 38).toInt ≤ (t106.1 a0 38).toInt := by omega
                have u7 : (τ7.1 a0 11).toInt + 6 ≤ (t106.1 a0 11).toInt + 6 * e7 ∧ (τ7.1 a0 11).toInt ≤ (t106.1 a0 11).toInt ∧ e0 ≤ e7 ∧ (τ7.1 a0 38).toInt ≤ (t106.1 a0 38).toInt ∧ (t106.1 a0 38).toInt ≤ (τ7.1 a0 38).toInt + (t106.1 a0 11).toInt - (τ7.1 a0 11).toInt + e7 - e0 ∧ 0 ≤ (t106.1 a0 12).toInt ∧ (t106.1 a0 12).toInt ≤ (τ7.1 a0 12).toInt + 21 * e7 := ⟨by omega, by omega, by omega, by omega, by omega, by omega, by omega⟩
                clear qe7 u6
                have z11f : 0 ≤ (t106.1 a0 11).toInt ∧ (t106.1 a0 11).toInt ≤ 400 := zj_get hI ha0 rfl
                have zhb : (t106.1 a0 13).toInt = 0 → ∀ b : Int, (σ.1 a0 32).toInt ≤ b → b < (t106.1 a0 32).toInt → gBr a0 t106 (420 * (σ.1 a0 19).toInt) (t106.1 a0 38).toInt b := fun hF => by exfalso; have y := qB3.un; omega
                refine zg_goto X 12 dX11_tellLaw_126 (by decide) ?_
                refine zg_sub [0, 1, 2, 3] rfl ?_
                exact ihLp7 _ v66 hI hS (congrArg Int32.toInt (hS.2.1 18 (by decide))) (congrArg Int32.toInt (hS.2.1 19 (by decide))) at106_30 at106_31 E  ⟨by omega, by omega, by omega, by omega, by omega, by omega, by omega, by omega, by omega, by omega, by omega, by omega, by omega, by omega⟩ (by omega) (fun j h0 h1 => by have y := hk j h0 (by omega); have x := zk3 j h0 (by omega); rw [at106_39, at106_40, ← hf5, ← hf6]; exact ⟨x.1.trans y.1, x.2.trans y.2⟩) (fun b h0 h1 => by have y := hr b h0 h1; have x := zt4 b h0 (by omega); rw [at106_33, at106_34, at106_35, at106_36, at106_37, ws72 b h0, ws78 b h0, ws92 b h0, if_neg (by omega), if_neg (by omega), if_neg (by omega), x.1, x.2]; exact y) (zhb)
              · skip
                replace E := zIf_t c97 E
                refine zg_aload_n X 2 rfl dX11_tellLaw_106 ?_
                have zb39 : zp a0 s92 39 = f1 := as92_39.trans hf1.symm
                have zb40 : zp a0 s92 40 = f2 := as92_40.trans hf2.symm
                have zq2 : (s92.1 a0 38).toInt = y1 := by omega
                refine zg_cVv (As := []) (st := []) X ha0 rfl (by decide) rfl (t_X11_expression l d L kd κ _ hI a0 ha0   (by omega) (by omega)) mk_X11_291 mc_X11_expression mz_X11 mi_X11_expression ml_X11_expression (na := 0) ⟨md_X11.1, md_X11.2, by decide +kernel⟩ rfl ⟨by decide, by decide⟩ (Nat.le_of_ble_eq_true rfl) dX11_tellLaw_107 (fun t108 hq => ?_)
                obtain ⟨hF, ⟨ht108_fact0, ht108_fact1, ht108_fact2, ht108_fact3⟩, hI, g109⟩ := hq
                replace E := zLet_s hF E
                have ft108_32 : (t108.1 a0 32).toInt = (s92.1 a0 32).toInt := by rw [g109.2.1 32 (by decide)]
                have hS := hS.tr g109 (by decide) (by decide)
                have at108_30 := (zp_same hI ha0 g109 30 rfl (by decide) (by decide)).trans as92_30
                have at108_31 := (zp_same hI ha0 g109 31 rfl (by decide) (by decide)).trans as92_31
                have at108_33 := (zp_same hI ha0 g109 33 rfl (by decide) (by decide)).trans as92_33
                have at108_34 := (zp_same hI ha0 g109 34 rfl (by decide) (by decide)).trans as92_34
                have at108_35 := zp_same hI ha0 g109 35 rfl (by decide) (by decide)
                have at108_36 := (zp_same hI ha0 g109 36 rfl (by decide) (by decide)).trans as92_36
                have at108_37 := (zp_same hI ha0 g109 37 rfl (by decide) (by decide)).trans as92_37
                have z12o : 0 ≤ (t108.1 a0 12).toInt ∧ (t108.1 a0 12).toInt ≤ 7 := zj_get hI ha0 rfl
                obtain ⟨e4, qa4, qb4, qc4, qd4, qB4, qe4⟩ := zfe_ex (e := e3) (by omega) z12o.2 (by omega) (by omega) (by omega) ht108_fact0 ht108_fact1
                replace qB4 := zHide.mk qB4
                clear ht108_fact0 ht108_fact1
                have o4 : (s92.1 a0 38).toInt ≤ (t108.1 a0 38).toInt := by omega
                have u4 : (τ7.1 a0 11).toInt + 4 ≤ (t108.1 a0 11).toInt + 4 * e4 ∧ (τ7.1 a0 11).toInt ≤ (t108.1 a0 11).toInt ∧ e0 ≤ e4 ∧ (τ7.1 a0 38).toInt ≤ (t108.1 a0 38).toInt ∧ (t108.1 a0 38).toInt ≤ (τ7.1 a0 38).toInt + (t108.1 a0 11).toInt - (τ7.1 a0 11).toInt + e4 - e0 ∧ 0 ≤ (t108.1 a0 12).toInt ∧ (t108.1 a0 12).toInt ≤ (τ7.1 a0 12).toInt + 21 * e4 := ⟨by omega, by omega, by omega, by omega, by omega, by omega, by omega⟩
                clear qe4 u3
                have zg2 := ht108_fact2
                have zx2 := ht108_fact3
                clear ht108_fact3 ht108_fact2
                obtain ⟨f3, hf3⟩ : ∃ f : Int → Int, f = zp a0 t108 39 := ⟨_, rfl⟩
                obtain ⟨f4, hf4⟩ : ∃ f : Int → Int, f = zp a0 t108 40 := ⟨_, rfl⟩
                obtain ⟨y2, hy2⟩ : ∃ x : Int, x = (t108.1 a0 38).toInt := ⟨_, rfl⟩
                have zm12 : ∀ j : Int, 0 ≤ j → (j < y1 ∨ y2 ≤ j) → f3 j = f1 j ∧ f4 j = f2 j := fun j h0 h1 => by have x := zx2 j h0 (by omega); rw [zb39, zb40, ← hf3, ← hf4] at x; exact x
                have zk2 : ∀ j : Int, 0 ≤ j → (j < (τ7.1 a0 38).toInt ∨ y2 ≤ j) → f3 j = zp a0 τ7 39 j ∧ f4 j = zp a0 τ7 40 j := fun j h0 h1 => by have x := zm12 j h0 (by omega); have y := zk1 j h0 (by omega); exact ⟨x.1.trans y.1, x.2.trans y.2⟩
                rw [zq2, ← hy2, ← hf3, ← hf4] at zg2
                skip
                refine zg_aload_n X 2 rfl dX11_tellLaw_110 ?_
                refine zg_bipush X 31 dX11_tellLaw_111 (by decide) (fun v111 _ hv111 => ?_)
                replace E := zLet_s (zcst hv111 (by decide)) E
                refine zg_cVv (As := [.int v111]) (st := []) X ha0 rfl (by decide) rfl (t_X11_must l d L kd κ _ hI a0 ha0 v111  ) mk_X11_274 mc_X11_must mz_X11 mi_X11_must ml_X11_must (na := 1) ⟨md_X11.1, md_X11.2, by decide +kernel⟩ rfl ⟨by decide, by decide⟩ (Nat.le_of_ble_eq_true rfl) dX11_tellLaw_113 (fun t112 hq => ?_)
                obtain ⟨hF, ht112_fact0, hI, g113⟩ := hq
                replace E := zLet_s hF E
                have ft112_12 : (t112.1 a0 12).toInt = (t108.1 a0 12).toInt := by rw [g113.2.1 12 (by decide)]
                have ft112_32 : (t112.1 a0 32).toInt = (t108.1 a0 32).toInt := by rw [g113.2.1 32 (by decide)]
                have ft112_38 : (t112.1 a0 38).toInt = (t108.1 a0 38).toInt := by rw [g113.2.1 38 (by decide)]
                have hS := hS.tr g113 (by decide) (by decide)
                have at112_30 := (zp_same hI ha0 g113 30 rfl (by decide) (by decide)).trans at108_30
                have at112_31 := (zp_same hI ha0 g113 31 rfl (by decide) (by decide)).trans at108_31
                have at112_33 := (zp_same hI ha0 g113 33 rfl (by decide) (by decide)).trans at108_33
                have at112_34 := (zp_same hI ha0 g113 34 rfl (by decide) (by decide)).trans at108_34
                have at112_35 := (zp_same hI ha0 g113 35 rfl (by decide) (by decide)).trans at108_35
                have at112_36 := (zp_same hI ha0 g113 36 rfl (by decide) (by decide)).trans at108_36
                have at112_37 := (zp_same hI ha0 g113 37 rfl (by decide) (by decide)).trans at108_37
                have at112_39 := zp_same hI ha0 g113 39 rfl (by decide) (by decide)
                have at112_40 := zp_same hI ha0 g113 40 rfl (by decide) (by decide)
                obtain ⟨e5, qa5, qb5, qc5, qd5, qB5, qe5⟩ := zfe_must (e := e4) (by omega) (by omega) ht112_fact0
                replace qB5 := zHide.mk qB5
                clear ht112_fact0
                have o5 : (t108.1 a0 38).toInt ≤ (t112.1 a0 38).toInt := by omega
                have u5 : (τ7.1 a0 11).toInt + 5 ≤ (t112.1 a0 11).toInt + 5 * e5 ∧ (τ7.1 a0 11).toInt ≤ (t112.1 a0 11).toInt ∧ e0 ≤ e5 ∧ (τ7.1 a0 38).toInt ≤ (t112.1 a0 38).toInt ∧ (t112.1 a0 38).toInt ≤ (τ7.1 a0 38).toInt + (t112.1 a0 11).toInt - (τ7.1 a0 11).toInt + e5 - e0 ∧ 0 ≤ (t112.1 a0 12).toInt ∧ (t112.1 a0 12).toInt ≤ (τ7.1 a0 12).toInt + 21 * e5 := ⟨by omega, by omega, by omega, by omega, by omega, by omega, by omega⟩
                clear qe5 u4
                refine zg_aload_n X 2 rfl dX11_tellLaw_116 ?_
                obtain ⟨yb, hyb⟩ : ∃ x : Int, x = (t112.1 a0 32).toInt := ⟨_, rfl⟩
                have zt36 : zp a0 t112 36 = zp a0 τ7 36 := at112_36
                have zt37 : zp a0 t112 37 = zp a0 τ7 37 := at112_37
                have zd39 : zp a0 t112 39 = f3 := by rw [at112_39]; first | exact hf3.symm | (rw [hf3]; exact hf1.symm)
                have zd40 : zp a0 t112 40 = f4 := by rw [at112_40]; first | exact hf4.symm | (rw [hf4]; exact hf2.symm)
                have zq3 : (t112.1 a0 38).toInt = y2 := by omega
                refine zg_cVv (As := []) (st := []) X ha0 rfl (by decide) rfl (t_X11_term l d L kd κ _ hI a0 ha0   (by omega) (by omega) (by omega)) mk_X11_294 mc_X11_term mz_X11 mi_X11_term ml_X11_term (na := 0) ⟨md_X11.1, md_X11.2, by decide +kernel⟩ rfl ⟨by decide, by decide⟩ (Nat.le_of_ble_eq_true rfl) dX11_tellLaw_117 (fun t115 hq => ?_)
                obtain ⟨hF, ⟨ht115_fact0, ht115_fact1, ht115_fact2, ht115_fact3, ht115_fact4, ht115_fact5⟩, hI, g116⟩ := hq
                replace E := zLet_s hF E
                have hS := hS.tr g116 (by decide) (by decide)
                have at115_30 := (zp_same hI ha0 g116 30 rfl (by decide) (by decide)).trans at112_30
                have at115_31 := (zp_same hI ha0 g116 31 rfl (by decide) (by decide)).trans at112_31
                have at115_33 := (zp_same hI ha0 g116 33 rfl (by decide) (by decide)).trans at112_33
                have at115_34 := (zp_same hI ha0 g116 34 rfl (by decide) (by decide)).trans at112_34
                have at115_35 := (zp_same hI ha0 g116 35 rfl (by decide) (by decide)).trans at112_35
                have z12o : 0 ≤ (t115.1 a0 12).toInt ∧ (t115.1 a0 12).toInt ≤ 7 := zj_get hI ha0 rfl
                obtain ⟨e6, qa6, qb6, qc6, qd6, qB6, qe6⟩ := zfe_ex (e := e5) (by omega) z12o.2 (by omega) (by omega) (by omega) ht115_fact0.2 ht115_fact1
                replace qB6 := zHide.mk qB6
                have zB1 := ht115_fact0.1
                clear ht115_fact0 ht115_fact1
                have zg3 := ht115_fact2
                have zx3 := ht115_fact3
                have zt4 := ht115_fact4
                have zt5 := ht115_fact5
                clear ht115_fact5 ht115_fact4 ht115_fact3 ht115_fact2
                rw [← hyb] at zt4 zt5
                rw [zt36, zt37] at zt4
                obtain ⟨f5, hf5⟩ : ∃ f : Int → Int, f = zp a0 t115 39 := ⟨_, rfl⟩
                obtain ⟨f6, hf6⟩ : ∃ f : Int → Int, f = zp a0 t115 40 := ⟨_, rfl⟩
                obtain ⟨y3, hy3⟩ : ∃ x : Int, x = (t115.1 a0 38).toInt := ⟨_, rfl⟩
                rw [zq3, ← hy3, ← hf5, ← hf6] at zg3
                rw [zq3, ← hy3] at zt5
                have o6 : (t112.1 a0 38).toInt ≤ (t115.1 a0 38).toInt := by omega
                have u6 : (τ7.1 a0 11).toInt + 6 ≤ (t115.1 a0 11).toInt + 6 * e6 ∧ (τ7.1 a0 11).toInt ≤ (t115.1 a0 11).toInt ∧ e0 ≤ e6 ∧ (τ7.1 a0 38).toInt ≤ (t115.1 a0 38).toInt ∧ (t115.1 a0 38).toInt ≤ (τ7.1 a0 38).toInt + (t115.1 a0 11).toInt - (τ7.1 a0 11).toInt + e6 - e0 ∧ 0 ≤ (t115.1 a0 12).toInt ∧ (t115.1 a0 12).toInt ≤ (τ7.1 a0 12).toInt + 21 * e6 := ⟨by omega, by omega, by omega, by omega, by omega, by omega, by omega⟩
                clear qe6 u5
                have zm23 : ∀ j : Int, 0 ≤ j → (j < y2 ∨ y3 ≤ j) → f5 j = f3 j ∧ f6 j = f4 j := fun j h0 h1 => by have x := zx3 j h0 (by omega); rw [zd39, zd40, ← hf5, ← hf6] at x; exact x
                have zk3 : ∀ j : Int, 0 ≤ j → (j < (τ7.1 a0 38).toInt ∨ y3 ≤ j) → f5 j = zp a0 τ7 39 j ∧ f6 j = zp a0 τ7 40 j := fun j h0 h1 => by have x := zm23 j h0 (by omega); have y := zk2 j h0 (by omega); exact ⟨x.1.trans y.1, x.2.trans y.2⟩
                refine zg_aload_n X 2 rfl dX11_tellLaw_120 ?_
                refine zg_bipush X 32 dX11_tellLaw_121 (by decide) (fun v117 _ hv117 => ?_)
                replace E := zLet_s (zcst hv117 (by decide)) E
                refine zg_cVv (As := [.int v117]) (st := []) X ha0 rfl (by decide) rfl (t_X11_must l d L kd κ _ hI a0 ha0 v117  ) mk_X11_274 mc_X11_must mz_X11 mi_X11_must ml_X11_must (na := 1) ⟨md_X11.1, md_X11.2, by decide +kernel⟩ rfl ⟨by decide, by decide⟩ (Nat.le_of_ble_eq_true rfl) dX11_tellLaw_123 (fun t118 hq => ?_)
                obtain ⟨hF, ht118_fact0, hI, g119⟩ := hq
                replace E := zLet_s hF E
                have ft118_12 : (t118.1 a0 12).toInt = (t115.1 a0 12).toInt := by rw [g119.2.1 12 (by decide)]
                have ft118_32 : (t118.1 a0 32).toInt = (t115.1 a0 32).toInt := by rw [g119.2.1 32 (by decide)]
                have ft118_38 : (t118.1 a0 38).toInt = (t115.1 a0 38).toInt := by rw [g119.2.1 38 (by decide)]
                have hS := hS.tr g119 (by decide) (by decide)
                have at118_30 := (zp_same hI ha0 g119 30 rfl (by decide) (by decide)).trans at115_30
                have at118_31 := (zp_same hI ha0 g119 31 rfl (by decide) (by decide)).trans at115_31
                have at118_33 := (zp_same hI ha0 g119 33 rfl (by decide) (by decide)).trans at115_33
                have at118_34 := (zp_same hI ha0 g119 34 rfl (by decide) (by decide)).trans at115_34
                have at118_35 := (zp_same hI ha0 g119 35 rfl (by decide) (by decide)).trans at115_35
                have at118_36 := zp_same hI ha0 g119 36 rfl (by decide) (by decide)
                have at118_37 := zp_same hI ha0 g119 37 rfl (by decide) (by decide)
                have at118_39 := zp_same hI ha0 g119 39 rfl (by decide) (by decide)
                have at118_40 := zp_same hI ha0 g119 40 rfl (by decide) (by decide)
                obtain ⟨e7, qa7, qb7, qc7, qd7, qB7, qe7⟩ := zfe_must (e := e6) (by omega) (by omega) ht118_fact0
                replace qB7 := zHide.mk qB7
                clear ht118_fact0
                have o7 : (t115.1 a0 38).toInt ≤ (t118.1 a0 38).toInt := by omega
                have u7 : (τ7.1 a0 11).toInt + 7 ≤ (t118.1 a0 11).toInt + 7 * e7 ∧ (τ7.1 a0 11).toInt ≤ (t118.1 a0 11).toInt ∧ e0 ≤ e7 ∧ (τ7.1 a0 38).toInt ≤ (t118.1 a0 38).toInt ∧ (t118.1 a0 38).toInt ≤ (τ7.1 a0 38).toInt + (t118.1 a0 11).toInt - (τ7.1 a0 11).toInt + e7 - e0 ∧ 0 ≤ (t118.1 a0 12).toInt ∧ (t118.1 a0 12).toInt ≤ (τ7.1 a0 12).toInt + 21 * e7 := ⟨by omega, by omega, by omega, by omega, by omega, by omega, by omega⟩
                clear qe7 u6
                have z11f : 0 ≤ (t118.1 a0 11).toInt ∧ (t118.1 a0 11).toInt ≤ 400 := zj_get hI ha0 rfl
                have zhb : (t118.1 a0 13).toInt = 0 → ∀ b : Int, (σ.1 a0 32).toInt ≤ b → b < (t118.1 a0 32).toInt → gBr a0 t118 (420 * (σ.1 a0 19).toInt) (t118.1 a0 38).toInt b := by
                  intro hF b h0 h1
                  by_cases z : b = (τ7.1 a0 32).toInt
                  · have v33 : zp a0 t118 33 b = 1 := by rw [at118_33, ws72 b (by omega), if_pos (by omega)]; omega
                    have v34 : zp a0 t118 34 b = (τ7.1 a0 38).toInt := by rw [at118_34, ws78 b (by omega), if_pos (by omega)]; omega
                    have v35 : zp a0 t118 35 b = y1 := by rw [at118_35, ws92 b (by omega), if_pos (by omega)]; omega
                    have v36 : zp a0 t118 36 b = y2 := by rw [at118_36, show b = yb by omega]; exact zt5.1
                    have v37 : zp a0 t118 37 b = y3 := by rw [at118_37, show b = yb by omega]; exact zt5.2
                    unfold gBr
                    rw [v34, v35, v36, v37, at118_39, at118_40, ← hf5, ← hf6]
                    refine ⟨fun _ => ⟨(zg1 (by have y := qB2.un; omega)).congr (fun j g0 g1 => ?_), (zg2 (by have y := qB4.un; omega)).congr (fun j g0 g1 => zm23 j (by omega) (by omega)), by omega⟩, zg3 (by have y := qB6.un; omega), by omega, by omega⟩
                    have x := zm23 j (by omega) (by omega)
                    have y := zm12 j (by omega) (by omega)
                    exact ⟨x.1.trans y.1, x.2.trans y.2⟩
                  · refine gBr.kept (hb (by omega) b h0 (by omega)) (fun j g0 g1 => by have x := zk3 j (by omega) (by omega); rw [at118_39, at118_40, ← hf5, ← hf6]; exact x) ?_ (by omega)
                    have x := zt4 b (by omega) (by omega)
                    rw [at118_33, at118_34, at118_35, at118_36, at118_37, ws72 b (by omega), ws78 b (by omega), ws92 b (by omega), if_neg (by omega), if_neg (by omega), if_neg (by omega)]
                    exact ⟨rfl, rfl, rfl, x.1, x.2⟩
                refine zg_goto X 12 dX11_tellLaw_126 (by decide) ?_
                refine zg_sub [0, 1, 2, 3] rfl ?_
                exact ihLp7 _ v66 hI hS (congrArg Int32.toInt (hS.2.1 18 (by decide))) (congrArg Int32.toInt (hS.2.1 19 (by decide))) at118_30 at118_31 E  ⟨by omega, by omega, by omega, by omega, by omega, by omega, by omega, by omega, by omega, by omega, by omega, by omega, by omega, by omega⟩ (by omega) (fun j h0 h1 => by have y := hk j h0 (by omega); have x := zk3 j h0 (by omega); rw [at118_39, at118_40, ← hf5, ← hf6]; exact ⟨x.1.trans y.1, x.2.trans y.2⟩) (fun b h0 h1 => by have y := hr b h0 h1; have x := zt4 b h0 (by omega); rw [at118_33, at118_34, at118_35, at118_36, at118_37, ws72 b h0, ws78 b h0, ws92 b h0, if_neg (by omega), if_neg (by omega), if_neg (by omega), x.1, x.2]; exact y) (zhb)
            · omega
          · skip
            replace E := zIf_t c63 E
            refine zg_aload_n X 2 rfl dX11_tellLaw_33 ?_
            refine zg_iconst X 2 dX11_tellLaw_34 (by decide) (fun v120 _ hv120 => ?_)
            replace E := zLet_s (zcst hv120 (by decide)) E
            refine zg_cVv (As := [.int v120]) (st := []) X ha0 rfl (by decide) rfl (t_X11_fail l d L kd κ _ hI a0 ha0 v120  (by omega)) mk_X11_221 mc_X11_fail mz_X11 mi_X11_fail ml_X11_fail (na := 1) ⟨md_X11.1, md_X11.2, by decide +kernel⟩ rfl ⟨by decide, by decide⟩ (Nat.le_of_ble_eq_true rfl) dX11_tellLaw_35 (fun t121 hq => ?_)
            obtain ⟨hF, ht121_fact0, hI, g122⟩ := hq
            replace E := zLet_s hF E
            have ft121_11 : (t121.1 a0 11).toInt = (τ7.1 a0 11).toInt := by rw [g122.2.1 11 (by decide)]
            have ft121_12 : (t121.1 a0 12).toInt = (τ7.1 a0 12).toInt := by rw [g122.2.1 12 (by decide)]
            have ft121_32 : (t121.1 a0 32).toInt = (τ7.1 a0 32).toInt := by rw [g122.2.1 32 (by decide)]
            have ft121_38 : (t121.1 a0 38).toInt = (τ7.1 a0 38).toInt := by rw [g122.2.1 38 (by decide)]
            have hS := hS.tr g122 (by decide) (by decide)
            have at121_30 := (zp_same hI ha0 g122 30 rfl (by decide) (by decide)).trans A30_Lp7
            have at121_31 := (zp_same hI ha0 g122 31 rfl (by decide) (by decide)).trans A31_Lp7
            have at121_33 := zp_same hI ha0 g122 33 rfl (by decide) (by decide)
            have at121_34 := zp_same hI ha0 g122 34 rfl (by decide) (by decide)
            have at121_35 := zp_same hI ha0 g122 35 rfl (by decide) (by decide)
            have at121_36 := zp_same hI ha0 g122 36 rfl (by decide) (by decide)
            have at121_37 := zp_same hI ha0 g122 37 rfl (by decide) (by decide)
            have at121_39 := zp_same hI ha0 g122 39 rfl (by decide) (by decide)
            have at121_40 := zp_same hI ha0 g122 40 rfl (by decide) (by decide)
            refine zg_aload_n X 2 rfl dX11_tellLaw_38 ?_
            refine fg_X11_206 X hI ha0 dX11_tellLaw_39 (fun v123 ev123 hv123 => ?_)
            replace E := zLet_s ev123 E
            have kv123 : (t121.1 a0 13).toInt = v123.toInt := by rw [ev123]
            refine zg_if_le X 46 dX11_tellLaw_42 (by decide) (fun c124 => ?_) (fun c124 => ?_)
            · omega
            · skip
              replace E := zIf_t c124 E
              have z11f : 0 ≤ (t121.1 a0 11).toInt ∧ (t121.1 a0 11).toInt ≤ 400 := zj_get hI ha0 rfl
              have zKf : zKc a0 σ t121 := fun j h0 h1 => by have y := hk j h0 (by omega); rw [at121_39, at121_40]; exact y
              have zRf : zRk a0 σ t121 (σ.1 a0 32).toInt := fun b h0 h1 => by have y := hr b h0 h1; rw [at121_33, at121_34, at121_35, at121_36, at121_37]; exact y
              have zLf : gL a0 t121 := gL.region hgL (s := (σ.1 a0 19).toInt) (congrArg Int32.toInt (hS.2.1 18 (by decide))) (by omega) (by omega) zKf zRf (by omega) (by omega) (by omega) (by omega) (fun k h0 h5 => by rw [at121_30, at121_31]; exact ⟨rfl, rfl⟩)
              have zLkf : zLkp a0 σ t121 := zLkp.region (s := (σ.1 a0 19).toInt) (by omega) (by omega) zKf zRf (by omega) (by omega) (by omega) (by omega) (fun k h0 h5 => by rw [at121_30, at121_31]; exact ⟨rfl, rfl⟩)
              exact ret _ _ _ dX11_tellLaw_45 ⟨E.symm.trans hR, ⟨⟨(by omega), (fun h0 => by exfalso; omega), (zLkf), zLf⟩, hI, hS⟩⟩
  refine zg_sub [0, 1, 2, 3] rfl ?_
  exact Lp7 10000 _ v5 hI hS (congrArg Int32.toInt (hS.2.1 18 (by decide))) (congrArg Int32.toInt (hS.2.1 19 (by decide))) at2_30 at2_31 E  ⟨by omega, by omega, by omega, by omega, by omega, by omega, by omega, by omega, by omega, by omega, by omega, by omega, by omega, by omega⟩ (by omega) (zKc.eq at2_39 at2_40) (fun b h0 h1 => by rw [at2_33, at2_34, at2_35, at2_36, at2_37]; exact ⟨rfl, rfl, rfl, rfl, rfl⟩) (fun _ b h0 h1 => absurd h1 (by omega))
