set_option maxHeartbeats 4000000 in
set_option maxRecDepth 100000 in
theorem t_X11_term (l : Launch) (d : zD2) (L : List Nat) (kd : Nat → Nat) (κ : Int) (σ : zS) (hI : zJ κ L kd σ) (a0 : Nat) (ha0 : zT L kd a0 11) (hq0 : (σ.1 a0 38).toInt ≤ 425 + (σ.1 a0 11).toInt) (hq1 : (1 ≤ (σ.1 a0 13).toInt ∨ (σ.1 a0 12).toInt = 0)) (hq2 : (σ.1 a0 32).toInt ≤ 259) : zMv l yX11_term (Cond.code yX11_term cX11_term 1 none :: zWL) 4 [.ref a0] d L kd σ (fun σ2 => ((((σ2.1 a0 32).toInt = (σ.1 a0 32).toInt + 1 ∧ (σ.1 a0 11).toInt ≤ (σ2.1 a0 11).toInt ∧ (σ.1 a0 38).toInt ≤ (σ2.1 a0 38).toInt ∧ (σ2.1 a0 38).toInt ≤ (σ.1 a0 38).toInt + (σ2.1 a0 11).toInt - (σ.1 a0 11).toInt + 1 ∧ ((σ.1 a0 13).toInt = 0 ∨ (1 ≤ (σ2.1 a0 13).toInt ∧ (σ2.1 a0 38).toInt = (σ.1 a0 38).toInt)))) ∧ ((1 ≤ (σ2.1 a0 13).toInt ∨ ((σ.1 a0 13).toInt = 0 ∧ (σ2.1 a0 13).toInt = 0 ∧ (σ2.1 a0 38).toInt ≤ (σ.1 a0 38).toInt + (σ2.1 a0 11).toInt - (σ.1 a0 11).toInt ∧ (σ.1 a0 11).toInt < (σ2.1 a0 11).toInt ∧ (σ2.1 a0 12).toInt = (σ.1 a0 12).toInt))) ∧ (((σ2.1 a0 13).toInt = 0 → gCod (zp a0 σ2 39) (zp a0 σ2 40) (σ.1 a0 38).toInt (σ2.1 a0 38).toInt)) ∧ (zKc a0 σ σ2) ∧ ((∀ b : Int, 0 ≤ b → b ≠ (σ.1 a0 32).toInt → zp a0 σ2 36 b = zp a0 σ 36 b ∧ zp a0 σ2 37 b = zp a0 σ 37 b)) ∧ ((zp a0 σ2 36 (σ.1 a0 32).toInt = (σ.1 a0 38).toInt ∧ zp a0 σ2 37 (σ.1 a0 32).toInt = (σ2.1 a0 38).toInt))) ∧ zJ κ L kd σ2 ∧ zSame a0 [11, 12, 13, 14, 32, 38, 44] [136, 137, 139, 140, 143] L kd σ σ2) := by
  refine zMv.of (own := RX11) (by decide +kernel) rfl rfl (Nat.le_of_ble_eq_true rfl) ?_
  intro p e s m args below meth c A Q X ret
  have hS : zSame a0 [11, 12, 13, 14, 32, 38, 44] [136, 137, 139, 140, 143] L kd σ σ := zSame.rf
  refine zg_lv (lv2 := [(0, .ref a0)]) rfl ?_
  have z11 : 0 ≤ (σ.1 a0 11).toInt ∧ (σ.1 a0 11).toInt ≤ 400 := zj_get hI ha0 rfl
  have z12 : 0 ≤ (σ.1 a0 12).toInt ∧ (σ.1 a0 12).toInt ≤ 7 := zj_get hI ha0 rfl
  have z13 : 0 ≤ (σ.1 a0 13).toInt ∧ (σ.1 a0 13).toInt ≤ 2147483647 := zj_get hI ha0 rfl
  have z32 : 0 ≤ (σ.1 a0 32).toInt ∧ (σ.1 a0 32).toInt ≤ 260 := zj_get hI ha0 rfl
  have z38 : 0 ≤ (σ.1 a0 38).toInt ∧ (σ.1 a0 38).toInt ≤ 840 := zj_get hI ha0 rfl
  refine zg_aload_n X 0 rfl dX11_term_0 ?_
  refine fg_X11_86 X hI ha0 dX11_term_1 (fun v1 ev1 hv1 => ?_)
  refine zg_aload_n X 0 rfl dX11_term_4 ?_
  refine fg_X11_242 X hI ha0 dX11_term_5 (fun v2 ev2 hv2 => ?_)
  have kv2 : (σ.1 a0 32).toInt = v2.toInt := by rw [ev2]
  refine zg_aload_n X 0 rfl dX11_term_8 ?_
  refine fg_X11_245 X hI ha0 dX11_term_9 (fun v3 ev3 hv3 => ?_)
  have kv3 : (σ.1 a0 38).toInt = v3.toInt := by rw [ev3]
  refine as_136 X hI hv1 (by omega) (by omega) dX11_term_12 (fun s4 es4 hI => ?_)
  have g5 := (zSame.rf (o := a0) (Wf := []) (Wa := [136]) (L := L) (kd := kd) (σ := σ)).a ha0 hv1 es4 rfl (by decide)
  have rs4 := zp_st (σ := σ) (σ2 := s4) (i := v2) (x := v3) ev1 es4 (by omega)
  have ws4 := rs4
  rw [← kv2] at ws4
  have fs4_11 : (s4.1 a0 11).toInt = (σ.1 a0 11).toInt := by rw [g5.2.1 11 (by decide)]
  have fs4_12 : (s4.1 a0 12).toInt = (σ.1 a0 12).toInt := by rw [g5.2.1 12 (by decide)]
  have fs4_13 : (s4.1 a0 13).toInt = (σ.1 a0 13).toInt := by rw [g5.2.1 13 (by decide)]
  have fs4_32 : (s4.1 a0 32).toInt = (σ.1 a0 32).toInt := by rw [g5.2.1 32 (by decide)]
  have fs4_38 : (s4.1 a0 38).toInt = (σ.1 a0 38).toInt := by rw [g5.2.1 38 (by decide)]
  have hS := hS.tr g5 (by decide) (by decide)
  have us4_37 := zp_same hI ha0 g5 37 rfl (by decide) (by decide)
  have as4_37 := us4_37
  have us4_39 := zp_same hI ha0 g5 39 rfl (by decide) (by decide)
  have as4_39 := us4_39
  have us4_40 := zp_same hI ha0 g5 40 rfl (by decide) (by decide)
  have as4_40 := us4_40
  have e6 := g5.v ev2 (by decide)
  have e7 := g5.v ev3 (by decide)
  refine zg_aload_n X 0 rfl dX11_term_13 ?_
  refine fg_X11_206 X hI ha0 dX11_term_14 (fun v8 ev8 hv8 => ?_)
  have kv8 : (s4.1 a0 13).toInt = v8.toInt := by rw [ev8]
  refine zg_if_ne X 24 dX11_term_17 (by decide) (fun c9 => ?_) (fun c9 => ?_)
  · skip
    refine zg_aload_n X 0 rfl dX11_term_24 ?_
    refine fg_X11_89 X hI ha0 dX11_term_25 (fun v10 ev10 hv10 => ?_)
    refine zg_aload_n X 0 rfl dX11_term_28 ?_
    refine fg_X11_242 X hI ha0 dX11_term_29 (fun v11 ev11 hv11 => ?_)
    have kv11 : (s4.1 a0 32).toInt = v11.toInt := by rw [ev11]
    have mv11 : v11.toInt = v2.toInt := by rw [ev11, ← e6]
    refine zg_aload_n X 0 rfl dX11_term_32 ?_
    refine fg_X11_245 X hI ha0 dX11_term_33 (fun v12 ev12 hv12 => ?_)
    have kv12 : (s4.1 a0 38).toInt = v12.toInt := by rw [ev12]
    have mv12 : v12.toInt = v3.toInt := by rw [ev12, ← e7]
    refine as_137 X hI hv10 (by omega) (by omega) dX11_term_36 (fun s13 es13 hI => ?_)
    have g14 := (zSame.rf (o := a0) (Wf := []) (Wa := [137]) (L := L) (kd := kd) (σ := s4)).a ha0 hv10 es13 rfl (by decide)
    have rs13 := zp_st (σ := s4) (σ2 := s13) (i := v11) (x := v12) ev10 es13 (by omega)
    have ws13 := rs13
    rw [as4_37] at ws13
    rw [← kv11] at ws13
    have fs13_11 : (s13.1 a0 11).toInt = (s4.1 a0 11).toInt := by rw [g14.2.1 11 (by decide)]
    have fs13_12 : (s13.1 a0 12).toInt = (s4.1 a0 12).toInt := by rw [g14.2.1 12 (by decide)]
    have fs13_13 : (s13.1 a0 13).toInt = (s4.1 a0 13).toInt := by rw [g14.2.1 13 (by decide)]
    have fs13_32 : (s13.1 a0 32).toInt = (s4.1 a0 32).toInt := by rw [g14.2.1 32 (by decide)]
    have fs13_38 : (s13.1 a0 38).toInt = (s4.1 a0 38).toInt := by rw [g14.2.1 38 (by decide)]
    have hS := hS.tr g14 (by decide) (by decide)
    have us13_36 := zp_same hI ha0 g14 36 rfl (by decide) (by decide)
    have as13_36 := us13_36
    have us13_39 := zp_same hI ha0 g14 39 rfl (by decide) (by decide)
    have as13_39 := us13_39.trans as4_39
    have us13_40 := zp_same hI ha0 g14 40 rfl (by decide) (by decide)
    have as13_40 := us13_40.trans as4_40
    have e15 := g14.v ev11 (by decide)
    have e16 := g14.v ev12 (by decide)
    have e17 := g14.v ev8 (by decide)
    refine zg_aload_n X 0 rfl dX11_term_37 ?_
    refine zg_dup X dX11_term_38 rfl ?_
    refine fg_X11_242 X hI ha0 dX11_term_39 (fun v18 ev18 hv18 => ?_)
    have kv18 : (s13.1 a0 32).toInt = v18.toInt := by rw [ev18]
    have mv18 : v18.toInt = v11.toInt := by rw [ev18, ← e15]
    refine zg_iconst X 1 dX11_term_42 (by decide) (fun v19 _ hv19 => ?_)
    refine zg_iadd X dX11_term_43 (by omega) (by omega) (fun v20 _ hv20 => ?_)
    refine fp_X11_242 X hI ha0 ⟨by omega, by omega⟩ dX11_term_44 (fun s21 es21 hI => ?_)
    have g22 := (zSame.rf (o := a0) (Wf := [32]) (Wa := []) (L := L) (kd := kd) (σ := s13)).f ha0 es21 rfl
    have fs21_11 : (s21.1 a0 11).toInt = (s13.1 a0 11).toInt := by rw [g22.2.1 11 (by decide)]
    have fs21_12 : (s21.1 a0 12).toInt = (s13.1 a0 12).toInt := by rw [g22.2.1 12 (by decide)]
    have fs21_13 : (s21.1 a0 13).toInt = (s13.1 a0 13).toInt := by rw [g22.2.1 13 (by decide)]
    have fs21_38 : (s21.1 a0 38).toInt = (s13.1 a0 38).toInt := by rw [g22.2.1 38 (by decide)]
    have hS := hS.tr g22 (by decide) (by decide)
    have us21_36 := zp_same hI ha0 g22 36 rfl (by decide) (by decide)
    have as21_36 := us21_36.trans as13_36
    have us21_37 := zp_same hI ha0 g22 37 rfl (by decide) (by decide)
    have as21_37 := us21_37
    have us21_39 := zp_same hI ha0 g22 39 rfl (by decide) (by decide)
    have as21_39 := us21_39.trans as13_39
    have us21_40 := zp_same hI ha0 g22 40 rfl (by decide) (by decide)
    have as21_40 := us21_40.trans as13_40
    have e23 := g22.v e16 (by decide)
    have e24 := g22.v e17 (by decide)
    have fs21_32 : (s21.1 a0 32).toInt = v20.toInt := by rw [es21]; exact congrArg _ (zu_s _ _ _ _)
    have e25 : v20 = s21.1 a0 32 := by rw [es21]; exact zm_s
    exact ret _ _ _ dX11_term_47 ⟨⟨(by omega), (by omega), (fun h0 => by first | (exfalso; omega) | (rw [as21_39, as21_40, show (s21.1 a0 38).toInt = y38 by omega]; exact ze2 (by omega))), (by first | exact zKc.eq as21_39 as21_40 | exact fun j h0 h1 => by have x := ze3 j h0 (by omega); rw [zs39, zs40] at x; rw [as21_39, as21_40]; exact x), (fun b h0 h1 => by rw [as21_36, as21_37, ws4 b h0, ws13 b h0, if_neg (by omega), if_neg (by omega)]; exact ⟨rfl, rfl⟩), (by rw [as21_36, as21_37, ws4 _ (by omega), ws13 _ (by omega), if_pos (by omega), if_pos (by omega)]; exact ⟨by omega, by omega⟩)⟩, hI, hS⟩
  · skip
    refine zg_aload_n X 0 rfl dX11_term_20 ?_
    have zs39 : zp a0 s4 39 = zp a0 σ 39 := as4_39
    have zs40 : zp a0 s4 40 = zp a0 σ 40 := as4_40
    refine zg_cVv (As := []) (st := []) X ha0 rfl (by decide) rfl (t_X11_expression l d L kd κ _ hI a0 ha0   (by omega) (by omega)) mk_X11_291 mc_X11_expression mz_X11 mi_X11_expression ml_X11_expression (na := 0) ⟨md_X11.1, md_X11.2, by decide +kernel⟩ rfl ⟨by decide, by decide⟩ (Nat.le_of_ble_eq_true rfl) dX11_term_21 (fun t26 hq => ?_)
    obtain ⟨⟨ht26_fact0, ht26_fact1, ht26_fact2, ht26_fact3⟩, hI, g27⟩ := hq
    have ft26_32 : (t26.1 a0 32).toInt = (s4.1 a0 32).toInt := by rw [g27.2.1 32 (by decide)]
    have hS := hS.tr g27 (by decide) (by decide)
    have ut26_36 := zp_same hI ha0 g27 36 rfl (by decide) (by decide)
    have at26_36 := ut26_36
    have ut26_37 := zp_same hI ha0 g27 37 rfl (by decide) (by decide)
    have at26_37 := ut26_37.trans as4_37
    have e28 := g27.v e6 (by decide)
    have ze2 := ht26_fact2
    have ze3 := ht26_fact3
    clear ht26_fact2 ht26_fact3
    rw [show (s4.1 a0 38).toInt = (σ.1 a0 38).toInt by omega] at ze2
    obtain ⟨y38, hy38⟩ : ∃ x : Int, x = (t26.1 a0 38).toInt := ⟨_, rfl⟩
    rw [← hy38] at ze2
    refine zg_aload_n X 0 rfl dX11_term_24 ?_
    refine fg_X11_89 X hI ha0 dX11_term_25 (fun v29 ev29 hv29 => ?_)
    refine zg_aload_n X 0 rfl dX11_term_28 ?_
    refine fg_X11_242 X hI ha0 dX11_term_29 (fun v30 ev30 hv30 => ?_)
    have kv30 : (t26.1 a0 32).toInt = v30.toInt := by rw [ev30]
    have mv30 : v30.toInt = v2.toInt := by rw [ev30, ← e28]
    refine zg_aload_n X 0 rfl dX11_term_32 ?_
    refine fg_X11_245 X hI ha0 dX11_term_33 (fun v31 ev31 hv31 => ?_)
    have kv31 : (t26.1 a0 38).toInt = v31.toInt := by rw [ev31]
    refine as_137 X hI hv29 (by omega) (by omega) dX11_term_36 (fun s32 es32 hI => ?_)
    have g33 := (zSame.rf (o := a0) (Wf := []) (Wa := [137]) (L := L) (kd := kd) (σ := t26)).a ha0 hv29 es32 rfl (by decide)
    have rs32 := zp_st (σ := t26) (σ2 := s32) (i := v30) (x := v31) ev29 es32 (by omega)
    have ws32 := rs32
    rw [at26_37] at ws32
    rw [← kv30] at ws32
    have fs32_11 : (s32.1 a0 11).toInt = (t26.1 a0 11).toInt := by rw [g33.2.1 11 (by decide)]
    have fs32_12 : (s32.1 a0 12).toInt = (t26.1 a0 12).toInt := by rw [g33.2.1 12 (by decide)]
    have fs32_13 : (s32.1 a0 13).toInt = (t26.1 a0 13).toInt := by rw [g33.2.1 13 (by decide)]
    have fs32_32 : (s32.1 a0 32).toInt = (t26.1 a0 32).toInt := by rw [g33.2.1 32 (by decide)]
    have fs32_38 : (s32.1 a0 38).toInt = (t26.1 a0 38).toInt := by rw [g33.2.1 38 (by decide)]
    have hS := hS.tr g33 (by decide) (by decide)
    have us32_36 := zp_same hI ha0 g33 36 rfl (by decide) (by decide)
    have as32_36 := us32_36.trans at26_36
    have us32_39 := zp_same hI ha0 g33 39 rfl (by decide) (by decide)
    have as32_39 := us32_39
    have us32_40 := zp_same hI ha0 g33 40 rfl (by decide) (by decide)
    have as32_40 := us32_40
    have e34 := g33.v ev30 (by decide)
    have e35 := g33.v ev31 (by decide)
    refine zg_aload_n X 0 rfl dX11_term_37 ?_
    refine zg_dup X dX11_term_38 rfl ?_
    refine fg_X11_242 X hI ha0 dX11_term_39 (fun v36 ev36 hv36 => ?_)
    have kv36 : (s32.1 a0 32).toInt = v36.toInt := by rw [ev36]
    have mv36 : v36.toInt = v30.toInt := by rw [ev36, ← e34]
    refine zg_iconst X 1 dX11_term_42 (by decide) (fun v37 _ hv37 => ?_)
    refine zg_iadd X dX11_term_43 (by omega) (by omega) (fun v38 _ hv38 => ?_)
    refine fp_X11_242 X hI ha0 ⟨by omega, by omega⟩ dX11_term_44 (fun s39 es39 hI => ?_)
    have g40 := (zSame.rf (o := a0) (Wf := [32]) (Wa := []) (L := L) (kd := kd) (σ := s32)).f ha0 es39 rfl
    have fs39_11 : (s39.1 a0 11).toInt = (s32.1 a0 11).toInt := by rw [g40.2.1 11 (by decide)]
    have fs39_12 : (s39.1 a0 12).toInt = (s32.1 a0 12).toInt := by rw [g40.2.1 12 (by decide)]
    have fs39_13 : (s39.1 a0 13).toInt = (s32.1 a0 13).toInt := by rw [g40.2.1 13 (by decide)]
    have fs39_38 : (s39.1 a0 38).toInt = (s32.1 a0 38).toInt := by rw [g40.2.1 38 (by decide)]
    have hS := hS.tr g40 (by decide) (by decide)
    have us39_36 := zp_same hI ha0 g40 36 rfl (by decide) (by decide)
    have as39_36 := us39_36.trans as32_36
    have us39_37 := zp_same hI ha0 g40 37 rfl (by decide) (by decide)
    have as39_37 := us39_37
    have us39_39 := zp_same hI ha0 g40 39 rfl (by decide) (by decide)
    have as39_39 := us39_39.trans as32_39
    have us39_40 := zp_same hI ha0 g40 40 rfl (by decide) (by decide)
    have as39_40 := us39_40.trans as32_40
    have e41 := g40.v e35 (by decide)
    have fs39_32 : (s39.1 a0 32).toInt = v38.toInt := by rw [es39]; exact congrArg _ (zu_s _ _ _ _)
    have e42 : v38 = s39.1 a0 32 := by rw [es39]; exact zm_s
    exact ret _ _ _ dX11_term_47 ⟨⟨(by omega), (by omega), (fun h0 => by first | (exfalso; omega) | (rw [as39_39, as39_40, show (s39.1 a0 38).toInt = y38 by omega]; exact ze2 (by omega))), (by first | exact zKc.eq as39_39 as39_40 | exact fun j h0 h1 => by have x := ze3 j h0 (by omega); rw [zs39, zs40] at x; rw [as39_39, as39_40]; exact x), (fun b h0 h1 => by rw [as39_36, as39_37, ws4 b h0, ws32 b h0, if_neg (by omega), if_neg (by omega)]; exact ⟨rfl, rfl⟩), (by rw [as39_36, as39_37, ws4 _ (by omega), ws32 _ (by omega), if_pos (by omega), if_pos (by omega)]; exact ⟨by omega, by omega⟩)⟩, hI, hS⟩
set_option maxHeartbeats 4000000 in
set_option maxRecDepth 100000 in
theorem t_X11_tellLaw (l : Launch) (d : zD2) (L : List Nat) (kd : Nat → Nat) (κ : Int) (σ : zS) (hI : zJ κ L kd σ) (a0 : Nat) (ha0 : zT L kd a0 11) (p1 : Int32) (hq0 : 0 ≤ p1.toInt ∧ p1.toInt ≤ 4) (hq1 : (σ.1 a0 19).toInt + (σ.1 a0 18).toInt = 1) (hq2 : 420 * (σ.1 a0 19).toInt ≤ (σ.1 a0 38).toInt ∧ (σ.1 a0 38).toInt ≤ 420 * (σ.1 a0 19).toInt + (σ.1 a0 11).toInt) (hq3 : 130 * (σ.1 a0 19).toInt ≤ (σ.1 a0 32).toInt ∧ 4 * ((σ.1 a0 32).toInt - 130 * (σ.1 a0 19).toInt) ≤ (σ.1 a0 11).toInt) (hq4 : (1 ≤ (σ.1 a0 13).toInt ∨ (σ.1 a0 12).toInt = 0)) (hgP : gP a0 σ) (hgL : gL a0 σ) : zMv l yX11_tellLaw (Cond.code yX11_tellLaw cX11_tellLaw 4 none :: zWL) 5 [.ref a0, .int p1] d L kd σ (fun σ2 => ((((σ.1 a0 11).toInt ≤ (σ2.1 a0 11).toInt ∧ (1 ≤ (σ2.1 a0 13).toInt ∨ ((σ.1 a0 13).toInt = 0 ∧ (σ2.1 a0 13).toInt = 0 ∧ (σ.1 a0 11).toInt < (σ2.1 a0 11).toInt ∧ (σ2.1 a0 12).toInt = 0 ∧ (σ.1 a0 38).toInt ≤ (σ2.1 a0 38).toInt ∧ (σ2.1 a0 38).toInt ≤ (σ.1 a0 38).toInt + (σ2.1 a0 11).toInt - (σ.1 a0 11).toInt ∧ (σ.1 a0 32).toInt ≤ (σ2.1 a0 32).toInt ∧ 4 * ((σ2.1 a0 32).toInt - (σ.1 a0 32).toInt) ≤ (σ2.1 a0 11).toInt - (σ.1 a0 11).toInt + 1)))) ∧ (((σ2.1 a0 13).toInt = 0 → gP a0 σ2)) ∧ (gL a0 σ2)) ∧ zJ κ L kd σ2 ∧ zSame a0 [11, 12, 13, 14, 32, 38, 44] [130, 131, 133, 134, 135, 136, 137, 139, 140, 143] L kd σ σ2) := by
  sorry
