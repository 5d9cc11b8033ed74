set_option maxHeartbeats 4000000 in
set_option maxRecDepth 100000 in
theorem t_X11_term (l : Launch) (d : zD2) (L : List Nat) (kd : Nat → Nat) (κ : Int) (σ : zS) (hI : zJ κ L kd σ) (a0 : Nat) (ha0 : zT L kd a0 11) (hq0 : (σ.1 a0 38).toInt ≤ 425 + (σ.1 a0 11).toInt) (hq1 : (1 ≤ (σ.1 a0 13).toInt ∨ (σ.1 a0 12).toInt = 0)) (hq2 : (σ.1 a0 32).toInt ≤ 259) : zMv l yX11_term (Cond.code yX11_term cX11_term 1 none :: zWL) 4 [.ref a0] d L kd σ (fun σ2 => ((((σ2.1 a0 32).toInt = (σ.1 a0 32).toInt + 1 ∧ (σ.1 a0 11).toInt ≤ (σ2.1 a0 11).toInt ∧ (σ.1 a0 38).toInt ≤ (σ2.1 a0 38).toInt ∧ (σ2.1 a0 38).toInt ≤ (σ.1 a0 38).toInt + (σ2.1 a0 11).toInt - (σ.1 a0 11).toInt + 1 ∧ ((σ.1 a0 13).toInt = 0 ∨ (1 ≤ (σ2.1 a0 13).toInt ∧ (σ2.1 a0 38).toInt = (σ.1 a0 38).toInt)))) ∧ ((1 ≤ (σ2.1 a0 13).toInt ∨ ((σ.1 a0 13).toInt = 0 ∧ (σ2.1 a0 13).toInt = 0 ∧ (σ2.1 a0 38).toInt ≤ (σ.1 a0 38).toInt + (σ2.1 a0 11).toInt - (σ.1 a0 11).toInt ∧ (σ.1 a0 11).toInt < (σ2.1 a0 11).toInt ∧ (σ2.1 a0 12).toInt = (σ.1 a0 12).toInt))) ∧ (((σ2.1 a0 13).toInt = 0 → gCod (zp a0 σ2 39) (zp a0 σ2 40) (σ.1 a0 38).toInt (σ2.1 a0 38).toInt)) ∧ (zKc a0 σ σ2) ∧ ((∀ b : Int, 0 ≤ b → b ≠ (σ.1 a0 32).toInt → zp a0 σ2 36 b = zp a0 σ 36 b ∧ zp a0 σ2 37 b = zp a0 σ 37 b)) ∧ ((zp a0 σ2 36 (σ.1 a0 32).toInt = (σ.1 a0 38).toInt ∧ zp a0 σ2 37 (σ.1 a0 32).toInt = (σ2.1 a0 38).toInt))) ∧ zJ κ L kd σ2 ∧ zSame a0 [11, 12, 13, 14, 32, 38, 44] [136, 137, 139, 140, 143] L kd σ σ2) := by
  refine zMv.of (own := RX11) (by decide +kernel) rfl rfl (Nat.le_of_ble_eq_true rfl) ?_
  intro p e s m args below meth c A Q X ret
  have hS : zSame a0 [11, 12, 13, 14, 32, 38, 44] [136, 137, 139, 140, 143] L kd σ σ := zSame.rf
  refine zg_lv (lv2 := [(0, .ref a0)]) rfl ?_
  have z11 : 0 ≤ (σ.1 a0 11).toInt ∧ (σ.1 a0 11).toInt ≤ 400 := zj_get hI ha0 rfl
  have z12 : 0 ≤ (σ.1 a0 12).toInt ∧ (σ.1 a0 12).toInt ≤ 7 := zj_get hI ha0 rfl
  have z13 : 0 ≤ (σ.1 a0 13).toInt ∧ (σ.1 a0 13).toInt ≤ 2147483647 := zj_get hI ha0 rfl
  have z32 : 0 ≤ (σ.1 a0 32).toInt ∧ (σ.1 a0 32).toInt ≤ 260 := zj_get hI ha0 rfl
  have z38 : 0 ≤ (σ.1 a0 38).toInt ∧ (σ.1 a0 38).toInt ≤ 840 := zj_get hI ha0 rfl
  refine zg_aload_n X 0 rfl dX11_term_0 ?_
  refine fg_X11_86 X hI ha0 dX11_term_1 (fun v1 ev1 hv1 => ?_)
  refine zg_aload_n X 0 rfl dX11_term_4 ?_
  refine fg_X11_242 X hI ha0 dX11_term_5 (fun v2 ev2 hv2 => ?_)
  have kv2 : (σ.1 a0 32).toInt = v2.toInt := by rw [ev2]
  refine zg_aload_n X 0 rfl dX11_term_8 ?_
  refine fg_X11_245 X hI ha0 dX11_term_9 (fun v3 ev3 hv3 => ?_)
  have kv3 : (σ.1 a0 38).toInt = v3.toInt := by rw [ev3]
  refine as_136 X hI hv1 (by omega) (by omega) dX11_term_12 (fun s4 es4 hI => ?_)
  have g5 := (zSame.rf (o := a0) (Wf := []) (Wa := [136]) (L := L) (kd := kd) (σ := σ)).a ha0 hv1 es4 rfl (by decide)
  have rs4 := zp_st (σ := σ) (σ2 := s4) (i := v2) (x := v3) ev1 es4 (by omega)
  have ws4 := rs4
  rw [← kv2] at ws4
  have fs4_11 : (s4.1 a0 11).toInt = (σ.1 a0 11).toInt := by rw [g5.2.1 11 (by decide)]
  have fs4_12 : (s4.1 a0 12).toInt = (σ.1 a0 12).toInt := by rw [g5.2.1 12 (by decide)]
  have fs4_13 : (s4.1 a0 13).toInt = (σ.1 a0 13).toInt := by rw [g5.2.1 13 (by decide)]
  have fs4_32 : (s4.1 a0 32).toInt = (σ.1 a0 32).toInt := by rw [g5.2.1 32 (by decide)]
  have fs4_38 : (s4.1 a0 38).toInt = (σ.1 a0 38).toInt := by rw [g5.2.1 38 (by decide)]
  have hS := hS.tr g5 (by decide) (by decide)
  have us4_37 := zp_same hI ha0 g5 37 rfl (by decide) (by decide)
  have as4_37 := us4_37
  have us4_39 := zp_same hI ha0 g5 39 rfl (by decide) (by decide)
  have as4_39 := us4_39
  have us4_40 := zp_same hI ha0 g5 40 rfl (by decide) (by decide)
  have as4_40 := us4_40
  have e6 := g5.v ev2 (by decide)
  have e7 := g5.v ev3 (by decide)
  refine zg_aload_n X 0 rfl dX11_term_13 ?_
  refine fg_X11_206 X hI ha0 dX11_term_14 (fun v8 ev8 hv8 => ?_)
  have kv8 : (s4.1 a0 13).toInt = v8.toInt := by rw [ev8]
  refine zg_if_ne X 24 dX11_term_17 (by decide) (fun c9 => ?_) (fun c9 => ?_)
  · skip
    refine zg_aload_n X 0 rfl dX11_term_24 ?_
    refine fg_X11_89 X hI ha0 dX11_term_25 (fun v10 ev10 hv10 => ?_)
    refine zg_aload_n X 0 rfl dX11_term_28 ?_
    refine fg_X11_242 X hI ha0 dX11_term_29 (fun v11 ev11 hv11 => ?_)
    have kv11 : (s4.1 a0 32).toInt = v11.toInt := by rw [ev11]
    have mv11 : v11.toInt = v2.toInt := by rw [ev11, ← e6]
    refine zg_aload_n X 0 rfl dX11_term_32 ?_
    refine fg_X11_245 X hI ha0 dX11_term_33 (fun v12 ev12 hv12 => ?_)
    have kv12 : (s4.1 a0 38).toInt = v12.toInt := by rw [ev12]
    have mv12 : v12.toInt = v3.toInt := by rw [ev12, ← e7]
    refine as_137 X hI hv10 (by omega) (by omega) dX11_term_36 (fun s13 es13 hI => ?_)
    have g14 := (zSame.rf (o := a0) (Wf := []) (Wa := [137]) (L := L) (kd := kd) (σ := s4)).a ha0 hv10 es13 rfl (by decide)
    have rs13 := zp_st (σ := s4) (σ2 := s13) (i := v11) (x := v12) ev10 es13 (by omega)
    have ws13 := rs13
    rw [as4_37] at ws13
    rw [← kv11] at ws13
    have fs13_11 : (s13.1 a0 11).toInt = (s4.1 a0 11).toInt := by rw [g14.2.1 11 (by decide)]
    have fs13_12 : (s13.1 a0 12).toInt = (s4.1 a0 12).toInt := by rw [g14.2.1 12 (by decide)]
    have fs13_13 : (s13.1 a0 13).toInt = (s4.1 a0 13).toInt := by rw [g14.2.1 13 (by decide)]
    have fs13_32 : (s13.1 a0 32).toInt = (s4.1 a0 32).toInt := by rw [g14.2.1 32 (by decide)]
    have fs13_38 : (s13.1 a0 38).toInt = (s4.1 a0 38).toInt := by rw [g14.2.1 38 (by decide)]
    have hS := hS.tr g14 (by decide) (by decide)
    have us13_36 := zp_same hI ha0 g14 36 rfl (by decide) (by decide)
    have as13_36 := us13_36
    have us13_39 := zp_same hI ha0 g14 39 rfl (by decide) (by decide)
    have as13_39 := us13_39.trans as4_39
    have us13_40 := zp_same hI ha0 g14 40 rfl (by decide) (by decide)
    have as13_40 := us13_40.trans as4_40
    have e15 := g14.v ev11 (by decide)
    have e16 := g14.v ev12 (by decide)
    have e17 := g14.v ev8 (by decide)
    refine zg_aload_n X 0 rfl dX11_term_37 ?_
    refine zg_dup X dX11_term_38 rfl ?_
    refine fg_X11_242 X hI ha0 dX11_term_39 (fun v18 ev18 hv18 => ?_)
    have kv18 : (s13.1 a0 32).toInt = v18.toInt := by rw [ev18]
    have mv18 : v18.toInt = v11.toInt := by rw [ev18, ← e15]
    refine zg_iconst X 1 dX11_term_42 (by decide) (fun v19 _ hv19 => ?_)
    refine zg_iadd X dX11_term_43 (by omega) (by omega) (fun v20 _ hv20 => ?_)
    refine fp_X11_242 X hI ha0 ⟨by omega, by omega⟩ dX11_term_44 (fun s21 es21 hI => ?_)
    have g22 := (zSame.rf (o := a0) (Wf := [32]) (Wa := []) (L := L) (kd := kd) (σ := s13)).f ha0 es21 rfl
    have fs21_11 : (s21.1 a0 11).toInt = (s13.1 a0 11).toInt := by rw [g22.2.1 11 (by decide)]
    have fs21_12 : (s21.1 a0 12).toInt = (s13.1 a0 12).toInt := by rw [g22.2.1 12 (by decide)]
    have fs21_13 : (s21.1 a0 13).toInt = (s13.1 a0 13).toInt := by rw [g22.2.1 13 (by decide)]
    have fs21_38 : (s21.1 a0 38).toInt = (s13.1 a0 38).toInt := by rw [g22.2.1 38 (by decide)]
    have hS := hS.tr g22 (by decide) (by decide)
    have us21_36 := zp_same hI ha0 g22 36 rfl (by decide) (by decide)
    have as21_36 := us21_36.trans as13_36
    have us21_37 := zp_same hI ha0 g22 37 rfl (by decide) (by decide)
    have as21_37 := us21_37
    have us21_39 := zp_same hI ha0 g22 39 rfl (by decide) (by decide)
    have as21_39 := us21_39.trans as13_39
    have us21_40 := zp_same hI ha0 g22 40 rfl (by decide) (by decide)
    have as21_40 := us21_40.trans as13_40
    have e23 := g22.v e16 (by decide)
    have e24 := g22.v e17 (by decide)
    have fs21_32 : (s21.1 a0 32).toInt = v20.toInt := by rw [es21]; exact congrArg _ (zu_s _ _ _ _)
    have e25 : v20 = s21.1 a0 32 := by rw [es21]; exact zm_s
    exact ret _ _ _ dX11_term_47 ⟨⟨(by omega), (by omega), (fun h0 => by first | (exfalso; omega) | (rw [as21_39, as21_40, show (s21.1 a0 38).toInt = y38 by omega]; exact ze2 (by omega))), (by first | exact zKc.eq as21_39 as21_40 | exact fun j h0 h1 => by have x := ze3 j h0 (by omega); rw [zs39, zs40] at x; rw [as21_39, as21_40]; exact x), (fun b h0 h1 => by rw [as21_36, as21_37, ws4 b h0, ws13 b h0, if_neg (by omega), if_neg (by omega)]; exact ⟨rfl, rfl⟩), (by rw [as21_36, as21_37, ws4 _ (by omega), ws13 _ (by omega), if_pos (by omega), if_pos (by omega)]; exact ⟨by omega, by omega⟩)⟩, hI, hS⟩
  · skip
    refine zg_aload_n X 0 rfl dX11_term_20 ?_
    have zs39 : zp a0 s4 39 = zp a0 σ 39 := as4_39
    have zs40 : zp a0 s4 40 = zp a0 σ 40 := as4_40
    refine zg_cVv (As := []) (st := []) X ha0 rfl (by decide) rfl (t_X11_expression l d L kd κ _ hI a0 ha0   (by omega) (by omega)) mk_X11_291 mc_X11_expression mz_X11 mi_X11_expression ml_X11_expression (na := 0) ⟨md_X11.1, md_X11.2, by decide +kernel⟩ rfl ⟨by decide, by decide⟩ (Nat.le_of_ble_eq_true rfl) dX11_term_21 (fun t26 hq => ?_)
    obtain ⟨⟨ht26_fact0, ht26_fact1, ht26_fact2, ht26_fact3⟩, hI, g27⟩ := hq
    have ft26_32 : (t26.1 a0 32).toInt = (s4.1 a0 32).toInt := by rw [g27.2.1 32 (by decide)]
    have hS := hS.tr g27 (by decide) (by decide)
    have ut26_36 := zp_same hI ha0 g27 36 rfl (by decide) (by decide)
    have at26_36 := ut26_36
    have ut26_37 := zp_same hI ha0 g27 37 rfl (by decide) (by decide)
    have at26_37 := ut26_37.trans as4_37
    have e28 := g27.v e6 (by decide)
    have ze2 := ht26_fact2
    have ze3 := ht26_fact3
    clear ht26_fact2 ht26_fact3
    rw [show (s4.1 a0 38).toInt = (σ.1 a0 38).toInt by omega] at ze2
    obtain ⟨y38, hy38⟩ : ∃ x : Int, x = (t26.1 a0 38).toInt := ⟨_, rfl⟩
    rw [← hy38] at ze2
    refine zg_aload_n X 0 rfl dX11_term_24 ?_
    refine fg_X11_89 X hI ha0 dX11_term_25 (fun v29 ev29 hv29 => ?_)
    refine zg_aload_n X 0 rfl dX11_term_28 ?_
    refine fg_X11_242 X hI ha0 dX11_term_29 (fun v30 ev30 hv30 => ?_)
    have kv30 : (t26.1 a0 32).toInt = v30.toInt := by rw [ev30]
    have mv30 : v30.toInt = v2.toInt := by rw [ev30, ← e28]
    refine zg_aload_n X 0 rfl dX11_term_32 ?_
    refine fg_X11_245 X hI ha0 dX11_term_33 (fun v31 ev31 hv31 => ?_)
    have kv31 : (t26.1 a0 38).toInt = v31.toInt := by rw [ev31]
    refine as_137 X hI hv29 (by omega) (by omega) dX11_term_36 (fun s32 es32 hI => ?_)
    have g33 := (zSame.rf (o := a0) (Wf := []) (Wa := [137]) (L := L) (kd := kd) (σ := t26)).a ha0 hv29 es32 rfl (by decide)
    have rs32 := zp_st (σ := t26) (σ2 := s32) (i := v30) (x := v31) ev29 es32 (by omega)
    have ws32 := rs32
    rw [at26_37] at ws32
    rw [← kv30] at ws32
    have fs32_11 : (s32.1 a0 11).toInt = (t26.1 a0 11).toInt := by rw [g33.2.1 11 (by decide)]
    have fs32_12 : (s32.1 a0 12).toInt = (t26.1 a0 12).toInt := by rw [g33.2.1 12 (by decide)]
    have fs32_13 : (s32.1 a0 13).toInt = (t26.1 a0 13).toInt := by rw [g33.2.1 13 (by decide)]
    have fs32_32 : (s32.1 a0 32).toInt = (t26.1 a0 32).toInt := by rw [g33.2.1 32 (by decide)]
    have fs32_38 : (s32.1 a0 38).toInt = (t26.1 a0 38).toInt := by rw [g33.2.1 38 (by decide)]
    have hS := hS.tr g33 (by decide) (by decide)
    have us32_36 := zp_same hI ha0 g33 36 rfl (by decide) (by decide)
    have as32_36 := us32_36.trans at26_36
    have us32_39 := zp_same hI ha0 g33 39 rfl (by decide) (by decide)
    have as32_39 := us32_39
    have us32_40 := zp_same hI ha0 g33 40 rfl (by decide) (by decide)
    have as32_40 := us32_40
    have e34 := g33.v ev30 (by decide)
    have e35 := g33.v ev31 (by decide)
    refine zg_aload_n X 0 rfl dX11_term_37 ?_
    refine zg_dup X dX11_term_38 rfl ?_
    refine fg_X11_242 X hI ha0 dX11_term_39 (fun v36 ev36 hv36 => ?_)
    have kv36 : (s32.1 a0 32).toInt = v36.toInt := by rw [ev36]
    have mv36 : v36.toInt = v30.toInt := by rw [ev36, ← e34]
    refine zg_iconst X 1 dX11_term_42 (by decide) (fun v37 _ hv37 => ?_)
    refine zg_iadd X dX11_term_43 (by omega) (by omega) (fun v38 _ hv38 => ?_)
    refine fp_X11_242 X hI ha0 ⟨by omega, by omega⟩ dX11_term_44 (fun s39 es39 hI => ?_)
    have g40 := (zSame.rf (o := a0) (Wf := [32]) (Wa := []) (L := L) (kd := kd) (σ := s32)).f ha0 es39 rfl
    have fs39_11 : (s39.1 a0 11).toInt = (s32.1 a0 11).toInt := by rw [g40.2.1 11 (by decide)]
    have fs39_12 : (s39.1 a0 12).toInt = (s32.1 a0 12).toInt := by rw [g40.2.1 12 (by decide)]
    have fs39_13 : (s39.1 a0 13).toInt = (s32.1 a0 13).toInt := by rw [g40.2.1 13 (by decide)]
    have fs39_38 : (s39.1 a0 38).toInt = (s32.1 a0 38).toInt := by rw [g40.2.1 38 (by decide)]
    have hS := hS.tr g40 (by decide) (by decide)
    have us39_36 := zp_same hI ha0 g40 36 rfl (by decide) (by decide)
    have as39_36 := us39_36.trans as32_36
    have us39_37 := zp_same hI ha0 g40 37 rfl (by decide) (by decide)
    have as39_37 := us39_37
    have us39_39 := zp_same hI ha0 g40 39 rfl (by decide) (by decide)
    have as39_39 := us39_39.trans as32_39
    have us39_40 := zp_same hI ha0 g40 40 rfl (by decide) (by decide)
    have as39_40 := us39_40.trans as32_40
    have e41 := g40.v e35 (by decide)
    have fs39_32 : (s39.1 a0 32).toInt = v38.toInt := by rw [es39]; exact congrArg _ (zu_s _ _ _ _)
    have e42 : v38 = s39.1 a0 32 := by rw [es39]; exact zm_s
    exact ret _ _ _ dX11_term_47 ⟨⟨(by omega), (by omega), (fun h0 => by first | (exfalso; omega) | (rw [as39_39, as39_40, show (s39.1 a0 38).toInt = y38 by omega]; exact ze2 (by omega))), (by first | exact zKc.eq as39_39 as39_40 | exact fun j h0 h1 => by have x := ze3 j h0 (by omega); rw [zs39, zs40] at x; rw [as39_39, as39_40]; exact x), (fun b h0 h1 => by rw [as39_36, as39_37, ws4 b h0, ws32 b h0, if_neg (by omega), if_neg (by omega)]; exact ⟨rfl, rfl⟩), (by rw [as39_36, as39_37, ws4 _ (by omega), ws32 _ (by omega), if_pos (by omega), if_pos (by omega)]; exact ⟨by omega, by omega⟩)⟩, hI, hS⟩
set_option maxHeartbeats 4000000 in
set_option maxRecDepth 100000 in
theorem t_X11_tellLaw (l : Launch) (d : zD2) (L : List Nat) (kd : Nat → Nat) (κ : Int) (σ : zS) (hI : zJ κ L kd σ) (a0 : Nat) (ha0 : zT L kd a0 11) (p1 : Int32) (hq0 : 0 ≤ p1.toInt ∧ p1.toInt ≤ 4) (hq1 : (σ.1 a0 19).toInt + (σ.1 a0 18).toInt = 1) (hq2 : 420 * (σ.1 a0 19).toInt ≤ (σ.1 a0 38).toInt ∧ (σ.1 a0 38).toInt ≤ 420 * (σ.1 a0 19).toInt + (σ.1 a0 11).toInt) (hq3 : 130 * (σ.1 a0 19).toInt ≤ (σ.1 a0 32).toInt ∧ 4 * ((σ.1 a0 32).toInt - 130 * (σ.1 a0 19).toInt) ≤ (σ.1 a0 11).toInt) (hq4 : (1 ≤ (σ.1 a0 13).toInt ∨ (σ.1 a0 12).toInt = 0)) (hgP : gP a0 σ) (hgL : gL a0 σ) : zMv l yX11_tellLaw (Cond.code yX11_tellLaw cX11_tellLaw 4 none :: zWL) 5 [.ref a0, .int p1] d L kd σ (fun σ2 => ((((σ.1 a0 11).toInt ≤ (σ2.1 a0 11).toInt ∧ (1 ≤ (σ2.1 a0 13).toInt ∨ ((σ.1 a0 13).toInt = 0 ∧ (σ2.1 a0 13).toInt = 0 ∧ (σ.1 a0 11).toInt < (σ2.1 a0 11).toInt ∧ (σ2.1 a0 12).toInt = 0 ∧ (σ.1 a0 38).toInt ≤ (σ2.1 a0 38).toInt ∧ (σ2.1 a0 38).toInt ≤ (σ.1 a0 38).toInt + (σ2.1 a0 11).toInt - (σ.1 a0 11).toInt ∧ (σ.1 a0 32).toInt ≤ (σ2.1 a0 32).toInt ∧ 4 * ((σ2.1 a0 32).toInt - (σ.1 a0 32).toInt) ≤ (σ2.1 a0 11).toInt - (σ.1 a0 11).toInt + 1)))) ∧ (((σ2.1 a0 13).toInt = 0 → gP a0 σ2)) ∧ (gL a0 σ2)) ∧ zJ κ L kd σ2 ∧ zSame a0 [11, 12, 13, 14, 32, 38, 44] [130, 131, 133, 134, 135, 136, 137, 139, 140, 143] L kd σ σ2) := by
  refine zMv.of (own := RX11) (by decide +kernel) rfl rfl (Nat.le_of_ble_eq_true rfl) ?_
  intro p e s m args below meth c A Q X ret
  have hS : zSame a0 [11, 12, 13, 14, 32, 38, 44] [130, 131, 133, 134, 135, 136, 137, 139, 140, 143] L kd σ σ := zSame.rf
  refine zg_lv (lv2 := [(0, .ref a0), (1, .int p1)]) rfl ?_
  have z11 : 0 ≤ (σ.1 a0 11).toInt ∧ (σ.1 a0 11).toInt ≤ 400 := zj_get hI ha0 rfl
  have z12 : 0 ≤ (σ.1 a0 12).toInt ∧ (σ.1 a0 12).toInt ≤ 7 := zj_get hI ha0 rfl
  have z13 : 0 ≤ (σ.1 a0 13).toInt ∧ (σ.1 a0 13).toInt ≤ 2147483647 := zj_get hI ha0 rfl
  have z18 : 0 ≤ (σ.1 a0 18).toInt ∧ (σ.1 a0 18).toInt ≤ 1 := zj_get hI ha0 rfl
  have z19 : 0 ≤ (σ.1 a0 19).toInt ∧ (σ.1 a0 19).toInt ≤ 1 := zj_get hI ha0 rfl
  have z32 : 0 ≤ (σ.1 a0 32).toInt ∧ (σ.1 a0 32).toInt ≤ 260 := zj_get hI ha0 rfl
  have z38 : 0 ≤ (σ.1 a0 38).toInt ∧ (σ.1 a0 38).toInt ≤ 840 := zj_get hI ha0 rfl
  refine zg_aload_n X 0 rfl dX11_tellLaw_0 ?_
  refine zg_iconst X 5 dX11_tellLaw_1 (by decide) (fun v1 _ hv1 => ?_)
  refine zg_cVv (As := [.int v1]) (st := []) X ha0 rfl (by decide) rfl (t_X11_must l d L kd κ _ hI a0 ha0 v1  ) mk_X11_274 mc_X11_must mz_X11 mi_X11_must ml_X11_must (na := 1) ⟨md_X11.1, md_X11.2, by decide +kernel⟩ rfl ⟨by decide, by decide⟩ (Nat.le_of_ble_eq_true rfl) dX11_tellLaw_2 (fun t2 hq => ?_)
  obtain ⟨ht2_fact0, hI, g3⟩ := hq
  have ft2_12 : (t2.1 a0 12).toInt = (σ.1 a0 12).toInt := by rw [g3.2.1 12 (by decide)]
  have ft2_18 : (t2.1 a0 18).toInt = (σ.1 a0 18).toInt := by rw [g3.2.1 18 (by decide)]
  have ft2_19 : (t2.1 a0 19).toInt = (σ.1 a0 19).toInt := by rw [g3.2.1 19 (by decide)]
  have ft2_32 : (t2.1 a0 32).toInt = (σ.1 a0 32).toInt := by rw [g3.2.1 32 (by decide)]
  have ft2_38 : (t2.1 a0 38).toInt = (σ.1 a0 38).toInt := by rw [g3.2.1 38 (by decide)]
  have hS := hS.tr g3 (by decide) (by decide)
  have ut2_30 := zp_same hI ha0 g3 30 rfl (by decide) (by decide)
  have at2_30 := ut2_30
  have ut2_31 := zp_same hI ha0 g3 31 rfl (by decide) (by decide)
  have at2_31 := ut2_31
  have ut2_33 := zp_same hI ha0 g3 33 rfl (by decide) (by decide)
  have at2_33 := ut2_33
  have ut2_34 := zp_same hI ha0 g3 34 rfl (by decide) (by decide)
  have at2_34 := ut2_34
  have ut2_35 := zp_same hI ha0 g3 35 rfl (by decide) (by decide)
  have at2_35 := ut2_35
  have ut2_36 := zp_same hI ha0 g3 36 rfl (by decide) (by decide)
  have at2_36 := ut2_36
  have ut2_37 := zp_same hI ha0 g3 37 rfl (by decide) (by decide)
  have at2_37 := ut2_37
  have ut2_39 := zp_same hI ha0 g3 39 rfl (by decide) (by decide)
  have at2_39 := ut2_39
  have ut2_40 := zp_same hI ha0 g3 40 rfl (by decide) (by decide)
  have at2_40 := ut2_40
  have gPt2 := gP.same hI ha0 g3 (by decide) hgP
  have gLt2 := gL.same hI ha0 g3 (by decide) hgL
  have z11e : 0 ≤ (t2.1 a0 11).toInt ∧ (t2.1 a0 11).toInt ≤ 400 := zj_get hI ha0 rfl
  refine zg_aload_n X 0 rfl dX11_tellLaw_5 ?_
  refine fg_X11_242 X hI ha0 dX11_tellLaw_6 (fun v4 ev4 hv4 => ?_)
  have kv4 : (t2.1 a0 32).toInt = v4.toInt := by rw [ev4]
  refine zg_istore_n X [(2, .int v4), (0, .ref a0), (1, .int p1)] dX11_tellLaw_9 (by decide) rfl ?_
  refine zg_iconst X 0 dX11_tellLaw_10 (by decide) (fun v5 _ hv5 => ?_)
  refine zg_istore_n X [(3, .int v5), (2, .int v4), (0, .ref a0), (1, .int p1)] dX11_tellLaw_11 (by decide) rfl ?_
  have Lp7 : ∀ (n : Nat) (τ7 : zS) (x6 : Int32), zJ κ L kd τ7 → zSame a0 [11, 12, 13, 14, 32, 38, 44] [130, 131, 133, 134, 135, 136, 137, 139, 140, 143] L kd σ τ7 → (τ7.1 a0 18).toInt = (σ.1 a0 18).toInt → (τ7.1 a0 19).toInt = (σ.1 a0 19).toInt → zp a0 τ7 30 = zp a0 σ 30 → zp a0 τ7 31 = zp a0 σ 31 → 0 ≤ x6.toInt ∧ x6.toInt ≤ 4 ∧ 0 ≤ x6.toInt ∧ x6.toInt ≤ 4 ∧ (τ7.1 a0 32).toInt = (σ.1 a0 32).toInt + x6.toInt ∧ (σ.1 a0 11).toInt ≤ (τ7.1 a0 11).toInt ∧ (τ7.1 a0 11).toInt ≤ 400 ∧ 0 ≤ (τ7.1 a0 13).toInt ∧ (σ.1 a0 38).toInt ≤ (τ7.1 a0 38).toInt ∧ (τ7.1 a0 38).toInt ≤ (σ.1 a0 38).toInt + (τ7.1 a0 11).toInt - (σ.1 a0 11).toInt + min (τ7.1 a0 13).toInt 1 ∧ (σ.1 a0 11).toInt + 1 + 7 * x6.toInt ≤ (τ7.1 a0 11).toInt + 40 * min (τ7.1 a0 13).toInt 1 ∧ (1 ≤ (τ7.1 a0 13).toInt ∨ ((σ.1 a0 13).toInt = 0 ∧ (τ7.1 a0 12).toInt = 0)) → 5 - x6.toInt < (n : Int) → (zKc a0 σ τ7) → (zRk a0 σ τ7 (σ.1 a0 32).toInt) → (((τ7.1 a0 13).toInt = 0 → ∀ b : Int, (σ.1 a0 32).toInt ≤ b → b < (τ7.1 a0 32).toInt → gBr a0 τ7 (420 * (σ.1 a0 19).toInt) (τ7.1 a0 38).toInt b)) → zG d L kd A 4 p l e (k2_rm 5 (100 * 5)) s m args below meth c Q τ7 12 [(3, .int x6), (2, .int v4), (0, .ref a0), (1, .int p1)] [] := by
    intro n
    induction n with
    | zero => intro τ7 x6 hI hS T18_Lp7 T19_Lp7 A30_Lp7 A31_Lp7  hxLp7 hm _ _ _ ; exact absurd hm (by omega)
    | succ n ihLp7 =>
      intro τ7 x6 hI hS T18_Lp7 T19_Lp7 A30_Lp7 A31_Lp7  hxLp7 hmLp7 hk hr hb
      refine zg_aload_n X 2 rfl dX11_tellLaw_12 ?_
      refine fg_X11_206 X hI ha0 dX11_tellLaw_13 (fun v8 ev8 hv8 => ?_)
      have kv8 : (τ7.1 a0 13).toInt = v8.toInt := by rw [ev8]
      obtain ⟨e0, he0⟩ : ∃ e : Int, e = min (τ7.1 a0 13).toInt 1 := ⟨_, rfl⟩
      rw [← he0] at hxLp7
      replace he0 : e0 ≤ 1 ∧ e0 ≤ (τ7.1 a0 13).toInt ∧ 0 ≤ e0 := by omega
      refine zg_if_ne X 129 dX11_tellLaw_16 (by decide) (fun c9 => ?_) (fun c9 => ?_)
      · skip
        refine zg_aload_n X 2 rfl dX11_tellLaw_129 ?_
        refine fg_X11_76 X hI ha0 dX11_tellLaw_130 (fun v10 ev10 hv10 => ?_)
        refine zg_aload_n X 2 rfl dX11_tellLaw_133 ?_
        refine fg_X11_242 X hI ha0 dX11_tellLaw_134 (fun v11 ev11 hv11 => ?_)
        have kv11 : (τ7.1 a0 32).toInt = v11.toInt := by rw [ev11]
        refine zg_iconst X 0 dX11_tellLaw_137 (by decide) (fun v12 _ hv12 => ?_)
        refine as_133 X hI hv10 (by omega) (by omega) ⟨by omega, by omega⟩ dX11_tellLaw_138 (fun s13 es13 hI => ?_)
        have g14 := (zSame.rf (o := a0) (Wf := []) (Wa := [133]) (L := L) (kd := kd) (σ := τ7)).a ha0 hv10 es13 rfl (by decide)
        have rs13 := zp_st (σ := τ7) (σ2 := s13) (i := v11) (x := v12) ev10 (by rw [es13, zb_nz ⟨by omega, by omega⟩]) (by omega)
        have ws13 := rs13
        rw [← kv11] at ws13
        have fs13_11 : (s13.1 a0 11).toInt = (τ7.1 a0 11).toInt := by rw [g14.2.1 11 (by decide)]
        have fs13_12 : (s13.1 a0 12).toInt = (τ7.1 a0 12).toInt := by rw [g14.2.1 12 (by decide)]
        have fs13_13 : (s13.1 a0 13).toInt = (τ7.1 a0 13).toInt := by rw [g14.2.1 13 (by decide)]
        have fs13_18 : (s13.1 a0 18).toInt = (τ7.1 a0 18).toInt := by rw [g14.2.1 18 (by decide)]
        have fs13_19 : (s13.1 a0 19).toInt = (τ7.1 a0 19).toInt := by rw [g14.2.1 19 (by decide)]
        have fs13_32 : (s13.1 a0 32).toInt = (τ7.1 a0 32).toInt := by rw [g14.2.1 32 (by decide)]
        have fs13_38 : (s13.1 a0 38).toInt = (τ7.1 a0 38).toInt := by rw [g14.2.1 38 (by decide)]
        have hS := hS.tr g14 (by decide) (by decide)
        have us13_30 := zp_same hI ha0 g14 30 rfl (by decide) (by decide)
        have as13_30 := us13_30.trans A30_Lp7
        have us13_31 := zp_same hI ha0 g14 31 rfl (by decide) (by decide)
        have as13_31 := us13_31.trans A31_Lp7
        have us13_34 := zp_same hI ha0 g14 34 rfl (by decide) (by decide)
        have as13_34 := us13_34
        have us13_35 := zp_same hI ha0 g14 35 rfl (by decide) (by decide)
        have as13_35 := us13_35
        have us13_36 := zp_same hI ha0 g14 36 rfl (by decide) (by decide)
        have as13_36 := us13_36
        have us13_37 := zp_same hI ha0 g14 37 rfl (by decide) (by decide)
        have as13_37 := us13_37
        have us13_39 := zp_same hI ha0 g14 39 rfl (by decide) (by decide)
        have as13_39 := us13_39
        have us13_40 := zp_same hI ha0 g14 40 rfl (by decide) (by decide)
        have as13_40 := us13_40
        have e15 := g14.v ev8 (by decide)
        have e16 := g14.v ev11 (by decide)
        refine zg_aload_n X 2 rfl dX11_tellLaw_139 ?_
        obtain ⟨yb, hyb⟩ : ∃ x : Int, x = (s13.1 a0 32).toInt := ⟨_, rfl⟩
        have zt36 : zp a0 s13 36 = zp a0 τ7 36 := as13_36
        have zt37 : zp a0 s13 37 = zp a0 τ7 37 := as13_37
        have zd39 : zp a0 s13 39 = zp a0 τ7 39 := as13_39
        have zd40 : zp a0 s13 40 = zp a0 τ7 40 := as13_40
        have zq3 : (s13.1 a0 38).toInt = (τ7.1 a0 38).toInt := by omega
        refine zg_cVv (As := []) (st := []) X ha0 rfl (by decide) rfl (t_X11_term l d L kd κ _ hI a0 ha0   (by omega) (by omega) (by omega)) mk_X11_294 mc_X11_term mz_X11 mi_X11_term ml_X11_term (na := 0) ⟨md_X11.1, md_X11.2, by decide +kernel⟩ rfl ⟨by decide, by decide⟩ (Nat.le_of_ble_eq_true rfl) dX11_tellLaw_140 (fun t17 hq => ?_)
        obtain ⟨⟨ht17_fact0, ht17_fact1, ht17_fact2, ht17_fact3, ht17_fact4, ht17_fact5⟩, hI, g18⟩ := hq
        have ft17_18 : (t17.1 a0 18).toInt = (s13.1 a0 18).toInt := by rw [g18.2.1 18 (by decide)]
        have ft17_19 : (t17.1 a0 19).toInt = (s13.1 a0 19).toInt := by rw [g18.2.1 19 (by decide)]
        have hS := hS.tr g18 (by decide) (by decide)
        have ut17_30 := zp_same hI ha0 g18 30 rfl (by decide) (by decide)
        have at17_30 := ut17_30.trans as13_30
        have ut17_31 := zp_same hI ha0 g18 31 rfl (by decide) (by decide)
        have at17_31 := ut17_31.trans as13_31
        have ut17_33 := zp_same hI ha0 g18 33 rfl (by decide) (by decide)
        have at17_33 := ut17_33
        have ut17_34 := zp_same hI ha0 g18 34 rfl (by decide) (by decide)
        have at17_34 := ut17_34.trans as13_34
        have ut17_35 := zp_same hI ha0 g18 35 rfl (by decide) (by decide)
        have at17_35 := ut17_35.trans as13_35
        obtain ⟨e6, qe6⟩ := zfe_ex (e := e0) (by omega) (by omega) (by omega) ht17_fact0.2 ht17_fact1
        have zB1 := ht17_fact0.1
        have zg3 := ht17_fact2
        have zx3 := ht17_fact3
        have zt4 := ht17_fact4
        have zt5 := ht17_fact5
        clear ht17_fact5 ht17_fact4 ht17_fact3 ht17_fact2
        rw [← hyb] at zt4 zt5
        rw [zt36, zt37] at zt4
        obtain ⟨f5, hf5⟩ : ∃ f : Int → Int, f = zp a0 t17 39 := ⟨_, rfl⟩
        obtain ⟨f6, hf6⟩ : ∃ f : Int → Int, f = zp a0 t17 40 := ⟨_, rfl⟩
        obtain ⟨y3, hy3⟩ : ∃ x : Int, x = (t17.1 a0 38).toInt := ⟨_, rfl⟩
        rw [zq3, ← hy3, ← hf5, ← hf6] at zg3
        rw [zq3, ← hy3] at zt5
        have zk3 : ∀ j : Int, 0 ≤ j → (j < (τ7.1 a0 38).toInt ∨ y3 ≤ j) → f5 j = zp a0 τ7 39 j ∧ f6 j = zp a0 τ7 40 j := fun j h0 h1 => by have x := zx3 j h0 (by omega); rw [zd39, zd40, ← hf5, ← hf6] at x; exact x
        refine zg_aload_n X 2 rfl dX11_tellLaw_143 ?_
        refine zg_iconst X 4 dX11_tellLaw_144 (by decide) (fun v19 _ hv19 => ?_)
        refine zg_cVv (As := [.int v19]) (st := []) X ha0 rfl (by decide) rfl (t_X11_must l d L kd κ _ hI a0 ha0 v19  ) mk_X11_274 mc_X11_must mz_X11 mi_X11_must ml_X11_must (na := 1) ⟨md_X11.1, md_X11.2, by decide +kernel⟩ rfl ⟨by decide, by decide⟩ (Nat.le_of_ble_eq_true rfl) dX11_tellLaw_145 (fun t20 hq => ?_)
        obtain ⟨ht20_fact0, hI, g21⟩ := hq
        have ft20_12 : (t20.1 a0 12).toInt = (t17.1 a0 12).toInt := by rw [g21.2.1 12 (by decide)]
        have ft20_18 : (t20.1 a0 18).toInt = (t17.1 a0 18).toInt := by rw [g21.2.1 18 (by decide)]
        have ft20_19 : (t20.1 a0 19).toInt = (t17.1 a0 19).toInt := by rw [g21.2.1 19 (by decide)]
        have ft20_32 : (t20.1 a0 32).toInt = (t17.1 a0 32).toInt := by rw [g21.2.1 32 (by decide)]
        have ft20_38 : (t20.1 a0 38).toInt = (t17.1 a0 38).toInt := by rw [g21.2.1 38 (by decide)]
        have hS := hS.tr g21 (by decide) (by decide)
        have ut20_30 := zp_same hI ha0 g21 30 rfl (by decide) (by decide)
        have at20_30 := ut20_30.trans at17_30
        have ut20_31 := zp_same hI ha0 g21 31 rfl (by decide) (by decide)
        have at20_31 := ut20_31.trans at17_31
        have ut20_33 := zp_same hI ha0 g21 33 rfl (by decide) (by decide)
        have at20_33 := ut20_33.trans at17_33
        have ut20_34 := zp_same hI ha0 g21 34 rfl (by decide) (by decide)
        have at20_34 := ut20_34.trans at17_34
        have ut20_35 := zp_same hI ha0 g21 35 rfl (by decide) (by decide)
        have at20_35 := ut20_35.trans at17_35
        have ut20_36 := zp_same hI ha0 g21 36 rfl (by decide) (by decide)
        have at20_36 := ut20_36
        have ut20_37 := zp_same hI ha0 g21 37 rfl (by decide) (by decide)
        have at20_37 := ut20_37
        have ut20_39 := zp_same hI ha0 g21 39 rfl (by decide) (by decide)
        have at20_39 := ut20_39
        have ut20_40 := zp_same hI ha0 g21 40 rfl (by decide) (by decide)
        have at20_40 := ut20_40
        refine zg_aload_n X 2 rfl dX11_tellLaw_148 ?_
        refine fg_X11_206 X hI ha0 dX11_tellLaw_149 (fun v22 ev22 hv22 => ?_)
        have kv22 : (t20.1 a0 13).toInt = v22.toInt := by rw [ev22]
        refine zg_if_le X 156 dX11_tellLaw_152 (by decide) (fun c23 => ?_) (fun c23 => ?_)
        · skip
          refine zg_aload_n X 2 rfl dX11_tellLaw_156 ?_
          refine fg_X11_70 X hI ha0 dX11_tellLaw_157 (fun v24 ev24 hv24 => ?_)
          refine zg_iconst X 5 dX11_tellLaw_160 (by decide) (fun v25 _ hv25 => ?_)
          refine zg_aload_n X 2 rfl dX11_tellLaw_161 ?_
          refine fg_X11_239 X hI ha0 dX11_tellLaw_162 (fun v26 ev26 hv26 => ?_)
          have kv26 : (t20.1 a0 19).toInt = v26.toInt := by rw [ev26]
          refine zg_imulc X 5 dX11_tellLaw_165 (by omega) (by omega) (by omega) (fun v27 hv27 => ?_)
          refine zg_iload_n X 3 rfl dX11_tellLaw_166 ?_
          refine zg_iadd X dX11_tellLaw_167 (by omega) (by omega) (fun v28 _ hv28 => ?_)
          refine zg_iload_n X 1 rfl dX11_tellLaw_168 ?_
          refine as_130 X hI hv24 (by omega) (by omega) dX11_tellLaw_169 (fun s29 es29 hI => ?_)
          have g30 := (zSame.rf (o := a0) (Wf := []) (Wa := [130]) (L := L) (kd := kd) (σ := t20)).a ha0 hv24 es29 rfl (by decide)
          have rs29 := zp_st (σ := t20) (σ2 := s29) (i := v28) (x := v4) ev24 es29 (by omega)
          have ws29 := rs29
          rw [at20_30] at ws29
          have fs29_11 : (s29.1 a0 11).toInt = (t20.1 a0 11).toInt := by rw [g30.2.1 11 (by decide)]
          have fs29_12 : (s29.1 a0 12).toInt = (t20.1 a0 12).toInt := by rw [g30.2.1 12 (by decide)]
          have fs29_13 : (s29.1 a0 13).toInt = (t20.1 a0 13).toInt := by rw [g30.2.1 13 (by decide)]
          have fs29_18 : (s29.1 a0 18).toInt = (t20.1 a0 18).toInt := by rw [g30.2.1 18 (by decide)]
          have fs29_19 : (s29.1 a0 19).toInt = (t20.1 a0 19).toInt := by rw [g30.2.1 19 (by decide)]
          have fs29_32 : (s29.1 a0 32).toInt = (t20.1 a0 32).toInt := by rw [g30.2.1 32 (by decide)]
          have fs29_38 : (s29.1 a0 38).toInt = (t20.1 a0 38).toInt := by rw [g30.2.1 38 (by decide)]
          have hS := hS.tr g30 (by decide) (by decide)
          have us29_31 := zp_same hI ha0 g30 31 rfl (by decide) (by decide)
          have as29_31 := us29_31.trans at20_31
          have us29_33 := zp_same hI ha0 g30 33 rfl (by decide) (by decide)
          have as29_33 := us29_33.trans at20_33
          have us29_34 := zp_same hI ha0 g30 34 rfl (by decide) (by decide)
          have as29_34 := us29_34.trans at20_34
          have us29_35 := zp_same hI ha0 g30 35 rfl (by decide) (by decide)
          have as29_35 := us29_35.trans at20_35
          have us29_36 := zp_same hI ha0 g30 36 rfl (by decide) (by decide)
          have as29_36 := us29_36.trans at20_36
          have us29_37 := zp_same hI ha0 g30 37 rfl (by decide) (by decide)
          have as29_37 := us29_37.trans at20_37
          have us29_39 := zp_same hI ha0 g30 39 rfl (by decide) (by decide)
          have as29_39 := us29_39.trans at20_39
          have us29_40 := zp_same hI ha0 g30 40 rfl (by decide) (by decide)
          have as29_40 := us29_40.trans at20_40
          have e31 := g30.v ev22 (by decide)
          have e32 := g30.v ev26 (by decide)
          refine zg_aload_n X 2 rfl dX11_tellLaw_170 ?_
          refine fg_X11_73 X hI ha0 dX11_tellLaw_171 (fun v33 ev33 hv33 => ?_)
          refine zg_iconst X 5 dX11_tellLaw_174 (by decide) (fun v34 _ hv34 => ?_)
          refine zg_aload_n X 2 rfl dX11_tellLaw_175 ?_
          refine fg_X11_239 X hI ha0 dX11_tellLaw_176 (fun v35 ev35 hv35 => ?_)
          have kv35 : (s29.1 a0 19).toInt = v35.toInt := by rw [ev35]
          have mv35 : v35.toInt = v26.toInt := by rw [ev35, ← e32]
          refine zg_imulc X 5 dX11_tellLaw_179 (by omega) (by omega) (by omega) (fun v36 hv36 => ?_)
          refine zg_iload_n X 3 rfl dX11_tellLaw_180 ?_
          refine zg_iadd X dX11_tellLaw_181 (by omega) (by omega) (fun v37 _ hv37 => ?_)
          refine zg_aload_n X 2 rfl dX11_tellLaw_182 ?_
          refine fg_X11_242 X hI ha0 dX11_tellLaw_183 (fun v38 ev38 hv38 => ?_)
          have kv38 : (s29.1 a0 32).toInt = v38.toInt := by rw [ev38]
          refine as_131 X hI hv33 (by omega) (by omega) dX11_tellLaw_186 (fun s39 es39 hI => ?_)
          have g40 := (zSame.rf (o := a0) (Wf := []) (Wa := [131]) (L := L) (kd := kd) (σ := s29)).a ha0 hv33 es39 rfl (by decide)
          have rs39 := zp_st (σ := s29) (σ2 := s39) (i := v37) (x := v38) ev33 es39 (by omega)
          have ws39 := rs39
          rw [as29_31] at ws39
          have fs39_11 : (s39.1 a0 11).toInt = (s29.1 a0 11).toInt := by rw [g40.2.1 11 (by decide)]
          have fs39_12 : (s39.1 a0 12).toInt = (s29.1 a0 12).toInt := by rw [g40.2.1 12 (by decide)]
          have fs39_13 : (s39.1 a0 13).toInt = (s29.1 a0 13).toInt := by rw [g40.2.1 13 (by decide)]
          have fs39_18 : (s39.1 a0 18).toInt = (s29.1 a0 18).toInt := by rw [g40.2.1 18 (by decide)]
          have fs39_19 : (s39.1 a0 19).toInt = (s29.1 a0 19).toInt := by rw [g40.2.1 19 (by decide)]
          have fs39_32 : (s39.1 a0 32).toInt = (s29.1 a0 32).toInt := by rw [g40.2.1 32 (by decide)]
          have fs39_38 : (s39.1 a0 38).toInt = (s29.1 a0 38).toInt := by rw [g40.2.1 38 (by decide)]
          have hS := hS.tr g40 (by decide) (by decide)
          have us39_30 := zp_same hI ha0 g40 30 rfl (by decide) (by decide)
          have as39_30 := us39_30
          have us39_33 := zp_same hI ha0 g40 33 rfl (by decide) (by decide)
          have as39_33 := us39_33.trans as29_33
          have us39_34 := zp_same hI ha0 g40 34 rfl (by decide) (by decide)
          have as39_34 := us39_34.trans as29_34
          have us39_35 := zp_same hI ha0 g40 35 rfl (by decide) (by decide)
          have as39_35 := us39_35.trans as29_35
          have us39_36 := zp_same hI ha0 g40 36 rfl (by decide) (by decide)
          have as39_36 := us39_36.trans as29_36
          have us39_37 := zp_same hI ha0 g40 37 rfl (by decide) (by decide)
          have as39_37 := us39_37.trans as29_37
          have us39_39 := zp_same hI ha0 g40 39 rfl (by decide) (by decide)
          have as39_39 := us39_39.trans as29_39
          have us39_40 := zp_same hI ha0 g40 40 rfl (by decide) (by decide)
          have as39_40 := us39_40.trans as29_40
          have e41 := g40.v e31 (by decide)
          have e42 := g40.v ev35 (by decide)
          have e43 := g40.v ev38 (by decide)
          have z11f : 0 ≤ (s39.1 a0 11).toInt ∧ (s39.1 a0 11).toInt ≤ 400 := zj_get hI ha0 rfl
          have zKf : zKc a0 σ s39 := fun j h0 h1 => by have y := hk j h0 (by omega); have x := zk3 j h0 (by omega); rw [as39_39, as39_40, ← hf5, ← hf6]; exact ⟨x.1.trans y.1, x.2.trans y.2⟩
          have zRf : zRk a0 σ s39 (σ.1 a0 32).toInt := fun b h0 h1 => by have y := hr b h0 h1; have x := zt4 b h0 (by omega); rw [as39_33, as39_34, as39_35, as39_36, as39_37, ws13 b h0, if_neg (by omega), x.1, x.2]; exact y
          have zLf : gL a0 s39 := gL.region hgL (s := (σ.1 a0 19).toInt) (by omega) (by omega) (by omega) zKf zRf (by omega) (by omega) (by omega) (by omega) (fun k h0 h5 => by rw [as39_30, ws29 _ (by omega), ws39 _ (by omega), if_neg (by omega), if_neg (by omega)]; exact ⟨rfl, rfl⟩)
          exact ret _ _ _ dX11_tellLaw_187 ⟨⟨(by omega), (fun hF => by
  unfold gP
  rw [show (s39.1 a0 19).toInt = (σ.1 a0 19).toInt by omega]
  intro k h0 h5
  by_cases zk : k = p1.toInt
  · rw [as39_30, ws29 _ (by omega), ws39 _ (by omega), if_pos (by omega), if_pos (by omega)]
    refine Or.inr ⟨by omega, by omega, fun b g0 g1 => ?_⟩
    by_cases z : b = yb
    · have v33 : zp a0 s39 33 b = 0 := by rw [as39_33, ws13 b (by omega), if_pos (by omega)]; omega
      have v36 : zp a0 s39 36 b = (τ7.1 a0 38).toInt := by rw [as39_36, z]; exact zt5.1
      have v37 : zp a0 s39 37 b = y3 := by rw [as39_37, z]; exact zt5.2
      unfold gBr
      rw [v33, v36, v37, as39_39, as39_40, ← hf5, ← hf6]
      exact ⟨fun q => absurd q (by decide), zg3 (by omega), by omega, by omega⟩
    · refine gBr.kept (hb (by omega) b (by omega) (by omega)) (fun j g0 g1 => by have x := zk3 j (by omega) (by omega); rw [as39_39, as39_40, ← hf5, ← hf6]; exact x) ?_ (by omega)
      have x := zt4 b (by omega) (by omega)
      rw [as39_33, as39_34, as39_35, as39_36, as39_37, ws13 b (by omega), if_neg (by omega)]
      exact ⟨rfl, rfl, rfl, x.1, x.2⟩
  · exact gLw.kept hgP (by omega) (by omega) (fun j g1 g2 => zKf j (by omega) (by omega)) (fun b g1 g2 => zRf b (by omega) (by omega)) k h0 h5 (by rw [as39_30, ws29 _ (by omega), ws39 _ (by omega), if_neg (by omega), if_neg (by omega)]; exact ⟨rfl, rfl⟩)), zLf⟩, hI, hS⟩
        · skip
          have z11f : 0 ≤ (t20.1 a0 11).toInt ∧ (t20.1 a0 11).toInt ≤ 400 := zj_get hI ha0 rfl
          have zKf : zKc a0 σ t20 := fun j h0 h1 => by have y := hk j h0 (by omega); have x := zk3 j h0 (by omega); rw [at20_39, at20_40, ← hf5, ← hf6]; exact ⟨x.1.trans y.1, x.2.trans y.2⟩
          have zRf : zRk a0 σ t20 (σ.1 a0 32).toInt := fun b h0 h1 => by have y := hr b h0 h1; have x := zt4 b h0 (by omega); rw [at20_33, at20_34, at20_35, at20_36, at20_37, ws13 b h0, if_neg (by omega), x.1, x.2]; exact y
          have zLf : gL a0 t20 := gL.region hgL (s := (σ.1 a0 19).toInt) (by omega) (by omega) (by omega) zKf zRf (by omega) (by omega) (by omega) (by omega) (fun k h0 h5 => by rw [at20_30, at20_31]; exact ⟨rfl, rfl⟩)
          exact ret _ _ _ dX11_tellLaw_155 ⟨⟨(by omega), (fun h0 => by exfalso; omega), zLf⟩, hI, hS⟩
      · skip
        refine zg_aload_n X 2 rfl dX11_tellLaw_19 ?_
        refine zg_bipush X 30 dX11_tellLaw_20 (by decide) (fun v44 _ hv44 => ?_)
        refine zg_cVi (As := [.int v44]) (st := []) X ha0 rfl (by decide) rfl (t_X11_is l d L kd κ _ hI a0 ha0 v44  ) mk_X11_224 mc_X11_is mz_X11 mi_X11_is ml_X11_is (na := 1) ⟨md_X11.1, md_X11.2, by decide +kernel⟩ rfl ⟨by decide, by decide⟩ (Nat.le_of_ble_eq_true rfl) dX11_tellLaw_22 (fun v46 t45 hq => ?_)
        obtain ⟨⟨ht45_res, ht45_fact0⟩, rfl⟩ := hq
        refine zg_if_eq X 129 dX11_tellLaw_25 (by decide) (fun c47 => ?_) (fun c47 => ?_)
        · skip
          refine zg_aload_n X 2 rfl dX11_tellLaw_129 ?_
          refine fg_X11_76 X hI ha0 dX11_tellLaw_130 (fun v48 ev48 hv48 => ?_)
          refine zg_aload_n X 2 rfl dX11_tellLaw_133 ?_
          refine fg_X11_242 X hI ha0 dX11_tellLaw_134 (fun v49 ev49 hv49 => ?_)
          have kv49 : (τ7.1 a0 32).toInt = v49.toInt := by rw [ev49]
          refine zg_iconst X 0 dX11_tellLaw_137 (by decide) (fun v50 _ hv50 => ?_)
          refine as_133 X hI hv48 (by omega) (by omega) ⟨by omega, by omega⟩ dX11_tellLaw_138 (fun s51 es51 hI => ?_)
          have g52 := (zSame.rf (o := a0) (Wf := []) (Wa := [133]) (L := L) (kd := kd) (σ := τ7)).a ha0 hv48 es51 rfl (by decide)
          have rs51 := zp_st (σ := τ7) (σ2 := s51) (i := v49) (x := v50) ev48 (by rw [es51, zb_nz ⟨by omega, by omega⟩]) (by omega)
          have ws51 := rs51
          rw [← kv49] at ws51
          have fs51_11 : (s51.1 a0 11).toInt = (τ7.1 a0 11).toInt := by rw [g52.2.1 11 (by decide)]
          have fs51_12 : (s51.1 a0 12).toInt = (τ7.1 a0 12).toInt := by rw [g52.2.1 12 (by decide)]
          have fs51_13 : (s51.1 a0 13).toInt = (τ7.1 a0 13).toInt := by rw [g52.2.1 13 (by decide)]
          have fs51_18 : (s51.1 a0 18).toInt = (τ7.1 a0 18).toInt := by rw [g52.2.1 18 (by decide)]
          have fs51_19 : (s51.1 a0 19).toInt = (τ7.1 a0 19).toInt := by rw [g52.2.1 19 (by decide)]
          have fs51_32 : (s51.1 a0 32).toInt = (τ7.1 a0 32).toInt := by rw [g52.2.1 32 (by decide)]
          have fs51_38 : (s51.1 a0 38).toInt = (τ7.1 a0 38).toInt := by rw [g52.2.1 38 (by decide)]
          have hS := hS.tr g52 (by decide) (by decide)
          have us51_30 := zp_same hI ha0 g52 30 rfl (by decide) (by decide)
          have as51_30 := us51_30.trans A30_Lp7
          have us51_31 := zp_same hI ha0 g52 31 rfl (by decide) (by decide)
          have as51_31 := us51_31.trans A31_Lp7
          have us51_34 := zp_same hI ha0 g52 34 rfl (by decide) (by decide)
          have as51_34 := us51_34
          have us51_35 := zp_same hI ha0 g52 35 rfl (by decide) (by decide)
          have as51_35 := us51_35
          have us51_36 := zp_same hI ha0 g52 36 rfl (by decide) (by decide)
          have as51_36 := us51_36
          have us51_37 := zp_same hI ha0 g52 37 rfl (by decide) (by decide)
          have as51_37 := us51_37
          have us51_39 := zp_same hI ha0 g52 39 rfl (by decide) (by decide)
          have as51_39 := us51_39
          have us51_40 := zp_same hI ha0 g52 40 rfl (by decide) (by decide)
          have as51_40 := us51_40
          have e53 := g52.v ev8 (by decide)
          have e54 := g52.v ev49 (by decide)
          refine zg_aload_n X 2 rfl dX11_tellLaw_139 ?_
          obtain ⟨yb, hyb⟩ : ∃ x : Int, x = (s51.1 a0 32).toInt := ⟨_, rfl⟩
          have zt36 : zp a0 s51 36 = zp a0 τ7 36 := as51_36
          have zt37 : zp a0 s51 37 = zp a0 τ7 37 := as51_37
          have zd39 : zp a0 s51 39 = zp a0 τ7 39 := as51_39
          have zd40 : zp a0 s51 40 = zp a0 τ7 40 := as51_40
          have zq3 : (s51.1 a0 38).toInt = (τ7.1 a0 38).toInt := by omega
          refine zg_cVv (As := []) (st := []) X ha0 rfl (by decide) rfl (t_X11_term l d L kd κ _ hI a0 ha0   (by omega) (by omega) (by omega)) mk_X11_294 mc_X11_term mz_X11 mi_X11_term ml_X11_term (na := 0) ⟨md_X11.1, md_X11.2, by decide +kernel⟩ rfl ⟨by decide, by decide⟩ (Nat.le_of_ble_eq_true rfl) dX11_tellLaw_140 (fun t55 hq => ?_)
          obtain ⟨⟨ht55_fact0, ht55_fact1, ht55_fact2, ht55_fact3, ht55_fact4, ht55_fact5⟩, hI, g56⟩ := hq
          have ft55_18 : (t55.1 a0 18).toInt = (s51.1 a0 18).toInt := by rw [g56.2.1 18 (by decide)]
          have ft55_19 : (t55.1 a0 19).toInt = (s51.1 a0 19).toInt := by rw [g56.2.1 19 (by decide)]
          have hS := hS.tr g56 (by decide) (by decide)
          have ut55_30 := zp_same hI ha0 g56 30 rfl (by decide) (by decide)
          have at55_30 := ut55_30.trans as51_30
          have ut55_31 := zp_same hI ha0 g56 31 rfl (by decide) (by decide)
          have at55_31 := ut55_31.trans as51_31
          have ut55_33 := zp_same hI ha0 g56 33 rfl (by decide) (by decide)
          have at55_33 := ut55_33
          have ut55_34 := zp_same hI ha0 g56 34 rfl (by decide) (by decide)
          have at55_34 := ut55_34.trans as51_34
          have ut55_35 := zp_same hI ha0 g56 35 rfl (by decide) (by decide)
          have at55_35 := ut55_35.trans as51_35
          obtain ⟨e6, qe6⟩ := zfe_ex (e := e0) (by omega) (by omega) (by omega) ht55_fact0.2 ht55_fact1
          have zB1 := ht55_fact0.1
          have zg3 := ht55_fact2
          have zx3 := ht55_fact3
          have zt4 := ht55_fact4
          have zt5 := ht55_fact5
          clear ht55_fact5 ht55_fact4 ht55_fact3 ht55_fact2
          rw [← hyb] at zt4 zt5
          rw [zt36, zt37] at zt4
          obtain ⟨f5, hf5⟩ : ∃ f : Int → Int, f = zp a0 t55 39 := ⟨_, rfl⟩
          obtain ⟨f6, hf6⟩ : ∃ f : Int → Int, f = zp a0 t55 40 := ⟨_, rfl⟩
          obtain ⟨y3, hy3⟩ : ∃ x : Int, x = (t55.1 a0 38).toInt := ⟨_, rfl⟩
          rw [zq3, ← hy3, ← hf5, ← hf6] at zg3
          rw [zq3, ← hy3] at zt5
          have zk3 : ∀ j : Int, 0 ≤ j → (j < (τ7.1 a0 38).toInt ∨ y3 ≤ j) → f5 j = zp a0 τ7 39 j ∧ f6 j = zp a0 τ7 40 j := fun j h0 h1 => by have x := zx3 j h0 (by omega); rw [zd39, zd40, ← hf5, ← hf6] at x; exact x
          refine zg_aload_n X 2 rfl dX11_tellLaw_143 ?_
          refine zg_iconst X 4 dX11_tellLaw_144 (by decide) (fun v57 _ hv57 => ?_)
          refine zg_cVv (As := [.int v57]) (st := []) X ha0 rfl (by decide) rfl (t_X11_must l d L kd κ _ hI a0 ha0 v57  ) mk_X11_274 mc_X11_must mz_X11 mi_X11_must ml_X11_must (na := 1) ⟨md_X11.1, md_X11.2, by decide +kernel⟩ rfl ⟨by decide, by decide⟩ (Nat.le_of_ble_eq_true rfl) dX11_tellLaw_145 (fun t58 hq => ?_)
          obtain ⟨ht58_fact0, hI, g59⟩ := hq
          have ft58_12 : (t58.1 a0 12).toInt = (t55.1 a0 12).toInt := by rw [g59.2.1 12 (by decide)]
          have ft58_18 : (t58.1 a0 18).toInt = (t55.1 a0 18).toInt := by rw [g59.2.1 18 (by decide)]
          have ft58_19 : (t58.1 a0 19).toInt = (t55.1 a0 19).toInt := by rw [g59.2.1 19 (by decide)]
          have ft58_32 : (t58.1 a0 32).toInt = (t55.1 a0 32).toInt := by rw [g59.2.1 32 (by decide)]
          have ft58_38 : (t58.1 a0 38).toInt = (t55.1 a0 38).toInt := by rw [g59.2.1 38 (by decide)]
          have hS := hS.tr g59 (by decide) (by decide)
          have ut58_30 := zp_same hI ha0 g59 30 rfl (by decide) (by decide)
          have at58_30 := ut58_30.trans at55_30
          have ut58_31 := zp_same hI ha0 g59 31 rfl (by decide) (by decide)
          have at58_31 := ut58_31.trans at55_31
          have ut58_33 := zp_same hI ha0 g59 33 rfl (by decide) (by decide)
          have at58_33 := ut58_33.trans at55_33
          have ut58_34 := zp_same hI ha0 g59 34 rfl (by decide) (by decide)
          have at58_34 := ut58_34.trans at55_34
          have ut58_35 := zp_same hI ha0 g59 35 rfl (by decide) (by decide)
          have at58_35 := ut58_35.trans at55_35
          have ut58_36 := zp_same hI ha0 g59 36 rfl (by decide) (by decide)
          have at58_36 := ut58_36
          have ut58_37 := zp_same hI ha0 g59 37 rfl (by decide) (by decide)
          have at58_37 := ut58_37
          have ut58_39 := zp_same hI ha0 g59 39 rfl (by decide) (by decide)
          have at58_39 := ut58_39
          have ut58_40 := zp_same hI ha0 g59 40 rfl (by decide) (by decide)
          have at58_40 := ut58_40
          refine zg_aload_n X 2 rfl dX11_tellLaw_148 ?_
          refine fg_X11_206 X hI ha0 dX11_tellLaw_149 (fun v60 ev60 hv60 => ?_)
          have kv60 : (t58.1 a0 13).toInt = v60.toInt := by rw [ev60]
          refine zg_if_le X 156 dX11_tellLaw_152 (by decide) (fun c61 => ?_) (fun c61 => ?_)
          · skip
            refine zg_aload_n X 2 rfl dX11_tellLaw_156 ?_
            refine fg_X11_70 X hI ha0 dX11_tellLaw_157 (fun v62 ev62 hv62 => ?_)
            refine zg_iconst X 5 dX11_tellLaw_160 (by decide) (fun v63 _ hv63 => ?_)
            refine zg_aload_n X 2 rfl dX11_tellLaw_161 ?_
            refine fg_X11_239 X hI ha0 dX11_tellLaw_162 (fun v64 ev64 hv64 => ?_)
            have kv64 : (t58.1 a0 19).toInt = v64.toInt := by rw [ev64]
            refine zg_imulc X 5 dX11_tellLaw_165 (by omega) (by omega) (by omega) (fun v65 hv65 => ?_)
            refine zg_iload_n X 3 rfl dX11_tellLaw_166 ?_
            refine zg_iadd X dX11_tellLaw_167 (by omega) (by omega) (fun v66 _ hv66 => ?_)
            refine zg_iload_n X 1 rfl dX11_tellLaw_168 ?_
            refine as_130 X hI hv62 (by omega) (by omega) dX11_tellLaw_169 (fun s67 es67 hI => ?_)
            have g68 := (zSame.rf (o := a0) (Wf := []) (Wa := [130]) (L := L) (kd := kd) (σ := t58)).a ha0 hv62 es67 rfl (by decide)
            have rs67 := zp_st (σ := t58) (σ2 := s67) (i := v66) (x := v4) ev62 es67 (by omega)
            have ws67 := rs67
            rw [at58_30] at ws67
            have fs67_11 : (s67.1 a0 11).toInt = (t58.1 a0 11).toInt := by rw [g68.2.1 11 (by decide)]
            have fs67_12 : (s67.1 a0 12).toInt = (t58.1 a0 12).toInt := by rw [g68.2.1 12 (by decide)]
            have fs67_13 : (s67.1 a0 13).toInt = (t58.1 a0 13).toInt := by rw [g68.2.1 13 (by decide)]
            have fs67_18 : (s67.1 a0 18).toInt = (t58.1 a0 18).toInt := by rw [g68.2.1 18 (by decide)]
            have fs67_19 : (s67.1 a0 19).toInt = (t58.1 a0 19).toInt := by rw [g68.2.1 19 (by decide)]
            have fs67_32 : (s67.1 a0 32).toInt = (t58.1 a0 32).toInt := by rw [g68.2.1 32 (by decide)]
            have fs67_38 : (s67.1 a0 38).toInt = (t58.1 a0 38).toInt := by rw [g68.2.1 38 (by decide)]
            have hS := hS.tr g68 (by decide) (by decide)
            have us67_31 := zp_same hI ha0 g68 31 rfl (by decide) (by decide)
            have as67_31 := us67_31.trans at58_31
            have us67_33 := zp_same hI ha0 g68 33 rfl (by decide) (by decide)
            have as67_33 := us67_33.trans at58_33
            have us67_34 := zp_same hI ha0 g68 34 rfl (by decide) (by decide)
            have as67_34 := us67_34.trans at58_34
            have us67_35 := zp_same hI ha0 g68 35 rfl (by decide) (by decide)
            have as67_35 := us67_35.trans at58_35
            have us67_36 := zp_same hI ha0 g68 36 rfl (by decide) (by decide)
            have as67_36 := us67_36.trans at58_36
            have us67_37 := zp_same hI ha0 g68 37 rfl (by decide) (by decide)
            have as67_37 := us67_37.trans at58_37
            have us67_39 := zp_same hI ha0 g68 39 rfl (by decide) (by decide)
            have as67_39 := us67_39.trans at58_39
            have us67_40 := zp_same hI ha0 g68 40 rfl (by decide) (by decide)
            have as67_40 := us67_40.trans at58_40
            have e69 := g68.v ev60 (by decide)
            have e70 := g68.v ev64 (by decide)
            refine zg_aload_n X 2 rfl dX11_tellLaw_170 ?_
            refine fg_X11_73 X hI ha0 dX11_tellLaw_171 (fun v71 ev71 hv71 => ?_)
            refine zg_iconst X 5 dX11_tellLaw_174 (by decide) (fun v72 _ hv72 => ?_)
            refine zg_aload_n X 2 rfl dX11_tellLaw_175 ?_
            refine fg_X11_239 X hI ha0 dX11_tellLaw_176 (fun v73 ev73 hv73 => ?_)
            have kv73 : (s67.1 a0 19).toInt = v73.toInt := by rw [ev73]
            have mv73 : v73.toInt = v64.toInt := by rw [ev73, ← e70]
            refine zg_imulc X 5 dX11_tellLaw_179 (by omega) (by omega) (by omega) (fun v74 hv74 => ?_)
            refine zg_iload_n X 3 rfl dX11_tellLaw_180 ?_
            refine zg_iadd X dX11_tellLaw_181 (by omega) (by omega) (fun v75 _ hv75 => ?_)
            refine zg_aload_n X 2 rfl dX11_tellLaw_182 ?_
            refine fg_X11_242 X hI ha0 dX11_tellLaw_183 (fun v76 ev76 hv76 => ?_)
            have kv76 : (s67.1 a0 32).toInt = v76.toInt := by rw [ev76]
            refine as_131 X hI hv71 (by omega) (by omega) dX11_tellLaw_186 (fun s77 es77 hI => ?_)
            have g78 := (zSame.rf (o := a0) (Wf := []) (Wa := [131]) (L := L) (kd := kd) (σ := s67)).a ha0 hv71 es77 rfl (by decide)
            have rs77 := zp_st (σ := s67) (σ2 := s77) (i := v75) (x := v76) ev71 es77 (by omega)
            have ws77 := rs77
            rw [as67_31] at ws77
            have fs77_11 : (s77.1 a0 11).toInt = (s67.1 a0 11).toInt := by rw [g78.2.1 11 (by decide)]
            have fs77_12 : (s77.1 a0 12).toInt = (s67.1 a0 12).toInt := by rw [g78.2.1 12 (by decide)]
            have fs77_13 : (s77.1 a0 13).toInt = (s67.1 a0 13).toInt := by rw [g78.2.1 13 (by decide)]
            have fs77_18 : (s77.1 a0 18).toInt = (s67.1 a0 18).toInt := by rw [g78.2.1 18 (by decide)]
            have fs77_19 : (s77.1 a0 19).toInt = (s67.1 a0 19).toInt := by rw [g78.2.1 19 (by decide)]
            have fs77_32 : (s77.1 a0 32).toInt = (s67.1 a0 32).toInt := by rw [g78.2.1 32 (by decide)]
            have fs77_38 : (s77.1 a0 38).toInt = (s67.1 a0 38).toInt := by rw [g78.2.1 38 (by decide)]
            have hS := hS.tr g78 (by decide) (by decide)
            have us77_30 := zp_same hI ha0 g78 30 rfl (by decide) (by decide)
            have as77_30 := us77_30
            have us77_33 := zp_same hI ha0 g78 33 rfl (by decide) (by decide)
            have as77_33 := us77_33.trans as67_33
            have us77_34 := zp_same hI ha0 g78 34 rfl (by decide) (by decide)
            have as77_34 := us77_34.trans as67_34
            have us77_35 := zp_same hI ha0 g78 35 rfl (by decide) (by decide)
            have as77_35 := us77_35.trans as67_35
            have us77_36 := zp_same hI ha0 g78 36 rfl (by decide) (by decide)
            have as77_36 := us77_36.trans as67_36
            have us77_37 := zp_same hI ha0 g78 37 rfl (by decide) (by decide)
            have as77_37 := us77_37.trans as67_37
            have us77_39 := zp_same hI ha0 g78 39 rfl (by decide) (by decide)
            have as77_39 := us77_39.trans as67_39
            have us77_40 := zp_same hI ha0 g78 40 rfl (by decide) (by decide)
            have as77_40 := us77_40.trans as67_40
            have e79 := g78.v e69 (by decide)
            have e80 := g78.v ev73 (by decide)
            have e81 := g78.v ev76 (by decide)
            have z11f : 0 ≤ (s77.1 a0 11).toInt ∧ (s77.1 a0 11).toInt ≤ 400 := zj_get hI ha0 rfl
            have zKf : zKc a0 σ s77 := fun j h0 h1 => by have y := hk j h0 (by omega); have x := zk3 j h0 (by omega); rw [as77_39, as77_40, ← hf5, ← hf6]; exact ⟨x.1.trans y.1, x.2.trans y.2⟩
            have zRf : zRk a0 σ s77 (σ.1 a0 32).toInt := fun b h0 h1 => by have y := hr b h0 h1; have x := zt4 b h0 (by omega); rw [as77_33, as77_34, as77_35, as77_36, as77_37, ws51 b h0, if_neg (by omega), x.1, x.2]; exact y
            have zLf : gL a0 s77 := gL.region hgL (s := (σ.1 a0 19).toInt) (by omega) (by omega) (by omega) zKf zRf (by omega) (by omega) (by omega) (by omega) (fun k h0 h5 => by rw [as77_30, ws67 _ (by omega), ws77 _ (by omega), if_neg (by omega), if_neg (by omega)]; exact ⟨rfl, rfl⟩)
            exact ret _ _ _ dX11_tellLaw_187 ⟨⟨(by omega), (fun hF => by
  unfold gP
  rw [show (s77.1 a0 19).toInt = (σ.1 a0 19).toInt by omega]
  intro k h0 h5
  by_cases zk : k = p1.toInt
  · rw [as77_30, ws67 _ (by omega), ws77 _ (by omega), if_pos (by omega), if_pos (by omega)]
    refine Or.inr ⟨by omega, by omega, fun b g0 g1 => ?_⟩
    by_cases z : b = yb
    · have v33 : zp a0 s77 33 b = 0 := by rw [as77_33, ws51 b (by omega), if_pos (by omega)]; omega
      have v36 : zp a0 s77 36 b = (τ7.1 a0 38).toInt := by rw [as77_36, z]; exact zt5.1
      have v37 : zp a0 s77 37 b = y3 := by rw [as77_37, z]; exact zt5.2
      unfold gBr
      rw [v33, v36, v37, as77_39, as77_40, ← hf5, ← hf6]
      exact ⟨fun q => absurd q (by decide), zg3 (by omega), by omega, by omega⟩
    · refine gBr.kept (hb (by omega) b (by omega) (by omega)) (fun j g0 g1 => by have x := zk3 j (by omega) (by omega); rw [as77_39, as77_40, ← hf5, ← hf6]; exact x) ?_ (by omega)
      have x := zt4 b (by omega) (by omega)
      rw [as77_33, as77_34, as77_35, as77_36, as77_37, ws51 b (by omega), if_neg (by omega)]
      exact ⟨rfl, rfl, rfl, x.1, x.2⟩
  · exact gLw.kept hgP (by omega) (by omega) (fun j g1 g2 => zKf j (by omega) (by omega)) (fun b g1 g2 => zRf b (by omega) (by omega)) k h0 h5 (by rw [as77_30, ws67 _ (by omega), ws77 _ (by omega), if_neg (by omega), if_neg (by omega)]; exact ⟨rfl, rfl⟩)), zLf⟩, hI, hS⟩
          · skip
            have z11f : 0 ≤ (t58.1 a0 11).toInt ∧ (t58.1 a0 11).toInt ≤ 400 := zj_get hI ha0 rfl
            have zKf : zKc a0 σ t58 := fun j h0 h1 => by have y := hk j h0 (by omega); have x := zk3 j h0 (by omega); rw [at58_39, at58_40, ← hf5, ← hf6]; exact ⟨x.1.trans y.1, x.2.trans y.2⟩
            have zRf : zRk a0 σ t58 (σ.1 a0 32).toInt := fun b h0 h1 => by have y := hr b h0 h1; have x := zt4 b h0 (by omega); rw [at58_33, at58_34, at58_35, at58_36, at58_37, ws51 b h0, if_neg (by omega), x.1, x.2]; exact y
            have zLf : gL a0 t58 := gL.region hgL (s := (σ.1 a0 19).toInt) (by omega) (by omega) (by omega) zKf zRf (by omega) (by omega) (by omega) (by omega) (fun k h0 h5 => by rw [at58_30, at58_31]; exact ⟨rfl, rfl⟩)
            exact ret _ _ _ dX11_tellLaw_155 ⟨⟨(by omega), (fun h0 => by exfalso; omega), zLf⟩, hI, hS⟩
        · skip
          have zF : (τ7.1 a0 13).toInt = 0 := by omega
          refine zg_iload_n X 0 rfl dX11_tellLaw_28 ?_
          refine zg_iconst X 4 dX11_tellLaw_29 (by decide) (fun v82 _ hv82 => ?_)
          refine zg_icmp_ne X 38 dX11_tellLaw_30 (by decide) (fun c83 => ?_) (fun c83 => ?_)
          · skip
            refine zg_aload_n X 2 rfl dX11_tellLaw_38 ?_
            refine fg_X11_206 X hI ha0 dX11_tellLaw_39 (fun v84 ev84 hv84 => ?_)
            have kv84 : (τ7.1 a0 13).toInt = v84.toInt := by rw [ev84]
            have mv84 : v84.toInt = v8.toInt := by rw [ev84, ← ev8]
            refine zg_if_le X 46 dX11_tellLaw_42 (by decide) (fun c85 => ?_) (fun c85 => ?_)
            · skip
              refine zg_iinc X 1 (fun v86 => [(3, .int v86), (2, .int v4), (0, .ref a0), (1, .int p1)]) 0 dX11_tellLaw_46 rfl (by decide) (by decide) (by omega) (by omega) (fun _ => rfl) (fun v86 _ hv86 => ?_)
              refine zg_aload_n X 2 rfl dX11_tellLaw_49 ?_
              refine zg_cVv (As := []) (st := []) X ha0 rfl (by decide) rfl (t_X11_goesOn l d L kd κ _ hI a0 ha0   ) mk_X11_227 mc_X11_goesOn mz_X11 mi_X11_goesOn ml_X11_goesOn (na := 0) ⟨md_X11.1, md_X11.2, by decide +kernel⟩ rfl ⟨by decide, by decide⟩ (Nat.le_of_ble_eq_true rfl) dX11_tellLaw_50 (fun t87 hq => ?_)
              obtain ⟨ht87_fact0, hI, g88⟩ := hq
              have ft87_12 : (t87.1 a0 12).toInt = (τ7.1 a0 12).toInt := by rw [g88.2.1 12 (by decide)]
              have ft87_18 : (t87.1 a0 18).toInt = (τ7.1 a0 18).toInt := by rw [g88.2.1 18 (by decide)]
              have ft87_19 : (t87.1 a0 19).toInt = (τ7.1 a0 19).toInt := by rw [g88.2.1 19 (by decide)]
              have ft87_32 : (t87.1 a0 32).toInt = (τ7.1 a0 32).toInt := by rw [g88.2.1 32 (by decide)]
              have ft87_38 : (t87.1 a0 38).toInt = (τ7.1 a0 38).toInt := by rw [g88.2.1 38 (by decide)]
              have hS := hS.tr g88 (by decide) (by decide)
              have ut87_30 := zp_same hI ha0 g88 30 rfl (by decide) (by decide)
              have at87_30 := ut87_30.trans A30_Lp7
              have ut87_31 := zp_same hI ha0 g88 31 rfl (by decide) (by decide)
              have at87_31 := ut87_31.trans A31_Lp7
              have ut87_33 := zp_same hI ha0 g88 33 rfl (by decide) (by decide)
              have at87_33 := ut87_33
              have ut87_34 := zp_same hI ha0 g88 34 rfl (by decide) (by decide)
              have at87_34 := ut87_34
              have ut87_35 := zp_same hI ha0 g88 35 rfl (by decide) (by decide)
              have at87_35 := ut87_35
              have ut87_36 := zp_same hI ha0 g88 36 rfl (by decide) (by decide)
              have at87_36 := ut87_36
              have ut87_37 := zp_same hI ha0 g88 37 rfl (by decide) (by decide)
              have at87_37 := ut87_37
              have ut87_39 := zp_same hI ha0 g88 39 rfl (by decide) (by decide)
              have at87_39 := ut87_39
              have ut87_40 := zp_same hI ha0 g88 40 rfl (by decide) (by decide)
              have at87_40 := ut87_40
              obtain ⟨e1, qe1⟩ := zfe_go (e := e0) (by omega) (by omega) (by omega) ht87_fact0
              clear ht87_fact0
              refine zg_aload_n X 2 rfl dX11_tellLaw_53 ?_
              refine fg_X11_76 X hI ha0 dX11_tellLaw_54 (fun v89 ev89 hv89 => ?_)
              refine zg_aload_n X 2 rfl dX11_tellLaw_57 ?_
              refine fg_X11_242 X hI ha0 dX11_tellLaw_58 (fun v90 ev90 hv90 => ?_)
              have kv90 : (t87.1 a0 32).toInt = v90.toInt := by rw [ev90]
              refine zg_iconst X 1 dX11_tellLaw_61 (by decide) (fun v91 _ hv91 => ?_)
              refine as_133 X hI hv89 (by omega) (by omega) ⟨by omega, by omega⟩ dX11_tellLaw_62 (fun s92 es92 hI => ?_)
              have g93 := (zSame.rf (o := a0) (Wf := []) (Wa := [133]) (L := L) (kd := kd) (σ := t87)).a ha0 hv89 es92 rfl (by decide)
              have rs92 := zp_st (σ := t87) (σ2 := s92) (i := v90) (x := v91) ev89 (by rw [es92, zb_nz ⟨by omega, by omega⟩]) (by omega)
              have ws92 := rs92
              rw [at87_33] at ws92
              rw [← kv90] at ws92
              have fs92_11 : (s92.1 a0 11).toInt = (t87.1 a0 11).toInt := by rw [g93.2.1 11 (by decide)]
              have fs92_12 : (s92.1 a0 12).toInt = (t87.1 a0 12).toInt := by rw [g93.2.1 12 (by decide)]
              have fs92_13 : (s92.1 a0 13).toInt = (t87.1 a0 13).toInt := by rw [g93.2.1 13 (by decide)]
              have fs92_18 : (s92.1 a0 18).toInt = (t87.1 a0 18).toInt := by rw [g93.2.1 18 (by decide)]
              have fs92_19 : (s92.1 a0 19).toInt = (t87.1 a0 19).toInt := by rw [g93.2.1 19 (by decide)]
              have fs92_32 : (s92.1 a0 32).toInt = (t87.1 a0 32).toInt := by rw [g93.2.1 32 (by decide)]
              have fs92_38 : (s92.1 a0 38).toInt = (t87.1 a0 38).toInt := by rw [g93.2.1 38 (by decide)]
              have hS := hS.tr g93 (by decide) (by decide)
              have us92_30 := zp_same hI ha0 g93 30 rfl (by decide) (by decide)
              have as92_30 := us92_30.trans at87_30
              have us92_31 := zp_same hI ha0 g93 31 rfl (by decide) (by decide)
              have as92_31 := us92_31.trans at87_31
              have us92_34 := zp_same hI ha0 g93 34 rfl (by decide) (by decide)
              have as92_34 := us92_34.trans at87_34
              have us92_35 := zp_same hI ha0 g93 35 rfl (by decide) (by decide)
              have as92_35 := us92_35.trans at87_35
              have us92_36 := zp_same hI ha0 g93 36 rfl (by decide) (by decide)
              have as92_36 := us92_36.trans at87_36
              have us92_37 := zp_same hI ha0 g93 37 rfl (by decide) (by decide)
              have as92_37 := us92_37.trans at87_37
              have us92_39 := zp_same hI ha0 g93 39 rfl (by decide) (by decide)
              have as92_39 := us92_39.trans at87_39
              have us92_40 := zp_same hI ha0 g93 40 rfl (by decide) (by decide)
              have as92_40 := us92_40.trans at87_40
              have e94 := g93.v ev90 (by decide)
              refine zg_aload_n X 2 rfl dX11_tellLaw_63 ?_
              refine fg_X11_80 X hI ha0 dX11_tellLaw_64 (fun v95 ev95 hv95 => ?_)
              refine zg_aload_n X 2 rfl dX11_tellLaw_67 ?_
              refine fg_X11_242 X hI ha0 dX11_tellLaw_68 (fun v96 ev96 hv96 => ?_)
              have kv96 : (s92.1 a0 32).toInt = v96.toInt := by rw [ev96]
              have mv96 : v96.toInt = v90.toInt := by rw [ev96, ← e94]
              refine zg_aload_n X 2 rfl dX11_tellLaw_71 ?_
              refine fg_X11_245 X hI ha0 dX11_tellLaw_72 (fun v97 ev97 hv97 => ?_)
              have kv97 : (s92.1 a0 38).toInt = v97.toInt := by rw [ev97]
              refine as_134 X hI hv95 (by omega) (by omega) dX11_tellLaw_75 (fun s98 es98 hI => ?_)
              have g99 := (zSame.rf (o := a0) (Wf := []) (Wa := [134]) (L := L) (kd := kd) (σ := s92)).a ha0 hv95 es98 rfl (by decide)
              have rs98 := zp_st (σ := s92) (σ2 := s98) (i := v96) (x := v97) ev95 es98 (by omega)
              have ws98 := rs98
              rw [as92_34] at ws98
              rw [← kv96] at ws98
              have fs98_11 : (s98.1 a0 11).toInt = (s92.1 a0 11).toInt := by rw [g99.2.1 11 (by decide)]
              have fs98_12 : (s98.1 a0 12).toInt = (s92.1 a0 12).toInt := by rw [g99.2.1 12 (by decide)]
              have fs98_13 : (s98.1 a0 13).toInt = (s92.1 a0 13).toInt := by rw [g99.2.1 13 (by decide)]
              have fs98_18 : (s98.1 a0 18).toInt = (s92.1 a0 18).toInt := by rw [g99.2.1 18 (by decide)]
              have fs98_19 : (s98.1 a0 19).toInt = (s92.1 a0 19).toInt := by rw [g99.2.1 19 (by decide)]
              have fs98_32 : (s98.1 a0 32).toInt = (s92.1 a0 32).toInt := by rw [g99.2.1 32 (by decide)]
              have fs98_38 : (s98.1 a0 38).toInt = (s92.1 a0 38).toInt := by rw [g99.2.1 38 (by decide)]
              have hS := hS.tr g99 (by decide) (by decide)
              have us98_30 := zp_same hI ha0 g99 30 rfl (by decide) (by decide)
              have as98_30 := us98_30.trans as92_30
              have us98_31 := zp_same hI ha0 g99 31 rfl (by decide) (by decide)
              have as98_31 := us98_31.trans as92_31
              have us98_33 := zp_same hI ha0 g99 33 rfl (by decide) (by decide)
              have as98_33 := us98_33
              have us98_35 := zp_same hI ha0 g99 35 rfl (by decide) (by decide)
              have as98_35 := us98_35.trans as92_35
              have us98_36 := zp_same hI ha0 g99 36 rfl (by decide) (by decide)
              have as98_36 := us98_36.trans as92_36
              have us98_37 := zp_same hI ha0 g99 37 rfl (by decide) (by decide)
              have as98_37 := us98_37.trans as92_37
              have us98_39 := zp_same hI ha0 g99 39 rfl (by decide) (by decide)
              have as98_39 := us98_39.trans as92_39
              have us98_40 := zp_same hI ha0 g99 40 rfl (by decide) (by decide)
              have as98_40 := us98_40.trans as92_40
              have e100 := g99.v ev96 (by decide)
              have e101 := g99.v ev97 (by decide)
              refine zg_aload_n X 2 rfl dX11_tellLaw_76 ?_
              have za39 : zp a0 s98 39 = zp a0 τ7 39 := as98_39
              have za40 : zp a0 s98 40 = zp a0 τ7 40 := as98_40
              have zq1 : (s98.1 a0 38).toInt = (τ7.1 a0 38).toInt := by omega
              refine zg_cVv (As := []) (st := []) X ha0 rfl (by decide) rfl (t_X11_expression l d L kd κ _ hI a0 ha0   (by omega) (by omega)) mk_X11_291 mc_X11_expression mz_X11 mi_X11_expression ml_X11_expression (na := 0) ⟨md_X11.1, md_X11.2, by decide +kernel⟩ rfl ⟨by decide, by decide⟩ (Nat.le_of_ble_eq_true rfl) dX11_tellLaw_77 (fun t102 hq => ?_)
              obtain ⟨⟨ht102_fact0, ht102_fact1, ht102_fact2, ht102_fact3⟩, hI, g103⟩ := hq
              have ft102_18 : (t102.1 a0 18).toInt = (s98.1 a0 18).toInt := by rw [g103.2.1 18 (by decide)]
              have ft102_19 : (t102.1 a0 19).toInt = (s98.1 a0 19).toInt := by rw [g103.2.1 19 (by decide)]
              have ft102_32 : (t102.1 a0 32).toInt = (s98.1 a0 32).toInt := by rw [g103.2.1 32 (by decide)]
              have hS := hS.tr g103 (by decide) (by decide)
              have ut102_30 := zp_same hI ha0 g103 30 rfl (by decide) (by decide)
              have at102_30 := ut102_30.trans as98_30
              have ut102_31 := zp_same hI ha0 g103 31 rfl (by decide) (by decide)
              have at102_31 := ut102_31.trans as98_31
              have ut102_33 := zp_same hI ha0 g103 33 rfl (by decide) (by decide)
              have at102_33 := ut102_33.trans as98_33
              have ut102_34 := zp_same hI ha0 g103 34 rfl (by decide) (by decide)
              have at102_34 := ut102_34
              have ut102_35 := zp_same hI ha0 g103 35 rfl (by decide) (by decide)
              have at102_35 := ut102_35.trans as98_35
              have ut102_36 := zp_same hI ha0 g103 36 rfl (by decide) (by decide)
              have at102_36 := ut102_36.trans as98_36
              have ut102_37 := zp_same hI ha0 g103 37 rfl (by decide) (by decide)
              have at102_37 := ut102_37.trans as98_37
              have e104 := g103.v e100 (by decide)
              obtain ⟨e2, qe2⟩ := zfe_ex (e := e1) (by omega) (by omega) (by omega) ht102_fact0 ht102_fact1
              have zg1 := ht102_fact2
              have zx1 := ht102_fact3
              clear ht102_fact3 ht102_fact2
              obtain ⟨f1, hf1⟩ : ∃ f : Int → Int, f = zp a0 t102 39 := ⟨_, rfl⟩
              obtain ⟨f2, hf2⟩ : ∃ f : Int → Int, f = zp a0 t102 40 := ⟨_, rfl⟩
              obtain ⟨y1, hy1⟩ : ∃ x : Int, x = (t102.1 a0 38).toInt := ⟨_, rfl⟩
              have zk1 : ∀ j : Int, 0 ≤ j → (j < (τ7.1 a0 38).toInt ∨ y1 ≤ j) → f1 j = zp a0 τ7 39 j ∧ f2 j = zp a0 τ7 40 j := fun j h0 h1 => by have x := zx1 j h0 (by omega); rw [za39, za40, ← hf1, ← hf2] at x; exact x
              rw [zq1, ← hy1, ← hf1, ← hf2] at zg1
              refine zg_aload_n X 2 rfl dX11_tellLaw_80 ?_
              refine zg_bipush X 13 dX11_tellLaw_81 (by decide) (fun v105 _ hv105 => ?_)
              refine zg_cVv (As := [.int v105]) (st := []) X ha0 rfl (by decide) rfl (t_X11_must l d L kd κ _ hI a0 ha0 v105  ) mk_X11_274 mc_X11_must mz_X11 mi_X11_must ml_X11_must (na := 1) ⟨md_X11.1, md_X11.2, by decide +kernel⟩ rfl ⟨by decide, by decide⟩ (Nat.le_of_ble_eq_true rfl) dX11_tellLaw_83 (fun t106 hq => ?_)
              obtain ⟨ht106_fact0, hI, g107⟩ := hq
              have ft106_12 : (t106.1 a0 12).toInt = (t102.1 a0 12).toInt := by rw [g107.2.1 12 (by decide)]
              have ft106_18 : (t106.1 a0 18).toInt = (t102.1 a0 18).toInt := by rw [g107.2.1 18 (by decide)]
              have ft106_19 : (t106.1 a0 19).toInt = (t102.1 a0 19).toInt := by rw [g107.2.1 19 (by decide)]
              have ft106_32 : (t106.1 a0 32).toInt = (t102.1 a0 32).toInt := by rw [g107.2.1 32 (by decide)]
              have ft106_38 : (t106.1 a0 38).toInt = (t102.1 a0 38).toInt := by rw [g107.2.1 38 (by decide)]
              have hS := hS.tr g107 (by decide) (by decide)
              have ut106_30 := zp_same hI ha0 g107 30 rfl (by decide) (by decide)
              have at106_30 := ut106_30.trans at102_30
              have ut106_31 := zp_same hI ha0 g107 31 rfl (by decide) (by decide)
              have at106_31 := ut106_31.trans at102_31
              have ut106_33 := zp_same hI ha0 g107 33 rfl (by decide) (by decide)
              have at106_33 := ut106_33.trans at102_33
              have ut106_34 := zp_same hI ha0 g107 34 rfl (by decide) (by decide)
              have at106_34 := ut106_34.trans at102_34
              have ut106_35 := zp_same hI ha0 g107 35 rfl (by decide) (by decide)
              have at106_35 := ut106_35.trans at102_35
              have ut106_36 := zp_same hI ha0 g107 36 rfl (by decide) (by decide)
              have at106_36 := ut106_36.trans at102_36
              have ut106_37 := zp_same hI ha0 g107 37 rfl (by decide) (by decide)
              have at106_37 := ut106_37.trans at102_37
              have ut106_39 := zp_same hI ha0 g107 39 rfl (by decide) (by decide)
              have at106_39 := ut106_39
              have ut106_40 := zp_same hI ha0 g107 40 rfl (by decide) (by decide)
              have at106_40 := ut106_40
              have e108 := g107.v e104 (by decide)
              obtain ⟨e3, qe3⟩ := zfe_must (e := e2) (by omega) (by omega) ht106_fact0
              refine zg_aload_n X 2 rfl dX11_tellLaw_86 ?_
              refine fg_X11_83 X hI ha0 dX11_tellLaw_87 (fun v109 ev109 hv109 => ?_)
              refine zg_aload_n X 2 rfl dX11_tellLaw_90 ?_
              refine fg_X11_242 X hI ha0 dX11_tellLaw_91 (fun v110 ev110 hv110 => ?_)
              have kv110 : (t106.1 a0 32).toInt = v110.toInt := by rw [ev110]
              have mv110 : v110.toInt = v96.toInt := by rw [ev110, ← e108]
              refine zg_aload_n X 2 rfl dX11_tellLaw_94 ?_
              refine fg_X11_245 X hI ha0 dX11_tellLaw_95 (fun v111 ev111 hv111 => ?_)
              have kv111 : (t106.1 a0 38).toInt = v111.toInt := by rw [ev111]
              refine as_135 X hI hv109 (by omega) (by omega) dX11_tellLaw_98 (fun s112 es112 hI => ?_)
              have g113 := (zSame.rf (o := a0) (Wf := []) (Wa := [135]) (L := L) (kd := kd) (σ := t106)).a ha0 hv109 es112 rfl (by decide)
              have rs112 := zp_st (σ := t106) (σ2 := s112) (i := v110) (x := v111) ev109 es112 (by omega)
              have ws112 := rs112
              rw [at106_35] at ws112
              rw [← kv110] at ws112
              have fs112_11 : (s112.1 a0 11).toInt = (t106.1 a0 11).toInt := by rw [g113.2.1 11 (by decide)]
              have fs112_12 : (s112.1 a0 12).toInt = (t106.1 a0 12).toInt := by rw [g113.2.1 12 (by decide)]
              have fs112_13 : (s112.1 a0 13).toInt = (t106.1 a0 13).toInt := by rw [g113.2.1 13 (by decide)]
              have fs112_18 : (s112.1 a0 18).toInt = (t106.1 a0 18).toInt := by rw [g113.2.1 18 (by decide)]
              have fs112_19 : (s112.1 a0 19).toInt = (t106.1 a0 19).toInt := by rw [g113.2.1 19 (by decide)]
              have fs112_32 : (s112.1 a0 32).toInt = (t106.1 a0 32).toInt := by rw [g113.2.1 32 (by decide)]
              have fs112_38 : (s112.1 a0 38).toInt = (t106.1 a0 38).toInt := by rw [g113.2.1 38 (by decide)]
              have hS := hS.tr g113 (by decide) (by decide)
              have us112_30 := zp_same hI ha0 g113 30 rfl (by decide) (by decide)
              have as112_30 := us112_30.trans at106_30
              have us112_31 := zp_same hI ha0 g113 31 rfl (by decide) (by decide)
              have as112_31 := us112_31.trans at106_31
              have us112_33 := zp_same hI ha0 g113 33 rfl (by decide) (by decide)
              have as112_33 := us112_33.trans at106_33
              have us112_34 := zp_same hI ha0 g113 34 rfl (by decide) (by decide)
              have as112_34 := us112_34.trans at106_34
              have us112_36 := zp_same hI ha0 g113 36 rfl (by decide) (by decide)
              have as112_36 := us112_36.trans at106_36
              have us112_37 := zp_same hI ha0 g113 37 rfl (by decide) (by decide)
              have as112_37 := us112_37.trans at106_37
              have us112_39 := zp_same hI ha0 g113 39 rfl (by decide) (by decide)
              have as112_39 := us112_39.trans at106_39
              have us112_40 := zp_same hI ha0 g113 40 rfl (by decide) (by decide)
              have as112_40 := us112_40.trans at106_40
              have e114 := g113.v ev110 (by decide)
              have e115 := g113.v ev111 (by decide)
              refine zg_aload_n X 2 rfl dX11_tellLaw_99 ?_
              refine fg_X11_206 X hI ha0 dX11_tellLaw_100 (fun v116 ev116 hv116 => ?_)
              have kv116 : (s112.1 a0 13).toInt = v116.toInt := by rw [ev116]
              refine zg_if_ne X 110 dX11_tellLaw_103 (by decide) (fun c117 => ?_) (fun c117 => ?_)
              · skip
                obtain ⟨e4, qe4⟩ : ∃ e : Int, e = e3 := ⟨_, rfl⟩
                obtain ⟨f3, hf3⟩ : ∃ f : Int → Int, f = f1 := ⟨_, rfl⟩
                obtain ⟨f4, hf4⟩ : ∃ f : Int → Int, f = f2 := ⟨_, rfl⟩
                have zk2 : ∀ j : Int, 0 ≤ j → (j < (τ7.1 a0 38).toInt ∨ y1 ≤ j) → f3 j = zp a0 τ7 39 j ∧ f4 j = zp a0 τ7 40 j := fun j h0 h1 => by rw [hf3, hf4]; exact zk1 j h0 h1
                obtain ⟨y2, hy2⟩ : ∃ x : Int, x = y1 := ⟨_, rfl⟩
                refine zg_aload_n X 2 rfl dX11_tellLaw_110 ?_
                refine zg_bipush X 31 dX11_tellLaw_111 (by decide) (fun v118 _ hv118 => ?_)
                refine zg_cVv (As := [.int v118]) (st := []) X ha0 rfl (by decide) rfl (t_X11_must l d L kd κ _ hI a0 ha0 v118  ) mk_X11_274 mc_X11_must mz_X11 mi_X11_must ml_X11_must (na := 1) ⟨md_X11.1, md_X11.2, by decide +kernel⟩ rfl ⟨by decide, by decide⟩ (Nat.le_of_ble_eq_true rfl) dX11_tellLaw_113 (fun t119 hq => ?_)
                obtain ⟨ht119_fact0, hI, g120⟩ := hq
                have ft119_12 : (t119.1 a0 12).toInt = (s112.1 a0 12).toInt := by rw [g120.2.1 12 (by decide)]
                have ft119_18 : (t119.1 a0 18).toInt = (s112.1 a0 18).toInt := by rw [g120.2.1 18 (by decide)]
                have ft119_19 : (t119.1 a0 19).toInt = (s112.1 a0 19).toInt := by rw [g120.2.1 19 (by decide)]
                have ft119_32 : (t119.1 a0 32).toInt = (s112.1 a0 32).toInt := by rw [g120.2.1 32 (by decide)]
                have ft119_38 : (t119.1 a0 38).toInt = (s112.1 a0 38).toInt := by rw [g120.2.1 38 (by decide)]
                have hS := hS.tr g120 (by decide) (by decide)
                have ut119_30 := zp_same hI ha0 g120 30 rfl (by decide) (by decide)
                have at119_30 := ut119_30.trans as112_30
                have ut119_31 := zp_same hI ha0 g120 31 rfl (by decide) (by decide)
                have at119_31 := ut119_31.trans as112_31
                have ut119_33 := zp_same hI ha0 g120 33 rfl (by decide) (by decide)
                have at119_33 := ut119_33.trans as112_33
                have ut119_34 := zp_same hI ha0 g120 34 rfl (by decide) (by decide)
                have at119_34 := ut119_34.trans as112_34
                have ut119_35 := zp_same hI ha0 g120 35 rfl (by decide) (by decide)
                have at119_35 := ut119_35
                have ut119_36 := zp_same hI ha0 g120 36 rfl (by decide) (by decide)
                have at119_36 := ut119_36.trans as112_36
                have ut119_37 := zp_same hI ha0 g120 37 rfl (by decide) (by decide)
                have at119_37 := ut119_37.trans as112_37
                have ut119_39 := zp_same hI ha0 g120 39 rfl (by decide) (by decide)
                have at119_39 := ut119_39.trans as112_39
                have ut119_40 := zp_same hI ha0 g120 40 rfl (by decide) (by decide)
                have at119_40 := ut119_40.trans as112_40
                have e121 := g120.v e114 (by decide)
                have e122 := g120.v e115 (by decide)
                obtain ⟨e5, qe5⟩ := zfe_must (e := e4) (by omega) (by omega) ht119_fact0
                refine zg_aload_n X 2 rfl dX11_tellLaw_116 ?_
                obtain ⟨yb, hyb⟩ : ∃ x : Int, x = (t119.1 a0 32).toInt := ⟨_, rfl⟩
                have zt36 : zp a0 t119 36 = zp a0 τ7 36 := at119_36
                have zt37 : zp a0 t119 37 = zp a0 τ7 37 := at119_37
                have zd39 : zp a0 t119 39 = f3 := by rw [at119_39]; first | exact hf3.symm | (rw [hf3]; exact hf1.symm)
                have zd40 : zp a0 t119 40 = f4 := by rw [at119_40]; first | exact hf4.symm | (rw [hf4]; exact hf2.symm)
                have zq3 : (t119.1 a0 38).toInt = y2 := by omega
                refine zg_cVv (As := []) (st := []) X ha0 rfl (by decide) rfl (t_X11_term l d L kd κ _ hI a0 ha0   (by omega) (by omega) (by omega)) mk_X11_294 mc_X11_term mz_X11 mi_X11_term ml_X11_term (na := 0) ⟨md_X11.1, md_X11.2, by decide +kernel⟩ rfl ⟨by decide, by decide⟩ (Nat.le_of_ble_eq_true rfl) dX11_tellLaw_117 (fun t123 hq => ?_)
                obtain ⟨⟨ht123_fact0, ht123_fact1, ht123_fact2, ht123_fact3, ht123_fact4, ht123_fact5⟩, hI, g124⟩ := hq
                have ft123_18 : (t123.1 a0 18).toInt = (t119.1 a0 18).toInt := by rw [g124.2.1 18 (by decide)]
                have ft123_19 : (t123.1 a0 19).toInt = (t119.1 a0 19).toInt := by rw [g124.2.1 19 (by decide)]
                have hS := hS.tr g124 (by decide) (by decide)
                have ut123_30 := zp_same hI ha0 g124 30 rfl (by decide) (by decide)
                have at123_30 := ut123_30.trans at119_30
                have ut123_31 := zp_same hI ha0 g124 31 rfl (by decide) (by decide)
                have at123_31 := ut123_31.trans at119_31
                have ut123_33 := zp_same hI ha0 g124 33 rfl (by decide) (by decide)
                have at123_33 := ut123_33.trans at119_33
                have ut123_34 := zp_same hI ha0 g124 34 rfl (by decide) (by decide)
                have at123_34 := ut123_34.trans at119_34
                have ut123_35 := zp_same hI ha0 g124 35 rfl (by decide) (by decide)
                have at123_35 := ut123_35.trans at119_35
                obtain ⟨e6, qe6⟩ := zfe_ex (e := e5) (by omega) (by omega) (by omega) ht123_fact0.2 ht123_fact1
                have zB1 := ht123_fact0.1
                have zg3 := ht123_fact2
                have zx3 := ht123_fact3
                have zt4 := ht123_fact4
                have zt5 := ht123_fact5
                clear ht123_fact5 ht123_fact4 ht123_fact3 ht123_fact2
                rw [← hyb] at zt4 zt5
                rw [zt36, zt37] at zt4
                obtain ⟨f5, hf5⟩ : ∃ f : Int → Int, f = zp a0 t123 39 := ⟨_, rfl⟩
                obtain ⟨f6, hf6⟩ : ∃ f : Int → Int, f = zp a0 t123 40 := ⟨_, rfl⟩
                obtain ⟨y3, hy3⟩ : ∃ x : Int, x = (t123.1 a0 38).toInt := ⟨_, rfl⟩
                rw [zq3, ← hy3, ← hf5, ← hf6] at zg3
                rw [zq3, ← hy3] at zt5
                have zm23 : ∀ j : Int, 0 ≤ j → (j < y2 ∨ y3 ≤ j) → f5 j = f3 j ∧ f6 j = f4 j := fun j h0 h1 => by have x := zx3 j h0 (by omega); rw [zd39, zd40, ← hf5, ← hf6] at x; exact x
                have zk3 : ∀ j : Int, 0 ≤ j → (j < (τ7.1 a0 38).toInt ∨ y3 ≤ j) → f5 j = zp a0 τ7 39 j ∧ f6 j = zp a0 τ7 40 j := fun j h0 h1 => by have x := zm23 j h0 (by omega); have y := zk2 j h0 (by omega); exact ⟨x.1.trans y.1, x.2.trans y.2⟩
                refine zg_aload_n X 2 rfl dX11_tellLaw_120 ?_
                refine zg_bipush X 32 dX11_tellLaw_121 (by decide) (fun v125 _ hv125 => ?_)
                refine zg_cVv (As := [.int v125]) (st := []) X ha0 rfl (by decide) rfl (t_X11_must l d L kd κ _ hI a0 ha0 v125  ) mk_X11_274 mc_X11_must mz_X11 mi_X11_must ml_X11_must (na := 1) ⟨md_X11.1, md_X11.2, by decide +kernel⟩ rfl ⟨by decide, by decide⟩ (Nat.le_of_ble_eq_true rfl) dX11_tellLaw_123 (fun t126 hq => ?_)
                obtain ⟨ht126_fact0, hI, g127⟩ := hq
                have ft126_12 : (t126.1 a0 12).toInt = (t123.1 a0 12).toInt := by rw [g127.2.1 12 (by decide)]
                have ft126_18 : (t126.1 a0 18).toInt = (t123.1 a0 18).toInt := by rw [g127.2.1 18 (by decide)]
                have ft126_19 : (t126.1 a0 19).toInt = (t123.1 a0 19).toInt := by rw [g127.2.1 19 (by decide)]
                have ft126_32 : (t126.1 a0 32).toInt = (t123.1 a0 32).toInt := by rw [g127.2.1 32 (by decide)]
                have ft126_38 : (t126.1 a0 38).toInt = (t123.1 a0 38).toInt := by rw [g127.2.1 38 (by decide)]
                have hS := hS.tr g127 (by decide) (by decide)
                have ut126_30 := zp_same hI ha0 g127 30 rfl (by decide) (by decide)
                have at126_30 := ut126_30.trans at123_30
                have ut126_31 := zp_same hI ha0 g127 31 rfl (by decide) (by decide)
                have at126_31 := ut126_31.trans at123_31
                have ut126_33 := zp_same hI ha0 g127 33 rfl (by decide) (by decide)
                have at126_33 := ut126_33.trans at123_33
                have ut126_34 := zp_same hI ha0 g127 34 rfl (by decide) (by decide)
                have at126_34 := ut126_34.trans at123_34
                have ut126_35 := zp_same hI ha0 g127 35 rfl (by decide) (by decide)
                have at126_35 := ut126_35.trans at123_35
                have ut126_36 := zp_same hI ha0 g127 36 rfl (by decide) (by decide)
                have at126_36 := ut126_36
                have ut126_37 := zp_same hI ha0 g127 37 rfl (by decide) (by decide)
                have at126_37 := ut126_37
                have ut126_39 := zp_same hI ha0 g127 39 rfl (by decide) (by decide)
                have at126_39 := ut126_39
                have ut126_40 := zp_same hI ha0 g127 40 rfl (by decide) (by decide)
                have at126_40 := ut126_40
                obtain ⟨e7, qe7⟩ := zfe_must (e := e6) (by omega) (by omega) ht126_fact0
                have z11f : 0 ≤ (t126.1 a0 11).toInt ∧ (t126.1 a0 11).toInt ≤ 400 := zj_get hI ha0 rfl
                have zhb : (t126.1 a0 13).toInt = 0 → ∀ b : Int, (σ.1 a0 32).toInt ≤ b → b < (t126.1 a0 32).toInt → gBr a0 t126 (420 * (σ.1 a0 19).toInt) (t126.1 a0 38).toInt b := fun hF => by exfalso; omega
                refine zg_goto X 12 dX11_tellLaw_126 (by decide) ?_
                refine zg_sub [0, 1, 2, 3] rfl ?_
                exact ihLp7 _ v86 hI hS (by omega) (by omega) at126_30 at126_31  (by omega) (by omega) (fun j h0 h1 => by have y := hk j h0 (by omega); have x := zk3 j h0 (by omega); rw [at126_39, at126_40, ← hf5, ← hf6]; exact ⟨x.1.trans y.1, x.2.trans y.2⟩) (fun b h0 h1 => by have y := hr b h0 h1; have x := zt4 b h0 (by omega); rw [at126_33, at126_34, at126_35, at126_36, at126_37, ws92 b h0, ws98 b h0, ws112 b h0, if_neg (by omega), if_neg (by omega), if_neg (by omega), x.1, x.2]; exact y) (zhb)
              · skip
                refine zg_aload_n X 2 rfl dX11_tellLaw_106 ?_
                have zb39 : zp a0 s112 39 = f1 := as112_39.trans hf1.symm
                have zb40 : zp a0 s112 40 = f2 := as112_40.trans hf2.symm
                have zq2 : (s112.1 a0 38).toInt = y1 := by omega
                refine zg_cVv (As := []) (st := []) X ha0 rfl (by decide) rfl (t_X11_expression l d L kd κ _ hI a0 ha0   (by omega) (by omega)) mk_X11_291 mc_X11_expression mz_X11 mi_X11_expression ml_X11_expression (na := 0) ⟨md_X11.1, md_X11.2, by decide +kernel⟩ rfl ⟨by decide, by decide⟩ (Nat.le_of_ble_eq_true rfl) dX11_tellLaw_107 (fun t128 hq => ?_)
                obtain ⟨⟨ht128_fact0, ht128_fact1, ht128_fact2, ht128_fact3⟩, hI, g129⟩ := hq
                have ft128_18 : (t128.1 a0 18).toInt = (s112.1 a0 18).toInt := by rw [g129.2.1 18 (by decide)]
                have ft128_19 : (t128.1 a0 19).toInt = (s112.1 a0 19).toInt := by rw [g129.2.1 19 (by decide)]
                have ft128_32 : (t128.1 a0 32).toInt = (s112.1 a0 32).toInt := by rw [g129.2.1 32 (by decide)]
                have hS := hS.tr g129 (by decide) (by decide)
                have ut128_30 := zp_same hI ha0 g129 30 rfl (by decide) (by decide)
                have at128_30 := ut128_30.trans as112_30
                have ut128_31 := zp_same hI ha0 g129 31 rfl (by decide) (by decide)
                have at128_31 := ut128_31.trans as112_31
                have ut128_33 := zp_same hI ha0 g129 33 rfl (by decide) (by decide)
                have at128_33 := ut128_33.trans as112_33
                have ut128_34 := zp_same hI ha0 g129 34 rfl (by decide) (by decide)
                have at128_34 := ut128_34.trans as112_34
                have ut128_35 := zp_same hI ha0 g129 35 rfl (by decide) (by decide)
                have at128_35 := ut128_35
                have ut128_36 := zp_same hI ha0 g129 36 rfl (by decide) (by decide)
                have at128_36 := ut128_36.trans as112_36
                have ut128_37 := zp_same hI ha0 g129 37 rfl (by decide) (by decide)
                have at128_37 := ut128_37.trans as112_37
                have e130 := g129.v e114 (by decide)
                obtain ⟨e4, qe4⟩ := zfe_ex (e := e3) (by omega) (by omega) (by omega) ht128_fact0 ht128_fact1
                have zg2 := ht128_fact2
                have zx2 := ht128_fact3
                clear ht128_fact3 ht128_fact2
                obtain ⟨f3, hf3⟩ : ∃ f : Int → Int, f = zp a0 t128 39 := ⟨_, rfl⟩
                obtain ⟨f4, hf4⟩ : ∃ f : Int → Int, f = zp a0 t128 40 := ⟨_, rfl⟩
                obtain ⟨y2, hy2⟩ : ∃ x : Int, x = (t128.1 a0 38).toInt := ⟨_, rfl⟩
                have zm12 : ∀ j : Int, 0 ≤ j → (j < y1 ∨ y2 ≤ j) → f3 j = f1 j ∧ f4 j = f2 j := fun j h0 h1 => by have x := zx2 j h0 (by omega); rw [zb39, zb40, ← hf3, ← hf4] at x; exact x
                have zk2 : ∀ j : Int, 0 ≤ j → (j < (τ7.1 a0 38).toInt ∨ y2 ≤ j) → f3 j = zp a0 τ7 39 j ∧ f4 j = zp a0 τ7 40 j := fun j h0 h1 => by have x := zm12 j h0 (by omega); have y := zk1 j h0 (by omega); exact ⟨x.1.trans y.1, x.2.trans y.2⟩
                rw [zq2, ← hy2, ← hf3, ← hf4] at zg2
                skip
                refine zg_aload_n X 2 rfl dX11_tellLaw_110 ?_
                refine zg_bipush X 31 dX11_tellLaw_111 (by decide) (fun v131 _ hv131 => ?_)
                refine zg_cVv (As := [.int v131]) (st := []) X ha0 rfl (by decide) rfl (t_X11_must l d L kd κ _ hI a0 ha0 v131  ) mk_X11_274 mc_X11_must mz_X11 mi_X11_must ml_X11_must (na := 1) ⟨md_X11.1, md_X11.2, by decide +kernel⟩ rfl ⟨by decide, by decide⟩ (Nat.le_of_ble_eq_true rfl) dX11_tellLaw_113 (fun t132 hq => ?_)
                obtain ⟨ht132_fact0, hI, g133⟩ := hq
                have ft132_12 : (t132.1 a0 12).toInt = (t128.1 a0 12).toInt := by rw [g133.2.1 12 (by decide)]
                have ft132_18 : (t132.1 a0 18).toInt = (t128.1 a0 18).toInt := by rw [g133.2.1 18 (by decide)]
                have ft132_19 : (t132.1 a0 19).toInt = (t128.1 a0 19).toInt := by rw [g133.2.1 19 (by decide)]
                have ft132_32 : (t132.1 a0 32).toInt = (t128.1 a0 32).toInt := by rw [g133.2.1 32 (by decide)]
                have ft132_38 : (t132.1 a0 38).toInt = (t128.1 a0 38).toInt := by rw [g133.2.1 38 (by decide)]
                have hS := hS.tr g133 (by decide) (by decide)
                have ut132_30 := zp_same hI ha0 g133 30 rfl (by decide) (by decide)
                have at132_30 := ut132_30.trans at128_30
                have ut132_31 := zp_same hI ha0 g133 31 rfl (by decide) (by decide)
                have at132_31 := ut132_31.trans at128_31
                have ut132_33 := zp_same hI ha0 g133 33 rfl (by decide) (by decide)
                have at132_33 := ut132_33.trans at128_33
                have ut132_34 := zp_same hI ha0 g133 34 rfl (by decide) (by decide)
                have at132_34 := ut132_34.trans at128_34
                have ut132_35 := zp_same hI ha0 g133 35 rfl (by decide) (by decide)
                have at132_35 := ut132_35.trans at128_35
                have ut132_36 := zp_same hI ha0 g133 36 rfl (by decide) (by decide)
                have at132_36 := ut132_36.trans at128_36
                have ut132_37 := zp_same hI ha0 g133 37 rfl (by decide) (by decide)
                have at132_37 := ut132_37.trans at128_37
                have ut132_39 := zp_same hI ha0 g133 39 rfl (by decide) (by decide)
                have at132_39 := ut132_39
                have ut132_40 := zp_same hI ha0 g133 40 rfl (by decide) (by decide)
                have at132_40 := ut132_40
                have e134 := g133.v e130 (by decide)
                obtain ⟨e5, qe5⟩ := zfe_must (e := e4) (by omega) (by omega) ht132_fact0
                refine zg_aload_n X 2 rfl dX11_tellLaw_116 ?_
                obtain ⟨yb, hyb⟩ : ∃ x : Int, x = (t132.1 a0 32).toInt := ⟨_, rfl⟩
                have zt36 : zp a0 t132 36 = zp a0 τ7 36 := at132_36
                have zt37 : zp a0 t132 37 = zp a0 τ7 37 := at132_37
                have zd39 : zp a0 t132 39 = f3 := by rw [at132_39]; first | exact hf3.symm | (rw [hf3]; exact hf1.symm)
                have zd40 : zp a0 t132 40 = f4 := by rw [at132_40]; first | exact hf4.symm | (rw [hf4]; exact hf2.symm)
                have zq3 : (t132.1 a0 38).toInt = y2 := by omega
                refine zg_cVv (As := []) (st := []) X ha0 rfl (by decide) rfl (t_X11_term l d L kd κ _ hI a0 ha0   (by omega) (by omega) (by omega)) mk_X11_294 mc_X11_term mz_X11 mi_X11_term ml_X11_term (na := 0) ⟨md_X11.1, md_X11.2, by decide +kernel⟩ rfl ⟨by decide, by decide⟩ (Nat.le_of_ble_eq_true rfl) dX11_tellLaw_117 (fun t135 hq => ?_)
                obtain ⟨⟨ht135_fact0, ht135_fact1, ht135_fact2, ht135_fact3, ht135_fact4, ht135_fact5⟩, hI, g136⟩ := hq
                have ft135_18 : (t135.1 a0 18).toInt = (t132.1 a0 18).toInt := by rw [g136.2.1 18 (by decide)]
                have ft135_19 : (t135.1 a0 19).toInt = (t132.1 a0 19).toInt := by rw [g136.2.1 19 (by decide)]
                have hS := hS.tr g136 (by decide) (by decide)
                have ut135_30 := zp_same hI ha0 g136 30 rfl (by decide) (by decide)
                have at135_30 := ut135_30.trans at132_30
                have ut135_31 := zp_same hI ha0 g136 31 rfl (by decide) (by decide)
                have at135_31 := ut135_31.trans at132_31
                have ut135_33 := zp_same hI ha0 g136 33 rfl (by decide) (by decide)
                have at135_33 := ut135_33.trans at132_33
                have ut135_34 := zp_same hI ha0 g136 34 rfl (by decide) (by decide)
                have at135_34 := ut135_34.trans at132_34
                have ut135_35 := zp_same hI ha0 g136 35 rfl (by decide) (by decide)
                have at135_35 := ut135_35.trans at132_35
                obtain ⟨e6, qe6⟩ := zfe_ex (e := e5) (by omega) (by omega) (by omega) ht135_fact0.2 ht135_fact1
                have zB1 := ht135_fact0.1
                have zg3 := ht135_fact2
                have zx3 := ht135_fact3
                have zt4 := ht135_fact4
                have zt5 := ht135_fact5
                clear ht135_fact5 ht135_fact4 ht135_fact3 ht135_fact2
                rw [← hyb] at zt4 zt5
                rw [zt36, zt37] at zt4
                obtain ⟨f5, hf5⟩ : ∃ f : Int → Int, f = zp a0 t135 39 := ⟨_, rfl⟩
                obtain ⟨f6, hf6⟩ : ∃ f : Int → Int, f = zp a0 t135 40 := ⟨_, rfl⟩
                obtain ⟨y3, hy3⟩ : ∃ x : Int, x = (t135.1 a0 38).toInt := ⟨_, rfl⟩
                rw [zq3, ← hy3, ← hf5, ← hf6] at zg3
                rw [zq3, ← hy3] at zt5
                have zm23 : ∀ j : Int, 0 ≤ j → (j < y2 ∨ y3 ≤ j) → f5 j = f3 j ∧ f6 j = f4 j := fun j h0 h1 => by have x := zx3 j h0 (by omega); rw [zd39, zd40, ← hf5, ← hf6] at x; exact x
                have zk3 : ∀ j : Int, 0 ≤ j → (j < (τ7.1 a0 38).toInt ∨ y3 ≤ j) → f5 j = zp a0 τ7 39 j ∧ f6 j = zp a0 τ7 40 j := fun j h0 h1 => by have x := zm23 j h0 (by omega); have y := zk2 j h0 (by omega); exact ⟨x.1.trans y.1, x.2.trans y.2⟩
                refine zg_aload_n X 2 rfl dX11_tellLaw_120 ?_
                refine zg_bipush X 32 dX11_tellLaw_121 (by decide) (fun v137 _ hv137 => ?_)
                refine zg_cVv (As := [.int v137]) (st := []) X ha0 rfl (by decide) rfl (t_X11_must l d L kd κ _ hI a0 ha0 v137  ) mk_X11_274 mc_X11_must mz_X11 mi_X11_must ml_X11_must (na := 1) ⟨md_X11.1, md_X11.2, by decide +kernel⟩ rfl ⟨by decide, by decide⟩ (Nat.le_of_ble_eq_true rfl) dX11_tellLaw_123 (fun t138 hq => ?_)
                obtain ⟨ht138_fact0, hI, g139⟩ := hq
                have ft138_12 : (t138.1 a0 12).toInt = (t135.1 a0 12).toInt := by rw [g139.2.1 12 (by decide)]
                have ft138_18 : (t138.1 a0 18).toInt = (t135.1 a0 18).toInt := by rw [g139.2.1 18 (by decide)]
                have ft138_19 : (t138.1 a0 19).toInt = (t135.1 a0 19).toInt := by rw [g139.2.1 19 (by decide)]
                have ft138_32 : (t138.1 a0 32).toInt = (t135.1 a0 32).toInt := by rw [g139.2.1 32 (by decide)]
                have ft138_38 : (t138.1 a0 38).toInt = (t135.1 a0 38).toInt := by rw [g139.2.1 38 (by decide)]
                have hS := hS.tr g139 (by decide) (by decide)
                have ut138_30 := zp_same hI ha0 g139 30 rfl (by decide) (by decide)
                have at138_30 := ut138_30.trans at135_30
                have ut138_31 := zp_same hI ha0 g139 31 rfl (by decide) (by decide)
                have at138_31 := ut138_31.trans at135_31
                have ut138_33 := zp_same hI ha0 g139 33 rfl (by decide) (by decide)
                have at138_33 := ut138_33.trans at135_33
                have ut138_34 := zp_same hI ha0 g139 34 rfl (by decide) (by decide)
                have at138_34 := ut138_34.trans at135_34
                have ut138_35 := zp_same hI ha0 g139 35 rfl (by decide) (by decide)
                have at138_35 := ut138_35.trans at135_35
                have ut138_36 := zp_same hI ha0 g139 36 rfl (by decide) (by decide)
                have at138_36 := ut138_36
                have ut138_37 := zp_same hI ha0 g139 37 rfl (by decide) (by decide)
                have at138_37 := ut138_37
                have ut138_39 := zp_same hI ha0 g139 39 rfl (by decide) (by decide)
                have at138_39 := ut138_39
                have ut138_40 := zp_same hI ha0 g139 40 rfl (by decide) (by decide)
                have at138_40 := ut138_40
                obtain ⟨e7, qe7⟩ := zfe_must (e := e6) (by omega) (by omega) ht138_fact0
                have z11f : 0 ≤ (t138.1 a0 11).toInt ∧ (t138.1 a0 11).toInt ≤ 400 := zj_get hI ha0 rfl
                have zhb : (t138.1 a0 13).toInt = 0 → ∀ b : Int, (σ.1 a0 32).toInt ≤ b → b < (t138.1 a0 32).toInt → gBr a0 t138 (420 * (σ.1 a0 19).toInt) (t138.1 a0 38).toInt b := by
                  intro hF b h0 h1
                  by_cases z : b = (τ7.1 a0 32).toInt
                  · have v33 : zp a0 t138 33 b = 1 := by rw [at138_33, ws92 b (by omega), if_pos (by omega)]; omega
                    have v34 : zp a0 t138 34 b = (τ7.1 a0 38).toInt := by rw [at138_34, ws98 b (by omega), if_pos (by omega)]; omega
                    have v35 : zp a0 t138 35 b = y1 := by rw [at138_35, ws112 b (by omega), if_pos (by omega)]; omega
                    have v36 : zp a0 t138 36 b = y2 := by rw [at138_36, show b = yb by omega]; exact zt5.1
                    have v37 : zp a0 t138 37 b = y3 := by rw [at138_37, show b = yb by omega]; exact zt5.2
                    unfold gBr
                    rw [v34, v35, v36, v37, at138_39, at138_40, ← hf5, ← hf6]
                    refine ⟨fun _ => ⟨(zg1 (by omega)).congr (fun j g0 g1 => ?_), (zg2 (by omega)).congr (fun j g0 g1 => zm23 j (by omega) (by omega)), by omega⟩, zg3 (by omega), by omega, by omega⟩
                    have x := zm23 j (by omega) (by omega)
                    have y := zm12 j (by omega) (by omega)
                    exact ⟨x.1.trans y.1, x.2.trans y.2⟩
                  · refine gBr.kept (hb (by omega) b h0 (by omega)) (fun j g0 g1 => by have x := zk3 j (by omega) (by omega); rw [at138_39, at138_40, ← hf5, ← hf6]; exact x) ?_ (by omega)
                    have x := zt4 b (by omega) (by omega)
                    rw [at138_33, at138_34, at138_35, at138_36, at138_37, ws92 b (by omega), ws98 b (by omega), ws112 b (by omega), if_neg (by omega), if_neg (by omega), if_neg (by omega)]
                    exact ⟨rfl, rfl, rfl, x.1, x.2⟩
                refine zg_goto X 12 dX11_tellLaw_126 (by decide) ?_
                refine zg_sub [0, 1, 2, 3] rfl ?_
                exact ihLp7 _ v86 hI hS (by omega) (by omega) at138_30 at138_31  (by omega) (by omega) (fun j h0 h1 => by have y := hk j h0 (by omega); have x := zk3 j h0 (by omega); rw [at138_39, at138_40, ← hf5, ← hf6]; exact ⟨x.1.trans y.1, x.2.trans y.2⟩) (fun b h0 h1 => by have y := hr b h0 h1; have x := zt4 b h0 (by omega); rw [at138_33, at138_34, at138_35, at138_36, at138_37, ws92 b h0, ws98 b h0, ws112 b h0, if_neg (by omega), if_neg (by omega), if_neg (by omega), x.1, x.2]; exact y) (zhb)
            · omega
          · skip
            refine zg_aload_n X 2 rfl dX11_tellLaw_33 ?_
            refine zg_iconst X 2 dX11_tellLaw_34 (by decide) (fun v140 _ hv140 => ?_)
            refine zg_cVv (As := [.int v140]) (st := []) X ha0 rfl (by decide) rfl (t_X11_fail l d L kd κ _ hI a0 ha0 v140  (by omega)) mk_X11_221 mc_X11_fail mz_X11 mi_X11_fail ml_X11_fail (na := 1) ⟨md_X11.1, md_X11.2, by decide +kernel⟩ rfl ⟨by decide, by decide⟩ (Nat.le_of_ble_eq_true rfl) dX11_tellLaw_35 (fun t141 hq => ?_)
            obtain ⟨ht141_fact0, hI, g142⟩ := hq
            have ft141_11 : (t141.1 a0 11).toInt = (τ7.1 a0 11).toInt := by rw [g142.2.1 11 (by decide)]
            have ft141_12 : (t141.1 a0 12).toInt = (τ7.1 a0 12).toInt := by rw [g142.2.1 12 (by decide)]
            have ft141_18 : (t141.1 a0 18).toInt = (τ7.1 a0 18).toInt := by rw [g142.2.1 18 (by decide)]
            have ft141_19 : (t141.1 a0 19).toInt = (τ7.1 a0 19).toInt := by rw [g142.2.1 19 (by decide)]
            have ft141_32 : (t141.1 a0 32).toInt = (τ7.1 a0 32).toInt := by rw [g142.2.1 32 (by decide)]
            have ft141_38 : (t141.1 a0 38).toInt = (τ7.1 a0 38).toInt := by rw [g142.2.1 38 (by decide)]
            have hS := hS.tr g142 (by decide) (by decide)
            have ut141_30 := zp_same hI ha0 g142 30 rfl (by decide) (by decide)
            have at141_30 := ut141_30.trans A30_Lp7
            have ut141_31 := zp_same hI ha0 g142 31 rfl (by decide) (by decide)
            have at141_31 := ut141_31.trans A31_Lp7
            have ut141_33 := zp_same hI ha0 g142 33 rfl (by decide) (by decide)
            have at141_33 := ut141_33
            have ut141_34 := zp_same hI ha0 g142 34 rfl (by decide) (by decide)
            have at141_34 := ut141_34
            have ut141_35 := zp_same hI ha0 g142 35 rfl (by decide) (by decide)
            have at141_35 := ut141_35
            have ut141_36 := zp_same hI ha0 g142 36 rfl (by decide) (by decide)
            have at141_36 := ut141_36
            have ut141_37 := zp_same hI ha0 g142 37 rfl (by decide) (by decide)
            have at141_37 := ut141_37
            have ut141_39 := zp_same hI ha0 g142 39 rfl (by decide) (by decide)
            have at141_39 := ut141_39
            have ut141_40 := zp_same hI ha0 g142 40 rfl (by decide) (by decide)
            have at141_40 := ut141_40
            refine zg_aload_n X 2 rfl dX11_tellLaw_38 ?_
            refine fg_X11_206 X hI ha0 dX11_tellLaw_39 (fun v143 ev143 hv143 => ?_)
            have kv143 : (t141.1 a0 13).toInt = v143.toInt := by rw [ev143]
            refine zg_if_le X 46 dX11_tellLaw_42 (by decide) (fun c144 => ?_) (fun c144 => ?_)
            · skip
              refine zg_iinc X 1 (fun v145 => [(3, .int v145), (2, .int v4), (0, .ref a0), (1, .int p1)]) 0 dX11_tellLaw_46 rfl (by decide) (by decide) (by omega) (by omega) (fun _ => rfl) (fun v145 _ hv145 => ?_)
              refine zg_aload_n X 2 rfl dX11_tellLaw_49 ?_
              refine zg_cVv (As := []) (st := []) X ha0 rfl (by decide) rfl (t_X11_goesOn l d L kd κ _ hI a0 ha0   ) mk_X11_227 mc_X11_goesOn mz_X11 mi_X11_goesOn ml_X11_goesOn (na := 0) ⟨md_X11.1, md_X11.2, by decide +kernel⟩ rfl ⟨by decide, by decide⟩ (Nat.le_of_ble_eq_true rfl) dX11_tellLaw_50 (fun t146 hq => ?_)
              obtain ⟨ht146_fact0, hI, g147⟩ := hq
              have ft146_12 : (t146.1 a0 12).toInt = (t141.1 a0 12).toInt := by rw [g147.2.1 12 (by decide)]
              have ft146_18 : (t146.1 a0 18).toInt = (t141.1 a0 18).toInt := by rw [g147.2.1 18 (by decide)]
              have ft146_19 : (t146.1 a0 19).toInt = (t141.1 a0 19).toInt := by rw [g147.2.1 19 (by decide)]
              have ft146_32 : (t146.1 a0 32).toInt = (t141.1 a0 32).toInt := by rw [g147.2.1 32 (by decide)]
              have ft146_38 : (t146.1 a0 38).toInt = (t141.1 a0 38).toInt := by rw [g147.2.1 38 (by decide)]
              have hS := hS.tr g147 (by decide) (by decide)
              have ut146_30 := zp_same hI ha0 g147 30 rfl (by decide) (by decide)
              have at146_30 := ut146_30.trans at141_30
              have ut146_31 := zp_same hI ha0 g147 31 rfl (by decide) (by decide)
              have at146_31 := ut146_31.trans at141_31
              have ut146_33 := zp_same hI ha0 g147 33 rfl (by decide) (by decide)
              have at146_33 := ut146_33.trans at141_33
              have ut146_34 := zp_same hI ha0 g147 34 rfl (by decide) (by decide)
              have at146_34 := ut146_34.trans at141_34
              have ut146_35 := zp_same hI ha0 g147 35 rfl (by decide) (by decide)
              have at146_35 := ut146_35.trans at141_35
              have ut146_36 := zp_same hI ha0 g147 36 rfl (by decide) (by decide)
              have at146_36 := ut146_36.trans at141_36
              have ut146_37 := zp_same hI ha0 g147 37 rfl (by decide) (by decide)
              have at146_37 := ut146_37.trans at141_37
              have ut146_39 := zp_same hI ha0 g147 39 rfl (by decide) (by decide)
              have at146_39 := ut146_39.trans at141_39
              have ut146_40 := zp_same hI ha0 g147 40 rfl (by decide) (by decide)
              have at146_40 := ut146_40.trans at141_40
              obtain ⟨e1, qe1⟩ := zfe_go (e := e0) (by omega) (by omega) (by omega) ht146_fact0
              clear ht146_fact0
              refine zg_aload_n X 2 rfl dX11_tellLaw_53 ?_
              refine fg_X11_76 X hI ha0 dX11_tellLaw_54 (fun v148 ev148 hv148 => ?_)
              refine zg_aload_n X 2 rfl dX11_tellLaw_57 ?_
              refine fg_X11_242 X hI ha0 dX11_tellLaw_58 (fun v149 ev149 hv149 => ?_)
              have kv149 : (t146.1 a0 32).toInt = v149.toInt := by rw [ev149]
              refine zg_iconst X 1 dX11_tellLaw_61 (by decide) (fun v150 _ hv150 => ?_)
              refine as_133 X hI hv148 (by omega) (by omega) ⟨by omega, by omega⟩ dX11_tellLaw_62 (fun s151 es151 hI => ?_)
              have g152 := (zSame.rf (o := a0) (Wf := []) (Wa := [133]) (L := L) (kd := kd) (σ := t146)).a ha0 hv148 es151 rfl (by decide)
              have rs151 := zp_st (σ := t146) (σ2 := s151) (i := v149) (x := v150) ev148 (by rw [es151, zb_nz ⟨by omega, by omega⟩]) (by omega)
              have ws151 := rs151
              rw [at146_33] at ws151
              rw [← kv149] at ws151
              have fs151_11 : (s151.1 a0 11).toInt = (t146.1 a0 11).toInt := by rw [g152.2.1 11 (by decide)]
              have fs151_12 : (s151.1 a0 12).toInt = (t146.1 a0 12).toInt := by rw [g152.2.1 12 (by decide)]
              have fs151_13 : (s151.1 a0 13).toInt = (t146.1 a0 13).toInt := by rw [g152.2.1 13 (by decide)]
              have fs151_18 : (s151.1 a0 18).toInt = (t146.1 a0 18).toInt := by rw [g152.2.1 18 (by decide)]
              have fs151_19 : (s151.1 a0 19).toInt = (t146.1 a0 19).toInt := by rw [g152.2.1 19 (by decide)]
              have fs151_32 : (s151.1 a0 32).toInt = (t146.1 a0 32).toInt := by rw [g152.2.1 32 (by decide)]
              have fs151_38 : (s151.1 a0 38).toInt = (t146.1 a0 38).toInt := by rw [g152.2.1 38 (by decide)]
              have hS := hS.tr g152 (by decide) (by decide)
              have us151_30 := zp_same hI ha0 g152 30 rfl (by decide) (by decide)
              have as151_30 := us151_30.trans at146_30
              have us151_31 := zp_same hI ha0 g152 31 rfl (by decide) (by decide)
              have as151_31 := us151_31.trans at146_31
              have us151_34 := zp_same hI ha0 g152 34 rfl (by decide) (by decide)
              have as151_34 := us151_34.trans at146_34
              have us151_35 := zp_same hI ha0 g152 35 rfl (by decide) (by decide)
              have as151_35 := us151_35.trans at146_35
              have us151_36 := zp_same hI ha0 g152 36 rfl (by decide) (by decide)
              have as151_36 := us151_36.trans at146_36
              have us151_37 := zp_same hI ha0 g152 37 rfl (by decide) (by decide)
              have as151_37 := us151_37.trans at146_37
              have us151_39 := zp_same hI ha0 g152 39 rfl (by decide) (by decide)
              have as151_39 := us151_39.trans at146_39
              have us151_40 := zp_same hI ha0 g152 40 rfl (by decide) (by decide)
              have as151_40 := us151_40.trans at146_40
              have e153 := g152.v ev149 (by decide)
              refine zg_aload_n X 2 rfl dX11_tellLaw_63 ?_
              refine fg_X11_80 X hI ha0 dX11_tellLaw_64 (fun v154 ev154 hv154 => ?_)
              refine zg_aload_n X 2 rfl dX11_tellLaw_67 ?_
              refine fg_X11_242 X hI ha0 dX11_tellLaw_68 (fun v155 ev155 hv155 => ?_)
              have kv155 : (s151.1 a0 32).toInt = v155.toInt := by rw [ev155]
              have mv155 : v155.toInt = v149.toInt := by rw [ev155, ← e153]
              refine zg_aload_n X 2 rfl dX11_tellLaw_71 ?_
              refine fg_X11_245 X hI ha0 dX11_tellLaw_72 (fun v156 ev156 hv156 => ?_)
              have kv156 : (s151.1 a0 38).toInt = v156.toInt := by rw [ev156]
              refine as_134 X hI hv154 (by omega) (by omega) dX11_tellLaw_75 (fun s157 es157 hI => ?_)
              have g158 := (zSame.rf (o := a0) (Wf := []) (Wa := [134]) (L := L) (kd := kd) (σ := s151)).a ha0 hv154 es157 rfl (by decide)
              have rs157 := zp_st (σ := s151) (σ2 := s157) (i := v155) (x := v156) ev154 es157 (by omega)
              have ws157 := rs157
              rw [as151_34] at ws157
              rw [← kv155] at ws157
              have fs157_11 : (s157.1 a0 11).toInt = (s151.1 a0 11).toInt := by rw [g158.2.1 11 (by decide)]
              have fs157_12 : (s157.1 a0 12).toInt = (s151.1 a0 12).toInt := by rw [g158.2.1 12 (by decide)]
              have fs157_13 : (s157.1 a0 13).toInt = (s151.1 a0 13).toInt := by rw [g158.2.1 13 (by decide)]
              have fs157_18 : (s157.1 a0 18).toInt = (s151.1 a0 18).toInt := by rw [g158.2.1 18 (by decide)]
              have fs157_19 : (s157.1 a0 19).toInt = (s151.1 a0 19).toInt := by rw [g158.2.1 19 (by decide)]
              have fs157_32 : (s157.1 a0 32).toInt = (s151.1 a0 32).toInt := by rw [g158.2.1 32 (by decide)]
              have fs157_38 : (s157.1 a0 38).toInt = (s151.1 a0 38).toInt := by rw [g158.2.1 38 (by decide)]
              have hS := hS.tr g158 (by decide) (by decide)
              have us157_30 := zp_same hI ha0 g158 30 rfl (by decide) (by decide)
              have as157_30 := us157_30.trans as151_30
              have us157_31 := zp_same hI ha0 g158 31 rfl (by decide) (by decide)
              have as157_31 := us157_31.trans as151_31
              have us157_33 := zp_same hI ha0 g158 33 rfl (by decide) (by decide)
              have as157_33 := us157_33
              have us157_35 := zp_same hI ha0 g158 35 rfl (by decide) (by decide)
              have as157_35 := us157_35.trans as151_35
              have us157_36 := zp_same hI ha0 g158 36 rfl (by decide) (by decide)
              have as157_36 := us157_36.trans as151_36
              have us157_37 := zp_same hI ha0 g158 37 rfl (by decide) (by decide)
              have as157_37 := us157_37.trans as151_37
              have us157_39 := zp_same hI ha0 g158 39 rfl (by decide) (by decide)
              have as157_39 := us157_39.trans as151_39
              have us157_40 := zp_same hI ha0 g158 40 rfl (by decide) (by decide)
              have as157_40 := us157_40.trans as151_40
              have e159 := g158.v ev155 (by decide)
              have e160 := g158.v ev156 (by decide)
              refine zg_aload_n X 2 rfl dX11_tellLaw_76 ?_
              have za39 : zp a0 s157 39 = zp a0 τ7 39 := as157_39
              have za40 : zp a0 s157 40 = zp a0 τ7 40 := as157_40
              have zq1 : (s157.1 a0 38).toInt = (τ7.1 a0 38).toInt := by omega
              refine zg_cVv (As := []) (st := []) X ha0 rfl (by decide) rfl (t_X11_expression l d L kd κ _ hI a0 ha0   (by omega) (by omega)) mk_X11_291 mc_X11_expression mz_X11 mi_X11_expression ml_X11_expression (na := 0) ⟨md_X11.1, md_X11.2, by decide +kernel⟩ rfl ⟨by decide, by decide⟩ (Nat.le_of_ble_eq_true rfl) dX11_tellLaw_77 (fun t161 hq => ?_)
              obtain ⟨⟨ht161_fact0, ht161_fact1, ht161_fact2, ht161_fact3⟩, hI, g162⟩ := hq
              have ft161_18 : (t161.1 a0 18).toInt = (s157.1 a0 18).toInt := by rw [g162.2.1 18 (by decide)]
              have ft161_19 : (t161.1 a0 19).toInt = (s157.1 a0 19).toInt := by rw [g162.2.1 19 (by decide)]
              have ft161_32 : (t161.1 a0 32).toInt = (s157.1 a0 32).toInt := by rw [g162.2.1 32 (by decide)]
              have hS := hS.tr g162 (by decide) (by decide)
              have ut161_30 := zp_same hI ha0 g162 30 rfl (by decide) (by decide)
              have at161_30 := ut161_30.trans as157_30
              have ut161_31 := zp_same hI ha0 g162 31 rfl (by decide) (by decide)
              have at161_31 := ut161_31.trans as157_31
              have ut161_33 := zp_same hI ha0 g162 33 rfl (by decide) (by decide)
              have at161_33 := ut161_33.trans as157_33
              have ut161_34 := zp_same hI ha0 g162 34 rfl (by decide) (by decide)
              have at161_34 := ut161_34
              have ut161_35 := zp_same hI ha0 g162 35 rfl (by decide) (by decide)
              have at161_35 := ut161_35.trans as157_35
              have ut161_36 := zp_same hI ha0 g162 36 rfl (by decide) (by decide)
              have at161_36 := ut161_36.trans as157_36
              have ut161_37 := zp_same hI ha0 g162 37 rfl (by decide) (by decide)
              have at161_37 := ut161_37.trans as157_37
              have e163 := g162.v e159 (by decide)
              obtain ⟨e2, qe2⟩ := zfe_ex (e := e1) (by omega) (by omega) (by omega) ht161_fact0 ht161_fact1
              have zg1 := ht161_fact2
              have zx1 := ht161_fact3
              clear ht161_fact3 ht161_fact2
              obtain ⟨f1, hf1⟩ : ∃ f : Int → Int, f = zp a0 t161 39 := ⟨_, rfl⟩
              obtain ⟨f2, hf2⟩ : ∃ f : Int → Int, f = zp a0 t161 40 := ⟨_, rfl⟩
              obtain ⟨y1, hy1⟩ : ∃ x : Int, x = (t161.1 a0 38).toInt := ⟨_, rfl⟩
              have zk1 : ∀ j : Int, 0 ≤ j → (j < (τ7.1 a0 38).toInt ∨ y1 ≤ j) → f1 j = zp a0 τ7 39 j ∧ f2 j = zp a0 τ7 40 j := fun j h0 h1 => by have x := zx1 j h0 (by omega); rw [za39, za40, ← hf1, ← hf2] at x; exact x
              rw [zq1, ← hy1, ← hf1, ← hf2] at zg1
              refine zg_aload_n X 2 rfl dX11_tellLaw_80 ?_
              refine zg_bipush X 13 dX11_tellLaw_81 (by decide) (fun v164 _ hv164 => ?_)
              refine zg_cVv (As := [.int v164]) (st := []) X ha0 rfl (by decide) rfl (t_X11_must l d L kd κ _ hI a0 ha0 v164  ) mk_X11_274 mc_X11_must mz_X11 mi_X11_must ml_X11_must (na := 1) ⟨md_X11.1, md_X11.2, by decide +kernel⟩ rfl ⟨by decide, by decide⟩ (Nat.le_of_ble_eq_true rfl) dX11_tellLaw_83 (fun t165 hq => ?_)
              obtain ⟨ht165_fact0, hI, g166⟩ := hq
              have ft165_12 : (t165.1 a0 12).toInt = (t161.1 a0 12).toInt := by rw [g166.2.1 12 (by decide)]
              have ft165_18 : (t165.1 a0 18).toInt = (t161.1 a0 18).toInt := by rw [g166.2.1 18 (by decide)]
              have ft165_19 : (t165.1 a0 19).toInt = (t161.1 a0 19).toInt := by rw [g166.2.1 19 (by decide)]
              have ft165_32 : (t165.1 a0 32).toInt = (t161.1 a0 32).toInt := by rw [g166.2.1 32 (by decide)]
              have ft165_38 : (t165.1 a0 38).toInt = (t161.1 a0 38).toInt := by rw [g166.2.1 38 (by decide)]
              have hS := hS.tr g166 (by decide) (by decide)
              have ut165_30 := zp_same hI ha0 g166 30 rfl (by decide) (by decide)
              have at165_30 := ut165_30.trans at161_30
              have ut165_31 := zp_same hI ha0 g166 31 rfl (by decide) (by decide)
              have at165_31 := ut165_31.trans at161_31
              have ut165_33 := zp_same hI ha0 g166 33 rfl (by decide) (by decide)
              have at165_33 := ut165_33.trans at161_33
              have ut165_34 := zp_same hI ha0 g166 34 rfl (by decide) (by decide)
              have at165_34 := ut165_34.trans at161_34
              have ut165_35 := zp_same hI ha0 g166 35 rfl (by decide) (by decide)
              have at165_35 := ut165_35.trans at161_35
              have ut165_36 := zp_same hI ha0 g166 36 rfl (by decide) (by decide)
              have at165_36 := ut165_36.trans at161_36
              have ut165_37 := zp_same hI ha0 g166 37 rfl (by decide) (by decide)
              have at165_37 := ut165_37.trans at161_37
              have ut165_39 := zp_same hI ha0 g166 39 rfl (by decide) (by decide)
              have at165_39 := ut165_39
              have ut165_40 := zp_same hI ha0 g166 40 rfl (by decide) (by decide)
              have at165_40 := ut165_40
              have e167 := g166.v e163 (by decide)
              obtain ⟨e3, qe3⟩ := zfe_must (e := e2) (by omega) (by omega) ht165_fact0
              refine zg_aload_n X 2 rfl dX11_tellLaw_86 ?_
              refine fg_X11_83 X hI ha0 dX11_tellLaw_87 (fun v168 ev168 hv168 => ?_)
              refine zg_aload_n X 2 rfl dX11_tellLaw_90 ?_
              refine fg_X11_242 X hI ha0 dX11_tellLaw_91 (fun v169 ev169 hv169 => ?_)
              have kv169 : (t165.1 a0 32).toInt = v169.toInt := by rw [ev169]
              have mv169 : v169.toInt = v155.toInt := by rw [ev169, ← e167]
              refine zg_aload_n X 2 rfl dX11_tellLaw_94 ?_
              refine fg_X11_245 X hI ha0 dX11_tellLaw_95 (fun v170 ev170 hv170 => ?_)
              have kv170 : (t165.1 a0 38).toInt = v170.toInt := by rw [ev170]
              refine as_135 X hI hv168 (by omega) (by omega) dX11_tellLaw_98 (fun s171 es171 hI => ?_)
              have g172 := (zSame.rf (o := a0) (Wf := []) (Wa := [135]) (L := L) (kd := kd) (σ := t165)).a ha0 hv168 es171 rfl (by decide)
              have rs171 := zp_st (σ := t165) (σ2 := s171) (i := v169) (x := v170) ev168 es171 (by omega)
              have ws171 := rs171
              rw [at165_35] at ws171
              rw [← kv169] at ws171
              have fs171_11 : (s171.1 a0 11).toInt = (t165.1 a0 11).toInt := by rw [g172.2.1 11 (by decide)]
              have fs171_12 : (s171.1 a0 12).toInt = (t165.1 a0 12).toInt := by rw [g172.2.1 12 (by decide)]
              have fs171_13 : (s171.1 a0 13).toInt = (t165.1 a0 13).toInt := by rw [g172.2.1 13 (by decide)]
              have fs171_18 : (s171.1 a0 18).toInt = (t165.1 a0 18).toInt := by rw [g172.2.1 18 (by decide)]
              have fs171_19 : (s171.1 a0 19).toInt = (t165.1 a0 19).toInt := by rw [g172.2.1 19 (by decide)]
              have fs171_32 : (s171.1 a0 32).toInt = (t165.1 a0 32).toInt := by rw [g172.2.1 32 (by decide)]
              have fs171_38 : (s171.1 a0 38).toInt = (t165.1 a0 38).toInt := by rw [g172.2.1 38 (by decide)]
              have hS := hS.tr g172 (by decide) (by decide)
              have us171_30 := zp_same hI ha0 g172 30 rfl (by decide) (by decide)
              have as171_30 := us171_30.trans at165_30
              have us171_31 := zp_same hI ha0 g172 31 rfl (by decide) (by decide)
              have as171_31 := us171_31.trans at165_31
              have us171_33 := zp_same hI ha0 g172 33 rfl (by decide) (by decide)
              have as171_33 := us171_33.trans at165_33
              have us171_34 := zp_same hI ha0 g172 34 rfl (by decide) (by decide)
              have as171_34 := us171_34.trans at165_34
              have us171_36 := zp_same hI ha0 g172 36 rfl (by decide) (by decide)
              have as171_36 := us171_36.trans at165_36
              have us171_37 := zp_same hI ha0 g172 37 rfl (by decide) (by decide)
              have as171_37 := us171_37.trans at165_37
              have us171_39 := zp_same hI ha0 g172 39 rfl (by decide) (by decide)
              have as171_39 := us171_39.trans at165_39
              have us171_40 := zp_same hI ha0 g172 40 rfl (by decide) (by decide)
              have as171_40 := us171_40.trans at165_40
              have e173 := g172.v ev169 (by decide)
              have e174 := g172.v ev170 (by decide)
              refine zg_aload_n X 2 rfl dX11_tellLaw_99 ?_
              refine fg_X11_206 X hI ha0 dX11_tellLaw_100 (fun v175 ev175 hv175 => ?_)
              have kv175 : (s171.1 a0 13).toInt = v175.toInt := by rw [ev175]
              refine zg_if_ne X 110 dX11_tellLaw_103 (by decide) (fun c176 => ?_) (fun c176 => ?_)
              · skip
                obtain ⟨e4, qe4⟩ : ∃ e : Int, e = e3 := ⟨_, rfl⟩
                obtain ⟨f3, hf3⟩ : ∃ f : Int → Int, f = f1 := ⟨_, rfl⟩
                obtain ⟨f4, hf4⟩ : ∃ f : Int → Int, f = f2 := ⟨_, rfl⟩
                have zk2 : ∀ j : Int, 0 ≤ j → (j < (τ7.1 a0 38).toInt ∨ y1 ≤ j) → f3 j = zp a0 τ7 39 j ∧ f4 j = zp a0 τ7 40 j := fun j h0 h1 => by rw [hf3, hf4]; exact zk1 j h0 h1
                obtain ⟨y2, hy2⟩ : ∃ x : Int, x = y1 := ⟨_, rfl⟩
                refine zg_aload_n X 2 rfl dX11_tellLaw_110 ?_
                refine zg_bipush X 31 dX11_tellLaw_111 (by decide) (fun v177 _ hv177 => ?_)
                refine zg_cVv (As := [.int v177]) (st := []) X ha0 rfl (by decide) rfl (t_X11_must l d L kd κ _ hI a0 ha0 v177  ) mk_X11_274 mc_X11_must mz_X11 mi_X11_must ml_X11_must (na := 1) ⟨md_X11.1, md_X11.2, by decide +kernel⟩ rfl ⟨by decide, by decide⟩ (Nat.le_of_ble_eq_true rfl) dX11_tellLaw_113 (fun t178 hq => ?_)
                obtain ⟨ht178_fact0, hI, g179⟩ := hq
                have ft178_12 : (t178.1 a0 12).toInt = (s171.1 a0 12).toInt := by rw [g179.2.1 12 (by decide)]
                have ft178_18 : (t178.1 a0 18).toInt = (s171.1 a0 18).toInt := by rw [g179.2.1 18 (by decide)]
                have ft178_19 : (t178.1 a0 19).toInt = (s171.1 a0 19).toInt := by rw [g179.2.1 19 (by decide)]
                have ft178_32 : (t178.1 a0 32).toInt = (s171.1 a0 32).toInt := by rw [g179.2.1 32 (by decide)]
                have ft178_38 : (t178.1 a0 38).toInt = (s171.1 a0 38).toInt := by rw [g179.2.1 38 (by decide)]
                have hS := hS.tr g179 (by decide) (by decide)
                have ut178_30 := zp_same hI ha0 g179 30 rfl (by decide) (by decide)
                have at178_30 := ut178_30.trans as171_30
                have ut178_31 := zp_same hI ha0 g179 31 rfl (by decide) (by decide)
                have at178_31 := ut178_31.trans as171_31
                have ut178_33 := zp_same hI ha0 g179 33 rfl (by decide) (by decide)
                have at178_33 := ut178_33.trans as171_33
                have ut178_34 := zp_same hI ha0 g179 34 rfl (by decide) (by decide)
                have at178_34 := ut178_34.trans as171_34
                have ut178_35 := zp_same hI ha0 g179 35 rfl (by decide) (by decide)
                have at178_35 := ut178_35
                have ut178_36 := zp_same hI ha0 g179 36 rfl (by decide) (by decide)
                have at178_36 := ut178_36.trans as171_36
                have ut178_37 := zp_same hI ha0 g179 37 rfl (by decide) (by decide)
                have at178_37 := ut178_37.trans as171_37
                have ut178_39 := zp_same hI ha0 g179 39 rfl (by decide) (by decide)
                have at178_39 := ut178_39.trans as171_39
                have ut178_40 := zp_same hI ha0 g179 40 rfl (by decide) (by decide)
                have at178_40 := ut178_40.trans as171_40
                have e180 := g179.v e173 (by decide)
                have e181 := g179.v e174 (by decide)
                obtain ⟨e5, qe5⟩ := zfe_must (e := e4) (by omega) (by omega) ht178_fact0
                refine zg_aload_n X 2 rfl dX11_tellLaw_116 ?_
                obtain ⟨yb, hyb⟩ : ∃ x : Int, x = (t178.1 a0 32).toInt := ⟨_, rfl⟩
                have zt36 : zp a0 t178 36 = zp a0 τ7 36 := at178_36
                have zt37 : zp a0 t178 37 = zp a0 τ7 37 := at178_37
                have zd39 : zp a0 t178 39 = f3 := by rw [at178_39]; first | exact hf3.symm | (rw [hf3]; exact hf1.symm)
                have zd40 : zp a0 t178 40 = f4 := by rw [at178_40]; first | exact hf4.symm | (rw [hf4]; exact hf2.symm)
                have zq3 : (t178.1 a0 38).toInt = y2 := by omega
                refine zg_cVv (As := []) (st := []) X ha0 rfl (by decide) rfl (t_X11_term l d L kd κ _ hI a0 ha0   (by omega) (by omega) (by omega)) mk_X11_294 mc_X11_term mz_X11 mi_X11_term ml_X11_term (na := 0) ⟨md_X11.1, md_X11.2, by decide +kernel⟩ rfl ⟨by decide, by decide⟩ (Nat.le_of_ble_eq_true rfl) dX11_tellLaw_117 (fun t182 hq => ?_)
                obtain ⟨⟨ht182_fact0, ht182_fact1, ht182_fact2, ht182_fact3, ht182_fact4, ht182_fact5⟩, hI, g183⟩ := hq
                have ft182_18 : (t182.1 a0 18).toInt = (t178.1 a0 18).toInt := by rw [g183.2.1 18 (by decide)]
                have ft182_19 : (t182.1 a0 19).toInt = (t178.1 a0 19).toInt := by rw [g183.2.1 19 (by decide)]
                have hS := hS.tr g183 (by decide) (by decide)
                have ut182_30 := zp_same hI ha0 g183 30 rfl (by decide) (by decide)
                have at182_30 := ut182_30.trans at178_30
                have ut182_31 := zp_same hI ha0 g183 31 rfl (by decide) (by decide)
                have at182_31 := ut182_31.trans at178_31
                have ut182_33 := zp_same hI ha0 g183 33 rfl (by decide) (by decide)
                have at182_33 := ut182_33.trans at178_33
                have ut182_34 := zp_same hI ha0 g183 34 rfl (by decide) (by decide)
                have at182_34 := ut182_34.trans at178_34
                have ut182_35 := zp_same hI ha0 g183 35 rfl (by decide) (by decide)
                have at182_35 := ut182_35.trans at178_35
                obtain ⟨e6, qe6⟩ := zfe_ex (e := e5) (by omega) (by omega) (by omega) ht182_fact0.2 ht182_fact1
                have zB1 := ht182_fact0.1
                have zg3 := ht182_fact2
                have zx3 := ht182_fact3
                have zt4 := ht182_fact4
                have zt5 := ht182_fact5
                clear ht182_fact5 ht182_fact4 ht182_fact3 ht182_fact2
                rw [← hyb] at zt4 zt5
                rw [zt36, zt37] at zt4
                obtain ⟨f5, hf5⟩ : ∃ f : Int → Int, f = zp a0 t182 39 := ⟨_, rfl⟩
                obtain ⟨f6, hf6⟩ : ∃ f : Int → Int, f = zp a0 t182 40 := ⟨_, rfl⟩
                obtain ⟨y3, hy3⟩ : ∃ x : Int, x = (t182.1 a0 38).toInt := ⟨_, rfl⟩
                rw [zq3, ← hy3, ← hf5, ← hf6] at zg3
                rw [zq3, ← hy3] at zt5
                have zm23 : ∀ j : Int, 0 ≤ j → (j < y2 ∨ y3 ≤ j) → f5 j = f3 j ∧ f6 j = f4 j := fun j h0 h1 => by have x := zx3 j h0 (by omega); rw [zd39, zd40, ← hf5, ← hf6] at x; exact x
                have zk3 : ∀ j : Int, 0 ≤ j → (j < (τ7.1 a0 38).toInt ∨ y3 ≤ j) → f5 j = zp a0 τ7 39 j ∧ f6 j = zp a0 τ7 40 j := fun j h0 h1 => by have x := zm23 j h0 (by omega); have y := zk2 j h0 (by omega); exact ⟨x.1.trans y.1, x.2.trans y.2⟩
                refine zg_aload_n X 2 rfl dX11_tellLaw_120 ?_
                refine zg_bipush X 32 dX11_tellLaw_121 (by decide) (fun v184 _ hv184 => ?_)
                refine zg_cVv (As := [.int v184]) (st := []) X ha0 rfl (by decide) rfl (t_X11_must l d L kd κ _ hI a0 ha0 v184  ) mk_X11_274 mc_X11_must mz_X11 mi_X11_must ml_X11_must (na := 1) ⟨md_X11.1, md_X11.2, by decide +kernel⟩ rfl ⟨by decide, by decide⟩ (Nat.le_of_ble_eq_true rfl) dX11_tellLaw_123 (fun t185 hq => ?_)
                obtain ⟨ht185_fact0, hI, g186⟩ := hq
                have ft185_12 : (t185.1 a0 12).toInt = (t182.1 a0 12).toInt := by rw [g186.2.1 12 (by decide)]
                have ft185_18 : (t185.1 a0 18).toInt = (t182.1 a0 18).toInt := by rw [g186.2.1 18 (by decide)]
                have ft185_19 : (t185.1 a0 19).toInt = (t182.1 a0 19).toInt := by rw [g186.2.1 19 (by decide)]
                have ft185_32 : (t185.1 a0 32).toInt = (t182.1 a0 32).toInt := by rw [g186.2.1 32 (by decide)]
                have ft185_38 : (t185.1 a0 38).toInt = (t182.1 a0 38).toInt := by rw [g186.2.1 38 (by decide)]
                have hS := hS.tr g186 (by decide) (by decide)
                have ut185_30 := zp_same hI ha0 g186 30 rfl (by decide) (by decide)
                have at185_30 := ut185_30.trans at182_30
                have ut185_31 := zp_same hI ha0 g186 31 rfl (by decide) (by decide)
                have at185_31 := ut185_31.trans at182_31
                have ut185_33 := zp_same hI ha0 g186 33 rfl (by decide) (by decide)
                have at185_33 := ut185_33.trans at182_33
                have ut185_34 := zp_same hI ha0 g186 34 rfl (by decide) (by decide)
                have at185_34 := ut185_34.trans at182_34
                have ut185_35 := zp_same hI ha0 g186 35 rfl (by decide) (by decide)
                have at185_35 := ut185_35.trans at182_35
                have ut185_36 := zp_same hI ha0 g186 36 rfl (by decide) (by decide)
                have at185_36 := ut185_36
                have ut185_37 := zp_same hI ha0 g186 37 rfl (by decide) (by decide)
                have at185_37 := ut185_37
                have ut185_39 := zp_same hI ha0 g186 39 rfl (by decide) (by decide)
                have at185_39 := ut185_39
                have ut185_40 := zp_same hI ha0 g186 40 rfl (by decide) (by decide)
                have at185_40 := ut185_40
                obtain ⟨e7, qe7⟩ := zfe_must (e := e6) (by omega) (by omega) ht185_fact0
                have z11f : 0 ≤ (t185.1 a0 11).toInt ∧ (t185.1 a0 11).toInt ≤ 400 := zj_get hI ha0 rfl
                have zhb : (t185.1 a0 13).toInt = 0 → ∀ b : Int, (σ.1 a0 32).toInt ≤ b → b < (t185.1 a0 32).toInt → gBr a0 t185 (420 * (σ.1 a0 19).toInt) (t185.1 a0 38).toInt b := fun hF => by exfalso; omega
                refine zg_goto X 12 dX11_tellLaw_126 (by decide) ?_
                refine zg_sub [0, 1, 2, 3] rfl ?_
                exact ihLp7 _ v145 hI hS (by omega) (by omega) at185_30 at185_31  (by omega) (by omega) (fun j h0 h1 => by have y := hk j h0 (by omega); have x := zk3 j h0 (by omega); rw [at185_39, at185_40, ← hf5, ← hf6]; exact ⟨x.1.trans y.1, x.2.trans y.2⟩) (fun b h0 h1 => by have y := hr b h0 h1; have x := zt4 b h0 (by omega); rw [at185_33, at185_34, at185_35, at185_36, at185_37, ws151 b h0, ws157 b h0, ws171 b h0, if_neg (by omega), if_neg (by omega), if_neg (by omega), x.1, x.2]; exact y) (zhb)
              · skip
                refine zg_aload_n X 2 rfl dX11_tellLaw_106 ?_
                have zb39 : zp a0 s171 39 = f1 := as171_39.trans hf1.symm
                have zb40 : zp a0 s171 40 = f2 := as171_40.trans hf2.symm
                have zq2 : (s171.1 a0 38).toInt = y1 := by omega
                refine zg_cVv (As := []) (st := []) X ha0 rfl (by decide) rfl (t_X11_expression l d L kd κ _ hI a0 ha0   (by omega) (by omega)) mk_X11_291 mc_X11_expression mz_X11 mi_X11_expression ml_X11_expression (na := 0) ⟨md_X11.1, md_X11.2, by decide +kernel⟩ rfl ⟨by decide, by decide⟩ (Nat.le_of_ble_eq_true rfl) dX11_tellLaw_107 (fun t187 hq => ?_)
                obtain ⟨⟨ht187_fact0, ht187_fact1, ht187_fact2, ht187_fact3⟩, hI, g188⟩ := hq
                have ft187_18 : (t187.1 a0 18).toInt = (s171.1 a0 18).toInt := by rw [g188.2.1 18 (by decide)]
                have ft187_19 : (t187.1 a0 19).toInt = (s171.1 a0 19).toInt := by rw [g188.2.1 19 (by decide)]
                have ft187_32 : (t187.1 a0 32).toInt = (s171.1 a0 32).toInt := by rw [g188.2.1 32 (by decide)]
                have hS := hS.tr g188 (by decide) (by decide)
                have ut187_30 := zp_same hI ha0 g188 30 rfl (by decide) (by decide)
                have at187_30 := ut187_30.trans as171_30
                have ut187_31 := zp_same hI ha0 g188 31 rfl (by decide) (by decide)
                have at187_31 := ut187_31.trans as171_31
                have ut187_33 := zp_same hI ha0 g188 33 rfl (by decide) (by decide)
                have at187_33 := ut187_33.trans as171_33
                have ut187_34 := zp_same hI ha0 g188 34 rfl (by decide) (by decide)
                have at187_34 := ut187_34.trans as171_34
                have ut187_35 := zp_same hI ha0 g188 35 rfl (by decide) (by decide)
                have at187_35 := ut187_35
                have ut187_36 := zp_same hI ha0 g188 36 rfl (by decide) (by decide)
                have at187_36 := ut187_36.trans as171_36
                have ut187_37 := zp_same hI ha0 g188 37 rfl (by decide) (by decide)
                have at187_37 := ut187_37.trans as171_37
                have e189 := g188.v e173 (by decide)
                obtain ⟨e4, qe4⟩ := zfe_ex (e := e3) (by omega) (by omega) (by omega) ht187_fact0 ht187_fact1
                have zg2 := ht187_fact2
                have zx2 := ht187_fact3
                clear ht187_fact3 ht187_fact2
                obtain ⟨f3, hf3⟩ : ∃ f : Int → Int, f = zp a0 t187 39 := ⟨_, rfl⟩
                obtain ⟨f4, hf4⟩ : ∃ f : Int → Int, f = zp a0 t187 40 := ⟨_, rfl⟩
                obtain ⟨y2, hy2⟩ : ∃ x : Int, x = (t187.1 a0 38).toInt := ⟨_, rfl⟩
                have zm12 : ∀ j : Int, 0 ≤ j → (j < y1 ∨ y2 ≤ j) → f3 j = f1 j ∧ f4 j = f2 j := fun j h0 h1 => by have x := zx2 j h0 (by omega); rw [zb39, zb40, ← hf3, ← hf4] at x; exact x
                have zk2 : ∀ j : Int, 0 ≤ j → (j < (τ7.1 a0 38).toInt ∨ y2 ≤ j) → f3 j = zp a0 τ7 39 j ∧ f4 j = zp a0 τ7 40 j := fun j h0 h1 => by have x := zm12 j h0 (by omega); have y := zk1 j h0 (by omega); exact ⟨x.1.trans y.1, x.2.trans y.2⟩
                rw [zq2, ← hy2, ← hf3, ← hf4] at zg2
                skip
                refine zg_aload_n X 2 rfl dX11_tellLaw_110 ?_
                refine zg_bipush X 31 dX11_tellLaw_111 (by decide) (fun v190 _ hv190 => ?_)
                refine zg_cVv (As := [.int v190]) (st := []) X ha0 rfl (by decide) rfl (t_X11_must l d L kd κ _ hI a0 ha0 v190  ) mk_X11_274 mc_X11_must mz_X11 mi_X11_must ml_X11_must (na := 1) ⟨md_X11.1, md_X11.2, by decide +kernel⟩ rfl ⟨by decide, by decide⟩ (Nat.le_of_ble_eq_true rfl) dX11_tellLaw_113 (fun t191 hq => ?_)
                obtain ⟨ht191_fact0, hI, g192⟩ := hq
                have ft191_12 : (t191.1 a0 12).toInt = (t187.1 a0 12).toInt := by rw [g192.2.1 12 (by decide)]
                have ft191_18 : (t191.1 a0 18).toInt = (t187.1 a0 18).toInt := by rw [g192.2.1 18 (by decide)]
                have ft191_19 : (t191.1 a0 19).toInt = (t187.1 a0 19).toInt := by rw [g192.2.1 19 (by decide)]
                have ft191_32 : (t191.1 a0 32).toInt = (t187.1 a0 32).toInt := by rw [g192.2.1 32 (by decide)]
                have ft191_38 : (t191.1 a0 38).toInt = (t187.1 a0 38).toInt := by rw [g192.2.1 38 (by decide)]
                have hS := hS.tr g192 (by decide) (by decide)
                have ut191_30 := zp_same hI ha0 g192 30 rfl (by decide) (by decide)
                have at191_30 := ut191_30.trans at187_30
                have ut191_31 := zp_same hI ha0 g192 31 rfl (by decide) (by decide)
                have at191_31 := ut191_31.trans at187_31
                have ut191_33 := zp_same hI ha0 g192 33 rfl (by decide) (by decide)
                have at191_33 := ut191_33.trans at187_33
                have ut191_34 := zp_same hI ha0 g192 34 rfl (by decide) (by decide)
                have at191_34 := ut191_34.trans at187_34
                have ut191_35 := zp_same hI ha0 g192 35 rfl (by decide) (by decide)
                have at191_35 := ut191_35.trans at187_35
                have ut191_36 := zp_same hI ha0 g192 36 rfl (by decide) (by decide)
                have at191_36 := ut191_36.trans at187_36
                have ut191_37 := zp_same hI ha0 g192 37 rfl (by decide) (by decide)
                have at191_37 := ut191_37.trans at187_37
                have ut191_39 := zp_same hI ha0 g192 39 rfl (by decide) (by decide)
                have at191_39 := ut191_39
                have ut191_40 := zp_same hI ha0 g192 40 rfl (by decide) (by decide)
                have at191_40 := ut191_40
                have e193 := g192.v e189 (by decide)
                obtain ⟨e5, qe5⟩ := zfe_must (e := e4) (by omega) (by omega) ht191_fact0
                refine zg_aload_n X 2 rfl dX11_tellLaw_116 ?_
                obtain ⟨yb, hyb⟩ : ∃ x : Int, x = (t191.1 a0 32).toInt := ⟨_, rfl⟩
                have zt36 : zp a0 t191 36 = zp a0 τ7 36 := at191_36
                have zt37 : zp a0 t191 37 = zp a0 τ7 37 := at191_37
                have zd39 : zp a0 t191 39 = f3 := by rw [at191_39]; first | exact hf3.symm | (rw [hf3]; exact hf1.symm)
                have zd40 : zp a0 t191 40 = f4 := by rw [at191_40]; first | exact hf4.symm | (rw [hf4]; exact hf2.symm)
                have zq3 : (t191.1 a0 38).toInt = y2 := by omega
                refine zg_cVv (As := []) (st := []) X ha0 rfl (by decide) rfl (t_X11_term l d L kd κ _ hI a0 ha0   (by omega) (by omega) (by omega)) mk_X11_294 mc_X11_term mz_X11 mi_X11_term ml_X11_term (na := 0) ⟨md_X11.1, md_X11.2, by decide +kernel⟩ rfl ⟨by decide, by decide⟩ (Nat.le_of_ble_eq_true rfl) dX11_tellLaw_117 (fun t194 hq => ?_)
                obtain ⟨⟨ht194_fact0, ht194_fact1, ht194_fact2, ht194_fact3, ht194_fact4, ht194_fact5⟩, hI, g195⟩ := hq
                have ft194_18 : (t194.1 a0 18).toInt = (t191.1 a0 18).toInt := by rw [g195.2.1 18 (by decide)]
                have ft194_19 : (t194.1 a0 19).toInt = (t191.1 a0 19).toInt := by rw [g195.2.1 19 (by decide)]
                have hS := hS.tr g195 (by decide) (by decide)
                have ut194_30 := zp_same hI ha0 g195 30 rfl (by decide) (by decide)
                have at194_30 := ut194_30.trans at191_30
                have ut194_31 := zp_same hI ha0 g195 31 rfl (by decide) (by decide)
                have at194_31 := ut194_31.trans at191_31
                have ut194_33 := zp_same hI ha0 g195 33 rfl (by decide) (by decide)
                have at194_33 := ut194_33.trans at191_33
                have ut194_34 := zp_same hI ha0 g195 34 rfl (by decide) (by decide)
                have at194_34 := ut194_34.trans at191_34
                have ut194_35 := zp_same hI ha0 g195 35 rfl (by decide) (by decide)
                have at194_35 := ut194_35.trans at191_35
                obtain ⟨e6, qe6⟩ := zfe_ex (e := e5) (by omega) (by omega) (by omega) ht194_fact0.2 ht194_fact1
                have zB1 := ht194_fact0.1
                have zg3 := ht194_fact2
                have zx3 := ht194_fact3
                have zt4 := ht194_fact4
                have zt5 := ht194_fact5
                clear ht194_fact5 ht194_fact4 ht194_fact3 ht194_fact2
                rw [← hyb] at zt4 zt5
                rw [zt36, zt37] at zt4
                obtain ⟨f5, hf5⟩ : ∃ f : Int → Int, f = zp a0 t194 39 := ⟨_, rfl⟩
                obtain ⟨f6, hf6⟩ : ∃ f : Int → Int, f = zp a0 t194 40 := ⟨_, rfl⟩
                obtain ⟨y3, hy3⟩ : ∃ x : Int, x = (t194.1 a0 38).toInt := ⟨_, rfl⟩
                rw [zq3, ← hy3, ← hf5, ← hf6] at zg3
                rw [zq3, ← hy3] at zt5
                have zm23 : ∀ j : Int, 0 ≤ j → (j < y2 ∨ y3 ≤ j) → f5 j = f3 j ∧ f6 j = f4 j := fun j h0 h1 => by have x := zx3 j h0 (by omega); rw [zd39, zd40, ← hf5, ← hf6] at x; exact x
                have zk3 : ∀ j : Int, 0 ≤ j → (j < (τ7.1 a0 38).toInt ∨ y3 ≤ j) → f5 j = zp a0 τ7 39 j ∧ f6 j = zp a0 τ7 40 j := fun j h0 h1 => by have x := zm23 j h0 (by omega); have y := zk2 j h0 (by omega); exact ⟨x.1.trans y.1, x.2.trans y.2⟩
                refine zg_aload_n X 2 rfl dX11_tellLaw_120 ?_
                refine zg_bipush X 32 dX11_tellLaw_121 (by decide) (fun v196 _ hv196 => ?_)
                refine zg_cVv (As := [.int v196]) (st := []) X ha0 rfl (by decide) rfl (t_X11_must l d L kd κ _ hI a0 ha0 v196  ) mk_X11_274 mc_X11_must mz_X11 mi_X11_must ml_X11_must (na := 1) ⟨md_X11.1, md_X11.2, by decide +kernel⟩ rfl ⟨by decide, by decide⟩ (Nat.le_of_ble_eq_true rfl) dX11_tellLaw_123 (fun t197 hq => ?_)
                obtain ⟨ht197_fact0, hI, g198⟩ := hq
                have ft197_12 : (t197.1 a0 12).toInt = (t194.1 a0 12).toInt := by rw [g198.2.1 12 (by decide)]
                have ft197_18 : (t197.1 a0 18).toInt = (t194.1 a0 18).toInt := by rw [g198.2.1 18 (by decide)]
                have ft197_19 : (t197.1 a0 19).toInt = (t194.1 a0 19).toInt := by rw [g198.2.1 19 (by decide)]
                have ft197_32 : (t197.1 a0 32).toInt = (t194.1 a0 32).toInt := by rw [g198.2.1 32 (by decide)]
                have ft197_38 : (t197.1 a0 38).toInt = (t194.1 a0 38).toInt := by rw [g198.2.1 38 (by decide)]
                have hS := hS.tr g198 (by decide) (by decide)
                have ut197_30 := zp_same hI ha0 g198 30 rfl (by decide) (by decide)
                have at197_30 := ut197_30.trans at194_30
                have ut197_31 := zp_same hI ha0 g198 31 rfl (by decide) (by decide)
                have at197_31 := ut197_31.trans at194_31
                have ut197_33 := zp_same hI ha0 g198 33 rfl (by decide) (by decide)
                have at197_33 := ut197_33.trans at194_33
                have ut197_34 := zp_same hI ha0 g198 34 rfl (by decide) (by decide)
                have at197_34 := ut197_34.trans at194_34
                have ut197_35 := zp_same hI ha0 g198 35 rfl (by decide) (by decide)
                have at197_35 := ut197_35.trans at194_35
                have ut197_36 := zp_same hI ha0 g198 36 rfl (by decide) (by decide)
                have at197_36 := ut197_36
                have ut197_37 := zp_same hI ha0 g198 37 rfl (by decide) (by decide)
                have at197_37 := ut197_37
                have ut197_39 := zp_same hI ha0 g198 39 rfl (by decide) (by decide)
                have at197_39 := ut197_39
                have ut197_40 := zp_same hI ha0 g198 40 rfl (by decide) (by decide)
                have at197_40 := ut197_40
                obtain ⟨e7, qe7⟩ := zfe_must (e := e6) (by omega) (by omega) ht197_fact0
                have z11f : 0 ≤ (t197.1 a0 11).toInt ∧ (t197.1 a0 11).toInt ≤ 400 := zj_get hI ha0 rfl
                have zhb : (t197.1 a0 13).toInt = 0 → ∀ b : Int, (σ.1 a0 32).toInt ≤ b → b < (t197.1 a0 32).toInt → gBr a0 t197 (420 * (σ.1 a0 19).toInt) (t197.1 a0 38).toInt b := by
                  intro hF b h0 h1
                  by_cases z : b = (τ7.1 a0 32).toInt
                  · have v33 : zp a0 t197 33 b = 1 := by rw [at197_33, ws151 b (by omega), if_pos (by omega)]; omega
                    have v34 : zp a0 t197 34 b = (τ7.1 a0 38).toInt := by rw [at197_34, ws157 b (by omega), if_pos (by omega)]; omega
                    have v35 : zp a0 t197 35 b = y1 := by rw [at197_35, ws171 b (by omega), if_pos (by omega)]; omega
                    have v36 : zp a0 t197 36 b = y2 := by rw [at197_36, show b = yb by omega]; exact zt5.1
                    have v37 : zp a0 t197 37 b = y3 := by rw [at197_37, show b = yb by omega]; exact zt5.2
                    unfold gBr
                    rw [v34, v35, v36, v37, at197_39, at197_40, ← hf5, ← hf6]
                    refine ⟨fun _ => ⟨(zg1 (by omega)).congr (fun j g0 g1 => ?_), (zg2 (by omega)).congr (fun j g0 g1 => zm23 j (by omega) (by omega)), by omega⟩, zg3 (by omega), by omega, by omega⟩
                    have x := zm23 j (by omega) (by omega)
                    have y := zm12 j (by omega) (by omega)
                    exact ⟨x.1.trans y.1, x.2.trans y.2⟩
                  · refine gBr.kept (hb (by omega) b h0 (by omega)) (fun j g0 g1 => by have x := zk3 j (by omega) (by omega); rw [at197_39, at197_40, ← hf5, ← hf6]; exact x) ?_ (by omega)
                    have x := zt4 b (by omega) (by omega)
                    rw [at197_33, at197_34, at197_35, at197_36, at197_37, ws151 b (by omega), ws157 b (by omega), ws171 b (by omega), if_neg (by omega), if_neg (by omega), if_neg (by omega)]
                    exact ⟨rfl, rfl, rfl, x.1, x.2⟩
                refine zg_goto X 12 dX11_tellLaw_126 (by decide) ?_
                refine zg_sub [0, 1, 2, 3] rfl ?_
                exact ihLp7 _ v145 hI hS (by omega) (by omega) at197_30 at197_31  (by omega) (by omega) (fun j h0 h1 => by have y := hk j h0 (by omega); have x := zk3 j h0 (by omega); rw [at197_39, at197_40, ← hf5, ← hf6]; exact ⟨x.1.trans y.1, x.2.trans y.2⟩) (fun b h0 h1 => by have y := hr b h0 h1; have x := zt4 b h0 (by omega); rw [at197_33, at197_34, at197_35, at197_36, at197_37, ws151 b h0, ws157 b h0, ws171 b h0, if_neg (by omega), if_neg (by omega), if_neg (by omega), x.1, x.2]; exact y) (zhb)
            · skip
              have z11f : 0 ≤ (t141.1 a0 11).toInt ∧ (t141.1 a0 11).toInt ≤ 400 := zj_get hI ha0 rfl
              have zKf : zKc a0 σ t141 := fun j h0 h1 => by have y := hk j h0 (by omega); rw [at141_39, at141_40]; exact y
              have zRf : zRk a0 σ t141 (σ.1 a0 32).toInt := fun b h0 h1 => by have y := hr b h0 h1; rw [at141_33, at141_34, at141_35, at141_36, at141_37]; exact y
              have zLf : gL a0 t141 := gL.region hgL (s := (σ.1 a0 19).toInt) (by omega) (by omega) (by omega) zKf zRf (by omega) (by omega) (by omega) (by omega) (fun k h0 h5 => by rw [at141_30, at141_31]; exact ⟨rfl, rfl⟩)
              exact ret _ _ _ dX11_tellLaw_45 ⟨⟨(by omega), (fun h0 => by exfalso; omega), zLf⟩, hI, hS⟩
  refine zg_sub [0, 1, 2, 3] rfl ?_
  exact Lp7 ((5 - v5.toInt).toNat + 1) _ v5 hI hS (by omega) (by omega) at2_30 at2_31  (by omega) (by omega) (zKc.eq at2_39 at2_40) (fun b h0 h1 => by rw [at2_33, at2_34, at2_35, at2_36, at2_37]; exact ⟨rfl, rfl, rfl, rfl, rfl⟩) (fun _ b h0 h1 => absurd h1 (by omega))
