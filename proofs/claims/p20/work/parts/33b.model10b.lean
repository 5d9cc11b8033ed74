set_option maxHeartbeats 4000000 in
set_option maxRecDepth 100000 in
theorem t_X11_read (l : Launch) (d : zD2) (L : List Nat) (kd : Nat → Nat) (κ : Int) (σ : zS) (hI : zJ κ L kd σ) (a0 : Nat) (ha0 : zT L kd a0 11) (hgN : gN a0 σ) (hgH : gH a0 σ) (hgE : gE a0 σ) (hgL : gL a0 σ) (hgK : gK a0 σ) : zMi l yX11_read (Cond.code yX11_read cX11_read 2 (some .int) :: zWL) 7 [.ref a0] d L kd σ (fun v σ2 => (v, σ2) = F_X11_read a0 σ ∧ (((zLkp a0 σ σ2) ∧ (gN a0 σ2) ∧ (gH a0 σ2) ∧ (gE a0 σ2) ∧ (gL a0 σ2) ∧ (gK a0 σ2)) ∧ zJ 0 L kd σ2 ∧ zSame a0 [2, 4, 10, 11, 12, 13, 14, 15, 16, 17, 18, 19, 32, 38, 41, 42, 44, 50, 51, 57, 62] [103, 105, 106, 107, 108, 120, 121, 122, 123, 124, 125, 126, 127, 128, 129, 130, 131, 133, 134, 135, 136, 137, 139, 140, 143, 148, 149, 167] L kd σ σ2)) := by
  refine zMi.of (own := RX11) (by decide +kernel) rfl rfl (Nat.le_of_ble_eq_true rfl) ?_
  intro p e s m args below meth c A Q X ret
  have hS : zSame a0 [2, 4, 10, 11, 12, 13, 14, 15, 16, 17, 18, 19, 32, 38, 41, 42, 44, 50, 51, 57, 62] [103, 105, 106, 107, 108, 120, 121, 122, 123, 124, 125, 126, 127, 128, 129, 130, 131, 133, 134, 135, 136, 137, 139, 140, 143, 148, 149, 167] L kd σ σ := zSame.rf
  refine zg_lv (lv2 := [(0, .ref a0)]) rfl ?_
  have z11 : 0 ≤ (σ.1 a0 11).toInt ∧ (σ.1 a0 11).toInt ≤ 400 := zj_get hI ha0 rfl
  have z12 : 0 ≤ (σ.1 a0 12).toInt ∧ (σ.1 a0 12).toInt ≤ 7 := zj_get hI ha0 rfl
  have z13 : 0 ≤ (σ.1 a0 13).toInt ∧ (σ.1 a0 13).toInt ≤ 2147483647 := zj_get hI ha0 rfl
  have z18 : 0 ≤ (σ.1 a0 18).toInt ∧ (σ.1 a0 18).toInt ≤ 1 := zj_get hI ha0 rfl
  have z19 : 0 ≤ (σ.1 a0 19).toInt ∧ (σ.1 a0 19).toInt ≤ 1 := zj_get hI ha0 rfl
  have z32 : 0 ≤ (σ.1 a0 32).toInt ∧ (σ.1 a0 32).toInt ≤ 260 := zj_get hI ha0 rfl
  have z38 : 0 ≤ (σ.1 a0 38).toInt ∧ (σ.1 a0 38).toInt ≤ 840 := zj_get hI ha0 rfl
  have z41 : 0 ≤ (σ.1 a0 41).toInt ∧ (σ.1 a0 41).toInt ≤ 1 := zj_get hI ha0 rfl
  have z42 : 0 ≤ (σ.1 a0 42).toInt ∧ (σ.1 a0 42).toInt ≤ 11 := zj_get hI ha0 rfl
  obtain ⟨R, hR⟩ : ∃ R, R = F_X11_read a0 σ := ⟨_, rfl⟩
  have E := hR
  unfold F_X11_read at E
  refine zg_aload_n X 0 rfl dX11_read_0 ?_
  refine zg_aload_n X 0 rfl dX11_read_1 ?_
  refine fg_X11_169 X hI ha0 dX11_read_2 (fun v1 ev1 hv1 => ?_)
  replace E := zLet_s ev1 E
  have hkv1 := hI.2.2.1
  refine fp_X11_175 X hI ha0 ⟨by omega, by omega⟩ dX11_read_5 (fun s2 es2 hI => ?_)
  replace E := zLet_s es2 E
  have g3 := (zSame.rf (o := a0) (Wf := [4]) (Wa := []) (L := L) (kd := kd) (σ := σ)).f ha0 es2 rfl
  have fs2_11 : (s2.1 a0 11).toInt = (σ.1 a0 11).toInt := by rw [g3.2.1 11 (by decide)]
  have fs2_12 : (s2.1 a0 12).toInt = (σ.1 a0 12).toInt := by rw [g3.2.1 12 (by decide)]
  have fs2_13 : (s2.1 a0 13).toInt = (σ.1 a0 13).toInt := by rw [g3.2.1 13 (by decide)]
  have fs2_15 : (s2.1 a0 15).toInt = (σ.1 a0 15).toInt := by rw [g3.2.1 15 (by decide)]
  have fs2_18 : (s2.1 a0 18).toInt = (σ.1 a0 18).toInt := by rw [g3.2.1 18 (by decide)]
  have fs2_19 : (s2.1 a0 19).toInt = (σ.1 a0 19).toInt := by rw [g3.2.1 19 (by decide)]
  have fs2_32 : (s2.1 a0 32).toInt = (σ.1 a0 32).toInt := by rw [g3.2.1 32 (by decide)]
  have fs2_38 : (s2.1 a0 38).toInt = (σ.1 a0 38).toInt := by rw [g3.2.1 38 (by decide)]
  have fs2_41 : (s2.1 a0 41).toInt = (σ.1 a0 41).toInt := by rw [g3.2.1 41 (by decide)]
  have fs2_42 : (s2.1 a0 42).toInt = (σ.1 a0 42).toInt := by rw [g3.2.1 42 (by decide)]
  have fs2_57 : (s2.1 a0 57).toInt = (σ.1 a0 57).toInt := by rw [g3.2.1 57 (by decide)]
  have hS := hS.tr g3 (by decide) (by decide)
  have as2_30 := zp_same hI ha0 g3 30 rfl (by decide) (by decide)
  have as2_31 := zp_same hI ha0 g3 31 rfl (by decide) (by decide)
  have as2_33 := zp_same hI ha0 g3 33 rfl (by decide) (by decide)
  have as2_34 := zp_same hI ha0 g3 34 rfl (by decide) (by decide)
  have as2_35 := zp_same hI ha0 g3 35 rfl (by decide) (by decide)
  have as2_36 := zp_same hI ha0 g3 36 rfl (by decide) (by decide)
  have as2_37 := zp_same hI ha0 g3 37 rfl (by decide) (by decide)
  have as2_39 := zp_same hI ha0 g3 39 rfl (by decide) (by decide)
  have as2_40 := zp_same hI ha0 g3 40 rfl (by decide) (by decide)
  have gNs2 := gN.same hI ha0 g3 (by decide) hgN
  have gHs2 := gH.same hI ha0 g3 (by decide) hgH
  have gEs2 := gE.same hI ha0 g3 (by decide) hgE
  have gLs2 := gL.same hI ha0 g3 (by decide) hgL
  have gKs2 := gK.same hI ha0 g3 (by decide) hgK
  have fs2_4 : (s2.1 a0 4).toInt = v1.toInt := by rw [es2]; exact congrArg _ (zu_s _ _ _ _)
  have e5 : v1 = s2.1 a0 4 := by rw [es2]; exact zm_s
  refine zg_iconst X 0 dX11_read_8 (by decide) (fun v6 _ hv6 => ?_)
  replace E := zLet_s (zcst hv6 (by decide)) E
  refine zg_istore_n X [(1, .int v6), (0, .ref a0)] dX11_read_9 (by decide) rfl ?_
  have Lp8 : ∀ (nLp8 : Nat) (τ8 : zS) (x7 : Int32), zJ κ L kd τ8 → zSame a0 [2, 4, 10, 11, 12, 13, 14, 15, 16, 17, 18, 19, 32, 38, 41, 42, 44, 50, 51, 57, 62] [103, 105, 106, 107, 108, 120, 121, 122, 123, 124, 125, 126, 127, 128, 129, 130, 131, 133, 134, 135, 136, 137, 139, 140, 143, 148, 149, 167] L kd σ τ8 → gE a0 τ8 → gH a0 τ8 → gK a0 τ8 → gL a0 τ8 → gN a0 τ8 → zp a0 τ8 30 = zp a0 σ 30 → zp a0 τ8 31 = zp a0 σ 31 → zp a0 τ8 33 = zp a0 σ 33 → zp a0 τ8 34 = zp a0 σ 34 → zp a0 τ8 35 = zp a0 σ 35 → zp a0 τ8 36 = zp a0 σ 36 → zp a0 τ8 37 = zp a0 σ 37 → zp a0 τ8 39 = zp a0 σ 39 → zp a0 τ8 40 = zp a0 σ 40 → R = F_X11_read_10 a0  nLp8 x7 τ8 → 0 ≤ x7.toInt ∧ x7.toInt ≤ 2000 ∧ (τ8.1 a0 18).toInt = (σ.1 a0 18).toInt → (2000) - x7.toInt + 1 < (nLp8 : Int) → zG d L kd A 2 p l e (k2_rm 7 (100 * 7)) s m args below meth c Q τ8 10 [(1, .int x7), (0, .ref a0)] [] := by
    intro nLp8
    induction nLp8 with
    | zero => intro τ8 x7 hI hS gE_Lp8 gH_Lp8 gK_Lp8 gL_Lp8 gN_Lp8 A30_Lp8 A31_Lp8 A33_Lp8 A34_Lp8 A35_Lp8 A36_Lp8 A37_Lp8 A39_Lp8 A40_Lp8 E  hxLp8 hm ; exact absurd hm (by omega)
    | succ nLp8 ihLp8 =>
      intro τ8 x7 hI hS gE_Lp8 gH_Lp8 gK_Lp8 gL_Lp8 gN_Lp8 A30_Lp8 A31_Lp8 A33_Lp8 A34_Lp8 A35_Lp8 A36_Lp8 A37_Lp8 A39_Lp8 A40_Lp8 E  hxLp8 hmLp8 
      rw [F_X11_read_10] at E
      refine zg_iload_n X 0 rfl dX11_read_10 ?_
      refine zg_aload_n X 1 rfl dX11_read_11 ?_
      refine fg_X11_175 X hI ha0 dX11_read_12 (fun v9 ev9 hv9 => ?_)
      replace E := zLet_s ev9 E
      refine zg_icmp_ge X 36 dX11_read_15 (by decide) (fun c10 => ?_) (fun c10 => ?_)
      · skip
        replace E := zIf_f (Int.not_lt.mpr c10) E
        refine zg_aload_n X 1 rfl dX11_read_36 ?_
        refine zg_iconst X 0 dX11_read_37 (by decide) (fun v11 _ hv11 => ?_)
        replace E := zLet_s (zcst hv11 (by decide)) E
        refine fq_X11_169 X ha0 dX11_read_38 (fun s12 es12 => ?_)
        replace E := zLet_s es12 E
        have hI : zJ v11.toInt L kd s12 := by rw [es12]; exact zj_taped hI ha0 (by omega) (by omega)
        have g13 := (zSame.rf (o := a0) (Wf := [2]) (Wa := []) (L := L) (kd := kd) (σ := τ8)).f ha0 es12 rfl
        have fs12_11 : (s12.1 a0 11).toInt = (τ8.1 a0 11).toInt := by rw [g13.2.1 11 (by decide)]
        have fs12_12 : (s12.1 a0 12).toInt = (τ8.1 a0 12).toInt := by rw [g13.2.1 12 (by decide)]
        have fs12_13 : (s12.1 a0 13).toInt = (τ8.1 a0 13).toInt := by rw [g13.2.1 13 (by decide)]
        have fs12_15 : (s12.1 a0 15).toInt = (τ8.1 a0 15).toInt := by rw [g13.2.1 15 (by decide)]
        have fs12_18 : (s12.1 a0 18).toInt = (τ8.1 a0 18).toInt := by rw [g13.2.1 18 (by decide)]
        have fs12_19 : (s12.1 a0 19).toInt = (τ8.1 a0 19).toInt := by rw [g13.2.1 19 (by decide)]
        have fs12_32 : (s12.1 a0 32).toInt = (τ8.1 a0 32).toInt := by rw [g13.2.1 32 (by decide)]
        have fs12_38 : (s12.1 a0 38).toInt = (τ8.1 a0 38).toInt := by rw [g13.2.1 38 (by decide)]
        have fs12_41 : (s12.1 a0 41).toInt = (τ8.1 a0 41).toInt := by rw [g13.2.1 41 (by decide)]
        have fs12_42 : (s12.1 a0 42).toInt = (τ8.1 a0 42).toInt := by rw [g13.2.1 42 (by decide)]
        have fs12_57 : (s12.1 a0 57).toInt = (τ8.1 a0 57).toInt := by rw [g13.2.1 57 (by decide)]
        have hS := hS.tr g13 (by decide) (by decide)
        have as12_30 := (zp_same hI ha0 g13 30 rfl (by decide) (by decide)).trans A30_Lp8
        have as12_31 := (zp_same hI ha0 g13 31 rfl (by decide) (by decide)).trans A31_Lp8
        have as12_33 := (zp_same hI ha0 g13 33 rfl (by decide) (by decide)).trans A33_Lp8
        have as12_34 := (zp_same hI ha0 g13 34 rfl (by decide) (by decide)).trans A34_Lp8
        have as12_35 := (zp_same hI ha0 g13 35 rfl (by decide) (by decide)).trans A35_Lp8
        have as12_36 := (zp_same hI ha0 g13 36 rfl (by decide) (by decide)).trans A36_Lp8
        have as12_37 := (zp_same hI ha0 g13 37 rfl (by decide) (by decide)).trans A37_Lp8
        have as12_39 := (zp_same hI ha0 g13 39 rfl (by decide) (by decide)).trans A39_Lp8
        have as12_40 := (zp_same hI ha0 g13 40 rfl (by decide) (by decide)).trans A40_Lp8
        have gEs12 := gE.same hI ha0 g13 (by decide) gE_Lp8
        have gHs12 := gH.same hI ha0 g13 (by decide) gH_Lp8
        have gKs12 := gK.same hI ha0 g13 (by decide) gK_Lp8
        have gLs12 := gL.same hI ha0 g13 (by decide) gL_Lp8
        have gNs12 := gN.same hI ha0 g13 (by decide) gN_Lp8
        have fs12_2 : (s12.1 a0 2).toInt = v11.toInt := by rw [es12]; exact congrArg _ (zu_s _ _ _ _)
        have e15 : v11 = s12.1 a0 2 := by rw [es12]; exact zm_s
        refine zg_aload_n X 1 rfl dX11_read_41 ?_
        refine zg_cVv (As := []) (st := []) X ha0 rfl (by decide) rfl (t_X11_cut l d L kd v11.toInt _ hI a0 ha0    gKs12) mk_X11_230 mc_X11_cut mz_X11 mi_X11_cut ml_X11_cut (na := 0) ⟨md_X11.1, md_X11.2, by decide +kernel⟩ rfl ⟨by decide, by decide⟩ (Nat.le_of_ble_eq_true rfl) dX11_read_42 (fun t16 hq => ?_)
        obtain ⟨hF, gKt16, hI, g17⟩ := hq
        replace E := zLet_s hF E
        have ft16_11 : (t16.1 a0 11).toInt = (s12.1 a0 11).toInt := by rw [g17.2.1 11 (by decide)]
        have ft16_12 : (t16.1 a0 12).toInt = (s12.1 a0 12).toInt := by rw [g17.2.1 12 (by decide)]
        have ft16_13 : (t16.1 a0 13).toInt = (s12.1 a0 13).toInt := by rw [g17.2.1 13 (by decide)]
        have ft16_15 : (t16.1 a0 15).toInt = (s12.1 a0 15).toInt := by rw [g17.2.1 15 (by decide)]
        have ft16_18 : (t16.1 a0 18).toInt = (s12.1 a0 18).toInt := by rw [g17.2.1 18 (by decide)]
        have ft16_19 : (t16.1 a0 19).toInt = (s12.1 a0 19).toInt := by rw [g17.2.1 19 (by decide)]
        have ft16_32 : (t16.1 a0 32).toInt = (s12.1 a0 32).toInt := by rw [g17.2.1 32 (by decide)]
        have ft16_38 : (t16.1 a0 38).toInt = (s12.1 a0 38).toInt := by rw [g17.2.1 38 (by decide)]
        have ft16_41 : (t16.1 a0 41).toInt = (s12.1 a0 41).toInt := by rw [g17.2.1 41 (by decide)]
        have ft16_42 : (t16.1 a0 42).toInt = (s12.1 a0 42).toInt := by rw [g17.2.1 42 (by decide)]
        have ft16_57 : (t16.1 a0 57).toInt = (s12.1 a0 57).toInt := by rw [g17.2.1 57 (by decide)]
        have hS := hS.tr g17 (by decide) (by decide)
        have at16_30 := (zp_same hI ha0 g17 30 rfl (by decide) (by decide)).trans as12_30
        have at16_31 := (zp_same hI ha0 g17 31 rfl (by decide) (by decide)).trans as12_31
        have at16_33 := (zp_same hI ha0 g17 33 rfl (by decide) (by decide)).trans as12_33
        have at16_34 := (zp_same hI ha0 g17 34 rfl (by decide) (by decide)).trans as12_34
        have at16_35 := (zp_same hI ha0 g17 35 rfl (by decide) (by decide)).trans as12_35
        have at16_36 := (zp_same hI ha0 g17 36 rfl (by decide) (by decide)).trans as12_36
        have at16_37 := (zp_same hI ha0 g17 37 rfl (by decide) (by decide)).trans as12_37
        have at16_39 := (zp_same hI ha0 g17 39 rfl (by decide) (by decide)).trans as12_39
        have at16_40 := (zp_same hI ha0 g17 40 rfl (by decide) (by decide)).trans as12_40
        have gEt16 := gE.same hI ha0 g17 (by decide) gEs12
        have gHt16 := gH.same hI ha0 g17 (by decide) gHs12
        have gLt16 := gL.same hI ha0 g17 (by decide) gLs12
        have gNt16 := gN.same hI ha0 g17 (by decide) gNs12
        refine zg_aload_n X 1 rfl dX11_read_45 ?_
        refine zg_iconst X 0 dX11_read_46 (by decide) (fun v20 _ hv20 => ?_)
        replace E := zLet_s (zcst hv20 (by decide)) E
        refine fp_X11_209 X hI ha0 ⟨by omega, by omega⟩ dX11_read_47 (fun s21 es21 hI => ?_)
        replace E := zLet_s es21 E
        have g22 := (zSame.rf (o := a0) (Wf := [11]) (Wa := []) (L := L) (kd := kd) (σ := t16)).f ha0 es21 rfl
        have fs21_12 : (s21.1 a0 12).toInt = (t16.1 a0 12).toInt := by rw [g22.2.1 12 (by decide)]
        have fs21_13 : (s21.1 a0 13).toInt = (t16.1 a0 13).toInt := by rw [g22.2.1 13 (by decide)]
        have fs21_15 : (s21.1 a0 15).toInt = (t16.1 a0 15).toInt := by rw [g22.2.1 15 (by decide)]
        have fs21_18 : (s21.1 a0 18).toInt = (t16.1 a0 18).toInt := by rw [g22.2.1 18 (by decide)]
        have fs21_19 : (s21.1 a0 19).toInt = (t16.1 a0 19).toInt := by rw [g22.2.1 19 (by decide)]
        have fs21_32 : (s21.1 a0 32).toInt = (t16.1 a0 32).toInt := by rw [g22.2.1 32 (by decide)]
        have fs21_38 : (s21.1 a0 38).toInt = (t16.1 a0 38).toInt := by rw [g22.2.1 38 (by decide)]
        have fs21_41 : (s21.1 a0 41).toInt = (t16.1 a0 41).toInt := by rw [g22.2.1 41 (by decide)]
        have fs21_42 : (s21.1 a0 42).toInt = (t16.1 a0 42).toInt := by rw [g22.2.1 42 (by decide)]
        have fs21_57 : (s21.1 a0 57).toInt = (t16.1 a0 57).toInt := by rw [g22.2.1 57 (by decide)]
        have hS := hS.tr g22 (by decide) (by decide)
        have as21_30 := (zp_same hI ha0 g22 30 rfl (by decide) (by decide)).trans at16_30
        have as21_31 := (zp_same hI ha0 g22 31 rfl (by decide) (by decide)).trans at16_31
        have as21_33 := (zp_same hI ha0 g22 33 rfl (by decide) (by decide)).trans at16_33
        have as21_34 := (zp_same hI ha0 g22 34 rfl (by decide) (by decide)).trans at16_34
        have as21_35 := (zp_same hI ha0 g22 35 rfl (by decide) (by decide)).trans at16_35
        have as21_36 := (zp_same hI ha0 g22 36 rfl (by decide) (by decide)).trans at16_36
        have as21_37 := (zp_same hI ha0 g22 37 rfl (by decide) (by decide)).trans at16_37
        have as21_39 := (zp_same hI ha0 g22 39 rfl (by decide) (by decide)).trans at16_39
        have as21_40 := (zp_same hI ha0 g22 40 rfl (by decide) (by decide)).trans at16_40
        have gEs21 := gE.same hI ha0 g22 (by decide) gEt16
        have gHs21 := gH.same hI ha0 g22 (by decide) gHt16
        have gLs21 := gL.same hI ha0 g22 (by decide) gLt16
        have gNs21 := gN.same hI ha0 g22 (by decide) gNt16
        have gKs21 := gK.same hI ha0 g22 (by decide) gKt16
        have fs21_11 : (s21.1 a0 11).toInt = v20.toInt := by rw [es21]; exact congrArg _ (zu_s _ _ _ _)
        have e25 : v20 = s21.1 a0 11 := by rw [es21]; exact zm_s
        refine zg_aload_n X 1 rfl dX11_read_50 ?_
        refine zg_iconst X 0 dX11_read_51 (by decide) (fun v26 _ hv26 => ?_)
        replace E := zLet_s (zcst hv26 (by decide)) E
        refine fp_X11_233 X hI ha0 ⟨by omega, by omega⟩ dX11_read_52 (fun s27 es27 hI => ?_)
        replace E := zLet_s es27 E
        have g28 := (zSame.rf (o := a0) (Wf := [12]) (Wa := []) (L := L) (kd := kd) (σ := s21)).f ha0 es27 rfl
        have fs27_11 : (s27.1 a0 11).toInt = (s21.1 a0 11).toInt := by rw [g28.2.1 11 (by decide)]
        have fs27_13 : (s27.1 a0 13).toInt = (s21.1 a0 13).toInt := by rw [g28.2.1 13 (by decide)]
        have fs27_15 : (s27.1 a0 15).toInt = (s21.1 a0 15).toInt := by rw [g28.2.1 15 (by decide)]
        have fs27_18 : (s27.1 a0 18).toInt = (s21.1 a0 18).toInt := by rw [g28.2.1 18 (by decide)]
        have fs27_19 : (s27.1 a0 19).toInt = (s21.1 a0 19).toInt := by rw [g28.2.1 19 (by decide)]
        have fs27_32 : (s27.1 a0 32).toInt = (s21.1 a0 32).toInt := by rw [g28.2.1 32 (by decide)]
        have fs27_38 : (s27.1 a0 38).toInt = (s21.1 a0 38).toInt := by rw [g28.2.1 38 (by decide)]
        have fs27_41 : (s27.1 a0 41).toInt = (s21.1 a0 41).toInt := by rw [g28.2.1 41 (by decide)]
        have fs27_42 : (s27.1 a0 42).toInt = (s21.1 a0 42).toInt := by rw [g28.2.1 42 (by decide)]
        have fs27_57 : (s27.1 a0 57).toInt = (s21.1 a0 57).toInt := by rw [g28.2.1 57 (by decide)]
        have hS := hS.tr g28 (by decide) (by decide)
        have as27_30 := (zp_same hI ha0 g28 30 rfl (by decide) (by decide)).trans as21_30
        have as27_31 := (zp_same hI ha0 g28 31 rfl (by decide) (by decide)).trans as21_31
        have as27_33 := (zp_same hI ha0 g28 33 rfl (by decide) (by decide)).trans as21_33
        have as27_34 := (zp_same hI ha0 g28 34 rfl (by decide) (by decide)).trans as21_34
        have as27_35 := (zp_same hI ha0 g28 35 rfl (by decide) (by decide)).trans as21_35
        have as27_36 := (zp_same hI ha0 g28 36 rfl (by decide) (by decide)).trans as21_36
        have as27_37 := (zp_same hI ha0 g28 37 rfl (by decide) (by decide)).trans as21_37
        have as27_39 := (zp_same hI ha0 g28 39 rfl (by decide) (by decide)).trans as21_39
        have as27_40 := (zp_same hI ha0 g28 40 rfl (by decide) (by decide)).trans as21_40
        have gEs27 := gE.same hI ha0 g28 (by decide) gEs21
        have gHs27 := gH.same hI ha0 g28 (by decide) gHs21
        have gLs27 := gL.same hI ha0 g28 (by decide) gLs21
        have gNs27 := gN.same hI ha0 g28 (by decide) gNs21
        have gKs27 := gK.same hI ha0 g28 (by decide) gKs21
        have fs27_12 : (s27.1 a0 12).toInt = v26.toInt := by rw [es27]; exact congrArg _ (zu_s _ _ _ _)
        have e32 : v26 = s27.1 a0 12 := by rw [es27]; exact zm_s
        refine zg_aload_n X 1 rfl dX11_read_55 ?_
        refine zg_iconst X 0 dX11_read_56 (by decide) (fun v33 _ hv33 => ?_)
        replace E := zLet_s (zcst hv33 (by decide)) E
        have zzz34 := zb_rng v33
        refine fp_X11_206 X hI ha0 ⟨by omega, by omega⟩ dX11_read_57 (fun s35 es35 hI => ?_)
        replace E := zLet_s es35 E
        have g36 := (zSame.rf (o := a0) (Wf := [13]) (Wa := []) (L := L) (kd := kd) (σ := s27)).f ha0 es35 rfl
        have fs35_11 : (s35.1 a0 11).toInt = (s27.1 a0 11).toInt := by rw [g36.2.1 11 (by decide)]
        have fs35_12 : (s35.1 a0 12).toInt = (s27.1 a0 12).toInt := by rw [g36.2.1 12 (by decide)]
        have fs35_15 : (s35.1 a0 15).toInt = (s27.1 a0 15).toInt := by rw [g36.2.1 15 (by decide)]
        have fs35_18 : (s35.1 a0 18).toInt = (s27.1 a0 18).toInt := by rw [g36.2.1 18 (by decide)]
        have fs35_19 : (s35.1 a0 19).toInt = (s27.1 a0 19).toInt := by rw [g36.2.1 19 (by decide)]
        have fs35_32 : (s35.1 a0 32).toInt = (s27.1 a0 32).toInt := by rw [g36.2.1 32 (by decide)]
        have fs35_38 : (s35.1 a0 38).toInt = (s27.1 a0 38).toInt := by rw [g36.2.1 38 (by decide)]
        have fs35_41 : (s35.1 a0 41).toInt = (s27.1 a0 41).toInt := by rw [g36.2.1 41 (by decide)]
        have fs35_42 : (s35.1 a0 42).toInt = (s27.1 a0 42).toInt := by rw [g36.2.1 42 (by decide)]
        have fs35_57 : (s35.1 a0 57).toInt = (s27.1 a0 57).toInt := by rw [g36.2.1 57 (by decide)]
        have hS := hS.tr g36 (by decide) (by decide)
        have as35_30 := (zp_same hI ha0 g36 30 rfl (by decide) (by decide)).trans as27_30
        have as35_31 := (zp_same hI ha0 g36 31 rfl (by decide) (by decide)).trans as27_31
        have as35_33 := (zp_same hI ha0 g36 33 rfl (by decide) (by decide)).trans as27_33
        have as35_34 := (zp_same hI ha0 g36 34 rfl (by decide) (by decide)).trans as27_34
        have as35_35 := (zp_same hI ha0 g36 35 rfl (by decide) (by decide)).trans as27_35
        have as35_36 := (zp_same hI ha0 g36 36 rfl (by decide) (by decide)).trans as27_36
        have as35_37 := (zp_same hI ha0 g36 37 rfl (by decide) (by decide)).trans as27_37
        have as35_39 := (zp_same hI ha0 g36 39 rfl (by decide) (by decide)).trans as27_39
        have as35_40 := (zp_same hI ha0 g36 40 rfl (by decide) (by decide)).trans as27_40
        have gEs35 := gE.same hI ha0 g36 (by decide) gEs27
        have gHs35 := gH.same hI ha0 g36 (by decide) gHs27
        have gLs35 := gL.same hI ha0 g36 (by decide) gLs27
        have gNs35 := gN.same hI ha0 g36 (by decide) gNs27
        have gKs35 := gK.same hI ha0 g36 (by decide) gKs27
        have fs35_13 : (s35.1 a0 13).toInt = v33.toInt := by rw [es35]; exact congrArg _ (zu_s _ _ _ _)
        have e41 : v33 = s35.1 a0 13 := by rw [es35]; exact zm_s
        refine zg_aload_n X 1 rfl dX11_read_60 ?_
        refine zg_iconst X 0 dX11_read_61 (by decide) (fun v42 _ hv42 => ?_)
        replace E := zLet_s (zcst hv42 (by decide)) E
        refine fp_X11_215 X hI ha0 (zb_rng _) dX11_read_62 (fun s43 es43 hI => ?_)
        replace E := zLet_s es43 E
        have g44 := (zSame.rf (o := a0) (Wf := [15]) (Wa := []) (L := L) (kd := kd) (σ := s35)).f ha0 es43 rfl
        have fs43_11 : (s43.1 a0 11).toInt = (s35.1 a0 11).toInt := by rw [g44.2.1 11 (by decide)]
        have fs43_12 : (s43.1 a0 12).toInt = (s35.1 a0 12).toInt := by rw [g44.2.1 12 (by decide)]
        have fs43_13 : (s43.1 a0 13).toInt = (s35.1 a0 13).toInt := by rw [g44.2.1 13 (by decide)]
        have fs43_18 : (s43.1 a0 18).toInt = (s35.1 a0 18).toInt := by rw [g44.2.1 18 (by decide)]
        have fs43_19 : (s43.1 a0 19).toInt = (s35.1 a0 19).toInt := by rw [g44.2.1 19 (by decide)]
        have fs43_32 : (s43.1 a0 32).toInt = (s35.1 a0 32).toInt := by rw [g44.2.1 32 (by decide)]
        have fs43_38 : (s43.1 a0 38).toInt = (s35.1 a0 38).toInt := by rw [g44.2.1 38 (by decide)]
        have fs43_41 : (s43.1 a0 41).toInt = (s35.1 a0 41).toInt := by rw [g44.2.1 41 (by decide)]
        have fs43_42 : (s43.1 a0 42).toInt = (s35.1 a0 42).toInt := by rw [g44.2.1 42 (by decide)]
        have fs43_57 : (s43.1 a0 57).toInt = (s35.1 a0 57).toInt := by rw [g44.2.1 57 (by decide)]
        have hS := hS.tr g44 (by decide) (by decide)
        have as43_30 := (zp_same hI ha0 g44 30 rfl (by decide) (by decide)).trans as35_30
        have as43_31 := (zp_same hI ha0 g44 31 rfl (by decide) (by decide)).trans as35_31
        have as43_33 := (zp_same hI ha0 g44 33 rfl (by decide) (by decide)).trans as35_33
        have as43_34 := (zp_same hI ha0 g44 34 rfl (by decide) (by decide)).trans as35_34
        have as43_35 := (zp_same hI ha0 g44 35 rfl (by decide) (by decide)).trans as35_35
        have as43_36 := (zp_same hI ha0 g44 36 rfl (by decide) (by decide)).trans as35_36
        have as43_37 := (zp_same hI ha0 g44 37 rfl (by decide) (by decide)).trans as35_37
        have as43_39 := (zp_same hI ha0 g44 39 rfl (by decide) (by decide)).trans as35_39
        have as43_40 := (zp_same hI ha0 g44 40 rfl (by decide) (by decide)).trans as35_40
        have gEs43 := gE.same hI ha0 g44 (by decide) gEs35
        have gHs43 := gH.same hI ha0 g44 (by decide) gHs35
        have gLs43 := gL.same hI ha0 g44 (by decide) gLs35
        have gNs43 := gN.same hI ha0 g44 (by decide) gNs35
        have gKs43 := gK.same hI ha0 g44 (by decide) gKs35
        have fs43_15 : (s43.1 a0 15).toInt = v42.toInt := by rw [es43]; exact congrArg _ (zu_s _ _ _ _)
        have e50 : v42 = s43.1 a0 15 := by rw [es43]; exact zm_s
        refine zg_aload_n X 1 rfl dX11_read_65 ?_
        refine zg_iconst X 1 dX11_read_66 (by decide) (fun v51 _ hv51 => ?_)
        replace E := zLet_s (zcst hv51 (by decide)) E
        refine zg_aload_n X 1 rfl dX11_read_67 ?_
        refine fg_X11_236 X hI ha0 dX11_read_68 (fun v52 ev52 hv52 => ?_)
        replace E := zLet_s ev52 E
        have kv52 : (s43.1 a0 18).toInt = v52.toInt := by rw [ev52]
        refine zg_isub X dX11_read_71 (by omega) (by omega) (fun v53 ev53 hv53 => ?_)
        replace E := zLet_s ev53 E
        refine fp_X11_239 X hI ha0 ⟨by omega, by omega⟩ dX11_read_72 (fun s54 es54 hI => ?_)
        replace E := zLet_s es54 E
        have g55 := (zSame.rf (o := a0) (Wf := [19]) (Wa := []) (L := L) (kd := kd) (σ := s43)).f ha0 es54 rfl
        have fs54_11 : (s54.1 a0 11).toInt = (s43.1 a0 11).toInt := by rw [g55.2.1 11 (by decide)]
        have fs54_12 : (s54.1 a0 12).toInt = (s43.1 a0 12).toInt := by rw [g55.2.1 12 (by decide)]
        have fs54_13 : (s54.1 a0 13).toInt = (s43.1 a0 13).toInt := by rw [g55.2.1 13 (by decide)]
        have fs54_15 : (s54.1 a0 15).toInt = (s43.1 a0 15).toInt := by rw [g55.2.1 15 (by decide)]
        have fs54_18 : (s54.1 a0 18).toInt = (s43.1 a0 18).toInt := by rw [g55.2.1 18 (by decide)]
        have fs54_32 : (s54.1 a0 32).toInt = (s43.1 a0 32).toInt := by rw [g55.2.1 32 (by decide)]
        have fs54_38 : (s54.1 a0 38).toInt = (s43.1 a0 38).toInt := by rw [g55.2.1 38 (by decide)]
        have fs54_41 : (s54.1 a0 41).toInt = (s43.1 a0 41).toInt := by rw [g55.2.1 41 (by decide)]
        have fs54_42 : (s54.1 a0 42).toInt = (s43.1 a0 42).toInt := by rw [g55.2.1 42 (by decide)]
        have fs54_57 : (s54.1 a0 57).toInt = (s43.1 a0 57).toInt := by rw [g55.2.1 57 (by decide)]
        have hS := hS.tr g55 (by decide) (by decide)
        have as54_30 := (zp_same hI ha0 g55 30 rfl (by decide) (by decide)).trans as43_30
        have as54_31 := (zp_same hI ha0 g55 31 rfl (by decide) (by decide)).trans as43_31
        have as54_33 := (zp_same hI ha0 g55 33 rfl (by decide) (by decide)).trans as43_33
        have as54_34 := (zp_same hI ha0 g55 34 rfl (by decide) (by decide)).trans as43_34
        have as54_35 := (zp_same hI ha0 g55 35 rfl (by decide) (by decide)).trans as43_35
        have as54_36 := (zp_same hI ha0 g55 36 rfl (by decide) (by decide)).trans as43_36
        have as54_37 := (zp_same hI ha0 g55 37 rfl (by decide) (by decide)).trans as43_37
        have as54_39 := (zp_same hI ha0 g55 39 rfl (by decide) (by decide)).trans as43_39
        have as54_40 := (zp_same hI ha0 g55 40 rfl (by decide) (by decide)).trans as43_40
        have gEs54 := gE.same hI ha0 g55 (by decide) gEs43
        have gHs54 := gH.same hI ha0 g55 (by decide) gHs43
        have gLs54 := gL.same hI ha0 g55 (by decide) gLs43
        have gNs54 := gN.same hI ha0 g55 (by decide) gNs43
        have gKs54 := gK.same hI ha0 g55 (by decide) gKs43
        have fs54_19 : (s54.1 a0 19).toInt = v53.toInt := by rw [es54]; exact congrArg _ (zu_s _ _ _ _)
        have e63 : v53 = s54.1 a0 19 := by rw [es54]; exact zm_s
        refine zg_aload_n X 1 rfl dX11_read_75 ?_
        refine zg_aload_n X 1 rfl dX11_read_76 ?_
        refine fg_X11_239 X hI ha0 dX11_read_77 (fun v64 ev64 hv64 => ?_)
        replace E := zLet_s ev64 E
        have kv64 : (s54.1 a0 19).toInt = v64.toInt := by rw [ev64]
        have mv64 : v64.toInt = v53.toInt := by rw [ev64, ← e63]
        have zpa30 : zp a0 s54 30 = zp a0 σ 30 := as54_30
        have zpa31 : zp a0 s54 31 = zp a0 σ 31 := as54_31
        refine zg_cVv (As := [.int v64]) (st := []) X ha0 rfl (by decide) rfl (t_X11_plain l d L kd v11.toInt _ hI a0 ha0 v64  (by omega)) mk_X11_155 mc_X11_plain mz_X11 mi_X11_plain ml_X11_plain (na := 1) ⟨md_X11.1, md_X11.2, by decide +kernel⟩ rfl ⟨by decide, by decide⟩ (Nat.le_of_ble_eq_true rfl) dX11_read_80 (fun t65 hq => ?_)
        obtain ⟨hF, ⟨ht65_fact0, ht65_fact1, ht65_fact2, ht65_fact3⟩, hI, g66⟩ := hq
        replace E := zLet_s hF E
        have ft65_11 : (t65.1 a0 11).toInt = (s54.1 a0 11).toInt := by rw [g66.2.1 11 (by decide)]
        have ft65_12 : (t65.1 a0 12).toInt = (s54.1 a0 12).toInt := by rw [g66.2.1 12 (by decide)]
        have ft65_13 : (t65.1 a0 13).toInt = (s54.1 a0 13).toInt := by rw [g66.2.1 13 (by decide)]
        have ft65_15 : (t65.1 a0 15).toInt = (s54.1 a0 15).toInt := by rw [g66.2.1 15 (by decide)]
        have ft65_18 : (t65.1 a0 18).toInt = (s54.1 a0 18).toInt := by rw [g66.2.1 18 (by decide)]
        have ft65_19 : (t65.1 a0 19).toInt = (s54.1 a0 19).toInt := by rw [g66.2.1 19 (by decide)]
        have ft65_32 : (t65.1 a0 32).toInt = (s54.1 a0 32).toInt := by rw [g66.2.1 32 (by decide)]
        have ft65_38 : (t65.1 a0 38).toInt = (s54.1 a0 38).toInt := by rw [g66.2.1 38 (by decide)]
        have ft65_41 : (t65.1 a0 41).toInt = (s54.1 a0 41).toInt := by rw [g66.2.1 41 (by decide)]
        have ft65_42 : (t65.1 a0 42).toInt = (s54.1 a0 42).toInt := by rw [g66.2.1 42 (by decide)]
        have ft65_57 : (t65.1 a0 57).toInt = (s54.1 a0 57).toInt := by rw [g66.2.1 57 (by decide)]
        have hS := hS.tr g66 (by decide) (by decide)
        have at65_33 := (zp_same hI ha0 g66 33 rfl (by decide) (by decide)).trans as54_33
        have at65_34 := (zp_same hI ha0 g66 34 rfl (by decide) (by decide)).trans as54_34
        have at65_35 := (zp_same hI ha0 g66 35 rfl (by decide) (by decide)).trans as54_35
        have at65_36 := (zp_same hI ha0 g66 36 rfl (by decide) (by decide)).trans as54_36
        have at65_37 := (zp_same hI ha0 g66 37 rfl (by decide) (by decide)).trans as54_37
        have at65_39 := (zp_same hI ha0 g66 39 rfl (by decide) (by decide)).trans as54_39
        have at65_40 := (zp_same hI ha0 g66 40 rfl (by decide) (by decide)).trans as54_40
        have gKt65 := gK.same hI ha0 g66 (by decide) gKs54
        have e74 := g66.v ev64 (by decide)
        have zP0 := ht65_fact0
        have zP1 := ht65_fact1
        have zP2 := ht65_fact2
        have zP3 := ht65_fact3
        obtain ⟨sd, hsd⟩ : ∃ x : Int, x = v64.toInt := ⟨_, rfl⟩
        rw [← hsd] at zP0 zP1 zP2 zP3
        have zme : zM a0 t65 = zM a0 s54 := by unfold zM; rw [show (t65.1 a0 18).toInt = (s54.1 a0 18).toInt by omega, zP1 _ (by omega) (by omega)]
        have gN_p := gN.sm hI ha0 g66 zme (by decide) gNs54
        have gH_p := gH.sm hI ha0 g66 zme (by decide) gHs54
        have gE_p := gE.sm hI ha0 g66 zme (by decide) gEs54
        have gL_p := gL.rw hI ha0 g66 (by decide) gLs54 (fun k h0 h5 => zP3 _ (by omega) (by omega))
        have zP3k : ∀ k : Int, 0 ≤ k → k < 5 → zp a0 t65 30 (5 * (σ.1 a0 18).toInt + k) = zp a0 σ 30 (5 * (σ.1 a0 18).toInt + k) ∧ zp a0 t65 31 (5 * (σ.1 a0 18).toInt + k) = zp a0 σ 31 (5 * (σ.1 a0 18).toInt + k) := fun k h0 h5 => by
          have y := zP3 (5 * (σ.1 a0 18).toInt + k) (by omega) (by omega)
          rw [zpa30, zpa31] at y
          exact y
        refine zg_aload_n X 1 rfl dX11_read_83 ?_
        refine zg_sipush X 130 dX11_read_84 (by decide) (fun v75 _ hv75 => ?_)
        replace E := zLet_s (zcst hv75 (by decide)) E
        refine zg_aload_n X 1 rfl dX11_read_87 ?_
        refine fg_X11_239 X hI ha0 dX11_read_88 (fun v76 ev76 hv76 => ?_)
        replace E := zLet_s ev76 E
        have kv76 : (t65.1 a0 19).toInt = v76.toInt := by rw [ev76]
        have mv76 : v76.toInt = v64.toInt := by rw [ev76, ← e74]
        refine zg_imulc X 130 dX11_read_91 (by omega) (by omega) (by omega) (fun v77 ev77 hv77 => ?_)
        replace E := zLet_s ev77 E
        refine fp_X11_242 X hI ha0 ⟨by omega, by omega⟩ dX11_read_92 (fun s78 es78 hI => ?_)
        replace E := zLet_s es78 E
        have g79 := (zSame.rf (o := a0) (Wf := [32]) (Wa := []) (L := L) (kd := kd) (σ := t65)).f ha0 es78 rfl
        have fs78_11 : (s78.1 a0 11).toInt = (t65.1 a0 11).toInt := by rw [g79.2.1 11 (by decide)]
        have fs78_12 : (s78.1 a0 12).toInt = (t65.1 a0 12).toInt := by rw [g79.2.1 12 (by decide)]
        have fs78_13 : (s78.1 a0 13).toInt = (t65.1 a0 13).toInt := by rw [g79.2.1 13 (by decide)]
        have fs78_15 : (s78.1 a0 15).toInt = (t65.1 a0 15).toInt := by rw [g79.2.1 15 (by decide)]
        have fs78_18 : (s78.1 a0 18).toInt = (t65.1 a0 18).toInt := by rw [g79.2.1 18 (by decide)]
        have fs78_19 : (s78.1 a0 19).toInt = (t65.1 a0 19).toInt := by rw [g79.2.1 19 (by decide)]
        have fs78_38 : (s78.1 a0 38).toInt = (t65.1 a0 38).toInt := by rw [g79.2.1 38 (by decide)]
        have fs78_41 : (s78.1 a0 41).toInt = (t65.1 a0 41).toInt := by rw [g79.2.1 41 (by decide)]
        have fs78_42 : (s78.1 a0 42).toInt = (t65.1 a0 42).toInt := by rw [g79.2.1 42 (by decide)]
        have fs78_57 : (s78.1 a0 57).toInt = (t65.1 a0 57).toInt := by rw [g79.2.1 57 (by decide)]
        have hS := hS.tr g79 (by decide) (by decide)
        have as78_21 := zp_same hI ha0 g79 21 rfl (by decide) (by decide)
        have as78_30 := zp_same hI ha0 g79 30 rfl (by decide) (by decide)
        have as78_31 := zp_same hI ha0 g79 31 rfl (by decide) (by decide)
        have as78_33 := (zp_same hI ha0 g79 33 rfl (by decide) (by decide)).trans at65_33
        have as78_34 := (zp_same hI ha0 g79 34 rfl (by decide) (by decide)).trans at65_34
        have as78_35 := (zp_same hI ha0 g79 35 rfl (by decide) (by decide)).trans at65_35
        have as78_36 := (zp_same hI ha0 g79 36 rfl (by decide) (by decide)).trans at65_36
        have as78_37 := (zp_same hI ha0 g79 37 rfl (by decide) (by decide)).trans at65_37
        have as78_39 := (zp_same hI ha0 g79 39 rfl (by decide) (by decide)).trans at65_39
        have as78_40 := (zp_same hI ha0 g79 40 rfl (by decide) (by decide)).trans at65_40
        have gKs78 := gK.same hI ha0 g79 (by decide) gKt65
        have gNs78 := gN.same hI ha0 g79 (by decide) gN_p
        have gHs78 := gH.same hI ha0 g79 (by decide) gH_p
        have gEs78 := gE.same hI ha0 g79 (by decide) gE_p
        have gLs78 := gL.same hI ha0 g79 (by decide) gL_p
        have e87 := g79.v ev76 (by decide)
        have fs78_32 : (s78.1 a0 32).toInt = v77.toInt := by rw [es78]; exact congrArg _ (zu_s _ _ _ _)
        have e88 : v77 = s78.1 a0 32 := by rw [es78]; exact zm_s
        refine zg_aload_n X 1 rfl dX11_read_95 ?_
        refine zg_sipush X 420 dX11_read_96 (by decide) (fun v89 _ hv89 => ?_)
        replace E := zLet_s (zcst hv89 (by decide)) E
        refine zg_aload_n X 1 rfl dX11_read_99 ?_
        refine fg_X11_239 X hI ha0 dX11_read_100 (fun v90 ev90 hv90 => ?_)
        replace E := zLet_s ev90 E
        have kv90 : (s78.1 a0 19).toInt = v90.toInt := by rw [ev90]
        have mv90 : v90.toInt = v76.toInt := by rw [ev90, ← e87]
        refine zg_imulc X 420 dX11_read_103 (by omega) (by omega) (by omega) (fun v91 ev91 hv91 => ?_)
        replace E := zLet_s ev91 E
        refine fp_X11_245 X hI ha0 ⟨by omega, by omega⟩ dX11_read_104 (fun s92 es92 hI => ?_)
        replace E := zLet_s es92 E
        have g93 := (zSame.rf (o := a0) (Wf := [38]) (Wa := []) (L := L) (kd := kd) (σ := s78)).f ha0 es92 rfl
        have fs92_11 : (s92.1 a0 11).toInt = (s78.1 a0 11).toInt := by rw [g93.2.1 11 (by decide)]
        have fs92_12 : (s92.1 a0 12).toInt = (s78.1 a0 12).toInt := by rw [g93.2.1 12 (by decide)]
        have fs92_13 : (s92.1 a0 13).toInt = (s78.1 a0 13).toInt := by rw [g93.2.1 13 (by decide)]
        have fs92_15 : (s92.1 a0 15).toInt = (s78.1 a0 15).toInt := by rw [g93.2.1 15 (by decide)]
        have fs92_18 : (s92.1 a0 18).toInt = (s78.1 a0 18).toInt := by rw [g93.2.1 18 (by decide)]
        have fs92_19 : (s92.1 a0 19).toInt = (s78.1 a0 19).toInt := by rw [g93.2.1 19 (by decide)]
        have fs92_32 : (s92.1 a0 32).toInt = (s78.1 a0 32).toInt := by rw [g93.2.1 32 (by decide)]
        have fs92_41 : (s92.1 a0 41).toInt = (s78.1 a0 41).toInt := by rw [g93.2.1 41 (by decide)]
        have fs92_42 : (s92.1 a0 42).toInt = (s78.1 a0 42).toInt := by rw [g93.2.1 42 (by decide)]
        have fs92_57 : (s92.1 a0 57).toInt = (s78.1 a0 57).toInt := by rw [g93.2.1 57 (by decide)]
        have hS := hS.tr g93 (by decide) (by decide)
        have as92_21 := (zp_same hI ha0 g93 21 rfl (by decide) (by decide)).trans as78_21
        have as92_30 := (zp_same hI ha0 g93 30 rfl (by decide) (by decide)).trans as78_30
        have as92_31 := (zp_same hI ha0 g93 31 rfl (by decide) (by decide)).trans as78_31
        have as92_33 := (zp_same hI ha0 g93 33 rfl (by decide) (by decide)).trans as78_33
        have as92_34 := (zp_same hI ha0 g93 34 rfl (by decide) (by decide)).trans as78_34
        have as92_35 := (zp_same hI ha0 g93 35 rfl (by decide) (by decide)).trans as78_35
        have as92_36 := (zp_same hI ha0 g93 36 rfl (by decide) (by decide)).trans as78_36
        have as92_37 := (zp_same hI ha0 g93 37 rfl (by decide) (by decide)).trans as78_37
        have as92_39 := (zp_same hI ha0 g93 39 rfl (by decide) (by decide)).trans as78_39
        have as92_40 := (zp_same hI ha0 g93 40 rfl (by decide) (by decide)).trans as78_40
        have gKs92 := gK.same hI ha0 g93 (by decide) gKs78
        have gNs92 := gN.same hI ha0 g93 (by decide) gNs78
        have gHs92 := gH.same hI ha0 g93 (by decide) gHs78
        have gEs92 := gE.same hI ha0 g93 (by decide) gEs78
        have gLs92 := gL.same hI ha0 g93 (by decide) gLs78
        have fs92_38 : (s92.1 a0 38).toInt = v91.toInt := by rw [es92]; exact congrArg _ (zu_s _ _ _ _)
        have e103 : v91 = s92.1 a0 38 := by rw [es92]; exact zm_s
        refine zg_aload_n X 1 rfl dX11_read_107 ?_
        refine zg_iconst X 0 dX11_read_108 (by decide) (fun v104 _ hv104 => ?_)
        replace E := zLet_s (zcst hv104 (by decide)) E
        refine fp_X11_248 X hI ha0 ⟨by omega, by omega⟩ dX11_read_109 (fun s105 es105 hI => ?_)
        replace E := zLet_s es105 E
        have g106 := (zSame.rf (o := a0) (Wf := [41]) (Wa := []) (L := L) (kd := kd) (σ := s92)).f ha0 es105 rfl
        have fs105_11 : (s105.1 a0 11).toInt = (s92.1 a0 11).toInt := by rw [g106.2.1 11 (by decide)]
        have fs105_12 : (s105.1 a0 12).toInt = (s92.1 a0 12).toInt := by rw [g106.2.1 12 (by decide)]
        have fs105_13 : (s105.1 a0 13).toInt = (s92.1 a0 13).toInt := by rw [g106.2.1 13 (by decide)]
        have fs105_15 : (s105.1 a0 15).toInt = (s92.1 a0 15).toInt := by rw [g106.2.1 15 (by decide)]
        have fs105_18 : (s105.1 a0 18).toInt = (s92.1 a0 18).toInt := by rw [g106.2.1 18 (by decide)]
        have fs105_19 : (s105.1 a0 19).toInt = (s92.1 a0 19).toInt := by rw [g106.2.1 19 (by decide)]
        have fs105_32 : (s105.1 a0 32).toInt = (s92.1 a0 32).toInt := by rw [g106.2.1 32 (by decide)]
        have fs105_38 : (s105.1 a0 38).toInt = (s92.1 a0 38).toInt := by rw [g106.2.1 38 (by decide)]
        have fs105_42 : (s105.1 a0 42).toInt = (s92.1 a0 42).toInt := by rw [g106.2.1 42 (by decide)]
        have fs105_57 : (s105.1 a0 57).toInt = (s92.1 a0 57).toInt := by rw [g106.2.1 57 (by decide)]
        have hS := hS.tr g106 (by decide) (by decide)
        have as105_21 := (zp_same hI ha0 g106 21 rfl (by decide) (by decide)).trans as92_21
        have as105_30 := (zp_same hI ha0 g106 30 rfl (by decide) (by decide)).trans as92_30
        have as105_31 := (zp_same hI ha0 g106 31 rfl (by decide) (by decide)).trans as92_31
        have as105_33 := (zp_same hI ha0 g106 33 rfl (by decide) (by decide)).trans as92_33
        have as105_34 := (zp_same hI ha0 g106 34 rfl (by decide) (by decide)).trans as92_34
        have as105_35 := (zp_same hI ha0 g106 35 rfl (by decide) (by decide)).trans as92_35
        have as105_36 := (zp_same hI ha0 g106 36 rfl (by decide) (by decide)).trans as92_36
        have as105_37 := (zp_same hI ha0 g106 37 rfl (by decide) (by decide)).trans as92_37
        have as105_39 := (zp_same hI ha0 g106 39 rfl (by decide) (by decide)).trans as92_39
        have as105_40 := (zp_same hI ha0 g106 40 rfl (by decide) (by decide)).trans as92_40
        have gKs105 := gK.same hI ha0 g106 (by decide) gKs92
        have gNs105 := gN.same hI ha0 g106 (by decide) gNs92
        have gHs105 := gH.same hI ha0 g106 (by decide) gHs92
        have gEs105 := gE.same hI ha0 g106 (by decide) gEs92
        have gLs105 := gL.same hI ha0 g106 (by decide) gLs92
        have fs105_41 : (s105.1 a0 41).toInt = v104.toInt := by rw [es105]; exact congrArg _ (zu_s _ _ _ _)
        have e117 : v104 = s105.1 a0 41 := by rw [es105]; exact zm_s
        refine zg_aload_n X 1 rfl dX11_read_112 ?_
        refine zg_iconst X 0 dX11_read_113 (by decide) (fun v118 _ hv118 => ?_)
        replace E := zLet_s (zcst hv118 (by decide)) E
        refine fp_X11_252 X hI ha0 ⟨by omega, by omega⟩ dX11_read_114 (fun s119 es119 hI => ?_)
        replace E := zLet_s es119 E
        have g120 := (zSame.rf (o := a0) (Wf := [42]) (Wa := []) (L := L) (kd := kd) (σ := s105)).f ha0 es119 rfl
        have fs119_11 : (s119.1 a0 11).toInt = (s105.1 a0 11).toInt := by rw [g120.2.1 11 (by decide)]
        have fs119_12 : (s119.1 a0 12).toInt = (s105.1 a0 12).toInt := by rw [g120.2.1 12 (by decide)]
        have fs119_13 : (s119.1 a0 13).toInt = (s105.1 a0 13).toInt := by rw [g120.2.1 13 (by decide)]
        have fs119_15 : (s119.1 a0 15).toInt = (s105.1 a0 15).toInt := by rw [g120.2.1 15 (by decide)]
        have fs119_18 : (s119.1 a0 18).toInt = (s105.1 a0 18).toInt := by rw [g120.2.1 18 (by decide)]
        have fs119_19 : (s119.1 a0 19).toInt = (s105.1 a0 19).toInt := by rw [g120.2.1 19 (by decide)]
        have fs119_32 : (s119.1 a0 32).toInt = (s105.1 a0 32).toInt := by rw [g120.2.1 32 (by decide)]
        have fs119_38 : (s119.1 a0 38).toInt = (s105.1 a0 38).toInt := by rw [g120.2.1 38 (by decide)]
        have fs119_41 : (s119.1 a0 41).toInt = (s105.1 a0 41).toInt := by rw [g120.2.1 41 (by decide)]
        have fs119_57 : (s119.1 a0 57).toInt = (s105.1 a0 57).toInt := by rw [g120.2.1 57 (by decide)]
        have hS := hS.tr g120 (by decide) (by decide)
        have as119_21 := (zp_same hI ha0 g120 21 rfl (by decide) (by decide)).trans as105_21
        have as119_30 := (zp_same hI ha0 g120 30 rfl (by decide) (by decide)).trans as105_30
        have as119_31 := (zp_same hI ha0 g120 31 rfl (by decide) (by decide)).trans as105_31
        have as119_33 := (zp_same hI ha0 g120 33 rfl (by decide) (by decide)).trans as105_33
        have as119_34 := (zp_same hI ha0 g120 34 rfl (by decide) (by decide)).trans as105_34
        have as119_35 := (zp_same hI ha0 g120 35 rfl (by decide) (by decide)).trans as105_35
        have as119_36 := (zp_same hI ha0 g120 36 rfl (by decide) (by decide)).trans as105_36
        have as119_37 := (zp_same hI ha0 g120 37 rfl (by decide) (by decide)).trans as105_37
        have as119_39 := (zp_same hI ha0 g120 39 rfl (by decide) (by decide)).trans as105_39
        have as119_40 := (zp_same hI ha0 g120 40 rfl (by decide) (by decide)).trans as105_40
        have gKs119 := gK.same hI ha0 g120 (by decide) gKs105
        have gNs119 := gN.same hI ha0 g120 (by decide) gNs105
        have gHs119 := gH.same hI ha0 g120 (by decide) gHs105
        have gEs119 := gE.same hI ha0 g120 (by decide) gEs105
        have gLs119 := gL.same hI ha0 g120 (by decide) gLs105
        have fs119_42 : (s119.1 a0 42).toInt = v118.toInt := by rw [es119]; exact congrArg _ (zu_s _ _ _ _)
        have e132 : v118 = s119.1 a0 42 := by rw [es119]; exact zm_s
        have gP_0 : gP a0 s119 := by
          unfold gP
          intro k h0 h5
          left
          have y := zP2 k h0 h5
          rw [as119_30, as119_31, show (s119.1 a0 19).toInt = sd by omega, y.1, y.2]
        have gTr_0 : gTr a0 s119 := by
          unfold gTr
          rw [as119_21, show (s119.1 a0 19).toInt = sd by omega]
          exact ⟨fun _ c h1 h2 => absurd h2 (by omega), Or.inl zP0, fun _ => zP0, by omega⟩
        have zlk_0 : zLkp a0 σ s119 := ⟨fun j _ _ => by rw [as119_39, as119_40]; exact ⟨rfl, rfl⟩, fun b _ _ => by rw [as119_33, as119_34, as119_35, as119_36, as119_37]; exact ⟨rfl, rfl, rfl, rfl, rfl⟩, fun k h0 h5 => by rw [as119_30, as119_31]; exact zP3k k h0 h5⟩
        have Lp133 : ∀ (nLp133 : Nat) (τ133 : zS) , zJ v11.toInt L kd τ133 → zSame a0 [2, 4, 10, 11, 12, 13, 14, 15, 16, 17, 18, 19, 32, 38, 41, 42, 44, 50, 51, 57, 62] [103, 105, 106, 107, 108, 120, 121, 122, 123, 124, 125, 126, 127, 128, 129, 130, 131, 133, 134, 135, 136, 137, 139, 140, 143, 148, 149, 167] L kd σ τ133 → gE a0 τ133 → gH a0 τ133 → gK a0 τ133 → gL a0 τ133 → gN a0 τ133 → R = F_X11_read_117 x7 a0 (F_X11_read_10 a0  nLp8) nLp133  τ133 → 0 ≤ (τ133.1 a0 13).toInt ∧ 0 ≤ (τ133.1 a0 11).toInt ∧ (τ133.1 a0 11).toInt ≤ 400 ∧ (τ133.1 a0 19).toInt + (τ133.1 a0 18).toInt = 1 ∧ 0 ≤ (τ133.1 a0 18).toInt ∧ (τ133.1 a0 18).toInt ≤ 1 ∧ (τ133.1 a0 18).toInt = (σ.1 a0 18).toInt ∧ (1 ≤ (τ133.1 a0 13).toInt ∨ ((τ133.1 a0 12).toInt = 0 ∧ (420 * (τ133.1 a0 19).toInt ≤ (τ133.1 a0 38).toInt ∧ (τ133.1 a0 38).toInt ≤ 420 * (τ133.1 a0 19).toInt + (τ133.1 a0 11).toInt ∧ 130 * (τ133.1 a0 19).toInt ≤ (τ133.1 a0 32).toInt ∧ 4 * ((τ133.1 a0 32).toInt - 130 * (τ133.1 a0 19).toInt) ≤ (τ133.1 a0 11).toInt))) → 402 - (τ133.1 a0 11).toInt - min (τ133.1 a0 13).toInt 1 < (nLp133 : Int) → (((τ133.1 a0 13).toInt = 0 → gP a0 τ133 ∧ gTr a0 τ133)) → (zLkp a0 σ τ133) → zG d L kd A 2 p l e (k2_rm 7 (100 * 7)) s m args below meth c Q τ133 117 [(1, .int x7), (0, .ref a0)] [] := by
          intro nLp133
          induction nLp133 with
          | zero => intro τ133  hI hS gE_Lp133 gH_Lp133 gK_Lp133 gL_Lp133 gN_Lp133 E  hxLp133 hm _ _ ; exact absurd hm (by omega)
          | succ nLp133 ihLp133 =>
            intro τ133  hI hS gE_Lp133 gH_Lp133 gK_Lp133 gL_Lp133 gN_Lp133 E  hxLp133 hmLp133 hpt hlk
            rw [F_X11_read_117] at E
            refine zg_aload_n X 1 rfl dX11_read_117 ?_
            refine fg_X11_206 X hI ha0 dX11_read_118 (fun v134 ev134 hv134 => ?_)
            replace E := zLet_s ev134 E
            have kv134 : (τ133.1 a0 13).toInt = v134.toInt := by rw [ev134]
            refine zg_if_ne X 139 dX11_read_121 (by decide) (fun c135 => ?_) (fun c135 => ?_)
            · skip
              replace E := zIf_f c135 E
              refine zg_aload_n X 1 rfl dX11_read_139 ?_
              refine zg_aload_n X 1 rfl dX11_read_140 ?_
              refine fg_X11_206 X hI ha0 dX11_read_141 (fun v136 ev136 hv136 => ?_)
              replace E := zLet_s ev136 E
              have kv136 : (τ133.1 a0 13).toInt = v136.toInt := by rw [ev136]
              have mv136 : v136.toInt = v134.toInt := by rw [ev136, ← ev134]
              refine zg_if_le X 154 dX11_read_144 (by decide) (fun c137 => ?_) (fun c137 => ?_)
              · omega
              · skip
                replace E := zIf_t c137 E
                refine zg_aload_n X 1 rfl dX11_read_147 ?_
                refine fg_X11_212 X hI ha0 dX11_read_148 (fun v138 ev138 _ => ?_)
                replace E := zLet_s ev138 E
                refine zg_goto X 169 dX11_read_151 (by decide) ?_
                refine fp_X11_37 X hI ha0 (zb_rng _) dX11_read_169 (fun s139 es139 hI => ?_)
                replace E := zLet_s es139 E
                have g140 := (zSame.rf (o := a0) (Wf := [17]) (Wa := []) (L := L) (kd := kd) (σ := τ133)).f ha0 es139 rfl
                have fs139_11 : (s139.1 a0 11).toInt = (τ133.1 a0 11).toInt := by rw [g140.2.1 11 (by decide)]
                have fs139_12 : (s139.1 a0 12).toInt = (τ133.1 a0 12).toInt := by rw [g140.2.1 12 (by decide)]
                have fs139_13 : (s139.1 a0 13).toInt = (τ133.1 a0 13).toInt := by rw [g140.2.1 13 (by decide)]
                have fs139_15 : (s139.1 a0 15).toInt = (τ133.1 a0 15).toInt := by rw [g140.2.1 15 (by decide)]
                have fs139_18 : (s139.1 a0 18).toInt = (τ133.1 a0 18).toInt := by rw [g140.2.1 18 (by decide)]
                have fs139_19 : (s139.1 a0 19).toInt = (τ133.1 a0 19).toInt := by rw [g140.2.1 19 (by decide)]
                have fs139_32 : (s139.1 a0 32).toInt = (τ133.1 a0 32).toInt := by rw [g140.2.1 32 (by decide)]
                have fs139_38 : (s139.1 a0 38).toInt = (τ133.1 a0 38).toInt := by rw [g140.2.1 38 (by decide)]
                have fs139_41 : (s139.1 a0 41).toInt = (τ133.1 a0 41).toInt := by rw [g140.2.1 41 (by decide)]
                have fs139_42 : (s139.1 a0 42).toInt = (τ133.1 a0 42).toInt := by rw [g140.2.1 42 (by decide)]
                have fs139_57 : (s139.1 a0 57).toInt = (τ133.1 a0 57).toInt := by rw [g140.2.1 57 (by decide)]
                have hS := hS.tr g140 (by decide) (by decide)
                have as139_30 := zp_same hI ha0 g140 30 rfl (by decide) (by decide)
                have as139_31 := zp_same hI ha0 g140 31 rfl (by decide) (by decide)
                have as139_33 := zp_same hI ha0 g140 33 rfl (by decide) (by decide)
                have as139_34 := zp_same hI ha0 g140 34 rfl (by decide) (by decide)
                have as139_35 := zp_same hI ha0 g140 35 rfl (by decide) (by decide)
                have as139_36 := zp_same hI ha0 g140 36 rfl (by decide) (by decide)
                have as139_37 := zp_same hI ha0 g140 37 rfl (by decide) (by decide)
                have as139_39 := zp_same hI ha0 g140 39 rfl (by decide) (by decide)
                have as139_40 := zp_same hI ha0 g140 40 rfl (by decide) (by decide)
                have gEs139 := gE.same hI ha0 g140 (by decide) gE_Lp133
                have gHs139 := gH.same hI ha0 g140 (by decide) gH_Lp133
                have gKs139 := gK.same hI ha0 g140 (by decide) gK_Lp133
                have gLs139 := gL.same hI ha0 g140 (by decide) gL_Lp133
                have gNs139 := gN.same hI ha0 g140 (by decide) gN_Lp133
                have e141 := g140.v ev136 (by decide)
                have fs139_17 : (s139.1 a0 17).toInt = v138.toInt := by rw [es139]; exact congrArg _ (zu_s _ _ _ _)
                have e143 : v138 = s139.1 a0 17 := by rw [es139]; exact zm_s
                refine zg_aload_n X 1 rfl dX11_read_172 ?_
                refine fg_X11_206 X hI ha0 dX11_read_173 (fun v144 ev144 hv144 => ?_)
                replace E := zLet_s ev144 E
                have kv144 : (s139.1 a0 13).toInt = v144.toInt := by rw [ev144]
                have mv144 : v144.toInt = v136.toInt := by rw [ev144, ← e141]
                refine zg_if_le X 184 dX11_read_176 (by decide) (fun c145 => ?_) (fun c145 => ?_)
                · omega
                · skip
                  replace E := zIf_t c145 E
                  refine zg_aload_n X 1 rfl dX11_read_179 ?_
                  refine fg_X11_206 X hI ha0 dX11_read_180 (fun v146 ev146 hv146 => ?_)
                  replace E := zLet_s ev146 E
                  have kv146 : (s139.1 a0 13).toInt = v146.toInt := by rw [ev146]
                  have mv146 : v146.toInt = v144.toInt := by rw [ev146, ← ev144]
                  exact ret _ _ _ _ dX11_read_183 rfl ⟨E.symm.trans hR, ⟨⟨(by first | exact hl2.st as139_30 as139_31 as139_33 as139_34 as139_35 as139_36 as139_37 as139_39 as139_40 | exact hlk.st as139_30 as139_31 as139_33 as139_34 as139_35 as139_36 as139_37 as139_39 as139_40), gNs139, gHs139, gEs139, gLs139, gKs139⟩, (zj_eq (by omega) hI), hS⟩⟩
            · skip
              replace E := zIf_t c135 E
              refine zg_aload_n X 1 rfl dX11_read_124 ?_
              refine zg_iconst X 0 dX11_read_125 (by decide) (fun v147 _ hv147 => ?_)
              replace E := zLet_s (zcst hv147 (by decide)) E
              refine zg_cVi (As := [.int v147]) (st := []) X ha0 rfl (by decide) rfl (t_X11_is l d L kd v11.toInt _ hI a0 ha0 v147  ) mk_X11_224 mc_X11_is mz_X11 mi_X11_is ml_X11_is (na := 1) ⟨md_X11.1, md_X11.2, by decide +kernel⟩ rfl ⟨by decide, by decide⟩ (Nat.le_of_ble_eq_true rfl) dX11_read_126 (fun v149 t148 hq => ?_)
              obtain ⟨⟨hF, ⟨ht148_res, ht148_fact0⟩⟩, rfl⟩ := hq
              replace E := zLet_s hF E
              refine zg_if_ne X 139 dX11_read_129 (by decide) (fun c150 => ?_) (fun c150 => ?_)
              · skip
                replace E := zIf_f c150 E
                refine zg_aload_n X 1 rfl dX11_read_139 ?_
                refine zg_aload_n X 1 rfl dX11_read_140 ?_
                refine fg_X11_206 X hI ha0 dX11_read_141 (fun v151 ev151 hv151 => ?_)
                replace E := zLet_s ev151 E
                have kv151 : (τ133.1 a0 13).toInt = v151.toInt := by rw [ev151]
                have mv151 : v151.toInt = v134.toInt := by rw [ev151, ← ev134]
                refine zg_if_le X 154 dX11_read_144 (by decide) (fun c152 => ?_) (fun c152 => ?_)
                · skip
                  replace E := zIf_f (Int.not_lt.mpr c152) E
                  refine zg_aload_n X 1 rfl dX11_read_154 ?_
                  refine fg_X11_215 X hI ha0 dX11_read_155 (fun v153 ev153 _ => ?_)
                  replace E := zLet_s ev153 E
                  have kv153 : (τ133.1 a0 15).toInt = v153.toInt := by rw [ev153]
                  refine zg_if_le X 168 dX11_read_158 (by decide) (fun c154 => ?_) (fun c154 => ?_)
                  · skip
                    replace E := zIf_f (Int.not_lt.mpr c154) E
                    refine zg_iconst X (-1) dX11_read_168 (by decide) (fun v155 _ hv155 => ?_)
                    replace E := zLet_s (zcst hv155 (by decide)) E
                    refine fp_X11_37 X hI ha0 (zb_rng _) dX11_read_169 (fun s156 es156 hI => ?_)
                    replace E := zLet_s es156 E
                    have g157 := (zSame.rf (o := a0) (Wf := [17]) (Wa := []) (L := L) (kd := kd) (σ := τ133)).f ha0 es156 rfl
                    have fs156_11 : (s156.1 a0 11).toInt = (τ133.1 a0 11).toInt := by rw [g157.2.1 11 (by decide)]
                    have fs156_12 : (s156.1 a0 12).toInt = (τ133.1 a0 12).toInt := by rw [g157.2.1 12 (by decide)]
                    have fs156_13 : (s156.1 a0 13).toInt = (τ133.1 a0 13).toInt := by rw [g157.2.1 13 (by decide)]
                    have fs156_15 : (s156.1 a0 15).toInt = (τ133.1 a0 15).toInt := by rw [g157.2.1 15 (by decide)]
                    have fs156_18 : (s156.1 a0 18).toInt = (τ133.1 a0 18).toInt := by rw [g157.2.1 18 (by decide)]
                    have fs156_19 : (s156.1 a0 19).toInt = (τ133.1 a0 19).toInt := by rw [g157.2.1 19 (by decide)]
                    have fs156_32 : (s156.1 a0 32).toInt = (τ133.1 a0 32).toInt := by rw [g157.2.1 32 (by decide)]
                    have fs156_38 : (s156.1 a0 38).toInt = (τ133.1 a0 38).toInt := by rw [g157.2.1 38 (by decide)]
                    have fs156_41 : (s156.1 a0 41).toInt = (τ133.1 a0 41).toInt := by rw [g157.2.1 41 (by decide)]
                    have fs156_42 : (s156.1 a0 42).toInt = (τ133.1 a0 42).toInt := by rw [g157.2.1 42 (by decide)]
                    have fs156_57 : (s156.1 a0 57).toInt = (τ133.1 a0 57).toInt := by rw [g157.2.1 57 (by decide)]
                    have hS := hS.tr g157 (by decide) (by decide)
                    have as156_30 := zp_same hI ha0 g157 30 rfl (by decide) (by decide)
                    have as156_31 := zp_same hI ha0 g157 31 rfl (by decide) (by decide)
                    have as156_33 := zp_same hI ha0 g157 33 rfl (by decide) (by decide)
                    have as156_34 := zp_same hI ha0 g157 34 rfl (by decide) (by decide)
                    have as156_35 := zp_same hI ha0 g157 35 rfl (by decide) (by decide)
                    have as156_36 := zp_same hI ha0 g157 36 rfl (by decide) (by decide)
                    have as156_37 := zp_same hI ha0 g157 37 rfl (by decide) (by decide)
                    have as156_39 := zp_same hI ha0 g157 39 rfl (by decide) (by decide)
                    have as156_40 := zp_same hI ha0 g157 40 rfl (by decide) (by decide)
                    have gKs156 := gK.same hI ha0 g157 (by decide) gK_Lp133
                    have e158 := g157.v ev151 (by decide)
                    have e159 := g157.v ev153 (by decide)
                    have fs156_17 : (s156.1 a0 17).toInt = v155.toInt := by rw [es156]; exact congrArg _ (zu_s _ _ _ _)
                    have e160 : v155 = s156.1 a0 17 := by rw [es156]; exact zm_s
                    refine zg_aload_n X 1 rfl dX11_read_172 ?_
                    refine fg_X11_206 X hI ha0 dX11_read_173 (fun v161 ev161 hv161 => ?_)
                    replace E := zLet_s ev161 E
                    have kv161 : (s156.1 a0 13).toInt = v161.toInt := by rw [ev161]
                    have mv161 : v161.toInt = v151.toInt := by rw [ev161, ← e158]
                    refine zg_if_le X 184 dX11_read_176 (by decide) (fun c162 => ?_) (fun c162 => ?_)
                    · skip
                      replace E := zIf_f (Int.not_lt.mpr c162) E
                      refine zg_aload_n X 1 rfl dX11_read_184 ?_
                      refine fg_X11_215 X hI ha0 dX11_read_185 (fun v163 ev163 _ => ?_)
                      replace E := zLet_s ev163 E
                      have kv163 : (s156.1 a0 15).toInt = v163.toInt := by rw [ev163]
                      have mv163 : v163.toInt = v153.toInt := by rw [ev163, ← e159]
                      refine zg_if_le X 196 dX11_read_188 (by decide) (fun c164 => ?_) (fun c164 => ?_)
                      · skip
                        replace E := zIf_f (Int.not_lt.mpr c164) E
                        have gP_e := gP.same hI ha0 g157 (by decide) (hpt (by omega)).1
                        have gT_e := gTr.same hI ha0 g157 (by decide) (hpt (by omega)).2
                        refine zg_aload_n X 1 rfl dX11_read_196 ?_
                        refine zg_aload_n X 1 rfl dX11_read_197 ?_
                        refine fg_X11_239 X hI ha0 dX11_read_198 (fun v165 ev165 hv165 => ?_)
                        replace E := zLet_s ev165 E
                        have kv165 : (s156.1 a0 19).toInt = v165.toInt := by rw [ev165]
                        refine fp_X11_236 X hI ha0 ⟨by omega, by omega⟩ dX11_read_201 (fun s166 es166 hI => ?_)
                        replace E := zLet_s es166 E
                        have g167 := (zSame.rf (o := a0) (Wf := [18]) (Wa := []) (L := L) (kd := kd) (σ := s156)).f ha0 es166 rfl
                        have fs166_11 : (s166.1 a0 11).toInt = (s156.1 a0 11).toInt := by rw [g167.2.1 11 (by decide)]
                        have fs166_12 : (s166.1 a0 12).toInt = (s156.1 a0 12).toInt := by rw [g167.2.1 12 (by decide)]
                        have fs166_13 : (s166.1 a0 13).toInt = (s156.1 a0 13).toInt := by rw [g167.2.1 13 (by decide)]
                        have fs166_15 : (s166.1 a0 15).toInt = (s156.1 a0 15).toInt := by rw [g167.2.1 15 (by decide)]
                        have fs166_19 : (s166.1 a0 19).toInt = (s156.1 a0 19).toInt := by rw [g167.2.1 19 (by decide)]
                        have fs166_32 : (s166.1 a0 32).toInt = (s156.1 a0 32).toInt := by rw [g167.2.1 32 (by decide)]
                        have fs166_38 : (s166.1 a0 38).toInt = (s156.1 a0 38).toInt := by rw [g167.2.1 38 (by decide)]
                        have fs166_41 : (s166.1 a0 41).toInt = (s156.1 a0 41).toInt := by rw [g167.2.1 41 (by decide)]
                        have fs166_42 : (s166.1 a0 42).toInt = (s156.1 a0 42).toInt := by rw [g167.2.1 42 (by decide)]
                        have fs166_57 : (s166.1 a0 57).toInt = (s156.1 a0 57).toInt := by rw [g167.2.1 57 (by decide)]
                        have hS := hS.tr g167 (by decide) (by decide)
                        have us166_21 := zp_same hI ha0 g167 21 rfl (by decide) (by decide)
                        have us166_22 := zp_same hI ha0 g167 22 rfl (by decide) (by decide)
                        have as166_30 := (zp_same hI ha0 g167 30 rfl (by decide) (by decide)).trans as156_30
                        have as166_31 := (zp_same hI ha0 g167 31 rfl (by decide) (by decide)).trans as156_31
                        have as166_33 := (zp_same hI ha0 g167 33 rfl (by decide) (by decide)).trans as156_33
                        have as166_34 := (zp_same hI ha0 g167 34 rfl (by decide) (by decide)).trans as156_34
                        have as166_35 := (zp_same hI ha0 g167 35 rfl (by decide) (by decide)).trans as156_35
                        have as166_36 := (zp_same hI ha0 g167 36 rfl (by decide) (by decide)).trans as156_36
                        have as166_37 := (zp_same hI ha0 g167 37 rfl (by decide) (by decide)).trans as156_37
                        have as166_39 := (zp_same hI ha0 g167 39 rfl (by decide) (by decide)).trans as156_39
                        have as166_40 := (zp_same hI ha0 g167 40 rfl (by decide) (by decide)).trans as156_40
                        have gKs166 := gK.same hI ha0 g167 (by decide) gKs156
                        have fs166_18 : (s166.1 a0 18).toInt = v165.toInt := by rw [es166]; exact congrArg _ (zu_s _ _ _ _)
                        have e172 : v165 = s166.1 a0 18 := by rw [es166]; exact zm_s
                        have gL_n : gL a0 s166 := gL.of gP_e (gLw_same hI ha0 g167 (by decide)) (by omega) (by omega) (by omega)
                        have gT_n : gT a0 s166 := by
                          obtain ⟨y1, y2, y3, y4⟩ := gT_e
                          have e : zM a0 s166 = zp a0 s156 21 (s156.1 a0 19).toInt := by unfold zM; rw [show (s166.1 a0 18).toInt = (s156.1 a0 19).toInt by omega, us166_21]
                          intro c h1 h2
                          rw [e] at h2
                          rw [us166_22, show (s166.1 a0 18).toInt = (s156.1 a0 19).toInt by omega]
                          exact y1 (by omega) c h1 (by omega)
                        refine zg_aload_n X 1 rfl dX11_read_204 ?_
                        refine zg_cVv (As := []) (st := []) X ha0 rfl (by decide) rfl (t_X11_begins l d L kd v11.toInt _ hI a0 ha0    gT_n) mk_X11_163 mc_X11_begins mz_X11 mi_X11_begins ml_X11_begins (na := 0) ⟨md_X11.1, md_X11.2, by decide +kernel⟩ rfl ⟨by decide, by decide⟩ (Nat.le_of_ble_eq_true rfl) dX11_read_205 (fun t173 hq => ?_)
                        obtain ⟨hF, gRt173, hI, g174⟩ := hq
                        replace E := zLet_s hF E
                        have ft173_11 : (t173.1 a0 11).toInt = (s166.1 a0 11).toInt := by rw [g174.2.1 11 (by decide)]
                        have ft173_12 : (t173.1 a0 12).toInt = (s166.1 a0 12).toInt := by rw [g174.2.1 12 (by decide)]
                        have ft173_13 : (t173.1 a0 13).toInt = (s166.1 a0 13).toInt := by rw [g174.2.1 13 (by decide)]
                        have ft173_15 : (t173.1 a0 15).toInt = (s166.1 a0 15).toInt := by rw [g174.2.1 15 (by decide)]
                        have ft173_18 : (t173.1 a0 18).toInt = (s166.1 a0 18).toInt := by rw [g174.2.1 18 (by decide)]
                        have ft173_19 : (t173.1 a0 19).toInt = (s166.1 a0 19).toInt := by rw [g174.2.1 19 (by decide)]
                        have ft173_32 : (t173.1 a0 32).toInt = (s166.1 a0 32).toInt := by rw [g174.2.1 32 (by decide)]
                        have ft173_38 : (t173.1 a0 38).toInt = (s166.1 a0 38).toInt := by rw [g174.2.1 38 (by decide)]
                        have ft173_41 : (t173.1 a0 41).toInt = (s166.1 a0 41).toInt := by rw [g174.2.1 41 (by decide)]
                        have ft173_42 : (t173.1 a0 42).toInt = (s166.1 a0 42).toInt := by rw [g174.2.1 42 (by decide)]
                        have ft173_57 : (t173.1 a0 57).toInt = (s166.1 a0 57).toInt := by rw [g174.2.1 57 (by decide)]
                        have hS := hS.tr g174 (by decide) (by decide)
                        have at173_30 := (zp_same hI ha0 g174 30 rfl (by decide) (by decide)).trans as166_30
                        have at173_31 := (zp_same hI ha0 g174 31 rfl (by decide) (by decide)).trans as166_31
                        have at173_33 := (zp_same hI ha0 g174 33 rfl (by decide) (by decide)).trans as166_33
                        have at173_34 := (zp_same hI ha0 g174 34 rfl (by decide) (by decide)).trans as166_34
                        have at173_35 := (zp_same hI ha0 g174 35 rfl (by decide) (by decide)).trans as166_35
                        have at173_36 := (zp_same hI ha0 g174 36 rfl (by decide) (by decide)).trans as166_36
                        have at173_37 := (zp_same hI ha0 g174 37 rfl (by decide) (by decide)).trans as166_37
                        have at173_39 := (zp_same hI ha0 g174 39 rfl (by decide) (by decide)).trans as166_39
                        have at173_40 := (zp_same hI ha0 g174 40 rfl (by decide) (by decide)).trans as166_40
                        have gKt173 := gK.same hI ha0 g174 (by decide) gKs166
                        have gLt173 := gL.same hI ha0 g174 (by decide) gL_n
                        have gTt173 := gT.same hI ha0 g174 (by decide) gT_n
                        refine zg_aload_n X 1 rfl dX11_read_208 ?_
                        refine zg_cVv (As := []) (st := []) X ha0 rfl (by decide) rfl (t_X11_keepsRow l d L kd v11.toInt _ hI a0 ha0   ) mk_X11_166 mc_X11_keepsRow mz_X11 mi_X11_keepsRow ml_X11_keepsRow (na := 0) ⟨md_X11.1, md_X11.2, by decide +kernel⟩ rfl ⟨by decide, by decide⟩ (Nat.le_of_ble_eq_true rfl) dX11_read_209 (fun t180 hq => ?_)
                        obtain ⟨hF, ht180_fact0, hI, g181⟩ := hq
                        replace E := zLet_s hF E
                        have ft180_11 : (t180.1 a0 11).toInt = (t173.1 a0 11).toInt := by rw [g181.2.1 11 (by decide)]
                        have ft180_12 : (t180.1 a0 12).toInt = (t173.1 a0 12).toInt := by rw [g181.2.1 12 (by decide)]
                        have ft180_13 : (t180.1 a0 13).toInt = (t173.1 a0 13).toInt := by rw [g181.2.1 13 (by decide)]
                        have ft180_15 : (t180.1 a0 15).toInt = (t173.1 a0 15).toInt := by rw [g181.2.1 15 (by decide)]
                        have ft180_18 : (t180.1 a0 18).toInt = (t173.1 a0 18).toInt := by rw [g181.2.1 18 (by decide)]
                        have ft180_19 : (t180.1 a0 19).toInt = (t173.1 a0 19).toInt := by rw [g181.2.1 19 (by decide)]
                        have ft180_32 : (t180.1 a0 32).toInt = (t173.1 a0 32).toInt := by rw [g181.2.1 32 (by decide)]
                        have ft180_38 : (t180.1 a0 38).toInt = (t173.1 a0 38).toInt := by rw [g181.2.1 38 (by decide)]
                        have ft180_41 : (t180.1 a0 41).toInt = (t173.1 a0 41).toInt := by rw [g181.2.1 41 (by decide)]
                        have ft180_42 : (t180.1 a0 42).toInt = (t173.1 a0 42).toInt := by rw [g181.2.1 42 (by decide)]
                        have ft180_57 : (t180.1 a0 57).toInt = (t173.1 a0 57).toInt := by rw [g181.2.1 57 (by decide)]
                        have hS := hS.tr g181 (by decide) (by decide)
                        have at180_30 := (zp_same hI ha0 g181 30 rfl (by decide) (by decide)).trans at173_30
                        have at180_31 := (zp_same hI ha0 g181 31 rfl (by decide) (by decide)).trans at173_31
                        have at180_33 := (zp_same hI ha0 g181 33 rfl (by decide) (by decide)).trans at173_33
                        have at180_34 := (zp_same hI ha0 g181 34 rfl (by decide) (by decide)).trans at173_34
                        have at180_35 := (zp_same hI ha0 g181 35 rfl (by decide) (by decide)).trans at173_35
                        have at180_36 := (zp_same hI ha0 g181 36 rfl (by decide) (by decide)).trans at173_36
                        have at180_37 := (zp_same hI ha0 g181 37 rfl (by decide) (by decide)).trans at173_37
                        have at180_39 := (zp_same hI ha0 g181 39 rfl (by decide) (by decide)).trans at173_39
                        have at180_40 := (zp_same hI ha0 g181 40 rfl (by decide) (by decide)).trans at173_40
                        have gKt180 := gK.same hI ha0 g181 (by decide) gKt173
                        have gLt180 := gL.same hI ha0 g181 (by decide) gLt173
                        have gTt180 := gT.same hI ha0 g181 (by decide) gTt173
                        have gRt180 := gR.same hI ha0 g181 (by decide) gRt173
                        have gN_n : gN a0 t180 := by
                          unfold gN
                          exact gRow.congr (zM_in hI ha0).2 (show gRow _ _ from gRt180) (fun j h1 h2 => ht180_fact0 j (by omega) (by omega))
                        refine zg_aload_n X 1 rfl dX11_read_212 ?_
                        refine zg_iconst X 0 dX11_read_213 (by decide) (fun v187 _ hv187 => ?_)
                        replace E := zLet_s (zcst hv187 (by decide)) E
                        refine fp_X11_258 X hI ha0 ⟨by omega, by omega⟩ dX11_read_214 (fun s188 es188 hI => ?_)
                        replace E := zLet_s es188 E
                        have g189 := (zSame.rf (o := a0) (Wf := [57]) (Wa := []) (L := L) (kd := kd) (σ := t180)).f ha0 es188 rfl
                        have fs188_11 : (s188.1 a0 11).toInt = (t180.1 a0 11).toInt := by rw [g189.2.1 11 (by decide)]
                        have fs188_12 : (s188.1 a0 12).toInt = (t180.1 a0 12).toInt := by rw [g189.2.1 12 (by decide)]
                        have fs188_13 : (s188.1 a0 13).toInt = (t180.1 a0 13).toInt := by rw [g189.2.1 13 (by decide)]
                        have fs188_15 : (s188.1 a0 15).toInt = (t180.1 a0 15).toInt := by rw [g189.2.1 15 (by decide)]
                        have fs188_18 : (s188.1 a0 18).toInt = (t180.1 a0 18).toInt := by rw [g189.2.1 18 (by decide)]
                        have fs188_19 : (s188.1 a0 19).toInt = (t180.1 a0 19).toInt := by rw [g189.2.1 19 (by decide)]
                        have fs188_32 : (s188.1 a0 32).toInt = (t180.1 a0 32).toInt := by rw [g189.2.1 32 (by decide)]
                        have fs188_38 : (s188.1 a0 38).toInt = (t180.1 a0 38).toInt := by rw [g189.2.1 38 (by decide)]
                        have fs188_41 : (s188.1 a0 41).toInt = (t180.1 a0 41).toInt := by rw [g189.2.1 41 (by decide)]
                        have fs188_42 : (s188.1 a0 42).toInt = (t180.1 a0 42).toInt := by rw [g189.2.1 42 (by decide)]
                        have hS := hS.tr g189 (by decide) (by decide)
                        have as188_30 := (zp_same hI ha0 g189 30 rfl (by decide) (by decide)).trans at180_30
                        have as188_31 := (zp_same hI ha0 g189 31 rfl (by decide) (by decide)).trans at180_31
                        have as188_33 := (zp_same hI ha0 g189 33 rfl (by decide) (by decide)).trans at180_33
                        have as188_34 := (zp_same hI ha0 g189 34 rfl (by decide) (by decide)).trans at180_34
                        have as188_35 := (zp_same hI ha0 g189 35 rfl (by decide) (by decide)).trans at180_35
                        have as188_36 := (zp_same hI ha0 g189 36 rfl (by decide) (by decide)).trans at180_36
                        have as188_37 := (zp_same hI ha0 g189 37 rfl (by decide) (by decide)).trans at180_37
                        have as188_39 := (zp_same hI ha0 g189 39 rfl (by decide) (by decide)).trans at180_39
                        have as188_40 := (zp_same hI ha0 g189 40 rfl (by decide) (by decide)).trans at180_40
                        have gKs188 := gK.same hI ha0 g189 (by decide) gKt180
                        have gLs188 := gL.same hI ha0 g189 (by decide) gLt180
                        have gTs188 := gT.same hI ha0 g189 (by decide) gTt180
                        have gRs188 := gR.same hI ha0 g189 (by decide) gRt180
                        have gNs188 := gN.same hI ha0 g189 (by decide) gN_n
                        have fs188_57 : (s188.1 a0 57).toInt = v187.toInt := by rw [es188]; exact congrArg _ (zu_s _ _ _ _)
                        have e195 : v187 = s188.1 a0 57 := by rw [es188]; exact zm_s
                        have gH_n : gH a0 s188 := fun i h0 h1 => absurd h1 (by omega)
                        refine zg_aload_n X 1 rfl dX11_read_217 ?_
                        refine zg_iconst X 0 dX11_read_218 (by decide) (fun v196 _ hv196 => ?_)
                        replace E := zLet_s (zcst hv196 (by decide)) E
                        refine fp_X11_261 X hI ha0 ⟨by omega, by omega⟩ dX11_read_219 (fun s197 es197 hI => ?_)
                        replace E := zLet_s es197 E
                        have g198 := (zSame.rf (o := a0) (Wf := [62]) (Wa := []) (L := L) (kd := kd) (σ := s188)).f ha0 es197 rfl
                        have fs197_11 : (s197.1 a0 11).toInt = (s188.1 a0 11).toInt := by rw [g198.2.1 11 (by decide)]
                        have fs197_12 : (s197.1 a0 12).toInt = (s188.1 a0 12).toInt := by rw [g198.2.1 12 (by decide)]
                        have fs197_13 : (s197.1 a0 13).toInt = (s188.1 a0 13).toInt := by rw [g198.2.1 13 (by decide)]
                        have fs197_15 : (s197.1 a0 15).toInt = (s188.1 a0 15).toInt := by rw [g198.2.1 15 (by decide)]
                        have fs197_18 : (s197.1 a0 18).toInt = (s188.1 a0 18).toInt := by rw [g198.2.1 18 (by decide)]
                        have fs197_19 : (s197.1 a0 19).toInt = (s188.1 a0 19).toInt := by rw [g198.2.1 19 (by decide)]
                        have fs197_32 : (s197.1 a0 32).toInt = (s188.1 a0 32).toInt := by rw [g198.2.1 32 (by decide)]
                        have fs197_38 : (s197.1 a0 38).toInt = (s188.1 a0 38).toInt := by rw [g198.2.1 38 (by decide)]
                        have fs197_41 : (s197.1 a0 41).toInt = (s188.1 a0 41).toInt := by rw [g198.2.1 41 (by decide)]
                        have fs197_42 : (s197.1 a0 42).toInt = (s188.1 a0 42).toInt := by rw [g198.2.1 42 (by decide)]
                        have fs197_57 : (s197.1 a0 57).toInt = (s188.1 a0 57).toInt := by rw [g198.2.1 57 (by decide)]
                        have hS := hS.tr g198 (by decide) (by decide)
                        have as197_30 := (zp_same hI ha0 g198 30 rfl (by decide) (by decide)).trans as188_30
                        have as197_31 := (zp_same hI ha0 g198 31 rfl (by decide) (by decide)).trans as188_31
                        have as197_33 := (zp_same hI ha0 g198 33 rfl (by decide) (by decide)).trans as188_33
                        have as197_34 := (zp_same hI ha0 g198 34 rfl (by decide) (by decide)).trans as188_34
                        have as197_35 := (zp_same hI ha0 g198 35 rfl (by decide) (by decide)).trans as188_35
                        have as197_36 := (zp_same hI ha0 g198 36 rfl (by decide) (by decide)).trans as188_36
                        have as197_37 := (zp_same hI ha0 g198 37 rfl (by decide) (by decide)).trans as188_37
                        have as197_39 := (zp_same hI ha0 g198 39 rfl (by decide) (by decide)).trans as188_39
                        have as197_40 := (zp_same hI ha0 g198 40 rfl (by decide) (by decide)).trans as188_40
                        have gKs197 := gK.same hI ha0 g198 (by decide) gKs188
                        have gLs197 := gL.same hI ha0 g198 (by decide) gLs188
                        have gTs197 := gT.same hI ha0 g198 (by decide) gTs188
                        have gRs197 := gR.same hI ha0 g198 (by decide) gRs188
                        have gNs197 := gN.same hI ha0 g198 (by decide) gNs188
                        have gHs197 := gH.same hI ha0 g198 (by decide) gH_n
                        have fs197_62 : (s197.1 a0 62).toInt = v196.toInt := by rw [es197]; exact congrArg _ (zu_s _ _ _ _)
                        have e205 : v196 = s197.1 a0 62 := by rw [es197]; exact zm_s
                        refine zg_iconst X 0 dX11_read_222 (by decide) (fun v206 _ hv206 => ?_)
                        replace E := zLet_s (zcst hv206 (by decide)) E
                        refine zg_istore_n X [(1, .int v206), (0, .ref a0)] dX11_read_223 (by decide) rfl ?_
                        have Lp208 : ∀ (nLp208 : Nat) (τ208 : zS) (x207 : Int32), zJ v11.toInt L kd τ208 → zSame a0 [2, 4, 10, 11, 12, 13, 14, 15, 16, 17, 18, 19, 32, 38, 41, 42, 44, 50, 51, 57, 62] [103, 105, 106, 107, 108, 120, 121, 122, 123, 124, 125, 126, 127, 128, 129, 130, 131, 133, 134, 135, 136, 137, 139, 140, 143, 148, 149, 167] L kd σ τ208 → gH a0 τ208 → gK a0 τ208 → gL a0 τ208 → gN a0 τ208 → R = F_X11_read_224 a0 (F_X11_read_10 a0  nLp8) (F_X11_read_117 x7 a0 (F_X11_read_10 a0  nLp8) nLp133) nLp208 x207 τ208 → 0 ≤ x207.toInt ∧ x207.toInt ≤ 3 → (3) - x207.toInt + 1 < (nLp208 : Int) → (zLkp a0 σ τ208) → (∀ i : Int, 0 ≤ i → i < x207.toInt → zp a0 τ208 67 i = 0) → zG d L kd A 2 p l e (k2_rm 7 (100 * 7)) s m args below meth c Q τ208 224 [(1, .int x207), (0, .ref a0)] [] := by
                          intro nLp208
                          induction nLp208 with
                          | zero => intro τ208 x207 hI hS gH_Lp208 gK_Lp208 gL_Lp208 gN_Lp208 E  hxLp208 hm _ _ ; exact absurd hm (by omega)
                          | succ nLp208 ihLp208 =>
                            intro τ208 x207 hI hS gH_Lp208 gK_Lp208 gL_Lp208 gN_Lp208 E  hxLp208 hmLp208 hl2 hz
                            rw [F_X11_read_224] at E
                            refine zg_iload_n X 0 rfl dX11_read_224 ?_
                            refine zg_iconst X 3 dX11_read_225 (by decide) (fun v209 _ hv209 => ?_)
                            replace E := zLet_s (zcst hv209 (by decide)) E
                            refine zg_icmp_ge X 242 dX11_read_226 (by decide) (fun c210 => ?_) (fun c210 => ?_)
                            · skip
                              replace E := zIf_f (Int.not_lt.mpr c210) E
                              refine zg_iconst X 0 dX11_read_242 (by decide) (fun v211 _ hv211 => ?_)
                              replace E := zLet_s (zcst hv211 (by decide)) E
                              exact ret _ _ _ _ dX11_read_243 rfl ⟨E.symm.trans hR, ⟨⟨(by first | exact hl2.st rfl rfl rfl rfl rfl rfl rfl rfl rfl | exact hlk.st rfl rfl rfl rfl rfl rfl rfl rfl rfl), gN_Lp208, gH_Lp208, (fun i h0 h1 h2 => absurd h2 (by rw [hz i h0 (by omega)]; decide)), gL_Lp208, gK_Lp208⟩, (zj_eq (by omega) hI), hS⟩⟩
                            · skip
                              replace E := zIf_t c210 E
                              refine zg_aload_n X 1 rfl dX11_read_229 ?_
                              refine fg_X11_149 X hI ha0 dX11_read_230 (fun v212 ev212 hv212 => ?_)
                              replace E := zLet_s (zgr ev212) E
                              refine zg_iload_n X 0 rfl dX11_read_233 ?_
                              refine zg_iconst X 0 dX11_read_234 (by decide) (fun v213 _ hv213 => ?_)
                              replace E := zLet_s (zcst hv213 (by decide)) E
                              refine as_167 X hI hv212 (by omega) (by omega) ⟨by omega, by omega⟩ dX11_read_235 (fun s214 es214 hI => ?_)
                              replace E := zLet_s es214 E
                              have g215 := (zSame.rf (o := a0) (Wf := []) (Wa := [167]) (L := L) (kd := kd) (σ := τ208)).a ha0 hv212 es214 rfl (by decide)
                              have rs214 := zp_st (σ := τ208) (σ2 := s214) (i := x207) (x := v213) ev212 (by rw [es214, zb_nz ⟨by omega, by omega⟩]) (by omega)
                              have ws214 := rs214
                              have fs214_11 : (s214.1 a0 11).toInt = (τ208.1 a0 11).toInt := by rw [g215.2.1 11 (by decide)]
                              have fs214_12 : (s214.1 a0 12).toInt = (τ208.1 a0 12).toInt := by rw [g215.2.1 12 (by decide)]
                              have fs214_13 : (s214.1 a0 13).toInt = (τ208.1 a0 13).toInt := by rw [g215.2.1 13 (by decide)]
                              have fs214_15 : (s214.1 a0 15).toInt = (τ208.1 a0 15).toInt := by rw [g215.2.1 15 (by decide)]
                              have fs214_18 : (s214.1 a0 18).toInt = (τ208.1 a0 18).toInt := by rw [g215.2.1 18 (by decide)]
                              have fs214_19 : (s214.1 a0 19).toInt = (τ208.1 a0 19).toInt := by rw [g215.2.1 19 (by decide)]
                              have fs214_32 : (s214.1 a0 32).toInt = (τ208.1 a0 32).toInt := by rw [g215.2.1 32 (by decide)]
                              have fs214_38 : (s214.1 a0 38).toInt = (τ208.1 a0 38).toInt := by rw [g215.2.1 38 (by decide)]
                              have fs214_41 : (s214.1 a0 41).toInt = (τ208.1 a0 41).toInt := by rw [g215.2.1 41 (by decide)]
                              have fs214_42 : (s214.1 a0 42).toInt = (τ208.1 a0 42).toInt := by rw [g215.2.1 42 (by decide)]
                              have fs214_57 : (s214.1 a0 57).toInt = (τ208.1 a0 57).toInt := by rw [g215.2.1 57 (by decide)]
                              have hS := hS.tr g215 (by decide) (by decide)
                              have as214_30 := zp_same hI ha0 g215 30 rfl (by decide) (by decide)
                              have as214_31 := zp_same hI ha0 g215 31 rfl (by decide) (by decide)
                              have as214_33 := zp_same hI ha0 g215 33 rfl (by decide) (by decide)
                              have as214_34 := zp_same hI ha0 g215 34 rfl (by decide) (by decide)
                              have as214_35 := zp_same hI ha0 g215 35 rfl (by decide) (by decide)
                              have as214_36 := zp_same hI ha0 g215 36 rfl (by decide) (by decide)
                              have as214_37 := zp_same hI ha0 g215 37 rfl (by decide) (by decide)
                              have as214_39 := zp_same hI ha0 g215 39 rfl (by decide) (by decide)
                              have as214_40 := zp_same hI ha0 g215 40 rfl (by decide) (by decide)
                              have gHs214 := gH.same hI ha0 g215 (by decide) gH_Lp208
                              have gKs214 := gK.same hI ha0 g215 (by decide) gK_Lp208
                              have gLs214 := gL.same hI ha0 g215 (by decide) gL_Lp208
                              have gNs214 := gN.same hI ha0 g215 (by decide) gN_Lp208
                              refine zg_iinc X 1 (fun v216 => [(1, .int v216), (0, .ref a0)]) 0 dX11_read_236 rfl (by decide) (by decide) (by omega) (by omega) (fun _ => rfl) (fun v216 ev216 hv216 => ?_)
                              replace E := zLet_s (zinc ev216 (by decide)) E
                              refine zg_goto X 224 dX11_read_239 (by decide) ?_
                              refine zg_sub [0, 1] rfl ?_
                              exact ihLp208 _ v216 hI hS gHs214 gKs214 gLs214 gNs214 E  (by omega) (by omega) (hl2.st as214_30 as214_31 as214_33 as214_34 as214_35 as214_36 as214_37 as214_39 as214_40) (fun i h0 h1 => by rw [ws214 i h0]; split <;> rename_i hj <;> first | omega | exact hz i h0 (by omega))
                        refine zg_sub [0, 1] rfl ?_
                        exact Lp208 10000 _ v206 hI hS gHs197 gKs197 gLs197 gNs197 E  (by omega) (by omega) (hlk.st as197_30 as197_31 as197_33 as197_34 as197_35 as197_36 as197_37 as197_39 as197_40) (fun i h0 h1 => absurd h1 (by omega))
                      · omega
                    · omega
                  · skip
                    replace E := zIf_t c154 E
                    refine zg_aload_n X 1 rfl dX11_read_161 ?_
                    refine fg_X11_218 X hI ha0 dX11_read_162 (fun v217 ev217 _ => ?_)
                    replace E := zLet_s ev217 E
                    refine zg_goto X 169 dX11_read_165 (by decide) ?_
                    refine fp_X11_37 X hI ha0 (zb_rng _) dX11_read_169 (fun s218 es218 hI => ?_)
                    replace E := zLet_s es218 E
                    have g219 := (zSame.rf (o := a0) (Wf := [17]) (Wa := []) (L := L) (kd := kd) (σ := τ133)).f ha0 es218 rfl
                    have fs218_11 : (s218.1 a0 11).toInt = (τ133.1 a0 11).toInt := by rw [g219.2.1 11 (by decide)]
                    have fs218_12 : (s218.1 a0 12).toInt = (τ133.1 a0 12).toInt := by rw [g219.2.1 12 (by decide)]
                    have fs218_13 : (s218.1 a0 13).toInt = (τ133.1 a0 13).toInt := by rw [g219.2.1 13 (by decide)]
                    have fs218_15 : (s218.1 a0 15).toInt = (τ133.1 a0 15).toInt := by rw [g219.2.1 15 (by decide)]
                    have fs218_18 : (s218.1 a0 18).toInt = (τ133.1 a0 18).toInt := by rw [g219.2.1 18 (by decide)]
                    have fs218_19 : (s218.1 a0 19).toInt = (τ133.1 a0 19).toInt := by rw [g219.2.1 19 (by decide)]
                    have fs218_32 : (s218.1 a0 32).toInt = (τ133.1 a0 32).toInt := by rw [g219.2.1 32 (by decide)]
                    have fs218_38 : (s218.1 a0 38).toInt = (τ133.1 a0 38).toInt := by rw [g219.2.1 38 (by decide)]
                    have fs218_41 : (s218.1 a0 41).toInt = (τ133.1 a0 41).toInt := by rw [g219.2.1 41 (by decide)]
                    have fs218_42 : (s218.1 a0 42).toInt = (τ133.1 a0 42).toInt := by rw [g219.2.1 42 (by decide)]
                    have fs218_57 : (s218.1 a0 57).toInt = (τ133.1 a0 57).toInt := by rw [g219.2.1 57 (by decide)]
                    have hS := hS.tr g219 (by decide) (by decide)
                    have as218_30 := zp_same hI ha0 g219 30 rfl (by decide) (by decide)
                    have as218_31 := zp_same hI ha0 g219 31 rfl (by decide) (by decide)
                    have as218_33 := zp_same hI ha0 g219 33 rfl (by decide) (by decide)
                    have as218_34 := zp_same hI ha0 g219 34 rfl (by decide) (by decide)
                    have as218_35 := zp_same hI ha0 g219 35 rfl (by decide) (by decide)
                    have as218_36 := zp_same hI ha0 g219 36 rfl (by decide) (by decide)
                    have as218_37 := zp_same hI ha0 g219 37 rfl (by decide) (by decide)
                    have as218_39 := zp_same hI ha0 g219 39 rfl (by decide) (by decide)
                    have as218_40 := zp_same hI ha0 g219 40 rfl (by decide) (by decide)
                    have gEs218 := gE.same hI ha0 g219 (by decide) gE_Lp133
                    have gHs218 := gH.same hI ha0 g219 (by decide) gH_Lp133
                    have gKs218 := gK.same hI ha0 g219 (by decide) gK_Lp133
                    have gLs218 := gL.same hI ha0 g219 (by decide) gL_Lp133
                    have gNs218 := gN.same hI ha0 g219 (by decide) gN_Lp133
                    have e220 := g219.v ev151 (by decide)
                    have e221 := g219.v ev153 (by decide)
                    have fs218_17 : (s218.1 a0 17).toInt = v217.toInt := by rw [es218]; exact congrArg _ (zu_s _ _ _ _)
                    have e223 : v217 = s218.1 a0 17 := by rw [es218]; exact zm_s
                    refine zg_aload_n X 1 rfl dX11_read_172 ?_
                    refine fg_X11_206 X hI ha0 dX11_read_173 (fun v224 ev224 hv224 => ?_)
                    replace E := zLet_s ev224 E
                    have kv224 : (s218.1 a0 13).toInt = v224.toInt := by rw [ev224]
                    have mv224 : v224.toInt = v151.toInt := by rw [ev224, ← e220]
                    refine zg_if_le X 184 dX11_read_176 (by decide) (fun c225 => ?_) (fun c225 => ?_)
                    · skip
                      replace E := zIf_f (Int.not_lt.mpr c225) E
                      refine zg_aload_n X 1 rfl dX11_read_184 ?_
                      refine fg_X11_215 X hI ha0 dX11_read_185 (fun v226 ev226 _ => ?_)
                      replace E := zLet_s ev226 E
                      have kv226 : (s218.1 a0 15).toInt = v226.toInt := by rw [ev226]
                      have mv226 : v226.toInt = v153.toInt := by rw [ev226, ← e221]
                      refine zg_if_le X 196 dX11_read_188 (by decide) (fun c227 => ?_) (fun c227 => ?_)
                      · omega
                      · skip
                        replace E := zIf_t c227 E
                        refine zg_aload_n X 1 rfl dX11_read_191 ?_
                        refine fg_X11_215 X hI ha0 dX11_read_192 (fun v228 ev228 _ => ?_)
                        replace E := zLet_s ev228 E
                        have kv228 : (s218.1 a0 15).toInt = v228.toInt := by rw [ev228]
                        have mv228 : v228.toInt = v226.toInt := by rw [ev228, ← ev226]
                        exact ret _ _ _ _ dX11_read_195 rfl ⟨E.symm.trans hR, ⟨⟨(by first | exact hl2.st as218_30 as218_31 as218_33 as218_34 as218_35 as218_36 as218_37 as218_39 as218_40 | exact hlk.st as218_30 as218_31 as218_33 as218_34 as218_35 as218_36 as218_37 as218_39 as218_40), gNs218, gHs218, gEs218, gLs218, gKs218⟩, (zj_eq (by omega) hI), hS⟩⟩
                    · omega
                · omega
              · skip
                replace E := zIf_t c150 E
                have gP_b := (hpt (by omega)).1
                have gT_b := (hpt (by omega)).2
                refine zg_aload_n X 1 rfl dX11_read_132 ?_
                refine zg_cVv (As := []) (st := []) X ha0 rfl (by decide) rfl (t_X11_tellOne l d L kd v11.toInt _ hI a0 ha0   (by omega) (by omega) (by omega) (by omega) gN_Lp133 gH_Lp133 gE_Lp133 gL_Lp133 gP_b gT_b gK_Lp133) mk_X11_255 mc_X11_tellOne mz_X11 mi_X11_tellOne ml_X11_tellOne (na := 0) ⟨md_X11.1, md_X11.2, by decide +kernel⟩ rfl ⟨by decide, by decide⟩ (Nat.le_of_ble_eq_true rfl) dX11_read_133 (fun t229 hq => ?_)
                obtain ⟨hF, ⟨ht229_fact0, ht229_fact1, ht229_fact2, ht229_fact3, gNt229, gHt229, gEt229, gLt229⟩, hI, g230⟩ := hq
                replace E := zLet_s hF E
                have ft229_18 : (t229.1 a0 18).toInt = (τ133.1 a0 18).toInt := by rw [g230.2.1 18 (by decide)]
                have ft229_19 : (t229.1 a0 19).toInt = (τ133.1 a0 19).toInt := by rw [g230.2.1 19 (by decide)]
                have ft229_57 : (t229.1 a0 57).toInt = (τ133.1 a0 57).toInt := by rw [g230.2.1 57 (by decide)]
                have hS := hS.tr g230 (by decide) (by decide)
                have gKt229 := gK.same hI ha0 g230 (by decide) gK_Lp133
                have z11r : 0 ≤ (t229.1 a0 11).toInt ∧ (t229.1 a0 11).toInt ≤ 400 := zj_get hI ha0 rfl
                have zo0 := ht229_fact0
                have zoP := ht229_fact1
                have zoT := ht229_fact2
                have zok := ht229_fact3
                clear ht229_fact3 ht229_fact2 ht229_fact1 ht229_fact0
                refine zg_goto X 117 dX11_read_136 (by decide) ?_
                refine zg_sub [0, 1] rfl ?_
                exact ihLp133 _  hI hS gEt229 gHt229 gKt229 gLt229 gNt229 E  (by omega) (by omega) (fun h0 => ⟨zoP h0, zoT h0⟩) (hlk.tr zok (by omega))
        refine zg_sub [0, 1] rfl ?_
        exact Lp133 10000 _  hI hS gEs119 gHs119 gKs119 gLs119 gNs119 E  (by omega) (by omega) (fun _ => ⟨gP_0, gTr_0⟩) (zlk_0)
      · skip
        replace E := zIf_t c10 E
        refine zg_aload_n X 1 rfl dX11_read_18 ?_
        refine fg_X11_17 X hI ha0 dX11_read_19 (fun v231 ev231 hv231 => ?_)
        replace E := zLet_s (zgr ev231) E
        refine zg_iload_n X 0 rfl dX11_read_22 ?_
        refine zg_aload_n X 1 rfl dX11_read_23 ?_
        refine fg_X11_13 X hI ha0 dX11_read_24 (fun v232 ev232 hv232 => ?_)
        replace E := zLet_s (zgr ev232) E
        refine zg_iload_n X 0 rfl dX11_read_27 ?_
        refine ag_101 X hI hv232 (by omega) (by omega) dX11_read_28 (fun v233 ev233 hv233 => ?_)
        replace E := zLet_s ev233 E
        refine as_103 X hI hv231 (by omega) (by omega) dX11_read_29 (fun s234 es234 hI => ?_)
        replace E := zLet_s es234 E
        have g235 := (zSame.rf (o := a0) (Wf := []) (Wa := [103]) (L := L) (kd := kd) (σ := τ8)).a ha0 hv231 es234 rfl (by decide)
        have fs234_11 : (s234.1 a0 11).toInt = (τ8.1 a0 11).toInt := by rw [g235.2.1 11 (by decide)]
        have fs234_12 : (s234.1 a0 12).toInt = (τ8.1 a0 12).toInt := by rw [g235.2.1 12 (by decide)]
        have fs234_13 : (s234.1 a0 13).toInt = (τ8.1 a0 13).toInt := by rw [g235.2.1 13 (by decide)]
        have fs234_15 : (s234.1 a0 15).toInt = (τ8.1 a0 15).toInt := by rw [g235.2.1 15 (by decide)]
        have fs234_18 : (s234.1 a0 18).toInt = (τ8.1 a0 18).toInt := by rw [g235.2.1 18 (by decide)]
        have fs234_19 : (s234.1 a0 19).toInt = (τ8.1 a0 19).toInt := by rw [g235.2.1 19 (by decide)]
        have fs234_32 : (s234.1 a0 32).toInt = (τ8.1 a0 32).toInt := by rw [g235.2.1 32 (by decide)]
        have fs234_38 : (s234.1 a0 38).toInt = (τ8.1 a0 38).toInt := by rw [g235.2.1 38 (by decide)]
        have fs234_41 : (s234.1 a0 41).toInt = (τ8.1 a0 41).toInt := by rw [g235.2.1 41 (by decide)]
        have fs234_42 : (s234.1 a0 42).toInt = (τ8.1 a0 42).toInt := by rw [g235.2.1 42 (by decide)]
        have fs234_57 : (s234.1 a0 57).toInt = (τ8.1 a0 57).toInt := by rw [g235.2.1 57 (by decide)]
        have hS := hS.tr g235 (by decide) (by decide)
        have as234_30 := (zp_same hI ha0 g235 30 rfl (by decide) (by decide)).trans A30_Lp8
        have as234_31 := (zp_same hI ha0 g235 31 rfl (by decide) (by decide)).trans A31_Lp8
        have as234_33 := (zp_same hI ha0 g235 33 rfl (by decide) (by decide)).trans A33_Lp8
        have as234_34 := (zp_same hI ha0 g235 34 rfl (by decide) (by decide)).trans A34_Lp8
        have as234_35 := (zp_same hI ha0 g235 35 rfl (by decide) (by decide)).trans A35_Lp8
        have as234_36 := (zp_same hI ha0 g235 36 rfl (by decide) (by decide)).trans A36_Lp8
        have as234_37 := (zp_same hI ha0 g235 37 rfl (by decide) (by decide)).trans A37_Lp8
        have as234_39 := (zp_same hI ha0 g235 39 rfl (by decide) (by decide)).trans A39_Lp8
        have as234_40 := (zp_same hI ha0 g235 40 rfl (by decide) (by decide)).trans A40_Lp8
        have gEs234 := gE.same hI ha0 g235 (by decide) gE_Lp8
        have gHs234 := gH.same hI ha0 g235 (by decide) gH_Lp8
        have gKs234 := gK.same hI ha0 g235 (by decide) gK_Lp8
        have gLs234 := gL.same hI ha0 g235 (by decide) gL_Lp8
        have gNs234 := gN.same hI ha0 g235 (by decide) gN_Lp8
        refine zg_iinc X 1 (fun v237 => [(1, .int v237), (0, .ref a0)]) 0 dX11_read_30 rfl (by decide) (by decide) (by omega) (by omega) (fun _ => rfl) (fun v237 ev237 hv237 => ?_)
        replace E := zLet_s (zinc ev237 (by decide)) E
        refine zg_goto X 10 dX11_read_33 (by decide) ?_
        refine zg_sub [0, 1] rfl ?_
        exact ihLp8 _ v237 hI hS gEs234 gHs234 gKs234 gLs234 gNs234 as234_30 as234_31 as234_33 as234_34 as234_35 as234_36 as234_37 as234_39 as234_40 E  (by omega) (by omega) 
  refine zg_sub [0, 1] rfl ?_
  exact Lp8 10000 _ v6 hI hS gEs2 gHs2 gKs2 gLs2 gNs2 as2_30 as2_31 as2_33 as2_34 as2_35 as2_36 as2_37 as2_39 as2_40 E  (by omega) (by omega) 
