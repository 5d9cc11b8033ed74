set_option maxHeartbeats 4000000 in
set_option maxRecDepth 100000 in
theorem t_X11_expression (l : Launch) (d : zD2) (L : List Nat) (kd : Nat → Nat) (κ : Int) (σ : zS) (hI : zJ κ L kd σ) (a0 : Nat) (ha0 : zT L kd a0 11) (hq0 : (σ.1 a0 38).toInt ≤ 425 + (σ.1 a0 11).toInt) (hq1 : (1 ≤ (σ.1 a0 13).toInt ∨ (σ.1 a0 12).toInt = 0)) : zMv l yX11_expression (Cond.code yX11_expression cX11_expression 3 none :: zWL) 3 [.ref a0] d L kd σ (fun σ2 => σ2 = F_X11_expression a0 σ ∧ (((((σ.1 a0 11).toInt ≤ (σ2.1 a0 11).toInt ∧ (σ.1 a0 38).toInt ≤ (σ2.1 a0 38).toInt ∧ (σ2.1 a0 38).toInt ≤ (σ.1 a0 38).toInt + (σ2.1 a0 11).toInt - (σ.1 a0 11).toInt + 1 ∧ ((σ.1 a0 13).toInt = 0 ∨ (1 ≤ (σ2.1 a0 13).toInt ∧ (σ2.1 a0 38).toInt = (σ.1 a0 38).toInt)))) ∧ ((1 ≤ (σ2.1 a0 13).toInt ∨ ((σ.1 a0 13).toInt = 0 ∧ (σ2.1 a0 13).toInt = 0 ∧ (σ2.1 a0 38).toInt ≤ (σ.1 a0 38).toInt + (σ2.1 a0 11).toInt - (σ.1 a0 11).toInt ∧ (σ.1 a0 11).toInt < (σ2.1 a0 11).toInt ∧ (σ2.1 a0 12).toInt = (σ.1 a0 12).toInt))) ∧ (((σ2.1 a0 13).toInt = 0 → gCod (zp a0 σ2 39) (zp a0 σ2 40) (σ.1 a0 38).toInt (σ2.1 a0 38).toInt)) ∧ (zKc a0 σ σ2)) ∧ zJ κ L kd σ2 ∧ zSame a0 [11, 12, 13, 14, 38, 44] [139, 140, 143] L kd σ σ2)) := by
  refine zMv.of (own := RX11) (by decide +kernel) rfl rfl (Nat.le_of_ble_eq_true rfl) ?_
  intro p e s m args below meth c A Q X ret
  have hS : zSame a0 [11, 12, 13, 14, 38, 44] [139, 140, 143] L kd σ σ := zSame.rf
  refine zg_lv (lv2 := [(0, .ref a0)]) rfl ?_
  have z11 : 0 ≤ (σ.1 a0 11).toInt ∧ (σ.1 a0 11).toInt ≤ 400 := zj_get hI ha0 rfl
  have z12 : 0 ≤ (σ.1 a0 12).toInt ∧ (σ.1 a0 12).toInt ≤ 7 := zj_get hI ha0 rfl
  have z13 : 0 ≤ (σ.1 a0 13).toInt ∧ (σ.1 a0 13).toInt ≤ 2147483647 := zj_get hI ha0 rfl
  have z38 : 0 ≤ (σ.1 a0 38).toInt ∧ (σ.1 a0 38).toInt ≤ 840 := zj_get hI ha0 rfl
  have z44 : 0 ≤ (σ.1 a0 44).toInt ∧ (σ.1 a0 44).toInt ≤ 64 := zj_get hI ha0 rfl
  obtain ⟨R, hR⟩ : ∃ R, R = F_X11_expression a0 σ := ⟨_, rfl⟩
  have E := hR
  unfold F_X11_expression at E
  refine zg_aload_n X 0 rfl dX11_expression_0 ?_
  refine zg_iconst X 0 dX11_expression_1 (by decide) (fun v1 _ hv1 => ?_)
  replace E := zLet_s (zcst hv1 (by decide)) E
  refine fp_X11_297 X hI ha0 ⟨by omega, by omega⟩ dX11_expression_2 (fun s2 es2 hI => ?_)
  replace E := zLet_s es2 E
  have g3 := (zSame.rf (o := a0) (Wf := [44]) (Wa := []) (L := L) (kd := kd) (σ := σ)).f ha0 es2 rfl
  have fs2_11 : (s2.1 a0 11).toInt = (σ.1 a0 11).toInt := by rw [g3.2.1 11 (by decide)]
  have fs2_12 : (s2.1 a0 12).toInt = (σ.1 a0 12).toInt := by rw [g3.2.1 12 (by decide)]
  have fs2_13 : (s2.1 a0 13).toInt = (σ.1 a0 13).toInt := by rw [g3.2.1 13 (by decide)]
  have fs2_38 : (s2.1 a0 38).toInt = (σ.1 a0 38).toInt := by rw [g3.2.1 38 (by decide)]
  have hS := hS.tr g3 (by decide) (by decide)
  have as2_5 := zp_same hI ha0 g3 5 rfl (by decide) (by decide)
  have as2_39 := zp_same hI ha0 g3 39 rfl (by decide) (by decide)
  have as2_40 := zp_same hI ha0 g3 40 rfl (by decide) (by decide)
  have fs2_44 : (s2.1 a0 44).toInt = v1.toInt := by rw [es2]; exact congrArg _ (zu_s _ _ _ _)
  have e4 : v1 = s2.1 a0 44 := by rw [es2]; exact zm_s
  refine zg_aload_n X 0 rfl dX11_expression_5 ?_
  refine fg_X11_233 X hI ha0 dX11_expression_6 (fun v5 ev5 hv5 => ?_)
  replace E := zLet_s ev5 E
  have kv5 : (s2.1 a0 12).toInt = v5.toInt := by rw [ev5]
  refine zg_istore_n X [(1, .int v5), (0, .ref a0)] dX11_expression_9 (by decide) rfl ?_
  refine zg_iconst X 1 dX11_expression_10 (by decide) (fun v6 _ hv6 => ?_)
  replace E := zLet_s (zcst hv6 (by decide)) E
  have zn0 : nO (zp a0 s2 43) (s2.1 a0 44).toInt.toNat = 0 := by rw [show (s2.1 a0 44).toInt = 0 by omega]; rfl
  refine zg_istore_n X [(2, .int v6), (1, .int v5), (0, .ref a0)] dX11_expression_11 (by decide) rfl ?_
  have Lp8 : ∀ (nLp8 : Nat) (τ8 : zS) (x7 : Int32), zJ κ L kd τ8 → zSame a0 [11, 12, 13, 14, 38, 44] [139, 140, 143] L kd σ τ8 → zp a0 τ8 5 = zp a0 σ 5 → R = F_X11_expression_12 v5 a0  nLp8 x7 τ8 → 1 ≤ x7.toInt ∧ x7.toInt ≤ 1 ∧ (σ.1 a0 11).toInt ≤ (τ8.1 a0 11).toInt ∧ (τ8.1 a0 11).toInt ≤ 400 ∧ 0 ≤ (τ8.1 a0 13).toInt ∧ (σ.1 a0 38).toInt ≤ (τ8.1 a0 38).toInt ∧ (τ8.1 a0 38).toInt ≤ (σ.1 a0 38).toInt + (τ8.1 a0 11).toInt - (σ.1 a0 11).toInt + 1 ∧ (1 ≤ (τ8.1 a0 13).toInt ∨ (σ.1 a0 13).toInt = 0) ∧ 0 ≤ (τ8.1 a0 44).toInt ∧ ((σ.1 a0 13).toInt = 0 ∨ (τ8.1 a0 38).toInt = (σ.1 a0 38).toInt) ∧ (1 ≤ (τ8.1 a0 13).toInt ∨ ((τ8.1 a0 38).toInt + (τ8.1 a0 44).toInt - nO (zp a0 τ8 43) ((τ8.1 a0 44).toInt).toNat ≤ (σ.1 a0 38).toInt + (τ8.1 a0 11).toInt - (σ.1 a0 11).toInt ∧ (τ8.1 a0 44).toInt ≤ 3 * nO (zp a0 τ8 43) ((τ8.1 a0 44).toInt).toNat + 2 ∧ nO (zp a0 τ8 43) ((τ8.1 a0 44).toInt).toNat = (τ8.1 a0 12).toInt - v5.toInt ∧ (τ8.1 a0 12).toInt ≤ 6)) → 402 - (τ8.1 a0 11).toInt - min (τ8.1 a0 13).toInt 1 < (nLp8 : Int) → (((τ8.1 a0 13).toInt = 0 → zEs (zp a0 τ8 43) (zp a0 τ8 39) (zp a0 τ8 40) (τ8.1 a0 44).toInt (τ8.1 a0 38).toInt (σ.1 a0 38).toInt 0)) → (zKc a0 σ τ8) → zG d L kd A 3 p l e (k2_rm 3 (100 * 3)) s m args below meth c Q τ8 12 [(2, .int x7), (1, .int v5), (0, .ref a0)] [] := by
    intro nLp8
    induction nLp8 with
    | zero => intro τ8 x7 hI hS A5_Lp8 E  hxLp8 hm _ _ ; exact absurd hm (by omega)
    | succ nLp8 ihLp8 =>
      intro τ8 x7 hI hS A5_Lp8 E  hxLp8 hmLp8 hx hk
      rw [F_X11_expression_12] at E
      refine zg_iload_n X 0 rfl dX11_expression_12 ?_
      refine zg_if_eq X 272 dX11_expression_13 (by decide) (fun c9 => ?_) (fun c9 => ?_)
      · omega
      · skip
        replace E := zIf_f c9 E
        refine zg_aload_n X 2 rfl dX11_expression_16 ?_
        refine fg_X11_206 X hI ha0 dX11_expression_17 (fun v10 ev10 hv10 => ?_)
        replace E := zLet_s ev10 E
        have kv10 : (τ8.1 a0 13).toInt = v10.toInt := by rw [ev10]
        refine zg_if_ne X 272 dX11_expression_20 (by decide) (fun c11 => ?_) (fun c11 => ?_)
        · skip
          replace E := zIf_f c11 E
          exact ret _ _ _ dX11_expression_272 ⟨E.symm.trans hR, ⟨⟨(by omega), (by omega), (fun h0 => by exfalso; omega), (hk)⟩, hI, hS⟩⟩
        · skip
          replace E := zIf_t c11 E
          have Lp12 : ∀ (nLp12 : Nat) (τ12 : zS) , zJ κ L kd τ12 → zSame a0 [11, 12, 13, 14, 38, 44] [139, 140, 143] L kd σ τ12 → zp a0 τ12 5 = zp a0 σ 5 → R = F_X11_expression_23 x7 v5 a0 (F_X11_expression_12 v5 a0  nLp8) nLp12  τ12 → (σ.1 a0 11).toInt ≤ (τ12.1 a0 11).toInt ∧ (τ12.1 a0 11).toInt ≤ 400 ∧ 0 ≤ (τ12.1 a0 13).toInt ∧ (σ.1 a0 38).toInt ≤ (τ12.1 a0 38).toInt ∧ (τ12.1 a0 38).toInt ≤ (σ.1 a0 38).toInt + (τ12.1 a0 11).toInt - (σ.1 a0 11).toInt + 1 ∧ (1 ≤ (τ12.1 a0 13).toInt ∨ (σ.1 a0 13).toInt = 0) ∧ 0 ≤ (τ12.1 a0 44).toInt ∧ ((σ.1 a0 13).toInt = 0 ∨ (τ12.1 a0 38).toInt = (σ.1 a0 38).toInt) ∧ (1 ≤ (τ12.1 a0 13).toInt ∨ ((τ12.1 a0 38).toInt + (τ12.1 a0 44).toInt - nO (zp a0 τ12 43) ((τ12.1 a0 44).toInt).toNat ≤ (σ.1 a0 38).toInt + (τ12.1 a0 11).toInt - (σ.1 a0 11).toInt ∧ (τ12.1 a0 44).toInt ≤ 3 * nO (zp a0 τ12 43) ((τ12.1 a0 44).toInt).toNat + 2 ∧ nO (zp a0 τ12 43) ((τ12.1 a0 44).toInt).toNat = (τ12.1 a0 12).toInt - v5.toInt ∧ (τ12.1 a0 12).toInt ≤ 6)) ∧ (τ8.1 a0 11).toInt ≤ (τ12.1 a0 11).toInt → 402 - (τ12.1 a0 11).toInt - min (τ12.1 a0 13).toInt 1 < (nLp12 : Int) → (((τ12.1 a0 13).toInt = 0 → zEs (zp a0 τ12 43) (zp a0 τ12 39) (zp a0 τ12 40) (τ12.1 a0 44).toInt (τ12.1 a0 38).toInt (σ.1 a0 38).toInt 0)) → (zKc a0 σ τ12) → zG d L kd A 3 p l e (k2_rm 3 (100 * 3)) s m args below meth c Q τ12 23 [(2, .int x7), (1, .int v5), (0, .ref a0)] [] := by
            intro nLp12
            induction nLp12 with
            | zero => intro τ12  hI hS A5_Lp12 E  hxLp12 hm _ _ ; exact absurd hm (by omega)
            | succ nLp12 ihLp12 =>
              intro τ12  hI hS A5_Lp12 E  hxLp12 hmLp12 hx hk
              rw [F_X11_expression_23] at E
              clear hxLp8
              refine zg_aload_n X 2 rfl dX11_expression_23 ?_
              refine zg_bipush X 6 dX11_expression_24 (by decide) (fun v13 _ hv13 => ?_)
              replace E := zLet_s (zcst hv13 (by decide)) E
              refine zg_cVi (As := [.int v13]) (st := []) X ha0 rfl (by decide) rfl (t_X11_is l d L kd κ _ hI a0 ha0 v13  ) mk_X11_224 mc_X11_is mz_X11 mi_X11_is ml_X11_is (na := 1) ⟨md_X11.1, md_X11.2, by decide +kernel⟩ rfl ⟨by decide, by decide⟩ (Nat.le_of_ble_eq_true rfl) dX11_expression_26 (fun v15 t14 hq => ?_)
              obtain ⟨⟨hF, ⟨ht14_res, ht14_fact0⟩⟩, rfl⟩ := hq
              replace E := zLet_s hF E
              replace ht14_fact0 := zHide.mk ht14_fact0
              refine zg_if_eq X 84 dX11_expression_29 (by decide) (fun c16 => ?_) (fun c16 => ?_)
              · skip
                replace E := zIf_t c16 E
                refine zg_aload_n X 2 rfl dX11_expression_84 ?_
                refine zg_cVv (As := []) (st := []) X ha0 rfl (by decide) rfl (t_X11_unit l d L kd κ _ hI a0 ha0   (by omega)) mk_X11_303 mc_X11_unit mz_X11 mi_X11_unit ml_X11_unit (na := 0) ⟨md_X11.1, md_X11.2, by decide +kernel⟩ rfl ⟨by decide, by decide⟩ (Nat.le_of_ble_eq_true rfl) dX11_expression_85 (fun t17 hq => ?_)
                obtain ⟨hF, ⟨ht17_fact0, ht17_fact1, ht17_fact2⟩, hI, g18⟩ := hq
                replace E := zLet_s hF E
                have ft17_12 : (t17.1 a0 12).toInt = (τ12.1 a0 12).toInt := by rw [g18.2.1 12 (by decide)]
                have ft17_44 : (t17.1 a0 44).toInt = (τ12.1 a0 44).toInt := by rw [g18.2.1 44 (by decide)]
                have hS := hS.tr g18 (by decide) (by decide)
                have at17_5 := (zp_same hI ha0 g18 5 rfl (by decide) (by decide)).trans A5_Lp12
                have at17_43 := zp_same hI ha0 g18 43 rfl (by decide) (by decide)
                have zu1 := ht17_fact1
                have zu2 := ht17_fact2
                have zu0 := ht17_fact0
                have z11u : 0 ≤ (t17.1 a0 11).toInt ∧ (t17.1 a0 11).toInt ≤ 400 := zj_get hI ha0 rfl
                have znn := nO_in (zp a0 τ12 43) ((τ12.1 a0 44).toInt).toNat
                clear ht17_fact2 ht17_fact1 ht17_fact0
                have zun : nO (zp a0 t17 43) (t17.1 a0 44).toInt.toNat = nO (zp a0 τ12 43) (τ12.1 a0 44).toInt.toNat := by rw [at17_43, show (t17.1 a0 44).toInt = (τ12.1 a0 44).toInt by omega]
                refine zg_aload_n X 2 rfl dX11_expression_88 ?_
                refine fg_X11_206 X hI ha0 dX11_expression_89 (fun v19 ev19 hv19 => ?_)
                replace E := zLet_s ev19 E
                have kv19 : (t17.1 a0 13).toInt = v19.toInt := by rw [ev19]
                refine zg_if_le X 96 dX11_expression_92 (by decide) (fun c20 => ?_) (fun c20 => ?_)
                · skip
                  replace E := zIf_f (Int.not_lt.mpr c20) E
                  have Lp21 : ∀ (nLp21 : Nat) (τ21 : zS) , zJ κ L kd τ21 → zSame a0 [11, 12, 13, 14, 38, 44] [139, 140, 143] L kd σ τ21 → zp a0 τ21 5 = zp a0 σ 5 → R = F_X11_expression_96 x7 v5 a0 (F_X11_expression_12 v5 a0  nLp8) (F_X11_expression_23 x7 v5 a0 (F_X11_expression_12 v5 a0  nLp8) nLp12) nLp21  τ21 → (σ.1 a0 11).toInt + 1 ≤ (τ21.1 a0 11).toInt ∧ (τ21.1 a0 11).toInt ≤ 400 ∧ 0 ≤ (τ21.1 a0 13).toInt ∧ (σ.1 a0 38).toInt ≤ (τ21.1 a0 38).toInt ∧ 0 ≤ (τ21.1 a0 44).toInt ∧ (σ.1 a0 13).toInt = 0 ∧ (τ21.1 a0 38).toInt + (τ21.1 a0 44).toInt - nO (zp a0 τ21 43) ((τ21.1 a0 44).toInt).toNat ≤ (σ.1 a0 38).toInt + (τ21.1 a0 11).toInt - (σ.1 a0 11).toInt ∧ (τ21.1 a0 44).toInt ≤ 3 * nO (zp a0 τ21 43) ((τ21.1 a0 44).toInt).toNat + 2 ∧ nO (zp a0 τ21 43) ((τ21.1 a0 44).toInt).toNat = (τ21.1 a0 12).toInt - v5.toInt ∧ (τ21.1 a0 12).toInt ≤ 6 ∧ (τ8.1 a0 11).toInt + 1 ≤ (τ21.1 a0 11).toInt → 402 - (τ21.1 a0 11).toInt - min (τ21.1 a0 13).toInt 1 < (nLp21 : Int) → (zEs (zp a0 τ21 43) (zp a0 τ21 39) (zp a0 τ21 40) (τ21.1 a0 44).toInt (τ21.1 a0 38).toInt (σ.1 a0 38).toInt 1) → (zKc a0 σ τ21) → zG d L kd A 3 p l e (k2_rm 3 (100 * 3)) s m args below meth c Q τ21 96 [(2, .int x7), (1, .int v5), (0, .ref a0)] [] := by
                    intro nLp21
                    induction nLp21 with
                    | zero => intro τ21  hI hS A5_Lp21 E  hxLp21 hm _ _ ; exact absurd hm (by omega)
                    | succ nLp21 ihLp21 =>
                      intro τ21  hI hS A5_Lp21 E  hxLp21 hmLp21 hx hk
                      rw [F_X11_expression_96] at E
                      clear hxLp12 hmLp12 zu0 zu1 zu2 zun znn z11u
                      refine zg_aload_n X 2 rfl dX11_expression_96 ?_
                      refine zg_bipush X 7 dX11_expression_97 (by decide) (fun v22 _ hv22 => ?_)
                      replace E := zLet_s (zcst hv22 (by decide)) E
                      refine zg_cVi (As := [.int v22]) (st := []) X ha0 rfl (by decide) rfl (t_X11_is l d L kd κ _ hI a0 ha0 v22  ) mk_X11_224 mc_X11_is mz_X11 mi_X11_is ml_X11_is (na := 1) ⟨md_X11.1, md_X11.2, by decide +kernel⟩ rfl ⟨by decide, by decide⟩ (Nat.le_of_ble_eq_true rfl) dX11_expression_99 (fun v24 t23 hq => ?_)
                      obtain ⟨⟨hF, ⟨ht23_res, ht23_fact0⟩⟩, rfl⟩ := hq
                      replace E := zLet_s hF E
                      replace ht23_fact0 := zHide.mk ht23_fact0
                      refine zg_if_eq X 145 dX11_expression_102 (by decide) (fun c25 => ?_) (fun c25 => ?_)
                      · skip
                        replace E := zIf_t c25 E
                        have zA5 := A5_Lp21
                        refine zg_aload_n X 2 rfl dX11_expression_145 ?_
                        refine zg_bipush X 8 dX11_expression_146 (by decide) (fun v26 _ hv26 => ?_)
                        replace E := zLet_s (zcst hv26 (by decide)) E
                        refine zg_cVi (As := [.int v26]) (st := []) X ha0 rfl (by decide) rfl (t_X11_is l d L kd κ _ hI a0 ha0 v26  ) mk_X11_224 mc_X11_is mz_X11 mi_X11_is ml_X11_is (na := 1) ⟨md_X11.1, md_X11.2, by decide +kernel⟩ rfl ⟨by decide, by decide⟩ (Nat.le_of_ble_eq_true rfl) dX11_expression_148 (fun v28 t27 hq => ?_)
                        obtain ⟨⟨hF, ⟨ht27_res, ht27_fact0⟩⟩, rfl⟩ := hq
                        replace E := zLet_s hF E
                        replace ht27_fact0 := zHide.mk ht27_fact0
                        refine zg_if_ne X 181 dX11_expression_151 (by decide) (fun c29 => ?_) (fun c29 => ?_)
                        · skip
                          replace E := zIf_f c29 E
                          have ztk := ht27_fact0.un.resolve_right (fun z => absurd z.1 (by omega))
                          refine zg_iconst X 1 dX11_expression_181 (by decide) (fun v30 _ hv30 => ?_)
                          replace E := zLet_s (zcst hv30 (by decide)) E
                          refine zg_goto X 186 dX11_expression_182 (by decide) ?_
                          refine zg_istore_n X [(2, .int v30), (1, .int v5), (0, .ref a0)] dX11_expression_186 (by decide) rfl ?_
                          refine zg_iload_n X 0 rfl dX11_expression_187 ?_
                          refine zg_if_ne X 210 dX11_expression_188 (by decide) (fun c31 => ?_) (fun c31 => ?_)
                          · skip
                            replace E := zIf_f c31 E
                            refine zg_aload_n X 2 rfl dX11_expression_210 ?_
                            refine zg_aload_n X 2 rfl dX11_expression_211 ?_
                            refine zg_bipush X 10 dX11_expression_212 (by decide) (fun v32 _ hv32 => ?_)
                            replace E := zLet_s (zcst hv32 (by decide)) E
                            refine zg_cVi (As := [.int v32]) (st := [.ref a0]) X ha0 rfl (by decide) rfl (t_X11_is l d L kd κ _ hI a0 ha0 v32  ) mk_X11_224 mc_X11_is mz_X11 mi_X11_is ml_X11_is (na := 1) ⟨md_X11.1, md_X11.2, by decide +kernel⟩ rfl ⟨by decide, by decide⟩ (Nat.le_of_ble_eq_true rfl) dX11_expression_214 (fun v34 t33 hq => ?_)
                            obtain ⟨⟨hF, ⟨ht33_res, ht33_fact0⟩⟩, rfl⟩ := hq
                            replace E := zLet_s hF E
                            replace ht33_fact0 := zHide.mk ht33_fact0
                            refine zg_if_ne X 229 dX11_expression_217 (by decide) (fun c35 => ?_) (fun c35 => ?_)
                            · skip
                              replace E := zIf_f c35 E
                              have zts := ht33_fact0.un.resolve_right (fun z => absurd z.1 (by omega))
                              refine zg_iconst X 1 dX11_expression_229 (by decide) (fun v36 _ hv36 => ?_)
                              replace E := zLet_s (zcst hv36 (by decide)) E
                              refine zg_goto X 234 dX11_expression_230 (by decide) ?_
                              refine zg_cVv (As := [.int v36]) (st := []) X ha0 rfl (by decide) rfl (t_X11_comesOut l d L kd κ _ hI a0 ha0 v36 ((σ.1 a0 38).toInt) (by omega) (hx)) mk_X11_306 mc_X11_comesOut mz_X11 mi_X11_comesOut ml_X11_comesOut (na := 1) ⟨md_X11.1, md_X11.2, by decide +kernel⟩ rfl ⟨by decide, by decide⟩ (Nat.le_of_ble_eq_true rfl) dX11_expression_234 (fun t37 hq => ?_)
                              obtain ⟨hF, ⟨ht37_fact0, ht37_fact1, ht37_fact2, ht37_fact3⟩, hI, g38⟩ := hq
                              replace E := zLet_s hF E
                              have ft37_11 : (t37.1 a0 11).toInt = (τ21.1 a0 11).toInt := by rw [g38.2.1 11 (by decide)]
                              have ft37_12 : (t37.1 a0 12).toInt = (τ21.1 a0 12).toInt := by rw [g38.2.1 12 (by decide)]
                              have ft37_13 : (t37.1 a0 13).toInt = (τ21.1 a0 13).toInt := by rw [g38.2.1 13 (by decide)]
                              have hS := hS.tr g38 (by decide) (by decide)
                              have at37_5 := (zp_same hI ha0 g38 5 rfl (by decide) (by decide)).trans A5_Lp21
                              have at37_43 := zp_same hI ha0 g38 43 rfl (by decide) (by decide)
                              have zc0 := ht37_fact0
                              have zc1 := ht37_fact1
                              have zc2 := ht37_fact2
                              have zc3 := ht37_fact3
                              clear ht37_fact3 ht37_fact2 ht37_fact1 ht37_fact0
                              have zc4 := zc0.stop
                              have zc7 := zc0.at
                              obtain ⟨y38, hy38⟩ : ∃ x : Int, x = (t37.1 a0 38).toInt := ⟨_, rfl⟩
                              obtain ⟨y44, hy44⟩ : ∃ x : Int, x = (t37.1 a0 44).toInt := ⟨_, rfl⟩
                              have zc5 : y44 = 0 → nO (zp a0 τ21 43) y44.toNat = 0 := fun z => by rw [z]; rfl
                              rw [← hy44] at zc0 zc1 zc3 zc4 zc7
                              rw [← hy38] at zc0 zc1 zc7
                              replace zc4 := zHide.mk zc4
                              replace zc3 := zHide.mk zc3
                              replace zc5 := zHide.mk zc5
                              have zc8 := zc4.un.2.1 (zc3.un.imp id (fun z => ⟨z.1, z.2.imp id (fun y => y.2)⟩))
                              have zc9 : v36.toInt = 0 → y44 ≤ 3 * nO (zp a0 τ21 43) y44.toNat := fun h0 => zc4.un.1 (zc3.un.imp id (fun z => ⟨z.1, z.2.resolve_right (fun y => absurd y.1 (by omega))⟩))
                              refine zg_aload_n X 2 rfl dX11_expression_237 ?_
                              refine fg_X11_98 X hI ha0 dX11_expression_238 (fun v39 ev39 hv39 => ?_)
                              replace E := zLet_s (zgr ev39) E
                              refine zg_aload_n X 2 rfl dX11_expression_241 ?_
                              refine fg_X11_297 X hI ha0 dX11_expression_242 (fun v40 ev40 hv40 => ?_)
                              replace E := zLet_s ev40 E
                              have kv40 : (t37.1 a0 44).toInt = v40.toInt := by rw [ev40]
                              refine zg_aload_n X 2 rfl dX11_expression_245 ?_
                              refine fg_X11_20 X hI ha0 dX11_expression_246 (fun v41 ev41 hv41 => ?_)
                              replace E := zLet_s (zgr ev41) E
                              refine zg_aload_n X 2 rfl dX11_expression_249 ?_
                              refine fg_X11_209 X hI ha0 dX11_expression_250 (fun v42 ev42 hv42 => ?_)
                              replace E := zLet_s ev42 E
                              have kv42 : (t37.1 a0 11).toInt = v42.toInt := by rw [ev42]
                              refine ag_105 X hI hv41 (by omega) (by omega) dX11_expression_253 (fun v43 ev43 _ => ?_)
                              replace E := zLet_s ev43 E
                              have qv43 := zp_ld ev41 ev43
                              rw [at37_5] at qv43
                              rw [← kv42] at qv43
                              rw [show (t37.1 a0 11).toInt = (τ21.1 a0 11).toInt by omega, ← zA5] at qv43
                              refine as_143 X hI hv39 (by omega) (by omega) dX11_expression_254 (fun s44 es44 hI => ?_)
                              replace E := zLet_s es44 E
                              have g45 := (zSame.rf (o := a0) (Wf := []) (Wa := [143]) (L := L) (kd := kd) (σ := t37)).a ha0 hv39 es44 rfl (by decide)
                              have rs44 := zp_st (σ := t37) (σ2 := s44) (i := v40) (x := v43) ev39 es44 (by omega)
                              have ws44 := rs44
                              rw [at37_43] at ws44
                              rw [← kv40] at ws44
                              have fs44_11 : (s44.1 a0 11).toInt = (t37.1 a0 11).toInt := by rw [g45.2.1 11 (by decide)]
                              have fs44_12 : (s44.1 a0 12).toInt = (t37.1 a0 12).toInt := by rw [g45.2.1 12 (by decide)]
                              have fs44_13 : (s44.1 a0 13).toInt = (t37.1 a0 13).toInt := by rw [g45.2.1 13 (by decide)]
                              have fs44_38 : (s44.1 a0 38).toInt = (t37.1 a0 38).toInt := by rw [g45.2.1 38 (by decide)]
                              have fs44_44 : (s44.1 a0 44).toInt = (t37.1 a0 44).toInt := by rw [g45.2.1 44 (by decide)]
                              have hS := hS.tr g45 (by decide) (by decide)
                              have as44_5 := (zp_same hI ha0 g45 5 rfl (by decide) (by decide)).trans at37_5
                              have as44_39 := zp_same hI ha0 g45 39 rfl (by decide) (by decide)
                              have as44_40 := zp_same hI ha0 g45 40 rfl (by decide) (by decide)
                              have e46 := g45.v ev40 (by decide)
                              refine zg_aload_n X 2 rfl dX11_expression_255 ?_
                              refine zg_dup X dX11_expression_256 rfl ?_
                              refine fg_X11_297 X hI ha0 dX11_expression_257 (fun v48 ev48 hv48 => ?_)
                              replace E := zLet_s ev48 E
                              have kv48 : (s44.1 a0 44).toInt = v48.toInt := by rw [ev48]
                              have mv48 : v48.toInt = v40.toInt := by rw [ev48, ← e46]
                              refine zg_iconst X 1 dX11_expression_260 (by decide) (fun v49 _ hv49 => ?_)
                              replace E := zLet_s (zcst hv49 (by decide)) E
                              refine zg_iadd X dX11_expression_261 (by omega) (by omega) (fun v50 ev50 hv50 => ?_)
                              replace E := zLet_s ev50 E
                              refine fp_X11_297 X hI ha0 ⟨by omega, by omega⟩ dX11_expression_262 (fun s51 es51 hI => ?_)
                              replace E := zLet_s es51 E
                              have g52 := (zSame.rf (o := a0) (Wf := [44]) (Wa := []) (L := L) (kd := kd) (σ := s44)).f ha0 es51 rfl
                              have fs51_11 : (s51.1 a0 11).toInt = (s44.1 a0 11).toInt := by rw [g52.2.1 11 (by decide)]
                              have fs51_12 : (s51.1 a0 12).toInt = (s44.1 a0 12).toInt := by rw [g52.2.1 12 (by decide)]
                              have fs51_13 : (s51.1 a0 13).toInt = (s44.1 a0 13).toInt := by rw [g52.2.1 13 (by decide)]
                              have fs51_38 : (s51.1 a0 38).toInt = (s44.1 a0 38).toInt := by rw [g52.2.1 38 (by decide)]
                              have hS := hS.tr g52 (by decide) (by decide)
                              have as51_5 := (zp_same hI ha0 g52 5 rfl (by decide) (by decide)).trans as44_5
                              have as51_39 := (zp_same hI ha0 g52 39 rfl (by decide) (by decide)).trans as44_39
                              have as51_40 := (zp_same hI ha0 g52 40 rfl (by decide) (by decide)).trans as44_40
                              have as51_43 := zp_same hI ha0 g52 43 rfl (by decide) (by decide)
                              have fs51_44 : (s51.1 a0 44).toInt = v50.toInt := by rw [es51]; exact congrArg _ (zu_s _ _ _ _)
                              have e54 : v50 = s51.1 a0 44 := by rw [es51]; exact zm_s
                              refine zg_aload_n X 2 rfl dX11_expression_265 ?_
                              refine zg_cVv (As := []) (st := []) X ha0 rfl (by decide) rfl (t_X11_goesOn l d L kd κ _ hI a0 ha0   ) mk_X11_227 mc_X11_goesOn mz_X11 mi_X11_goesOn ml_X11_goesOn (na := 0) ⟨md_X11.1, md_X11.2, by decide +kernel⟩ rfl ⟨by decide, by decide⟩ (Nat.le_of_ble_eq_true rfl) dX11_expression_266 (fun t55 hq => ?_)
                              obtain ⟨hF, ht55_fact0, hI, g56⟩ := hq
                              replace E := zLet_s hF E
                              have ft55_12 : (t55.1 a0 12).toInt = (s51.1 a0 12).toInt := by rw [g56.2.1 12 (by decide)]
                              have ft55_38 : (t55.1 a0 38).toInt = (s51.1 a0 38).toInt := by rw [g56.2.1 38 (by decide)]
                              have ft55_44 : (t55.1 a0 44).toInt = (s51.1 a0 44).toInt := by rw [g56.2.1 44 (by decide)]
                              have hS := hS.tr g56 (by decide) (by decide)
                              have at55_5 := (zp_same hI ha0 g56 5 rfl (by decide) (by decide)).trans as51_5
                              have at55_39 := (zp_same hI ha0 g56 39 rfl (by decide) (by decide)).trans as51_39
                              have at55_40 := (zp_same hI ha0 g56 40 rfl (by decide) (by decide)).trans as51_40
                              have at55_43 := (zp_same hI ha0 g56 43 rfl (by decide) (by decide)).trans as51_43
                              have zpu : zEs (zp a0 t55 43) (zp a0 t55 39) (zp a0 t55 40) (t55.1 a0 44).toInt (t55.1 a0 38).toInt (σ.1 a0 38).toInt 0 ∧ nO (zp a0 t55 43) (t55.1 a0 44).toInt.toNat = nO (zp a0 τ21 43) (τ21.1 a0 44).toInt.toNat := by
                                rw [at55_39, at55_40, show (t55.1 a0 38).toInt = y38 by omega]
                                have y := zEs.pushS (x := v43.toInt) (w' := zp a0 t55 43) (W' := (t55.1 a0 44).toInt) zc0 (fun j h0 => by rw [at55_43, ws44 j h0]; split <;> split <;> first | rfl | (exfalso; omega)) (by omega) (by omega) (by omega) (by omega)
                                exact ⟨y.1, by omega⟩
                              refine zg_goto X 12 dX11_expression_269 (by decide) ?_
                              refine zg_sub [0, 1, 2] rfl ?_
                              exact ihLp8 _ v30 hI hS at55_5 E  (by omega) (by omega) (fun _ => zpu.1) (fun j h0 h1 => by have y := hk j h0 (by omega); have x := zc2 j h0 (by omega); rw [at55_39, at55_40]; exact ⟨x.1.trans y.1, x.2.trans y.2⟩)
                            · skip
                              replace E := zIf_t c35 E
                              refine zg_aload_n X 2 rfl dX11_expression_220 ?_
                              refine zg_bipush X 15 dX11_expression_221 (by decide) (fun v58 _ hv58 => ?_)
                              replace E := zLet_s (zcst hv58 (by decide)) E
                              refine zg_cVi (As := [.int v58]) (st := [.ref a0]) X ha0 rfl (by decide) rfl (t_X11_is l d L kd κ _ hI a0 ha0 v58  ) mk_X11_224 mc_X11_is mz_X11 mi_X11_is ml_X11_is (na := 1) ⟨md_X11.1, md_X11.2, by decide +kernel⟩ rfl ⟨by decide, by decide⟩ (Nat.le_of_ble_eq_true rfl) dX11_expression_223 (fun v60 t59 hq => ?_)
                              obtain ⟨⟨hF, ⟨ht59_res, ht59_fact0⟩⟩, rfl⟩ := hq
                              replace E := zLet_s hF E
                              replace ht59_fact0 := zHide.mk ht59_fact0
                              refine zg_if_eq X 233 dX11_expression_226 (by decide) (fun c61 => ?_) (fun c61 => ?_)
                              · skip
                                replace E := zIf_t c61 E
                                have zn1 := ht59_fact0.un.resolve_left (fun z => absurd z.1 (by omega))
                                have zn2 := ht33_fact0.un.resolve_left (fun z => absurd z.1 (by omega))
                                refine zg_iconst X 0 dX11_expression_233 (by decide) (fun v62 _ hv62 => ?_)
                                replace E := zLet_s (zcst hv62 (by decide)) E
                                refine zg_cVv (As := [.int v62]) (st := []) X ha0 rfl (by decide) rfl (t_X11_comesOut l d L kd κ _ hI a0 ha0 v62 ((σ.1 a0 38).toInt) (by omega) (hx)) mk_X11_306 mc_X11_comesOut mz_X11 mi_X11_comesOut ml_X11_comesOut (na := 1) ⟨md_X11.1, md_X11.2, by decide +kernel⟩ rfl ⟨by decide, by decide⟩ (Nat.le_of_ble_eq_true rfl) dX11_expression_234 (fun t63 hq => ?_)
                                obtain ⟨hF, ⟨ht63_fact0, ht63_fact1, ht63_fact2, ht63_fact3⟩, hI, g64⟩ := hq
                                replace E := zLet_s hF E
                                have ft63_11 : (t63.1 a0 11).toInt = (τ21.1 a0 11).toInt := by rw [g64.2.1 11 (by decide)]
                                have ft63_12 : (t63.1 a0 12).toInt = (τ21.1 a0 12).toInt := by rw [g64.2.1 12 (by decide)]
                                have ft63_13 : (t63.1 a0 13).toInt = (τ21.1 a0 13).toInt := by rw [g64.2.1 13 (by decide)]
                                have hS := hS.tr g64 (by decide) (by decide)
                                have at63_5 := (zp_same hI ha0 g64 5 rfl (by decide) (by decide)).trans A5_Lp21
                                have at63_43 := zp_same hI ha0 g64 43 rfl (by decide) (by decide)
                                have zc0 := ht63_fact0
                                have zc1 := ht63_fact1
                                have zc2 := ht63_fact2
                                have zc3 := ht63_fact3
                                clear ht63_fact3 ht63_fact2 ht63_fact1 ht63_fact0
                                have zc4 := zc0.stop
                                have zc7 := zc0.at
                                obtain ⟨y38, hy38⟩ : ∃ x : Int, x = (t63.1 a0 38).toInt := ⟨_, rfl⟩
                                obtain ⟨y44, hy44⟩ : ∃ x : Int, x = (t63.1 a0 44).toInt := ⟨_, rfl⟩
                                have zc5 : y44 = 0 → nO (zp a0 τ21 43) y44.toNat = 0 := fun z => by rw [z]; rfl
                                rw [← hy44] at zc0 zc1 zc3 zc4 zc7
                                rw [← hy38] at zc0 zc1 zc7
                                replace zc4 := zHide.mk zc4
                                replace zc3 := zHide.mk zc3
                                replace zc5 := zHide.mk zc5
                                have zc8 := zc4.un.2.1 (zc3.un.imp id (fun z => ⟨z.1, z.2.imp id (fun y => y.2)⟩))
                                have zc9 : v62.toInt = 0 → y44 ≤ 3 * nO (zp a0 τ21 43) y44.toNat := fun h0 => zc4.un.1 (zc3.un.imp id (fun z => ⟨z.1, z.2.resolve_right (fun y => absurd y.1 (by omega))⟩))
                                refine zg_aload_n X 2 rfl dX11_expression_237 ?_
                                refine fg_X11_98 X hI ha0 dX11_expression_238 (fun v65 ev65 hv65 => ?_)
                                replace E := zLet_s (zgr ev65) E
                                refine zg_aload_n X 2 rfl dX11_expression_241 ?_
                                refine fg_X11_297 X hI ha0 dX11_expression_242 (fun v66 ev66 hv66 => ?_)
                                replace E := zLet_s ev66 E
                                have kv66 : (t63.1 a0 44).toInt = v66.toInt := by rw [ev66]
                                refine zg_aload_n X 2 rfl dX11_expression_245 ?_
                                refine fg_X11_20 X hI ha0 dX11_expression_246 (fun v67 ev67 hv67 => ?_)
                                replace E := zLet_s (zgr ev67) E
                                refine zg_aload_n X 2 rfl dX11_expression_249 ?_
                                refine fg_X11_209 X hI ha0 dX11_expression_250 (fun v68 ev68 hv68 => ?_)
                                replace E := zLet_s ev68 E
                                have kv68 : (t63.1 a0 11).toInt = v68.toInt := by rw [ev68]
                                refine ag_105 X hI hv67 (by omega) (by omega) dX11_expression_253 (fun v69 ev69 _ => ?_)
                                replace E := zLet_s ev69 E
                                have qv69 := zp_ld ev67 ev69
                                rw [at63_5] at qv69
                                rw [← kv68] at qv69
                                rw [show (t63.1 a0 11).toInt = (τ21.1 a0 11).toInt by omega, ← zA5] at qv69
                                refine as_143 X hI hv65 (by omega) (by omega) dX11_expression_254 (fun s70 es70 hI => ?_)
                                replace E := zLet_s es70 E
                                have g71 := (zSame.rf (o := a0) (Wf := []) (Wa := [143]) (L := L) (kd := kd) (σ := t63)).a ha0 hv65 es70 rfl (by decide)
                                have rs70 := zp_st (σ := t63) (σ2 := s70) (i := v66) (x := v69) ev65 es70 (by omega)
                                have ws70 := rs70
                                rw [at63_43] at ws70
                                rw [← kv66] at ws70
                                have fs70_11 : (s70.1 a0 11).toInt = (t63.1 a0 11).toInt := by rw [g71.2.1 11 (by decide)]
                                have fs70_12 : (s70.1 a0 12).toInt = (t63.1 a0 12).toInt := by rw [g71.2.1 12 (by decide)]
                                have fs70_13 : (s70.1 a0 13).toInt = (t63.1 a0 13).toInt := by rw [g71.2.1 13 (by decide)]
                                have fs70_38 : (s70.1 a0 38).toInt = (t63.1 a0 38).toInt := by rw [g71.2.1 38 (by decide)]
                                have fs70_44 : (s70.1 a0 44).toInt = (t63.1 a0 44).toInt := by rw [g71.2.1 44 (by decide)]
                                have hS := hS.tr g71 (by decide) (by decide)
                                have as70_5 := (zp_same hI ha0 g71 5 rfl (by decide) (by decide)).trans at63_5
                                have as70_39 := zp_same hI ha0 g71 39 rfl (by decide) (by decide)
                                have as70_40 := zp_same hI ha0 g71 40 rfl (by decide) (by decide)
                                have e72 := g71.v ev66 (by decide)
                                refine zg_aload_n X 2 rfl dX11_expression_255 ?_
                                refine zg_dup X dX11_expression_256 rfl ?_
                                refine fg_X11_297 X hI ha0 dX11_expression_257 (fun v74 ev74 hv74 => ?_)
                                replace E := zLet_s ev74 E
                                have kv74 : (s70.1 a0 44).toInt = v74.toInt := by rw [ev74]
                                have mv74 : v74.toInt = v66.toInt := by rw [ev74, ← e72]
                                refine zg_iconst X 1 dX11_expression_260 (by decide) (fun v75 _ hv75 => ?_)
                                replace E := zLet_s (zcst hv75 (by decide)) E
                                refine zg_iadd X dX11_expression_261 (by omega) (by omega) (fun v76 ev76 hv76 => ?_)
                                replace E := zLet_s ev76 E
                                refine fp_X11_297 X hI ha0 ⟨by omega, by omega⟩ dX11_expression_262 (fun s77 es77 hI => ?_)
                                replace E := zLet_s es77 E
                                have g78 := (zSame.rf (o := a0) (Wf := [44]) (Wa := []) (L := L) (kd := kd) (σ := s70)).f ha0 es77 rfl
                                have fs77_11 : (s77.1 a0 11).toInt = (s70.1 a0 11).toInt := by rw [g78.2.1 11 (by decide)]
                                have fs77_12 : (s77.1 a0 12).toInt = (s70.1 a0 12).toInt := by rw [g78.2.1 12 (by decide)]
                                have fs77_13 : (s77.1 a0 13).toInt = (s70.1 a0 13).toInt := by rw [g78.2.1 13 (by decide)]
                                have fs77_38 : (s77.1 a0 38).toInt = (s70.1 a0 38).toInt := by rw [g78.2.1 38 (by decide)]
                                have hS := hS.tr g78 (by decide) (by decide)
                                have as77_5 := (zp_same hI ha0 g78 5 rfl (by decide) (by decide)).trans as70_5
                                have as77_39 := (zp_same hI ha0 g78 39 rfl (by decide) (by decide)).trans as70_39
                                have as77_40 := (zp_same hI ha0 g78 40 rfl (by decide) (by decide)).trans as70_40
                                have as77_43 := zp_same hI ha0 g78 43 rfl (by decide) (by decide)
                                have fs77_44 : (s77.1 a0 44).toInt = v76.toInt := by rw [es77]; exact congrArg _ (zu_s _ _ _ _)
                                have e80 : v76 = s77.1 a0 44 := by rw [es77]; exact zm_s
                                refine zg_aload_n X 2 rfl dX11_expression_265 ?_
                                refine zg_cVv (As := []) (st := []) X ha0 rfl (by decide) rfl (t_X11_goesOn l d L kd κ _ hI a0 ha0   ) mk_X11_227 mc_X11_goesOn mz_X11 mi_X11_goesOn ml_X11_goesOn (na := 0) ⟨md_X11.1, md_X11.2, by decide +kernel⟩ rfl ⟨by decide, by decide⟩ (Nat.le_of_ble_eq_true rfl) dX11_expression_266 (fun t81 hq => ?_)
                                obtain ⟨hF, ht81_fact0, hI, g82⟩ := hq
                                replace E := zLet_s hF E
                                have ft81_12 : (t81.1 a0 12).toInt = (s77.1 a0 12).toInt := by rw [g82.2.1 12 (by decide)]
                                have ft81_38 : (t81.1 a0 38).toInt = (s77.1 a0 38).toInt := by rw [g82.2.1 38 (by decide)]
                                have ft81_44 : (t81.1 a0 44).toInt = (s77.1 a0 44).toInt := by rw [g82.2.1 44 (by decide)]
                                have hS := hS.tr g82 (by decide) (by decide)
                                have at81_5 := (zp_same hI ha0 g82 5 rfl (by decide) (by decide)).trans as77_5
                                have at81_39 := (zp_same hI ha0 g82 39 rfl (by decide) (by decide)).trans as77_39
                                have at81_40 := (zp_same hI ha0 g82 40 rfl (by decide) (by decide)).trans as77_40
                                have at81_43 := (zp_same hI ha0 g82 43 rfl (by decide) (by decide)).trans as77_43
                                have zpu : zEs (zp a0 t81 43) (zp a0 t81 39) (zp a0 t81 40) (t81.1 a0 44).toInt (t81.1 a0 38).toInt (σ.1 a0 38).toInt 0 ∧ nO (zp a0 t81 43) (t81.1 a0 44).toInt.toNat = nO (zp a0 τ21 43) (τ21.1 a0 44).toInt.toNat := by
                                  rw [at81_39, at81_40, show (t81.1 a0 38).toInt = y38 by omega]
                                  have y := zEs.pushS (x := v69.toInt) (w' := zp a0 t81 43) (W' := (t81.1 a0 44).toInt) zc0 (fun j h0 => by rw [at81_43, ws70 j h0]; split <;> split <;> first | rfl | (exfalso; omega)) (by omega) (by omega) (by omega) (by omega)
                                  exact ⟨y.1, by omega⟩
                                refine zg_goto X 12 dX11_expression_269 (by decide) ?_
                                refine zg_sub [0, 1, 2] rfl ?_
                                exact ihLp8 _ v30 hI hS at81_5 E  (by omega) (by omega) (fun _ => zpu.1) (fun j h0 h1 => by have y := hk j h0 (by omega); have x := zc2 j h0 (by omega); rw [at81_39, at81_40]; exact ⟨x.1.trans y.1, x.2.trans y.2⟩)
                              · skip
                                replace E := zIf_f c61 E
                                have zts := ht59_fact0.un.resolve_right (fun z => absurd z.1 (by omega))
                                refine zg_iconst X 1 dX11_expression_229 (by decide) (fun v84 _ hv84 => ?_)
                                replace E := zLet_s (zcst hv84 (by decide)) E
                                refine zg_goto X 234 dX11_expression_230 (by decide) ?_
                                refine zg_cVv (As := [.int v84]) (st := []) X ha0 rfl (by decide) rfl (t_X11_comesOut l d L kd κ _ hI a0 ha0 v84 ((σ.1 a0 38).toInt) (by omega) (hx)) mk_X11_306 mc_X11_comesOut mz_X11 mi_X11_comesOut ml_X11_comesOut (na := 1) ⟨md_X11.1, md_X11.2, by decide +kernel⟩ rfl ⟨by decide, by decide⟩ (Nat.le_of_ble_eq_true rfl) dX11_expression_234 (fun t85 hq => ?_)
                                obtain ⟨hF, ⟨ht85_fact0, ht85_fact1, ht85_fact2, ht85_fact3⟩, hI, g86⟩ := hq
                                replace E := zLet_s hF E
                                have ft85_11 : (t85.1 a0 11).toInt = (τ21.1 a0 11).toInt := by rw [g86.2.1 11 (by decide)]
                                have ft85_12 : (t85.1 a0 12).toInt = (τ21.1 a0 12).toInt := by rw [g86.2.1 12 (by decide)]
                                have ft85_13 : (t85.1 a0 13).toInt = (τ21.1 a0 13).toInt := by rw [g86.2.1 13 (by decide)]
                                have hS := hS.tr g86 (by decide) (by decide)
                                have at85_5 := (zp_same hI ha0 g86 5 rfl (by decide) (by decide)).trans A5_Lp21
                                have at85_43 := zp_same hI ha0 g86 43 rfl (by decide) (by decide)
                                have zc0 := ht85_fact0
                                have zc1 := ht85_fact1
                                have zc2 := ht85_fact2
                                have zc3 := ht85_fact3
                                clear ht85_fact3 ht85_fact2 ht85_fact1 ht85_fact0
                                have zc4 := zc0.stop
                                have zc7 := zc0.at
                                obtain ⟨y38, hy38⟩ : ∃ x : Int, x = (t85.1 a0 38).toInt := ⟨_, rfl⟩
                                obtain ⟨y44, hy44⟩ : ∃ x : Int, x = (t85.1 a0 44).toInt := ⟨_, rfl⟩
                                have zc5 : y44 = 0 → nO (zp a0 τ21 43) y44.toNat = 0 := fun z => by rw [z]; rfl
                                rw [← hy44] at zc0 zc1 zc3 zc4 zc7
                                rw [← hy38] at zc0 zc1 zc7
                                replace zc4 := zHide.mk zc4
                                replace zc3 := zHide.mk zc3
                                replace zc5 := zHide.mk zc5
                                have zc8 := zc4.un.2.1 (zc3.un.imp id (fun z => ⟨z.1, z.2.imp id (fun y => y.2)⟩))
                                have zc9 : v84.toInt = 0 → y44 ≤ 3 * nO (zp a0 τ21 43) y44.toNat := fun h0 => zc4.un.1 (zc3.un.imp id (fun z => ⟨z.1, z.2.resolve_right (fun y => absurd y.1 (by omega))⟩))
                                refine zg_aload_n X 2 rfl dX11_expression_237 ?_
                                refine fg_X11_98 X hI ha0 dX11_expression_238 (fun v87 ev87 hv87 => ?_)
                                replace E := zLet_s (zgr ev87) E
                                refine zg_aload_n X 2 rfl dX11_expression_241 ?_
                                refine fg_X11_297 X hI ha0 dX11_expression_242 (fun v88 ev88 hv88 => ?_)
                                replace E := zLet_s ev88 E
                                have kv88 : (t85.1 a0 44).toInt = v88.toInt := by rw [ev88]
                                refine zg_aload_n X 2 rfl dX11_expression_245 ?_
                                refine fg_X11_20 X hI ha0 dX11_expression_246 (fun v89 ev89 hv89 => ?_)
                                replace E := zLet_s (zgr ev89) E
                                refine zg_aload_n X 2 rfl dX11_expression_249 ?_
                                refine fg_X11_209 X hI ha0 dX11_expression_250 (fun v90 ev90 hv90 => ?_)
                                replace E := zLet_s ev90 E
                                have kv90 : (t85.1 a0 11).toInt = v90.toInt := by rw [ev90]
                                refine ag_105 X hI hv89 (by omega) (by omega) dX11_expression_253 (fun v91 ev91 _ => ?_)
                                replace E := zLet_s ev91 E
                                have qv91 := zp_ld ev89 ev91
                                rw [at85_5] at qv91
                                rw [← kv90] at qv91
                                rw [show (t85.1 a0 11).toInt = (τ21.1 a0 11).toInt by omega, ← zA5] at qv91
                                refine as_143 X hI hv87 (by omega) (by omega) dX11_expression_254 (fun s92 es92 hI => ?_)
                                replace E := zLet_s es92 E
                                have g93 := (zSame.rf (o := a0) (Wf := []) (Wa := [143]) (L := L) (kd := kd) (σ := t85)).a ha0 hv87 es92 rfl (by decide)
                                have rs92 := zp_st (σ := t85) (σ2 := s92) (i := v88) (x := v91) ev87 es92 (by omega)
                                have ws92 := rs92
                                rw [at85_43] at ws92
                                rw [← kv88] at ws92
                                have fs92_11 : (s92.1 a0 11).toInt = (t85.1 a0 11).toInt := by rw [g93.2.1 11 (by decide)]
                                have fs92_12 : (s92.1 a0 12).toInt = (t85.1 a0 12).toInt := by rw [g93.2.1 12 (by decide)]
                                have fs92_13 : (s92.1 a0 13).toInt = (t85.1 a0 13).toInt := by rw [g93.2.1 13 (by decide)]
                                have fs92_38 : (s92.1 a0 38).toInt = (t85.1 a0 38).toInt := by rw [g93.2.1 38 (by decide)]
                                have fs92_44 : (s92.1 a0 44).toInt = (t85.1 a0 44).toInt := by rw [g93.2.1 44 (by decide)]
                                have hS := hS.tr g93 (by decide) (by decide)
                                have as92_5 := (zp_same hI ha0 g93 5 rfl (by decide) (by decide)).trans at85_5
                                have as92_39 := zp_same hI ha0 g93 39 rfl (by decide) (by decide)
                                have as92_40 := zp_same hI ha0 g93 40 rfl (by decide) (by decide)
                                have e94 := g93.v ev88 (by decide)
                                refine zg_aload_n X 2 rfl dX11_expression_255 ?_
                                refine zg_dup X dX11_expression_256 rfl ?_
                                refine fg_X11_297 X hI ha0 dX11_expression_257 (fun v96 ev96 hv96 => ?_)
                                replace E := zLet_s ev96 E
                                have kv96 : (s92.1 a0 44).toInt = v96.toInt := by rw [ev96]
                                have mv96 : v96.toInt = v88.toInt := by rw [ev96, ← e94]
                                refine zg_iconst X 1 dX11_expression_260 (by decide) (fun v97 _ hv97 => ?_)
                                replace E := zLet_s (zcst hv97 (by decide)) E
                                refine zg_iadd X dX11_expression_261 (by omega) (by omega) (fun v98 ev98 hv98 => ?_)
                                replace E := zLet_s ev98 E
                                refine fp_X11_297 X hI ha0 ⟨by omega, by omega⟩ dX11_expression_262 (fun s99 es99 hI => ?_)
                                replace E := zLet_s es99 E
                                have g100 := (zSame.rf (o := a0) (Wf := [44]) (Wa := []) (L := L) (kd := kd) (σ := s92)).f ha0 es99 rfl
                                have fs99_11 : (s99.1 a0 11).toInt = (s92.1 a0 11).toInt := by rw [g100.2.1 11 (by decide)]
                                have fs99_12 : (s99.1 a0 12).toInt = (s92.1 a0 12).toInt := by rw [g100.2.1 12 (by decide)]
                                have fs99_13 : (s99.1 a0 13).toInt = (s92.1 a0 13).toInt := by rw [g100.2.1 13 (by decide)]
                                have fs99_38 : (s99.1 a0 38).toInt = (s92.1 a0 38).toInt := by rw [g100.2.1 38 (by decide)]
                                have hS := hS.tr g100 (by decide) (by decide)
                                have as99_5 := (zp_same hI ha0 g100 5 rfl (by decide) (by decide)).trans as92_5
                                have as99_39 := (zp_same hI ha0 g100 39 rfl (by decide) (by decide)).trans as92_39
                                have as99_40 := (zp_same hI ha0 g100 40 rfl (by decide) (by decide)).trans as92_40
                                have as99_43 := zp_same hI ha0 g100 43 rfl (by decide) (by decide)
                                have fs99_44 : (s99.1 a0 44).toInt = v98.toInt := by rw [es99]; exact congrArg _ (zu_s _ _ _ _)
                                have e102 : v98 = s99.1 a0 44 := by rw [es99]; exact zm_s
                                refine zg_aload_n X 2 rfl dX11_expression_265 ?_
                                refine zg_cVv (As := []) (st := []) X ha0 rfl (by decide) rfl (t_X11_goesOn l d L kd κ _ hI a0 ha0   ) mk_X11_227 mc_X11_goesOn mz_X11 mi_X11_goesOn ml_X11_goesOn (na := 0) ⟨md_X11.1, md_X11.2, by decide +kernel⟩ rfl ⟨by decide, by decide⟩ (Nat.le_of_ble_eq_true rfl) dX11_expression_266 (fun t103 hq => ?_)
                                obtain ⟨hF, ht103_fact0, hI, g104⟩ := hq
                                replace E := zLet_s hF E
                                have ft103_12 : (t103.1 a0 12).toInt = (s99.1 a0 12).toInt := by rw [g104.2.1 12 (by decide)]
                                have ft103_38 : (t103.1 a0 38).toInt = (s99.1 a0 38).toInt := by rw [g104.2.1 38 (by decide)]
                                have ft103_44 : (t103.1 a0 44).toInt = (s99.1 a0 44).toInt := by rw [g104.2.1 44 (by decide)]
                                have hS := hS.tr g104 (by decide) (by decide)
                                have at103_5 := (zp_same hI ha0 g104 5 rfl (by decide) (by decide)).trans as99_5
                                have at103_39 := (zp_same hI ha0 g104 39 rfl (by decide) (by decide)).trans as99_39
                                have at103_40 := (zp_same hI ha0 g104 40 rfl (by decide) (by decide)).trans as99_40
                                have at103_43 := (zp_same hI ha0 g104 43 rfl (by decide) (by decide)).trans as99_43
                                have zpu : zEs (zp a0 t103 43) (zp a0 t103 39) (zp a0 t103 40) (t103.1 a0 44).toInt (t103.1 a0 38).toInt (σ.1 a0 38).toInt 0 ∧ nO (zp a0 t103 43) (t103.1 a0 44).toInt.toNat = nO (zp a0 τ21 43) (τ21.1 a0 44).toInt.toNat := by
                                  rw [at103_39, at103_40, show (t103.1 a0 38).toInt = y38 by omega]
                                  have y := zEs.pushS (x := v91.toInt) (w' := zp a0 t103 43) (W' := (t103.1 a0 44).toInt) zc0 (fun j h0 => by rw [at103_43, ws92 j h0]; split <;> split <;> first | rfl | (exfalso; omega)) (by omega) (by omega) (by omega) (by omega)
                                  exact ⟨y.1, by omega⟩
                                refine zg_goto X 12 dX11_expression_269 (by decide) ?_
                                refine zg_sub [0, 1, 2] rfl ?_
                                exact ihLp8 _ v30 hI hS at103_5 E  (by omega) (by omega) (fun _ => zpu.1) (fun j h0 h1 => by have y := hk j h0 (by omega); have x := zc2 j h0 (by omega); rw [at103_39, at103_40]; exact ⟨x.1.trans y.1, x.2.trans y.2⟩)
                          · omega
                        · skip
                          replace E := zIf_t c29 E
                          refine zg_aload_n X 2 rfl dX11_expression_154 ?_
                          refine zg_bipush X 9 dX11_expression_155 (by decide) (fun v106 _ hv106 => ?_)
                          replace E := zLet_s (zcst hv106 (by decide)) E
                          refine zg_cVi (As := [.int v106]) (st := []) X ha0 rfl (by decide) rfl (t_X11_is l d L kd κ _ hI a0 ha0 v106  ) mk_X11_224 mc_X11_is mz_X11 mi_X11_is ml_X11_is (na := 1) ⟨md_X11.1, md_X11.2, by decide +kernel⟩ rfl ⟨by decide, by decide⟩ (Nat.le_of_ble_eq_true rfl) dX11_expression_157 (fun v108 t107 hq => ?_)
                          obtain ⟨⟨hF, ⟨ht107_res, ht107_fact0⟩⟩, rfl⟩ := hq
                          replace E := zLet_s hF E
                          replace ht107_fact0 := zHide.mk ht107_fact0
                          refine zg_if_ne X 181 dX11_expression_160 (by decide) (fun c109 => ?_) (fun c109 => ?_)
                          · skip
                            replace E := zIf_f c109 E
                            have ztk := ht107_fact0.un.resolve_right (fun z => absurd z.1 (by omega))
                            refine zg_iconst X 1 dX11_expression_181 (by decide) (fun v110 _ hv110 => ?_)
                            replace E := zLet_s (zcst hv110 (by decide)) E
                            refine zg_goto X 186 dX11_expression_182 (by decide) ?_
                            refine zg_istore_n X [(2, .int v110), (1, .int v5), (0, .ref a0)] dX11_expression_186 (by decide) rfl ?_
                            refine zg_iload_n X 0 rfl dX11_expression_187 ?_
                            refine zg_if_ne X 210 dX11_expression_188 (by decide) (fun c111 => ?_) (fun c111 => ?_)
                            · skip
                              replace E := zIf_f c111 E
                              refine zg_aload_n X 2 rfl dX11_expression_210 ?_
                              refine zg_aload_n X 2 rfl dX11_expression_211 ?_
                              refine zg_bipush X 10 dX11_expression_212 (by decide) (fun v112 _ hv112 => ?_)
                              replace E := zLet_s (zcst hv112 (by decide)) E
                              refine zg_cVi (As := [.int v112]) (st := [.ref a0]) X ha0 rfl (by decide) rfl (t_X11_is l d L kd κ _ hI a0 ha0 v112  ) mk_X11_224 mc_X11_is mz_X11 mi_X11_is ml_X11_is (na := 1) ⟨md_X11.1, md_X11.2, by decide +kernel⟩ rfl ⟨by decide, by decide⟩ (Nat.le_of_ble_eq_true rfl) dX11_expression_214 (fun v114 t113 hq => ?_)
                              obtain ⟨⟨hF, ⟨ht113_res, ht113_fact0⟩⟩, rfl⟩ := hq
                              replace E := zLet_s hF E
                              replace ht113_fact0 := zHide.mk ht113_fact0
                              refine zg_if_ne X 229 dX11_expression_217 (by decide) (fun c115 => ?_) (fun c115 => ?_)
                              · skip
                                replace E := zIf_f c115 E
                                have zts := ht113_fact0.un.resolve_right (fun z => absurd z.1 (by omega))
                                refine zg_iconst X 1 dX11_expression_229 (by decide) (fun v116 _ hv116 => ?_)
                                replace E := zLet_s (zcst hv116 (by decide)) E
                                refine zg_goto X 234 dX11_expression_230 (by decide) ?_
                                refine zg_cVv (As := [.int v116]) (st := []) X ha0 rfl (by decide) rfl (t_X11_comesOut l d L kd κ _ hI a0 ha0 v116 ((σ.1 a0 38).toInt) (by omega) (hx)) mk_X11_306 mc_X11_comesOut mz_X11 mi_X11_comesOut ml_X11_comesOut (na := 1) ⟨md_X11.1, md_X11.2, by decide +kernel⟩ rfl ⟨by decide, by decide⟩ (Nat.le_of_ble_eq_true rfl) dX11_expression_234 (fun t117 hq => ?_)
                                obtain ⟨hF, ⟨ht117_fact0, ht117_fact1, ht117_fact2, ht117_fact3⟩, hI, g118⟩ := hq
                                replace E := zLet_s hF E
                                have ft117_11 : (t117.1 a0 11).toInt = (τ21.1 a0 11).toInt := by rw [g118.2.1 11 (by decide)]
                                have ft117_12 : (t117.1 a0 12).toInt = (τ21.1 a0 12).toInt := by rw [g118.2.1 12 (by decide)]
                                have ft117_13 : (t117.1 a0 13).toInt = (τ21.1 a0 13).toInt := by rw [g118.2.1 13 (by decide)]
                                have hS := hS.tr g118 (by decide) (by decide)
                                have at117_5 := (zp_same hI ha0 g118 5 rfl (by decide) (by decide)).trans A5_Lp21
                                have at117_43 := zp_same hI ha0 g118 43 rfl (by decide) (by decide)
                                have zc0 := ht117_fact0
                                have zc1 := ht117_fact1
                                have zc2 := ht117_fact2
                                have zc3 := ht117_fact3
                                clear ht117_fact3 ht117_fact2 ht117_fact1 ht117_fact0
                                have zc4 := zc0.stop
                                have zc7 := zc0.at
                                obtain ⟨y38, hy38⟩ : ∃ x : Int, x = (t117.1 a0 38).toInt := ⟨_, rfl⟩
                                obtain ⟨y44, hy44⟩ : ∃ x : Int, x = (t117.1 a0 44).toInt := ⟨_, rfl⟩
                                have zc5 : y44 = 0 → nO (zp a0 τ21 43) y44.toNat = 0 := fun z => by rw [z]; rfl
                                rw [← hy44] at zc0 zc1 zc3 zc4 zc7
                                rw [← hy38] at zc0 zc1 zc7
                                replace zc4 := zHide.mk zc4
                                replace zc3 := zHide.mk zc3
                                replace zc5 := zHide.mk zc5
                                have zc8 := zc4.un.2.1 (zc3.un.imp id (fun z => ⟨z.1, z.2.imp id (fun y => y.2)⟩))
                                have zc9 : v116.toInt = 0 → y44 ≤ 3 * nO (zp a0 τ21 43) y44.toNat := fun h0 => zc4.un.1 (zc3.un.imp id (fun z => ⟨z.1, z.2.resolve_right (fun y => absurd y.1 (by omega))⟩))
                                refine zg_aload_n X 2 rfl dX11_expression_237 ?_
                                refine fg_X11_98 X hI ha0 dX11_expression_238 (fun v119 ev119 hv119 => ?_)
                                replace E := zLet_s (zgr ev119) E
                                refine zg_aload_n X 2 rfl dX11_expression_241 ?_
                                refine fg_X11_297 X hI ha0 dX11_expression_242 (fun v120 ev120 hv120 => ?_)
                                replace E := zLet_s ev120 E
                                have kv120 : (t117.1 a0 44).toInt = v120.toInt := by rw [ev120]
                                refine zg_aload_n X 2 rfl dX11_expression_245 ?_
                                refine fg_X11_20 X hI ha0 dX11_expression_246 (fun v121 ev121 hv121 => ?_)
                                replace E := zLet_s (zgr ev121) E
                                refine zg_aload_n X 2 rfl dX11_expression_249 ?_
                                refine fg_X11_209 X hI ha0 dX11_expression_250 (fun v122 ev122 hv122 => ?_)
                                replace E := zLet_s ev122 E
                                have kv122 : (t117.1 a0 11).toInt = v122.toInt := by rw [ev122]
                                refine ag_105 X hI hv121 (by omega) (by omega) dX11_expression_253 (fun v123 ev123 _ => ?_)
                                replace E := zLet_s ev123 E
                                have qv123 := zp_ld ev121 ev123
                                rw [at117_5] at qv123
                                rw [← kv122] at qv123
                                rw [show (t117.1 a0 11).toInt = (τ21.1 a0 11).toInt by omega, ← zA5] at qv123
                                refine as_143 X hI hv119 (by omega) (by omega) dX11_expression_254 (fun s124 es124 hI => ?_)
                                replace E := zLet_s es124 E
                                have g125 := (zSame.rf (o := a0) (Wf := []) (Wa := [143]) (L := L) (kd := kd) (σ := t117)).a ha0 hv119 es124 rfl (by decide)
                                have rs124 := zp_st (σ := t117) (σ2 := s124) (i := v120) (x := v123) ev119 es124 (by omega)
                                have ws124 := rs124
                                rw [at117_43] at ws124
                                rw [← kv120] at ws124
                                have fs124_11 : (s124.1 a0 11).toInt = (t117.1 a0 11).toInt := by rw [g125.2.1 11 (by decide)]
                                have fs124_12 : (s124.1 a0 12).toInt = (t117.1 a0 12).toInt := by rw [g125.2.1 12 (by decide)]
                                have fs124_13 : (s124.1 a0 13).toInt = (t117.1 a0 13).toInt := by rw [g125.2.1 13 (by decide)]
                                have fs124_38 : (s124.1 a0 38).toInt = (t117.1 a0 38).toInt := by rw [g125.2.1 38 (by decide)]
                                have fs124_44 : (s124.1 a0 44).toInt = (t117.1 a0 44).toInt := by rw [g125.2.1 44 (by decide)]
                                have hS := hS.tr g125 (by decide) (by decide)
                                have as124_5 := (zp_same hI ha0 g125 5 rfl (by decide) (by decide)).trans at117_5
                                have as124_39 := zp_same hI ha0 g125 39 rfl (by decide) (by decide)
                                have as124_40 := zp_same hI ha0 g125 40 rfl (by decide) (by decide)
                                have e126 := g125.v ev120 (by decide)
                                refine zg_aload_n X 2 rfl dX11_expression_255 ?_
                                refine zg_dup X dX11_expression_256 rfl ?_
                                refine fg_X11_297 X hI ha0 dX11_expression_257 (fun v128 ev128 hv128 => ?_)
                                replace E := zLet_s ev128 E
                                have kv128 : (s124.1 a0 44).toInt = v128.toInt := by rw [ev128]
                                have mv128 : v128.toInt = v120.toInt := by rw [ev128, ← e126]
                                refine zg_iconst X 1 dX11_expression_260 (by decide) (fun v129 _ hv129 => ?_)
                                replace E := zLet_s (zcst hv129 (by decide)) E
                                refine zg_iadd X dX11_expression_261 (by omega) (by omega) (fun v130 ev130 hv130 => ?_)
                                replace E := zLet_s ev130 E
                                refine fp_X11_297 X hI ha0 ⟨by omega, by omega⟩ dX11_expression_262 (fun s131 es131 hI => ?_)
                                replace E := zLet_s es131 E
                                have g132 := (zSame.rf (o := a0) (Wf := [44]) (Wa := []) (L := L) (kd := kd) (σ := s124)).f ha0 es131 rfl
                                have fs131_11 : (s131.1 a0 11).toInt = (s124.1 a0 11).toInt := by rw [g132.2.1 11 (by decide)]
                                have fs131_12 : (s131.1 a0 12).toInt = (s124.1 a0 12).toInt := by rw [g132.2.1 12 (by decide)]
                                have fs131_13 : (s131.1 a0 13).toInt = (s124.1 a0 13).toInt := by rw [g132.2.1 13 (by decide)]
                                have fs131_38 : (s131.1 a0 38).toInt = (s124.1 a0 38).toInt := by rw [g132.2.1 38 (by decide)]
                                have hS := hS.tr g132 (by decide) (by decide)
                                have as131_5 := (zp_same hI ha0 g132 5 rfl (by decide) (by decide)).trans as124_5
                                have as131_39 := (zp_same hI ha0 g132 39 rfl (by decide) (by decide)).trans as124_39
                                have as131_40 := (zp_same hI ha0 g132 40 rfl (by decide) (by decide)).trans as124_40
                                have as131_43 := zp_same hI ha0 g132 43 rfl (by decide) (by decide)
                                have fs131_44 : (s131.1 a0 44).toInt = v130.toInt := by rw [es131]; exact congrArg _ (zu_s _ _ _ _)
                                have e134 : v130 = s131.1 a0 44 := by rw [es131]; exact zm_s
                                refine zg_aload_n X 2 rfl dX11_expression_265 ?_
                                refine zg_cVv (As := []) (st := []) X ha0 rfl (by decide) rfl (t_X11_goesOn l d L kd κ _ hI a0 ha0   ) mk_X11_227 mc_X11_goesOn mz_X11 mi_X11_goesOn ml_X11_goesOn (na := 0) ⟨md_X11.1, md_X11.2, by decide +kernel⟩ rfl ⟨by decide, by decide⟩ (Nat.le_of_ble_eq_true rfl) dX11_expression_266 (fun t135 hq => ?_)
                                obtain ⟨hF, ht135_fact0, hI, g136⟩ := hq
                                replace E := zLet_s hF E
                                have ft135_12 : (t135.1 a0 12).toInt = (s131.1 a0 12).toInt := by rw [g136.2.1 12 (by decide)]
                                have ft135_38 : (t135.1 a0 38).toInt = (s131.1 a0 38).toInt := by rw [g136.2.1 38 (by decide)]
                                have ft135_44 : (t135.1 a0 44).toInt = (s131.1 a0 44).toInt := by rw [g136.2.1 44 (by decide)]
                                have hS := hS.tr g136 (by decide) (by decide)
                                have at135_5 := (zp_same hI ha0 g136 5 rfl (by decide) (by decide)).trans as131_5
                                have at135_39 := (zp_same hI ha0 g136 39 rfl (by decide) (by decide)).trans as131_39
                                have at135_40 := (zp_same hI ha0 g136 40 rfl (by decide) (by decide)).trans as131_40
                                have at135_43 := (zp_same hI ha0 g136 43 rfl (by decide) (by decide)).trans as131_43
                                have zpu : zEs (zp a0 t135 43) (zp a0 t135 39) (zp a0 t135 40) (t135.1 a0 44).toInt (t135.1 a0 38).toInt (σ.1 a0 38).toInt 0 ∧ nO (zp a0 t135 43) (t135.1 a0 44).toInt.toNat = nO (zp a0 τ21 43) (τ21.1 a0 44).toInt.toNat := by
                                  rw [at135_39, at135_40, show (t135.1 a0 38).toInt = y38 by omega]
                                  have y := zEs.pushS (x := v123.toInt) (w' := zp a0 t135 43) (W' := (t135.1 a0 44).toInt) zc0 (fun j h0 => by rw [at135_43, ws124 j h0]; split <;> split <;> first | rfl | (exfalso; omega)) (by omega) (by omega) (by omega) (by omega)
                                  exact ⟨y.1, by omega⟩
                                refine zg_goto X 12 dX11_expression_269 (by decide) ?_
                                refine zg_sub [0, 1, 2] rfl ?_
                                exact ihLp8 _ v110 hI hS at135_5 E  (by omega) (by omega) (fun _ => zpu.1) (fun j h0 h1 => by have y := hk j h0 (by omega); have x := zc2 j h0 (by omega); rw [at135_39, at135_40]; exact ⟨x.1.trans y.1, x.2.trans y.2⟩)
                              · skip
                                replace E := zIf_t c115 E
                                refine zg_aload_n X 2 rfl dX11_expression_220 ?_
                                refine zg_bipush X 15 dX11_expression_221 (by decide) (fun v138 _ hv138 => ?_)
                                replace E := zLet_s (zcst hv138 (by decide)) E
                                refine zg_cVi (As := [.int v138]) (st := [.ref a0]) X ha0 rfl (by decide) rfl (t_X11_is l d L kd κ _ hI a0 ha0 v138  ) mk_X11_224 mc_X11_is mz_X11 mi_X11_is ml_X11_is (na := 1) ⟨md_X11.1, md_X11.2, by decide +kernel⟩ rfl ⟨by decide, by decide⟩ (Nat.le_of_ble_eq_true rfl) dX11_expression_223 (fun v140 t139 hq => ?_)
                                obtain ⟨⟨hF, ⟨ht139_res, ht139_fact0⟩⟩, rfl⟩ := hq
                                replace E := zLet_s hF E
                                replace ht139_fact0 := zHide.mk ht139_fact0
                                refine zg_if_eq X 233 dX11_expression_226 (by decide) (fun c141 => ?_) (fun c141 => ?_)
                                · skip
                                  replace E := zIf_t c141 E
                                  have zn1 := ht139_fact0.un.resolve_left (fun z => absurd z.1 (by omega))
                                  have zn2 := ht113_fact0.un.resolve_left (fun z => absurd z.1 (by omega))
                                  refine zg_iconst X 0 dX11_expression_233 (by decide) (fun v142 _ hv142 => ?_)
                                  replace E := zLet_s (zcst hv142 (by decide)) E
                                  refine zg_cVv (As := [.int v142]) (st := []) X ha0 rfl (by decide) rfl (t_X11_comesOut l d L kd κ _ hI a0 ha0 v142 ((σ.1 a0 38).toInt) (by omega) (hx)) mk_X11_306 mc_X11_comesOut mz_X11 mi_X11_comesOut ml_X11_comesOut (na := 1) ⟨md_X11.1, md_X11.2, by decide +kernel⟩ rfl ⟨by decide, by decide⟩ (Nat.le_of_ble_eq_true rfl) dX11_expression_234 (fun t143 hq => ?_)
                                  obtain ⟨hF, ⟨ht143_fact0, ht143_fact1, ht143_fact2, ht143_fact3⟩, hI, g144⟩ := hq
                                  replace E := zLet_s hF E
                                  have ft143_11 : (t143.1 a0 11).toInt = (τ21.1 a0 11).toInt := by rw [g144.2.1 11 (by decide)]
                                  have ft143_12 : (t143.1 a0 12).toInt = (τ21.1 a0 12).toInt := by rw [g144.2.1 12 (by decide)]
                                  have ft143_13 : (t143.1 a0 13).toInt = (τ21.1 a0 13).toInt := by rw [g144.2.1 13 (by decide)]
                                  have hS := hS.tr g144 (by decide) (by decide)
                                  have at143_5 := (zp_same hI ha0 g144 5 rfl (by decide) (by decide)).trans A5_Lp21
                                  have at143_43 := zp_same hI ha0 g144 43 rfl (by decide) (by decide)
                                  have zc0 := ht143_fact0
                                  have zc1 := ht143_fact1
                                  have zc2 := ht143_fact2
                                  have zc3 := ht143_fact3
                                  clear ht143_fact3 ht143_fact2 ht143_fact1 ht143_fact0
                                  have zc4 := zc0.stop
                                  have zc7 := zc0.at
                                  obtain ⟨y38, hy38⟩ : ∃ x : Int, x = (t143.1 a0 38).toInt := ⟨_, rfl⟩
                                  obtain ⟨y44, hy44⟩ : ∃ x : Int, x = (t143.1 a0 44).toInt := ⟨_, rfl⟩
                                  have zc5 : y44 = 0 → nO (zp a0 τ21 43) y44.toNat = 0 := fun z => by rw [z]; rfl
                                  rw [← hy44] at zc0 zc1 zc3 zc4 zc7
                                  rw [← hy38] at zc0 zc1 zc7
                                  replace zc4 := zHide.mk zc4
                                  replace zc3 := zHide.mk zc3
                                  replace zc5 := zHide.mk zc5
                                  have zc8 := zc4.un.2.1 (zc3.un.imp id (fun z => ⟨z.1, z.2.imp id (fun y => y.2)⟩))
                                  have zc9 : v142.toInt = 0 → y44 ≤ 3 * nO (zp a0 τ21 43) y44.toNat := fun h0 => zc4.un.1 (zc3.un.imp id (fun z => ⟨z.1, z.2.resolve_right (fun y => absurd y.1 (by omega))⟩))
                                  refine zg_aload_n X 2 rfl dX11_expression_237 ?_
                                  refine fg_X11_98 X hI ha0 dX11_expression_238 (fun v145 ev145 hv145 => ?_)
                                  replace E := zLet_s (zgr ev145) E
                                  refine zg_aload_n X 2 rfl dX11_expression_241 ?_
                                  refine fg_X11_297 X hI ha0 dX11_expression_242 (fun v146 ev146 hv146 => ?_)
                                  replace E := zLet_s ev146 E
                                  have kv146 : (t143.1 a0 44).toInt = v146.toInt := by rw [ev146]
                                  refine zg_aload_n X 2 rfl dX11_expression_245 ?_
                                  refine fg_X11_20 X hI ha0 dX11_expression_246 (fun v147 ev147 hv147 => ?_)
                                  replace E := zLet_s (zgr ev147) E
                                  refine zg_aload_n X 2 rfl dX11_expression_249 ?_
                                  refine fg_X11_209 X hI ha0 dX11_expression_250 (fun v148 ev148 hv148 => ?_)
                                  replace E := zLet_s ev148 E
                                  have kv148 : (t143.1 a0 11).toInt = v148.toInt := by rw [ev148]
                                  refine ag_105 X hI hv147 (by omega) (by omega) dX11_expression_253 (fun v149 ev149 _ => ?_)
                                  replace E := zLet_s ev149 E
                                  have qv149 := zp_ld ev147 ev149
                                  rw [at143_5] at qv149
                                  rw [← kv148] at qv149
                                  rw [show (t143.1 a0 11).toInt = (τ21.1 a0 11).toInt by omega, ← zA5] at qv149
                                  refine as_143 X hI hv145 (by omega) (by omega) dX11_expression_254 (fun s150 es150 hI => ?_)
                                  replace E := zLet_s es150 E
                                  have g151 := (zSame.rf (o := a0) (Wf := []) (Wa := [143]) (L := L) (kd := kd) (σ := t143)).a ha0 hv145 es150 rfl (by decide)
                                  have rs150 := zp_st (σ := t143) (σ2 := s150) (i := v146) (x := v149) ev145 es150 (by omega)
                                  have ws150 := rs150
                                  rw [at143_43] at ws150
                                  rw [← kv146] at ws150
                                  have fs150_11 : (s150.1 a0 11).toInt = (t143.1 a0 11).toInt := by rw [g151.2.1 11 (by decide)]
                                  have fs150_12 : (s150.1 a0 12).toInt = (t143.1 a0 12).toInt := by rw [g151.2.1 12 (by decide)]
                                  have fs150_13 : (s150.1 a0 13).toInt = (t143.1 a0 13).toInt := by rw [g151.2.1 13 (by decide)]
                                  have fs150_38 : (s150.1 a0 38).toInt = (t143.1 a0 38).toInt := by rw [g151.2.1 38 (by decide)]
                                  have fs150_44 : (s150.1 a0 44).toInt = (t143.1 a0 44).toInt := by rw [g151.2.1 44 (by decide)]
                                  have hS := hS.tr g151 (by decide) (by decide)
                                  have as150_5 := (zp_same hI ha0 g151 5 rfl (by decide) (by decide)).trans at143_5
                                  have as150_39 := zp_same hI ha0 g151 39 rfl (by decide) (by decide)
                                  have as150_40 := zp_same hI ha0 g151 40 rfl (by decide) (by decide)
                                  have e152 := g151.v ev146 (by decide)
                                  refine zg_aload_n X 2 rfl dX11_expression_255 ?_
                                  refine zg_dup X dX11_expression_256 rfl ?_
                                  refine fg_X11_297 X hI ha0 dX11_expression_257 (fun v154 ev154 hv154 => ?_)
                                  replace E := zLet_s ev154 E
                                  have kv154 : (s150.1 a0 44).toInt = v154.toInt := by rw [ev154]
                                  have mv154 : v154.toInt = v146.toInt := by rw [ev154, ← e152]
                                  refine zg_iconst X 1 dX11_expression_260 (by decide) (fun v155 _ hv155 => ?_)
                                  replace E := zLet_s (zcst hv155 (by decide)) E
                                  refine zg_iadd X dX11_expression_261 (by omega) (by omega) (fun v156 ev156 hv156 => ?_)
                                  replace E := zLet_s ev156 E
                                  refine fp_X11_297 X hI ha0 ⟨by omega, by omega⟩ dX11_expression_262 (fun s157 es157 hI => ?_)
                                  replace E := zLet_s es157 E
                                  have g158 := (zSame.rf (o := a0) (Wf := [44]) (Wa := []) (L := L) (kd := kd) (σ := s150)).f ha0 es157 rfl
                                  have fs157_11 : (s157.1 a0 11).toInt = (s150.1 a0 11).toInt := by rw [g158.2.1 11 (by decide)]
                                  have fs157_12 : (s157.1 a0 12).toInt = (s150.1 a0 12).toInt := by rw [g158.2.1 12 (by decide)]
                                  have fs157_13 : (s157.1 a0 13).toInt = (s150.1 a0 13).toInt := by rw [g158.2.1 13 (by decide)]
                                  have fs157_38 : (s157.1 a0 38).toInt = (s150.1 a0 38).toInt := by rw [g158.2.1 38 (by decide)]
                                  have hS := hS.tr g158 (by decide) (by decide)
                                  have as157_5 := (zp_same hI ha0 g158 5 rfl (by decide) (by decide)).trans as150_5
                                  have as157_39 := (zp_same hI ha0 g158 39 rfl (by decide) (by decide)).trans as150_39
                                  have as157_40 := (zp_same hI ha0 g158 40 rfl (by decide) (by decide)).trans as150_40
                                  have as157_43 := zp_same hI ha0 g158 43 rfl (by decide) (by decide)
                                  have fs157_44 : (s157.1 a0 44).toInt = v156.toInt := by rw [es157]; exact congrArg _ (zu_s _ _ _ _)
                                  have e160 : v156 = s157.1 a0 44 := by rw [es157]; exact zm_s
                                  refine zg_aload_n X 2 rfl dX11_expression_265 ?_
                                  refine zg_cVv (As := []) (st := []) X ha0 rfl (by decide) rfl (t_X11_goesOn l d L kd κ _ hI a0 ha0   ) mk_X11_227 mc_X11_goesOn mz_X11 mi_X11_goesOn ml_X11_goesOn (na := 0) ⟨md_X11.1, md_X11.2, by decide +kernel⟩ rfl ⟨by decide, by decide⟩ (Nat.le_of_ble_eq_true rfl) dX11_expression_266 (fun t161 hq => ?_)
                                  obtain ⟨hF, ht161_fact0, hI, g162⟩ := hq
                                  replace E := zLet_s hF E
                                  have ft161_12 : (t161.1 a0 12).toInt = (s157.1 a0 12).toInt := by rw [g162.2.1 12 (by decide)]
                                  have ft161_38 : (t161.1 a0 38).toInt = (s157.1 a0 38).toInt := by rw [g162.2.1 38 (by decide)]
                                  have ft161_44 : (t161.1 a0 44).toInt = (s157.1 a0 44).toInt := by rw [g162.2.1 44 (by decide)]
                                  have hS := hS.tr g162 (by decide) (by decide)
                                  have at161_5 := (zp_same hI ha0 g162 5 rfl (by decide) (by decide)).trans as157_5
                                  have at161_39 := (zp_same hI ha0 g162 39 rfl (by decide) (by decide)).trans as157_39
                                  have at161_40 := (zp_same hI ha0 g162 40 rfl (by decide) (by decide)).trans as157_40
                                  have at161_43 := (zp_same hI ha0 g162 43 rfl (by decide) (by decide)).trans as157_43
                                  have zpu : zEs (zp a0 t161 43) (zp a0 t161 39) (zp a0 t161 40) (t161.1 a0 44).toInt (t161.1 a0 38).toInt (σ.1 a0 38).toInt 0 ∧ nO (zp a0 t161 43) (t161.1 a0 44).toInt.toNat = nO (zp a0 τ21 43) (τ21.1 a0 44).toInt.toNat := by
                                    rw [at161_39, at161_40, show (t161.1 a0 38).toInt = y38 by omega]
                                    have y := zEs.pushS (x := v149.toInt) (w' := zp a0 t161 43) (W' := (t161.1 a0 44).toInt) zc0 (fun j h0 => by rw [at161_43, ws150 j h0]; split <;> split <;> first | rfl | (exfalso; omega)) (by omega) (by omega) (by omega) (by omega)
                                    exact ⟨y.1, by omega⟩
                                  refine zg_goto X 12 dX11_expression_269 (by decide) ?_
                                  refine zg_sub [0, 1, 2] rfl ?_
                                  exact ihLp8 _ v110 hI hS at161_5 E  (by omega) (by omega) (fun _ => zpu.1) (fun j h0 h1 => by have y := hk j h0 (by omega); have x := zc2 j h0 (by omega); rw [at161_39, at161_40]; exact ⟨x.1.trans y.1, x.2.trans y.2⟩)
                                · skip
                                  replace E := zIf_f c141 E
                                  have zts := ht139_fact0.un.resolve_right (fun z => absurd z.1 (by omega))
                                  refine zg_iconst X 1 dX11_expression_229 (by decide) (fun v164 _ hv164 => ?_)
                                  replace E := zLet_s (zcst hv164 (by decide)) E
                                  refine zg_goto X 234 dX11_expression_230 (by decide) ?_
                                  refine zg_cVv (As := [.int v164]) (st := []) X ha0 rfl (by decide) rfl (t_X11_comesOut l d L kd κ _ hI a0 ha0 v164 ((σ.1 a0 38).toInt) (by omega) (hx)) mk_X11_306 mc_X11_comesOut mz_X11 mi_X11_comesOut ml_X11_comesOut (na := 1) ⟨md_X11.1, md_X11.2, by decide +kernel⟩ rfl ⟨by decide, by decide⟩ (Nat.le_of_ble_eq_true rfl) dX11_expression_234 (fun t165 hq => ?_)
                                  obtain ⟨hF, ⟨ht165_fact0, ht165_fact1, ht165_fact2, ht165_fact3⟩, hI, g166⟩ := hq
                                  replace E := zLet_s hF E
                                  have ft165_11 : (t165.1 a0 11).toInt = (τ21.1 a0 11).toInt := by rw [g166.2.1 11 (by decide)]
                                  have ft165_12 : (t165.1 a0 12).toInt = (τ21.1 a0 12).toInt := by rw [g166.2.1 12 (by decide)]
                                  have ft165_13 : (t165.1 a0 13).toInt = (τ21.1 a0 13).toInt := by rw [g166.2.1 13 (by decide)]
                                  have hS := hS.tr g166 (by decide) (by decide)
                                  have at165_5 := (zp_same hI ha0 g166 5 rfl (by decide) (by decide)).trans A5_Lp21
                                  have at165_43 := zp_same hI ha0 g166 43 rfl (by decide) (by decide)
                                  have zc0 := ht165_fact0
                                  have zc1 := ht165_fact1
                                  have zc2 := ht165_fact2
                                  have zc3 := ht165_fact3
                                  clear ht165_fact3 ht165_fact2 ht165_fact1 ht165_fact0
                                  have zc4 := zc0.stop
                                  have zc7 := zc0.at
                                  obtain ⟨y38, hy38⟩ : ∃ x : Int, x = (t165.1 a0 38).toInt := ⟨_, rfl⟩
                                  obtain ⟨y44, hy44⟩ : ∃ x : Int, x = (t165.1 a0 44).toInt := ⟨_, rfl⟩
                                  have zc5 : y44 = 0 → nO (zp a0 τ21 43) y44.toNat = 0 := fun z => by rw [z]; rfl
                                  rw [← hy44] at zc0 zc1 zc3 zc4 zc7
                                  rw [← hy38] at zc0 zc1 zc7
                                  replace zc4 := zHide.mk zc4
                                  replace zc3 := zHide.mk zc3
                                  replace zc5 := zHide.mk zc5
                                  have zc8 := zc4.un.2.1 (zc3.un.imp id (fun z => ⟨z.1, z.2.imp id (fun y => y.2)⟩))
                                  have zc9 : v164.toInt = 0 → y44 ≤ 3 * nO (zp a0 τ21 43) y44.toNat := fun h0 => zc4.un.1 (zc3.un.imp id (fun z => ⟨z.1, z.2.resolve_right (fun y => absurd y.1 (by omega))⟩))
                                  refine zg_aload_n X 2 rfl dX11_expression_237 ?_
                                  refine fg_X11_98 X hI ha0 dX11_expression_238 (fun v167 ev167 hv167 => ?_)
                                  replace E := zLet_s (zgr ev167) E
                                  refine zg_aload_n X 2 rfl dX11_expression_241 ?_
                                  refine fg_X11_297 X hI ha0 dX11_expression_242 (fun v168 ev168 hv168 => ?_)
                                  replace E := zLet_s ev168 E
                                  have kv168 : (t165.1 a0 44).toInt = v168.toInt := by rw [ev168]
                                  refine zg_aload_n X 2 rfl dX11_expression_245 ?_
                                  refine fg_X11_20 X hI ha0 dX11_expression_246 (fun v169 ev169 hv169 => ?_)
                                  replace E := zLet_s (zgr ev169) E
                                  refine zg_aload_n X 2 rfl dX11_expression_249 ?_
                                  refine fg_X11_209 X hI ha0 dX11_expression_250 (fun v170 ev170 hv170 => ?_)
                                  replace E := zLet_s ev170 E
                                  have kv170 : (t165.1 a0 11).toInt = v170.toInt := by rw [ev170]
                                  refine ag_105 X hI hv169 (by omega) (by omega) dX11_expression_253 (fun v171 ev171 _ => ?_)
                                  replace E := zLet_s ev171 E
                                  have qv171 := zp_ld ev169 ev171
                                  rw [at165_5] at qv171
                                  rw [← kv170] at qv171
                                  rw [show (t165.1 a0 11).toInt = (τ21.1 a0 11).toInt by omega, ← zA5] at qv171
                                  refine as_143 X hI hv167 (by omega) (by omega) dX11_expression_254 (fun s172 es172 hI => ?_)
                                  replace E := zLet_s es172 E
                                  have g173 := (zSame.rf (o := a0) (Wf := []) (Wa := [143]) (L := L) (kd := kd) (σ := t165)).a ha0 hv167 es172 rfl (by decide)
                                  have rs172 := zp_st (σ := t165) (σ2 := s172) (i := v168) (x := v171) ev167 es172 (by omega)
                                  have ws172 := rs172
                                  rw [at165_43] at ws172
                                  rw [← kv168] at ws172
                                  have fs172_11 : (s172.1 a0 11).toInt = (t165.1 a0 11).toInt := by rw [g173.2.1 11 (by decide)]
                                  have fs172_12 : (s172.1 a0 12).toInt = (t165.1 a0 12).toInt := by rw [g173.2.1 12 (by decide)]
                                  have fs172_13 : (s172.1 a0 13).toInt = (t165.1 a0 13).toInt := by rw [g173.2.1 13 (by decide)]
                                  have fs172_38 : (s172.1 a0 38).toInt = (t165.1 a0 38).toInt := by rw [g173.2.1 38 (by decide)]
                                  have fs172_44 : (s172.1 a0 44).toInt = (t165.1 a0 44).toInt := by rw [g173.2.1 44 (by decide)]
                                  have hS := hS.tr g173 (by decide) (by decide)
                                  have as172_5 := (zp_same hI ha0 g173 5 rfl (by decide) (by decide)).trans at165_5
                                  have as172_39 := zp_same hI ha0 g173 39 rfl (by decide) (by decide)
                                  have as172_40 := zp_same hI ha0 g173 40 rfl (by decide) (by decide)
                                  have e174 := g173.v ev168 (by decide)
                                  refine zg_aload_n X 2 rfl dX11_expression_255 ?_
                                  refine zg_dup X dX11_expression_256 rfl ?_
                                  refine fg_X11_297 X hI ha0 dX11_expression_257 (fun v176 ev176 hv176 => ?_)
                                  replace E := zLet_s ev176 E
                                  have kv176 : (s172.1 a0 44).toInt = v176.toInt := by rw [ev176]
                                  have mv176 : v176.toInt = v168.toInt := by rw [ev176, ← e174]
                                  refine zg_iconst X 1 dX11_expression_260 (by decide) (fun v177 _ hv177 => ?_)
                                  replace E := zLet_s (zcst hv177 (by decide)) E
                                  refine zg_iadd X dX11_expression_261 (by omega) (by omega) (fun v178 ev178 hv178 => ?_)
                                  replace E := zLet_s ev178 E
                                  refine fp_X11_297 X hI ha0 ⟨by omega, by omega⟩ dX11_expression_262 (fun s179 es179 hI => ?_)
                                  replace E := zLet_s es179 E
                                  have g180 := (zSame.rf (o := a0) (Wf := [44]) (Wa := []) (L := L) (kd := kd) (σ := s172)).f ha0 es179 rfl
                                  have fs179_11 : (s179.1 a0 11).toInt = (s172.1 a0 11).toInt := by rw [g180.2.1 11 (by decide)]
                                  have fs179_12 : (s179.1 a0 12).toInt = (s172.1 a0 12).toInt := by rw [g180.2.1 12 (by decide)]
                                  have fs179_13 : (s179.1 a0 13).toInt = (s172.1 a0 13).toInt := by rw [g180.2.1 13 (by decide)]
                                  have fs179_38 : (s179.1 a0 38).toInt = (s172.1 a0 38).toInt := by rw [g180.2.1 38 (by decide)]
                                  have hS := hS.tr g180 (by decide) (by decide)
                                  have as179_5 := (zp_same hI ha0 g180 5 rfl (by decide) (by decide)).trans as172_5
                                  have as179_39 := (zp_same hI ha0 g180 39 rfl (by decide) (by decide)).trans as172_39
                                  have as179_40 := (zp_same hI ha0 g180 40 rfl (by decide) (by decide)).trans as172_40
                                  have as179_43 := zp_same hI ha0 g180 43 rfl (by decide) (by decide)
                                  have fs179_44 : (s179.1 a0 44).toInt = v178.toInt := by rw [es179]; exact congrArg _ (zu_s _ _ _ _)
                                  have e182 : v178 = s179.1 a0 44 := by rw [es179]; exact zm_s
                                  refine zg_aload_n X 2 rfl dX11_expression_265 ?_
                                  refine zg_cVv (As := []) (st := []) X ha0 rfl (by decide) rfl (t_X11_goesOn l d L kd κ _ hI a0 ha0   ) mk_X11_227 mc_X11_goesOn mz_X11 mi_X11_goesOn ml_X11_goesOn (na := 0) ⟨md_X11.1, md_X11.2, by decide +kernel⟩ rfl ⟨by decide, by decide⟩ (Nat.le_of_ble_eq_true rfl) dX11_expression_266 (fun t183 hq => ?_)
                                  obtain ⟨hF, ht183_fact0, hI, g184⟩ := hq
                                  replace E := zLet_s hF E
                                  have ft183_12 : (t183.1 a0 12).toInt = (s179.1 a0 12).toInt := by rw [g184.2.1 12 (by decide)]
                                  have ft183_38 : (t183.1 a0 38).toInt = (s179.1 a0 38).toInt := by rw [g184.2.1 38 (by decide)]
                                  have ft183_44 : (t183.1 a0 44).toInt = (s179.1 a0 44).toInt := by rw [g184.2.1 44 (by decide)]
                                  have hS := hS.tr g184 (by decide) (by decide)
                                  have at183_5 := (zp_same hI ha0 g184 5 rfl (by decide) (by decide)).trans as179_5
                                  have at183_39 := (zp_same hI ha0 g184 39 rfl (by decide) (by decide)).trans as179_39
                                  have at183_40 := (zp_same hI ha0 g184 40 rfl (by decide) (by decide)).trans as179_40
                                  have at183_43 := (zp_same hI ha0 g184 43 rfl (by decide) (by decide)).trans as179_43
                                  have zpu : zEs (zp a0 t183 43) (zp a0 t183 39) (zp a0 t183 40) (t183.1 a0 44).toInt (t183.1 a0 38).toInt (σ.1 a0 38).toInt 0 ∧ nO (zp a0 t183 43) (t183.1 a0 44).toInt.toNat = nO (zp a0 τ21 43) (τ21.1 a0 44).toInt.toNat := by
                                    rw [at183_39, at183_40, show (t183.1 a0 38).toInt = y38 by omega]
                                    have y := zEs.pushS (x := v171.toInt) (w' := zp a0 t183 43) (W' := (t183.1 a0 44).toInt) zc0 (fun j h0 => by rw [at183_43, ws172 j h0]; split <;> split <;> first | rfl | (exfalso; omega)) (by omega) (by omega) (by omega) (by omega)
                                    exact ⟨y.1, by omega⟩
                                  refine zg_goto X 12 dX11_expression_269 (by decide) ?_
                                  refine zg_sub [0, 1, 2] rfl ?_
                                  exact ihLp8 _ v110 hI hS at183_5 E  (by omega) (by omega) (fun _ => zpu.1) (fun j h0 h1 => by have y := hk j h0 (by omega); have x := zc2 j h0 (by omega); rw [at183_39, at183_40]; exact ⟨x.1.trans y.1, x.2.trans y.2⟩)
                            · omega
                          · skip
                            replace E := zIf_t c109 E
                            refine zg_aload_n X 2 rfl dX11_expression_163 ?_
                            refine zg_bipush X 10 dX11_expression_164 (by decide) (fun v186 _ hv186 => ?_)
                            replace E := zLet_s (zcst hv186 (by decide)) E
                            refine zg_cVi (As := [.int v186]) (st := []) X ha0 rfl (by decide) rfl (t_X11_is l d L kd κ _ hI a0 ha0 v186  ) mk_X11_224 mc_X11_is mz_X11 mi_X11_is ml_X11_is (na := 1) ⟨md_X11.1, md_X11.2, by decide +kernel⟩ rfl ⟨by decide, by decide⟩ (Nat.le_of_ble_eq_true rfl) dX11_expression_166 (fun v188 t187 hq => ?_)
                            obtain ⟨⟨hF, ⟨ht187_res, ht187_fact0⟩⟩, rfl⟩ := hq
                            replace E := zLet_s hF E
                            replace ht187_fact0 := zHide.mk ht187_fact0
                            refine zg_if_ne X 181 dX11_expression_169 (by decide) (fun c189 => ?_) (fun c189 => ?_)
                            · skip
                              replace E := zIf_f c189 E
                              have ztk := ht187_fact0.un.resolve_right (fun z => absurd z.1 (by omega))
                              refine zg_iconst X 1 dX11_expression_181 (by decide) (fun v190 _ hv190 => ?_)
                              replace E := zLet_s (zcst hv190 (by decide)) E
                              refine zg_goto X 186 dX11_expression_182 (by decide) ?_
                              refine zg_istore_n X [(2, .int v190), (1, .int v5), (0, .ref a0)] dX11_expression_186 (by decide) rfl ?_
                              refine zg_iload_n X 0 rfl dX11_expression_187 ?_
                              refine zg_if_ne X 210 dX11_expression_188 (by decide) (fun c191 => ?_) (fun c191 => ?_)
                              · skip
                                replace E := zIf_f c191 E
                                refine zg_aload_n X 2 rfl dX11_expression_210 ?_
                                refine zg_aload_n X 2 rfl dX11_expression_211 ?_
                                refine zg_bipush X 10 dX11_expression_212 (by decide) (fun v192 _ hv192 => ?_)
                                replace E := zLet_s (zcst hv192 (by decide)) E
                                refine zg_cVi (As := [.int v192]) (st := [.ref a0]) X ha0 rfl (by decide) rfl (t_X11_is l d L kd κ _ hI a0 ha0 v192  ) mk_X11_224 mc_X11_is mz_X11 mi_X11_is ml_X11_is (na := 1) ⟨md_X11.1, md_X11.2, by decide +kernel⟩ rfl ⟨by decide, by decide⟩ (Nat.le_of_ble_eq_true rfl) dX11_expression_214 (fun v194 t193 hq => ?_)
                                obtain ⟨⟨hF, ⟨ht193_res, ht193_fact0⟩⟩, rfl⟩ := hq
                                replace E := zLet_s hF E
                                replace ht193_fact0 := zHide.mk ht193_fact0
                                refine zg_if_ne X 229 dX11_expression_217 (by decide) (fun c195 => ?_) (fun c195 => ?_)
                                · skip
                                  replace E := zIf_f c195 E
                                  have zts := ht193_fact0.un.resolve_right (fun z => absurd z.1 (by omega))
                                  refine zg_iconst X 1 dX11_expression_229 (by decide) (fun v196 _ hv196 => ?_)
                                  replace E := zLet_s (zcst hv196 (by decide)) E
                                  refine zg_goto X 234 dX11_expression_230 (by decide) ?_
                                  refine zg_cVv (As := [.int v196]) (st := []) X ha0 rfl (by decide) rfl (t_X11_comesOut l d L kd κ _ hI a0 ha0 v196 ((σ.1 a0 38).toInt) (by omega) (hx)) mk_X11_306 mc_X11_comesOut mz_X11 mi_X11_comesOut ml_X11_comesOut (na := 1) ⟨md_X11.1, md_X11.2, by decide +kernel⟩ rfl ⟨by decide, by decide⟩ (Nat.le_of_ble_eq_true rfl) dX11_expression_234 (fun t197 hq => ?_)
                                  obtain ⟨hF, ⟨ht197_fact0, ht197_fact1, ht197_fact2, ht197_fact3⟩, hI, g198⟩ := hq
                                  replace E := zLet_s hF E
                                  have ft197_11 : (t197.1 a0 11).toInt = (τ21.1 a0 11).toInt := by rw [g198.2.1 11 (by decide)]
                                  have ft197_12 : (t197.1 a0 12).toInt = (τ21.1 a0 12).toInt := by rw [g198.2.1 12 (by decide)]
                                  have ft197_13 : (t197.1 a0 13).toInt = (τ21.1 a0 13).toInt := by rw [g198.2.1 13 (by decide)]
                                  have hS := hS.tr g198 (by decide) (by decide)
                                  have at197_5 := (zp_same hI ha0 g198 5 rfl (by decide) (by decide)).trans A5_Lp21
                                  have at197_43 := zp_same hI ha0 g198 43 rfl (by decide) (by decide)
                                  have zc0 := ht197_fact0
                                  have zc1 := ht197_fact1
                                  have zc2 := ht197_fact2
                                  have zc3 := ht197_fact3
                                  clear ht197_fact3 ht197_fact2 ht197_fact1 ht197_fact0
                                  have zc4 := zc0.stop
                                  have zc7 := zc0.at
                                  obtain ⟨y38, hy38⟩ : ∃ x : Int, x = (t197.1 a0 38).toInt := ⟨_, rfl⟩
                                  obtain ⟨y44, hy44⟩ : ∃ x : Int, x = (t197.1 a0 44).toInt := ⟨_, rfl⟩
                                  have zc5 : y44 = 0 → nO (zp a0 τ21 43) y44.toNat = 0 := fun z => by rw [z]; rfl
                                  rw [← hy44] at zc0 zc1 zc3 zc4 zc7
                                  rw [← hy38] at zc0 zc1 zc7
                                  replace zc4 := zHide.mk zc4
                                  replace zc3 := zHide.mk zc3
                                  replace zc5 := zHide.mk zc5
                                  have zc8 := zc4.un.2.1 (zc3.un.imp id (fun z => ⟨z.1, z.2.imp id (fun y => y.2)⟩))
                                  have zc9 : v196.toInt = 0 → y44 ≤ 3 * nO (zp a0 τ21 43) y44.toNat := fun h0 => zc4.un.1 (zc3.un.imp id (fun z => ⟨z.1, z.2.resolve_right (fun y => absurd y.1 (by omega))⟩))
                                  refine zg_aload_n X 2 rfl dX11_expression_237 ?_
                                  refine fg_X11_98 X hI ha0 dX11_expression_238 (fun v199 ev199 hv199 => ?_)
                                  replace E := zLet_s (zgr ev199) E
                                  refine zg_aload_n X 2 rfl dX11_expression_241 ?_
                                  refine fg_X11_297 X hI ha0 dX11_expression_242 (fun v200 ev200 hv200 => ?_)
                                  replace E := zLet_s ev200 E
                                  have kv200 : (t197.1 a0 44).toInt = v200.toInt := by rw [ev200]
                                  refine zg_aload_n X 2 rfl dX11_expression_245 ?_
                                  refine fg_X11_20 X hI ha0 dX11_expression_246 (fun v201 ev201 hv201 => ?_)
                                  replace E := zLet_s (zgr ev201) E
                                  refine zg_aload_n X 2 rfl dX11_expression_249 ?_
                                  refine fg_X11_209 X hI ha0 dX11_expression_250 (fun v202 ev202 hv202 => ?_)
                                  replace E := zLet_s ev202 E
                                  have kv202 : (t197.1 a0 11).toInt = v202.toInt := by rw [ev202]
                                  refine ag_105 X hI hv201 (by omega) (by omega) dX11_expression_253 (fun v203 ev203 _ => ?_)
                                  replace E := zLet_s ev203 E
                                  have qv203 := zp_ld ev201 ev203
                                  rw [at197_5] at qv203
                                  rw [← kv202] at qv203
                                  rw [show (t197.1 a0 11).toInt = (τ21.1 a0 11).toInt by omega, ← zA5] at qv203
                                  refine as_143 X hI hv199 (by omega) (by omega) dX11_expression_254 (fun s204 es204 hI => ?_)
                                  replace E := zLet_s es204 E
                                  have g205 := (zSame.rf (o := a0) (Wf := []) (Wa := [143]) (L := L) (kd := kd) (σ := t197)).a ha0 hv199 es204 rfl (by decide)
                                  have rs204 := zp_st (σ := t197) (σ2 := s204) (i := v200) (x := v203) ev199 es204 (by omega)
                                  have ws204 := rs204
                                  rw [at197_43] at ws204
                                  rw [← kv200] at ws204
                                  have fs204_11 : (s204.1 a0 11).toInt = (t197.1 a0 11).toInt := by rw [g205.2.1 11 (by decide)]
                                  have fs204_12 : (s204.1 a0 12).toInt = (t197.1 a0 12).toInt := by rw [g205.2.1 12 (by decide)]
                                  have fs204_13 : (s204.1 a0 13).toInt = (t197.1 a0 13).toInt := by rw [g205.2.1 13 (by decide)]
                                  have fs204_38 : (s204.1 a0 38).toInt = (t197.1 a0 38).toInt := by rw [g205.2.1 38 (by decide)]
                                  have fs204_44 : (s204.1 a0 44).toInt = (t197.1 a0 44).toInt := by rw [g205.2.1 44 (by decide)]
                                  have hS := hS.tr g205 (by decide) (by decide)
                                  have as204_5 := (zp_same hI ha0 g205 5 rfl (by decide) (by decide)).trans at197_5
                                  have as204_39 := zp_same hI ha0 g205 39 rfl (by decide) (by decide)
                                  have as204_40 := zp_same hI ha0 g205 40 rfl (by decide) (by decide)
                                  have e206 := g205.v ev200 (by decide)
                                  refine zg_aload_n X 2 rfl dX11_expression_255 ?_
                                  refine zg_dup X dX11_expression_256 rfl ?_
                                  refine fg_X11_297 X hI ha0 dX11_expression_257 (fun v208 ev208 hv208 => ?_)
                                  replace E := zLet_s ev208 E
                                  have kv208 : (s204.1 a0 44).toInt = v208.toInt := by rw [ev208]
                                  have mv208 : v208.toInt = v200.toInt := by rw [ev208, ← e206]
                                  refine zg_iconst X 1 dX11_expression_260 (by decide) (fun v209 _ hv209 => ?_)
                                  replace E := zLet_s (zcst hv209 (by decide)) E
                                  refine zg_iadd X dX11_expression_261 (by omega) (by omega) (fun v210 ev210 hv210 => ?_)
                                  replace E := zLet_s ev210 E
                                  refine fp_X11_297 X hI ha0 ⟨by omega, by omega⟩ dX11_expression_262 (fun s211 es211 hI => ?_)
                                  replace E := zLet_s es211 E
                                  have g212 := (zSame.rf (o := a0) (Wf := [44]) (Wa := []) (L := L) (kd := kd) (σ := s204)).f ha0 es211 rfl
                                  have fs211_11 : (s211.1 a0 11).toInt = (s204.1 a0 11).toInt := by rw [g212.2.1 11 (by decide)]
                                  have fs211_12 : (s211.1 a0 12).toInt = (s204.1 a0 12).toInt := by rw [g212.2.1 12 (by decide)]
                                  have fs211_13 : (s211.1 a0 13).toInt = (s204.1 a0 13).toInt := by rw [g212.2.1 13 (by decide)]
                                  have fs211_38 : (s211.1 a0 38).toInt = (s204.1 a0 38).toInt := by rw [g212.2.1 38 (by decide)]
                                  have hS := hS.tr g212 (by decide) (by decide)
                                  have as211_5 := (zp_same hI ha0 g212 5 rfl (by decide) (by decide)).trans as204_5
                                  have as211_39 := (zp_same hI ha0 g212 39 rfl (by decide) (by decide)).trans as204_39
                                  have as211_40 := (zp_same hI ha0 g212 40 rfl (by decide) (by decide)).trans as204_40
                                  have as211_43 := zp_same hI ha0 g212 43 rfl (by decide) (by decide)
                                  have fs211_44 : (s211.1 a0 44).toInt = v210.toInt := by rw [es211]; exact congrArg _ (zu_s _ _ _ _)
                                  have e214 : v210 = s211.1 a0 44 := by rw [es211]; exact zm_s
                                  refine zg_aload_n X 2 rfl dX11_expression_265 ?_
                                  refine zg_cVv (As := []) (st := []) X ha0 rfl (by decide) rfl (t_X11_goesOn l d L kd κ _ hI a0 ha0   ) mk_X11_227 mc_X11_goesOn mz_X11 mi_X11_goesOn ml_X11_goesOn (na := 0) ⟨md_X11.1, md_X11.2, by decide +kernel⟩ rfl ⟨by decide, by decide⟩ (Nat.le_of_ble_eq_true rfl) dX11_expression_266 (fun t215 hq => ?_)
                                  obtain ⟨hF, ht215_fact0, hI, g216⟩ := hq
                                  replace E := zLet_s hF E
                                  have ft215_12 : (t215.1 a0 12).toInt = (s211.1 a0 12).toInt := by rw [g216.2.1 12 (by decide)]
                                  have ft215_38 : (t215.1 a0 38).toInt = (s211.1 a0 38).toInt := by rw [g216.2.1 38 (by decide)]
                                  have ft215_44 : (t215.1 a0 44).toInt = (s211.1 a0 44).toInt := by rw [g216.2.1 44 (by decide)]
                                  have hS := hS.tr g216 (by decide) (by decide)
                                  have at215_5 := (zp_same hI ha0 g216 5 rfl (by decide) (by decide)).trans as211_5
                                  have at215_39 := (zp_same hI ha0 g216 39 rfl (by decide) (by decide)).trans as211_39
                                  have at215_40 := (zp_same hI ha0 g216 40 rfl (by decide) (by decide)).trans as211_40
                                  have at215_43 := (zp_same hI ha0 g216 43 rfl (by decide) (by decide)).trans as211_43
                                  have zpu : zEs (zp a0 t215 43) (zp a0 t215 39) (zp a0 t215 40) (t215.1 a0 44).toInt (t215.1 a0 38).toInt (σ.1 a0 38).toInt 0 ∧ nO (zp a0 t215 43) (t215.1 a0 44).toInt.toNat = nO (zp a0 τ21 43) (τ21.1 a0 44).toInt.toNat := by
                                    rw [at215_39, at215_40, show (t215.1 a0 38).toInt = y38 by omega]
                                    have y := zEs.pushS (x := v203.toInt) (w' := zp a0 t215 43) (W' := (t215.1 a0 44).toInt) zc0 (fun j h0 => by rw [at215_43, ws204 j h0]; split <;> split <;> first | rfl | (exfalso; omega)) (by omega) (by omega) (by omega) (by omega)
                                    exact ⟨y.1, by omega⟩
                                  refine zg_goto X 12 dX11_expression_269 (by decide) ?_
                                  refine zg_sub [0, 1, 2] rfl ?_
                                  exact ihLp8 _ v190 hI hS at215_5 E  (by omega) (by omega) (fun _ => zpu.1) (fun j h0 h1 => by have y := hk j h0 (by omega); have x := zc2 j h0 (by omega); rw [at215_39, at215_40]; exact ⟨x.1.trans y.1, x.2.trans y.2⟩)
                                · skip
                                  replace E := zIf_t c195 E
                                  refine zg_aload_n X 2 rfl dX11_expression_220 ?_
                                  refine zg_bipush X 15 dX11_expression_221 (by decide) (fun v218 _ hv218 => ?_)
                                  replace E := zLet_s (zcst hv218 (by decide)) E
                                  refine zg_cVi (As := [.int v218]) (st := [.ref a0]) X ha0 rfl (by decide) rfl (t_X11_is l d L kd κ _ hI a0 ha0 v218  ) mk_X11_224 mc_X11_is mz_X11 mi_X11_is ml_X11_is (na := 1) ⟨md_X11.1, md_X11.2, by decide +kernel⟩ rfl ⟨by decide, by decide⟩ (Nat.le_of_ble_eq_true rfl) dX11_expression_223 (fun v220 t219 hq => ?_)
                                  obtain ⟨⟨hF, ⟨ht219_res, ht219_fact0⟩⟩, rfl⟩ := hq
                                  replace E := zLet_s hF E
                                  replace ht219_fact0 := zHide.mk ht219_fact0
                                  refine zg_if_eq X 233 dX11_expression_226 (by decide) (fun c221 => ?_) (fun c221 => ?_)
                                  · skip
                                    replace E := zIf_t c221 E
                                    have zn1 := ht219_fact0.un.resolve_left (fun z => absurd z.1 (by omega))
                                    have zn2 := ht193_fact0.un.resolve_left (fun z => absurd z.1 (by omega))
                                    refine zg_iconst X 0 dX11_expression_233 (by decide) (fun v222 _ hv222 => ?_)
                                    replace E := zLet_s (zcst hv222 (by decide)) E
                                    refine zg_cVv (As := [.int v222]) (st := []) X ha0 rfl (by decide) rfl (t_X11_comesOut l d L kd κ _ hI a0 ha0 v222 ((σ.1 a0 38).toInt) (by omega) (hx)) mk_X11_306 mc_X11_comesOut mz_X11 mi_X11_comesOut ml_X11_comesOut (na := 1) ⟨md_X11.1, md_X11.2, by decide +kernel⟩ rfl ⟨by decide, by decide⟩ (Nat.le_of_ble_eq_true rfl) dX11_expression_234 (fun t223 hq => ?_)
                                    obtain ⟨hF, ⟨ht223_fact0, ht223_fact1, ht223_fact2, ht223_fact3⟩, hI, g224⟩ := hq
                                    replace E := zLet_s hF E
                                    have ft223_11 : (t223.1 a0 11).toInt = (τ21.1 a0 11).toInt := by rw [g224.2.1 11 (by decide)]
                                    have ft223_12 : (t223.1 a0 12).toInt = (τ21.1 a0 12).toInt := by rw [g224.2.1 12 (by decide)]
                                    have ft223_13 : (t223.1 a0 13).toInt = (τ21.1 a0 13).toInt := by rw [g224.2.1 13 (by decide)]
                                    have hS := hS.tr g224 (by decide) (by decide)
                                    have at223_5 := (zp_same hI ha0 g224 5 rfl (by decide) (by decide)).trans A5_Lp21
                                    have at223_43 := zp_same hI ha0 g224 43 rfl (by decide) (by decide)
                                    have zc0 := ht223_fact0
                                    have zc1 := ht223_fact1
                                    have zc2 := ht223_fact2
                                    have zc3 := ht223_fact3
                                    clear ht223_fact3 ht223_fact2 ht223_fact1 ht223_fact0
                                    have zc4 := zc0.stop
                                    have zc7 := zc0.at
                                    obtain ⟨y38, hy38⟩ : ∃ x : Int, x = (t223.1 a0 38).toInt := ⟨_, rfl⟩
                                    obtain ⟨y44, hy44⟩ : ∃ x : Int, x = (t223.1 a0 44).toInt := ⟨_, rfl⟩
                                    have zc5 : y44 = 0 → nO (zp a0 τ21 43) y44.toNat = 0 := fun z => by rw [z]; rfl
                                    rw [← hy44] at zc0 zc1 zc3 zc4 zc7
                                    rw [← hy38] at zc0 zc1 zc7
                                    replace zc4 := zHide.mk zc4
                                    replace zc3 := zHide.mk zc3
                                    replace zc5 := zHide.mk zc5
                                    have zc8 := zc4.un.2.1 (zc3.un.imp id (fun z => ⟨z.1, z.2.imp id (fun y => y.2)⟩))
                                    have zc9 : v222.toInt = 0 → y44 ≤ 3 * nO (zp a0 τ21 43) y44.toNat := fun h0 => zc4.un.1 (zc3.un.imp id (fun z => ⟨z.1, z.2.resolve_right (fun y => absurd y.1 (by omega))⟩))
                                    refine zg_aload_n X 2 rfl dX11_expression_237 ?_
                                    refine fg_X11_98 X hI ha0 dX11_expression_238 (fun v225 ev225 hv225 => ?_)
                                    replace E := zLet_s (zgr ev225) E
                                    refine zg_aload_n X 2 rfl dX11_expression_241 ?_
                                    refine fg_X11_297 X hI ha0 dX11_expression_242 (fun v226 ev226 hv226 => ?_)
                                    replace E := zLet_s ev226 E
                                    have kv226 : (t223.1 a0 44).toInt = v226.toInt := by rw [ev226]
                                    refine zg_aload_n X 2 rfl dX11_expression_245 ?_
                                    refine fg_X11_20 X hI ha0 dX11_expression_246 (fun v227 ev227 hv227 => ?_)
                                    replace E := zLet_s (zgr ev227) E
                                    refine zg_aload_n X 2 rfl dX11_expression_249 ?_
                                    refine fg_X11_209 X hI ha0 dX11_expression_250 (fun v228 ev228 hv228 => ?_)
                                    replace E := zLet_s ev228 E
                                    have kv228 : (t223.1 a0 11).toInt = v228.toInt := by rw [ev228]
                                    refine ag_105 X hI hv227 (by omega) (by omega) dX11_expression_253 (fun v229 ev229 _ => ?_)
                                    replace E := zLet_s ev229 E
                                    have qv229 := zp_ld ev227 ev229
                                    rw [at223_5] at qv229
                                    rw [← kv228] at qv229
                                    rw [show (t223.1 a0 11).toInt = (τ21.1 a0 11).toInt by omega, ← zA5] at qv229
                                    refine as_143 X hI hv225 (by omega) (by omega) dX11_expression_254 (fun s230 es230 hI => ?_)
                                    replace E := zLet_s es230 E
                                    have g231 := (zSame.rf (o := a0) (Wf := []) (Wa := [143]) (L := L) (kd := kd) (σ := t223)).a ha0 hv225 es230 rfl (by decide)
                                    have rs230 := zp_st (σ := t223) (σ2 := s230) (i := v226) (x := v229) ev225 es230 (by omega)
                                    have ws230 := rs230
                                    rw [at223_43] at ws230
                                    rw [← kv226] at ws230
                                    have fs230_11 : (s230.1 a0 11).toInt = (t223.1 a0 11).toInt := by rw [g231.2.1 11 (by decide)]
                                    have fs230_12 : (s230.1 a0 12).toInt = (t223.1 a0 12).toInt := by rw [g231.2.1 12 (by decide)]
                                    have fs230_13 : (s230.1 a0 13).toInt = (t223.1 a0 13).toInt := by rw [g231.2.1 13 (by decide)]
                                    have fs230_38 : (s230.1 a0 38).toInt = (t223.1 a0 38).toInt := by rw [g231.2.1 38 (by decide)]
                                    have fs230_44 : (s230.1 a0 44).toInt = (t223.1 a0 44).toInt := by rw [g231.2.1 44 (by decide)]
                                    have hS := hS.tr g231 (by decide) (by decide)
                                    have as230_5 := (zp_same hI ha0 g231 5 rfl (by decide) (by decide)).trans at223_5
                                    have as230_39 := zp_same hI ha0 g231 39 rfl (by decide) (by decide)
                                    have as230_40 := zp_same hI ha0 g231 40 rfl (by decide) (by decide)
                                    have e232 := g231.v ev226 (by decide)
                                    refine zg_aload_n X 2 rfl dX11_expression_255 ?_
                                    refine zg_dup X dX11_expression_256 rfl ?_
                                    refine fg_X11_297 X hI ha0 dX11_expression_257 (fun v234 ev234 hv234 => ?_)
                                    replace E := zLet_s ev234 E
                                    have kv234 : (s230.1 a0 44).toInt = v234.toInt := by rw [ev234]
                                    have mv234 : v234.toInt = v226.toInt := by rw [ev234, ← e232]
                                    refine zg_iconst X 1 dX11_expression_260 (by decide) (fun v235 _ hv235 => ?_)
                                    replace E := zLet_s (zcst hv235 (by decide)) E
                                    refine zg_iadd X dX11_expression_261 (by omega) (by omega) (fun v236 ev236 hv236 => ?_)
                                    replace E := zLet_s ev236 E
                                    refine fp_X11_297 X hI ha0 ⟨by omega, by omega⟩ dX11_expression_262 (fun s237 es237 hI => ?_)
                                    replace E := zLet_s es237 E
                                    have g238 := (zSame.rf (o := a0) (Wf := [44]) (Wa := []) (L := L) (kd := kd) (σ := s230)).f ha0 es237 rfl
                                    have fs237_11 : (s237.1 a0 11).toInt = (s230.1 a0 11).toInt := by rw [g238.2.1 11 (by decide)]
                                    have fs237_12 : (s237.1 a0 12).toInt = (s230.1 a0 12).toInt := by rw [g238.2.1 12 (by decide)]
                                    have fs237_13 : (s237.1 a0 13).toInt = (s230.1 a0 13).toInt := by rw [g238.2.1 13 (by decide)]
                                    have fs237_38 : (s237.1 a0 38).toInt = (s230.1 a0 38).toInt := by rw [g238.2.1 38 (by decide)]
                                    have hS := hS.tr g238 (by decide) (by decide)
                                    have as237_5 := (zp_same hI ha0 g238 5 rfl (by decide) (by decide)).trans as230_5
                                    have as237_39 := (zp_same hI ha0 g238 39 rfl (by decide) (by decide)).trans as230_39
                                    have as237_40 := (zp_same hI ha0 g238 40 rfl (by decide) (by decide)).trans as230_40
                                    have as237_43 := zp_same hI ha0 g238 43 rfl (by decide) (by decide)
                                    have fs237_44 : (s237.1 a0 44).toInt = v236.toInt := by rw [es237]; exact congrArg _ (zu_s _ _ _ _)
                                    have e240 : v236 = s237.1 a0 44 := by rw [es237]; exact zm_s
                                    refine zg_aload_n X 2 rfl dX11_expression_265 ?_
                                    refine zg_cVv (As := []) (st := []) X ha0 rfl (by decide) rfl (t_X11_goesOn l d L kd κ _ hI a0 ha0   ) mk_X11_227 mc_X11_goesOn mz_X11 mi_X11_goesOn ml_X11_goesOn (na := 0) ⟨md_X11.1, md_X11.2, by decide +kernel⟩ rfl ⟨by decide, by decide⟩ (Nat.le_of_ble_eq_true rfl) dX11_expression_266 (fun t241 hq => ?_)
                                    obtain ⟨hF, ht241_fact0, hI, g242⟩ := hq
                                    replace E := zLet_s hF E
                                    have ft241_12 : (t241.1 a0 12).toInt = (s237.1 a0 12).toInt := by rw [g242.2.1 12 (by decide)]
                                    have ft241_38 : (t241.1 a0 38).toInt = (s237.1 a0 38).toInt := by rw [g242.2.1 38 (by decide)]
                                    have ft241_44 : (t241.1 a0 44).toInt = (s237.1 a0 44).toInt := by rw [g242.2.1 44 (by decide)]
                                    have hS := hS.tr g242 (by decide) (by decide)
                                    have at241_5 := (zp_same hI ha0 g242 5 rfl (by decide) (by decide)).trans as237_5
                                    have at241_39 := (zp_same hI ha0 g242 39 rfl (by decide) (by decide)).trans as237_39
                                    have at241_40 := (zp_same hI ha0 g242 40 rfl (by decide) (by decide)).trans as237_40
                                    have at241_43 := (zp_same hI ha0 g242 43 rfl (by decide) (by decide)).trans as237_43
                                    have zpu : zEs (zp a0 t241 43) (zp a0 t241 39) (zp a0 t241 40) (t241.1 a0 44).toInt (t241.1 a0 38).toInt (σ.1 a0 38).toInt 0 ∧ nO (zp a0 t241 43) (t241.1 a0 44).toInt.toNat = nO (zp a0 τ21 43) (τ21.1 a0 44).toInt.toNat := by
                                      rw [at241_39, at241_40, show (t241.1 a0 38).toInt = y38 by omega]
                                      have y := zEs.pushS (x := v229.toInt) (w' := zp a0 t241 43) (W' := (t241.1 a0 44).toInt) zc0 (fun j h0 => by rw [at241_43, ws230 j h0]; split <;> split <;> first | rfl | (exfalso; omega)) (by omega) (by omega) (by omega) (by omega)
                                      exact ⟨y.1, by omega⟩
                                    refine zg_goto X 12 dX11_expression_269 (by decide) ?_
                                    refine zg_sub [0, 1, 2] rfl ?_
                                    exact ihLp8 _ v190 hI hS at241_5 E  (by omega) (by omega) (fun _ => zpu.1) (fun j h0 h1 => by have y := hk j h0 (by omega); have x := zc2 j h0 (by omega); rw [at241_39, at241_40]; exact ⟨x.1.trans y.1, x.2.trans y.2⟩)
                                  · skip
                                    replace E := zIf_f c221 E
                                    have zts := ht219_fact0.un.resolve_right (fun z => absurd z.1 (by omega))
                                    refine zg_iconst X 1 dX11_expression_229 (by decide) (fun v244 _ hv244 => ?_)
                                    replace E := zLet_s (zcst hv244 (by decide)) E
                                    refine zg_goto X 234 dX11_expression_230 (by decide) ?_
                                    refine zg_cVv (As := [.int v244]) (st := []) X ha0 rfl (by decide) rfl (t_X11_comesOut l d L kd κ _ hI a0 ha0 v244 ((σ.1 a0 38).toInt) (by omega) (hx)) mk_X11_306 mc_X11_comesOut mz_X11 mi_X11_comesOut ml_X11_comesOut (na := 1) ⟨md_X11.1, md_X11.2, by decide +kernel⟩ rfl ⟨by decide, by decide⟩ (Nat.le_of_ble_eq_true rfl) dX11_expression_234 (fun t245 hq => ?_)
                                    obtain ⟨hF, ⟨ht245_fact0, ht245_fact1, ht245_fact2, ht245_fact3⟩, hI, g246⟩ := hq
                                    replace E := zLet_s hF E
                                    have ft245_11 : (t245.1 a0 11).toInt = (τ21.1 a0 11).toInt := by rw [g246.2.1 11 (by decide)]
                                    have ft245_12 : (t245.1 a0 12).toInt = (τ21.1 a0 12).toInt := by rw [g246.2.1 12 (by decide)]
                                    have ft245_13 : (t245.1 a0 13).toInt = (τ21.1 a0 13).toInt := by rw [g246.2.1 13 (by decide)]
                                    have hS := hS.tr g246 (by decide) (by decide)
                                    have at245_5 := (zp_same hI ha0 g246 5 rfl (by decide) (by decide)).trans A5_Lp21
                                    have at245_43 := zp_same hI ha0 g246 43 rfl (by decide) (by decide)
                                    have zc0 := ht245_fact0
                                    have zc1 := ht245_fact1
                                    have zc2 := ht245_fact2
                                    have zc3 := ht245_fact3
                                    clear ht245_fact3 ht245_fact2 ht245_fact1 ht245_fact0
                                    have zc4 := zc0.stop
                                    have zc7 := zc0.at
                                    obtain ⟨y38, hy38⟩ : ∃ x : Int, x = (t245.1 a0 38).toInt := ⟨_, rfl⟩
                                    obtain ⟨y44, hy44⟩ : ∃ x : Int, x = (t245.1 a0 44).toInt := ⟨_, rfl⟩
                                    have zc5 : y44 = 0 → nO (zp a0 τ21 43) y44.toNat = 0 := fun z => by rw [z]; rfl
                                    rw [← hy44] at zc0 zc1 zc3 zc4 zc7
                                    rw [← hy38] at zc0 zc1 zc7
                                    replace zc4 := zHide.mk zc4
                                    replace zc3 := zHide.mk zc3
                                    replace zc5 := zHide.mk zc5
                                    have zc8 := zc4.un.2.1 (zc3.un.imp id (fun z => ⟨z.1, z.2.imp id (fun y => y.2)⟩))
                                    have zc9 : v244.toInt = 0 → y44 ≤ 3 * nO (zp a0 τ21 43) y44.toNat := fun h0 => zc4.un.1 (zc3.un.imp id (fun z => ⟨z.1, z.2.resolve_right (fun y => absurd y.1 (by omega))⟩))
                                    refine zg_aload_n X 2 rfl dX11_expression_237 ?_
                                    refine fg_X11_98 X hI ha0 dX11_expression_238 (fun v247 ev247 hv247 => ?_)
                                    replace E := zLet_s (zgr ev247) E
                                    refine zg_aload_n X 2 rfl dX11_expression_241 ?_
                                    refine fg_X11_297 X hI ha0 dX11_expression_242 (fun v248 ev248 hv248 => ?_)
                                    replace E := zLet_s ev248 E
                                    have kv248 : (t245.1 a0 44).toInt = v248.toInt := by rw [ev248]
                                    refine zg_aload_n X 2 rfl dX11_expression_245 ?_
                                    refine fg_X11_20 X hI ha0 dX11_expression_246 (fun v249 ev249 hv249 => ?_)
                                    replace E := zLet_s (zgr ev249) E
                                    refine zg_aload_n X 2 rfl dX11_expression_249 ?_
                                    refine fg_X11_209 X hI ha0 dX11_expression_250 (fun v250 ev250 hv250 => ?_)
                                    replace E := zLet_s ev250 E
                                    have kv250 : (t245.1 a0 11).toInt = v250.toInt := by rw [ev250]
                                    refine ag_105 X hI hv249 (by omega) (by omega) dX11_expression_253 (fun v251 ev251 _ => ?_)
                                    replace E := zLet_s ev251 E
                                    have qv251 := zp_ld ev249 ev251
                                    rw [at245_5] at qv251
                                    rw [← kv250] at qv251
                                    rw [show (t245.1 a0 11).toInt = (τ21.1 a0 11).toInt by omega, ← zA5] at qv251
                                    refine as_143 X hI hv247 (by omega) (by omega) dX11_expression_254 (fun s252 es252 hI => ?_)
                                    replace E := zLet_s es252 E
                                    have g253 := (zSame.rf (o := a0) (Wf := []) (Wa := [143]) (L := L) (kd := kd) (σ := t245)).a ha0 hv247 es252 rfl (by decide)
                                    have rs252 := zp_st (σ := t245) (σ2 := s252) (i := v248) (x := v251) ev247 es252 (by omega)
                                    have ws252 := rs252
                                    rw [at245_43] at ws252
                                    rw [← kv248] at ws252
                                    have fs252_11 : (s252.1 a0 11).toInt = (t245.1 a0 11).toInt := by rw [g253.2.1 11 (by decide)]
                                    have fs252_12 : (s252.1 a0 12).toInt = (t245.1 a0 12).toInt := by rw [g253.2.1 12 (by decide)]
                                    have fs252_13 : (s252.1 a0 13).toInt = (t245.1 a0 13).toInt := by rw [g253.2.1 13 (by decide)]
                                    have fs252_38 : (s252.1 a0 38).toInt = (t245.1 a0 38).toInt := by rw [g253.2.1 38 (by decide)]
                                    have fs252_44 : (s252.1 a0 44).toInt = (t245.1 a0 44).toInt := by rw [g253.2.1 44 (by decide)]
                                    have hS := hS.tr g253 (by decide) (by decide)
                                    have as252_5 := (zp_same hI ha0 g253 5 rfl (by decide) (by decide)).trans at245_5
                                    have as252_39 := zp_same hI ha0 g253 39 rfl (by decide) (by decide)
                                    have as252_40 := zp_same hI ha0 g253 40 rfl (by decide) (by decide)
                                    have e254 := g253.v ev248 (by decide)
                                    refine zg_aload_n X 2 rfl dX11_expression_255 ?_
                                    refine zg_dup X dX11_expression_256 rfl ?_
                                    refine fg_X11_297 X hI ha0 dX11_expression_257 (fun v256 ev256 hv256 => ?_)
                                    replace E := zLet_s ev256 E
                                    have kv256 : (s252.1 a0 44).toInt = v256.toInt := by rw [ev256]
                                    have mv256 : v256.toInt = v248.toInt := by rw [ev256, ← e254]
                                    refine zg_iconst X 1 dX11_expression_260 (by decide) (fun v257 _ hv257 => ?_)
                                    replace E := zLet_s (zcst hv257 (by decide)) E
                                    refine zg_iadd X dX11_expression_261 (by omega) (by omega) (fun v258 ev258 hv258 => ?_)
                                    replace E := zLet_s ev258 E
                                    refine fp_X11_297 X hI ha0 ⟨by omega, by omega⟩ dX11_expression_262 (fun s259 es259 hI => ?_)
                                    replace E := zLet_s es259 E
                                    have g260 := (zSame.rf (o := a0) (Wf := [44]) (Wa := []) (L := L) (kd := kd) (σ := s252)).f ha0 es259 rfl
                                    have fs259_11 : (s259.1 a0 11).toInt = (s252.1 a0 11).toInt := by rw [g260.2.1 11 (by decide)]
                                    have fs259_12 : (s259.1 a0 12).toInt = (s252.1 a0 12).toInt := by rw [g260.2.1 12 (by decide)]
                                    have fs259_13 : (s259.1 a0 13).toInt = (s252.1 a0 13).toInt := by rw [g260.2.1 13 (by decide)]
                                    have fs259_38 : (s259.1 a0 38).toInt = (s252.1 a0 38).toInt := by rw [g260.2.1 38 (by decide)]
                                    have hS := hS.tr g260 (by decide) (by decide)
                                    have as259_5 := (zp_same hI ha0 g260 5 rfl (by decide) (by decide)).trans as252_5
                                    have as259_39 := (zp_same hI ha0 g260 39 rfl (by decide) (by decide)).trans as252_39
                                    have as259_40 := (zp_same hI ha0 g260 40 rfl (by decide) (by decide)).trans as252_40
                                    have as259_43 := zp_same hI ha0 g260 43 rfl (by decide) (by decide)
                                    have fs259_44 : (s259.1 a0 44).toInt = v258.toInt := by rw [es259]; exact congrArg _ (zu_s _ _ _ _)
                                    have e262 : v258 = s259.1 a0 44 := by rw [es259]; exact zm_s
                                    refine zg_aload_n X 2 rfl dX11_expression_265 ?_
                                    refine zg_cVv (As := []) (st := []) X ha0 rfl (by decide) rfl (t_X11_goesOn l d L kd κ _ hI a0 ha0   ) mk_X11_227 mc_X11_goesOn mz_X11 mi_X11_goesOn ml_X11_goesOn (na := 0) ⟨md_X11.1, md_X11.2, by decide +kernel⟩ rfl ⟨by decide, by decide⟩ (Nat.le_of_ble_eq_true rfl) dX11_expression_266 (fun t263 hq => ?_)
                                    obtain ⟨hF, ht263_fact0, hI, g264⟩ := hq
                                    replace E := zLet_s hF E
                                    have ft263_12 : (t263.1 a0 12).toInt = (s259.1 a0 12).toInt := by rw [g264.2.1 12 (by decide)]
                                    have ft263_38 : (t263.1 a0 38).toInt = (s259.1 a0 38).toInt := by rw [g264.2.1 38 (by decide)]
                                    have ft263_44 : (t263.1 a0 44).toInt = (s259.1 a0 44).toInt := by rw [g264.2.1 44 (by decide)]
                                    have hS := hS.tr g264 (by decide) (by decide)
                                    have at263_5 := (zp_same hI ha0 g264 5 rfl (by decide) (by decide)).trans as259_5
                                    have at263_39 := (zp_same hI ha0 g264 39 rfl (by decide) (by decide)).trans as259_39
                                    have at263_40 := (zp_same hI ha0 g264 40 rfl (by decide) (by decide)).trans as259_40
                                    have at263_43 := (zp_same hI ha0 g264 43 rfl (by decide) (by decide)).trans as259_43
                                    have zpu : zEs (zp a0 t263 43) (zp a0 t263 39) (zp a0 t263 40) (t263.1 a0 44).toInt (t263.1 a0 38).toInt (σ.1 a0 38).toInt 0 ∧ nO (zp a0 t263 43) (t263.1 a0 44).toInt.toNat = nO (zp a0 τ21 43) (τ21.1 a0 44).toInt.toNat := by
                                      rw [at263_39, at263_40, show (t263.1 a0 38).toInt = y38 by omega]
                                      have y := zEs.pushS (x := v251.toInt) (w' := zp a0 t263 43) (W' := (t263.1 a0 44).toInt) zc0 (fun j h0 => by rw [at263_43, ws252 j h0]; split <;> split <;> first | rfl | (exfalso; omega)) (by omega) (by omega) (by omega) (by omega)
                                      exact ⟨y.1, by omega⟩
                                    refine zg_goto X 12 dX11_expression_269 (by decide) ?_
                                    refine zg_sub [0, 1, 2] rfl ?_
                                    exact ihLp8 _ v190 hI hS at263_5 E  (by omega) (by omega) (fun _ => zpu.1) (fun j h0 h1 => by have y := hk j h0 (by omega); have x := zc2 j h0 (by omega); rw [at263_39, at263_40]; exact ⟨x.1.trans y.1, x.2.trans y.2⟩)
                              · omega
                            · skip
                              replace E := zIf_t c189 E
                              refine zg_aload_n X 2 rfl dX11_expression_172 ?_
                              refine zg_bipush X 15 dX11_expression_173 (by decide) (fun v266 _ hv266 => ?_)
                              replace E := zLet_s (zcst hv266 (by decide)) E
                              refine zg_cVi (As := [.int v266]) (st := []) X ha0 rfl (by decide) rfl (t_X11_is l d L kd κ _ hI a0 ha0 v266  ) mk_X11_224 mc_X11_is mz_X11 mi_X11_is ml_X11_is (na := 1) ⟨md_X11.1, md_X11.2, by decide +kernel⟩ rfl ⟨by decide, by decide⟩ (Nat.le_of_ble_eq_true rfl) dX11_expression_175 (fun v268 t267 hq => ?_)
                              obtain ⟨⟨hF, ⟨ht267_res, ht267_fact0⟩⟩, rfl⟩ := hq
                              replace E := zLet_s hF E
                              replace ht267_fact0 := zHide.mk ht267_fact0
                              refine zg_if_eq X 185 dX11_expression_178 (by decide) (fun c269 => ?_) (fun c269 => ?_)
                              · skip
                                replace E := zIf_t c269 E
                                refine zg_iconst X 0 dX11_expression_185 (by decide) (fun v270 _ hv270 => ?_)
                                replace E := zLet_s (zcst hv270 (by decide)) E
                                refine zg_istore_n X [(2, .int v270), (1, .int v5), (0, .ref a0)] dX11_expression_186 (by decide) rfl ?_
                                refine zg_iload_n X 0 rfl dX11_expression_187 ?_
                                refine zg_if_ne X 210 dX11_expression_188 (by decide) (fun c271 => ?_) (fun c271 => ?_)
                                · omega
                                · skip
                                  replace E := zIf_t c271 E
                                  refine zg_aload_n X 2 rfl dX11_expression_191 ?_
                                  refine fg_X11_233 X hI ha0 dX11_expression_192 (fun v272 ev272 hv272 => ?_)
                                  replace E := zLet_s ev272 E
                                  have kv272 : (τ21.1 a0 12).toInt = v272.toInt := by rw [ev272]
                                  refine zg_iload_n X 1 rfl dX11_expression_195 ?_
                                  refine zg_icmp_le X 204 dX11_expression_196 (by decide) (fun c273 => ?_) (fun c273 => ?_)
                                  · skip
                                    replace E := zIf_f (Int.not_lt.mpr c273) E
                                    have zb39 : zp a0 τ21 39 = zp a0 τ21 39 := rfl
                                    have zb40 : zp a0 τ21 40 = zp a0 τ21 40 := rfl
                                    have zb43 : zp a0 τ21 43 = zp a0 τ21 43 := rfl
                                    have zb1 : (τ21.1 a0 38).toInt = (τ21.1 a0 38).toInt ∧ (τ21.1 a0 44).toInt = (τ21.1 a0 44).toInt := ⟨by omega, by omega⟩
                                    refine zg_aload_n X 2 rfl dX11_expression_204 ?_
                                    refine zg_iconst X 0 dX11_expression_205 (by decide) (fun v274 _ hv274 => ?_)
                                    replace E := zLet_s (zcst hv274 (by decide)) E
                                    refine zg_cVv (As := [.int v274]) (st := []) X ha0 rfl (by decide) rfl (t_X11_comesOut l d L kd κ _ hI a0 ha0 v274 ((σ.1 a0 38).toInt) (by omega) (by first | exact hx | (rw [rfl, rfl, rfl, show (τ21.1 a0 44).toInt = (τ21.1 a0 44).toInt by omega, show (τ21.1 a0 38).toInt = (τ21.1 a0 38).toInt by omega]; exact hx))) mk_X11_306 mc_X11_comesOut mz_X11 mi_X11_comesOut ml_X11_comesOut (na := 1) ⟨md_X11.1, md_X11.2, by decide +kernel⟩ rfl ⟨by decide, by decide⟩ (Nat.le_of_ble_eq_true rfl) dX11_expression_206 (fun t275 hq => ?_)
                                    obtain ⟨hF, ⟨ht275_fact0, ht275_fact1, ht275_fact2, ht275_fact3⟩, hI, g276⟩ := hq
                                    replace E := zLet_s hF E
                                    have ft275_11 : (t275.1 a0 11).toInt = (τ21.1 a0 11).toInt := by rw [g276.2.1 11 (by decide)]
                                    have ft275_12 : (t275.1 a0 12).toInt = (τ21.1 a0 12).toInt := by rw [g276.2.1 12 (by decide)]
                                    have ft275_13 : (t275.1 a0 13).toInt = (τ21.1 a0 13).toInt := by rw [g276.2.1 13 (by decide)]
                                    have hS := hS.tr g276 (by decide) (by decide)
                                    have zc0 := ht275_fact0
                                    have zc1 := ht275_fact1
                                    have zc2 := ht275_fact2
                                    have zc3 := ht275_fact3
                                    clear ht275_fact3 ht275_fact2 ht275_fact1 ht275_fact0
                                    have zc4 := zc0.stop
                                    have zc7 := zc0.at
                                    rw [zb43] at zc0 zc1 zc3 zc4 zc7
                                    rw [zb1.2] at zc1
                                    have zc9 : nO (zp a0 τ21 43) (t275.1 a0 44).toInt.toNat = 0 → (t275.1 a0 44).toInt = 0 := fun z => zc4.2.2 z (zc3.imp id (fun y => ⟨y.1, y.2.resolve_right (fun x => absurd x.1 (by omega))⟩))
                                    clear zc3 zc4
                                    exact ret _ _ _ dX11_expression_209 ⟨E.symm.trans hR, ⟨⟨(by omega), (by omega), (fun h0 => by first | (exfalso; omega) | exact zc0.cod), (fun j h0 h1 => by have y := hk j h0 (by omega); have x := zc2 j h0 (by omega); rw [zb39, zb40] at x; exact ⟨x.1.trans y.1, x.2.trans y.2⟩)⟩, hI, hS⟩⟩
                                  · skip
                                    replace E := zIf_t c273 E
                                    refine zg_aload_n X 2 rfl dX11_expression_199 ?_
                                    refine zg_iconst X 1 dX11_expression_200 (by decide) (fun v278 _ hv278 => ?_)
                                    replace E := zLet_s (zcst hv278 (by decide)) E
                                    refine zg_cVv (As := [.int v278]) (st := []) X ha0 rfl (by decide) rfl (t_X11_fail l d L kd κ _ hI a0 ha0 v278  (by omega)) mk_X11_221 mc_X11_fail mz_X11 mi_X11_fail ml_X11_fail (na := 1) ⟨md_X11.1, md_X11.2, by decide +kernel⟩ rfl ⟨by decide, by decide⟩ (Nat.le_of_ble_eq_true rfl) dX11_expression_201 (fun t279 hq => ?_)
                                    obtain ⟨hF, ht279_fact0, hI, g280⟩ := hq
                                    replace E := zLet_s hF E
                                    have ft279_11 : (t279.1 a0 11).toInt = (τ21.1 a0 11).toInt := by rw [g280.2.1 11 (by decide)]
                                    have ft279_12 : (t279.1 a0 12).toInt = (τ21.1 a0 12).toInt := by rw [g280.2.1 12 (by decide)]
                                    have ft279_38 : (t279.1 a0 38).toInt = (τ21.1 a0 38).toInt := by rw [g280.2.1 38 (by decide)]
                                    have ft279_44 : (t279.1 a0 44).toInt = (τ21.1 a0 44).toInt := by rw [g280.2.1 44 (by decide)]
                                    have hS := hS.tr g280 (by decide) (by decide)
                                    have at279_39 := zp_same hI ha0 g280 39 rfl (by decide) (by decide)
                                    have at279_40 := zp_same hI ha0 g280 40 rfl (by decide) (by decide)
                                    have at279_43 := zp_same hI ha0 g280 43 rfl (by decide) (by decide)
                                    have zb39 : zp a0 t279 39 = zp a0 τ21 39 := at279_39
                                    have zb40 : zp a0 t279 40 = zp a0 τ21 40 := at279_40
                                    have zb43 : zp a0 t279 43 = zp a0 τ21 43 := at279_43
                                    have zb1 : (t279.1 a0 38).toInt = (τ21.1 a0 38).toInt ∧ (t279.1 a0 44).toInt = (τ21.1 a0 44).toInt := ⟨by omega, by omega⟩
                                    refine zg_aload_n X 2 rfl dX11_expression_204 ?_
                                    refine zg_iconst X 0 dX11_expression_205 (by decide) (fun v282 _ hv282 => ?_)
                                    replace E := zLet_s (zcst hv282 (by decide)) E
                                    refine zg_cVv (As := [.int v282]) (st := []) X ha0 rfl (by decide) rfl (t_X11_comesOut l d L kd κ _ hI a0 ha0 v282 ((σ.1 a0 38).toInt) (by omega) (by first | exact hx | (rw [at279_43, at279_39, at279_40, show (t279.1 a0 44).toInt = (τ21.1 a0 44).toInt by omega, show (t279.1 a0 38).toInt = (τ21.1 a0 38).toInt by omega]; exact hx))) mk_X11_306 mc_X11_comesOut mz_X11 mi_X11_comesOut ml_X11_comesOut (na := 1) ⟨md_X11.1, md_X11.2, by decide +kernel⟩ rfl ⟨by decide, by decide⟩ (Nat.le_of_ble_eq_true rfl) dX11_expression_206 (fun t283 hq => ?_)
                                    obtain ⟨hF, ⟨ht283_fact0, ht283_fact1, ht283_fact2, ht283_fact3⟩, hI, g284⟩ := hq
                                    replace E := zLet_s hF E
                                    have ft283_11 : (t283.1 a0 11).toInt = (t279.1 a0 11).toInt := by rw [g284.2.1 11 (by decide)]
                                    have ft283_12 : (t283.1 a0 12).toInt = (t279.1 a0 12).toInt := by rw [g284.2.1 12 (by decide)]
                                    have ft283_13 : (t283.1 a0 13).toInt = (t279.1 a0 13).toInt := by rw [g284.2.1 13 (by decide)]
                                    have hS := hS.tr g284 (by decide) (by decide)
                                    have zc0 := ht283_fact0
                                    have zc1 := ht283_fact1
                                    have zc2 := ht283_fact2
                                    have zc3 := ht283_fact3
                                    clear ht283_fact3 ht283_fact2 ht283_fact1 ht283_fact0
                                    have zc4 := zc0.stop
                                    have zc7 := zc0.at
                                    rw [zb43] at zc0 zc1 zc3 zc4 zc7
                                    rw [zb1.2] at zc1
                                    have zc9 : nO (zp a0 τ21 43) (t283.1 a0 44).toInt.toNat = 0 → (t283.1 a0 44).toInt = 0 := fun z => zc4.2.2 z (zc3.imp id (fun y => ⟨y.1, y.2.resolve_right (fun x => absurd x.1 (by omega))⟩))
                                    clear zc3 zc4
                                    exact ret _ _ _ dX11_expression_209 ⟨E.symm.trans hR, ⟨⟨(by omega), (by omega), (fun h0 => by first | (exfalso; omega) | exact zc0.cod), (fun j h0 h1 => by have y := hk j h0 (by omega); have x := zc2 j h0 (by omega); rw [zb39, zb40] at x; exact ⟨x.1.trans y.1, x.2.trans y.2⟩)⟩, hI, hS⟩⟩
                              · skip
                                replace E := zIf_f c269 E
                                have ztk := ht267_fact0.un.resolve_right (fun z => absurd z.1 (by omega))
                                refine zg_iconst X 1 dX11_expression_181 (by decide) (fun v286 _ hv286 => ?_)
                                replace E := zLet_s (zcst hv286 (by decide)) E
                                refine zg_goto X 186 dX11_expression_182 (by decide) ?_
                                refine zg_istore_n X [(2, .int v286), (1, .int v5), (0, .ref a0)] dX11_expression_186 (by decide) rfl ?_
                                refine zg_iload_n X 0 rfl dX11_expression_187 ?_
                                refine zg_if_ne X 210 dX11_expression_188 (by decide) (fun c287 => ?_) (fun c287 => ?_)
                                · skip
                                  replace E := zIf_f c287 E
                                  refine zg_aload_n X 2 rfl dX11_expression_210 ?_
                                  refine zg_aload_n X 2 rfl dX11_expression_211 ?_
                                  refine zg_bipush X 10 dX11_expression_212 (by decide) (fun v288 _ hv288 => ?_)
                                  replace E := zLet_s (zcst hv288 (by decide)) E
                                  refine zg_cVi (As := [.int v288]) (st := [.ref a0]) X ha0 rfl (by decide) rfl (t_X11_is l d L kd κ _ hI a0 ha0 v288  ) mk_X11_224 mc_X11_is mz_X11 mi_X11_is ml_X11_is (na := 1) ⟨md_X11.1, md_X11.2, by decide +kernel⟩ rfl ⟨by decide, by decide⟩ (Nat.le_of_ble_eq_true rfl) dX11_expression_214 (fun v290 t289 hq => ?_)
                                  obtain ⟨⟨hF, ⟨ht289_res, ht289_fact0⟩⟩, rfl⟩ := hq
                                  replace E := zLet_s hF E
                                  replace ht289_fact0 := zHide.mk ht289_fact0
                                  refine zg_if_ne X 229 dX11_expression_217 (by decide) (fun c291 => ?_) (fun c291 => ?_)
                                  · skip
                                    replace E := zIf_f c291 E
                                    have zts := ht289_fact0.un.resolve_right (fun z => absurd z.1 (by omega))
                                    refine zg_iconst X 1 dX11_expression_229 (by decide) (fun v292 _ hv292 => ?_)
                                    replace E := zLet_s (zcst hv292 (by decide)) E
                                    refine zg_goto X 234 dX11_expression_230 (by decide) ?_
                                    refine zg_cVv (As := [.int v292]) (st := []) X ha0 rfl (by decide) rfl (t_X11_comesOut l d L kd κ _ hI a0 ha0 v292 ((σ.1 a0 38).toInt) (by omega) (hx)) mk_X11_306 mc_X11_comesOut mz_X11 mi_X11_comesOut ml_X11_comesOut (na := 1) ⟨md_X11.1, md_X11.2, by decide +kernel⟩ rfl ⟨by decide, by decide⟩ (Nat.le_of_ble_eq_true rfl) dX11_expression_234 (fun t293 hq => ?_)
                                    obtain ⟨hF, ⟨ht293_fact0, ht293_fact1, ht293_fact2, ht293_fact3⟩, hI, g294⟩ := hq
                                    replace E := zLet_s hF E
                                    have ft293_11 : (t293.1 a0 11).toInt = (τ21.1 a0 11).toInt := by rw [g294.2.1 11 (by decide)]
                                    have ft293_12 : (t293.1 a0 12).toInt = (τ21.1 a0 12).toInt := by rw [g294.2.1 12 (by decide)]
                                    have ft293_13 : (t293.1 a0 13).toInt = (τ21.1 a0 13).toInt := by rw [g294.2.1 13 (by decide)]
                                    have hS := hS.tr g294 (by decide) (by decide)
                                    have at293_5 := (zp_same hI ha0 g294 5 rfl (by decide) (by decide)).trans A5_Lp21
                                    have at293_43 := zp_same hI ha0 g294 43 rfl (by decide) (by decide)
                                    have zc0 := ht293_fact0
                                    have zc1 := ht293_fact1
                                    have zc2 := ht293_fact2
                                    have zc3 := ht293_fact3
                                    clear ht293_fact3 ht293_fact2 ht293_fact1 ht293_fact0
                                    have zc4 := zc0.stop
                                    have zc7 := zc0.at
                                    obtain ⟨y38, hy38⟩ : ∃ x : Int, x = (t293.1 a0 38).toInt := ⟨_, rfl⟩
                                    obtain ⟨y44, hy44⟩ : ∃ x : Int, x = (t293.1 a0 44).toInt := ⟨_, rfl⟩
                                    have zc5 : y44 = 0 → nO (zp a0 τ21 43) y44.toNat = 0 := fun z => by rw [z]; rfl
                                    rw [← hy44] at zc0 zc1 zc3 zc4 zc7
                                    rw [← hy38] at zc0 zc1 zc7
                                    replace zc4 := zHide.mk zc4
                                    replace zc3 := zHide.mk zc3
                                    replace zc5 := zHide.mk zc5
                                    have zc8 := zc4.un.2.1 (zc3.un.imp id (fun z => ⟨z.1, z.2.imp id (fun y => y.2)⟩))
                                    have zc9 : v292.toInt = 0 → y44 ≤ 3 * nO (zp a0 τ21 43) y44.toNat := fun h0 => zc4.un.1 (zc3.un.imp id (fun z => ⟨z.1, z.2.resolve_right (fun y => absurd y.1 (by omega))⟩))
                                    refine zg_aload_n X 2 rfl dX11_expression_237 ?_
                                    refine fg_X11_98 X hI ha0 dX11_expression_238 (fun v295 ev295 hv295 => ?_)
                                    replace E := zLet_s (zgr ev295) E
                                    refine zg_aload_n X 2 rfl dX11_expression_241 ?_
                                    refine fg_X11_297 X hI ha0 dX11_expression_242 (fun v296 ev296 hv296 => ?_)
                                    replace E := zLet_s ev296 E
                                    have kv296 : (t293.1 a0 44).toInt = v296.toInt := by rw [ev296]
                                    refine zg_aload_n X 2 rfl dX11_expression_245 ?_
                                    refine fg_X11_20 X hI ha0 dX11_expression_246 (fun v297 ev297 hv297 => ?_)
                                    replace E := zLet_s (zgr ev297) E
                                    refine zg_aload_n X 2 rfl dX11_expression_249 ?_
                                    refine fg_X11_209 X hI ha0 dX11_expression_250 (fun v298 ev298 hv298 => ?_)
                                    replace E := zLet_s ev298 E
                                    have kv298 : (t293.1 a0 11).toInt = v298.toInt := by rw [ev298]
                                    refine ag_105 X hI hv297 (by omega) (by omega) dX11_expression_253 (fun v299 ev299 _ => ?_)
                                    replace E := zLet_s ev299 E
                                    have qv299 := zp_ld ev297 ev299
                                    rw [at293_5] at qv299
                                    rw [← kv298] at qv299
                                    rw [show (t293.1 a0 11).toInt = (τ21.1 a0 11).toInt by omega, ← zA5] at qv299
                                    refine as_143 X hI hv295 (by omega) (by omega) dX11_expression_254 (fun s300 es300 hI => ?_)
                                    replace E := zLet_s es300 E
                                    have g301 := (zSame.rf (o := a0) (Wf := []) (Wa := [143]) (L := L) (kd := kd) (σ := t293)).a ha0 hv295 es300 rfl (by decide)
                                    have rs300 := zp_st (σ := t293) (σ2 := s300) (i := v296) (x := v299) ev295 es300 (by omega)
                                    have ws300 := rs300
                                    rw [at293_43] at ws300
                                    rw [← kv296] at ws300
                                    have fs300_11 : (s300.1 a0 11).toInt = (t293.1 a0 11).toInt := by rw [g301.2.1 11 (by decide)]
                                    have fs300_12 : (s300.1 a0 12).toInt = (t293.1 a0 12).toInt := by rw [g301.2.1 12 (by decide)]
                                    have fs300_13 : (s300.1 a0 13).toInt = (t293.1 a0 13).toInt := by rw [g301.2.1 13 (by decide)]
                                    have fs300_38 : (s300.1 a0 38).toInt = (t293.1 a0 38).toInt := by rw [g301.2.1 38 (by decide)]
                                    have fs300_44 : (s300.1 a0 44).toInt = (t293.1 a0 44).toInt := by rw [g301.2.1 44 (by decide)]
                                    have hS := hS.tr g301 (by decide) (by decide)
                                    have as300_5 := (zp_same hI ha0 g301 5 rfl (by decide) (by decide)).trans at293_5
                                    have as300_39 := zp_same hI ha0 g301 39 rfl (by decide) (by decide)
                                    have as300_40 := zp_same hI ha0 g301 40 rfl (by decide) (by decide)
                                    have e302 := g301.v ev296 (by decide)
                                    refine zg_aload_n X 2 rfl dX11_expression_255 ?_
                                    refine zg_dup X dX11_expression_256 rfl ?_
                                    refine fg_X11_297 X hI ha0 dX11_expression_257 (fun v304 ev304 hv304 => ?_)
                                    replace E := zLet_s ev304 E
                                    have kv304 : (s300.1 a0 44).toInt = v304.toInt := by rw [ev304]
                                    have mv304 : v304.toInt = v296.toInt := by rw [ev304, ← e302]
                                    refine zg_iconst X 1 dX11_expression_260 (by decide) (fun v305 _ hv305 => ?_)
                                    replace E := zLet_s (zcst hv305 (by decide)) E
                                    refine zg_iadd X dX11_expression_261 (by omega) (by omega) (fun v306 ev306 hv306 => ?_)
                                    replace E := zLet_s ev306 E
                                    refine fp_X11_297 X hI ha0 ⟨by omega, by omega⟩ dX11_expression_262 (fun s307 es307 hI => ?_)
                                    replace E := zLet_s es307 E
                                    have g308 := (zSame.rf (o := a0) (Wf := [44]) (Wa := []) (L := L) (kd := kd) (σ := s300)).f ha0 es307 rfl
                                    have fs307_11 : (s307.1 a0 11).toInt = (s300.1 a0 11).toInt := by rw [g308.2.1 11 (by decide)]
                                    have fs307_12 : (s307.1 a0 12).toInt = (s300.1 a0 12).toInt := by rw [g308.2.1 12 (by decide)]
                                    have fs307_13 : (s307.1 a0 13).toInt = (s300.1 a0 13).toInt := by rw [g308.2.1 13 (by decide)]
                                    have fs307_38 : (s307.1 a0 38).toInt = (s300.1 a0 38).toInt := by rw [g308.2.1 38 (by decide)]
                                    have hS := hS.tr g308 (by decide) (by decide)
                                    have as307_5 := (zp_same hI ha0 g308 5 rfl (by decide) (by decide)).trans as300_5
                                    have as307_39 := (zp_same hI ha0 g308 39 rfl (by decide) (by decide)).trans as300_39
                                    have as307_40 := (zp_same hI ha0 g308 40 rfl (by decide) (by decide)).trans as300_40
                                    have as307_43 := zp_same hI ha0 g308 43 rfl (by decide) (by decide)
                                    have fs307_44 : (s307.1 a0 44).toInt = v306.toInt := by rw [es307]; exact congrArg _ (zu_s _ _ _ _)
                                    have e310 : v306 = s307.1 a0 44 := by rw [es307]; exact zm_s
                                    refine zg_aload_n X 2 rfl dX11_expression_265 ?_
                                    refine zg_cVv (As := []) (st := []) X ha0 rfl (by decide) rfl (t_X11_goesOn l d L kd κ _ hI a0 ha0   ) mk_X11_227 mc_X11_goesOn mz_X11 mi_X11_goesOn ml_X11_goesOn (na := 0) ⟨md_X11.1, md_X11.2, by decide +kernel⟩ rfl ⟨by decide, by decide⟩ (Nat.le_of_ble_eq_true rfl) dX11_expression_266 (fun t311 hq => ?_)
                                    obtain ⟨hF, ht311_fact0, hI, g312⟩ := hq
                                    replace E := zLet_s hF E
                                    have ft311_12 : (t311.1 a0 12).toInt = (s307.1 a0 12).toInt := by rw [g312.2.1 12 (by decide)]
                                    have ft311_38 : (t311.1 a0 38).toInt = (s307.1 a0 38).toInt := by rw [g312.2.1 38 (by decide)]
                                    have ft311_44 : (t311.1 a0 44).toInt = (s307.1 a0 44).toInt := by rw [g312.2.1 44 (by decide)]
                                    have hS := hS.tr g312 (by decide) (by decide)
                                    have at311_5 := (zp_same hI ha0 g312 5 rfl (by decide) (by decide)).trans as307_5
                                    have at311_39 := (zp_same hI ha0 g312 39 rfl (by decide) (by decide)).trans as307_39
                                    have at311_40 := (zp_same hI ha0 g312 40 rfl (by decide) (by decide)).trans as307_40
                                    have at311_43 := (zp_same hI ha0 g312 43 rfl (by decide) (by decide)).trans as307_43
                                    have zpu : zEs (zp a0 t311 43) (zp a0 t311 39) (zp a0 t311 40) (t311.1 a0 44).toInt (t311.1 a0 38).toInt (σ.1 a0 38).toInt 0 ∧ nO (zp a0 t311 43) (t311.1 a0 44).toInt.toNat = nO (zp a0 τ21 43) (τ21.1 a0 44).toInt.toNat := by
                                      rw [at311_39, at311_40, show (t311.1 a0 38).toInt = y38 by omega]
                                      have y := zEs.pushS (x := v299.toInt) (w' := zp a0 t311 43) (W' := (t311.1 a0 44).toInt) zc0 (fun j h0 => by rw [at311_43, ws300 j h0]; split <;> split <;> first | rfl | (exfalso; omega)) (by omega) (by omega) (by omega) (by omega)
                                      exact ⟨y.1, by omega⟩
                                    refine zg_goto X 12 dX11_expression_269 (by decide) ?_
                                    refine zg_sub [0, 1, 2] rfl ?_
                                    exact ihLp8 _ v286 hI hS at311_5 E  (by omega) (by omega) (fun _ => zpu.1) (fun j h0 h1 => by have y := hk j h0 (by omega); have x := zc2 j h0 (by omega); rw [at311_39, at311_40]; exact ⟨x.1.trans y.1, x.2.trans y.2⟩)
                                  · skip
                                    replace E := zIf_t c291 E
                                    refine zg_aload_n X 2 rfl dX11_expression_220 ?_
                                    refine zg_bipush X 15 dX11_expression_221 (by decide) (fun v314 _ hv314 => ?_)
                                    replace E := zLet_s (zcst hv314 (by decide)) E
                                    refine zg_cVi (As := [.int v314]) (st := [.ref a0]) X ha0 rfl (by decide) rfl (t_X11_is l d L kd κ _ hI a0 ha0 v314  ) mk_X11_224 mc_X11_is mz_X11 mi_X11_is ml_X11_is (na := 1) ⟨md_X11.1, md_X11.2, by decide +kernel⟩ rfl ⟨by decide, by decide⟩ (Nat.le_of_ble_eq_true rfl) dX11_expression_223 (fun v316 t315 hq => ?_)
                                    obtain ⟨⟨hF, ⟨ht315_res, ht315_fact0⟩⟩, rfl⟩ := hq
                                    replace E := zLet_s hF E
                                    replace ht315_fact0 := zHide.mk ht315_fact0
                                    refine zg_if_eq X 233 dX11_expression_226 (by decide) (fun c317 => ?_) (fun c317 => ?_)
                                    · skip
                                      replace E := zIf_t c317 E
                                      have zn1 := ht315_fact0.un.resolve_left (fun z => absurd z.1 (by omega))
                                      have zn2 := ht289_fact0.un.resolve_left (fun z => absurd z.1 (by omega))
                                      refine zg_iconst X 0 dX11_expression_233 (by decide) (fun v318 _ hv318 => ?_)
                                      replace E := zLet_s (zcst hv318 (by decide)) E
                                      refine zg_cVv (As := [.int v318]) (st := []) X ha0 rfl (by decide) rfl (t_X11_comesOut l d L kd κ _ hI a0 ha0 v318 ((σ.1 a0 38).toInt) (by omega) (hx)) mk_X11_306 mc_X11_comesOut mz_X11 mi_X11_comesOut ml_X11_comesOut (na := 1) ⟨md_X11.1, md_X11.2, by decide +kernel⟩ rfl ⟨by decide, by decide⟩ (Nat.le_of_ble_eq_true rfl) dX11_expression_234 (fun t319 hq => ?_)
                                      obtain ⟨hF, ⟨ht319_fact0, ht319_fact1, ht319_fact2, ht319_fact3⟩, hI, g320⟩ := hq
                                      replace E := zLet_s hF E
                                      have ft319_11 : (t319.1 a0 11).toInt = (τ21.1 a0 11).toInt := by rw [g320.2.1 11 (by decide)]
                                      have ft319_12 : (t319.1 a0 12).toInt = (τ21.1 a0 12).toInt := by rw [g320.2.1 12 (by decide)]
                                      have ft319_13 : (t319.1 a0 13).toInt = (τ21.1 a0 13).toInt := by rw [g320.2.1 13 (by decide)]
                                      have hS := hS.tr g320 (by decide) (by decide)
                                      have at319_5 := (zp_same hI ha0 g320 5 rfl (by decide) (by decide)).trans A5_Lp21
                                      have at319_43 := zp_same hI ha0 g320 43 rfl (by decide) (by decide)
                                      have zc0 := ht319_fact0
                                      have zc1 := ht319_fact1
                                      have zc2 := ht319_fact2
                                      have zc3 := ht319_fact3
                                      clear ht319_fact3 ht319_fact2 ht319_fact1 ht319_fact0
                                      have zc4 := zc0.stop
                                      have zc7 := zc0.at
                                      obtain ⟨y38, hy38⟩ : ∃ x : Int, x = (t319.1 a0 38).toInt := ⟨_, rfl⟩
                                      obtain ⟨y44, hy44⟩ : ∃ x : Int, x = (t319.1 a0 44).toInt := ⟨_, rfl⟩
                                      have zc5 : y44 = 0 → nO (zp a0 τ21 43) y44.toNat = 0 := fun z => by rw [z]; rfl
                                      rw [← hy44] at zc0 zc1 zc3 zc4 zc7
                                      rw [← hy38] at zc0 zc1 zc7
                                      replace zc4 := zHide.mk zc4
                                      replace zc3 := zHide.mk zc3
                                      replace zc5 := zHide.mk zc5
                                      have zc8 := zc4.un.2.1 (zc3.un.imp id (fun z => ⟨z.1, z.2.imp id (fun y => y.2)⟩))
                                      have zc9 : v318.toInt = 0 → y44 ≤ 3 * nO (zp a0 τ21 43) y44.toNat := fun h0 => zc4.un.1 (zc3.un.imp id (fun z => ⟨z.1, z.2.resolve_right (fun y => absurd y.1 (by omega))⟩))
                                      refine zg_aload_n X 2 rfl dX11_expression_237 ?_
                                      refine fg_X11_98 X hI ha0 dX11_expression_238 (fun v321 ev321 hv321 => ?_)
                                      replace E := zLet_s (zgr ev321) E
                                      refine zg_aload_n X 2 rfl dX11_expression_241 ?_
                                      refine fg_X11_297 X hI ha0 dX11_expression_242 (fun v322 ev322 hv322 => ?_)
                                      replace E := zLet_s ev322 E
                                      have kv322 : (t319.1 a0 44).toInt = v322.toInt := by rw [ev322]
                                      refine zg_aload_n X 2 rfl dX11_expression_245 ?_
                                      refine fg_X11_20 X hI ha0 dX11_expression_246 (fun v323 ev323 hv323 => ?_)
                                      replace E := zLet_s (zgr ev323) E
                                      refine zg_aload_n X 2 rfl dX11_expression_249 ?_
                                      refine fg_X11_209 X hI ha0 dX11_expression_250 (fun v324 ev324 hv324 => ?_)
                                      replace E := zLet_s ev324 E
                                      have kv324 : (t319.1 a0 11).toInt = v324.toInt := by rw [ev324]
                                      refine ag_105 X hI hv323 (by omega) (by omega) dX11_expression_253 (fun v325 ev325 _ => ?_)
                                      replace E := zLet_s ev325 E
                                      have qv325 := zp_ld ev323 ev325
                                      rw [at319_5] at qv325
                                      rw [← kv324] at qv325
                                      rw [show (t319.1 a0 11).toInt = (τ21.1 a0 11).toInt by omega, ← zA5] at qv325
                                      refine as_143 X hI hv321 (by omega) (by omega) dX11_expression_254 (fun s326 es326 hI => ?_)
                                      replace E := zLet_s es326 E
                                      have g327 := (zSame.rf (o := a0) (Wf := []) (Wa := [143]) (L := L) (kd := kd) (σ := t319)).a ha0 hv321 es326 rfl (by decide)
                                      have rs326 := zp_st (σ := t319) (σ2 := s326) (i := v322) (x := v325) ev321 es326 (by omega)
                                      have ws326 := rs326
                                      rw [at319_43] at ws326
                                      rw [← kv322] at ws326
                                      have fs326_11 : (s326.1 a0 11).toInt = (t319.1 a0 11).toInt := by rw [g327.2.1 11 (by decide)]
                                      have fs326_12 : (s326.1 a0 12).toInt = (t319.1 a0 12).toInt := by rw [g327.2.1 12 (by decide)]
                                      have fs326_13 : (s326.1 a0 13).toInt = (t319.1 a0 13).toInt := by rw [g327.2.1 13 (by decide)]
                                      have fs326_38 : (s326.1 a0 38).toInt = (t319.1 a0 38).toInt := by rw [g327.2.1 38 (by decide)]
                                      have fs326_44 : (s326.1 a0 44).toInt = (t319.1 a0 44).toInt := by rw [g327.2.1 44 (by decide)]
                                      have hS := hS.tr g327 (by decide) (by decide)
                                      have as326_5 := (zp_same hI ha0 g327 5 rfl (by decide) (by decide)).trans at319_5
                                      have as326_39 := zp_same hI ha0 g327 39 rfl (by decide) (by decide)
                                      have as326_40 := zp_same hI ha0 g327 40 rfl (by decide) (by decide)
                                      have e328 := g327.v ev322 (by decide)
                                      refine zg_aload_n X 2 rfl dX11_expression_255 ?_
                                      refine zg_dup X dX11_expression_256 rfl ?_
                                      refine fg_X11_297 X hI ha0 dX11_expression_257 (fun v330 ev330 hv330 => ?_)
                                      replace E := zLet_s ev330 E
                                      have kv330 : (s326.1 a0 44).toInt = v330.toInt := by rw [ev330]
                                      have mv330 : v330.toInt = v322.toInt := by rw [ev330, ← e328]
                                      refine zg_iconst X 1 dX11_expression_260 (by decide) (fun v331 _ hv331 => ?_)
                                      replace E := zLet_s (zcst hv331 (by decide)) E
                                      refine zg_iadd X dX11_expression_261 (by omega) (by omega) (fun v332 ev332 hv332 => ?_)
                                      replace E := zLet_s ev332 E
                                      refine fp_X11_297 X hI ha0 ⟨by omega, by omega⟩ dX11_expression_262 (fun s333 es333 hI => ?_)
                                      replace E := zLet_s es333 E
                                      have g334 := (zSame.rf (o := a0) (Wf := [44]) (Wa := []) (L := L) (kd := kd) (σ := s326)).f ha0 es333 rfl
                                      have fs333_11 : (s333.1 a0 11).toInt = (s326.1 a0 11).toInt := by rw [g334.2.1 11 (by decide)]
                                      have fs333_12 : (s333.1 a0 12).toInt = (s326.1 a0 12).toInt := by rw [g334.2.1 12 (by decide)]
                                      have fs333_13 : (s333.1 a0 13).toInt = (s326.1 a0 13).toInt := by rw [g334.2.1 13 (by decide)]
                                      have fs333_38 : (s333.1 a0 38).toInt = (s326.1 a0 38).toInt := by rw [g334.2.1 38 (by decide)]
                                      have hS := hS.tr g334 (by decide) (by decide)
                                      have as333_5 := (zp_same hI ha0 g334 5 rfl (by decide) (by decide)).trans as326_5
                                      have as333_39 := (zp_same hI ha0 g334 39 rfl (by decide) (by decide)).trans as326_39
                                      have as333_40 := (zp_same hI ha0 g334 40 rfl (by decide) (by decide)).trans as326_40
                                      have as333_43 := zp_same hI ha0 g334 43 rfl (by decide) (by decide)
                                      have fs333_44 : (s333.1 a0 44).toInt = v332.toInt := by rw [es333]; exact congrArg _ (zu_s _ _ _ _)
                                      have e336 : v332 = s333.1 a0 44 := by rw [es333]; exact zm_s
                                      refine zg_aload_n X 2 rfl dX11_expression_265 ?_
                                      refine zg_cVv (As := []) (st := []) X ha0 rfl (by decide) rfl (t_X11_goesOn l d L kd κ _ hI a0 ha0   ) mk_X11_227 mc_X11_goesOn mz_X11 mi_X11_goesOn ml_X11_goesOn (na := 0) ⟨md_X11.1, md_X11.2, by decide +kernel⟩ rfl ⟨by decide, by decide⟩ (Nat.le_of_ble_eq_true rfl) dX11_expression_266 (fun t337 hq => ?_)
                                      obtain ⟨hF, ht337_fact0, hI, g338⟩ := hq
                                      replace E := zLet_s hF E
                                      have ft337_12 : (t337.1 a0 12).toInt = (s333.1 a0 12).toInt := by rw [g338.2.1 12 (by decide)]
                                      have ft337_38 : (t337.1 a0 38).toInt = (s333.1 a0 38).toInt := by rw [g338.2.1 38 (by decide)]
                                      have ft337_44 : (t337.1 a0 44).toInt = (s333.1 a0 44).toInt := by rw [g338.2.1 44 (by decide)]
                                      have hS := hS.tr g338 (by decide) (by decide)
                                      have at337_5 := (zp_same hI ha0 g338 5 rfl (by decide) (by decide)).trans as333_5
                                      have at337_39 := (zp_same hI ha0 g338 39 rfl (by decide) (by decide)).trans as333_39
                                      have at337_40 := (zp_same hI ha0 g338 40 rfl (by decide) (by decide)).trans as333_40
                                      have at337_43 := (zp_same hI ha0 g338 43 rfl (by decide) (by decide)).trans as333_43
                                      have zpu : zEs (zp a0 t337 43) (zp a0 t337 39) (zp a0 t337 40) (t337.1 a0 44).toInt (t337.1 a0 38).toInt (σ.1 a0 38).toInt 0 ∧ nO (zp a0 t337 43) (t337.1 a0 44).toInt.toNat = nO (zp a0 τ21 43) (τ21.1 a0 44).toInt.toNat := by
                                        rw [at337_39, at337_40, show (t337.1 a0 38).toInt = y38 by omega]
                                        have y := zEs.pushS (x := v325.toInt) (w' := zp a0 t337 43) (W' := (t337.1 a0 44).toInt) zc0 (fun j h0 => by rw [at337_43, ws326 j h0]; split <;> split <;> first | rfl | (exfalso; omega)) (by omega) (by omega) (by omega) (by omega)
                                        exact ⟨y.1, by omega⟩
                                      refine zg_goto X 12 dX11_expression_269 (by decide) ?_
                                      refine zg_sub [0, 1, 2] rfl ?_
                                      exact ihLp8 _ v286 hI hS at337_5 E  (by omega) (by omega) (fun _ => zpu.1) (fun j h0 h1 => by have y := hk j h0 (by omega); have x := zc2 j h0 (by omega); rw [at337_39, at337_40]; exact ⟨x.1.trans y.1, x.2.trans y.2⟩)
                                    · skip
                                      replace E := zIf_f c317 E
                                      have zts := ht315_fact0.un.resolve_right (fun z => absurd z.1 (by omega))
                                      refine zg_iconst X 1 dX11_expression_229 (by decide) (fun v340 _ hv340 => ?_)
                                      replace E := zLet_s (zcst hv340 (by decide)) E
                                      refine zg_goto X 234 dX11_expression_230 (by decide) ?_
                                      refine zg_cVv (As := [.int v340]) (st := []) X ha0 rfl (by decide) rfl (t_X11_comesOut l d L kd κ _ hI a0 ha0 v340 ((σ.1 a0 38).toInt) (by omega) (hx)) mk_X11_306 mc_X11_comesOut mz_X11 mi_X11_comesOut ml_X11_comesOut (na := 1) ⟨md_X11.1, md_X11.2, by decide +kernel⟩ rfl ⟨by decide, by decide⟩ (Nat.le_of_ble_eq_true rfl) dX11_expression_234 (fun t341 hq => ?_)
                                      obtain ⟨hF, ⟨ht341_fact0, ht341_fact1, ht341_fact2, ht341_fact3⟩, hI, g342⟩ := hq
                                      replace E := zLet_s hF E
                                      have ft341_11 : (t341.1 a0 11).toInt = (τ21.1 a0 11).toInt := by rw [g342.2.1 11 (by decide)]
                                      have ft341_12 : (t341.1 a0 12).toInt = (τ21.1 a0 12).toInt := by rw [g342.2.1 12 (by decide)]
                                      have ft341_13 : (t341.1 a0 13).toInt = (τ21.1 a0 13).toInt := by rw [g342.2.1 13 (by decide)]
                                      have hS := hS.tr g342 (by decide) (by decide)
                                      have at341_5 := (zp_same hI ha0 g342 5 rfl (by decide) (by decide)).trans A5_Lp21
                                      have at341_43 := zp_same hI ha0 g342 43 rfl (by decide) (by decide)
                                      have zc0 := ht341_fact0
                                      have zc1 := ht341_fact1
                                      have zc2 := ht341_fact2
                                      have zc3 := ht341_fact3
                                      clear ht341_fact3 ht341_fact2 ht341_fact1 ht341_fact0
                                      have zc4 := zc0.stop
                                      have zc7 := zc0.at
                                      obtain ⟨y38, hy38⟩ : ∃ x : Int, x = (t341.1 a0 38).toInt := ⟨_, rfl⟩
                                      obtain ⟨y44, hy44⟩ : ∃ x : Int, x = (t341.1 a0 44).toInt := ⟨_, rfl⟩
                                      have zc5 : y44 = 0 → nO (zp a0 τ21 43) y44.toNat = 0 := fun z => by rw [z]; rfl
                                      rw [← hy44] at zc0 zc1 zc3 zc4 zc7
                                      rw [← hy38] at zc0 zc1 zc7
                                      replace zc4 := zHide.mk zc4
                                      replace zc3 := zHide.mk zc3
                                      replace zc5 := zHide.mk zc5
                                      have zc8 := zc4.un.2.1 (zc3.un.imp id (fun z => ⟨z.1, z.2.imp id (fun y => y.2)⟩))
                                      have zc9 : v340.toInt = 0 → y44 ≤ 3 * nO (zp a0 τ21 43) y44.toNat := fun h0 => zc4.un.1 (zc3.un.imp id (fun z => ⟨z.1, z.2.resolve_right (fun y => absurd y.1 (by omega))⟩))
                                      refine zg_aload_n X 2 rfl dX11_expression_237 ?_
                                      refine fg_X11_98 X hI ha0 dX11_expression_238 (fun v343 ev343 hv343 => ?_)
                                      replace E := zLet_s (zgr ev343) E
                                      refine zg_aload_n X 2 rfl dX11_expression_241 ?_
                                      refine fg_X11_297 X hI ha0 dX11_expression_242 (fun v344 ev344 hv344 => ?_)
                                      replace E := zLet_s ev344 E
                                      have kv344 : (t341.1 a0 44).toInt = v344.toInt := by rw [ev344]
                                      refine zg_aload_n X 2 rfl dX11_expression_245 ?_
                                      refine fg_X11_20 X hI ha0 dX11_expression_246 (fun v345 ev345 hv345 => ?_)
                                      replace E := zLet_s (zgr ev345) E
                                      refine zg_aload_n X 2 rfl dX11_expression_249 ?_
                                      refine fg_X11_209 X hI ha0 dX11_expression_250 (fun v346 ev346 hv346 => ?_)
                                      replace E := zLet_s ev346 E
                                      have kv346 : (t341.1 a0 11).toInt = v346.toInt := by rw [ev346]
                                      refine ag_105 X hI hv345 (by omega) (by omega) dX11_expression_253 (fun v347 ev347 _ => ?_)
                                      replace E := zLet_s ev347 E
                                      have qv347 := zp_ld ev345 ev347
                                      rw [at341_5] at qv347
                                      rw [← kv346] at qv347
                                      rw [show (t341.1 a0 11).toInt = (τ21.1 a0 11).toInt by omega, ← zA5] at qv347
                                      refine as_143 X hI hv343 (by omega) (by omega) dX11_expression_254 (fun s348 es348 hI => ?_)
                                      replace E := zLet_s es348 E
                                      have g349 := (zSame.rf (o := a0) (Wf := []) (Wa := [143]) (L := L) (kd := kd) (σ := t341)).a ha0 hv343 es348 rfl (by decide)
                                      have rs348 := zp_st (σ := t341) (σ2 := s348) (i := v344) (x := v347) ev343 es348 (by omega)
                                      have ws348 := rs348
                                      rw [at341_43] at ws348
                                      rw [← kv344] at ws348
                                      have fs348_11 : (s348.1 a0 11).toInt = (t341.1 a0 11).toInt := by rw [g349.2.1 11 (by decide)]
                                      have fs348_12 : (s348.1 a0 12).toInt = (t341.1 a0 12).toInt := by rw [g349.2.1 12 (by decide)]
                                      have fs348_13 : (s348.1 a0 13).toInt = (t341.1 a0 13).toInt := by rw [g349.2.1 13 (by decide)]
                                      have fs348_38 : (s348.1 a0 38).toInt = (t341.1 a0 38).toInt := by rw [g349.2.1 38 (by decide)]
                                      have fs348_44 : (s348.1 a0 44).toInt = (t341.1 a0 44).toInt := by rw [g349.2.1 44 (by decide)]
                                      have hS := hS.tr g349 (by decide) (by decide)
                                      have as348_5 := (zp_same hI ha0 g349 5 rfl (by decide) (by decide)).trans at341_5
                                      have as348_39 := zp_same hI ha0 g349 39 rfl (by decide) (by decide)
                                      have as348_40 := zp_same hI ha0 g349 40 rfl (by decide) (by decide)
                                      have e350 := g349.v ev344 (by decide)
                                      refine zg_aload_n X 2 rfl dX11_expression_255 ?_
                                      refine zg_dup X dX11_expression_256 rfl ?_
                                      refine fg_X11_297 X hI ha0 dX11_expression_257 (fun v352 ev352 hv352 => ?_)
                                      replace E := zLet_s ev352 E
                                      have kv352 : (s348.1 a0 44).toInt = v352.toInt := by rw [ev352]
                                      have mv352 : v352.toInt = v344.toInt := by rw [ev352, ← e350]
                                      refine zg_iconst X 1 dX11_expression_260 (by decide) (fun v353 _ hv353 => ?_)
                                      replace E := zLet_s (zcst hv353 (by decide)) E
                                      refine zg_iadd X dX11_expression_261 (by omega) (by omega) (fun v354 ev354 hv354 => ?_)
                                      replace E := zLet_s ev354 E
                                      refine fp_X11_297 X hI ha0 ⟨by omega, by omega⟩ dX11_expression_262 (fun s355 es355 hI => ?_)
                                      replace E := zLet_s es355 E
                                      have g356 := (zSame.rf (o := a0) (Wf := [44]) (Wa := []) (L := L) (kd := kd) (σ := s348)).f ha0 es355 rfl
                                      have fs355_11 : (s355.1 a0 11).toInt = (s348.1 a0 11).toInt := by rw [g356.2.1 11 (by decide)]
                                      have fs355_12 : (s355.1 a0 12).toInt = (s348.1 a0 12).toInt := by rw [g356.2.1 12 (by decide)]
                                      have fs355_13 : (s355.1 a0 13).toInt = (s348.1 a0 13).toInt := by rw [g356.2.1 13 (by decide)]
                                      have fs355_38 : (s355.1 a0 38).toInt = (s348.1 a0 38).toInt := by rw [g356.2.1 38 (by decide)]
                                      have hS := hS.tr g356 (by decide) (by decide)
                                      have as355_5 := (zp_same hI ha0 g356 5 rfl (by decide) (by decide)).trans as348_5
                                      have as355_39 := (zp_same hI ha0 g356 39 rfl (by decide) (by decide)).trans as348_39
                                      have as355_40 := (zp_same hI ha0 g356 40 rfl (by decide) (by decide)).trans as348_40
                                      have as355_43 := zp_same hI ha0 g356 43 rfl (by decide) (by decide)
                                      have fs355_44 : (s355.1 a0 44).toInt = v354.toInt := by rw [es355]; exact congrArg _ (zu_s _ _ _ _)
                                      have e358 : v354 = s355.1 a0 44 := by rw [es355]; exact zm_s
                                      refine zg_aload_n X 2 rfl dX11_expression_265 ?_
                                      refine zg_cVv (As := []) (st := []) X ha0 rfl (by decide) rfl (t_X11_goesOn l d L kd κ _ hI a0 ha0   ) mk_X11_227 mc_X11_goesOn mz_X11 mi_X11_goesOn ml_X11_goesOn (na := 0) ⟨md_X11.1, md_X11.2, by decide +kernel⟩ rfl ⟨by decide, by decide⟩ (Nat.le_of_ble_eq_true rfl) dX11_expression_266 (fun t359 hq => ?_)
                                      obtain ⟨hF, ht359_fact0, hI, g360⟩ := hq
                                      replace E := zLet_s hF E
                                      have ft359_12 : (t359.1 a0 12).toInt = (s355.1 a0 12).toInt := by rw [g360.2.1 12 (by decide)]
                                      have ft359_38 : (t359.1 a0 38).toInt = (s355.1 a0 38).toInt := by rw [g360.2.1 38 (by decide)]
                                      have ft359_44 : (t359.1 a0 44).toInt = (s355.1 a0 44).toInt := by rw [g360.2.1 44 (by decide)]
                                      have hS := hS.tr g360 (by decide) (by decide)
                                      have at359_5 := (zp_same hI ha0 g360 5 rfl (by decide) (by decide)).trans as355_5
                                      have at359_39 := (zp_same hI ha0 g360 39 rfl (by decide) (by decide)).trans as355_39
                                      have at359_40 := (zp_same hI ha0 g360 40 rfl (by decide) (by decide)).trans as355_40
                                      have at359_43 := (zp_same hI ha0 g360 43 rfl (by decide) (by decide)).trans as355_43
                                      have zpu : zEs (zp a0 t359 43) (zp a0 t359 39) (zp a0 t359 40) (t359.1 a0 44).toInt (t359.1 a0 38).toInt (σ.1 a0 38).toInt 0 ∧ nO (zp a0 t359 43) (t359.1 a0 44).toInt.toNat = nO (zp a0 τ21 43) (τ21.1 a0 44).toInt.toNat := by
                                        rw [at359_39, at359_40, show (t359.1 a0 38).toInt = y38 by omega]
                                        have y := zEs.pushS (x := v347.toInt) (w' := zp a0 t359 43) (W' := (t359.1 a0 44).toInt) zc0 (fun j h0 => by rw [at359_43, ws348 j h0]; split <;> split <;> first | rfl | (exfalso; omega)) (by omega) (by omega) (by omega) (by omega)
                                        exact ⟨y.1, by omega⟩
                                      refine zg_goto X 12 dX11_expression_269 (by decide) ?_
                                      refine zg_sub [0, 1, 2] rfl ?_
                                      exact ihLp8 _ v286 hI hS at359_5 E  (by omega) (by omega) (fun _ => zpu.1) (fun j h0 h1 => by have y := hk j h0 (by omega); have x := zc2 j h0 (by omega); rw [at359_39, at359_40]; exact ⟨x.1.trans y.1, x.2.trans y.2⟩)
                                · omega
                      · skip
                        replace E := zIf_f c25 E
                        have zi := ht23_fact0.un.resolve_right (fun z => absurd z.1 (by omega))
                        refine zg_aload_n X 2 rfl dX11_expression_105 ?_
                        refine fg_X11_233 X hI ha0 dX11_expression_106 (fun v362 ev362 hv362 => ?_)
                        replace E := zLet_s ev362 E
                        have kv362 : (τ21.1 a0 12).toInt = v362.toInt := by rw [ev362]
                        refine zg_iload_n X 1 rfl dX11_expression_109 ?_
                        refine zg_icmp_le X 145 dX11_expression_110 (by decide) (fun c363 => ?_) (fun c363 => ?_)
                        · skip
                          replace E := zIf_f (Int.not_lt.mpr c363) E
                          have zA5 := A5_Lp21
                          refine zg_aload_n X 2 rfl dX11_expression_145 ?_
                          refine zg_bipush X 8 dX11_expression_146 (by decide) (fun v364 _ hv364 => ?_)
                          replace E := zLet_s (zcst hv364 (by decide)) E
                          refine zg_cVi (As := [.int v364]) (st := []) X ha0 rfl (by decide) rfl (t_X11_is l d L kd κ _ hI a0 ha0 v364  ) mk_X11_224 mc_X11_is mz_X11 mi_X11_is ml_X11_is (na := 1) ⟨md_X11.1, md_X11.2, by decide +kernel⟩ rfl ⟨by decide, by decide⟩ (Nat.le_of_ble_eq_true rfl) dX11_expression_148 (fun v366 t365 hq => ?_)
                          obtain ⟨⟨hF, ⟨ht365_res, ht365_fact0⟩⟩, rfl⟩ := hq
                          replace E := zLet_s hF E
                          replace ht365_fact0 := zHide.mk ht365_fact0
                          refine zg_if_ne X 181 dX11_expression_151 (by decide) (fun c367 => ?_) (fun c367 => ?_)
                          · skip
                            replace E := zIf_f c367 E
                            have ztk := ht365_fact0.un.resolve_right (fun z => absurd z.1 (by omega))
                            refine zg_iconst X 1 dX11_expression_181 (by decide) (fun v368 _ hv368 => ?_)
                            replace E := zLet_s (zcst hv368 (by decide)) E
                            refine zg_goto X 186 dX11_expression_182 (by decide) ?_
                            refine zg_istore_n X [(2, .int v368), (1, .int v5), (0, .ref a0)] dX11_expression_186 (by decide) rfl ?_
                            refine zg_iload_n X 0 rfl dX11_expression_187 ?_
                            refine zg_if_ne X 210 dX11_expression_188 (by decide) (fun c369 => ?_) (fun c369 => ?_)
                            · skip
                              replace E := zIf_f c369 E
                              refine zg_aload_n X 2 rfl dX11_expression_210 ?_
                              refine zg_aload_n X 2 rfl dX11_expression_211 ?_
                              refine zg_bipush X 10 dX11_expression_212 (by decide) (fun v370 _ hv370 => ?_)
                              replace E := zLet_s (zcst hv370 (by decide)) E
                              refine zg_cVi (As := [.int v370]) (st := [.ref a0]) X ha0 rfl (by decide) rfl (t_X11_is l d L kd κ _ hI a0 ha0 v370  ) mk_X11_224 mc_X11_is mz_X11 mi_X11_is ml_X11_is (na := 1) ⟨md_X11.1, md_X11.2, by decide +kernel⟩ rfl ⟨by decide, by decide⟩ (Nat.le_of_ble_eq_true rfl) dX11_expression_214 (fun v372 t371 hq => ?_)
                              obtain ⟨⟨hF, ⟨ht371_res, ht371_fact0⟩⟩, rfl⟩ := hq
                              replace E := zLet_s hF E
                              replace ht371_fact0 := zHide.mk ht371_fact0
                              refine zg_if_ne X 229 dX11_expression_217 (by decide) (fun c373 => ?_) (fun c373 => ?_)
                              · skip
                                replace E := zIf_f c373 E
                                have zts := ht371_fact0.un.resolve_right (fun z => absurd z.1 (by omega))
                                refine zg_iconst X 1 dX11_expression_229 (by decide) (fun v374 _ hv374 => ?_)
                                replace E := zLet_s (zcst hv374 (by decide)) E
                                refine zg_goto X 234 dX11_expression_230 (by decide) ?_
                                refine zg_cVv (As := [.int v374]) (st := []) X ha0 rfl (by decide) rfl (t_X11_comesOut l d L kd κ _ hI a0 ha0 v374 ((σ.1 a0 38).toInt) (by omega) (hx)) mk_X11_306 mc_X11_comesOut mz_X11 mi_X11_comesOut ml_X11_comesOut (na := 1) ⟨md_X11.1, md_X11.2, by decide +kernel⟩ rfl ⟨by decide, by decide⟩ (Nat.le_of_ble_eq_true rfl) dX11_expression_234 (fun t375 hq => ?_)
                                obtain ⟨hF, ⟨ht375_fact0, ht375_fact1, ht375_fact2, ht375_fact3⟩, hI, g376⟩ := hq
                                replace E := zLet_s hF E
                                have ft375_11 : (t375.1 a0 11).toInt = (τ21.1 a0 11).toInt := by rw [g376.2.1 11 (by decide)]
                                have ft375_12 : (t375.1 a0 12).toInt = (τ21.1 a0 12).toInt := by rw [g376.2.1 12 (by decide)]
                                have ft375_13 : (t375.1 a0 13).toInt = (τ21.1 a0 13).toInt := by rw [g376.2.1 13 (by decide)]
                                have hS := hS.tr g376 (by decide) (by decide)
                                have at375_5 := (zp_same hI ha0 g376 5 rfl (by decide) (by decide)).trans A5_Lp21
                                have at375_43 := zp_same hI ha0 g376 43 rfl (by decide) (by decide)
                                have zc0 := ht375_fact0
                                have zc1 := ht375_fact1
                                have zc2 := ht375_fact2
                                have zc3 := ht375_fact3
                                clear ht375_fact3 ht375_fact2 ht375_fact1 ht375_fact0
                                have zc4 := zc0.stop
                                have zc7 := zc0.at
                                obtain ⟨y38, hy38⟩ : ∃ x : Int, x = (t375.1 a0 38).toInt := ⟨_, rfl⟩
                                obtain ⟨y44, hy44⟩ : ∃ x : Int, x = (t375.1 a0 44).toInt := ⟨_, rfl⟩
                                have zc5 : y44 = 0 → nO (zp a0 τ21 43) y44.toNat = 0 := fun z => by rw [z]; rfl
                                rw [← hy44] at zc0 zc1 zc3 zc4 zc7
                                rw [← hy38] at zc0 zc1 zc7
                                replace zc4 := zHide.mk zc4
                                replace zc3 := zHide.mk zc3
                                replace zc5 := zHide.mk zc5
                                have zc8 := zc4.un.2.1 (zc3.un.imp id (fun z => ⟨z.1, z.2.imp id (fun y => y.2)⟩))
                                have zc9 : v374.toInt = 0 → y44 ≤ 3 * nO (zp a0 τ21 43) y44.toNat := fun h0 => zc4.un.1 (zc3.un.imp id (fun z => ⟨z.1, z.2.resolve_right (fun y => absurd y.1 (by omega))⟩))
                                refine zg_aload_n X 2 rfl dX11_expression_237 ?_
                                refine fg_X11_98 X hI ha0 dX11_expression_238 (fun v378 ev378 hv378 => ?_)
                                replace E := zLet_s (zgr ev378) E
                                refine zg_aload_n X 2 rfl dX11_expression_241 ?_
                                refine fg_X11_297 X hI ha0 dX11_expression_242 (fun v379 ev379 hv379 => ?_)
                                replace E := zLet_s ev379 E
                                have kv379 : (t375.1 a0 44).toInt = v379.toInt := by rw [ev379]
                                refine zg_aload_n X 2 rfl dX11_expression_245 ?_
                                refine fg_X11_20 X hI ha0 dX11_expression_246 (fun v380 ev380 hv380 => ?_)
                                replace E := zLet_s (zgr ev380) E
                                refine zg_aload_n X 2 rfl dX11_expression_249 ?_
                                refine fg_X11_209 X hI ha0 dX11_expression_250 (fun v381 ev381 hv381 => ?_)
                                replace E := zLet_s ev381 E
                                have kv381 : (t375.1 a0 11).toInt = v381.toInt := by rw [ev381]
                                refine ag_105 X hI hv380 (by omega) (by omega) dX11_expression_253 (fun v382 ev382 _ => ?_)
                                replace E := zLet_s ev382 E
                                have qv382 := zp_ld ev380 ev382
                                rw [at375_5] at qv382
                                rw [← kv381] at qv382
                                rw [show (t375.1 a0 11).toInt = (τ21.1 a0 11).toInt by omega, ← zA5] at qv382
                                refine as_143 X hI hv378 (by omega) (by omega) dX11_expression_254 (fun s383 es383 hI => ?_)
                                replace E := zLet_s es383 E
                                have g384 := (zSame.rf (o := a0) (Wf := []) (Wa := [143]) (L := L) (kd := kd) (σ := t375)).a ha0 hv378 es383 rfl (by decide)
                                have rs383 := zp_st (σ := t375) (σ2 := s383) (i := v379) (x := v382) ev378 es383 (by omega)
                                have ws383 := rs383
                                rw [at375_43] at ws383
                                rw [← kv379] at ws383
                                have fs383_11 : (s383.1 a0 11).toInt = (t375.1 a0 11).toInt := by rw [g384.2.1 11 (by decide)]
                                have fs383_12 : (s383.1 a0 12).toInt = (t375.1 a0 12).toInt := by rw [g384.2.1 12 (by decide)]
                                have fs383_13 : (s383.1 a0 13).toInt = (t375.1 a0 13).toInt := by rw [g384.2.1 13 (by decide)]
                                have fs383_38 : (s383.1 a0 38).toInt = (t375.1 a0 38).toInt := by rw [g384.2.1 38 (by decide)]
                                have fs383_44 : (s383.1 a0 44).toInt = (t375.1 a0 44).toInt := by rw [g384.2.1 44 (by decide)]
                                have hS := hS.tr g384 (by decide) (by decide)
                                have as383_5 := (zp_same hI ha0 g384 5 rfl (by decide) (by decide)).trans at375_5
                                have as383_39 := zp_same hI ha0 g384 39 rfl (by decide) (by decide)
                                have as383_40 := zp_same hI ha0 g384 40 rfl (by decide) (by decide)
                                have e386 := g384.v ev379 (by decide)
                                refine zg_aload_n X 2 rfl dX11_expression_255 ?_
                                refine zg_dup X dX11_expression_256 rfl ?_
                                refine fg_X11_297 X hI ha0 dX11_expression_257 (fun v388 ev388 hv388 => ?_)
                                replace E := zLet_s ev388 E
                                have kv388 : (s383.1 a0 44).toInt = v388.toInt := by rw [ev388]
                                have mv388 : v388.toInt = v379.toInt := by rw [ev388, ← e386]
                                refine zg_iconst X 1 dX11_expression_260 (by decide) (fun v389 _ hv389 => ?_)
                                replace E := zLet_s (zcst hv389 (by decide)) E
                                refine zg_iadd X dX11_expression_261 (by omega) (by omega) (fun v390 ev390 hv390 => ?_)
                                replace E := zLet_s ev390 E
                                refine fp_X11_297 X hI ha0 ⟨by omega, by omega⟩ dX11_expression_262 (fun s391 es391 hI => ?_)
                                replace E := zLet_s es391 E
                                have g392 := (zSame.rf (o := a0) (Wf := [44]) (Wa := []) (L := L) (kd := kd) (σ := s383)).f ha0 es391 rfl
                                have fs391_11 : (s391.1 a0 11).toInt = (s383.1 a0 11).toInt := by rw [g392.2.1 11 (by decide)]
                                have fs391_12 : (s391.1 a0 12).toInt = (s383.1 a0 12).toInt := by rw [g392.2.1 12 (by decide)]
                                have fs391_13 : (s391.1 a0 13).toInt = (s383.1 a0 13).toInt := by rw [g392.2.1 13 (by decide)]
                                have fs391_38 : (s391.1 a0 38).toInt = (s383.1 a0 38).toInt := by rw [g392.2.1 38 (by decide)]
                                have hS := hS.tr g392 (by decide) (by decide)
                                have as391_5 := (zp_same hI ha0 g392 5 rfl (by decide) (by decide)).trans as383_5
                                have as391_39 := (zp_same hI ha0 g392 39 rfl (by decide) (by decide)).trans as383_39
                                have as391_40 := (zp_same hI ha0 g392 40 rfl (by decide) (by decide)).trans as383_40
                                have as391_43 := zp_same hI ha0 g392 43 rfl (by decide) (by decide)
                                have fs391_44 : (s391.1 a0 44).toInt = v390.toInt := by rw [es391]; exact congrArg _ (zu_s _ _ _ _)
                                have e395 : v390 = s391.1 a0 44 := by rw [es391]; exact zm_s
                                refine zg_aload_n X 2 rfl dX11_expression_265 ?_
                                refine zg_cVv (As := []) (st := []) X ha0 rfl (by decide) rfl (t_X11_goesOn l d L kd κ _ hI a0 ha0   ) mk_X11_227 mc_X11_goesOn mz_X11 mi_X11_goesOn ml_X11_goesOn (na := 0) ⟨md_X11.1, md_X11.2, by decide +kernel⟩ rfl ⟨by decide, by decide⟩ (Nat.le_of_ble_eq_true rfl) dX11_expression_266 (fun t396 hq => ?_)
                                obtain ⟨hF, ht396_fact0, hI, g397⟩ := hq
                                replace E := zLet_s hF E
                                have ft396_12 : (t396.1 a0 12).toInt = (s391.1 a0 12).toInt := by rw [g397.2.1 12 (by decide)]
                                have ft396_38 : (t396.1 a0 38).toInt = (s391.1 a0 38).toInt := by rw [g397.2.1 38 (by decide)]
                                have ft396_44 : (t396.1 a0 44).toInt = (s391.1 a0 44).toInt := by rw [g397.2.1 44 (by decide)]
                                have hS := hS.tr g397 (by decide) (by decide)
                                have at396_5 := (zp_same hI ha0 g397 5 rfl (by decide) (by decide)).trans as391_5
                                have at396_39 := (zp_same hI ha0 g397 39 rfl (by decide) (by decide)).trans as391_39
                                have at396_40 := (zp_same hI ha0 g397 40 rfl (by decide) (by decide)).trans as391_40
                                have at396_43 := (zp_same hI ha0 g397 43 rfl (by decide) (by decide)).trans as391_43
                                have zpu : zEs (zp a0 t396 43) (zp a0 t396 39) (zp a0 t396 40) (t396.1 a0 44).toInt (t396.1 a0 38).toInt (σ.1 a0 38).toInt 0 ∧ nO (zp a0 t396 43) (t396.1 a0 44).toInt.toNat = nO (zp a0 τ21 43) (τ21.1 a0 44).toInt.toNat := by
                                  rw [at396_39, at396_40, show (t396.1 a0 38).toInt = y38 by omega]
                                  have y := zEs.pushS (x := v382.toInt) (w' := zp a0 t396 43) (W' := (t396.1 a0 44).toInt) zc0 (fun j h0 => by rw [at396_43, ws383 j h0]; split <;> split <;> first | rfl | (exfalso; omega)) (by omega) (by omega) (by omega) (by omega)
                                  exact ⟨y.1, by omega⟩
                                refine zg_goto X 12 dX11_expression_269 (by decide) ?_
                                refine zg_sub [0, 1, 2] rfl ?_
                                exact ihLp8 _ v368 hI hS at396_5 E  (by omega) (by omega) (fun _ => zpu.1) (fun j h0 h1 => by have y := hk j h0 (by omega); have x := zc2 j h0 (by omega); rw [at396_39, at396_40]; exact ⟨x.1.trans y.1, x.2.trans y.2⟩)
                              · skip
                                replace E := zIf_t c373 E
                                refine zg_aload_n X 2 rfl dX11_expression_220 ?_
                                refine zg_bipush X 15 dX11_expression_221 (by decide) (fun v400 _ hv400 => ?_)
                                replace E := zLet_s (zcst hv400 (by decide)) E
                                refine zg_cVi (As := [.int v400]) (st := [.ref a0]) X ha0 rfl (by decide) rfl (t_X11_is l d L kd κ _ hI a0 ha0 v400  ) mk_X11_224 mc_X11_is mz_X11 mi_X11_is ml_X11_is (na := 1) ⟨md_X11.1, md_X11.2, by decide +kernel⟩ rfl ⟨by decide, by decide⟩ (Nat.le_of_ble_eq_true rfl) dX11_expression_223 (fun v402 t401 hq => ?_)
                                obtain ⟨⟨hF, ⟨ht401_res, ht401_fact0⟩⟩, rfl⟩ := hq
                                replace E := zLet_s hF E
                                replace ht401_fact0 := zHide.mk ht401_fact0
                                refine zg_if_eq X 233 dX11_expression_226 (by decide) (fun c403 => ?_) (fun c403 => ?_)
                                · skip
                                  replace E := zIf_t c403 E
                                  have zn1 := ht401_fact0.un.resolve_left (fun z => absurd z.1 (by omega))
                                  have zn2 := ht371_fact0.un.resolve_left (fun z => absurd z.1 (by omega))
                                  refine zg_iconst X 0 dX11_expression_233 (by decide) (fun v404 _ hv404 => ?_)
                                  replace E := zLet_s (zcst hv404 (by decide)) E
                                  refine zg_cVv (As := [.int v404]) (st := []) X ha0 rfl (by decide) rfl (t_X11_comesOut l d L kd κ _ hI a0 ha0 v404 ((σ.1 a0 38).toInt) (by omega) (hx)) mk_X11_306 mc_X11_comesOut mz_X11 mi_X11_comesOut ml_X11_comesOut (na := 1) ⟨md_X11.1, md_X11.2, by decide +kernel⟩ rfl ⟨by decide, by decide⟩ (Nat.le_of_ble_eq_true rfl) dX11_expression_234 (fun t405 hq => ?_)
                                  obtain ⟨hF, ⟨ht405_fact0, ht405_fact1, ht405_fact2, ht405_fact3⟩, hI, g406⟩ := hq
                                  replace E := zLet_s hF E
                                  have ft405_11 : (t405.1 a0 11).toInt = (τ21.1 a0 11).toInt := by rw [g406.2.1 11 (by decide)]
                                  have ft405_12 : (t405.1 a0 12).toInt = (τ21.1 a0 12).toInt := by rw [g406.2.1 12 (by decide)]
                                  have ft405_13 : (t405.1 a0 13).toInt = (τ21.1 a0 13).toInt := by rw [g406.2.1 13 (by decide)]
                                  have hS := hS.tr g406 (by decide) (by decide)
                                  have at405_5 := (zp_same hI ha0 g406 5 rfl (by decide) (by decide)).trans A5_Lp21
                                  have at405_43 := zp_same hI ha0 g406 43 rfl (by decide) (by decide)
                                  have zc0 := ht405_fact0
                                  have zc1 := ht405_fact1
                                  have zc2 := ht405_fact2
                                  have zc3 := ht405_fact3
                                  clear ht405_fact3 ht405_fact2 ht405_fact1 ht405_fact0
                                  have zc4 := zc0.stop
                                  have zc7 := zc0.at
                                  obtain ⟨y38, hy38⟩ : ∃ x : Int, x = (t405.1 a0 38).toInt := ⟨_, rfl⟩
                                  obtain ⟨y44, hy44⟩ : ∃ x : Int, x = (t405.1 a0 44).toInt := ⟨_, rfl⟩
                                  have zc5 : y44 = 0 → nO (zp a0 τ21 43) y44.toNat = 0 := fun z => by rw [z]; rfl
                                  rw [← hy44] at zc0 zc1 zc3 zc4 zc7
                                  rw [← hy38] at zc0 zc1 zc7
                                  replace zc4 := zHide.mk zc4
                                  replace zc3 := zHide.mk zc3
                                  replace zc5 := zHide.mk zc5
                                  have zc8 := zc4.un.2.1 (zc3.un.imp id (fun z => ⟨z.1, z.2.imp id (fun y => y.2)⟩))
                                  have zc9 : v404.toInt = 0 → y44 ≤ 3 * nO (zp a0 τ21 43) y44.toNat := fun h0 => zc4.un.1 (zc3.un.imp id (fun z => ⟨z.1, z.2.resolve_right (fun y => absurd y.1 (by omega))⟩))
                                  refine zg_aload_n X 2 rfl dX11_expression_237 ?_
                                  refine fg_X11_98 X hI ha0 dX11_expression_238 (fun v408 ev408 hv408 => ?_)
                                  replace E := zLet_s (zgr ev408) E
                                  refine zg_aload_n X 2 rfl dX11_expression_241 ?_
                                  refine fg_X11_297 X hI ha0 dX11_expression_242 (fun v409 ev409 hv409 => ?_)
                                  replace E := zLet_s ev409 E
                                  have kv409 : (t405.1 a0 44).toInt = v409.toInt := by rw [ev409]
                                  refine zg_aload_n X 2 rfl dX11_expression_245 ?_
                                  refine fg_X11_20 X hI ha0 dX11_expression_246 (fun v410 ev410 hv410 => ?_)
                                  replace E := zLet_s (zgr ev410) E
                                  refine zg_aload_n X 2 rfl dX11_expression_249 ?_
                                  refine fg_X11_209 X hI ha0 dX11_expression_250 (fun v411 ev411 hv411 => ?_)
                                  replace E := zLet_s ev411 E
                                  have kv411 : (t405.1 a0 11).toInt = v411.toInt := by rw [ev411]
                                  refine ag_105 X hI hv410 (by omega) (by omega) dX11_expression_253 (fun v412 ev412 _ => ?_)
                                  replace E := zLet_s ev412 E
                                  have qv412 := zp_ld ev410 ev412
                                  rw [at405_5] at qv412
                                  rw [← kv411] at qv412
                                  rw [show (t405.1 a0 11).toInt = (τ21.1 a0 11).toInt by omega, ← zA5] at qv412
                                  refine as_143 X hI hv408 (by omega) (by omega) dX11_expression_254 (fun s413 es413 hI => ?_)
                                  replace E := zLet_s es413 E
                                  have g414 := (zSame.rf (o := a0) (Wf := []) (Wa := [143]) (L := L) (kd := kd) (σ := t405)).a ha0 hv408 es413 rfl (by decide)
                                  have rs413 := zp_st (σ := t405) (σ2 := s413) (i := v409) (x := v412) ev408 es413 (by omega)
                                  have ws413 := rs413
                                  rw [at405_43] at ws413
                                  rw [← kv409] at ws413
                                  have fs413_11 : (s413.1 a0 11).toInt = (t405.1 a0 11).toInt := by rw [g414.2.1 11 (by decide)]
                                  have fs413_12 : (s413.1 a0 12).toInt = (t405.1 a0 12).toInt := by rw [g414.2.1 12 (by decide)]
                                  have fs413_13 : (s413.1 a0 13).toInt = (t405.1 a0 13).toInt := by rw [g414.2.1 13 (by decide)]
                                  have fs413_38 : (s413.1 a0 38).toInt = (t405.1 a0 38).toInt := by rw [g414.2.1 38 (by decide)]
                                  have fs413_44 : (s413.1 a0 44).toInt = (t405.1 a0 44).toInt := by rw [g414.2.1 44 (by decide)]
                                  have hS := hS.tr g414 (by decide) (by decide)
                                  have as413_5 := (zp_same hI ha0 g414 5 rfl (by decide) (by decide)).trans at405_5
                                  have as413_39 := zp_same hI ha0 g414 39 rfl (by decide) (by decide)
                                  have as413_40 := zp_same hI ha0 g414 40 rfl (by decide) (by decide)
                                  have e416 := g414.v ev409 (by decide)
                                  refine zg_aload_n X 2 rfl dX11_expression_255 ?_
                                  refine zg_dup X dX11_expression_256 rfl ?_
                                  refine fg_X11_297 X hI ha0 dX11_expression_257 (fun v418 ev418 hv418 => ?_)
                                  replace E := zLet_s ev418 E
                                  have kv418 : (s413.1 a0 44).toInt = v418.toInt := by rw [ev418]
                                  have mv418 : v418.toInt = v409.toInt := by rw [ev418, ← e416]
                                  refine zg_iconst X 1 dX11_expression_260 (by decide) (fun v419 _ hv419 => ?_)
                                  replace E := zLet_s (zcst hv419 (by decide)) E
                                  refine zg_iadd X dX11_expression_261 (by omega) (by omega) (fun v420 ev420 hv420 => ?_)
                                  replace E := zLet_s ev420 E
                                  refine fp_X11_297 X hI ha0 ⟨by omega, by omega⟩ dX11_expression_262 (fun s421 es421 hI => ?_)
                                  replace E := zLet_s es421 E
                                  have g422 := (zSame.rf (o := a0) (Wf := [44]) (Wa := []) (L := L) (kd := kd) (σ := s413)).f ha0 es421 rfl
                                  have fs421_11 : (s421.1 a0 11).toInt = (s413.1 a0 11).toInt := by rw [g422.2.1 11 (by decide)]
                                  have fs421_12 : (s421.1 a0 12).toInt = (s413.1 a0 12).toInt := by rw [g422.2.1 12 (by decide)]
                                  have fs421_13 : (s421.1 a0 13).toInt = (s413.1 a0 13).toInt := by rw [g422.2.1 13 (by decide)]
                                  have fs421_38 : (s421.1 a0 38).toInt = (s413.1 a0 38).toInt := by rw [g422.2.1 38 (by decide)]
                                  have hS := hS.tr g422 (by decide) (by decide)
                                  have as421_5 := (zp_same hI ha0 g422 5 rfl (by decide) (by decide)).trans as413_5
                                  have as421_39 := (zp_same hI ha0 g422 39 rfl (by decide) (by decide)).trans as413_39
                                  have as421_40 := (zp_same hI ha0 g422 40 rfl (by decide) (by decide)).trans as413_40
                                  have as421_43 := zp_same hI ha0 g422 43 rfl (by decide) (by decide)
                                  have fs421_44 : (s421.1 a0 44).toInt = v420.toInt := by rw [es421]; exact congrArg _ (zu_s _ _ _ _)
                                  have e425 : v420 = s421.1 a0 44 := by rw [es421]; exact zm_s
                                  refine zg_aload_n X 2 rfl dX11_expression_265 ?_
                                  refine zg_cVv (As := []) (st := []) X ha0 rfl (by decide) rfl (t_X11_goesOn l d L kd κ _ hI a0 ha0   ) mk_X11_227 mc_X11_goesOn mz_X11 mi_X11_goesOn ml_X11_goesOn (na := 0) ⟨md_X11.1, md_X11.2, by decide +kernel⟩ rfl ⟨by decide, by decide⟩ (Nat.le_of_ble_eq_true rfl) dX11_expression_266 (fun t426 hq => ?_)
                                  obtain ⟨hF, ht426_fact0, hI, g427⟩ := hq
                                  replace E := zLet_s hF E
                                  have ft426_12 : (t426.1 a0 12).toInt = (s421.1 a0 12).toInt := by rw [g427.2.1 12 (by decide)]
                                  have ft426_38 : (t426.1 a0 38).toInt = (s421.1 a0 38).toInt := by rw [g427.2.1 38 (by decide)]
                                  have ft426_44 : (t426.1 a0 44).toInt = (s421.1 a0 44).toInt := by rw [g427.2.1 44 (by decide)]
                                  have hS := hS.tr g427 (by decide) (by decide)
                                  have at426_5 := (zp_same hI ha0 g427 5 rfl (by decide) (by decide)).trans as421_5
                                  have at426_39 := (zp_same hI ha0 g427 39 rfl (by decide) (by decide)).trans as421_39
                                  have at426_40 := (zp_same hI ha0 g427 40 rfl (by decide) (by decide)).trans as421_40
                                  have at426_43 := (zp_same hI ha0 g427 43 rfl (by decide) (by decide)).trans as421_43
                                  have zpu : zEs (zp a0 t426 43) (zp a0 t426 39) (zp a0 t426 40) (t426.1 a0 44).toInt (t426.1 a0 38).toInt (σ.1 a0 38).toInt 0 ∧ nO (zp a0 t426 43) (t426.1 a0 44).toInt.toNat = nO (zp a0 τ21 43) (τ21.1 a0 44).toInt.toNat := by
                                    rw [at426_39, at426_40, show (t426.1 a0 38).toInt = y38 by omega]
                                    have y := zEs.pushS (x := v412.toInt) (w' := zp a0 t426 43) (W' := (t426.1 a0 44).toInt) zc0 (fun j h0 => by rw [at426_43, ws413 j h0]; split <;> split <;> first | rfl | (exfalso; omega)) (by omega) (by omega) (by omega) (by omega)
                                    exact ⟨y.1, by omega⟩
                                  refine zg_goto X 12 dX11_expression_269 (by decide) ?_
                                  refine zg_sub [0, 1, 2] rfl ?_
                                  exact ihLp8 _ v368 hI hS at426_5 E  (by omega) (by omega) (fun _ => zpu.1) (fun j h0 h1 => by have y := hk j h0 (by omega); have x := zc2 j h0 (by omega); rw [at426_39, at426_40]; exact ⟨x.1.trans y.1, x.2.trans y.2⟩)
                                · skip
                                  replace E := zIf_f c403 E
                                  have zts := ht401_fact0.un.resolve_right (fun z => absurd z.1 (by omega))
                                  refine zg_iconst X 1 dX11_expression_229 (by decide) (fun v430 _ hv430 => ?_)
                                  replace E := zLet_s (zcst hv430 (by decide)) E
                                  refine zg_goto X 234 dX11_expression_230 (by decide) ?_
                                  refine zg_cVv (As := [.int v430]) (st := []) X ha0 rfl (by decide) rfl (t_X11_comesOut l d L kd κ _ hI a0 ha0 v430 ((σ.1 a0 38).toInt) (by omega) (hx)) mk_X11_306 mc_X11_comesOut mz_X11 mi_X11_comesOut ml_X11_comesOut (na := 1) ⟨md_X11.1, md_X11.2, by decide +kernel⟩ rfl ⟨by decide, by decide⟩ (Nat.le_of_ble_eq_true rfl) dX11_expression_234 (fun t431 hq => ?_)
                                  obtain ⟨hF, ⟨ht431_fact0, ht431_fact1, ht431_fact2, ht431_fact3⟩, hI, g432⟩ := hq
                                  replace E := zLet_s hF E
                                  have ft431_11 : (t431.1 a0 11).toInt = (τ21.1 a0 11).toInt := by rw [g432.2.1 11 (by decide)]
                                  have ft431_12 : (t431.1 a0 12).toInt = (τ21.1 a0 12).toInt := by rw [g432.2.1 12 (by decide)]
                                  have ft431_13 : (t431.1 a0 13).toInt = (τ21.1 a0 13).toInt := by rw [g432.2.1 13 (by decide)]
                                  have hS := hS.tr g432 (by decide) (by decide)
                                  have at431_5 := (zp_same hI ha0 g432 5 rfl (by decide) (by decide)).trans A5_Lp21
                                  have at431_43 := zp_same hI ha0 g432 43 rfl (by decide) (by decide)
                                  have zc0 := ht431_fact0
                                  have zc1 := ht431_fact1
                                  have zc2 := ht431_fact2
                                  have zc3 := ht431_fact3
                                  clear ht431_fact3 ht431_fact2 ht431_fact1 ht431_fact0
                                  have zc4 := zc0.stop
                                  have zc7 := zc0.at
                                  obtain ⟨y38, hy38⟩ : ∃ x : Int, x = (t431.1 a0 38).toInt := ⟨_, rfl⟩
                                  obtain ⟨y44, hy44⟩ : ∃ x : Int, x = (t431.1 a0 44).toInt := ⟨_, rfl⟩
                                  have zc5 : y44 = 0 → nO (zp a0 τ21 43) y44.toNat = 0 := fun z => by rw [z]; rfl
                                  rw [← hy44] at zc0 zc1 zc3 zc4 zc7
                                  rw [← hy38] at zc0 zc1 zc7
                                  replace zc4 := zHide.mk zc4
                                  replace zc3 := zHide.mk zc3
                                  replace zc5 := zHide.mk zc5
                                  have zc8 := zc4.un.2.1 (zc3.un.imp id (fun z => ⟨z.1, z.2.imp id (fun y => y.2)⟩))
                                  have zc9 : v430.toInt = 0 → y44 ≤ 3 * nO (zp a0 τ21 43) y44.toNat := fun h0 => zc4.un.1 (zc3.un.imp id (fun z => ⟨z.1, z.2.resolve_right (fun y => absurd y.1 (by omega))⟩))
                                  refine zg_aload_n X 2 rfl dX11_expression_237 ?_
                                  refine fg_X11_98 X hI ha0 dX11_expression_238 (fun v434 ev434 hv434 => ?_)
                                  replace E := zLet_s (zgr ev434) E
                                  refine zg_aload_n X 2 rfl dX11_expression_241 ?_
                                  refine fg_X11_297 X hI ha0 dX11_expression_242 (fun v435 ev435 hv435 => ?_)
                                  replace E := zLet_s ev435 E
                                  have kv435 : (t431.1 a0 44).toInt = v435.toInt := by rw [ev435]
                                  refine zg_aload_n X 2 rfl dX11_expression_245 ?_
                                  refine fg_X11_20 X hI ha0 dX11_expression_246 (fun v436 ev436 hv436 => ?_)
                                  replace E := zLet_s (zgr ev436) E
                                  refine zg_aload_n X 2 rfl dX11_expression_249 ?_
                                  refine fg_X11_209 X hI ha0 dX11_expression_250 (fun v437 ev437 hv437 => ?_)
                                  replace E := zLet_s ev437 E
                                  have kv437 : (t431.1 a0 11).toInt = v437.toInt := by rw [ev437]
                                  refine ag_105 X hI hv436 (by omega) (by omega) dX11_expression_253 (fun v438 ev438 _ => ?_)
                                  replace E := zLet_s ev438 E
                                  have qv438 := zp_ld ev436 ev438
                                  rw [at431_5] at qv438
                                  rw [← kv437] at qv438
                                  rw [show (t431.1 a0 11).toInt = (τ21.1 a0 11).toInt by omega, ← zA5] at qv438
                                  refine as_143 X hI hv434 (by omega) (by omega) dX11_expression_254 (fun s439 es439 hI => ?_)
                                  replace E := zLet_s es439 E
                                  have g440 := (zSame.rf (o := a0) (Wf := []) (Wa := [143]) (L := L) (kd := kd) (σ := t431)).a ha0 hv434 es439 rfl (by decide)
                                  have rs439 := zp_st (σ := t431) (σ2 := s439) (i := v435) (x := v438) ev434 es439 (by omega)
                                  have ws439 := rs439
                                  rw [at431_43] at ws439
                                  rw [← kv435] at ws439
                                  have fs439_11 : (s439.1 a0 11).toInt = (t431.1 a0 11).toInt := by rw [g440.2.1 11 (by decide)]
                                  have fs439_12 : (s439.1 a0 12).toInt = (t431.1 a0 12).toInt := by rw [g440.2.1 12 (by decide)]
                                  have fs439_13 : (s439.1 a0 13).toInt = (t431.1 a0 13).toInt := by rw [g440.2.1 13 (by decide)]
                                  have fs439_38 : (s439.1 a0 38).toInt = (t431.1 a0 38).toInt := by rw [g440.2.1 38 (by decide)]
                                  have fs439_44 : (s439.1 a0 44).toInt = (t431.1 a0 44).toInt := by rw [g440.2.1 44 (by decide)]
                                  have hS := hS.tr g440 (by decide) (by decide)
                                  have as439_5 := (zp_same hI ha0 g440 5 rfl (by decide) (by decide)).trans at431_5
                                  have as439_39 := zp_same hI ha0 g440 39 rfl (by decide) (by decide)
                                  have as439_40 := zp_same hI ha0 g440 40 rfl (by decide) (by decide)
                                  have e442 := g440.v ev435 (by decide)
                                  refine zg_aload_n X 2 rfl dX11_expression_255 ?_
                                  refine zg_dup X dX11_expression_256 rfl ?_
                                  refine fg_X11_297 X hI ha0 dX11_expression_257 (fun v444 ev444 hv444 => ?_)
                                  replace E := zLet_s ev444 E
                                  have kv444 : (s439.1 a0 44).toInt = v444.toInt := by rw [ev444]
                                  have mv444 : v444.toInt = v435.toInt := by rw [ev444, ← e442]
                                  refine zg_iconst X 1 dX11_expression_260 (by decide) (fun v445 _ hv445 => ?_)
                                  replace E := zLet_s (zcst hv445 (by decide)) E
                                  refine zg_iadd X dX11_expression_261 (by omega) (by omega) (fun v446 ev446 hv446 => ?_)
                                  replace E := zLet_s ev446 E
                                  refine fp_X11_297 X hI ha0 ⟨by omega, by omega⟩ dX11_expression_262 (fun s447 es447 hI => ?_)
                                  replace E := zLet_s es447 E
                                  have g448 := (zSame.rf (o := a0) (Wf := [44]) (Wa := []) (L := L) (kd := kd) (σ := s439)).f ha0 es447 rfl
                                  have fs447_11 : (s447.1 a0 11).toInt = (s439.1 a0 11).toInt := by rw [g448.2.1 11 (by decide)]
                                  have fs447_12 : (s447.1 a0 12).toInt = (s439.1 a0 12).toInt := by rw [g448.2.1 12 (by decide)]
                                  have fs447_13 : (s447.1 a0 13).toInt = (s439.1 a0 13).toInt := by rw [g448.2.1 13 (by decide)]
                                  have fs447_38 : (s447.1 a0 38).toInt = (s439.1 a0 38).toInt := by rw [g448.2.1 38 (by decide)]
                                  have hS := hS.tr g448 (by decide) (by decide)
                                  have as447_5 := (zp_same hI ha0 g448 5 rfl (by decide) (by decide)).trans as439_5
                                  have as447_39 := (zp_same hI ha0 g448 39 rfl (by decide) (by decide)).trans as439_39
                                  have as447_40 := (zp_same hI ha0 g448 40 rfl (by decide) (by decide)).trans as439_40
                                  have as447_43 := zp_same hI ha0 g448 43 rfl (by decide) (by decide)
                                  have fs447_44 : (s447.1 a0 44).toInt = v446.toInt := by rw [es447]; exact congrArg _ (zu_s _ _ _ _)
                                  have e451 : v446 = s447.1 a0 44 := by rw [es447]; exact zm_s
                                  refine zg_aload_n X 2 rfl dX11_expression_265 ?_
                                  refine zg_cVv (As := []) (st := []) X ha0 rfl (by decide) rfl (t_X11_goesOn l d L kd κ _ hI a0 ha0   ) mk_X11_227 mc_X11_goesOn mz_X11 mi_X11_goesOn ml_X11_goesOn (na := 0) ⟨md_X11.1, md_X11.2, by decide +kernel⟩ rfl ⟨by decide, by decide⟩ (Nat.le_of_ble_eq_true rfl) dX11_expression_266 (fun t452 hq => ?_)
                                  obtain ⟨hF, ht452_fact0, hI, g453⟩ := hq
                                  replace E := zLet_s hF E
                                  have ft452_12 : (t452.1 a0 12).toInt = (s447.1 a0 12).toInt := by rw [g453.2.1 12 (by decide)]
                                  have ft452_38 : (t452.1 a0 38).toInt = (s447.1 a0 38).toInt := by rw [g453.2.1 38 (by decide)]
                                  have ft452_44 : (t452.1 a0 44).toInt = (s447.1 a0 44).toInt := by rw [g453.2.1 44 (by decide)]
                                  have hS := hS.tr g453 (by decide) (by decide)
                                  have at452_5 := (zp_same hI ha0 g453 5 rfl (by decide) (by decide)).trans as447_5
                                  have at452_39 := (zp_same hI ha0 g453 39 rfl (by decide) (by decide)).trans as447_39
                                  have at452_40 := (zp_same hI ha0 g453 40 rfl (by decide) (by decide)).trans as447_40
                                  have at452_43 := (zp_same hI ha0 g453 43 rfl (by decide) (by decide)).trans as447_43
                                  have zpu : zEs (zp a0 t452 43) (zp a0 t452 39) (zp a0 t452 40) (t452.1 a0 44).toInt (t452.1 a0 38).toInt (σ.1 a0 38).toInt 0 ∧ nO (zp a0 t452 43) (t452.1 a0 44).toInt.toNat = nO (zp a0 τ21 43) (τ21.1 a0 44).toInt.toNat := by
                                    rw [at452_39, at452_40, show (t452.1 a0 38).toInt = y38 by omega]
                                    have y := zEs.pushS (x := v438.toInt) (w' := zp a0 t452 43) (W' := (t452.1 a0 44).toInt) zc0 (fun j h0 => by rw [at452_43, ws439 j h0]; split <;> split <;> first | rfl | (exfalso; omega)) (by omega) (by omega) (by omega) (by omega)
                                    exact ⟨y.1, by omega⟩
                                  refine zg_goto X 12 dX11_expression_269 (by decide) ?_
                                  refine zg_sub [0, 1, 2] rfl ?_
                                  exact ihLp8 _ v368 hI hS at452_5 E  (by omega) (by omega) (fun _ => zpu.1) (fun j h0 h1 => by have y := hk j h0 (by omega); have x := zc2 j h0 (by omega); rw [at452_39, at452_40]; exact ⟨x.1.trans y.1, x.2.trans y.2⟩)
                            · omega
                          · skip
                            replace E := zIf_t c367 E
                            refine zg_aload_n X 2 rfl dX11_expression_154 ?_
                            refine zg_bipush X 9 dX11_expression_155 (by decide) (fun v456 _ hv456 => ?_)
                            replace E := zLet_s (zcst hv456 (by decide)) E
                            refine zg_cVi (As := [.int v456]) (st := []) X ha0 rfl (by decide) rfl (t_X11_is l d L kd κ _ hI a0 ha0 v456  ) mk_X11_224 mc_X11_is mz_X11 mi_X11_is ml_X11_is (na := 1) ⟨md_X11.1, md_X11.2, by decide +kernel⟩ rfl ⟨by decide, by decide⟩ (Nat.le_of_ble_eq_true rfl) dX11_expression_157 (fun v458 t457 hq => ?_)
                            obtain ⟨⟨hF, ⟨ht457_res, ht457_fact0⟩⟩, rfl⟩ := hq
                            replace E := zLet_s hF E
                            replace ht457_fact0 := zHide.mk ht457_fact0
                            refine zg_if_ne X 181 dX11_expression_160 (by decide) (fun c459 => ?_) (fun c459 => ?_)
                            · skip
                              replace E := zIf_f c459 E
                              have ztk := ht457_fact0.un.resolve_right (fun z => absurd z.1 (by omega))
                              refine zg_iconst X 1 dX11_expression_181 (by decide) (fun v460 _ hv460 => ?_)
                              replace E := zLet_s (zcst hv460 (by decide)) E
                              refine zg_goto X 186 dX11_expression_182 (by decide) ?_
                              refine zg_istore_n X [(2, .int v460), (1, .int v5), (0, .ref a0)] dX11_expression_186 (by decide) rfl ?_
                              refine zg_iload_n X 0 rfl dX11_expression_187 ?_
                              refine zg_if_ne X 210 dX11_expression_188 (by decide) (fun c461 => ?_) (fun c461 => ?_)
                              · skip
                                replace E := zIf_f c461 E
                                refine zg_aload_n X 2 rfl dX11_expression_210 ?_
                                refine zg_aload_n X 2 rfl dX11_expression_211 ?_
                                refine zg_bipush X 10 dX11_expression_212 (by decide) (fun v462 _ hv462 => ?_)
                                replace E := zLet_s (zcst hv462 (by decide)) E
                                refine zg_cVi (As := [.int v462]) (st := [.ref a0]) X ha0 rfl (by decide) rfl (t_X11_is l d L kd κ _ hI a0 ha0 v462  ) mk_X11_224 mc_X11_is mz_X11 mi_X11_is ml_X11_is (na := 1) ⟨md_X11.1, md_X11.2, by decide +kernel⟩ rfl ⟨by decide, by decide⟩ (Nat.le_of_ble_eq_true rfl) dX11_expression_214 (fun v464 t463 hq => ?_)
                                obtain ⟨⟨hF, ⟨ht463_res, ht463_fact0⟩⟩, rfl⟩ := hq
                                replace E := zLet_s hF E
                                replace ht463_fact0 := zHide.mk ht463_fact0
                                refine zg_if_ne X 229 dX11_expression_217 (by decide) (fun c465 => ?_) (fun c465 => ?_)
                                · skip
                                  replace E := zIf_f c465 E
                                  have zts := ht463_fact0.un.resolve_right (fun z => absurd z.1 (by omega))
                                  refine zg_iconst X 1 dX11_expression_229 (by decide) (fun v466 _ hv466 => ?_)
                                  replace E := zLet_s (zcst hv466 (by decide)) E
                                  refine zg_goto X 234 dX11_expression_230 (by decide) ?_
                                  refine zg_cVv (As := [.int v466]) (st := []) X ha0 rfl (by decide) rfl (t_X11_comesOut l d L kd κ _ hI a0 ha0 v466 ((σ.1 a0 38).toInt) (by omega) (hx)) mk_X11_306 mc_X11_comesOut mz_X11 mi_X11_comesOut ml_X11_comesOut (na := 1) ⟨md_X11.1, md_X11.2, by decide +kernel⟩ rfl ⟨by decide, by decide⟩ (Nat.le_of_ble_eq_true rfl) dX11_expression_234 (fun t467 hq => ?_)
                                  obtain ⟨hF, ⟨ht467_fact0, ht467_fact1, ht467_fact2, ht467_fact3⟩, hI, g468⟩ := hq
                                  replace E := zLet_s hF E
                                  have ft467_11 : (t467.1 a0 11).toInt = (τ21.1 a0 11).toInt := by rw [g468.2.1 11 (by decide)]
                                  have ft467_12 : (t467.1 a0 12).toInt = (τ21.1 a0 12).toInt := by rw [g468.2.1 12 (by decide)]
                                  have ft467_13 : (t467.1 a0 13).toInt = (τ21.1 a0 13).toInt := by rw [g468.2.1 13 (by decide)]
                                  have hS := hS.tr g468 (by decide) (by decide)
                                  have at467_5 := (zp_same hI ha0 g468 5 rfl (by decide) (by decide)).trans A5_Lp21
                                  have at467_43 := zp_same hI ha0 g468 43 rfl (by decide) (by decide)
                                  have zc0 := ht467_fact0
                                  have zc1 := ht467_fact1
                                  have zc2 := ht467_fact2
                                  have zc3 := ht467_fact3
                                  clear ht467_fact3 ht467_fact2 ht467_fact1 ht467_fact0
                                  have zc4 := zc0.stop
                                  have zc7 := zc0.at
                                  obtain ⟨y38, hy38⟩ : ∃ x : Int, x = (t467.1 a0 38).toInt := ⟨_, rfl⟩
                                  obtain ⟨y44, hy44⟩ : ∃ x : Int, x = (t467.1 a0 44).toInt := ⟨_, rfl⟩
                                  have zc5 : y44 = 0 → nO (zp a0 τ21 43) y44.toNat = 0 := fun z => by rw [z]; rfl
                                  rw [← hy44] at zc0 zc1 zc3 zc4 zc7
                                  rw [← hy38] at zc0 zc1 zc7
                                  replace zc4 := zHide.mk zc4
                                  replace zc3 := zHide.mk zc3
                                  replace zc5 := zHide.mk zc5
                                  have zc8 := zc4.un.2.1 (zc3.un.imp id (fun z => ⟨z.1, z.2.imp id (fun y => y.2)⟩))
                                  have zc9 : v466.toInt = 0 → y44 ≤ 3 * nO (zp a0 τ21 43) y44.toNat := fun h0 => zc4.un.1 (zc3.un.imp id (fun z => ⟨z.1, z.2.resolve_right (fun y => absurd y.1 (by omega))⟩))
                                  refine zg_aload_n X 2 rfl dX11_expression_237 ?_
                                  refine fg_X11_98 X hI ha0 dX11_expression_238 (fun v470 ev470 hv470 => ?_)
                                  replace E := zLet_s (zgr ev470) E
                                  refine zg_aload_n X 2 rfl dX11_expression_241 ?_
                                  refine fg_X11_297 X hI ha0 dX11_expression_242 (fun v471 ev471 hv471 => ?_)
                                  replace E := zLet_s ev471 E
                                  have kv471 : (t467.1 a0 44).toInt = v471.toInt := by rw [ev471]
                                  refine zg_aload_n X 2 rfl dX11_expression_245 ?_
                                  refine fg_X11_20 X hI ha0 dX11_expression_246 (fun v472 ev472 hv472 => ?_)
                                  replace E := zLet_s (zgr ev472) E
                                  refine zg_aload_n X 2 rfl dX11_expression_249 ?_
                                  refine fg_X11_209 X hI ha0 dX11_expression_250 (fun v473 ev473 hv473 => ?_)
                                  replace E := zLet_s ev473 E
                                  have kv473 : (t467.1 a0 11).toInt = v473.toInt := by rw [ev473]
                                  refine ag_105 X hI hv472 (by omega) (by omega) dX11_expression_253 (fun v474 ev474 _ => ?_)
                                  replace E := zLet_s ev474 E
                                  have qv474 := zp_ld ev472 ev474
                                  rw [at467_5] at qv474
                                  rw [← kv473] at qv474
                                  rw [show (t467.1 a0 11).toInt = (τ21.1 a0 11).toInt by omega, ← zA5] at qv474
                                  refine as_143 X hI hv470 (by omega) (by omega) dX11_expression_254 (fun s475 es475 hI => ?_)
                                  replace E := zLet_s es475 E
                                  have g476 := (zSame.rf (o := a0) (Wf := []) (Wa := [143]) (L := L) (kd := kd) (σ := t467)).a ha0 hv470 es475 rfl (by decide)
                                  have rs475 := zp_st (σ := t467) (σ2 := s475) (i := v471) (x := v474) ev470 es475 (by omega)
                                  have ws475 := rs475
                                  rw [at467_43] at ws475
                                  rw [← kv471] at ws475
                                  have fs475_11 : (s475.1 a0 11).toInt = (t467.1 a0 11).toInt := by rw [g476.2.1 11 (by decide)]
                                  have fs475_12 : (s475.1 a0 12).toInt = (t467.1 a0 12).toInt := by rw [g476.2.1 12 (by decide)]
                                  have fs475_13 : (s475.1 a0 13).toInt = (t467.1 a0 13).toInt := by rw [g476.2.1 13 (by decide)]
                                  have fs475_38 : (s475.1 a0 38).toInt = (t467.1 a0 38).toInt := by rw [g476.2.1 38 (by decide)]
                                  have fs475_44 : (s475.1 a0 44).toInt = (t467.1 a0 44).toInt := by rw [g476.2.1 44 (by decide)]
                                  have hS := hS.tr g476 (by decide) (by decide)
                                  have as475_5 := (zp_same hI ha0 g476 5 rfl (by decide) (by decide)).trans at467_5
                                  have as475_39 := zp_same hI ha0 g476 39 rfl (by decide) (by decide)
                                  have as475_40 := zp_same hI ha0 g476 40 rfl (by decide) (by decide)
                                  have e478 := g476.v ev471 (by decide)
                                  refine zg_aload_n X 2 rfl dX11_expression_255 ?_
                                  refine zg_dup X dX11_expression_256 rfl ?_
                                  refine fg_X11_297 X hI ha0 dX11_expression_257 (fun v480 ev480 hv480 => ?_)
                                  replace E := zLet_s ev480 E
                                  have kv480 : (s475.1 a0 44).toInt = v480.toInt := by rw [ev480]
                                  have mv480 : v480.toInt = v471.toInt := by rw [ev480, ← e478]
                                  refine zg_iconst X 1 dX11_expression_260 (by decide) (fun v481 _ hv481 => ?_)
                                  replace E := zLet_s (zcst hv481 (by decide)) E
                                  refine zg_iadd X dX11_expression_261 (by omega) (by omega) (fun v482 ev482 hv482 => ?_)
                                  replace E := zLet_s ev482 E
                                  refine fp_X11_297 X hI ha0 ⟨by omega, by omega⟩ dX11_expression_262 (fun s483 es483 hI => ?_)
                                  replace E := zLet_s es483 E
                                  have g484 := (zSame.rf (o := a0) (Wf := [44]) (Wa := []) (L := L) (kd := kd) (σ := s475)).f ha0 es483 rfl
                                  have fs483_11 : (s483.1 a0 11).toInt = (s475.1 a0 11).toInt := by rw [g484.2.1 11 (by decide)]
                                  have fs483_12 : (s483.1 a0 12).toInt = (s475.1 a0 12).toInt := by rw [g484.2.1 12 (by decide)]
                                  have fs483_13 : (s483.1 a0 13).toInt = (s475.1 a0 13).toInt := by rw [g484.2.1 13 (by decide)]
                                  have fs483_38 : (s483.1 a0 38).toInt = (s475.1 a0 38).toInt := by rw [g484.2.1 38 (by decide)]
                                  have hS := hS.tr g484 (by decide) (by decide)
                                  have as483_5 := (zp_same hI ha0 g484 5 rfl (by decide) (by decide)).trans as475_5
                                  have as483_39 := (zp_same hI ha0 g484 39 rfl (by decide) (by decide)).trans as475_39
                                  have as483_40 := (zp_same hI ha0 g484 40 rfl (by decide) (by decide)).trans as475_40
                                  have as483_43 := zp_same hI ha0 g484 43 rfl (by decide) (by decide)
                                  have fs483_44 : (s483.1 a0 44).toInt = v482.toInt := by rw [es483]; exact congrArg _ (zu_s _ _ _ _)
                                  have e487 : v482 = s483.1 a0 44 := by rw [es483]; exact zm_s
                                  refine zg_aload_n X 2 rfl dX11_expression_265 ?_
                                  refine zg_cVv (As := []) (st := []) X ha0 rfl (by decide) rfl (t_X11_goesOn l d L kd κ _ hI a0 ha0   ) mk_X11_227 mc_X11_goesOn mz_X11 mi_X11_goesOn ml_X11_goesOn (na := 0) ⟨md_X11.1, md_X11.2, by decide +kernel⟩ rfl ⟨by decide, by decide⟩ (Nat.le_of_ble_eq_true rfl) dX11_expression_266 (fun t488 hq => ?_)
                                  obtain ⟨hF, ht488_fact0, hI, g489⟩ := hq
                                  replace E := zLet_s hF E
                                  have ft488_12 : (t488.1 a0 12).toInt = (s483.1 a0 12).toInt := by rw [g489.2.1 12 (by decide)]
                                  have ft488_38 : (t488.1 a0 38).toInt = (s483.1 a0 38).toInt := by rw [g489.2.1 38 (by decide)]
                                  have ft488_44 : (t488.1 a0 44).toInt = (s483.1 a0 44).toInt := by rw [g489.2.1 44 (by decide)]
                                  have hS := hS.tr g489 (by decide) (by decide)
                                  have at488_5 := (zp_same hI ha0 g489 5 rfl (by decide) (by decide)).trans as483_5
                                  have at488_39 := (zp_same hI ha0 g489 39 rfl (by decide) (by decide)).trans as483_39
                                  have at488_40 := (zp_same hI ha0 g489 40 rfl (by decide) (by decide)).trans as483_40
                                  have at488_43 := (zp_same hI ha0 g489 43 rfl (by decide) (by decide)).trans as483_43
                                  have zpu : zEs (zp a0 t488 43) (zp a0 t488 39) (zp a0 t488 40) (t488.1 a0 44).toInt (t488.1 a0 38).toInt (σ.1 a0 38).toInt 0 ∧ nO (zp a0 t488 43) (t488.1 a0 44).toInt.toNat = nO (zp a0 τ21 43) (τ21.1 a0 44).toInt.toNat := by
                                    rw [at488_39, at488_40, show (t488.1 a0 38).toInt = y38 by omega]
                                    have y := zEs.pushS (x := v474.toInt) (w' := zp a0 t488 43) (W' := (t488.1 a0 44).toInt) zc0 (fun j h0 => by rw [at488_43, ws475 j h0]; split <;> split <;> first | rfl | (exfalso; omega)) (by omega) (by omega) (by omega) (by omega)
                                    exact ⟨y.1, by omega⟩
                                  refine zg_goto X 12 dX11_expression_269 (by decide) ?_
                                  refine zg_sub [0, 1, 2] rfl ?_
                                  exact ihLp8 _ v460 hI hS at488_5 E  (by omega) (by omega) (fun _ => zpu.1) (fun j h0 h1 => by have y := hk j h0 (by omega); have x := zc2 j h0 (by omega); rw [at488_39, at488_40]; exact ⟨x.1.trans y.1, x.2.trans y.2⟩)
                                · skip
                                  replace E := zIf_t c465 E
                                  refine zg_aload_n X 2 rfl dX11_expression_220 ?_
                                  refine zg_bipush X 15 dX11_expression_221 (by decide) (fun v492 _ hv492 => ?_)
                                  replace E := zLet_s (zcst hv492 (by decide)) E
                                  refine zg_cVi (As := [.int v492]) (st := [.ref a0]) X ha0 rfl (by decide) rfl (t_X11_is l d L kd κ _ hI a0 ha0 v492  ) mk_X11_224 mc_X11_is mz_X11 mi_X11_is ml_X11_is (na := 1) ⟨md_X11.1, md_X11.2, by decide +kernel⟩ rfl ⟨by decide, by decide⟩ (Nat.le_of_ble_eq_true rfl) dX11_expression_223 (fun v494 t493 hq => ?_)
                                  obtain ⟨⟨hF, ⟨ht493_res, ht493_fact0⟩⟩, rfl⟩ := hq
                                  replace E := zLet_s hF E
                                  replace ht493_fact0 := zHide.mk ht493_fact0
                                  refine zg_if_eq X 233 dX11_expression_226 (by decide) (fun c495 => ?_) (fun c495 => ?_)
                                  · skip
                                    replace E := zIf_t c495 E
                                    have zn1 := ht493_fact0.un.resolve_left (fun z => absurd z.1 (by omega))
                                    have zn2 := ht463_fact0.un.resolve_left (fun z => absurd z.1 (by omega))
                                    refine zg_iconst X 0 dX11_expression_233 (by decide) (fun v496 _ hv496 => ?_)
                                    replace E := zLet_s (zcst hv496 (by decide)) E
                                    refine zg_cVv (As := [.int v496]) (st := []) X ha0 rfl (by decide) rfl (t_X11_comesOut l d L kd κ _ hI a0 ha0 v496 ((σ.1 a0 38).toInt) (by omega) (hx)) mk_X11_306 mc_X11_comesOut mz_X11 mi_X11_comesOut ml_X11_comesOut (na := 1) ⟨md_X11.1, md_X11.2, by decide +kernel⟩ rfl ⟨by decide, by decide⟩ (Nat.le_of_ble_eq_true rfl) dX11_expression_234 (fun t497 hq => ?_)
                                    obtain ⟨hF, ⟨ht497_fact0, ht497_fact1, ht497_fact2, ht497_fact3⟩, hI, g498⟩ := hq
                                    replace E := zLet_s hF E
                                    have ft497_11 : (t497.1 a0 11).toInt = (τ21.1 a0 11).toInt := by rw [g498.2.1 11 (by decide)]
                                    have ft497_12 : (t497.1 a0 12).toInt = (τ21.1 a0 12).toInt := by rw [g498.2.1 12 (by decide)]
                                    have ft497_13 : (t497.1 a0 13).toInt = (τ21.1 a0 13).toInt := by rw [g498.2.1 13 (by decide)]
                                    have hS := hS.tr g498 (by decide) (by decide)
                                    have at497_5 := (zp_same hI ha0 g498 5 rfl (by decide) (by decide)).trans A5_Lp21
                                    have at497_43 := zp_same hI ha0 g498 43 rfl (by decide) (by decide)
                                    have zc0 := ht497_fact0
                                    have zc1 := ht497_fact1
                                    have zc2 := ht497_fact2
                                    have zc3 := ht497_fact3
                                    clear ht497_fact3 ht497_fact2 ht497_fact1 ht497_fact0
                                    have zc4 := zc0.stop
                                    have zc7 := zc0.at
                                    obtain ⟨y38, hy38⟩ : ∃ x : Int, x = (t497.1 a0 38).toInt := ⟨_, rfl⟩
                                    obtain ⟨y44, hy44⟩ : ∃ x : Int, x = (t497.1 a0 44).toInt := ⟨_, rfl⟩
                                    have zc5 : y44 = 0 → nO (zp a0 τ21 43) y44.toNat = 0 := fun z => by rw [z]; rfl
                                    rw [← hy44] at zc0 zc1 zc3 zc4 zc7
                                    rw [← hy38] at zc0 zc1 zc7
                                    replace zc4 := zHide.mk zc4
                                    replace zc3 := zHide.mk zc3
                                    replace zc5 := zHide.mk zc5
                                    have zc8 := zc4.un.2.1 (zc3.un.imp id (fun z => ⟨z.1, z.2.imp id (fun y => y.2)⟩))
                                    have zc9 : v496.toInt = 0 → y44 ≤ 3 * nO (zp a0 τ21 43) y44.toNat := fun h0 => zc4.un.1 (zc3.un.imp id (fun z => ⟨z.1, z.2.resolve_right (fun y => absurd y.1 (by omega))⟩))
                                    refine zg_aload_n X 2 rfl dX11_expression_237 ?_
                                    refine fg_X11_98 X hI ha0 dX11_expression_238 (fun v500 ev500 hv500 => ?_)
                                    replace E := zLet_s (zgr ev500) E
                                    refine zg_aload_n X 2 rfl dX11_expression_241 ?_
                                    refine fg_X11_297 X hI ha0 dX11_expression_242 (fun v501 ev501 hv501 => ?_)
                                    replace E := zLet_s ev501 E
                                    have kv501 : (t497.1 a0 44).toInt = v501.toInt := by rw [ev501]
                                    refine zg_aload_n X 2 rfl dX11_expression_245 ?_
                                    refine fg_X11_20 X hI ha0 dX11_expression_246 (fun v502 ev502 hv502 => ?_)
                                    replace E := zLet_s (zgr ev502) E
                                    refine zg_aload_n X 2 rfl dX11_expression_249 ?_
                                    refine fg_X11_209 X hI ha0 dX11_expression_250 (fun v503 ev503 hv503 => ?_)
                                    replace E := zLet_s ev503 E
                                    have kv503 : (t497.1 a0 11).toInt = v503.toInt := by rw [ev503]
                                    refine ag_105 X hI hv502 (by omega) (by omega) dX11_expression_253 (fun v504 ev504 _ => ?_)
                                    replace E := zLet_s ev504 E
                                    have qv504 := zp_ld ev502 ev504
                                    rw [at497_5] at qv504
                                    rw [← kv503] at qv504
                                    rw [show (t497.1 a0 11).toInt = (τ21.1 a0 11).toInt by omega, ← zA5] at qv504
                                    refine as_143 X hI hv500 (by omega) (by omega) dX11_expression_254 (fun s505 es505 hI => ?_)
                                    replace E := zLet_s es505 E
                                    have g506 := (zSame.rf (o := a0) (Wf := []) (Wa := [143]) (L := L) (kd := kd) (σ := t497)).a ha0 hv500 es505 rfl (by decide)
                                    have rs505 := zp_st (σ := t497) (σ2 := s505) (i := v501) (x := v504) ev500 es505 (by omega)
                                    have ws505 := rs505
                                    rw [at497_43] at ws505
                                    rw [← kv501] at ws505
                                    have fs505_11 : (s505.1 a0 11).toInt = (t497.1 a0 11).toInt := by rw [g506.2.1 11 (by decide)]
                                    have fs505_12 : (s505.1 a0 12).toInt = (t497.1 a0 12).toInt := by rw [g506.2.1 12 (by decide)]
                                    have fs505_13 : (s505.1 a0 13).toInt = (t497.1 a0 13).toInt := by rw [g506.2.1 13 (by decide)]
                                    have fs505_38 : (s505.1 a0 38).toInt = (t497.1 a0 38).toInt := by rw [g506.2.1 38 (by decide)]
                                    have fs505_44 : (s505.1 a0 44).toInt = (t497.1 a0 44).toInt := by rw [g506.2.1 44 (by decide)]
                                    have hS := hS.tr g506 (by decide) (by decide)
                                    have as505_5 := (zp_same hI ha0 g506 5 rfl (by decide) (by decide)).trans at497_5
                                    have as505_39 := zp_same hI ha0 g506 39 rfl (by decide) (by decide)
                                    have as505_40 := zp_same hI ha0 g506 40 rfl (by decide) (by decide)
                                    have e508 := g506.v ev501 (by decide)
                                    refine zg_aload_n X 2 rfl dX11_expression_255 ?_
                                    refine zg_dup X dX11_expression_256 rfl ?_
                                    refine fg_X11_297 X hI ha0 dX11_expression_257 (fun v510 ev510 hv510 => ?_)
                                    replace E := zLet_s ev510 E
                                    have kv510 : (s505.1 a0 44).toInt = v510.toInt := by rw [ev510]
                                    have mv510 : v510.toInt = v501.toInt := by rw [ev510, ← e508]
                                    refine zg_iconst X 1 dX11_expression_260 (by decide) (fun v511 _ hv511 => ?_)
                                    replace E := zLet_s (zcst hv511 (by decide)) E
                                    refine zg_iadd X dX11_expression_261 (by omega) (by omega) (fun v512 ev512 hv512 => ?_)
                                    replace E := zLet_s ev512 E
                                    refine fp_X11_297 X hI ha0 ⟨by omega, by omega⟩ dX11_expression_262 (fun s513 es513 hI => ?_)
                                    replace E := zLet_s es513 E
                                    have g514 := (zSame.rf (o := a0) (Wf := [44]) (Wa := []) (L := L) (kd := kd) (σ := s505)).f ha0 es513 rfl
                                    have fs513_11 : (s513.1 a0 11).toInt = (s505.1 a0 11).toInt := by rw [g514.2.1 11 (by decide)]
                                    have fs513_12 : (s513.1 a0 12).toInt = (s505.1 a0 12).toInt := by rw [g514.2.1 12 (by decide)]
                                    have fs513_13 : (s513.1 a0 13).toInt = (s505.1 a0 13).toInt := by rw [g514.2.1 13 (by decide)]
                                    have fs513_38 : (s513.1 a0 38).toInt = (s505.1 a0 38).toInt := by rw [g514.2.1 38 (by decide)]
                                    have hS := hS.tr g514 (by decide) (by decide)
                                    have as513_5 := (zp_same hI ha0 g514 5 rfl (by decide) (by decide)).trans as505_5
                                    have as513_39 := (zp_same hI ha0 g514 39 rfl (by decide) (by decide)).trans as505_39
                                    have as513_40 := (zp_same hI ha0 g514 40 rfl (by decide) (by decide)).trans as505_40
                                    have as513_43 := zp_same hI ha0 g514 43 rfl (by decide) (by decide)
                                    have fs513_44 : (s513.1 a0 44).toInt = v512.toInt := by rw [es513]; exact congrArg _ (zu_s _ _ _ _)
                                    have e517 : v512 = s513.1 a0 44 := by rw [es513]; exact zm_s
                                    refine zg_aload_n X 2 rfl dX11_expression_265 ?_
                                    refine zg_cVv (As := []) (st := []) X ha0 rfl (by decide) rfl (t_X11_goesOn l d L kd κ _ hI a0 ha0   ) mk_X11_227 mc_X11_goesOn mz_X11 mi_X11_goesOn ml_X11_goesOn (na := 0) ⟨md_X11.1, md_X11.2, by decide +kernel⟩ rfl ⟨by decide, by decide⟩ (Nat.le_of_ble_eq_true rfl) dX11_expression_266 (fun t518 hq => ?_)
                                    obtain ⟨hF, ht518_fact0, hI, g519⟩ := hq
                                    replace E := zLet_s hF E
                                    have ft518_12 : (t518.1 a0 12).toInt = (s513.1 a0 12).toInt := by rw [g519.2.1 12 (by decide)]
                                    have ft518_38 : (t518.1 a0 38).toInt = (s513.1 a0 38).toInt := by rw [g519.2.1 38 (by decide)]
                                    have ft518_44 : (t518.1 a0 44).toInt = (s513.1 a0 44).toInt := by rw [g519.2.1 44 (by decide)]
                                    have hS := hS.tr g519 (by decide) (by decide)
                                    have at518_5 := (zp_same hI ha0 g519 5 rfl (by decide) (by decide)).trans as513_5
                                    have at518_39 := (zp_same hI ha0 g519 39 rfl (by decide) (by decide)).trans as513_39
                                    have at518_40 := (zp_same hI ha0 g519 40 rfl (by decide) (by decide)).trans as513_40
                                    have at518_43 := (zp_same hI ha0 g519 43 rfl (by decide) (by decide)).trans as513_43
                                    have zpu : zEs (zp a0 t518 43) (zp a0 t518 39) (zp a0 t518 40) (t518.1 a0 44).toInt (t518.1 a0 38).toInt (σ.1 a0 38).toInt 0 ∧ nO (zp a0 t518 43) (t518.1 a0 44).toInt.toNat = nO (zp a0 τ21 43) (τ21.1 a0 44).toInt.toNat := by
                                      rw [at518_39, at518_40, show (t518.1 a0 38).toInt = y38 by omega]
                                      have y := zEs.pushS (x := v504.toInt) (w' := zp a0 t518 43) (W' := (t518.1 a0 44).toInt) zc0 (fun j h0 => by rw [at518_43, ws505 j h0]; split <;> split <;> first | rfl | (exfalso; omega)) (by omega) (by omega) (by omega) (by omega)
                                      exact ⟨y.1, by omega⟩
                                    refine zg_goto X 12 dX11_expression_269 (by decide) ?_
                                    refine zg_sub [0, 1, 2] rfl ?_
                                    exact ihLp8 _ v460 hI hS at518_5 E  (by omega) (by omega) (fun _ => zpu.1) (fun j h0 h1 => by have y := hk j h0 (by omega); have x := zc2 j h0 (by omega); rw [at518_39, at518_40]; exact ⟨x.1.trans y.1, x.2.trans y.2⟩)
                                  · skip
                                    replace E := zIf_f c495 E
                                    have zts := ht493_fact0.un.resolve_right (fun z => absurd z.1 (by omega))
                                    refine zg_iconst X 1 dX11_expression_229 (by decide) (fun v522 _ hv522 => ?_)
                                    replace E := zLet_s (zcst hv522 (by decide)) E
                                    refine zg_goto X 234 dX11_expression_230 (by decide) ?_
                                    refine zg_cVv (As := [.int v522]) (st := []) X ha0 rfl (by decide) rfl (t_X11_comesOut l d L kd κ _ hI a0 ha0 v522 ((σ.1 a0 38).toInt) (by omega) (hx)) mk_X11_306 mc_X11_comesOut mz_X11 mi_X11_comesOut ml_X11_comesOut (na := 1) ⟨md_X11.1, md_X11.2, by decide +kernel⟩ rfl ⟨by decide, by decide⟩ (Nat.le_of_ble_eq_true rfl) dX11_expression_234 (fun t523 hq => ?_)
                                    obtain ⟨hF, ⟨ht523_fact0, ht523_fact1, ht523_fact2, ht523_fact3⟩, hI, g524⟩ := hq
                                    replace E := zLet_s hF E
                                    have ft523_11 : (t523.1 a0 11).toInt = (τ21.1 a0 11).toInt := by rw [g524.2.1 11 (by decide)]
                                    have ft523_12 : (t523.1 a0 12).toInt = (τ21.1 a0 12).toInt := by rw [g524.2.1 12 (by decide)]
                                    have ft523_13 : (t523.1 a0 13).toInt = (τ21.1 a0 13).toInt := by rw [g524.2.1 13 (by decide)]
                                    have hS := hS.tr g524 (by decide) (by decide)
                                    have at523_5 := (zp_same hI ha0 g524 5 rfl (by decide) (by decide)).trans A5_Lp21
                                    have at523_43 := zp_same hI ha0 g524 43 rfl (by decide) (by decide)
                                    have zc0 := ht523_fact0
                                    have zc1 := ht523_fact1
                                    have zc2 := ht523_fact2
                                    have zc3 := ht523_fact3
                                    clear ht523_fact3 ht523_fact2 ht523_fact1 ht523_fact0
                                    have zc4 := zc0.stop
                                    have zc7 := zc0.at
                                    obtain ⟨y38, hy38⟩ : ∃ x : Int, x = (t523.1 a0 38).toInt := ⟨_, rfl⟩
                                    obtain ⟨y44, hy44⟩ : ∃ x : Int, x = (t523.1 a0 44).toInt := ⟨_, rfl⟩
                                    have zc5 : y44 = 0 → nO (zp a0 τ21 43) y44.toNat = 0 := fun z => by rw [z]; rfl
                                    rw [← hy44] at zc0 zc1 zc3 zc4 zc7
                                    rw [← hy38] at zc0 zc1 zc7
                                    replace zc4 := zHide.mk zc4
                                    replace zc3 := zHide.mk zc3
                                    replace zc5 := zHide.mk zc5
                                    have zc8 := zc4.un.2.1 (zc3.un.imp id (fun z => ⟨z.1, z.2.imp id (fun y => y.2)⟩))
                                    have zc9 : v522.toInt = 0 → y44 ≤ 3 * nO (zp a0 τ21 43) y44.toNat := fun h0 => zc4.un.1 (zc3.un.imp id (fun z => ⟨z.1, z.2.resolve_right (fun y => absurd y.1 (by omega))⟩))
                                    refine zg_aload_n X 2 rfl dX11_expression_237 ?_
                                    refine fg_X11_98 X hI ha0 dX11_expression_238 (fun v526 ev526 hv526 => ?_)
                                    replace E := zLet_s (zgr ev526) E
                                    refine zg_aload_n X 2 rfl dX11_expression_241 ?_
                                    refine fg_X11_297 X hI ha0 dX11_expression_242 (fun v527 ev527 hv527 => ?_)
                                    replace E := zLet_s ev527 E
                                    have kv527 : (t523.1 a0 44).toInt = v527.toInt := by rw [ev527]
                                    refine zg_aload_n X 2 rfl dX11_expression_245 ?_
                                    refine fg_X11_20 X hI ha0 dX11_expression_246 (fun v528 ev528 hv528 => ?_)
                                    replace E := zLet_s (zgr ev528) E
                                    refine zg_aload_n X 2 rfl dX11_expression_249 ?_
                                    refine fg_X11_209 X hI ha0 dX11_expression_250 (fun v529 ev529 hv529 => ?_)
                                    replace E := zLet_s ev529 E
                                    have kv529 : (t523.1 a0 11).toInt = v529.toInt := by rw [ev529]
                                    refine ag_105 X hI hv528 (by omega) (by omega) dX11_expression_253 (fun v530 ev530 _ => ?_)
                                    replace E := zLet_s ev530 E
                                    have qv530 := zp_ld ev528 ev530
                                    rw [at523_5] at qv530
                                    rw [← kv529] at qv530
                                    rw [show (t523.1 a0 11).toInt = (τ21.1 a0 11).toInt by omega, ← zA5] at qv530
                                    refine as_143 X hI hv526 (by omega) (by omega) dX11_expression_254 (fun s531 es531 hI => ?_)
                                    replace E := zLet_s es531 E
                                    have g532 := (zSame.rf (o := a0) (Wf := []) (Wa := [143]) (L := L) (kd := kd) (σ := t523)).a ha0 hv526 es531 rfl (by decide)
                                    have rs531 := zp_st (σ := t523) (σ2 := s531) (i := v527) (x := v530) ev526 es531 (by omega)
                                    have ws531 := rs531
                                    rw [at523_43] at ws531
                                    rw [← kv527] at ws531
                                    have fs531_11 : (s531.1 a0 11).toInt = (t523.1 a0 11).toInt := by rw [g532.2.1 11 (by decide)]
                                    have fs531_12 : (s531.1 a0 12).toInt = (t523.1 a0 12).toInt := by rw [g532.2.1 12 (by decide)]
                                    have fs531_13 : (s531.1 a0 13).toInt = (t523.1 a0 13).toInt := by rw [g532.2.1 13 (by decide)]
                                    have fs531_38 : (s531.1 a0 38).toInt = (t523.1 a0 38).toInt := by rw [g532.2.1 38 (by decide)]
                                    have fs531_44 : (s531.1 a0 44).toInt = (t523.1 a0 44).toInt := by rw [g532.2.1 44 (by decide)]
                                    have hS := hS.tr g532 (by decide) (by decide)
                                    have as531_5 := (zp_same hI ha0 g532 5 rfl (by decide) (by decide)).trans at523_5
                                    have as531_39 := zp_same hI ha0 g532 39 rfl (by decide) (by decide)
                                    have as531_40 := zp_same hI ha0 g532 40 rfl (by decide) (by decide)
                                    have e534 := g532.v ev527 (by decide)
                                    refine zg_aload_n X 2 rfl dX11_expression_255 ?_
                                    refine zg_dup X dX11_expression_256 rfl ?_
                                    refine fg_X11_297 X hI ha0 dX11_expression_257 (fun v536 ev536 hv536 => ?_)
                                    replace E := zLet_s ev536 E
                                    have kv536 : (s531.1 a0 44).toInt = v536.toInt := by rw [ev536]
                                    have mv536 : v536.toInt = v527.toInt := by rw [ev536, ← e534]
                                    refine zg_iconst X 1 dX11_expression_260 (by decide) (fun v537 _ hv537 => ?_)
                                    replace E := zLet_s (zcst hv537 (by decide)) E
                                    refine zg_iadd X dX11_expression_261 (by omega) (by omega) (fun v538 ev538 hv538 => ?_)
                                    replace E := zLet_s ev538 E
                                    refine fp_X11_297 X hI ha0 ⟨by omega, by omega⟩ dX11_expression_262 (fun s539 es539 hI => ?_)
                                    replace E := zLet_s es539 E
                                    have g540 := (zSame.rf (o := a0) (Wf := [44]) (Wa := []) (L := L) (kd := kd) (σ := s531)).f ha0 es539 rfl
                                    have fs539_11 : (s539.1 a0 11).toInt = (s531.1 a0 11).toInt := by rw [g540.2.1 11 (by decide)]
                                    have fs539_12 : (s539.1 a0 12).toInt = (s531.1 a0 12).toInt := by rw [g540.2.1 12 (by decide)]
                                    have fs539_13 : (s539.1 a0 13).toInt = (s531.1 a0 13).toInt := by rw [g540.2.1 13 (by decide)]
                                    have fs539_38 : (s539.1 a0 38).toInt = (s531.1 a0 38).toInt := by rw [g540.2.1 38 (by decide)]
                                    have hS := hS.tr g540 (by decide) (by decide)
                                    have as539_5 := (zp_same hI ha0 g540 5 rfl (by decide) (by decide)).trans as531_5
                                    have as539_39 := (zp_same hI ha0 g540 39 rfl (by decide) (by decide)).trans as531_39
                                    have as539_40 := (zp_same hI ha0 g540 40 rfl (by decide) (by decide)).trans as531_40
                                    have as539_43 := zp_same hI ha0 g540 43 rfl (by decide) (by decide)
                                    have fs539_44 : (s539.1 a0 44).toInt = v538.toInt := by rw [es539]; exact congrArg _ (zu_s _ _ _ _)
                                    have e543 : v538 = s539.1 a0 44 := by rw [es539]; exact zm_s
                                    refine zg_aload_n X 2 rfl dX11_expression_265 ?_
                                    refine zg_cVv (As := []) (st := []) X ha0 rfl (by decide) rfl (t_X11_goesOn l d L kd κ _ hI a0 ha0   ) mk_X11_227 mc_X11_goesOn mz_X11 mi_X11_goesOn ml_X11_goesOn (na := 0) ⟨md_X11.1, md_X11.2, by decide +kernel⟩ rfl ⟨by decide, by decide⟩ (Nat.le_of_ble_eq_true rfl) dX11_expression_266 (fun t544 hq => ?_)
                                    obtain ⟨hF, ht544_fact0, hI, g545⟩ := hq
                                    replace E := zLet_s hF E
                                    have ft544_12 : (t544.1 a0 12).toInt = (s539.1 a0 12).toInt := by rw [g545.2.1 12 (by decide)]
                                    have ft544_38 : (t544.1 a0 38).toInt = (s539.1 a0 38).toInt := by rw [g545.2.1 38 (by decide)]
                                    have ft544_44 : (t544.1 a0 44).toInt = (s539.1 a0 44).toInt := by rw [g545.2.1 44 (by decide)]
                                    have hS := hS.tr g545 (by decide) (by decide)
                                    have at544_5 := (zp_same hI ha0 g545 5 rfl (by decide) (by decide)).trans as539_5
                                    have at544_39 := (zp_same hI ha0 g545 39 rfl (by decide) (by decide)).trans as539_39
                                    have at544_40 := (zp_same hI ha0 g545 40 rfl (by decide) (by decide)).trans as539_40
                                    have at544_43 := (zp_same hI ha0 g545 43 rfl (by decide) (by decide)).trans as539_43
                                    have zpu : zEs (zp a0 t544 43) (zp a0 t544 39) (zp a0 t544 40) (t544.1 a0 44).toInt (t544.1 a0 38).toInt (σ.1 a0 38).toInt 0 ∧ nO (zp a0 t544 43) (t544.1 a0 44).toInt.toNat = nO (zp a0 τ21 43) (τ21.1 a0 44).toInt.toNat := by
                                      rw [at544_39, at544_40, show (t544.1 a0 38).toInt = y38 by omega]
                                      have y := zEs.pushS (x := v530.toInt) (w' := zp a0 t544 43) (W' := (t544.1 a0 44).toInt) zc0 (fun j h0 => by rw [at544_43, ws531 j h0]; split <;> split <;> first | rfl | (exfalso; omega)) (by omega) (by omega) (by omega) (by omega)
                                      exact ⟨y.1, by omega⟩
                                    refine zg_goto X 12 dX11_expression_269 (by decide) ?_
                                    refine zg_sub [0, 1, 2] rfl ?_
                                    exact ihLp8 _ v460 hI hS at544_5 E  (by omega) (by omega) (fun _ => zpu.1) (fun j h0 h1 => by have y := hk j h0 (by omega); have x := zc2 j h0 (by omega); rw [at544_39, at544_40]; exact ⟨x.1.trans y.1, x.2.trans y.2⟩)
                              · omega
                            · skip
                              replace E := zIf_t c459 E
                              refine zg_aload_n X 2 rfl dX11_expression_163 ?_
                              refine zg_bipush X 10 dX11_expression_164 (by decide) (fun v548 _ hv548 => ?_)
                              replace E := zLet_s (zcst hv548 (by decide)) E
                              refine zg_cVi (As := [.int v548]) (st := []) X ha0 rfl (by decide) rfl (t_X11_is l d L kd κ _ hI a0 ha0 v548  ) mk_X11_224 mc_X11_is mz_X11 mi_X11_is ml_X11_is (na := 1) ⟨md_X11.1, md_X11.2, by decide +kernel⟩ rfl ⟨by decide, by decide⟩ (Nat.le_of_ble_eq_true rfl) dX11_expression_166 (fun v550 t549 hq => ?_)
                              obtain ⟨⟨hF, ⟨ht549_res, ht549_fact0⟩⟩, rfl⟩ := hq
                              replace E := zLet_s hF E
                              replace ht549_fact0 := zHide.mk ht549_fact0
                              refine zg_if_ne X 181 dX11_expression_169 (by decide) (fun c551 => ?_) (fun c551 => ?_)
                              · skip
                                replace E := zIf_f c551 E
                                have ztk := ht549_fact0.un.resolve_right (fun z => absurd z.1 (by omega))
                                refine zg_iconst X 1 dX11_expression_181 (by decide) (fun v552 _ hv552 => ?_)
                                replace E := zLet_s (zcst hv552 (by decide)) E
                                refine zg_goto X 186 dX11_expression_182 (by decide) ?_
                                refine zg_istore_n X [(2, .int v552), (1, .int v5), (0, .ref a0)] dX11_expression_186 (by decide) rfl ?_
                                refine zg_iload_n X 0 rfl dX11_expression_187 ?_
                                refine zg_if_ne X 210 dX11_expression_188 (by decide) (fun c553 => ?_) (fun c553 => ?_)
                                · skip
                                  replace E := zIf_f c553 E
                                  refine zg_aload_n X 2 rfl dX11_expression_210 ?_
                                  refine zg_aload_n X 2 rfl dX11_expression_211 ?_
                                  refine zg_bipush X 10 dX11_expression_212 (by decide) (fun v554 _ hv554 => ?_)
                                  replace E := zLet_s (zcst hv554 (by decide)) E
                                  refine zg_cVi (As := [.int v554]) (st := [.ref a0]) X ha0 rfl (by decide) rfl (t_X11_is l d L kd κ _ hI a0 ha0 v554  ) mk_X11_224 mc_X11_is mz_X11 mi_X11_is ml_X11_is (na := 1) ⟨md_X11.1, md_X11.2, by decide +kernel⟩ rfl ⟨by decide, by decide⟩ (Nat.le_of_ble_eq_true rfl) dX11_expression_214 (fun v556 t555 hq => ?_)
                                  obtain ⟨⟨hF, ⟨ht555_res, ht555_fact0⟩⟩, rfl⟩ := hq
                                  replace E := zLet_s hF E
                                  replace ht555_fact0 := zHide.mk ht555_fact0
                                  refine zg_if_ne X 229 dX11_expression_217 (by decide) (fun c557 => ?_) (fun c557 => ?_)
                                  · skip
                                    replace E := zIf_f c557 E
                                    have zts := ht555_fact0.un.resolve_right (fun z => absurd z.1 (by omega))
                                    refine zg_iconst X 1 dX11_expression_229 (by decide) (fun v558 _ hv558 => ?_)
                                    replace E := zLet_s (zcst hv558 (by decide)) E
                                    refine zg_goto X 234 dX11_expression_230 (by decide) ?_
                                    refine zg_cVv (As := [.int v558]) (st := []) X ha0 rfl (by decide) rfl (t_X11_comesOut l d L kd κ _ hI a0 ha0 v558 ((σ.1 a0 38).toInt) (by omega) (hx)) mk_X11_306 mc_X11_comesOut mz_X11 mi_X11_comesOut ml_X11_comesOut (na := 1) ⟨md_X11.1, md_X11.2, by decide +kernel⟩ rfl ⟨by decide, by decide⟩ (Nat.le_of_ble_eq_true rfl) dX11_expression_234 (fun t559 hq => ?_)
                                    obtain ⟨hF, ⟨ht559_fact0, ht559_fact1, ht559_fact2, ht559_fact3⟩, hI, g560⟩ := hq
                                    replace E := zLet_s hF E
                                    have ft559_11 : (t559.1 a0 11).toInt = (τ21.1 a0 11).toInt := by rw [g560.2.1 11 (by decide)]
                                    have ft559_12 : (t559.1 a0 12).toInt = (τ21.1 a0 12).toInt := by rw [g560.2.1 12 (by decide)]
                                    have ft559_13 : (t559.1 a0 13).toInt = (τ21.1 a0 13).toInt := by rw [g560.2.1 13 (by decide)]
                                    have hS := hS.tr g560 (by decide) (by decide)
                                    have at559_5 := (zp_same hI ha0 g560 5 rfl (by decide) (by decide)).trans A5_Lp21
                                    have at559_43 := zp_same hI ha0 g560 43 rfl (by decide) (by decide)
                                    have zc0 := ht559_fact0
                                    have zc1 := ht559_fact1
                                    have zc2 := ht559_fact2
                                    have zc3 := ht559_fact3
                                    clear ht559_fact3 ht559_fact2 ht559_fact1 ht559_fact0
                                    have zc4 := zc0.stop
                                    have zc7 := zc0.at
                                    obtain ⟨y38, hy38⟩ : ∃ x : Int, x = (t559.1 a0 38).toInt := ⟨_, rfl⟩
                                    obtain ⟨y44, hy44⟩ : ∃ x : Int, x = (t559.1 a0 44).toInt := ⟨_, rfl⟩
                                    have zc5 : y44 = 0 → nO (zp a0 τ21 43) y44.toNat = 0 := fun z => by rw [z]; rfl
                                    rw [← hy44] at zc0 zc1 zc3 zc4 zc7
                                    rw [← hy38] at zc0 zc1 zc7
                                    replace zc4 := zHide.mk zc4
                                    replace zc3 := zHide.mk zc3
                                    replace zc5 := zHide.mk zc5
                                    have zc8 := zc4.un.2.1 (zc3.un.imp id (fun z => ⟨z.1, z.2.imp id (fun y => y.2)⟩))
                                    have zc9 : v558.toInt = 0 → y44 ≤ 3 * nO (zp a0 τ21 43) y44.toNat := fun h0 => zc4.un.1 (zc3.un.imp id (fun z => ⟨z.1, z.2.resolve_right (fun y => absurd y.1 (by omega))⟩))
                                    refine zg_aload_n X 2 rfl dX11_expression_237 ?_
                                    refine fg_X11_98 X hI ha0 dX11_expression_238 (fun v562 ev562 hv562 => ?_)
                                    replace E := zLet_s (zgr ev562) E
                                    refine zg_aload_n X 2 rfl dX11_expression_241 ?_
                                    refine fg_X11_297 X hI ha0 dX11_expression_242 (fun v563 ev563 hv563 => ?_)
                                    replace E := zLet_s ev563 E
                                    have kv563 : (t559.1 a0 44).toInt = v563.toInt := by rw [ev563]
                                    refine zg_aload_n X 2 rfl dX11_expression_245 ?_
                                    refine fg_X11_20 X hI ha0 dX11_expression_246 (fun v564 ev564 hv564 => ?_)
                                    replace E := zLet_s (zgr ev564) E
                                    refine zg_aload_n X 2 rfl dX11_expression_249 ?_
                                    refine fg_X11_209 X hI ha0 dX11_expression_250 (fun v565 ev565 hv565 => ?_)
                                    replace E := zLet_s ev565 E
                                    have kv565 : (t559.1 a0 11).toInt = v565.toInt := by rw [ev565]
                                    refine ag_105 X hI hv564 (by omega) (by omega) dX11_expression_253 (fun v566 ev566 _ => ?_)
                                    replace E := zLet_s ev566 E
                                    have qv566 := zp_ld ev564 ev566
                                    rw [at559_5] at qv566
                                    rw [← kv565] at qv566
                                    rw [show (t559.1 a0 11).toInt = (τ21.1 a0 11).toInt by omega, ← zA5] at qv566
                                    refine as_143 X hI hv562 (by omega) (by omega) dX11_expression_254 (fun s567 es567 hI => ?_)
                                    replace E := zLet_s es567 E
                                    have g568 := (zSame.rf (o := a0) (Wf := []) (Wa := [143]) (L := L) (kd := kd) (σ := t559)).a ha0 hv562 es567 rfl (by decide)
                                    have rs567 := zp_st (σ := t559) (σ2 := s567) (i := v563) (x := v566) ev562 es567 (by omega)
                                    have ws567 := rs567
                                    rw [at559_43] at ws567
                                    rw [← kv563] at ws567
                                    have fs567_11 : (s567.1 a0 11).toInt = (t559.1 a0 11).toInt := by rw [g568.2.1 11 (by decide)]
                                    have fs567_12 : (s567.1 a0 12).toInt = (t559.1 a0 12).toInt := by rw [g568.2.1 12 (by decide)]
                                    have fs567_13 : (s567.1 a0 13).toInt = (t559.1 a0 13).toInt := by rw [g568.2.1 13 (by decide)]
                                    have fs567_38 : (s567.1 a0 38).toInt = (t559.1 a0 38).toInt := by rw [g568.2.1 38 (by decide)]
                                    have fs567_44 : (s567.1 a0 44).toInt = (t559.1 a0 44).toInt := by rw [g568.2.1 44 (by decide)]
                                    have hS := hS.tr g568 (by decide) (by decide)
                                    have as567_5 := (zp_same hI ha0 g568 5 rfl (by decide) (by decide)).trans at559_5
                                    have as567_39 := zp_same hI ha0 g568 39 rfl (by decide) (by decide)
                                    have as567_40 := zp_same hI ha0 g568 40 rfl (by decide) (by decide)
                                    have e570 := g568.v ev563 (by decide)
                                    refine zg_aload_n X 2 rfl dX11_expression_255 ?_
                                    refine zg_dup X dX11_expression_256 rfl ?_
                                    refine fg_X11_297 X hI ha0 dX11_expression_257 (fun v572 ev572 hv572 => ?_)
                                    replace E := zLet_s ev572 E
                                    have kv572 : (s567.1 a0 44).toInt = v572.toInt := by rw [ev572]
                                    have mv572 : v572.toInt = v563.toInt := by rw [ev572, ← e570]
                                    refine zg_iconst X 1 dX11_expression_260 (by decide) (fun v573 _ hv573 => ?_)
                                    replace E := zLet_s (zcst hv573 (by decide)) E
                                    refine zg_iadd X dX11_expression_261 (by omega) (by omega) (fun v574 ev574 hv574 => ?_)
                                    replace E := zLet_s ev574 E
                                    refine fp_X11_297 X hI ha0 ⟨by omega, by omega⟩ dX11_expression_262 (fun s575 es575 hI => ?_)
                                    replace E := zLet_s es575 E
                                    have g576 := (zSame.rf (o := a0) (Wf := [44]) (Wa := []) (L := L) (kd := kd) (σ := s567)).f ha0 es575 rfl
                                    have fs575_11 : (s575.1 a0 11).toInt = (s567.1 a0 11).toInt := by rw [g576.2.1 11 (by decide)]
                                    have fs575_12 : (s575.1 a0 12).toInt = (s567.1 a0 12).toInt := by rw [g576.2.1 12 (by decide)]
                                    have fs575_13 : (s575.1 a0 13).toInt = (s567.1 a0 13).toInt := by rw [g576.2.1 13 (by decide)]
                                    have fs575_38 : (s575.1 a0 38).toInt = (s567.1 a0 38).toInt := by rw [g576.2.1 38 (by decide)]
                                    have hS := hS.tr g576 (by decide) (by decide)
                                    have as575_5 := (zp_same hI ha0 g576 5 rfl (by decide) (by decide)).trans as567_5
                                    have as575_39 := (zp_same hI ha0 g576 39 rfl (by decide) (by decide)).trans as567_39
                                    have as575_40 := (zp_same hI ha0 g576 40 rfl (by decide) (by decide)).trans as567_40
                                    have as575_43 := zp_same hI ha0 g576 43 rfl (by decide) (by decide)
                                    have fs575_44 : (s575.1 a0 44).toInt = v574.toInt := by rw [es575]; exact congrArg _ (zu_s _ _ _ _)
                                    have e579 : v574 = s575.1 a0 44 := by rw [es575]; exact zm_s
                                    refine zg_aload_n X 2 rfl dX11_expression_265 ?_
                                    refine zg_cVv (As := []) (st := []) X ha0 rfl (by decide) rfl (t_X11_goesOn l d L kd κ _ hI a0 ha0   ) mk_X11_227 mc_X11_goesOn mz_X11 mi_X11_goesOn ml_X11_goesOn (na := 0) ⟨md_X11.1, md_X11.2, by decide +kernel⟩ rfl ⟨by decide, by decide⟩ (Nat.le_of_ble_eq_true rfl) dX11_expression_266 (fun t580 hq => ?_)
                                    obtain ⟨hF, ht580_fact0, hI, g581⟩ := hq
                                    replace E := zLet_s hF E
                                    have ft580_12 : (t580.1 a0 12).toInt = (s575.1 a0 12).toInt := by rw [g581.2.1 12 (by decide)]
                                    have ft580_38 : (t580.1 a0 38).toInt = (s575.1 a0 38).toInt := by rw [g581.2.1 38 (by decide)]
                                    have ft580_44 : (t580.1 a0 44).toInt = (s575.1 a0 44).toInt := by rw [g581.2.1 44 (by decide)]
                                    have hS := hS.tr g581 (by decide) (by decide)
                                    have at580_5 := (zp_same hI ha0 g581 5 rfl (by decide) (by decide)).trans as575_5
                                    have at580_39 := (zp_same hI ha0 g581 39 rfl (by decide) (by decide)).trans as575_39
                                    have at580_40 := (zp_same hI ha0 g581 40 rfl (by decide) (by decide)).trans as575_40
                                    have at580_43 := (zp_same hI ha0 g581 43 rfl (by decide) (by decide)).trans as575_43
                                    have zpu : zEs (zp a0 t580 43) (zp a0 t580 39) (zp a0 t580 40) (t580.1 a0 44).toInt (t580.1 a0 38).toInt (σ.1 a0 38).toInt 0 ∧ nO (zp a0 t580 43) (t580.1 a0 44).toInt.toNat = nO (zp a0 τ21 43) (τ21.1 a0 44).toInt.toNat := by
                                      rw [at580_39, at580_40, show (t580.1 a0 38).toInt = y38 by omega]
                                      have y := zEs.pushS (x := v566.toInt) (w' := zp a0 t580 43) (W' := (t580.1 a0 44).toInt) zc0 (fun j h0 => by rw [at580_43, ws567 j h0]; split <;> split <;> first | rfl | (exfalso; omega)) (by omega) (by omega) (by omega) (by omega)
                                      exact ⟨y.1, by omega⟩
                                    refine zg_goto X 12 dX11_expression_269 (by decide) ?_
                                    refine zg_sub [0, 1, 2] rfl ?_
                                    exact ihLp8 _ v552 hI hS at580_5 E  (by omega) (by omega) (fun _ => zpu.1) (fun j h0 h1 => by have y := hk j h0 (by omega); have x := zc2 j h0 (by omega); rw [at580_39, at580_40]; exact ⟨x.1.trans y.1, x.2.trans y.2⟩)
                                  · skip
                                    replace E := zIf_t c557 E
                                    refine zg_aload_n X 2 rfl dX11_expression_220 ?_
                                    refine zg_bipush X 15 dX11_expression_221 (by decide) (fun v584 _ hv584 => ?_)
                                    replace E := zLet_s (zcst hv584 (by decide)) E
                                    refine zg_cVi (As := [.int v584]) (st := [.ref a0]) X ha0 rfl (by decide) rfl (t_X11_is l d L kd κ _ hI a0 ha0 v584  ) mk_X11_224 mc_X11_is mz_X11 mi_X11_is ml_X11_is (na := 1) ⟨md_X11.1, md_X11.2, by decide +kernel⟩ rfl ⟨by decide, by decide⟩ (Nat.le_of_ble_eq_true rfl) dX11_expression_223 (fun v586 t585 hq => ?_)
                                    obtain ⟨⟨hF, ⟨ht585_res, ht585_fact0⟩⟩, rfl⟩ := hq
                                    replace E := zLet_s hF E
                                    replace ht585_fact0 := zHide.mk ht585_fact0
                                    refine zg_if_eq X 233 dX11_expression_226 (by decide) (fun c587 => ?_) (fun c587 => ?_)
                                    · skip
                                      replace E := zIf_t c587 E
                                      have zn1 := ht585_fact0.un.resolve_left (fun z => absurd z.1 (by omega))
                                      have zn2 := ht555_fact0.un.resolve_left (fun z => absurd z.1 (by omega))
                                      refine zg_iconst X 0 dX11_expression_233 (by decide) (fun v588 _ hv588 => ?_)
                                      replace E := zLet_s (zcst hv588 (by decide)) E
                                      refine zg_cVv (As := [.int v588]) (st := []) X ha0 rfl (by decide) rfl (t_X11_comesOut l d L kd κ _ hI a0 ha0 v588 ((σ.1 a0 38).toInt) (by omega) (hx)) mk_X11_306 mc_X11_comesOut mz_X11 mi_X11_comesOut ml_X11_comesOut (na := 1) ⟨md_X11.1, md_X11.2, by decide +kernel⟩ rfl ⟨by decide, by decide⟩ (Nat.le_of_ble_eq_true rfl) dX11_expression_234 (fun t589 hq => ?_)
                                      obtain ⟨hF, ⟨ht589_fact0, ht589_fact1, ht589_fact2, ht589_fact3⟩, hI, g590⟩ := hq
                                      replace E := zLet_s hF E
                                      have ft589_11 : (t589.1 a0 11).toInt = (τ21.1 a0 11).toInt := by rw [g590.2.1 11 (by decide)]
                                      have ft589_12 : (t589.1 a0 12).toInt = (τ21.1 a0 12).toInt := by rw [g590.2.1 12 (by decide)]
                                      have ft589_13 : (t589.1 a0 13).toInt = (τ21.1 a0 13).toInt := by rw [g590.2.1 13 (by decide)]
                                      have hS := hS.tr g590 (by decide) (by decide)
                                      have at589_5 := (zp_same hI ha0 g590 5 rfl (by decide) (by decide)).trans A5_Lp21
                                      have at589_43 := zp_same hI ha0 g590 43 rfl (by decide) (by decide)
                                      have zc0 := ht589_fact0
                                      have zc1 := ht589_fact1
                                      have zc2 := ht589_fact2
                                      have zc3 := ht589_fact3
                                      clear ht589_fact3 ht589_fact2 ht589_fact1 ht589_fact0
                                      have zc4 := zc0.stop
                                      have zc7 := zc0.at
                                      obtain ⟨y38, hy38⟩ : ∃ x : Int, x = (t589.1 a0 38).toInt := ⟨_, rfl⟩
                                      obtain ⟨y44, hy44⟩ : ∃ x : Int, x = (t589.1 a0 44).toInt := ⟨_, rfl⟩
                                      have zc5 : y44 = 0 → nO (zp a0 τ21 43) y44.toNat = 0 := fun z => by rw [z]; rfl
                                      rw [← hy44] at zc0 zc1 zc3 zc4 zc7
                                      rw [← hy38] at zc0 zc1 zc7
                                      replace zc4 := zHide.mk zc4
                                      replace zc3 := zHide.mk zc3
                                      replace zc5 := zHide.mk zc5
                                      have zc8 := zc4.un.2.1 (zc3.un.imp id (fun z => ⟨z.1, z.2.imp id (fun y => y.2)⟩))
                                      have zc9 : v588.toInt = 0 → y44 ≤ 3 * nO (zp a0 τ21 43) y44.toNat := fun h0 => zc4.un.1 (zc3.un.imp id (fun z => ⟨z.1, z.2.resolve_right (fun y => absurd y.1 (by omega))⟩))
                                      refine zg_aload_n X 2 rfl dX11_expression_237 ?_
                                      refine fg_X11_98 X hI ha0 dX11_expression_238 (fun v592 ev592 hv592 => ?_)
                                      replace E := zLet_s (zgr ev592) E
                                      refine zg_aload_n X 2 rfl dX11_expression_241 ?_
                                      refine fg_X11_297 X hI ha0 dX11_expression_242 (fun v593 ev593 hv593 => ?_)
                                      replace E := zLet_s ev593 E
                                      have kv593 : (t589.1 a0 44).toInt = v593.toInt := by rw [ev593]
                                      refine zg_aload_n X 2 rfl dX11_expression_245 ?_
                                      refine fg_X11_20 X hI ha0 dX11_expression_246 (fun v594 ev594 hv594 => ?_)
                                      replace E := zLet_s (zgr ev594) E
                                      refine zg_aload_n X 2 rfl dX11_expression_249 ?_
                                      refine fg_X11_209 X hI ha0 dX11_expression_250 (fun v595 ev595 hv595 => ?_)
                                      replace E := zLet_s ev595 E
                                      have kv595 : (t589.1 a0 11).toInt = v595.toInt := by rw [ev595]
                                      refine ag_105 X hI hv594 (by omega) (by omega) dX11_expression_253 (fun v596 ev596 _ => ?_)
                                      replace E := zLet_s ev596 E
                                      have qv596 := zp_ld ev594 ev596
                                      rw [at589_5] at qv596
                                      rw [← kv595] at qv596
                                      rw [show (t589.1 a0 11).toInt = (τ21.1 a0 11).toInt by omega, ← zA5] at qv596
                                      refine as_143 X hI hv592 (by omega) (by omega) dX11_expression_254 (fun s597 es597 hI => ?_)
                                      replace E := zLet_s es597 E
                                      have g598 := (zSame.rf (o := a0) (Wf := []) (Wa := [143]) (L := L) (kd := kd) (σ := t589)).a ha0 hv592 es597 rfl (by decide)
                                      have rs597 := zp_st (σ := t589) (σ2 := s597) (i := v593) (x := v596) ev592 es597 (by omega)
                                      have ws597 := rs597
                                      rw [at589_43] at ws597
                                      rw [← kv593] at ws597
                                      have fs597_11 : (s597.1 a0 11).toInt = (t589.1 a0 11).toInt := by rw [g598.2.1 11 (by decide)]
                                      have fs597_12 : (s597.1 a0 12).toInt = (t589.1 a0 12).toInt := by rw [g598.2.1 12 (by decide)]
                                      have fs597_13 : (s597.1 a0 13).toInt = (t589.1 a0 13).toInt := by rw [g598.2.1 13 (by decide)]
                                      have fs597_38 : (s597.1 a0 38).toInt = (t589.1 a0 38).toInt := by rw [g598.2.1 38 (by decide)]
                                      have fs597_44 : (s597.1 a0 44).toInt = (t589.1 a0 44).toInt := by rw [g598.2.1 44 (by decide)]
                                      have hS := hS.tr g598 (by decide) (by decide)
                                      have as597_5 := (zp_same hI ha0 g598 5 rfl (by decide) (by decide)).trans at589_5
                                      have as597_39 := zp_same hI ha0 g598 39 rfl (by decide) (by decide)
                                      have as597_40 := zp_same hI ha0 g598 40 rfl (by decide) (by decide)
                                      have e600 := g598.v ev593 (by decide)
                                      refine zg_aload_n X 2 rfl dX11_expression_255 ?_
                                      refine zg_dup X dX11_expression_256 rfl ?_
                                      refine fg_X11_297 X hI ha0 dX11_expression_257 (fun v602 ev602 hv602 => ?_)
                                      replace E := zLet_s ev602 E
                                      have kv602 : (s597.1 a0 44).toInt = v602.toInt := by rw [ev602]
                                      have mv602 : v602.toInt = v593.toInt := by rw [ev602, ← e600]
                                      refine zg_iconst X 1 dX11_expression_260 (by decide) (fun v603 _ hv603 => ?_)
                                      replace E := zLet_s (zcst hv603 (by decide)) E
                                      refine zg_iadd X dX11_expression_261 (by omega) (by omega) (fun v604 ev604 hv604 => ?_)
                                      replace E := zLet_s ev604 E
                                      refine fp_X11_297 X hI ha0 ⟨by omega, by omega⟩ dX11_expression_262 (fun s605 es605 hI => ?_)
                                      replace E := zLet_s es605 E
                                      have g606 := (zSame.rf (o := a0) (Wf := [44]) (Wa := []) (L := L) (kd := kd) (σ := s597)).f ha0 es605 rfl
                                      have fs605_11 : (s605.1 a0 11).toInt = (s597.1 a0 11).toInt := by rw [g606.2.1 11 (by decide)]
                                      have fs605_12 : (s605.1 a0 12).toInt = (s597.1 a0 12).toInt := by rw [g606.2.1 12 (by decide)]
                                      have fs605_13 : (s605.1 a0 13).toInt = (s597.1 a0 13).toInt := by rw [g606.2.1 13 (by decide)]
                                      have fs605_38 : (s605.1 a0 38).toInt = (s597.1 a0 38).toInt := by rw [g606.2.1 38 (by decide)]
                                      have hS := hS.tr g606 (by decide) (by decide)
                                      have as605_5 := (zp_same hI ha0 g606 5 rfl (by decide) (by decide)).trans as597_5
                                      have as605_39 := (zp_same hI ha0 g606 39 rfl (by decide) (by decide)).trans as597_39
                                      have as605_40 := (zp_same hI ha0 g606 40 rfl (by decide) (by decide)).trans as597_40
                                      have as605_43 := zp_same hI ha0 g606 43 rfl (by decide) (by decide)
                                      have fs605_44 : (s605.1 a0 44).toInt = v604.toInt := by rw [es605]; exact congrArg _ (zu_s _ _ _ _)
                                      have e609 : v604 = s605.1 a0 44 := by rw [es605]; exact zm_s
                                      refine zg_aload_n X 2 rfl dX11_expression_265 ?_
                                      refine zg_cVv (As := []) (st := []) X ha0 rfl (by decide) rfl (t_X11_goesOn l d L kd κ _ hI a0 ha0   ) mk_X11_227 mc_X11_goesOn mz_X11 mi_X11_goesOn ml_X11_goesOn (na := 0) ⟨md_X11.1, md_X11.2, by decide +kernel⟩ rfl ⟨by decide, by decide⟩ (Nat.le_of_ble_eq_true rfl) dX11_expression_266 (fun t610 hq => ?_)
                                      obtain ⟨hF, ht610_fact0, hI, g611⟩ := hq
                                      replace E := zLet_s hF E
                                      have ft610_12 : (t610.1 a0 12).toInt = (s605.1 a0 12).toInt := by rw [g611.2.1 12 (by decide)]
                                      have ft610_38 : (t610.1 a0 38).toInt = (s605.1 a0 38).toInt := by rw [g611.2.1 38 (by decide)]
                                      have ft610_44 : (t610.1 a0 44).toInt = (s605.1 a0 44).toInt := by rw [g611.2.1 44 (by decide)]
                                      have hS := hS.tr g611 (by decide) (by decide)
                                      have at610_5 := (zp_same hI ha0 g611 5 rfl (by decide) (by decide)).trans as605_5
                                      have at610_39 := (zp_same hI ha0 g611 39 rfl (by decide) (by decide)).trans as605_39
                                      have at610_40 := (zp_same hI ha0 g611 40 rfl (by decide) (by decide)).trans as605_40
                                      have at610_43 := (zp_same hI ha0 g611 43 rfl (by decide) (by decide)).trans as605_43
                                      have zpu : zEs (zp a0 t610 43) (zp a0 t610 39) (zp a0 t610 40) (t610.1 a0 44).toInt (t610.1 a0 38).toInt (σ.1 a0 38).toInt 0 ∧ nO (zp a0 t610 43) (t610.1 a0 44).toInt.toNat = nO (zp a0 τ21 43) (τ21.1 a0 44).toInt.toNat := by
                                        rw [at610_39, at610_40, show (t610.1 a0 38).toInt = y38 by omega]
                                        have y := zEs.pushS (x := v596.toInt) (w' := zp a0 t610 43) (W' := (t610.1 a0 44).toInt) zc0 (fun j h0 => by rw [at610_43, ws597 j h0]; split <;> split <;> first | rfl | (exfalso; omega)) (by omega) (by omega) (by omega) (by omega)
                                        exact ⟨y.1, by omega⟩
                                      refine zg_goto X 12 dX11_expression_269 (by decide) ?_
                                      refine zg_sub [0, 1, 2] rfl ?_
                                      exact ihLp8 _ v552 hI hS at610_5 E  (by omega) (by omega) (fun _ => zpu.1) (fun j h0 h1 => by have y := hk j h0 (by omega); have x := zc2 j h0 (by omega); rw [at610_39, at610_40]; exact ⟨x.1.trans y.1, x.2.trans y.2⟩)
                                    · skip
                                      replace E := zIf_f c587 E
                                      have zts := ht585_fact0.un.resolve_right (fun z => absurd z.1 (by omega))
                                      refine zg_iconst X 1 dX11_expression_229 (by decide) (fun v614 _ hv614 => ?_)
                                      replace E := zLet_s (zcst hv614 (by decide)) E
                                      refine zg_goto X 234 dX11_expression_230 (by decide) ?_
                                      refine zg_cVv (As := [.int v614]) (st := []) X ha0 rfl (by decide) rfl (t_X11_comesOut l d L kd κ _ hI a0 ha0 v614 ((σ.1 a0 38).toInt) (by omega) (hx)) mk_X11_306 mc_X11_comesOut mz_X11 mi_X11_comesOut ml_X11_comesOut (na := 1) ⟨md_X11.1, md_X11.2, by decide +kernel⟩ rfl ⟨by decide, by decide⟩ (Nat.le_of_ble_eq_true rfl) dX11_expression_234 (fun t615 hq => ?_)
                                      obtain ⟨hF, ⟨ht615_fact0, ht615_fact1, ht615_fact2, ht615_fact3⟩, hI, g616⟩ := hq
                                      replace E := zLet_s hF E
                                      have ft615_11 : (t615.1 a0 11).toInt = (τ21.1 a0 11).toInt := by rw [g616.2.1 11 (by decide)]
                                      have ft615_12 : (t615.1 a0 12).toInt = (τ21.1 a0 12).toInt := by rw [g616.2.1 12 (by decide)]
                                      have ft615_13 : (t615.1 a0 13).toInt = (τ21.1 a0 13).toInt := by rw [g616.2.1 13 (by decide)]
                                      have hS := hS.tr g616 (by decide) (by decide)
                                      have at615_5 := (zp_same hI ha0 g616 5 rfl (by decide) (by decide)).trans A5_Lp21
                                      have at615_43 := zp_same hI ha0 g616 43 rfl (by decide) (by decide)
                                      have zc0 := ht615_fact0
                                      have zc1 := ht615_fact1
                                      have zc2 := ht615_fact2
                                      have zc3 := ht615_fact3
                                      clear ht615_fact3 ht615_fact2 ht615_fact1 ht615_fact0
                                      have zc4 := zc0.stop
                                      have zc7 := zc0.at
                                      obtain ⟨y38, hy38⟩ : ∃ x : Int, x = (t615.1 a0 38).toInt := ⟨_, rfl⟩
                                      obtain ⟨y44, hy44⟩ : ∃ x : Int, x = (t615.1 a0 44).toInt := ⟨_, rfl⟩
                                      have zc5 : y44 = 0 → nO (zp a0 τ21 43) y44.toNat = 0 := fun z => by rw [z]; rfl
                                      rw [← hy44] at zc0 zc1 zc3 zc4 zc7
                                      rw [← hy38] at zc0 zc1 zc7
                                      replace zc4 := zHide.mk zc4
                                      replace zc3 := zHide.mk zc3
                                      replace zc5 := zHide.mk zc5
                                      have zc8 := zc4.un.2.1 (zc3.un.imp id (fun z => ⟨z.1, z.2.imp id (fun y => y.2)⟩))
                                      have zc9 : v614.toInt = 0 → y44 ≤ 3 * nO (zp a0 τ21 43) y44.toNat := fun h0 => zc4.un.1 (zc3.un.imp id (fun z => ⟨z.1, z.2.resolve_right (fun y => absurd y.1 (by omega))⟩))
                                      refine zg_aload_n X 2 rfl dX11_expression_237 ?_
                                      refine fg_X11_98 X hI ha0 dX11_expression_238 (fun v618 ev618 hv618 => ?_)
                                      replace E := zLet_s (zgr ev618) E
                                      refine zg_aload_n X 2 rfl dX11_expression_241 ?_
                                      refine fg_X11_297 X hI ha0 dX11_expression_242 (fun v619 ev619 hv619 => ?_)
                                      replace E := zLet_s ev619 E
                                      have kv619 : (t615.1 a0 44).toInt = v619.toInt := by rw [ev619]
                                      refine zg_aload_n X 2 rfl dX11_expression_245 ?_
                                      refine fg_X11_20 X hI ha0 dX11_expression_246 (fun v620 ev620 hv620 => ?_)
                                      replace E := zLet_s (zgr ev620) E
                                      refine zg_aload_n X 2 rfl dX11_expression_249 ?_
                                      refine fg_X11_209 X hI ha0 dX11_expression_250 (fun v621 ev621 hv621 => ?_)
                                      replace E := zLet_s ev621 E
                                      have kv621 : (t615.1 a0 11).toInt = v621.toInt := by rw [ev621]
                                      refine ag_105 X hI hv620 (by omega) (by omega) dX11_expression_253 (fun v622 ev622 _ => ?_)
                                      replace E := zLet_s ev622 E
                                      have qv622 := zp_ld ev620 ev622
                                      rw [at615_5] at qv622
                                      rw [← kv621] at qv622
                                      rw [show (t615.1 a0 11).toInt = (τ21.1 a0 11).toInt by omega, ← zA5] at qv622
                                      refine as_143 X hI hv618 (by omega) (by omega) dX11_expression_254 (fun s623 es623 hI => ?_)
                                      replace E := zLet_s es623 E
                                      have g624 := (zSame.rf (o := a0) (Wf := []) (Wa := [143]) (L := L) (kd := kd) (σ := t615)).a ha0 hv618 es623 rfl (by decide)
                                      have rs623 := zp_st (σ := t615) (σ2 := s623) (i := v619) (x := v622) ev618 es623 (by omega)
                                      have ws623 := rs623
                                      rw [at615_43] at ws623
                                      rw [← kv619] at ws623
                                      have fs623_11 : (s623.1 a0 11).toInt = (t615.1 a0 11).toInt := by rw [g624.2.1 11 (by decide)]
                                      have fs623_12 : (s623.1 a0 12).toInt = (t615.1 a0 12).toInt := by rw [g624.2.1 12 (by decide)]
                                      have fs623_13 : (s623.1 a0 13).toInt = (t615.1 a0 13).toInt := by rw [g624.2.1 13 (by decide)]
                                      have fs623_38 : (s623.1 a0 38).toInt = (t615.1 a0 38).toInt := by rw [g624.2.1 38 (by decide)]
                                      have fs623_44 : (s623.1 a0 44).toInt = (t615.1 a0 44).toInt := by rw [g624.2.1 44 (by decide)]
                                      have hS := hS.tr g624 (by decide) (by decide)
                                      have as623_5 := (zp_same hI ha0 g624 5 rfl (by decide) (by decide)).trans at615_5
                                      have as623_39 := zp_same hI ha0 g624 39 rfl (by decide) (by decide)
                                      have as623_40 := zp_same hI ha0 g624 40 rfl (by decide) (by decide)
                                      have e626 := g624.v ev619 (by decide)
                                      refine zg_aload_n X 2 rfl dX11_expression_255 ?_
                                      refine zg_dup X dX11_expression_256 rfl ?_
                                      refine fg_X11_297 X hI ha0 dX11_expression_257 (fun v628 ev628 hv628 => ?_)
                                      replace E := zLet_s ev628 E
                                      have kv628 : (s623.1 a0 44).toInt = v628.toInt := by rw [ev628]
                                      have mv628 : v628.toInt = v619.toInt := by rw [ev628, ← e626]
                                      refine zg_iconst X 1 dX11_expression_260 (by decide) (fun v629 _ hv629 => ?_)
                                      replace E := zLet_s (zcst hv629 (by decide)) E
                                      refine zg_iadd X dX11_expression_261 (by omega) (by omega) (fun v630 ev630 hv630 => ?_)
                                      replace E := zLet_s ev630 E
                                      refine fp_X11_297 X hI ha0 ⟨by omega, by omega⟩ dX11_expression_262 (fun s631 es631 hI => ?_)
                                      replace E := zLet_s es631 E
                                      have g632 := (zSame.rf (o := a0) (Wf := [44]) (Wa := []) (L := L) (kd := kd) (σ := s623)).f ha0 es631 rfl
                                      have fs631_11 : (s631.1 a0 11).toInt = (s623.1 a0 11).toInt := by rw [g632.2.1 11 (by decide)]
                                      have fs631_12 : (s631.1 a0 12).toInt = (s623.1 a0 12).toInt := by rw [g632.2.1 12 (by decide)]
                                      have fs631_13 : (s631.1 a0 13).toInt = (s623.1 a0 13).toInt := by rw [g632.2.1 13 (by decide)]
                                      have fs631_38 : (s631.1 a0 38).toInt = (s623.1 a0 38).toInt := by rw [g632.2.1 38 (by decide)]
                                      have hS := hS.tr g632 (by decide) (by decide)
                                      have as631_5 := (zp_same hI ha0 g632 5 rfl (by decide) (by decide)).trans as623_5
                                      have as631_39 := (zp_same hI ha0 g632 39 rfl (by decide) (by decide)).trans as623_39
                                      have as631_40 := (zp_same hI ha0 g632 40 rfl (by decide) (by decide)).trans as623_40
                                      have as631_43 := zp_same hI ha0 g632 43 rfl (by decide) (by decide)
                                      have fs631_44 : (s631.1 a0 44).toInt = v630.toInt := by rw [es631]; exact congrArg _ (zu_s _ _ _ _)
                                      have e635 : v630 = s631.1 a0 44 := by rw [es631]; exact zm_s
                                      refine zg_aload_n X 2 rfl dX11_expression_265 ?_
                                      refine zg_cVv (As := []) (st := []) X ha0 rfl (by decide) rfl (t_X11_goesOn l d L kd κ _ hI a0 ha0   ) mk_X11_227 mc_X11_goesOn mz_X11 mi_X11_goesOn ml_X11_goesOn (na := 0) ⟨md_X11.1, md_X11.2, by decide +kernel⟩ rfl ⟨by decide, by decide⟩ (Nat.le_of_ble_eq_true rfl) dX11_expression_266 (fun t636 hq => ?_)
                                      obtain ⟨hF, ht636_fact0, hI, g637⟩ := hq
                                      replace E := zLet_s hF E
                                      have ft636_12 : (t636.1 a0 12).toInt = (s631.1 a0 12).toInt := by rw [g637.2.1 12 (by decide)]
                                      have ft636_38 : (t636.1 a0 38).toInt = (s631.1 a0 38).toInt := by rw [g637.2.1 38 (by decide)]
                                      have ft636_44 : (t636.1 a0 44).toInt = (s631.1 a0 44).toInt := by rw [g637.2.1 44 (by decide)]
                                      have hS := hS.tr g637 (by decide) (by decide)
                                      have at636_5 := (zp_same hI ha0 g637 5 rfl (by decide) (by decide)).trans as631_5
                                      have at636_39 := (zp_same hI ha0 g637 39 rfl (by decide) (by decide)).trans as631_39
                                      have at636_40 := (zp_same hI ha0 g637 40 rfl (by decide) (by decide)).trans as631_40
                                      have at636_43 := (zp_same hI ha0 g637 43 rfl (by decide) (by decide)).trans as631_43
                                      have zpu : zEs (zp a0 t636 43) (zp a0 t636 39) (zp a0 t636 40) (t636.1 a0 44).toInt (t636.1 a0 38).toInt (σ.1 a0 38).toInt 0 ∧ nO (zp a0 t636 43) (t636.1 a0 44).toInt.toNat = nO (zp a0 τ21 43) (τ21.1 a0 44).toInt.toNat := by
                                        rw [at636_39, at636_40, show (t636.1 a0 38).toInt = y38 by omega]
                                        have y := zEs.pushS (x := v622.toInt) (w' := zp a0 t636 43) (W' := (t636.1 a0 44).toInt) zc0 (fun j h0 => by rw [at636_43, ws623 j h0]; split <;> split <;> first | rfl | (exfalso; omega)) (by omega) (by omega) (by omega) (by omega)
                                        exact ⟨y.1, by omega⟩
                                      refine zg_goto X 12 dX11_expression_269 (by decide) ?_
                                      refine zg_sub [0, 1, 2] rfl ?_
                                      exact ihLp8 _ v552 hI hS at636_5 E  (by omega) (by omega) (fun _ => zpu.1) (fun j h0 h1 => by have y := hk j h0 (by omega); have x := zc2 j h0 (by omega); rw [at636_39, at636_40]; exact ⟨x.1.trans y.1, x.2.trans y.2⟩)
                                · omega
                              · skip
                                replace E := zIf_t c551 E
                                refine zg_aload_n X 2 rfl dX11_expression_172 ?_
                                refine zg_bipush X 15 dX11_expression_173 (by decide) (fun v640 _ hv640 => ?_)
                                replace E := zLet_s (zcst hv640 (by decide)) E
                                refine zg_cVi (As := [.int v640]) (st := []) X ha0 rfl (by decide) rfl (t_X11_is l d L kd κ _ hI a0 ha0 v640  ) mk_X11_224 mc_X11_is mz_X11 mi_X11_is ml_X11_is (na := 1) ⟨md_X11.1, md_X11.2, by decide +kernel⟩ rfl ⟨by decide, by decide⟩ (Nat.le_of_ble_eq_true rfl) dX11_expression_175 (fun v642 t641 hq => ?_)
                                obtain ⟨⟨hF, ⟨ht641_res, ht641_fact0⟩⟩, rfl⟩ := hq
                                replace E := zLet_s hF E
                                replace ht641_fact0 := zHide.mk ht641_fact0
                                refine zg_if_eq X 185 dX11_expression_178 (by decide) (fun c643 => ?_) (fun c643 => ?_)
                                · skip
                                  replace E := zIf_t c643 E
                                  refine zg_iconst X 0 dX11_expression_185 (by decide) (fun v644 _ hv644 => ?_)
                                  replace E := zLet_s (zcst hv644 (by decide)) E
                                  refine zg_istore_n X [(2, .int v644), (1, .int v5), (0, .ref a0)] dX11_expression_186 (by decide) rfl ?_
                                  refine zg_iload_n X 0 rfl dX11_expression_187 ?_
                                  refine zg_if_ne X 210 dX11_expression_188 (by decide) (fun c645 => ?_) (fun c645 => ?_)
                                  · omega
                                  · skip
                                    replace E := zIf_t c645 E
                                    refine zg_aload_n X 2 rfl dX11_expression_191 ?_
                                    refine fg_X11_233 X hI ha0 dX11_expression_192 (fun v646 ev646 hv646 => ?_)
                                    replace E := zLet_s ev646 E
                                    have kv646 : (τ21.1 a0 12).toInt = v646.toInt := by rw [ev646]
                                    have mv646 : v646.toInt = v362.toInt := by rw [ev646, ← ev362]
                                    refine zg_iload_n X 1 rfl dX11_expression_195 ?_
                                    refine zg_icmp_le X 204 dX11_expression_196 (by decide) (fun c647 => ?_) (fun c647 => ?_)
                                    · skip
                                      replace E := zIf_f (Int.not_lt.mpr c647) E
                                      have zb39 : zp a0 τ21 39 = zp a0 τ21 39 := rfl
                                      have zb40 : zp a0 τ21 40 = zp a0 τ21 40 := rfl
                                      have zb43 : zp a0 τ21 43 = zp a0 τ21 43 := rfl
                                      have zb1 : (τ21.1 a0 38).toInt = (τ21.1 a0 38).toInt ∧ (τ21.1 a0 44).toInt = (τ21.1 a0 44).toInt := ⟨by omega, by omega⟩
                                      refine zg_aload_n X 2 rfl dX11_expression_204 ?_
                                      refine zg_iconst X 0 dX11_expression_205 (by decide) (fun v648 _ hv648 => ?_)
                                      replace E := zLet_s (zcst hv648 (by decide)) E
                                      refine zg_cVv (As := [.int v648]) (st := []) X ha0 rfl (by decide) rfl (t_X11_comesOut l d L kd κ _ hI a0 ha0 v648 ((σ.1 a0 38).toInt) (by omega) (by first | exact hx | (rw [rfl, rfl, rfl, show (τ21.1 a0 44).toInt = (τ21.1 a0 44).toInt by omega, show (τ21.1 a0 38).toInt = (τ21.1 a0 38).toInt by omega]; exact hx))) mk_X11_306 mc_X11_comesOut mz_X11 mi_X11_comesOut ml_X11_comesOut (na := 1) ⟨md_X11.1, md_X11.2, by decide +kernel⟩ rfl ⟨by decide, by decide⟩ (Nat.le_of_ble_eq_true rfl) dX11_expression_206 (fun t649 hq => ?_)
                                      obtain ⟨hF, ⟨ht649_fact0, ht649_fact1, ht649_fact2, ht649_fact3⟩, hI, g650⟩ := hq
                                      replace E := zLet_s hF E
                                      have ft649_11 : (t649.1 a0 11).toInt = (τ21.1 a0 11).toInt := by rw [g650.2.1 11 (by decide)]
                                      have ft649_12 : (t649.1 a0 12).toInt = (τ21.1 a0 12).toInt := by rw [g650.2.1 12 (by decide)]
                                      have ft649_13 : (t649.1 a0 13).toInt = (τ21.1 a0 13).toInt := by rw [g650.2.1 13 (by decide)]
                                      have hS := hS.tr g650 (by decide) (by decide)
                                      have zc0 := ht649_fact0
                                      have zc1 := ht649_fact1
                                      have zc2 := ht649_fact2
                                      have zc3 := ht649_fact3
                                      clear ht649_fact3 ht649_fact2 ht649_fact1 ht649_fact0
                                      have zc4 := zc0.stop
                                      have zc7 := zc0.at
                                      rw [zb43] at zc0 zc1 zc3 zc4 zc7
                                      rw [zb1.2] at zc1
                                      have zc9 : nO (zp a0 τ21 43) (t649.1 a0 44).toInt.toNat = 0 → (t649.1 a0 44).toInt = 0 := fun z => zc4.2.2 z (zc3.imp id (fun y => ⟨y.1, y.2.resolve_right (fun x => absurd x.1 (by omega))⟩))
                                      clear zc3 zc4
                                      exact ret _ _ _ dX11_expression_209 ⟨E.symm.trans hR, ⟨⟨(by omega), (by omega), (fun h0 => by first | (exfalso; omega) | exact zc0.cod), (fun j h0 h1 => by have y := hk j h0 (by omega); have x := zc2 j h0 (by omega); rw [zb39, zb40] at x; exact ⟨x.1.trans y.1, x.2.trans y.2⟩)⟩, hI, hS⟩⟩
                                    · skip
                                      replace E := zIf_t c647 E
                                      refine zg_aload_n X 2 rfl dX11_expression_199 ?_
                                      refine zg_iconst X 1 dX11_expression_200 (by decide) (fun v652 _ hv652 => ?_)
                                      replace E := zLet_s (zcst hv652 (by decide)) E
                                      refine zg_cVv (As := [.int v652]) (st := []) X ha0 rfl (by decide) rfl (t_X11_fail l d L kd κ _ hI a0 ha0 v652  (by omega)) mk_X11_221 mc_X11_fail mz_X11 mi_X11_fail ml_X11_fail (na := 1) ⟨md_X11.1, md_X11.2, by decide +kernel⟩ rfl ⟨by decide, by decide⟩ (Nat.le_of_ble_eq_true rfl) dX11_expression_201 (fun t653 hq => ?_)
                                      obtain ⟨hF, ht653_fact0, hI, g654⟩ := hq
                                      replace E := zLet_s hF E
                                      have ft653_11 : (t653.1 a0 11).toInt = (τ21.1 a0 11).toInt := by rw [g654.2.1 11 (by decide)]
                                      have ft653_12 : (t653.1 a0 12).toInt = (τ21.1 a0 12).toInt := by rw [g654.2.1 12 (by decide)]
                                      have ft653_38 : (t653.1 a0 38).toInt = (τ21.1 a0 38).toInt := by rw [g654.2.1 38 (by decide)]
                                      have ft653_44 : (t653.1 a0 44).toInt = (τ21.1 a0 44).toInt := by rw [g654.2.1 44 (by decide)]
                                      have hS := hS.tr g654 (by decide) (by decide)
                                      have at653_39 := zp_same hI ha0 g654 39 rfl (by decide) (by decide)
                                      have at653_40 := zp_same hI ha0 g654 40 rfl (by decide) (by decide)
                                      have at653_43 := zp_same hI ha0 g654 43 rfl (by decide) (by decide)
                                      have zb39 : zp a0 t653 39 = zp a0 τ21 39 := at653_39
                                      have zb40 : zp a0 t653 40 = zp a0 τ21 40 := at653_40
                                      have zb43 : zp a0 t653 43 = zp a0 τ21 43 := at653_43
                                      have zb1 : (t653.1 a0 38).toInt = (τ21.1 a0 38).toInt ∧ (t653.1 a0 44).toInt = (τ21.1 a0 44).toInt := ⟨by omega, by omega⟩
                                      refine zg_aload_n X 2 rfl dX11_expression_204 ?_
                                      refine zg_iconst X 0 dX11_expression_205 (by decide) (fun v656 _ hv656 => ?_)
                                      replace E := zLet_s (zcst hv656 (by decide)) E
                                      refine zg_cVv (As := [.int v656]) (st := []) X ha0 rfl (by decide) rfl (t_X11_comesOut l d L kd κ _ hI a0 ha0 v656 ((σ.1 a0 38).toInt) (by omega) (by first | exact hx | (rw [at653_43, at653_39, at653_40, show (t653.1 a0 44).toInt = (τ21.1 a0 44).toInt by omega, show (t653.1 a0 38).toInt = (τ21.1 a0 38).toInt by omega]; exact hx))) mk_X11_306 mc_X11_comesOut mz_X11 mi_X11_comesOut ml_X11_comesOut (na := 1) ⟨md_X11.1, md_X11.2, by decide +kernel⟩ rfl ⟨by decide, by decide⟩ (Nat.le_of_ble_eq_true rfl) dX11_expression_206 (fun t657 hq => ?_)
                                      obtain ⟨hF, ⟨ht657_fact0, ht657_fact1, ht657_fact2, ht657_fact3⟩, hI, g658⟩ := hq
                                      replace E := zLet_s hF E
                                      have ft657_11 : (t657.1 a0 11).toInt = (t653.1 a0 11).toInt := by rw [g658.2.1 11 (by decide)]
                                      have ft657_12 : (t657.1 a0 12).toInt = (t653.1 a0 12).toInt := by rw [g658.2.1 12 (by decide)]
                                      have ft657_13 : (t657.1 a0 13).toInt = (t653.1 a0 13).toInt := by rw [g658.2.1 13 (by decide)]
                                      have hS := hS.tr g658 (by decide) (by decide)
                                      have zc0 := ht657_fact0
                                      have zc1 := ht657_fact1
                                      have zc2 := ht657_fact2
                                      have zc3 := ht657_fact3
                                      clear ht657_fact3 ht657_fact2 ht657_fact1 ht657_fact0
                                      have zc4 := zc0.stop
                                      have zc7 := zc0.at
                                      rw [zb43] at zc0 zc1 zc3 zc4 zc7
                                      rw [zb1.2] at zc1
                                      have zc9 : nO (zp a0 τ21 43) (t657.1 a0 44).toInt.toNat = 0 → (t657.1 a0 44).toInt = 0 := fun z => zc4.2.2 z (zc3.imp id (fun y => ⟨y.1, y.2.resolve_right (fun x => absurd x.1 (by omega))⟩))
                                      clear zc3 zc4
                                      exact ret _ _ _ dX11_expression_209 ⟨E.symm.trans hR, ⟨⟨(by omega), (by omega), (fun h0 => by first | (exfalso; omega) | exact zc0.cod), (fun j h0 h1 => by have y := hk j h0 (by omega); have x := zc2 j h0 (by omega); rw [zb39, zb40] at x; exact ⟨x.1.trans y.1, x.2.trans y.2⟩)⟩, hI, hS⟩⟩
                                · skip
                                  replace E := zIf_f c643 E
                                  have ztk := ht641_fact0.un.resolve_right (fun z => absurd z.1 (by omega))
                                  refine zg_iconst X 1 dX11_expression_181 (by decide) (fun v660 _ hv660 => ?_)
                                  replace E := zLet_s (zcst hv660 (by decide)) E
                                  refine zg_goto X 186 dX11_expression_182 (by decide) ?_
                                  refine zg_istore_n X [(2, .int v660), (1, .int v5), (0, .ref a0)] dX11_expression_186 (by decide) rfl ?_
                                  refine zg_iload_n X 0 rfl dX11_expression_187 ?_
                                  refine zg_if_ne X 210 dX11_expression_188 (by decide) (fun c661 => ?_) (fun c661 => ?_)
                                  · skip
                                    replace E := zIf_f c661 E
                                    refine zg_aload_n X 2 rfl dX11_expression_210 ?_
                                    refine zg_aload_n X 2 rfl dX11_expression_211 ?_
                                    refine zg_bipush X 10 dX11_expression_212 (by decide) (fun v662 _ hv662 => ?_)
                                    replace E := zLet_s (zcst hv662 (by decide)) E
                                    refine zg_cVi (As := [.int v662]) (st := [.ref a0]) X ha0 rfl (by decide) rfl (t_X11_is l d L kd κ _ hI a0 ha0 v662  ) mk_X11_224 mc_X11_is mz_X11 mi_X11_is ml_X11_is (na := 1) ⟨md_X11.1, md_X11.2, by decide +kernel⟩ rfl ⟨by decide, by decide⟩ (Nat.le_of_ble_eq_true rfl) dX11_expression_214 (fun v664 t663 hq => ?_)
                                    obtain ⟨⟨hF, ⟨ht663_res, ht663_fact0⟩⟩, rfl⟩ := hq
                                    replace E := zLet_s hF E
                                    replace ht663_fact0 := zHide.mk ht663_fact0
                                    refine zg_if_ne X 229 dX11_expression_217 (by decide) (fun c665 => ?_) (fun c665 => ?_)
                                    · skip
                                      replace E := zIf_f c665 E
                                      have zts := ht663_fact0.un.resolve_right (fun z => absurd z.1 (by omega))
                                      refine zg_iconst X 1 dX11_expression_229 (by decide) (fun v666 _ hv666 => ?_)
                                      replace E := zLet_s (zcst hv666 (by decide)) E
                                      refine zg_goto X 234 dX11_expression_230 (by decide) ?_
                                      refine zg_cVv (As := [.int v666]) (st := []) X ha0 rfl (by decide) rfl (t_X11_comesOut l d L kd κ _ hI a0 ha0 v666 ((σ.1 a0 38).toInt) (by omega) (hx)) mk_X11_306 mc_X11_comesOut mz_X11 mi_X11_comesOut ml_X11_comesOut (na := 1) ⟨md_X11.1, md_X11.2, by decide +kernel⟩ rfl ⟨by decide, by decide⟩ (Nat.le_of_ble_eq_true rfl) dX11_expression_234 (fun t667 hq => ?_)
                                      obtain ⟨hF, ⟨ht667_fact0, ht667_fact1, ht667_fact2, ht667_fact3⟩, hI, g668⟩ := hq
                                      replace E := zLet_s hF E
                                      have ft667_11 : (t667.1 a0 11).toInt = (τ21.1 a0 11).toInt := by rw [g668.2.1 11 (by decide)]
                                      have ft667_12 : (t667.1 a0 12).toInt = (τ21.1 a0 12).toInt := by rw [g668.2.1 12 (by decide)]
                                      have ft667_13 : (t667.1 a0 13).toInt = (τ21.1 a0 13).toInt := by rw [g668.2.1 13 (by decide)]
                                      have hS := hS.tr g668 (by decide) (by decide)
                                      have at667_5 := (zp_same hI ha0 g668 5 rfl (by decide) (by decide)).trans A5_Lp21
                                      have at667_43 := zp_same hI ha0 g668 43 rfl (by decide) (by decide)
                                      have zc0 := ht667_fact0
                                      have zc1 := ht667_fact1
                                      have zc2 := ht667_fact2
                                      have zc3 := ht667_fact3
                                      clear ht667_fact3 ht667_fact2 ht667_fact1 ht667_fact0
                                      have zc4 := zc0.stop
                                      have zc7 := zc0.at
                                      obtain ⟨y38, hy38⟩ : ∃ x : Int, x = (t667.1 a0 38).toInt := ⟨_, rfl⟩
                                      obtain ⟨y44, hy44⟩ : ∃ x : Int, x = (t667.1 a0 44).toInt := ⟨_, rfl⟩
                                      have zc5 : y44 = 0 → nO (zp a0 τ21 43) y44.toNat = 0 := fun z => by rw [z]; rfl
                                      rw [← hy44] at zc0 zc1 zc3 zc4 zc7
                                      rw [← hy38] at zc0 zc1 zc7
                                      replace zc4 := zHide.mk zc4
                                      replace zc3 := zHide.mk zc3
                                      replace zc5 := zHide.mk zc5
                                      have zc8 := zc4.un.2.1 (zc3.un.imp id (fun z => ⟨z.1, z.2.imp id (fun y => y.2)⟩))
                                      have zc9 : v666.toInt = 0 → y44 ≤ 3 * nO (zp a0 τ21 43) y44.toNat := fun h0 => zc4.un.1 (zc3.un.imp id (fun z => ⟨z.1, z.2.resolve_right (fun y => absurd y.1 (by omega))⟩))
                                      refine zg_aload_n X 2 rfl dX11_expression_237 ?_
                                      refine fg_X11_98 X hI ha0 dX11_expression_238 (fun v670 ev670 hv670 => ?_)
                                      replace E := zLet_s (zgr ev670) E
                                      refine zg_aload_n X 2 rfl dX11_expression_241 ?_
                                      refine fg_X11_297 X hI ha0 dX11_expression_242 (fun v671 ev671 hv671 => ?_)
                                      replace E := zLet_s ev671 E
                                      have kv671 : (t667.1 a0 44).toInt = v671.toInt := by rw [ev671]
                                      refine zg_aload_n X 2 rfl dX11_expression_245 ?_
                                      refine fg_X11_20 X hI ha0 dX11_expression_246 (fun v672 ev672 hv672 => ?_)
                                      replace E := zLet_s (zgr ev672) E
                                      refine zg_aload_n X 2 rfl dX11_expression_249 ?_
                                      refine fg_X11_209 X hI ha0 dX11_expression_250 (fun v673 ev673 hv673 => ?_)
                                      replace E := zLet_s ev673 E
                                      have kv673 : (t667.1 a0 11).toInt = v673.toInt := by rw [ev673]
                                      refine ag_105 X hI hv672 (by omega) (by omega) dX11_expression_253 (fun v674 ev674 _ => ?_)
                                      replace E := zLet_s ev674 E
                                      have qv674 := zp_ld ev672 ev674
                                      rw [at667_5] at qv674
                                      rw [← kv673] at qv674
                                      rw [show (t667.1 a0 11).toInt = (τ21.1 a0 11).toInt by omega, ← zA5] at qv674
                                      refine as_143 X hI hv670 (by omega) (by omega) dX11_expression_254 (fun s675 es675 hI => ?_)
                                      replace E := zLet_s es675 E
                                      have g676 := (zSame.rf (o := a0) (Wf := []) (Wa := [143]) (L := L) (kd := kd) (σ := t667)).a ha0 hv670 es675 rfl (by decide)
                                      have rs675 := zp_st (σ := t667) (σ2 := s675) (i := v671) (x := v674) ev670 es675 (by omega)
                                      have ws675 := rs675
                                      rw [at667_43] at ws675
                                      rw [← kv671] at ws675
                                      have fs675_11 : (s675.1 a0 11).toInt = (t667.1 a0 11).toInt := by rw [g676.2.1 11 (by decide)]
                                      have fs675_12 : (s675.1 a0 12).toInt = (t667.1 a0 12).toInt := by rw [g676.2.1 12 (by decide)]
                                      have fs675_13 : (s675.1 a0 13).toInt = (t667.1 a0 13).toInt := by rw [g676.2.1 13 (by decide)]
                                      have fs675_38 : (s675.1 a0 38).toInt = (t667.1 a0 38).toInt := by rw [g676.2.1 38 (by decide)]
                                      have fs675_44 : (s675.1 a0 44).toInt = (t667.1 a0 44).toInt := by rw [g676.2.1 44 (by decide)]
                                      have hS := hS.tr g676 (by decide) (by decide)
                                      have as675_5 := (zp_same hI ha0 g676 5 rfl (by decide) (by decide)).trans at667_5
                                      have as675_39 := zp_same hI ha0 g676 39 rfl (by decide) (by decide)
                                      have as675_40 := zp_same hI ha0 g676 40 rfl (by decide) (by decide)
                                      have e678 := g676.v ev671 (by decide)
                                      refine zg_aload_n X 2 rfl dX11_expression_255 ?_
                                      refine zg_dup X dX11_expression_256 rfl ?_
                                      refine fg_X11_297 X hI ha0 dX11_expression_257 (fun v680 ev680 hv680 => ?_)
                                      replace E := zLet_s ev680 E
                                      have kv680 : (s675.1 a0 44).toInt = v680.toInt := by rw [ev680]
                                      have mv680 : v680.toInt = v671.toInt := by rw [ev680, ← e678]
                                      refine zg_iconst X 1 dX11_expression_260 (by decide) (fun v681 _ hv681 => ?_)
                                      replace E := zLet_s (zcst hv681 (by decide)) E
                                      refine zg_iadd X dX11_expression_261 (by omega) (by omega) (fun v682 ev682 hv682 => ?_)
                                      replace E := zLet_s ev682 E
                                      refine fp_X11_297 X hI ha0 ⟨by omega, by omega⟩ dX11_expression_262 (fun s683 es683 hI => ?_)
                                      replace E := zLet_s es683 E
                                      have g684 := (zSame.rf (o := a0) (Wf := [44]) (Wa := []) (L := L) (kd := kd) (σ := s675)).f ha0 es683 rfl
                                      have fs683_11 : (s683.1 a0 11).toInt = (s675.1 a0 11).toInt := by rw [g684.2.1 11 (by decide)]
                                      have fs683_12 : (s683.1 a0 12).toInt = (s675.1 a0 12).toInt := by rw [g684.2.1 12 (by decide)]
                                      have fs683_13 : (s683.1 a0 13).toInt = (s675.1 a0 13).toInt := by rw [g684.2.1 13 (by decide)]
                                      have fs683_38 : (s683.1 a0 38).toInt = (s675.1 a0 38).toInt := by rw [g684.2.1 38 (by decide)]
                                      have hS := hS.tr g684 (by decide) (by decide)
                                      have as683_5 := (zp_same hI ha0 g684 5 rfl (by decide) (by decide)).trans as675_5
                                      have as683_39 := (zp_same hI ha0 g684 39 rfl (by decide) (by decide)).trans as675_39
                                      have as683_40 := (zp_same hI ha0 g684 40 rfl (by decide) (by decide)).trans as675_40
                                      have as683_43 := zp_same hI ha0 g684 43 rfl (by decide) (by decide)
                                      have fs683_44 : (s683.1 a0 44).toInt = v682.toInt := by rw [es683]; exact congrArg _ (zu_s _ _ _ _)
                                      have e687 : v682 = s683.1 a0 44 := by rw [es683]; exact zm_s
                                      refine zg_aload_n X 2 rfl dX11_expression_265 ?_
                                      refine zg_cVv (As := []) (st := []) X ha0 rfl (by decide) rfl (t_X11_goesOn l d L kd κ _ hI a0 ha0   ) mk_X11_227 mc_X11_goesOn mz_X11 mi_X11_goesOn ml_X11_goesOn (na := 0) ⟨md_X11.1, md_X11.2, by decide +kernel⟩ rfl ⟨by decide, by decide⟩ (Nat.le_of_ble_eq_true rfl) dX11_expression_266 (fun t688 hq => ?_)
                                      obtain ⟨hF, ht688_fact0, hI, g689⟩ := hq
                                      replace E := zLet_s hF E
                                      have ft688_12 : (t688.1 a0 12).toInt = (s683.1 a0 12).toInt := by rw [g689.2.1 12 (by decide)]
                                      have ft688_38 : (t688.1 a0 38).toInt = (s683.1 a0 38).toInt := by rw [g689.2.1 38 (by decide)]
                                      have ft688_44 : (t688.1 a0 44).toInt = (s683.1 a0 44).toInt := by rw [g689.2.1 44 (by decide)]
                                      have hS := hS.tr g689 (by decide) (by decide)
                                      have at688_5 := (zp_same hI ha0 g689 5 rfl (by decide) (by decide)).trans as683_5
                                      have at688_39 := (zp_same hI ha0 g689 39 rfl (by decide) (by decide)).trans as683_39
                                      have at688_40 := (zp_same hI ha0 g689 40 rfl (by decide) (by decide)).trans as683_40
                                      have at688_43 := (zp_same hI ha0 g689 43 rfl (by decide) (by decide)).trans as683_43
                                      have zpu : zEs (zp a0 t688 43) (zp a0 t688 39) (zp a0 t688 40) (t688.1 a0 44).toInt (t688.1 a0 38).toInt (σ.1 a0 38).toInt 0 ∧ nO (zp a0 t688 43) (t688.1 a0 44).toInt.toNat = nO (zp a0 τ21 43) (τ21.1 a0 44).toInt.toNat := by
                                        rw [at688_39, at688_40, show (t688.1 a0 38).toInt = y38 by omega]
                                        have y := zEs.pushS (x := v674.toInt) (w' := zp a0 t688 43) (W' := (t688.1 a0 44).toInt) zc0 (fun j h0 => by rw [at688_43, ws675 j h0]; split <;> split <;> first | rfl | (exfalso; omega)) (by omega) (by omega) (by omega) (by omega)
                                        exact ⟨y.1, by omega⟩
                                      refine zg_goto X 12 dX11_expression_269 (by decide) ?_
                                      refine zg_sub [0, 1, 2] rfl ?_
                                      exact ihLp8 _ v660 hI hS at688_5 E  (by omega) (by omega) (fun _ => zpu.1) (fun j h0 h1 => by have y := hk j h0 (by omega); have x := zc2 j h0 (by omega); rw [at688_39, at688_40]; exact ⟨x.1.trans y.1, x.2.trans y.2⟩)
                                    · skip
                                      replace E := zIf_t c665 E
                                      refine zg_aload_n X 2 rfl dX11_expression_220 ?_
                                      refine zg_bipush X 15 dX11_expression_221 (by decide) (fun v692 _ hv692 => ?_)
                                      replace E := zLet_s (zcst hv692 (by decide)) E
                                      refine zg_cVi (As := [.int v692]) (st := [.ref a0]) X ha0 rfl (by decide) rfl (t_X11_is l d L kd κ _ hI a0 ha0 v692  ) mk_X11_224 mc_X11_is mz_X11 mi_X11_is ml_X11_is (na := 1) ⟨md_X11.1, md_X11.2, by decide +kernel⟩ rfl ⟨by decide, by decide⟩ (Nat.le_of_ble_eq_true rfl) dX11_expression_223 (fun v694 t693 hq => ?_)
                                      obtain ⟨⟨hF, ⟨ht693_res, ht693_fact0⟩⟩, rfl⟩ := hq
                                      replace E := zLet_s hF E
                                      replace ht693_fact0 := zHide.mk ht693_fact0
                                      refine zg_if_eq X 233 dX11_expression_226 (by decide) (fun c695 => ?_) (fun c695 => ?_)
                                      · skip
                                        replace E := zIf_t c695 E
                                        have zn1 := ht693_fact0.un.resolve_left (fun z => absurd z.1 (by omega))
                                        have zn2 := ht663_fact0.un.resolve_left (fun z => absurd z.1 (by omega))
                                        refine zg_iconst X 0 dX11_expression_233 (by decide) (fun v696 _ hv696 => ?_)
                                        replace E := zLet_s (zcst hv696 (by decide)) E
                                        refine zg_cVv (As := [.int v696]) (st := []) X ha0 rfl (by decide) rfl (t_X11_comesOut l d L kd κ _ hI a0 ha0 v696 ((σ.1 a0 38).toInt) (by omega) (hx)) mk_X11_306 mc_X11_comesOut mz_X11 mi_X11_comesOut ml_X11_comesOut (na := 1) ⟨md_X11.1, md_X11.2, by decide +kernel⟩ rfl ⟨by decide, by decide⟩ (Nat.le_of_ble_eq_true rfl) dX11_expression_234 (fun t697 hq => ?_)
                                        obtain ⟨hF, ⟨ht697_fact0, ht697_fact1, ht697_fact2, ht697_fact3⟩, hI, g698⟩ := hq
                                        replace E := zLet_s hF E
                                        have ft697_11 : (t697.1 a0 11).toInt = (τ21.1 a0 11).toInt := by rw [g698.2.1 11 (by decide)]
                                        have ft697_12 : (t697.1 a0 12).toInt = (τ21.1 a0 12).toInt := by rw [g698.2.1 12 (by decide)]
                                        have ft697_13 : (t697.1 a0 13).toInt = (τ21.1 a0 13).toInt := by rw [g698.2.1 13 (by decide)]
                                        have hS := hS.tr g698 (by decide) (by decide)
                                        have at697_5 := (zp_same hI ha0 g698 5 rfl (by decide) (by decide)).trans A5_Lp21
                                        have at697_43 := zp_same hI ha0 g698 43 rfl (by decide) (by decide)
                                        have zc0 := ht697_fact0
                                        have zc1 := ht697_fact1
                                        have zc2 := ht697_fact2
                                        have zc3 := ht697_fact3
                                        clear ht697_fact3 ht697_fact2 ht697_fact1 ht697_fact0
                                        have zc4 := zc0.stop
                                        have zc7 := zc0.at
                                        obtain ⟨y38, hy38⟩ : ∃ x : Int, x = (t697.1 a0 38).toInt := ⟨_, rfl⟩
                                        obtain ⟨y44, hy44⟩ : ∃ x : Int, x = (t697.1 a0 44).toInt := ⟨_, rfl⟩
                                        have zc5 : y44 = 0 → nO (zp a0 τ21 43) y44.toNat = 0 := fun z => by rw [z]; rfl
                                        rw [← hy44] at zc0 zc1 zc3 zc4 zc7
                                        rw [← hy38] at zc0 zc1 zc7
                                        replace zc4 := zHide.mk zc4
                                        replace zc3 := zHide.mk zc3
                                        replace zc5 := zHide.mk zc5
                                        have zc8 := zc4.un.2.1 (zc3.un.imp id (fun z => ⟨z.1, z.2.imp id (fun y => y.2)⟩))
                                        have zc9 : v696.toInt = 0 → y44 ≤ 3 * nO (zp a0 τ21 43) y44.toNat := fun h0 => zc4.un.1 (zc3.un.imp id (fun z => ⟨z.1, z.2.resolve_right (fun y => absurd y.1 (by omega))⟩))
                                        refine zg_aload_n X 2 rfl dX11_expression_237 ?_
                                        refine fg_X11_98 X hI ha0 dX11_expression_238 (fun v700 ev700 hv700 => ?_)
                                        replace E := zLet_s (zgr ev700) E
                                        refine zg_aload_n X 2 rfl dX11_expression_241 ?_
                                        refine fg_X11_297 X hI ha0 dX11_expression_242 (fun v701 ev701 hv701 => ?_)
                                        replace E := zLet_s ev701 E
                                        have kv701 : (t697.1 a0 44).toInt = v701.toInt := by rw [ev701]
                                        refine zg_aload_n X 2 rfl dX11_expression_245 ?_
                                        refine fg_X11_20 X hI ha0 dX11_expression_246 (fun v702 ev702 hv702 => ?_)
                                        replace E := zLet_s (zgr ev702) E
                                        refine zg_aload_n X 2 rfl dX11_expression_249 ?_
                                        refine fg_X11_209 X hI ha0 dX11_expression_250 (fun v703 ev703 hv703 => ?_)
                                        replace E := zLet_s ev703 E
                                        have kv703 : (t697.1 a0 11).toInt = v703.toInt := by rw [ev703]
                                        refine ag_105 X hI hv702 (by omega) (by omega) dX11_expression_253 (fun v704 ev704 _ => ?_)
                                        replace E := zLet_s ev704 E
                                        have qv704 := zp_ld ev702 ev704
                                        rw [at697_5] at qv704
                                        rw [← kv703] at qv704
                                        rw [show (t697.1 a0 11).toInt = (τ21.1 a0 11).toInt by omega, ← zA5] at qv704
                                        refine as_143 X hI hv700 (by omega) (by omega) dX11_expression_254 (fun s705 es705 hI => ?_)
                                        replace E := zLet_s es705 E
                                        have g706 := (zSame.rf (o := a0) (Wf := []) (Wa := [143]) (L := L) (kd := kd) (σ := t697)).a ha0 hv700 es705 rfl (by decide)
                                        have rs705 := zp_st (σ := t697) (σ2 := s705) (i := v701) (x := v704) ev700 es705 (by omega)
                                        have ws705 := rs705
                                        rw [at697_43] at ws705
                                        rw [← kv701] at ws705
                                        have fs705_11 : (s705.1 a0 11).toInt = (t697.1 a0 11).toInt := by rw [g706.2.1 11 (by decide)]
                                        have fs705_12 : (s705.1 a0 12).toInt = (t697.1 a0 12).toInt := by rw [g706.2.1 12 (by decide)]
                                        have fs705_13 : (s705.1 a0 13).toInt = (t697.1 a0 13).toInt := by rw [g706.2.1 13 (by decide)]
                                        have fs705_38 : (s705.1 a0 38).toInt = (t697.1 a0 38).toInt := by rw [g706.2.1 38 (by decide)]
                                        have fs705_44 : (s705.1 a0 44).toInt = (t697.1 a0 44).toInt := by rw [g706.2.1 44 (by decide)]
                                        have hS := hS.tr g706 (by decide) (by decide)
                                        have as705_5 := (zp_same hI ha0 g706 5 rfl (by decide) (by decide)).trans at697_5
                                        have as705_39 := zp_same hI ha0 g706 39 rfl (by decide) (by decide)
                                        have as705_40 := zp_same hI ha0 g706 40 rfl (by decide) (by decide)
                                        have e708 := g706.v ev701 (by decide)
                                        refine zg_aload_n X 2 rfl dX11_expression_255 ?_
                                        refine zg_dup X dX11_expression_256 rfl ?_
                                        refine fg_X11_297 X hI ha0 dX11_expression_257 (fun v710 ev710 hv710 => ?_)
                                        replace E := zLet_s ev710 E
                                        have kv710 : (s705.1 a0 44).toInt = v710.toInt := by rw [ev710]
                                        have mv710 : v710.toInt = v701.toInt := by rw [ev710, ← e708]
                                        refine zg_iconst X 1 dX11_expression_260 (by decide) (fun v711 _ hv711 => ?_)
                                        replace E := zLet_s (zcst hv711 (by decide)) E
                                        refine zg_iadd X dX11_expression_261 (by omega) (by omega) (fun v712 ev712 hv712 => ?_)
                                        replace E := zLet_s ev712 E
                                        refine fp_X11_297 X hI ha0 ⟨by omega, by omega⟩ dX11_expression_262 (fun s713 es713 hI => ?_)
                                        replace E := zLet_s es713 E
                                        have g714 := (zSame.rf (o := a0) (Wf := [44]) (Wa := []) (L := L) (kd := kd) (σ := s705)).f ha0 es713 rfl
                                        have fs713_11 : (s713.1 a0 11).toInt = (s705.1 a0 11).toInt := by rw [g714.2.1 11 (by decide)]
                                        have fs713_12 : (s713.1 a0 12).toInt = (s705.1 a0 12).toInt := by rw [g714.2.1 12 (by decide)]
                                        have fs713_13 : (s713.1 a0 13).toInt = (s705.1 a0 13).toInt := by rw [g714.2.1 13 (by decide)]
                                        have fs713_38 : (s713.1 a0 38).toInt = (s705.1 a0 38).toInt := by rw [g714.2.1 38 (by decide)]
                                        have hS := hS.tr g714 (by decide) (by decide)
                                        have as713_5 := (zp_same hI ha0 g714 5 rfl (by decide) (by decide)).trans as705_5
                                        have as713_39 := (zp_same hI ha0 g714 39 rfl (by decide) (by decide)).trans as705_39
                                        have as713_40 := (zp_same hI ha0 g714 40 rfl (by decide) (by decide)).trans as705_40
                                        have as713_43 := zp_same hI ha0 g714 43 rfl (by decide) (by decide)
                                        have fs713_44 : (s713.1 a0 44).toInt = v712.toInt := by rw [es713]; exact congrArg _ (zu_s _ _ _ _)
                                        have e717 : v712 = s713.1 a0 44 := by rw [es713]; exact zm_s
                                        refine zg_aload_n X 2 rfl dX11_expression_265 ?_
                                        refine zg_cVv (As := []) (st := []) X ha0 rfl (by decide) rfl (t_X11_goesOn l d L kd κ _ hI a0 ha0   ) mk_X11_227 mc_X11_goesOn mz_X11 mi_X11_goesOn ml_X11_goesOn (na := 0) ⟨md_X11.1, md_X11.2, by decide +kernel⟩ rfl ⟨by decide, by decide⟩ (Nat.le_of_ble_eq_true rfl) dX11_expression_266 (fun t718 hq => ?_)
                                        obtain ⟨hF, ht718_fact0, hI, g719⟩ := hq
                                        replace E := zLet_s hF E
                                        have ft718_12 : (t718.1 a0 12).toInt = (s713.1 a0 12).toInt := by rw [g719.2.1 12 (by decide)]
                                        have ft718_38 : (t718.1 a0 38).toInt = (s713.1 a0 38).toInt := by rw [g719.2.1 38 (by decide)]
                                        have ft718_44 : (t718.1 a0 44).toInt = (s713.1 a0 44).toInt := by rw [g719.2.1 44 (by decide)]
                                        have hS := hS.tr g719 (by decide) (by decide)
                                        have at718_5 := (zp_same hI ha0 g719 5 rfl (by decide) (by decide)).trans as713_5
                                        have at718_39 := (zp_same hI ha0 g719 39 rfl (by decide) (by decide)).trans as713_39
                                        have at718_40 := (zp_same hI ha0 g719 40 rfl (by decide) (by decide)).trans as713_40
                                        have at718_43 := (zp_same hI ha0 g719 43 rfl (by decide) (by decide)).trans as713_43
                                        have zpu : zEs (zp a0 t718 43) (zp a0 t718 39) (zp a0 t718 40) (t718.1 a0 44).toInt (t718.1 a0 38).toInt (σ.1 a0 38).toInt 0 ∧ nO (zp a0 t718 43) (t718.1 a0 44).toInt.toNat = nO (zp a0 τ21 43) (τ21.1 a0 44).toInt.toNat := by
                                          rw [at718_39, at718_40, show (t718.1 a0 38).toInt = y38 by omega]
                                          have y := zEs.pushS (x := v704.toInt) (w' := zp a0 t718 43) (W' := (t718.1 a0 44).toInt) zc0 (fun j h0 => by rw [at718_43, ws705 j h0]; split <;> split <;> first | rfl | (exfalso; omega)) (by omega) (by omega) (by omega) (by omega)
                                          exact ⟨y.1, by omega⟩
                                        refine zg_goto X 12 dX11_expression_269 (by decide) ?_
                                        refine zg_sub [0, 1, 2] rfl ?_
                                        exact ihLp8 _ v660 hI hS at718_5 E  (by omega) (by omega) (fun _ => zpu.1) (fun j h0 h1 => by have y := hk j h0 (by omega); have x := zc2 j h0 (by omega); rw [at718_39, at718_40]; exact ⟨x.1.trans y.1, x.2.trans y.2⟩)
                                      · skip
                                        replace E := zIf_f c695 E
                                        have zts := ht693_fact0.un.resolve_right (fun z => absurd z.1 (by omega))
                                        refine zg_iconst X 1 dX11_expression_229 (by decide) (fun v722 _ hv722 => ?_)
                                        replace E := zLet_s (zcst hv722 (by decide)) E
                                        refine zg_goto X 234 dX11_expression_230 (by decide) ?_
                                        refine zg_cVv (As := [.int v722]) (st := []) X ha0 rfl (by decide) rfl (t_X11_comesOut l d L kd κ _ hI a0 ha0 v722 ((σ.1 a0 38).toInt) (by omega) (hx)) mk_X11_306 mc_X11_comesOut mz_X11 mi_X11_comesOut ml_X11_comesOut (na := 1) ⟨md_X11.1, md_X11.2, by decide +kernel⟩ rfl ⟨by decide, by decide⟩ (Nat.le_of_ble_eq_true rfl) dX11_expression_234 (fun t723 hq => ?_)
                                        obtain ⟨hF, ⟨ht723_fact0, ht723_fact1, ht723_fact2, ht723_fact3⟩, hI, g724⟩ := hq
                                        replace E := zLet_s hF E
                                        have ft723_11 : (t723.1 a0 11).toInt = (τ21.1 a0 11).toInt := by rw [g724.2.1 11 (by decide)]
                                        have ft723_12 : (t723.1 a0 12).toInt = (τ21.1 a0 12).toInt := by rw [g724.2.1 12 (by decide)]
                                        have ft723_13 : (t723.1 a0 13).toInt = (τ21.1 a0 13).toInt := by rw [g724.2.1 13 (by decide)]
                                        have hS := hS.tr g724 (by decide) (by decide)
                                        have at723_5 := (zp_same hI ha0 g724 5 rfl (by decide) (by decide)).trans A5_Lp21
                                        have at723_43 := zp_same hI ha0 g724 43 rfl (by decide) (by decide)
                                        have zc0 := ht723_fact0
                                        have zc1 := ht723_fact1
                                        have zc2 := ht723_fact2
                                        have zc3 := ht723_fact3
                                        clear ht723_fact3 ht723_fact2 ht723_fact1 ht723_fact0
                                        have zc4 := zc0.stop
                                        have zc7 := zc0.at
                                        obtain ⟨y38, hy38⟩ : ∃ x : Int, x = (t723.1 a0 38).toInt := ⟨_, rfl⟩
                                        obtain ⟨y44, hy44⟩ : ∃ x : Int, x = (t723.1 a0 44).toInt := ⟨_, rfl⟩
                                        have zc5 : y44 = 0 → nO (zp a0 τ21 43) y44.toNat = 0 := fun z => by rw [z]; rfl
                                        rw [← hy44] at zc0 zc1 zc3 zc4 zc7
                                        rw [← hy38] at zc0 zc1 zc7
                                        replace zc4 := zHide.mk zc4
                                        replace zc3 := zHide.mk zc3
                                        replace zc5 := zHide.mk zc5
                                        have zc8 := zc4.un.2.1 (zc3.un.imp id (fun z => ⟨z.1, z.2.imp id (fun y => y.2)⟩))
                                        have zc9 : v722.toInt = 0 → y44 ≤ 3 * nO (zp a0 τ21 43) y44.toNat := fun h0 => zc4.un.1 (zc3.un.imp id (fun z => ⟨z.1, z.2.resolve_right (fun y => absurd y.1 (by omega))⟩))
                                        refine zg_aload_n X 2 rfl dX11_expression_237 ?_
                                        refine fg_X11_98 X hI ha0 dX11_expression_238 (fun v726 ev726 hv726 => ?_)
                                        replace E := zLet_s (zgr ev726) E
                                        refine zg_aload_n X 2 rfl dX11_expression_241 ?_
                                        refine fg_X11_297 X hI ha0 dX11_expression_242 (fun v727 ev727 hv727 => ?_)
                                        replace E := zLet_s ev727 E
                                        have kv727 : (t723.1 a0 44).toInt = v727.toInt := by rw [ev727]
                                        refine zg_aload_n X 2 rfl dX11_expression_245 ?_
                                        refine fg_X11_20 X hI ha0 dX11_expression_246 (fun v728 ev728 hv728 => ?_)
                                        replace E := zLet_s (zgr ev728) E
                                        refine zg_aload_n X 2 rfl dX11_expression_249 ?_
                                        refine fg_X11_209 X hI ha0 dX11_expression_250 (fun v729 ev729 hv729 => ?_)
                                        replace E := zLet_s ev729 E
                                        have kv729 : (t723.1 a0 11).toInt = v729.toInt := by rw [ev729]
                                        refine ag_105 X hI hv728 (by omega) (by omega) dX11_expression_253 (fun v730 ev730 _ => ?_)
                                        replace E := zLet_s ev730 E
                                        have qv730 := zp_ld ev728 ev730
                                        rw [at723_5] at qv730
                                        rw [← kv729] at qv730
                                        rw [show (t723.1 a0 11).toInt = (τ21.1 a0 11).toInt by omega, ← zA5] at qv730
                                        refine as_143 X hI hv726 (by omega) (by omega) dX11_expression_254 (fun s731 es731 hI => ?_)
                                        replace E := zLet_s es731 E
                                        have g732 := (zSame.rf (o := a0) (Wf := []) (Wa := [143]) (L := L) (kd := kd) (σ := t723)).a ha0 hv726 es731 rfl (by decide)
                                        have rs731 := zp_st (σ := t723) (σ2 := s731) (i := v727) (x := v730) ev726 es731 (by omega)
                                        have ws731 := rs731
                                        rw [at723_43] at ws731
                                        rw [← kv727] at ws731
                                        have fs731_11 : (s731.1 a0 11).toInt = (t723.1 a0 11).toInt := by rw [g732.2.1 11 (by decide)]
                                        have fs731_12 : (s731.1 a0 12).toInt = (t723.1 a0 12).toInt := by rw [g732.2.1 12 (by decide)]
                                        have fs731_13 : (s731.1 a0 13).toInt = (t723.1 a0 13).toInt := by rw [g732.2.1 13 (by decide)]
                                        have fs731_38 : (s731.1 a0 38).toInt = (t723.1 a0 38).toInt := by rw [g732.2.1 38 (by decide)]
                                        have fs731_44 : (s731.1 a0 44).toInt = (t723.1 a0 44).toInt := by rw [g732.2.1 44 (by decide)]
                                        have hS := hS.tr g732 (by decide) (by decide)
                                        have as731_5 := (zp_same hI ha0 g732 5 rfl (by decide) (by decide)).trans at723_5
                                        have as731_39 := zp_same hI ha0 g732 39 rfl (by decide) (by decide)
                                        have as731_40 := zp_same hI ha0 g732 40 rfl (by decide) (by decide)
                                        have e734 := g732.v ev727 (by decide)
                                        refine zg_aload_n X 2 rfl dX11_expression_255 ?_
                                        refine zg_dup X dX11_expression_256 rfl ?_
                                        refine fg_X11_297 X hI ha0 dX11_expression_257 (fun v736 ev736 hv736 => ?_)
                                        replace E := zLet_s ev736 E
                                        have kv736 : (s731.1 a0 44).toInt = v736.toInt := by rw [ev736]
                                        have mv736 : v736.toInt = v727.toInt := by rw [ev736, ← e734]
                                        refine zg_iconst X 1 dX11_expression_260 (by decide) (fun v737 _ hv737 => ?_)
                                        replace E := zLet_s (zcst hv737 (by decide)) E
                                        refine zg_iadd X dX11_expression_261 (by omega) (by omega) (fun v738 ev738 hv738 => ?_)
                                        replace E := zLet_s ev738 E
                                        refine fp_X11_297 X hI ha0 ⟨by omega, by omega⟩ dX11_expression_262 (fun s739 es739 hI => ?_)
                                        replace E := zLet_s es739 E
                                        have g740 := (zSame.rf (o := a0) (Wf := [44]) (Wa := []) (L := L) (kd := kd) (σ := s731)).f ha0 es739 rfl
                                        have fs739_11 : (s739.1 a0 11).toInt = (s731.1 a0 11).toInt := by rw [g740.2.1 11 (by decide)]
                                        have fs739_12 : (s739.1 a0 12).toInt = (s731.1 a0 12).toInt := by rw [g740.2.1 12 (by decide)]
                                        have fs739_13 : (s739.1 a0 13).toInt = (s731.1 a0 13).toInt := by rw [g740.2.1 13 (by decide)]
                                        have fs739_38 : (s739.1 a0 38).toInt = (s731.1 a0 38).toInt := by rw [g740.2.1 38 (by decide)]
                                        have hS := hS.tr g740 (by decide) (by decide)
                                        have as739_5 := (zp_same hI ha0 g740 5 rfl (by decide) (by decide)).trans as731_5
                                        have as739_39 := (zp_same hI ha0 g740 39 rfl (by decide) (by decide)).trans as731_39
                                        have as739_40 := (zp_same hI ha0 g740 40 rfl (by decide) (by decide)).trans as731_40
                                        have as739_43 := zp_same hI ha0 g740 43 rfl (by decide) (by decide)
                                        have fs739_44 : (s739.1 a0 44).toInt = v738.toInt := by rw [es739]; exact congrArg _ (zu_s _ _ _ _)
                                        have e743 : v738 = s739.1 a0 44 := by rw [es739]; exact zm_s
                                        refine zg_aload_n X 2 rfl dX11_expression_265 ?_
                                        refine zg_cVv (As := []) (st := []) X ha0 rfl (by decide) rfl (t_X11_goesOn l d L kd κ _ hI a0 ha0   ) mk_X11_227 mc_X11_goesOn mz_X11 mi_X11_goesOn ml_X11_goesOn (na := 0) ⟨md_X11.1, md_X11.2, by decide +kernel⟩ rfl ⟨by decide, by decide⟩ (Nat.le_of_ble_eq_true rfl) dX11_expression_266 (fun t744 hq => ?_)
                                        obtain ⟨hF, ht744_fact0, hI, g745⟩ := hq
                                        replace E := zLet_s hF E
                                        have ft744_12 : (t744.1 a0 12).toInt = (s739.1 a0 12).toInt := by rw [g745.2.1 12 (by decide)]
                                        have ft744_38 : (t744.1 a0 38).toInt = (s739.1 a0 38).toInt := by rw [g745.2.1 38 (by decide)]
                                        have ft744_44 : (t744.1 a0 44).toInt = (s739.1 a0 44).toInt := by rw [g745.2.1 44 (by decide)]
                                        have hS := hS.tr g745 (by decide) (by decide)
                                        have at744_5 := (zp_same hI ha0 g745 5 rfl (by decide) (by decide)).trans as739_5
                                        have at744_39 := (zp_same hI ha0 g745 39 rfl (by decide) (by decide)).trans as739_39
                                        have at744_40 := (zp_same hI ha0 g745 40 rfl (by decide) (by decide)).trans as739_40
                                        have at744_43 := (zp_same hI ha0 g745 43 rfl (by decide) (by decide)).trans as739_43
                                        have zpu : zEs (zp a0 t744 43) (zp a0 t744 39) (zp a0 t744 40) (t744.1 a0 44).toInt (t744.1 a0 38).toInt (σ.1 a0 38).toInt 0 ∧ nO (zp a0 t744 43) (t744.1 a0 44).toInt.toNat = nO (zp a0 τ21 43) (τ21.1 a0 44).toInt.toNat := by
                                          rw [at744_39, at744_40, show (t744.1 a0 38).toInt = y38 by omega]
                                          have y := zEs.pushS (x := v730.toInt) (w' := zp a0 t744 43) (W' := (t744.1 a0 44).toInt) zc0 (fun j h0 => by rw [at744_43, ws731 j h0]; split <;> split <;> first | rfl | (exfalso; omega)) (by omega) (by omega) (by omega) (by omega)
                                          exact ⟨y.1, by omega⟩
                                        refine zg_goto X 12 dX11_expression_269 (by decide) ?_
                                        refine zg_sub [0, 1, 2] rfl ?_
                                        exact ihLp8 _ v660 hI hS at744_5 E  (by omega) (by omega) (fun _ => zpu.1) (fun j h0 h1 => by have y := hk j h0 (by omega); have x := zc2 j h0 (by omega); rw [at744_39, at744_40]; exact ⟨x.1.trans y.1, x.2.trans y.2⟩)
                                  · omega
                        · skip
                          replace E := zIf_t c363 E
                          refine zg_aload_n X 2 rfl dX11_expression_113 ?_
                          refine zg_iconst X 0 dX11_expression_114 (by decide) (fun v748 _ hv748 => ?_)
                          replace E := zLet_s (zcst hv748 (by decide)) E
                          refine zg_cVv (As := [.int v748]) (st := []) X ha0 rfl (by decide) rfl (t_X11_comesOut l d L kd κ _ hI a0 ha0 v748 ((σ.1 a0 38).toInt) (by omega) (hx)) mk_X11_306 mc_X11_comesOut mz_X11 mi_X11_comesOut ml_X11_comesOut (na := 1) ⟨md_X11.1, md_X11.2, by decide +kernel⟩ rfl ⟨by decide, by decide⟩ (Nat.le_of_ble_eq_true rfl) dX11_expression_115 (fun t749 hq => ?_)
                          obtain ⟨hF, ⟨ht749_fact0, ht749_fact1, ht749_fact2, ht749_fact3⟩, hI, g750⟩ := hq
                          replace E := zLet_s hF E
                          have ft749_11 : (t749.1 a0 11).toInt = (τ21.1 a0 11).toInt := by rw [g750.2.1 11 (by decide)]
                          have ft749_12 : (t749.1 a0 12).toInt = (τ21.1 a0 12).toInt := by rw [g750.2.1 12 (by decide)]
                          have ft749_13 : (t749.1 a0 13).toInt = (τ21.1 a0 13).toInt := by rw [g750.2.1 13 (by decide)]
                          have hS := hS.tr g750 (by decide) (by decide)
                          have at749_5 := (zp_same hI ha0 g750 5 rfl (by decide) (by decide)).trans A5_Lp21
                          have at749_43 := zp_same hI ha0 g750 43 rfl (by decide) (by decide)
                          have e751 := g750.v ev362 (by decide)
                          have zc0 := ht749_fact0
                          have zc1 := ht749_fact1
                          have zc2 := ht749_fact2
                          have zc3 := ht749_fact3
                          clear ht749_fact3 ht749_fact2 ht749_fact1 ht749_fact0
                          have zc4 := zc0.stop
                          have zc7 := zc0.at
                          obtain ⟨y38, hy38⟩ : ∃ x : Int, x = (t749.1 a0 38).toInt := ⟨_, rfl⟩
                          obtain ⟨y44, hy44⟩ : ∃ x : Int, x = (t749.1 a0 44).toInt := ⟨_, rfl⟩
                          have zc5 : y44 = 0 → nO (zp a0 τ21 43) y44.toNat = 0 := fun z => by rw [z]; rfl
                          rw [← hy44] at zc0 zc1 zc3 zc4 zc7
                          rw [← hy38] at zc0 zc1 zc7
                          replace zc4 := zHide.mk zc4
                          replace zc3 := zHide.mk zc3
                          replace zc5 := zHide.mk zc5
                          have zc6 : 1 ≤ y44 ∧ zp a0 τ21 43 (y44 - 1) = 6 := by
                            rcases zc3.un with z | z
                            · exact absurd (zc5.un z) (by omega)
                            · exact ⟨z.1, z.2.resolve_right (fun y => absurd y.1 (by omega))⟩
                          have zpo := zEs.pop (W' := y44 - 1) zc0 zc6.1 zc6.2 rfl
                          refine zg_aload_n X 2 rfl dX11_expression_118 ?_
                          refine zg_dup X dX11_expression_119 rfl ?_
                          refine fg_X11_297 X hI ha0 dX11_expression_120 (fun v752 ev752 hv752 => ?_)
                          replace E := zLet_s ev752 E
                          have kv752 : (t749.1 a0 44).toInt = v752.toInt := by rw [ev752]
                          refine zg_iconst X 1 dX11_expression_123 (by decide) (fun v753 _ hv753 => ?_)
                          replace E := zLet_s (zcst hv753 (by decide)) E
                          refine zg_isub X dX11_expression_124 (by omega) (by omega) (fun v754 ev754 hv754 => ?_)
                          replace E := zLet_s ev754 E
                          refine fp_X11_297 X hI ha0 ⟨by omega, by omega⟩ dX11_expression_125 (fun s755 es755 hI => ?_)
                          replace E := zLet_s es755 E
                          have g756 := (zSame.rf (o := a0) (Wf := [44]) (Wa := []) (L := L) (kd := kd) (σ := t749)).f ha0 es755 rfl
                          have fs755_11 : (s755.1 a0 11).toInt = (t749.1 a0 11).toInt := by rw [g756.2.1 11 (by decide)]
                          have fs755_12 : (s755.1 a0 12).toInt = (t749.1 a0 12).toInt := by rw [g756.2.1 12 (by decide)]
                          have fs755_13 : (s755.1 a0 13).toInt = (t749.1 a0 13).toInt := by rw [g756.2.1 13 (by decide)]
                          have fs755_38 : (s755.1 a0 38).toInt = (t749.1 a0 38).toInt := by rw [g756.2.1 38 (by decide)]
                          have hS := hS.tr g756 (by decide) (by decide)
                          have as755_5 := (zp_same hI ha0 g756 5 rfl (by decide) (by decide)).trans at749_5
                          have as755_39 := zp_same hI ha0 g756 39 rfl (by decide) (by decide)
                          have as755_40 := zp_same hI ha0 g756 40 rfl (by decide) (by decide)
                          have as755_43 := (zp_same hI ha0 g756 43 rfl (by decide) (by decide)).trans at749_43
                          have e757 := g756.v e751 (by decide)
                          have fs755_44 : (s755.1 a0 44).toInt = v754.toInt := by rw [es755]; exact congrArg _ (zu_s _ _ _ _)
                          have e758 : v754 = s755.1 a0 44 := by rw [es755]; exact zm_s
                          refine zg_aload_n X 2 rfl dX11_expression_128 ?_
                          refine zg_dup X dX11_expression_129 rfl ?_
                          refine fg_X11_233 X hI ha0 dX11_expression_130 (fun v759 ev759 hv759 => ?_)
                          replace E := zLet_s ev759 E
                          have kv759 : (s755.1 a0 12).toInt = v759.toInt := by rw [ev759]
                          have mv759 : v759.toInt = v362.toInt := by rw [ev759, ← e757]
                          refine zg_iconst X 1 dX11_expression_133 (by decide) (fun v760 _ hv760 => ?_)
                          replace E := zLet_s (zcst hv760 (by decide)) E
                          refine zg_isub X dX11_expression_134 (by omega) (by omega) (fun v761 ev761 hv761 => ?_)
                          replace E := zLet_s ev761 E
                          refine fp_X11_233 X hI ha0 ⟨by omega, by omega⟩ dX11_expression_135 (fun s762 es762 hI => ?_)
                          replace E := zLet_s es762 E
                          have g763 := (zSame.rf (o := a0) (Wf := [12]) (Wa := []) (L := L) (kd := kd) (σ := s755)).f ha0 es762 rfl
                          have fs762_11 : (s762.1 a0 11).toInt = (s755.1 a0 11).toInt := by rw [g763.2.1 11 (by decide)]
                          have fs762_13 : (s762.1 a0 13).toInt = (s755.1 a0 13).toInt := by rw [g763.2.1 13 (by decide)]
                          have fs762_38 : (s762.1 a0 38).toInt = (s755.1 a0 38).toInt := by rw [g763.2.1 38 (by decide)]
                          have fs762_44 : (s762.1 a0 44).toInt = (s755.1 a0 44).toInt := by rw [g763.2.1 44 (by decide)]
                          have hS := hS.tr g763 (by decide) (by decide)
                          have as762_5 := (zp_same hI ha0 g763 5 rfl (by decide) (by decide)).trans as755_5
                          have as762_39 := (zp_same hI ha0 g763 39 rfl (by decide) (by decide)).trans as755_39
                          have as762_40 := (zp_same hI ha0 g763 40 rfl (by decide) (by decide)).trans as755_40
                          have as762_43 := (zp_same hI ha0 g763 43 rfl (by decide) (by decide)).trans as755_43
                          have fs762_12 : (s762.1 a0 12).toInt = v761.toInt := by rw [es762]; exact congrArg _ (zu_s _ _ _ _)
                          have e765 : v761 = s762.1 a0 12 := by rw [es762]; exact zm_s
                          refine zg_aload_n X 2 rfl dX11_expression_138 ?_
                          refine zg_cVv (As := []) (st := []) X ha0 rfl (by decide) rfl (t_X11_goesOn l d L kd κ _ hI a0 ha0   ) mk_X11_227 mc_X11_goesOn mz_X11 mi_X11_goesOn ml_X11_goesOn (na := 0) ⟨md_X11.1, md_X11.2, by decide +kernel⟩ rfl ⟨by decide, by decide⟩ (Nat.le_of_ble_eq_true rfl) dX11_expression_139 (fun t766 hq => ?_)
                          obtain ⟨hF, ht766_fact0, hI, g767⟩ := hq
                          replace E := zLet_s hF E
                          have ft766_12 : (t766.1 a0 12).toInt = (s762.1 a0 12).toInt := by rw [g767.2.1 12 (by decide)]
                          have ft766_38 : (t766.1 a0 38).toInt = (s762.1 a0 38).toInt := by rw [g767.2.1 38 (by decide)]
                          have ft766_44 : (t766.1 a0 44).toInt = (s762.1 a0 44).toInt := by rw [g767.2.1 44 (by decide)]
                          have hS := hS.tr g767 (by decide) (by decide)
                          have at766_5 := (zp_same hI ha0 g767 5 rfl (by decide) (by decide)).trans as762_5
                          have at766_39 := (zp_same hI ha0 g767 39 rfl (by decide) (by decide)).trans as762_39
                          have at766_40 := (zp_same hI ha0 g767 40 rfl (by decide) (by decide)).trans as762_40
                          have at766_43 := (zp_same hI ha0 g767 43 rfl (by decide) (by decide)).trans as762_43
                          have zbn : nO (zp a0 t766 43) (t766.1 a0 44).toInt.toNat = nO (zp a0 τ21 43) (τ21.1 a0 44).toInt.toNat - 1 := by rw [at766_43, show (t766.1 a0 44).toInt = y44 - 1 by omega]; omega
                          have zbm : (t766.1 a0 44).toInt ≤ 3 * nO (zp a0 t766 43) (t766.1 a0 44).toInt.toNat + 2 := by rw [at766_43, show (t766.1 a0 44).toInt = y44 - 1 by omega]; exact zpo.2.2
                          refine zg_goto X 96 dX11_expression_142 (by decide) ?_
                          refine zg_sub [0, 1, 2] rfl ?_
                          exact ihLp21 _  hI hS at766_5 E  (by omega) (by omega) (by rw [at766_43, at766_39, at766_40, show (t766.1 a0 44).toInt = y44 - 1 by omega, show (t766.1 a0 38).toInt = y38 by omega]; exact zpo.1) (fun j h0 h1 => by have y := hk j h0 (by omega); have x := zc2 j h0 (by omega); rw [at766_39, at766_40]; exact ⟨x.1.trans y.1, x.2.trans y.2⟩)
                  refine zg_sub [0, 1, 2] rfl ?_
                  exact Lp21 10000 _  hI hS at17_5 E  (by omega) (by omega) (by rw [at17_43, show (t17.1 a0 44).toInt = (τ12.1 a0 44).toInt by omega]; exact zEs.operand (hx (by omega)) (fun j h0 h1 => zu1 j h0 (Or.inl h1)) (zu2 (by omega)) (by omega) (by omega)) (fun j h0 h1 => by have y := hk j h0 (by omega); have x := zu1 j h0 (by omega); exact ⟨x.1.trans y.1, x.2.trans y.2⟩)
                · skip
                  replace E := zIf_t c20 E
                  exact ret _ _ _ dX11_expression_95 ⟨E.symm.trans hR, ⟨⟨(by omega), (by omega), (fun h0 => by exfalso; omega), (fun j h0 h1 => by have y := hk j h0 (by omega); have x := zu1 j h0 (by omega); exact ⟨x.1.trans y.1, x.2.trans y.2⟩)⟩, hI, hS⟩⟩
              · skip
                replace E := zIf_f c16 E
                have zi := ht14_fact0.un.resolve_right (fun z => absurd z.1 (by omega))
                refine zg_aload_n X 2 rfl dX11_expression_32 ?_
                refine fg_X11_233 X hI ha0 dX11_expression_33 (fun v770 ev770 hv770 => ?_)
                replace E := zLet_s ev770 E
                have kv770 : (τ12.1 a0 12).toInt = v770.toInt := by rw [ev770]
                refine zg_bipush X 6 dX11_expression_36 (by decide) (fun v771 _ hv771 => ?_)
                replace E := zLet_s (zcst hv771 (by decide)) E
                refine zg_icmp_ne X 46 dX11_expression_38 (by decide) (fun c772 => ?_) (fun c772 => ?_)
                · skip
                  replace E := zIf_f c772 E
                  refine zg_aload_n X 2 rfl dX11_expression_46 ?_
                  refine zg_dup X dX11_expression_47 rfl ?_
                  refine fg_X11_233 X hI ha0 dX11_expression_48 (fun v773 ev773 hv773 => ?_)
                  replace E := zLet_s ev773 E
                  have kv773 : (τ12.1 a0 12).toInt = v773.toInt := by rw [ev773]
                  have mv773 : v773.toInt = v770.toInt := by rw [ev773, ← ev770]
                  refine zg_iconst X 1 dX11_expression_51 (by decide) (fun v774 _ hv774 => ?_)
                  replace E := zLet_s (zcst hv774 (by decide)) E
                  refine zg_iadd X dX11_expression_52 (by omega) (by omega) (fun v775 ev775 hv775 => ?_)
                  replace E := zLet_s ev775 E
                  refine fp_X11_233 X hI ha0 ⟨by omega, by omega⟩ dX11_expression_53 (fun s776 es776 hI => ?_)
                  replace E := zLet_s es776 E
                  have g777 := (zSame.rf (o := a0) (Wf := [12]) (Wa := []) (L := L) (kd := kd) (σ := τ12)).f ha0 es776 rfl
                  have fs776_11 : (s776.1 a0 11).toInt = (τ12.1 a0 11).toInt := by rw [g777.2.1 11 (by decide)]
                  have fs776_13 : (s776.1 a0 13).toInt = (τ12.1 a0 13).toInt := by rw [g777.2.1 13 (by decide)]
                  have fs776_38 : (s776.1 a0 38).toInt = (τ12.1 a0 38).toInt := by rw [g777.2.1 38 (by decide)]
                  have fs776_44 : (s776.1 a0 44).toInt = (τ12.1 a0 44).toInt := by rw [g777.2.1 44 (by decide)]
                  have hS := hS.tr g777 (by decide) (by decide)
                  have as776_5 := (zp_same hI ha0 g777 5 rfl (by decide) (by decide)).trans A5_Lp12
                  have as776_39 := zp_same hI ha0 g777 39 rfl (by decide) (by decide)
                  have as776_40 := zp_same hI ha0 g777 40 rfl (by decide) (by decide)
                  have as776_43 := zp_same hI ha0 g777 43 rfl (by decide) (by decide)
                  have fs776_12 : (s776.1 a0 12).toInt = v775.toInt := by rw [es776]; exact congrArg _ (zu_s _ _ _ _)
                  have e778 : v775 = s776.1 a0 12 := by rw [es776]; exact zm_s
                  refine zg_aload_n X 2 rfl dX11_expression_56 ?_
                  refine zg_cVv (As := []) (st := []) X ha0 rfl (by decide) rfl (t_X11_goesOn l d L kd κ _ hI a0 ha0   ) mk_X11_227 mc_X11_goesOn mz_X11 mi_X11_goesOn ml_X11_goesOn (na := 0) ⟨md_X11.1, md_X11.2, by decide +kernel⟩ rfl ⟨by decide, by decide⟩ (Nat.le_of_ble_eq_true rfl) dX11_expression_57 (fun t779 hq => ?_)
                  obtain ⟨hF, ht779_fact0, hI, g780⟩ := hq
                  replace E := zLet_s hF E
                  have ft779_12 : (t779.1 a0 12).toInt = (s776.1 a0 12).toInt := by rw [g780.2.1 12 (by decide)]
                  have ft779_38 : (t779.1 a0 38).toInt = (s776.1 a0 38).toInt := by rw [g780.2.1 38 (by decide)]
                  have ft779_44 : (t779.1 a0 44).toInt = (s776.1 a0 44).toInt := by rw [g780.2.1 44 (by decide)]
                  have hS := hS.tr g780 (by decide) (by decide)
                  have at779_5 := (zp_same hI ha0 g780 5 rfl (by decide) (by decide)).trans as776_5
                  have at779_39 := (zp_same hI ha0 g780 39 rfl (by decide) (by decide)).trans as776_39
                  have at779_40 := (zp_same hI ha0 g780 40 rfl (by decide) (by decide)).trans as776_40
                  have at779_43 := (zp_same hI ha0 g780 43 rfl (by decide) (by decide)).trans as776_43
                  refine zg_aload_n X 2 rfl dX11_expression_60 ?_
                  refine fg_X11_98 X hI ha0 dX11_expression_61 (fun v782 ev782 hv782 => ?_)
                  replace E := zLet_s (zgr ev782) E
                  refine zg_aload_n X 2 rfl dX11_expression_64 ?_
                  refine fg_X11_297 X hI ha0 dX11_expression_65 (fun v783 ev783 hv783 => ?_)
                  replace E := zLet_s ev783 E
                  have kv783 : (t779.1 a0 44).toInt = v783.toInt := by rw [ev783]
                  refine zg_bipush X 6 dX11_expression_68 (by decide) (fun v784 _ hv784 => ?_)
                  replace E := zLet_s (zcst hv784 (by decide)) E
                  refine as_143 X hI hv782 (by omega) (by omega) dX11_expression_70 (fun s785 es785 hI => ?_)
                  replace E := zLet_s es785 E
                  have g786 := (zSame.rf (o := a0) (Wf := []) (Wa := [143]) (L := L) (kd := kd) (σ := t779)).a ha0 hv782 es785 rfl (by decide)
                  have rs785 := zp_st (σ := t779) (σ2 := s785) (i := v783) (x := v784) ev782 es785 (by omega)
                  have ws785 := rs785
                  rw [at779_43] at ws785
                  rw [← kv783] at ws785
                  have fs785_11 : (s785.1 a0 11).toInt = (t779.1 a0 11).toInt := by rw [g786.2.1 11 (by decide)]
                  have fs785_12 : (s785.1 a0 12).toInt = (t779.1 a0 12).toInt := by rw [g786.2.1 12 (by decide)]
                  have fs785_13 : (s785.1 a0 13).toInt = (t779.1 a0 13).toInt := by rw [g786.2.1 13 (by decide)]
                  have fs785_38 : (s785.1 a0 38).toInt = (t779.1 a0 38).toInt := by rw [g786.2.1 38 (by decide)]
                  have fs785_44 : (s785.1 a0 44).toInt = (t779.1 a0 44).toInt := by rw [g786.2.1 44 (by decide)]
                  have hS := hS.tr g786 (by decide) (by decide)
                  have as785_5 := (zp_same hI ha0 g786 5 rfl (by decide) (by decide)).trans at779_5
                  have as785_39 := (zp_same hI ha0 g786 39 rfl (by decide) (by decide)).trans at779_39
                  have as785_40 := (zp_same hI ha0 g786 40 rfl (by decide) (by decide)).trans at779_40
                  have e788 := g786.v ev783 (by decide)
                  refine zg_aload_n X 2 rfl dX11_expression_71 ?_
                  refine zg_dup X dX11_expression_72 rfl ?_
                  refine fg_X11_297 X hI ha0 dX11_expression_73 (fun v789 ev789 hv789 => ?_)
                  replace E := zLet_s ev789 E
                  have kv789 : (s785.1 a0 44).toInt = v789.toInt := by rw [ev789]
                  have mv789 : v789.toInt = v783.toInt := by rw [ev789, ← e788]
                  refine zg_iconst X 1 dX11_expression_76 (by decide) (fun v790 _ hv790 => ?_)
                  replace E := zLet_s (zcst hv790 (by decide)) E
                  refine zg_iadd X dX11_expression_77 (by omega) (by omega) (fun v791 ev791 hv791 => ?_)
                  replace E := zLet_s ev791 E
                  refine fp_X11_297 X hI ha0 ⟨by omega, by omega⟩ dX11_expression_78 (fun s792 es792 hI => ?_)
                  replace E := zLet_s es792 E
                  have g793 := (zSame.rf (o := a0) (Wf := [44]) (Wa := []) (L := L) (kd := kd) (σ := s785)).f ha0 es792 rfl
                  have fs792_11 : (s792.1 a0 11).toInt = (s785.1 a0 11).toInt := by rw [g793.2.1 11 (by decide)]
                  have fs792_12 : (s792.1 a0 12).toInt = (s785.1 a0 12).toInt := by rw [g793.2.1 12 (by decide)]
                  have fs792_13 : (s792.1 a0 13).toInt = (s785.1 a0 13).toInt := by rw [g793.2.1 13 (by decide)]
                  have fs792_38 : (s792.1 a0 38).toInt = (s785.1 a0 38).toInt := by rw [g793.2.1 38 (by decide)]
                  have hS := hS.tr g793 (by decide) (by decide)
                  have as792_5 := (zp_same hI ha0 g793 5 rfl (by decide) (by decide)).trans as785_5
                  have as792_39 := (zp_same hI ha0 g793 39 rfl (by decide) (by decide)).trans as785_39
                  have as792_40 := (zp_same hI ha0 g793 40 rfl (by decide) (by decide)).trans as785_40
                  have as792_43 := zp_same hI ha0 g793 43 rfl (by decide) (by decide)
                  have fs792_44 : (s792.1 a0 44).toInt = v791.toInt := by rw [es792]; exact congrArg _ (zu_s _ _ _ _)
                  have e795 : v791 = s792.1 a0 44 := by rw [es792]; exact zm_s
                  have zpu : zEs (zp a0 s792 43) (zp a0 s792 39) (zp a0 s792 40) (s792.1 a0 44).toInt (s792.1 a0 38).toInt (σ.1 a0 38).toInt 0 ∧ nO (zp a0 s792 43) (s792.1 a0 44).toInt.toNat = nO (zp a0 τ12 43) (τ12.1 a0 44).toInt.toNat + 1 := by
                    rw [as792_39, as792_40, show (s792.1 a0 38).toInt = (τ12.1 a0 38).toInt by omega]
                    exact zEs.pushO (hx (by omega)) (fun j h0 => by rw [as792_43, ws785 j h0]; split <;> split <;> first | omega | rfl | (exfalso; omega)) (by omega) (by omega) (by omega)
                  refine zg_goto X 23 dX11_expression_81 (by decide) ?_
                  refine zg_sub [0, 1, 2] rfl ?_
                  exact ihLp12 _  hI hS as792_5 E  (by omega) (by omega) (fun _ => zpu.1) (fun j h0 h1 => by have y := hk j h0 (by omega); rw [as792_39, as792_40]; exact y)
                · skip
                  replace E := zIf_t c772 E
                  refine zg_aload_n X 2 rfl dX11_expression_41 ?_
                  refine zg_iconst X 2 dX11_expression_42 (by decide) (fun v796 _ hv796 => ?_)
                  replace E := zLet_s (zcst hv796 (by decide)) E
                  refine zg_cVv (As := [.int v796]) (st := []) X ha0 rfl (by decide) rfl (t_X11_fail l d L kd κ _ hI a0 ha0 v796  (by omega)) mk_X11_221 mc_X11_fail mz_X11 mi_X11_fail ml_X11_fail (na := 1) ⟨md_X11.1, md_X11.2, by decide +kernel⟩ rfl ⟨by decide, by decide⟩ (Nat.le_of_ble_eq_true rfl) dX11_expression_43 (fun t797 hq => ?_)
                  obtain ⟨hF, ht797_fact0, hI, g798⟩ := hq
                  replace E := zLet_s hF E
                  have ft797_11 : (t797.1 a0 11).toInt = (τ12.1 a0 11).toInt := by rw [g798.2.1 11 (by decide)]
                  have ft797_12 : (t797.1 a0 12).toInt = (τ12.1 a0 12).toInt := by rw [g798.2.1 12 (by decide)]
                  have ft797_38 : (t797.1 a0 38).toInt = (τ12.1 a0 38).toInt := by rw [g798.2.1 38 (by decide)]
                  have ft797_44 : (t797.1 a0 44).toInt = (τ12.1 a0 44).toInt := by rw [g798.2.1 44 (by decide)]
                  have hS := hS.tr g798 (by decide) (by decide)
                  have at797_5 := (zp_same hI ha0 g798 5 rfl (by decide) (by decide)).trans A5_Lp12
                  have at797_39 := zp_same hI ha0 g798 39 rfl (by decide) (by decide)
                  have at797_40 := zp_same hI ha0 g798 40 rfl (by decide) (by decide)
                  have at797_43 := zp_same hI ha0 g798 43 rfl (by decide) (by decide)
                  have e799 := g798.v ev770 (by decide)
                  refine zg_aload_n X 2 rfl dX11_expression_46 ?_
                  refine zg_dup X dX11_expression_47 rfl ?_
                  refine fg_X11_233 X hI ha0 dX11_expression_48 (fun v800 ev800 hv800 => ?_)
                  replace E := zLet_s ev800 E
                  have kv800 : (t797.1 a0 12).toInt = v800.toInt := by rw [ev800]
                  have mv800 : v800.toInt = v770.toInt := by rw [ev800, ← e799]
                  refine zg_iconst X 1 dX11_expression_51 (by decide) (fun v801 _ hv801 => ?_)
                  replace E := zLet_s (zcst hv801 (by decide)) E
                  refine zg_iadd X dX11_expression_52 (by omega) (by omega) (fun v802 ev802 hv802 => ?_)
                  replace E := zLet_s ev802 E
                  refine fp_X11_233 X hI ha0 ⟨by omega, by omega⟩ dX11_expression_53 (fun s803 es803 hI => ?_)
                  replace E := zLet_s es803 E
                  have g804 := (zSame.rf (o := a0) (Wf := [12]) (Wa := []) (L := L) (kd := kd) (σ := t797)).f ha0 es803 rfl
                  have fs803_11 : (s803.1 a0 11).toInt = (t797.1 a0 11).toInt := by rw [g804.2.1 11 (by decide)]
                  have fs803_13 : (s803.1 a0 13).toInt = (t797.1 a0 13).toInt := by rw [g804.2.1 13 (by decide)]
                  have fs803_38 : (s803.1 a0 38).toInt = (t797.1 a0 38).toInt := by rw [g804.2.1 38 (by decide)]
                  have fs803_44 : (s803.1 a0 44).toInt = (t797.1 a0 44).toInt := by rw [g804.2.1 44 (by decide)]
                  have hS := hS.tr g804 (by decide) (by decide)
                  have as803_5 := (zp_same hI ha0 g804 5 rfl (by decide) (by decide)).trans at797_5
                  have as803_39 := (zp_same hI ha0 g804 39 rfl (by decide) (by decide)).trans at797_39
                  have as803_40 := (zp_same hI ha0 g804 40 rfl (by decide) (by decide)).trans at797_40
                  have as803_43 := (zp_same hI ha0 g804 43 rfl (by decide) (by decide)).trans at797_43
                  have fs803_12 : (s803.1 a0 12).toInt = v802.toInt := by rw [es803]; exact congrArg _ (zu_s _ _ _ _)
                  have e805 : v802 = s803.1 a0 12 := by rw [es803]; exact zm_s
                  refine zg_aload_n X 2 rfl dX11_expression_56 ?_
                  refine zg_cVv (As := []) (st := []) X ha0 rfl (by decide) rfl (t_X11_goesOn l d L kd κ _ hI a0 ha0   ) mk_X11_227 mc_X11_goesOn mz_X11 mi_X11_goesOn ml_X11_goesOn (na := 0) ⟨md_X11.1, md_X11.2, by decide +kernel⟩ rfl ⟨by decide, by decide⟩ (Nat.le_of_ble_eq_true rfl) dX11_expression_57 (fun t806 hq => ?_)
                  obtain ⟨hF, ht806_fact0, hI, g807⟩ := hq
                  replace E := zLet_s hF E
                  have ft806_12 : (t806.1 a0 12).toInt = (s803.1 a0 12).toInt := by rw [g807.2.1 12 (by decide)]
                  have ft806_38 : (t806.1 a0 38).toInt = (s803.1 a0 38).toInt := by rw [g807.2.1 38 (by decide)]
                  have ft806_44 : (t806.1 a0 44).toInt = (s803.1 a0 44).toInt := by rw [g807.2.1 44 (by decide)]
                  have hS := hS.tr g807 (by decide) (by decide)
                  have at806_5 := (zp_same hI ha0 g807 5 rfl (by decide) (by decide)).trans as803_5
                  have at806_39 := (zp_same hI ha0 g807 39 rfl (by decide) (by decide)).trans as803_39
                  have at806_40 := (zp_same hI ha0 g807 40 rfl (by decide) (by decide)).trans as803_40
                  have at806_43 := (zp_same hI ha0 g807 43 rfl (by decide) (by decide)).trans as803_43
                  refine zg_aload_n X 2 rfl dX11_expression_60 ?_
                  refine fg_X11_98 X hI ha0 dX11_expression_61 (fun v809 ev809 hv809 => ?_)
                  replace E := zLet_s (zgr ev809) E
                  refine zg_aload_n X 2 rfl dX11_expression_64 ?_
                  refine fg_X11_297 X hI ha0 dX11_expression_65 (fun v810 ev810 hv810 => ?_)
                  replace E := zLet_s ev810 E
                  have kv810 : (t806.1 a0 44).toInt = v810.toInt := by rw [ev810]
                  refine zg_bipush X 6 dX11_expression_68 (by decide) (fun v811 _ hv811 => ?_)
                  replace E := zLet_s (zcst hv811 (by decide)) E
                  refine as_143 X hI hv809 (by omega) (by omega) dX11_expression_70 (fun s812 es812 hI => ?_)
                  replace E := zLet_s es812 E
                  have g813 := (zSame.rf (o := a0) (Wf := []) (Wa := [143]) (L := L) (kd := kd) (σ := t806)).a ha0 hv809 es812 rfl (by decide)
                  have rs812 := zp_st (σ := t806) (σ2 := s812) (i := v810) (x := v811) ev809 es812 (by omega)
                  have ws812 := rs812
                  rw [at806_43] at ws812
                  rw [← kv810] at ws812
                  have fs812_11 : (s812.1 a0 11).toInt = (t806.1 a0 11).toInt := by rw [g813.2.1 11 (by decide)]
                  have fs812_12 : (s812.1 a0 12).toInt = (t806.1 a0 12).toInt := by rw [g813.2.1 12 (by decide)]
                  have fs812_13 : (s812.1 a0 13).toInt = (t806.1 a0 13).toInt := by rw [g813.2.1 13 (by decide)]
                  have fs812_38 : (s812.1 a0 38).toInt = (t806.1 a0 38).toInt := by rw [g813.2.1 38 (by decide)]
                  have fs812_44 : (s812.1 a0 44).toInt = (t806.1 a0 44).toInt := by rw [g813.2.1 44 (by decide)]
                  have hS := hS.tr g813 (by decide) (by decide)
                  have as812_5 := (zp_same hI ha0 g813 5 rfl (by decide) (by decide)).trans at806_5
                  have as812_39 := (zp_same hI ha0 g813 39 rfl (by decide) (by decide)).trans at806_39
                  have as812_40 := (zp_same hI ha0 g813 40 rfl (by decide) (by decide)).trans at806_40
                  have e815 := g813.v ev810 (by decide)
                  refine zg_aload_n X 2 rfl dX11_expression_71 ?_
                  refine zg_dup X dX11_expression_72 rfl ?_
                  refine fg_X11_297 X hI ha0 dX11_expression_73 (fun v816 ev816 hv816 => ?_)
                  replace E := zLet_s ev816 E
                  have kv816 : (s812.1 a0 44).toInt = v816.toInt := by rw [ev816]
                  have mv816 : v816.toInt = v810.toInt := by rw [ev816, ← e815]
                  refine zg_iconst X 1 dX11_expression_76 (by decide) (fun v817 _ hv817 => ?_)
                  replace E := zLet_s (zcst hv817 (by decide)) E
                  refine zg_iadd X dX11_expression_77 (by omega) (by omega) (fun v818 ev818 hv818 => ?_)
                  replace E := zLet_s ev818 E
                  refine fp_X11_297 X hI ha0 ⟨by omega, by omega⟩ dX11_expression_78 (fun s819 es819 hI => ?_)
                  replace E := zLet_s es819 E
                  have g820 := (zSame.rf (o := a0) (Wf := [44]) (Wa := []) (L := L) (kd := kd) (σ := s812)).f ha0 es819 rfl
                  have fs819_11 : (s819.1 a0 11).toInt = (s812.1 a0 11).toInt := by rw [g820.2.1 11 (by decide)]
                  have fs819_12 : (s819.1 a0 12).toInt = (s812.1 a0 12).toInt := by rw [g820.2.1 12 (by decide)]
                  have fs819_13 : (s819.1 a0 13).toInt = (s812.1 a0 13).toInt := by rw [g820.2.1 13 (by decide)]
                  have fs819_38 : (s819.1 a0 38).toInt = (s812.1 a0 38).toInt := by rw [g820.2.1 38 (by decide)]
                  have hS := hS.tr g820 (by decide) (by decide)
                  have as819_5 := (zp_same hI ha0 g820 5 rfl (by decide) (by decide)).trans as812_5
                  have as819_39 := (zp_same hI ha0 g820 39 rfl (by decide) (by decide)).trans as812_39
                  have as819_40 := (zp_same hI ha0 g820 40 rfl (by decide) (by decide)).trans as812_40
                  have as819_43 := zp_same hI ha0 g820 43 rfl (by decide) (by decide)
                  have fs819_44 : (s819.1 a0 44).toInt = v818.toInt := by rw [es819]; exact congrArg _ (zu_s _ _ _ _)
                  have e822 : v818 = s819.1 a0 44 := by rw [es819]; exact zm_s
                  have zpu : zEs (zp a0 s819 43) (zp a0 s819 39) (zp a0 s819 40) (s819.1 a0 44).toInt (s819.1 a0 38).toInt (σ.1 a0 38).toInt 0 ∧ nO (zp a0 s819 43) (s819.1 a0 44).toInt.toNat = nO (zp a0 τ12 43) (τ12.1 a0 44).toInt.toNat + 1 := by
                    rw [as819_39, as819_40, show (s819.1 a0 38).toInt = (τ12.1 a0 38).toInt by omega]
                    exact zEs.pushO (hx (by omega)) (fun j h0 => by rw [as819_43, ws812 j h0]; split <;> split <;> first | omega | rfl | (exfalso; omega)) (by omega) (by omega) (by omega)
                  refine zg_goto X 23 dX11_expression_81 (by decide) ?_
                  refine zg_sub [0, 1, 2] rfl ?_
                  exact ihLp12 _  hI hS as819_5 E  (by omega) (by omega) (fun _ => zpu.1) (fun j h0 h1 => by have y := hk j h0 (by omega); rw [as819_39, as819_40]; exact y)
          refine zg_sub [0, 1, 2] rfl ?_
          exact Lp12 10000 _  hI hS A5_Lp8 E  (by omega) (by omega) (hx) (hk)
  refine zg_sub [0, 1, 2] rfl ?_
  exact Lp8 10000 _ v6 hI hS as2_5 E  (by omega) (by omega) (fun _ => by rw [show (s2.1 a0 44).toInt = 0 by omega, show (s2.1 a0 38).toInt = (σ.1 a0 38).toInt by omega]; exact zEs.zero _ _ _ (by omega) (by omega)) (zKc.eq as2_39 as2_40)
