-- 26.model5
section
set_option maxHeartbeats 4000000 in
set_option maxRecDepth 100000 in
theorem t_X11_damsAll (l : Launch) (d : zD2) (L : List Nat) (kd : Nat → Nat) (κ : Int) (σ : zS) (hI : zJ κ L kd σ) (a0 : Nat) (ha0 : zT L kd a0 11) (p1 : Int32) (hgN : gN a0 σ) (hgL : gL a0 σ) : zMv l yX11_damsAll (Cond.code yX11_damsAll cX11_damsAll 3 none :: zWL) 5 [.ref a0, .int p1] d L kd σ (fun σ2 => σ2 = F_X11_damsAll a0 p1 σ ∧ ((gR a0 σ2) ∧ zJ κ L kd σ2 ∧ zSame a0 [47, 50, 51] [145, 146, 149, 152, 153, 154, 155] L kd σ σ2)) := by
  refine zMv.of (own := RX11) (by decide +kernel) rfl rfl (Nat.le_of_ble_eq_true rfl) ?_
  intro p e s m args below meth c A Q X ret
  have hS : zSame a0 [47, 50, 51] [145, 146, 149, 152, 153, 154, 155] L kd σ σ := zSame.rf
  refine zg_lv (lv2 := [(0, .ref a0), (1, .int p1)]) rfl ?_
  have zm := zM_in hI ha0
  obtain ⟨R, hR⟩ : ∃ R, R = F_X11_damsAll a0 p1 σ := ⟨_, rfl⟩
  have E := hR
  unfold F_X11_damsAll at E
  refine zg_aload_n X 0 rfl dX11_damsAll_0 ?_
  refine zg_cVv (As := []) (st := []) X ha0 rfl (by decide) rfl (t_X11_copies l d L kd κ _ hI a0 ha0    hgN hgL) mk_X11_332 mc_X11_copies mz_X11 mi_X11_copies ml_X11_copies (na := 0) ⟨md_X11.1, md_X11.2, by decide +kernel⟩ rfl ⟨by decide, by decide⟩ (Nat.le_of_ble_eq_true rfl) dX11_damsAll_1 (fun t1 hq => ?_)
  obtain ⟨hF, ⟨ht1_fact0, gRt1, gBt1⟩, hI, g2⟩ := hq
  replace E := zLet_s hF E
  have hS := hS.tr g2 (by decide) (by decide)
  have Mt1 := zM_same hI ha0 g2 (by decide)
  have gNt1 := gN.same hI ha0 g2 (by decide) hgN
  have gLt1 := gL.same hI ha0 g2 (by decide) hgL
  refine zg_iconst X 1 dX11_damsAll_4 (by decide) (fun v3 _ hv3 => ?_)
  replace E := zLet_s (zcst hv3 (by decide)) E
  refine zg_istore_n X [(2, .int v3), (0, .ref a0), (1, .int p1)] dX11_damsAll_5 (by decide) rfl ?_
  have Lp5 : ∀ (nLp5 : Nat) (τ5 : zS) (x4 : Int32), zJ κ L kd τ5 → zSame a0 [47, 50, 51] [145, 146, 149, 152, 153, 154, 155] L kd σ τ5 → gL a0 τ5 → gN a0 τ5 → gR a0 τ5 → zM a0 τ5 = zM a0 σ → R = F_X11_damsAll_6 a0 p1  nLp5 x4 τ5 → 1 ≤ x4.toInt ∧ x4.toInt ≤ 12 → (12) - x4.toInt + 1 < (nLp5 : Int) → zG d L kd A 3 p l e (k2_rm 5 (100 * 5)) s m args below meth c Q τ5 6 [(2, .int x4), (0, .ref a0), (1, .int p1)] [] := by
    intro nLp5
    induction nLp5 with
    | zero => intro τ5 x4 hI hS gL_Lp5 gN_Lp5 gR_Lp5 M_Lp5 E  hxLp5 hm ; exact absurd hm (by omega)
    | succ nLp5 ihLp5 =>
      intro τ5 x4 hI hS gL_Lp5 gN_Lp5 gR_Lp5 M_Lp5 E  hxLp5 hmLp5 
      rw [F_X11_damsAll_6] at E
      refine zg_iload_n X 0 rfl dX11_damsAll_6 ?_
      refine zg_aload_n X 1 rfl dX11_damsAll_7 ?_
      refine zg_cVi (As := []) (st := [.int x4]) X ha0 rfl (by decide) rfl (t_X11_many l d L kd κ _ hI a0 ha0   ) mk_X11_313 mc_X11_many mz_X11 mi_X11_many ml_X11_many (na := 0) ⟨md_X11.1, md_X11.2, by decide +kernel⟩ rfl ⟨by decide, by decide⟩ (Nat.le_of_ble_eq_true rfl) dX11_damsAll_8 (fun v7 t6 hq => ?_)
      obtain ⟨⟨hF, ⟨ht6_res, ht6_fact0⟩⟩, rfl⟩ := hq
      replace E := zLet_s hF E
      refine zg_icmp_ge X 39 dX11_damsAll_11 (by decide) (fun c8 => ?_) (fun c8 => ?_)
      · skip
        replace E := zIf_f (Int.not_lt.mpr c8) E
        refine zg_aload_n X 1 rfl dX11_damsAll_39 ?_
        refine zg_iconst X 0 dX11_damsAll_40 (by decide) (fun v9 _ hv9 => ?_)
        replace E := zLet_s (zcst hv9 (by decide)) E
        refine zg_cVv (As := [.int v9]) (st := []) X ha0 rfl (by decide) rfl (t_X11_fillsFlows l d L kd κ _ hI a0 ha0 v9   gR_Lp5 gL_Lp5) mk_X11_329 mc_X11_fillsFlows mz_X11 mi_X11_fillsFlows ml_X11_fillsFlows (na := 1) ⟨md_X11.1, md_X11.2, by decide +kernel⟩ rfl ⟨by decide, by decide⟩ (Nat.le_of_ble_eq_true rfl) dX11_damsAll_41 (fun t10 hq => ?_)
        obtain ⟨hF, hI, g11⟩ := hq
        replace E := zLet_s hF E
        have hS := hS.tr g11 (by decide) (by decide)
        have Mt10 := (zM_same hI ha0 g11 (by decide)).trans M_Lp5
        have gRt10 := gR.same hI ha0 g11 (by decide) gR_Lp5
        exact ret _ _ _ dX11_damsAll_44 ⟨E.symm.trans hR, ⟨gRt10, hI, hS⟩⟩
      · skip
        replace E := zIf_t c8 E
        refine zg_iload_n X 2 rfl dX11_damsAll_14 ?_
        refine zg_iload_n X 0 rfl dX11_damsAll_15 ?_
        refine zg_ishrW X dX11_damsAll_16 (fun v12 ev12 => ?_)
        replace E := zLet_s ev12 E
        refine zg_iconst X 1 dX11_damsAll_17 (by decide) (fun v13 _ hv13 => ?_)
        replace E := zLet_s (zcst hv13 (by decide)) E
        refine zg_iandW X dX11_damsAll_18 (fun v14 ev14 => ?_)
        replace E := zLet_s ev14 E
        refine zg_iconst X 1 dX11_damsAll_19 (by decide) (fun v15 _ hv15 => ?_)
        replace E := zLet_s (zcst hv15 (by decide)) E
        refine zg_icmp_ne X 33 dX11_damsAll_20 (by decide) (fun c16 => ?_) (fun c16 => ?_)
        · skip
          replace E := zIf_f c16 E
          refine zg_iinc X 1 (fun v17 => [(2, .int v17), (0, .ref a0), (1, .int p1)]) 0 dX11_damsAll_33 rfl (by decide) (by decide) (by omega) (by omega) (fun _ => rfl) (fun v17 ev17 hv17 => ?_)
          replace E := zLet_s (zinc ev17 (by decide)) E
          refine zg_goto X 6 dX11_damsAll_36 (by decide) ?_
          refine zg_sub [0, 1, 2] rfl ?_
          exact ihLp5 _ v17 hI hS gL_Lp5 gN_Lp5 gR_Lp5 M_Lp5 E  (by omega) (by omega) 
        · skip
          replace E := zIf_t c16 E
          refine zg_aload_n X 1 rfl dX11_damsAll_23 ?_
          refine fg_X11_110 X hI ha0 dX11_damsAll_24 (fun v18 ev18 hv18 => ?_)
          replace E := zLet_s (zgr ev18) E
          refine zg_bipush X 12 dX11_damsAll_27 (by decide) (fun v19 _ hv19 => ?_)
          replace E := zLet_s (zcst hv19 (by decide)) E
          refine zg_iload_n X 0 rfl dX11_damsAll_29 ?_
          refine zg_iadd X dX11_damsAll_30 (by omega) (by omega) (fun v20 ev20 hv20 => ?_)
          replace E := zLet_s ev20 E
          refine zg_iconst X 1 dX11_damsAll_31 (by decide) (fun v21 _ hv21 => ?_)
          replace E := zLet_s (zcst hv21 (by decide)) E
          refine as_149 X hI hv18 (by omega) (by omega) dX11_damsAll_32 (fun s22 es22 hI => ?_)
          replace E := zLet_s es22 E
          have g23 := (zSame.rf (o := a0) (Wf := []) (Wa := [149]) (L := L) (kd := kd) (σ := τ5)).a ha0 hv18 es22 rfl (by decide)
          have rs22 := zp_st (σ := τ5) (σ2 := s22) (i := v20) (x := v21) ev18 es22 (by omega)
          have hS := hS.tr g23 (by decide) (by decide)
          have Ms22 := (zM_same hI ha0 g23 (by decide)).trans M_Lp5
          have gLs22 := gL.same hI ha0 g23 (by decide) gL_Lp5
          have gNs22 := gN.same hI ha0 g23 (by decide) gN_Lp5
          have gRs22 := gR_row hI ha0 g23 rs22 (by omega) gR_Lp5
          refine zg_iinc X 1 (fun v24 => [(2, .int v24), (0, .ref a0), (1, .int p1)]) 0 dX11_damsAll_33 rfl (by decide) (by decide) (by omega) (by omega) (fun _ => rfl) (fun v24 ev24 hv24 => ?_)
          replace E := zLet_s (zinc ev24 (by decide)) E
          refine zg_goto X 6 dX11_damsAll_36 (by decide) ?_
          refine zg_sub [0, 1, 2] rfl ?_
          exact ihLp5 _ v24 hI hS gLs22 gNs22 gRs22 Ms22 E  (by omega) (by omega) 
  refine zg_sub [0, 1, 2] rfl ?_
  exact Lp5 10000 _ v3 hI hS gLt1 gNt1 gRt1 Mt1 E  (by omega) (by omega) 
set_option maxHeartbeats 4000000 in
set_option maxRecDepth 100000 in
theorem t_X11_dams (l : Launch) (d : zD2) (L : List Nat) (kd : Nat → Nat) (κ : Int) (σ : zS) (hI : zJ κ L kd σ) (a0 : Nat) (ha0 : zT L kd a0 11) (p1 : Int32) (p2 : Int32) (hgN : gN a0 σ) (hgH : gH a0 σ) (hgE : gE a0 σ) (hgL : gL a0 σ) : zMi l yX11_dams (Cond.code yX11_dams cX11_dams 6 (some .int) :: zWL) 6 [.ref a0, .int p1, .int p2] d L kd σ (fun v σ2 => (v, σ2) = F_X11_dams a0 p1 p2 σ ∧ (((gN a0 σ2) ∧ (gH a0 σ2) ∧ (gE a0 σ2) ∧ (gL a0 σ2)) ∧ zJ κ L kd σ2 ∧ zSame a0 [47, 50, 51] [145, 146, 149, 152, 153, 154, 155] L kd σ σ2)) := by
  refine zMi.of (own := RX11) (by decide +kernel) rfl rfl (Nat.le_of_ble_eq_true rfl) ?_
  intro p e s m args below meth c A Q X ret
  have hS : zSame a0 [47, 50, 51] [145, 146, 149, 152, 153, 154, 155] L kd σ σ := zSame.rf
  refine zg_lv (lv2 := [(0, .ref a0), (1, .int p1), (2, .int p2)]) rfl ?_
  have zm := zM_in hI ha0
  obtain ⟨R, hR⟩ : ∃ R, R = F_X11_dams a0 p1 p2 σ := ⟨_, rfl⟩
  have E := hR
  unfold F_X11_dams at E
  refine zg_iload_n X 1 rfl dX11_dams_0 ?_
  refine zg_iconst X 0 dX11_dams_1 (by decide) (fun v1 _ hv1 => ?_)
  replace E := zLet_s (zcst hv1 (by decide)) E
  refine zg_sipush X 9999 dX11_dams_2 (by decide) (fun v2 _ hv2 => ?_)
  replace E := zLet_s (zcst hv2 (by decide)) E
  refine zg_cSi (As := [.int p1, .int v1, .int v2]) (st := []) X (t_X11_in l d L kd _ p1 v1 v2 ) mk_X11_316 mc_X11_in mz_X11 ms_X11_in (na := 3) ⟨md_X11.1, md_X11.2, by decide +kernel⟩ rfl ⟨by decide, by decide⟩ (Nat.le_of_ble_eq_true rfl) dX11_dams_5 (fun v3 σ2 hq => ?_)
  obtain ⟨⟨hF, hv3⟩, rfl⟩ := hq
  replace E := zLet_s hF E
  refine zg_if_eq X 27 dX11_dams_8 (by decide) (fun c4 => ?_) (fun c4 => ?_)
  · skip
    replace E := zIf_t c4 E
    refine zg_iconst X (-1) dX11_dams_27 (by decide) (fun v5 _ hv5 => ?_)
    replace E := zLet_s (zcst hv5 (by decide)) E
    exact ret _ _ _ _ dX11_dams_28 rfl ⟨E.symm.trans hR, ⟨⟨hgN, hgH, hgE, hgL⟩, hI, hS⟩⟩
  · skip
    replace E := zIf_f c4 E
    refine zg_iload_n X 2 rfl dX11_dams_11 ?_
    refine zg_iconst X (-1) dX11_dams_12 (by decide) (fun v6 _ hv6 => ?_)
    replace E := zLet_s (zcst hv6 (by decide)) E
    refine zg_iconst X 2 dX11_dams_13 (by decide) (fun v7 _ hv7 => ?_)
    replace E := zLet_s (zcst hv7 (by decide)) E
    refine zg_cSi (As := [.int p2, .int v6, .int v7]) (st := []) X (t_X11_in l d L kd _ p2 v6 v7 ) mk_X11_316 mc_X11_in mz_X11 ms_X11_in (na := 3) ⟨md_X11.1, md_X11.2, by decide +kernel⟩ rfl ⟨by decide, by decide⟩ (Nat.le_of_ble_eq_true rfl) dX11_dams_14 (fun v8 σ2 hq => ?_)
    obtain ⟨⟨hF, hv8⟩, rfl⟩ := hq
    replace E := zLet_s hF E
    refine zg_if_eq X 27 dX11_dams_17 (by decide) (fun c9 => ?_) (fun c9 => ?_)
    · skip
      replace E := zIf_t c9 E
      refine zg_iconst X (-1) dX11_dams_27 (by decide) (fun v10 _ hv10 => ?_)
      replace E := zLet_s (zcst hv10 (by decide)) E
      exact ret _ _ _ _ dX11_dams_28 rfl ⟨E.symm.trans hR, ⟨⟨hgN, hgH, hgE, hgL⟩, hI, hS⟩⟩
    · skip
      replace E := zIf_f c9 E
      refine zg_aload_n X 0 rfl dX11_dams_20 ?_
      refine zg_cVi (As := []) (st := []) X ha0 rfl (by decide) rfl (t_X11_many l d L kd κ _ hI a0 ha0   ) mk_X11_313 mc_X11_many mz_X11 mi_X11_many ml_X11_many (na := 0) ⟨md_X11.1, md_X11.2, by decide +kernel⟩ rfl ⟨by decide, by decide⟩ (Nat.le_of_ble_eq_true rfl) dX11_dams_21 (fun v12 t11 hq => ?_)
      obtain ⟨⟨hF, ⟨ht11_res, ht11_fact0⟩⟩, rfl⟩ := hq
      replace E := zLet_s hF E
      refine zg_if_ne X 29 dX11_dams_24 (by decide) (fun c13 => ?_) (fun c13 => ?_)
      · skip
        replace E := zIf_f c13 E
        refine zg_aload_n X 0 rfl dX11_dams_29 ?_
        refine zg_cVi (As := []) (st := []) X ha0 rfl (by decide) rfl (t_X11_dammedBits l d L kd κ _ hI a0 ha0   ) mk_X11_423 mc_X11_dammedBits mz_X11 mi_X11_dammedBits ml_X11_dammedBits (na := 0) ⟨md_X11.1, md_X11.2, by decide +kernel⟩ rfl ⟨by decide, by decide⟩ (Nat.le_of_ble_eq_true rfl) dX11_dams_30 (fun v15 t14 hq => ?_)
        obtain ⟨hF, rfl⟩ := hq
        replace E := zLet_s hF E
        refine zg_istore_n X [(3, .int v15), (0, .ref a0), (1, .int p1), (2, .int p2)] dX11_dams_33 (by decide) rfl ?_
        refine zg_iconst X (-1) dX11_dams_34 (by decide) (fun v16 _ hv16 => ?_)
        replace E := zLet_s (zcst hv16 (by decide)) E
        refine zg_istore X [(4, .int v16), (3, .int v15), (0, .ref a0), (1, .int p1), (2, .int p2)] dX11_dams_35 (by decide) rfl ?_
        refine zg_iconst X 0 dX11_dams_37 (by decide) (fun v17 _ hv17 => ?_)
        replace E := zLet_s (zcst hv17 (by decide)) E
        refine zg_istore X [(5, .int v17), (4, .int v16), (3, .int v15), (0, .ref a0), (1, .int p1), (2, .int p2)] dX11_dams_38 (by decide) rfl ?_
        have Lp20 : ∀ (nLp20 : Nat) (τ20 : zS) (x18 : Int32) (x19 : Int32), zJ κ L kd τ20 → zSame a0 [47, 50, 51] [145, 146, 149, 152, 153, 154, 155] L kd σ τ20 → gE a0 τ20 → gH a0 τ20 → gL a0 τ20 → gN a0 τ20 → R = F_X11_dams_40 v15 a0 p1 p2  nLp20 x18 x19 τ20 → 0 ≤ x18.toInt ∧ x18.toInt ≤ 4097 → 4100 - x18.toInt < (nLp20 : Int) → zG d L kd A 6 p l e (k2_rm 6 (100 * 6)) s m args below meth c Q τ20 40 [(5, .int x18), (4, .int x19), (3, .int v15), (0, .ref a0), (1, .int p1), (2, .int p2)] [] := by
          intro nLp20
          induction nLp20 with
          | zero => intro τ20 x18 x19 hI hS gE_Lp20 gH_Lp20 gL_Lp20 gN_Lp20 E  hxLp20 hm ; exact absurd hm (by omega)
          | succ nLp20 ihLp20 =>
            intro τ20 x18 x19 hI hS gE_Lp20 gH_Lp20 gL_Lp20 gN_Lp20 E  hxLp20 hmLp20 
            rw [F_X11_dams_40] at E
            refine zg_iload X 0 rfl dX11_dams_40 ?_
            refine zg_iconst X 1 dX11_dams_42 (by decide) (fun v21 _ hv21 => ?_)
            replace E := zLet_s (zcst hv21 (by decide)) E
            refine zg_aload_n X 3 rfl dX11_dams_43 ?_
            refine zg_cVi (As := []) (st := [.int v21, .int x18]) X ha0 rfl (by decide) rfl (t_X11_many l d L kd κ _ hI a0 ha0   ) mk_X11_313 mc_X11_many mz_X11 mi_X11_many ml_X11_many (na := 0) ⟨md_X11.1, md_X11.2, by decide +kernel⟩ rfl ⟨by decide, by decide⟩ (Nat.le_of_ble_eq_true rfl) dX11_dams_44 (fun v23 t22 hq => ?_)
            obtain ⟨⟨hF, ⟨ht22_res, ht22_fact0⟩⟩, rfl⟩ := hq
            replace E := zLet_s hF E
            refine zg_ishlW X dX11_dams_47 (fun v24 ev24 => ?_)
            replace E := zLet_s ev24 E
            have zk := zsh_le (by omega) ev24 (by omega) (by omega)
            have zv24_z25 := zb_rng v24
            refine zg_icmp_ge X 140 dX11_dams_48 (by decide) (fun c26 => ?_) (fun c26 => ?_)
            · skip
              replace E := zIf_f (Int.not_lt.mpr c26) E
              refine zg_iload X 1 rfl dX11_dams_140 ?_
              refine zg_if_ge X 148 dX11_dams_142 (by decide) (fun c27 => ?_) (fun c27 => ?_)
              · skip
                replace E := zIf_f (Int.not_lt.mpr c27) E
                refine zg_iload_n X 5 rfl dX11_dams_148 ?_
                refine zg_iconst X (-1) dX11_dams_149 (by decide) (fun v28 _ hv28 => ?_)
                replace E := zLet_s (zcst hv28 (by decide)) E
                refine zg_icmp_ne X 161 dX11_dams_150 (by decide) (fun c29 => ?_) (fun c29 => ?_)
                · skip
                  replace E := zIf_f c29 E
                  refine zg_iload X 1 rfl dX11_dams_161 ?_
                  refine zg_iload_n X 5 rfl dX11_dams_163 ?_
                  refine zg_cSi (As := [.int x19, .int p2]) (st := []) X (t_X11_ithOf l d L kd _ x19 p2 ) mk_X11_420 mc_X11_ithOf mz_X11 ms_X11_ithOf (na := 2) ⟨md_X11.1, md_X11.2, by decide +kernel⟩ rfl ⟨by decide, by decide⟩ (Nat.le_of_ble_eq_true rfl) dX11_dams_164 (fun v30 σ2 hq => ?_)
                  obtain ⟨⟨hF, hv30⟩, rfl⟩ := hq
                  replace E := zLet_s hF E
                  exact ret _ _ _ _ dX11_dams_167 rfl ⟨E.symm.trans hR, ⟨⟨gN_Lp20, gH_Lp20, gE_Lp20, gL_Lp20⟩, hI, hS⟩⟩
                · skip
                  replace E := zIf_t c29 E
                  refine zg_iload X 1 rfl dX11_dams_153 ?_
                  refine zg_cSi (As := [.int x19]) (st := []) X (t_X11_bits l d L kd _ x19 ) mk_X11_345 mc_X11_bits mz_X11 ms_X11_bits (na := 1) ⟨md_X11.1, md_X11.2, by decide +kernel⟩ rfl ⟨by decide, by decide⟩ (Nat.le_of_ble_eq_true rfl) dX11_dams_155 (fun v31 σ2 hq => ?_)
                  obtain ⟨⟨hF, hv31⟩, rfl⟩ := hq
                  replace E := zLet_s hF E
                  refine zg_goto X 167 dX11_dams_158 (by decide) ?_
                  exact ret _ _ _ _ dX11_dams_167 rfl ⟨E.symm.trans hR, ⟨⟨gN_Lp20, gH_Lp20, gE_Lp20, gL_Lp20⟩, hI, hS⟩⟩
              · skip
                replace E := zIf_t c27 E
                refine zg_bipush X (-2) dX11_dams_145 (by decide) (fun v32 _ hv32 => ?_)
                replace E := zLet_s (zcst hv32 (by decide)) E
                exact ret _ _ _ _ dX11_dams_147 rfl ⟨E.symm.trans hR, ⟨⟨gN_Lp20, gH_Lp20, gE_Lp20, gL_Lp20⟩, hI, hS⟩⟩
            · skip
              replace E := zIf_t c26 E
              refine zg_iload X 0 rfl dX11_dams_51 ?_
              refine zg_cSi (As := [.int x18]) (st := []) X (t_X11_bits l d L kd _ x18 ) mk_X11_345 mc_X11_bits mz_X11 ms_X11_bits (na := 1) ⟨md_X11.1, md_X11.2, by decide +kernel⟩ rfl ⟨by decide, by decide⟩ (Nat.le_of_ble_eq_true rfl) dX11_dams_53 (fun v33 σ2 hq => ?_)
              obtain ⟨⟨hF, hv33⟩, rfl⟩ := hq
              replace E := zLet_s hF E
              refine zg_iconst X 3 dX11_dams_56 (by decide) (fun v34 _ hv34 => ?_)
              replace E := zLet_s (zcst hv34 (by decide)) E
              have zv33_z35 := zb_rng v33
              refine zg_icmp_gt X 134 dX11_dams_57 (by decide) (fun c36 => ?_) (fun c36 => ?_)
              · skip
                replace E := zIf_t c36 E
                refine zg_iinc X 2 (fun v37 => [(5, .int v37), (4, .int x19), (3, .int v15), (0, .ref a0), (1, .int p1), (2, .int p2)]) 0 dX11_dams_134 rfl (by decide) (by decide) (by omega) (by omega) (fun _ => rfl) (fun v37 ev37 hv37 => ?_)
                replace E := zLet_s (zinc ev37 (by decide)) E
                refine zg_goto X 40 dX11_dams_137 (by decide) ?_
                refine zg_sub [0, 1, 2, 3, 4, 5] rfl ?_
                exact ihLp20 _ v37 x19 hI hS gE_Lp20 gH_Lp20 gL_Lp20 gN_Lp20 E  (by omega) (by omega) 
              · skip
                replace E := zIf_f (Int.not_lt.mpr c36) E
                refine zg_iload X 0 rfl dX11_dams_60 ?_
                refine zg_iload_n X 2 rfl dX11_dams_62 ?_
                refine zg_iandW X dX11_dams_63 (fun v38 ev38 => ?_)
                replace E := zLet_s ev38 E
                refine zg_if_eq X 70 dX11_dams_64 (by decide) (fun c39 => ?_) (fun c39 => ?_)
                · skip
                  replace E := zIf_t c39 E
                  refine zg_iload X 1 rfl dX11_dams_70 ?_
                  refine zg_if_lt X 114 dX11_dams_72 (by decide) (fun c40 => ?_) (fun c40 => ?_)
                  · skip
                    replace E := zIf_t c40 E
                    refine zg_aload_n X 3 rfl dX11_dams_114 ?_
                    refine zg_iload X 0 rfl dX11_dams_115 ?_
                    refine zg_cVv (As := [.int x18]) (st := []) X ha0 rfl (by decide) rfl (t_X11_damsAll l d L kd κ _ hI a0 ha0 x18   gN_Lp20 gL_Lp20) mk_X11_429 mc_X11_damsAll mz_X11 mi_X11_damsAll ml_X11_damsAll (na := 1) ⟨md_X11.1, md_X11.2, by decide +kernel⟩ rfl ⟨by decide, by decide⟩ (Nat.le_of_ble_eq_true rfl) dX11_dams_117 (fun t41 hq => ?_)
                    obtain ⟨hF, gRt41, hI, g42⟩ := hq
                    replace E := zLet_s hF E
                    have hS := hS.tr g42 (by decide) (by decide)
                    have gEt41 := gE.same hI ha0 g42 (by decide) gE_Lp20
                    have gHt41 := gH.same hI ha0 g42 (by decide) gH_Lp20
                    have gLt41 := gL.same hI ha0 g42 (by decide) gL_Lp20
                    have gNt41 := gN.same hI ha0 g42 (by decide) gN_Lp20
                    refine zg_aload_n X 3 rfl dX11_dams_120 ?_
                    refine fg_X11_122 X hI ha0 dX11_dams_121 (fun v43 ev43 hv43 => ?_)
                    replace E := zLet_s (zgr ev43) E
                    refine zg_iconst X 0 dX11_dams_124 (by decide) (fun v44 _ hv44 => ?_)
                    replace E := zLet_s (zcst hv44 (by decide)) E
                    refine ag_155 X hI hv43 (by omega) (by omega) dX11_dams_125 (fun v45 ev45 _ => ?_)
                    replace E := zLet_s ev45 E
                    refine zg_iload_n X 4 rfl dX11_dams_126 ?_
                    have zv45_z46 := zb_rng v45
                    have zp1_z47 := zb_rng p1
                    refine zg_icmp_gt X 134 dX11_dams_127 (by decide) (fun c48 => ?_) (fun c48 => ?_)
                    · skip
                      replace E := zIf_t c48 E
                      refine zg_iinc X 2 (fun v49 => [(5, .int v49), (4, .int x19), (3, .int v15), (0, .ref a0), (1, .int p1), (2, .int p2)]) 0 dX11_dams_134 rfl (by decide) (by decide) (by omega) (by omega) (fun _ => rfl) (fun v49 ev49 hv49 => ?_)
                      replace E := zLet_s (zinc ev49 (by decide)) E
                      refine zg_goto X 40 dX11_dams_137 (by decide) ?_
                      refine zg_sub [0, 1, 2, 3, 4, 5] rfl ?_
                      exact ihLp20 _ v49 x19 hI hS gEt41 gHt41 gLt41 gNt41 E  (by omega) (by omega) 
                    · skip
                      replace E := zIf_f (Int.not_lt.mpr c48) E
                      refine zg_iload X 0 rfl dX11_dams_130 ?_
                      refine zg_istore X [(4, .int x18), (5, .int x18), (3, .int v15), (0, .ref a0), (1, .int p1), (2, .int p2)] dX11_dams_132 (by decide) rfl ?_
                      refine zg_iinc X 2 (fun v50 => [(5, .int v50), (4, .int x18), (3, .int v15), (0, .ref a0), (1, .int p1), (2, .int p2)]) 1 dX11_dams_134 rfl (by decide) (by decide) (by omega) (by omega) (fun _ => rfl) (fun v50 ev50 hv50 => ?_)
                      replace E := zLet_s (zinc ev50 (by decide)) E
                      refine zg_goto X 40 dX11_dams_137 (by decide) ?_
                      refine zg_sub [0, 1, 2, 3, 4, 5] rfl ?_
                      exact ihLp20 _ v50 x18 hI hS gEt41 gHt41 gLt41 gNt41 E  (by omega) (by omega) 
                  · skip
                    replace E := zIf_f (Int.not_lt.mpr c40) E
                    refine zg_iload X 0 rfl dX11_dams_75 ?_
                    refine zg_cSi (As := [.int x18]) (st := []) X (t_X11_bits l d L kd _ x18 ) mk_X11_345 mc_X11_bits mz_X11 ms_X11_bits (na := 1) ⟨md_X11.1, md_X11.2, by decide +kernel⟩ rfl ⟨by decide, by decide⟩ (Nat.le_of_ble_eq_true rfl) dX11_dams_77 (fun v51 σ2 hq => ?_)
                    obtain ⟨⟨hF, hv51⟩, rfl⟩ := hq
                    replace E := zLet_s hF E
                    refine zg_iload X 1 rfl dX11_dams_80 ?_
                    refine zg_cSi (As := [.int x19]) (st := [.int v51]) X (t_X11_bits l d L kd _ x19 ) mk_X11_345 mc_X11_bits mz_X11 ms_X11_bits (na := 1) ⟨md_X11.1, md_X11.2, by decide +kernel⟩ rfl ⟨by decide, by decide⟩ (Nat.le_of_ble_eq_true rfl) dX11_dams_82 (fun v52 σ2 hq => ?_)
                    obtain ⟨⟨hF, hv52⟩, rfl⟩ := hq
                    replace E := zLet_s hF E
                    have zv51_z53 := zb_rng v51
                    have zv52_z54 := zb_rng v52
                    refine zg_icmp_gt X 134 dX11_dams_85 (by decide) (fun c55 => ?_) (fun c55 => ?_)
                    · skip
                      replace E := zIf_t c55 E
                      refine zg_iinc X 2 (fun v56 => [(5, .int v56), (4, .int x19), (3, .int v15), (0, .ref a0), (1, .int p1), (2, .int p2)]) 0 dX11_dams_134 rfl (by decide) (by decide) (by omega) (by omega) (fun _ => rfl) (fun v56 ev56 hv56 => ?_)
                      replace E := zLet_s (zinc ev56 (by decide)) E
                      refine zg_goto X 40 dX11_dams_137 (by decide) ?_
                      refine zg_sub [0, 1, 2, 3, 4, 5] rfl ?_
                      exact ihLp20 _ v56 x19 hI hS gE_Lp20 gH_Lp20 gL_Lp20 gN_Lp20 E  (by omega) (by omega) 
                    · skip
                      replace E := zIf_f (Int.not_lt.mpr c55) E
                      refine zg_iload X 0 rfl dX11_dams_88 ?_
                      refine zg_cSi (As := [.int x18]) (st := []) X (t_X11_bits l d L kd _ x18 ) mk_X11_345 mc_X11_bits mz_X11 ms_X11_bits (na := 1) ⟨md_X11.1, md_X11.2, by decide +kernel⟩ rfl ⟨by decide, by decide⟩ (Nat.le_of_ble_eq_true rfl) dX11_dams_90 (fun v57 σ2 hq => ?_)
                      obtain ⟨⟨hF, hv57⟩, rfl⟩ := hq
                      replace E := zLet_s hF E
                      refine zg_iload X 1 rfl dX11_dams_93 ?_
                      refine zg_cSi (As := [.int x19]) (st := [.int v57]) X (t_X11_bits l d L kd _ x19 ) mk_X11_345 mc_X11_bits mz_X11 ms_X11_bits (na := 1) ⟨md_X11.1, md_X11.2, by decide +kernel⟩ rfl ⟨by decide, by decide⟩ (Nat.le_of_ble_eq_true rfl) dX11_dams_95 (fun v58 σ2 hq => ?_)
                      obtain ⟨⟨hF, hv58⟩, rfl⟩ := hq
                      replace E := zLet_s hF E
                      refine zg_icmp_ne X 114 dX11_dams_98 (by decide) (fun c59 => ?_) (fun c59 => ?_)
                      · skip
                        replace E := zIf_f c59 E
                        refine zg_aload_n X 3 rfl dX11_dams_114 ?_
                        refine zg_iload X 0 rfl dX11_dams_115 ?_
                        refine zg_cVv (As := [.int x18]) (st := []) X ha0 rfl (by decide) rfl (t_X11_damsAll l d L kd κ _ hI a0 ha0 x18   gN_Lp20 gL_Lp20) mk_X11_429 mc_X11_damsAll mz_X11 mi_X11_damsAll ml_X11_damsAll (na := 1) ⟨md_X11.1, md_X11.2, by decide +kernel⟩ rfl ⟨by decide, by decide⟩ (Nat.le_of_ble_eq_true rfl) dX11_dams_117 (fun t60 hq => ?_)
                        obtain ⟨hF, gRt60, hI, g61⟩ := hq
                        replace E := zLet_s hF E
                        have hS := hS.tr g61 (by decide) (by decide)
                        have gEt60 := gE.same hI ha0 g61 (by decide) gE_Lp20
                        have gHt60 := gH.same hI ha0 g61 (by decide) gH_Lp20
                        have gLt60 := gL.same hI ha0 g61 (by decide) gL_Lp20
                        have gNt60 := gN.same hI ha0 g61 (by decide) gN_Lp20
                        refine zg_aload_n X 3 rfl dX11_dams_120 ?_
                        refine fg_X11_122 X hI ha0 dX11_dams_121 (fun v62 ev62 hv62 => ?_)
                        replace E := zLet_s (zgr ev62) E
                        refine zg_iconst X 0 dX11_dams_124 (by decide) (fun v63 _ hv63 => ?_)
                        replace E := zLet_s (zcst hv63 (by decide)) E
                        refine ag_155 X hI hv62 (by omega) (by omega) dX11_dams_125 (fun v64 ev64 _ => ?_)
                        replace E := zLet_s ev64 E
                        refine zg_iload_n X 4 rfl dX11_dams_126 ?_
                        have zv64_z65 := zb_rng v64
                        have zp1_z66 := zb_rng p1
                        refine zg_icmp_gt X 134 dX11_dams_127 (by decide) (fun c67 => ?_) (fun c67 => ?_)
                        · skip
                          replace E := zIf_t c67 E
                          refine zg_iinc X 2 (fun v68 => [(5, .int v68), (4, .int x19), (3, .int v15), (0, .ref a0), (1, .int p1), (2, .int p2)]) 0 dX11_dams_134 rfl (by decide) (by decide) (by omega) (by omega) (fun _ => rfl) (fun v68 ev68 hv68 => ?_)
                          replace E := zLet_s (zinc ev68 (by decide)) E
                          refine zg_goto X 40 dX11_dams_137 (by decide) ?_
                          refine zg_sub [0, 1, 2, 3, 4, 5] rfl ?_
                          exact ihLp20 _ v68 x19 hI hS gEt60 gHt60 gLt60 gNt60 E  (by omega) (by omega) 
                        · skip
                          replace E := zIf_f (Int.not_lt.mpr c67) E
                          refine zg_iload X 0 rfl dX11_dams_130 ?_
                          refine zg_istore X [(4, .int x18), (5, .int x18), (3, .int v15), (0, .ref a0), (1, .int p1), (2, .int p2)] dX11_dams_132 (by decide) rfl ?_
                          refine zg_iinc X 2 (fun v69 => [(5, .int v69), (4, .int x18), (3, .int v15), (0, .ref a0), (1, .int p1), (2, .int p2)]) 1 dX11_dams_134 rfl (by decide) (by decide) (by omega) (by omega) (fun _ => rfl) (fun v69 ev69 hv69 => ?_)
                          replace E := zLet_s (zinc ev69 (by decide)) E
                          refine zg_goto X 40 dX11_dams_137 (by decide) ?_
                          refine zg_sub [0, 1, 2, 3, 4, 5] rfl ?_
                          exact ihLp20 _ v69 x18 hI hS gEt60 gHt60 gLt60 gNt60 E  (by omega) (by omega) 
                      · skip
                        replace E := zIf_t c59 E
                        refine zg_iload X 0 rfl dX11_dams_101 ?_
                        refine zg_iload X 1 rfl dX11_dams_103 ?_
                        refine zg_cSi (As := [.int x18, .int x19]) (st := []) X (t_X11_isEarlier l d L kd _ x18 x19 ) mk_X11_426 mc_X11_isEarlier mz_X11 ms_X11_isEarlier (na := 2) ⟨md_X11.1, md_X11.2, by decide +kernel⟩ rfl ⟨by decide, by decide⟩ (Nat.le_of_ble_eq_true rfl) dX11_dams_105 (fun v70 σ2 hq => ?_)
                        obtain ⟨⟨hF, hv70⟩, rfl⟩ := hq
                        replace E := zLet_s hF E
                        refine zg_if_ne X 114 dX11_dams_108 (by decide) (fun c71 => ?_) (fun c71 => ?_)
                        · skip
                          replace E := zIf_f c71 E
                          refine zg_aload_n X 3 rfl dX11_dams_114 ?_
                          refine zg_iload X 0 rfl dX11_dams_115 ?_
                          refine zg_cVv (As := [.int x18]) (st := []) X ha0 rfl (by decide) rfl (t_X11_damsAll l d L kd κ _ hI a0 ha0 x18   gN_Lp20 gL_Lp20) mk_X11_429 mc_X11_damsAll mz_X11 mi_X11_damsAll ml_X11_damsAll (na := 1) ⟨md_X11.1, md_X11.2, by decide +kernel⟩ rfl ⟨by decide, by decide⟩ (Nat.le_of_ble_eq_true rfl) dX11_dams_117 (fun t72 hq => ?_)
                          obtain ⟨hF, gRt72, hI, g73⟩ := hq
                          replace E := zLet_s hF E
                          have hS := hS.tr g73 (by decide) (by decide)
                          have gEt72 := gE.same hI ha0 g73 (by decide) gE_Lp20
                          have gHt72 := gH.same hI ha0 g73 (by decide) gH_Lp20
                          have gLt72 := gL.same hI ha0 g73 (by decide) gL_Lp20
                          have gNt72 := gN.same hI ha0 g73 (by decide) gN_Lp20
                          refine zg_aload_n X 3 rfl dX11_dams_120 ?_
                          refine fg_X11_122 X hI ha0 dX11_dams_121 (fun v74 ev74 hv74 => ?_)
                          replace E := zLet_s (zgr ev74) E
                          refine zg_iconst X 0 dX11_dams_124 (by decide) (fun v75 _ hv75 => ?_)
                          replace E := zLet_s (zcst hv75 (by decide)) E
                          refine ag_155 X hI hv74 (by omega) (by omega) dX11_dams_125 (fun v76 ev76 _ => ?_)
                          replace E := zLet_s ev76 E
                          refine zg_iload_n X 4 rfl dX11_dams_126 ?_
                          have zv76_z77 := zb_rng v76
                          have zp1_z78 := zb_rng p1
                          refine zg_icmp_gt X 134 dX11_dams_127 (by decide) (fun c79 => ?_) (fun c79 => ?_)
                          · skip
                            replace E := zIf_t c79 E
                            refine zg_iinc X 2 (fun v80 => [(5, .int v80), (4, .int x19), (3, .int v15), (0, .ref a0), (1, .int p1), (2, .int p2)]) 0 dX11_dams_134 rfl (by decide) (by decide) (by omega) (by omega) (fun _ => rfl) (fun v80 ev80 hv80 => ?_)
                            replace E := zLet_s (zinc ev80 (by decide)) E
                            refine zg_goto X 40 dX11_dams_137 (by decide) ?_
                            refine zg_sub [0, 1, 2, 3, 4, 5] rfl ?_
                            exact ihLp20 _ v80 x19 hI hS gEt72 gHt72 gLt72 gNt72 E  (by omega) (by omega) 
                          · skip
                            replace E := zIf_f (Int.not_lt.mpr c79) E
                            refine zg_iload X 0 rfl dX11_dams_130 ?_
                            refine zg_istore X [(4, .int x18), (5, .int x18), (3, .int v15), (0, .ref a0), (1, .int p1), (2, .int p2)] dX11_dams_132 (by decide) rfl ?_
                            refine zg_iinc X 2 (fun v81 => [(5, .int v81), (4, .int x18), (3, .int v15), (0, .ref a0), (1, .int p1), (2, .int p2)]) 1 dX11_dams_134 rfl (by decide) (by decide) (by omega) (by omega) (fun _ => rfl) (fun v81 ev81 hv81 => ?_)
                            replace E := zLet_s (zinc ev81 (by decide)) E
                            refine zg_goto X 40 dX11_dams_137 (by decide) ?_
                            refine zg_sub [0, 1, 2, 3, 4, 5] rfl ?_
                            exact ihLp20 _ v81 x18 hI hS gEt72 gHt72 gLt72 gNt72 E  (by omega) (by omega) 
                        · skip
                          replace E := zIf_t c71 E
                          refine zg_goto X 134 dX11_dams_111 (by decide) ?_
                          refine zg_iinc X 2 (fun v82 => [(5, .int v82), (4, .int x19), (3, .int v15), (0, .ref a0), (1, .int p1), (2, .int p2)]) 0 dX11_dams_134 rfl (by decide) (by decide) (by omega) (by omega) (fun _ => rfl) (fun v82 ev82 hv82 => ?_)
                          replace E := zLet_s (zinc ev82 (by decide)) E
                          refine zg_goto X 40 dX11_dams_137 (by decide) ?_
                          refine zg_sub [0, 1, 2, 3, 4, 5] rfl ?_
                          exact ihLp20 _ v82 x19 hI hS gE_Lp20 gH_Lp20 gL_Lp20 gN_Lp20 E  (by omega) (by omega) 
                · skip
                  replace E := zIf_f c39 E
                  refine zg_goto X 134 dX11_dams_67 (by decide) ?_
                  refine zg_iinc X 2 (fun v83 => [(5, .int v83), (4, .int x19), (3, .int v15), (0, .ref a0), (1, .int p1), (2, .int p2)]) 0 dX11_dams_134 rfl (by decide) (by decide) (by omega) (by omega) (fun _ => rfl) (fun v83 ev83 hv83 => ?_)
                  replace E := zLet_s (zinc ev83 (by decide)) E
                  refine zg_goto X 40 dX11_dams_137 (by decide) ?_
                  refine zg_sub [0, 1, 2, 3, 4, 5] rfl ?_
                  exact ihLp20 _ v83 x19 hI hS gE_Lp20 gH_Lp20 gL_Lp20 gN_Lp20 E  (by omega) (by omega) 
        refine zg_sub [0, 1, 2, 3, 4, 5] rfl ?_
        exact Lp20 10000 _ v17 v16 hI hS hgE hgH hgL hgN E  (by omega) (by omega) 
      · skip
        replace E := zIf_t c13 E
        refine zg_iconst X (-1) dX11_dams_27 (by decide) (fun v84 _ hv84 => ?_)
        replace E := zLet_s (zcst hv84 (by decide)) E
        exact ret _ _ _ _ dX11_dams_28 rfl ⟨E.symm.trans hR, ⟨⟨hgN, hgH, hgE, hgL⟩, hI, hS⟩⟩
set_option maxHeartbeats 4000000 in
set_option maxRecDepth 100000 in
theorem t_X11_lossOf (l : Launch) (d : zD2) (L : List Nat) (kd : Nat → Nat) (κ : Int) (σ : zS) (hI : zJ κ L kd σ) (a0 : Nat) (ha0 : zT L kd a0 11) (p1 : Int32) (hgN : gN a0 σ) (hgL : gL a0 σ) : zMi l yX11_lossOf (Cond.code yX11_lossOf cX11_lossOf 3 (some .int) :: zWL) 6 [.ref a0, .int p1] d L kd σ (fun v σ2 => (v, σ2) = F_X11_lossOf a0 p1 σ ∧ (zJ κ L kd σ2 ∧ zSame a0 [47, 50, 51] [145, 146, 149, 152, 153, 154, 155] L kd σ σ2)) := by
  refine zMi.of (own := RX11) (by decide +kernel) rfl rfl (Nat.le_of_ble_eq_true rfl) ?_
  intro p e s m args below meth c A Q X ret
  have hS : zSame a0 [47, 50, 51] [145, 146, 149, 152, 153, 154, 155] L kd σ σ := zSame.rf
  refine zg_lv (lv2 := [(0, .ref a0), (1, .int p1)]) rfl ?_
  obtain ⟨R, hR⟩ : ∃ R, R = F_X11_lossOf a0 p1 σ := ⟨_, rfl⟩
  have E := hR
  unfold F_X11_lossOf at E
  refine zg_aload_n X 0 rfl dX11_lossOf_0 ?_
  refine zg_cVv (As := []) (st := []) X ha0 rfl (by decide) rfl (t_X11_copies l d L kd κ _ hI a0 ha0    hgN hgL) mk_X11_332 mc_X11_copies mz_X11 mi_X11_copies ml_X11_copies (na := 0) ⟨md_X11.1, md_X11.2, by decide +kernel⟩ rfl ⟨by decide, by decide⟩ (Nat.le_of_ble_eq_true rfl) dX11_lossOf_1 (fun t1 hq => ?_)
  obtain ⟨hF, ⟨ht1_fact0, gRt1, gBt1⟩, hI, g2⟩ := hq
  replace E := zLet_s hF E
  have hS := hS.tr g2 (by decide) (by decide)
  have gNt1 := gN.same hI ha0 g2 (by decide) hgN
  have gLt1 := gL.same hI ha0 g2 (by decide) hgL
  refine zg_aload_n X 0 rfl dX11_lossOf_4 ?_
  refine fg_X11_122 X hI ha0 dX11_lossOf_5 (fun v3 ev3 hv3 => ?_)
  replace E := zLet_s (zgr ev3) E
  refine zg_iconst X 0 dX11_lossOf_8 (by decide) (fun v4 _ hv4 => ?_)
  replace E := zLet_s (zcst hv4 (by decide)) E
  refine ag_155 X hI hv3 (by omega) (by omega) dX11_lossOf_9 (fun v5 ev5 _ => ?_)
  replace E := zLet_s ev5 E
  refine zg_istore_n X [(2, .int v5), (0, .ref a0), (1, .int p1)] dX11_lossOf_10 (by decide) rfl ?_
  refine zg_aload_n X 1 rfl dX11_lossOf_11 ?_
  refine zg_iconst X 1 dX11_lossOf_12 (by decide) (fun v6 _ hv6 => ?_)
  replace E := zLet_s (zcst hv6 (by decide)) E
  refine zg_iload_n X 2 rfl dX11_lossOf_13 ?_
  refine zg_ishlW X dX11_lossOf_14 (fun v7 ev7 => ?_)
  replace E := zLet_s ev7 E
  refine zg_cVv (As := [.int v7]) (st := []) X ha0 rfl (by decide) rfl (t_X11_damsAll l d L kd κ _ hI a0 ha0 v7   gNt1 gLt1) mk_X11_429 mc_X11_damsAll mz_X11 mi_X11_damsAll ml_X11_damsAll (na := 1) ⟨md_X11.1, md_X11.2, by decide +kernel⟩ rfl ⟨by decide, by decide⟩ (Nat.le_of_ble_eq_true rfl) dX11_lossOf_15 (fun t8 hq => ?_)
  obtain ⟨hF, gRt8, hI, g9⟩ := hq
  replace E := zLet_s hF E
  have hS := hS.tr g9 (by decide) (by decide)
  refine zg_iload_n X 0 rfl dX11_lossOf_18 ?_
  refine zg_aload_n X 1 rfl dX11_lossOf_19 ?_
  refine fg_X11_122 X hI ha0 dX11_lossOf_20 (fun v10 ev10 hv10 => ?_)
  replace E := zLet_s (zgr ev10) E
  refine zg_iconst X 0 dX11_lossOf_23 (by decide) (fun v11 _ hv11 => ?_)
  replace E := zLet_s (zcst hv11 (by decide)) E
  refine ag_155 X hI hv10 (by omega) (by omega) dX11_lossOf_24 (fun v12 ev12 _ => ?_)
  replace E := zLet_s ev12 E
  refine zg_isubW X dX11_lossOf_25 (fun v13 ev13 => ?_)
  replace E := zLet_s ev13 E
  exact ret _ _ _ _ dX11_lossOf_26 rfl ⟨E.symm.trans hR, ⟨hI, hS⟩⟩
set_option maxHeartbeats 4000000 in
set_option maxRecDepth 100000 in
theorem t_X11_loss (l : Launch) (d : zD2) (L : List Nat) (kd : Nat → Nat) (κ : Int) (σ : zS) (hI : zJ κ L kd σ) (a0 : Nat) (ha0 : zT L kd a0 11) (p1 : Int32) (hgN : gN a0 σ) (hgH : gH a0 σ) (hgE : gE a0 σ) (hgL : gL a0 σ) : zMi l yX11_loss (Cond.code yX11_loss cX11_loss 2 (some .int) :: zWL) 7 [.ref a0, .int p1] d L kd σ (fun v σ2 => (v, σ2) = F_X11_loss a0 p1 σ ∧ (((gN a0 σ2) ∧ (gH a0 σ2) ∧ (gE a0 σ2) ∧ (gL a0 σ2)) ∧ zJ κ L kd σ2 ∧ zSame a0 [47, 50, 51] [145, 146, 149, 152, 153, 154, 155] L kd σ σ2)) := by
  refine zMi.of (own := RX11) (by decide +kernel) rfl rfl (Nat.le_of_ble_eq_true rfl) ?_
  intro p e s m args below meth c A Q X ret
  have hS : zSame a0 [47, 50, 51] [145, 146, 149, 152, 153, 154, 155] L kd σ σ := zSame.rf
  refine zg_lv (lv2 := [(0, .ref a0), (1, .int p1)]) rfl ?_
  obtain ⟨R, hR⟩ : ∃ R, R = F_X11_loss a0 p1 σ := ⟨_, rfl⟩
  have E := hR
  unfold F_X11_loss at E
  refine zg_aload_n X 0 rfl dX11_loss_0 ?_
  refine zg_iload_n X 1 rfl dX11_loss_1 ?_
  refine zg_cVi (As := [.int p1]) (st := []) X ha0 rfl (by decide) rfl (t_X11_isBeside l d L kd κ _ hI a0 ha0 p1  ) mk_X11_339 mc_X11_isBeside mz_X11 mi_X11_isBeside ml_X11_isBeside (na := 1) ⟨md_X11.1, md_X11.2, by decide +kernel⟩ rfl ⟨by decide, by decide⟩ (Nat.le_of_ble_eq_true rfl) dX11_loss_2 (fun v2 t1 hq => ?_)
  obtain ⟨⟨hF, ⟨ht1_res, ht1_fact0⟩⟩, rfl⟩ := hq
  replace E := zLet_s hF E
  refine zg_if_eq X 16 dX11_loss_5 (by decide) (fun c3 => ?_) (fun c3 => ?_)
  · skip
    replace E := zIf_t c3 E
    refine zg_iconst X (-1) dX11_loss_16 (by decide) (fun v4 _ hv4 => ?_)
    replace E := zLet_s (zcst hv4 (by decide)) E
    exact ret _ _ _ _ dX11_loss_17 rfl ⟨E.symm.trans hR, ⟨⟨hgN, hgH, hgE, hgL⟩, hI, hS⟩⟩
  · skip
    replace E := zIf_f c3 E
    refine zg_aload_n X 0 rfl dX11_loss_8 ?_
    refine zg_iload_n X 1 rfl dX11_loss_9 ?_
    refine zg_cVi (As := [.int p1]) (st := []) X ha0 rfl (by decide) rfl (t_X11_lossOf l d L kd κ _ hI a0 ha0 p1   hgN hgL) mk_X11_432 mc_X11_lossOf mz_X11 mi_X11_lossOf ml_X11_lossOf (na := 1) ⟨md_X11.1, md_X11.2, by decide +kernel⟩ rfl ⟨by decide, by decide⟩ (Nat.le_of_ble_eq_true rfl) dX11_loss_10 (fun v6 t5 hq => ?_)
    obtain ⟨hF, hI, g7⟩ := hq
    replace E := zLet2_s hF E
    have hS := hS.tr g7 (by decide) (by decide)
    have gNt5 := gN.same hI ha0 g7 (by decide) hgN
    have gHt5 := gH.same hI ha0 g7 (by decide) hgH
    have gEt5 := gE.same hI ha0 g7 (by decide) hgE
    have gLt5 := gL.same hI ha0 g7 (by decide) hgL
    refine zg_goto X 17 dX11_loss_13 (by decide) ?_
    exact ret _ _ _ _ dX11_loss_17 rfl ⟨E.symm.trans hR, ⟨⟨gNt5, gHt5, gEt5, gLt5⟩, hI, hS⟩⟩
set_option maxHeartbeats 4000000 in
set_option maxRecDepth 100000 in
theorem t_X11_part (l : Launch) (d : zD2) (L : List Nat) (kd : Nat → Nat) (κ : Int) (σ : zS) (hI : zJ κ L kd σ) (a0 : Nat) (ha0 : zT L kd a0 11) (p1 : Int32) (hgN : gN a0 σ) (hgH : gH a0 σ) (hgE : gE a0 σ) (hgL : gL a0 σ) : zMi l yX11_part (Cond.code yX11_part cX11_part 3 (some .int) :: zWL) 7 [.ref a0, .int p1] d L kd σ (fun v σ2 => (v, σ2) = F_X11_part a0 p1 σ ∧ (((gN a0 σ2) ∧ (gH a0 σ2) ∧ (gE a0 σ2) ∧ (gL a0 σ2)) ∧ zJ κ L kd σ2 ∧ zSame a0 [47, 50, 51] [145, 146, 149, 152, 153, 154, 155] L kd σ σ2)) := by
  refine zMi.of (own := RX11) (by decide +kernel) rfl rfl (Nat.le_of_ble_eq_true rfl) ?_
  intro p e s m args below meth c A Q X ret
  have hS : zSame a0 [47, 50, 51] [145, 146, 149, 152, 153, 154, 155] L kd σ σ := zSame.rf
  refine zg_lv (lv2 := [(0, .ref a0), (1, .int p1)]) rfl ?_
  obtain ⟨R, hR⟩ : ∃ R, R = F_X11_part a0 p1 σ := ⟨_, rfl⟩
  have E := hR
  unfold F_X11_part at E
  refine zg_aload_n X 0 rfl dX11_part_0 ?_
  refine zg_iload_n X 1 rfl dX11_part_1 ?_
  refine zg_cVi (As := [.int p1]) (st := []) X ha0 rfl (by decide) rfl (t_X11_isBeside l d L kd κ _ hI a0 ha0 p1  ) mk_X11_339 mc_X11_isBeside mz_X11 mi_X11_isBeside ml_X11_isBeside (na := 1) ⟨md_X11.1, md_X11.2, by decide +kernel⟩ rfl ⟨by decide, by decide⟩ (Nat.le_of_ble_eq_true rfl) dX11_part_2 (fun v2 t1 hq => ?_)
  obtain ⟨⟨hF, ⟨ht1_res, ht1_fact0⟩⟩, rfl⟩ := hq
  replace E := zLet_s hF E
  refine zg_if_ne X 10 dX11_part_5 (by decide) (fun c3 => ?_) (fun c3 => ?_)
  · skip
    replace E := zIf_f c3 E
    refine zg_aload_n X 0 rfl dX11_part_10 ?_
    refine zg_iload_n X 1 rfl dX11_part_11 ?_
    refine zg_cVi (As := [.int p1]) (st := []) X ha0 rfl (by decide) rfl (t_X11_lossOf l d L kd κ _ hI a0 ha0 p1   hgN hgL) mk_X11_432 mc_X11_lossOf mz_X11 mi_X11_lossOf ml_X11_lossOf (na := 1) ⟨md_X11.1, md_X11.2, by decide +kernel⟩ rfl ⟨by decide, by decide⟩ (Nat.le_of_ble_eq_true rfl) dX11_part_12 (fun v5 t4 hq => ?_)
    obtain ⟨hF, hI, g6⟩ := hq
    replace E := zLet2_s hF E
    have hS := hS.tr g6 (by decide) (by decide)
    have gNt4 := gN.same hI ha0 g6 (by decide) hgN
    have gHt4 := gH.same hI ha0 g6 (by decide) hgH
    have gEt4 := gE.same hI ha0 g6 (by decide) hgE
    have gLt4 := gL.same hI ha0 g6 (by decide) hgL
    refine zg_istore_n X [(2, .int v5), (0, .ref a0), (1, .int p1)] dX11_part_15 (by decide) rfl ?_
    refine zg_aload_n X 1 rfl dX11_part_16 ?_
    refine zg_cVv (As := []) (st := []) X ha0 rfl (by decide) rfl (t_X11_copies l d L kd κ _ hI a0 ha0    gNt4 gLt4) mk_X11_332 mc_X11_copies mz_X11 mi_X11_copies ml_X11_copies (na := 0) ⟨md_X11.1, md_X11.2, by decide +kernel⟩ rfl ⟨by decide, by decide⟩ (Nat.le_of_ble_eq_true rfl) dX11_part_17 (fun t7 hq => ?_)
    obtain ⟨hF, ⟨ht7_fact0, gRt7, gBt7⟩, hI, g8⟩ := hq
    replace E := zLet_s hF E
    have hS := hS.tr g8 (by decide) (by decide)
    have gNt7 := gN.same hI ha0 g8 (by decide) gNt4
    have gHt7 := gH.same hI ha0 g8 (by decide) gHt4
    have gEt7 := gE.same hI ha0 g8 (by decide) gEt4
    have gLt7 := gL.same hI ha0 g8 (by decide) gLt4
    refine zg_aload_n X 1 rfl dX11_part_20 ?_
    refine fg_X11_122 X hI ha0 dX11_part_21 (fun v9 ev9 hv9 => ?_)
    replace E := zLet_s (zgr ev9) E
    refine zg_iconst X 0 dX11_part_24 (by decide) (fun v10 _ hv10 => ?_)
    replace E := zLet_s (zcst hv10 (by decide)) E
    refine ag_155 X hI hv9 (by omega) (by omega) dX11_part_25 (fun v11 ev11 _ => ?_)
    replace E := zLet_s ev11 E
    have qv11 := zp_ld ev9 ev11
    rw [show v10.toInt = 0 by omega] at qv11
    refine zg_if_ne X 33 dX11_part_26 (by decide) (fun c12 => ?_) (fun c12 => ?_)
    · skip
      replace E := zIf_f c12 E
      refine zg_sipush X 1000 dX11_part_33 (by decide) (fun v13 _ hv13 => ?_)
      replace E := zLet_s (zcst hv13 (by decide)) E
      refine zg_iload_n X 0 rfl dX11_part_36 ?_
      refine zg_imulW X dX11_part_37 (fun v14 ev14 => ?_)
      replace E := zLet_s ev14 E
      refine zg_aload_n X 1 rfl dX11_part_38 ?_
      refine fg_X11_122 X hI ha0 dX11_part_39 (fun v15 ev15 hv15 => ?_)
      replace E := zLet_s (zgr ev15) E
      refine zg_iconst X 0 dX11_part_42 (by decide) (fun v16 _ hv16 => ?_)
      replace E := zLet_s (zcst hv16 (by decide)) E
      refine ag_155 X hI hv15 (by omega) (by omega) dX11_part_43 (fun v17 ev17 _ => ?_)
      replace E := zLet_s ev17 E
      have qv17 := zp_ld ev15 ev17
      rw [show v16.toInt = 0 by omega] at qv17
      refine zg_idivW X dX11_part_44 (by omega) (fun v18 ev18 => ?_)
      replace E := zLet_s ev18 E
      exact ret _ _ _ _ dX11_part_45 rfl ⟨E.symm.trans hR, ⟨⟨gNt7, gHt7, gEt7, gLt7⟩, hI, hS⟩⟩
    · skip
      replace E := zIf_t c12 E
      refine zg_iconst X 0 dX11_part_29 (by decide) (fun v19 _ hv19 => ?_)
      replace E := zLet_s (zcst hv19 (by decide)) E
      refine zg_goto X 45 dX11_part_30 (by decide) ?_
      exact ret _ _ _ _ dX11_part_45 rfl ⟨E.symm.trans hR, ⟨⟨gNt7, gHt7, gEt7, gLt7⟩, hI, hS⟩⟩
  · skip
    replace E := zIf_t c3 E
    refine zg_iconst X (-1) dX11_part_8 (by decide) (fun v20 _ hv20 => ?_)
    replace E := zLet_s (zcst hv20 (by decide)) E
    exact ret _ _ _ _ dX11_part_9 rfl ⟨E.symm.trans hR, ⟨⟨hgN, hgH, hgE, hgL⟩, hI, hS⟩⟩
set_option maxHeartbeats 4000000 in
set_option maxRecDepth 100000 in
theorem t_X11_main (l : Launch) (d : zD2) (L : List Nat) (kd : Nat → Nat) (κ : Int) (σ : zS) (hI : zJ κ L kd σ) (a0 : Nat) (ha0 : zT L kd a0 11) (p1 : Int32) (hgN : gN a0 σ) (hgH : gH a0 σ) (hgE : gE a0 σ) (hgL : gL a0 σ) : zMi l yX11_main (Cond.code yX11_main cX11_main 6 (some .int) :: zWL) 5 [.ref a0, .int p1] d L kd σ (fun v σ2 => (v, σ2) = F_X11_main a0 p1 σ ∧ (((gN a0 σ2) ∧ (gH a0 σ2) ∧ (gE a0 σ2) ∧ (gL a0 σ2)) ∧ zJ κ L kd σ2 ∧ zSame a0 [47, 50, 51] [145, 146, 149, 152, 153, 154, 155] L kd σ σ2)) := by
  refine zMi.of (own := RX11) (by decide +kernel) rfl rfl (Nat.le_of_ble_eq_true rfl) ?_
  intro p e s m args below meth c A Q X ret
  have hS : zSame a0 [47, 50, 51] [145, 146, 149, 152, 153, 154, 155] L kd σ σ := zSame.rf
  refine zg_lv (lv2 := [(0, .ref a0), (1, .int p1)]) rfl ?_
  have zm := zM_in hI ha0
  obtain ⟨R, hR⟩ : ∃ R, R = F_X11_main a0 p1 σ := ⟨_, rfl⟩
  have E := hR
  unfold F_X11_main at E
  refine zg_iload_n X 1 rfl dX11_main_0 ?_
  refine zg_if_lt X 11 dX11_main_1 (by decide) (fun c1 => ?_) (fun c1 => ?_)
  · skip
    replace E := zIf_t c1 E
    refine zg_iconst X (-1) dX11_main_11 (by decide) (fun v2 _ hv2 => ?_)
    replace E := zLet_s (zcst hv2 (by decide)) E
    exact ret _ _ _ _ dX11_main_12 rfl ⟨E.symm.trans hR, ⟨⟨hgN, hgH, hgE, hgL⟩, hI, hS⟩⟩
  · skip
    replace E := zIf_f (Int.not_lt.mpr c1) E
    refine zg_aload_n X 0 rfl dX11_main_4 ?_
    refine zg_cVi (As := []) (st := []) X ha0 rfl (by decide) rfl (t_X11_many l d L kd κ _ hI a0 ha0   ) mk_X11_313 mc_X11_many mz_X11 mi_X11_many ml_X11_many (na := 0) ⟨md_X11.1, md_X11.2, by decide +kernel⟩ rfl ⟨by decide, by decide⟩ (Nat.le_of_ble_eq_true rfl) dX11_main_5 (fun v4 t3 hq => ?_)
    obtain ⟨⟨hF, ⟨ht3_res, ht3_fact0⟩⟩, rfl⟩ := hq
    replace E := zLet_s hF E
    refine zg_if_ne X 13 dX11_main_8 (by decide) (fun c5 => ?_) (fun c5 => ?_)
    · skip
      replace E := zIf_f c5 E
      refine zg_aload_n X 0 rfl dX11_main_13 ?_
      refine zg_cVv (As := []) (st := []) X ha0 rfl (by decide) rfl (t_X11_copies l d L kd κ _ hI a0 ha0    hgN hgL) mk_X11_332 mc_X11_copies mz_X11 mi_X11_copies ml_X11_copies (na := 0) ⟨md_X11.1, md_X11.2, by decide +kernel⟩ rfl ⟨by decide, by decide⟩ (Nat.le_of_ble_eq_true rfl) dX11_main_14 (fun t6 hq => ?_)
      obtain ⟨hF, ⟨ht6_fact0, gRt6, gBt6⟩, hI, g7⟩ := hq
      replace E := zLet_s hF E
      have hS := hS.tr g7 (by decide) (by decide)
      have gNt6 := gN.same hI ha0 g7 (by decide) hgN
      have gHt6 := gH.same hI ha0 g7 (by decide) hgH
      have gEt6 := gE.same hI ha0 g7 (by decide) hgE
      have gLt6 := gL.same hI ha0 g7 (by decide) hgL
      refine zg_iconst X 0 dX11_main_17 (by decide) (fun v8 _ hv8 => ?_)
      replace E := zLet_s (zcst hv8 (by decide)) E
      refine zg_istore_n X [(2, .int v8), (0, .ref a0), (1, .int p1)] dX11_main_18 (by decide) rfl ?_
      refine zg_iconst X 0 dX11_main_19 (by decide) (fun v9 _ hv9 => ?_)
      replace E := zLet_s (zcst hv9 (by decide)) E
      refine zg_istore_n X [(3, .int v9), (2, .int v8), (0, .ref a0), (1, .int p1)] dX11_main_20 (by decide) rfl ?_
      have Lp12 : ∀ (nLp12 : Nat) (τ12 : zS) (x10 : Int32) (x11 : Int32), zJ κ L kd τ12 → zSame a0 [47, 50, 51] [145, 146, 149, 152, 153, 154, 155] L kd σ τ12 → gE a0 τ12 → gH a0 τ12 → gL a0 τ12 → gN a0 τ12 → R = F_X11_main_21 a0 p1  nLp12 x10 x11 τ12 → 0 ≤ x11.toInt ∧ x11.toInt ≤ 11 ∧ 0 ≤ x10.toInt ∧ x10.toInt ≤ 2147483647 → (2147483647) - x10.toInt + 1 < (nLp12 : Int) → zG d L kd A 6 p l e (k2_rm 5 (100 * 5)) s m args below meth c Q τ12 21 [(3, .int x10), (2, .int x11), (0, .ref a0), (1, .int p1)] [] := by
        intro nLp12
        induction nLp12 with
        | zero => intro τ12 x10 x11 hI hS gE_Lp12 gH_Lp12 gL_Lp12 gN_Lp12 E  hxLp12 hm ; exact absurd hm (by omega)
        | succ nLp12 ihLp12 =>
          intro τ12 x10 x11 hI hS gE_Lp12 gH_Lp12 gL_Lp12 gN_Lp12 E  hxLp12 hmLp12 
          rw [F_X11_main_21] at E
          refine zg_iload_n X 0 rfl dX11_main_21 ?_
          refine zg_iload_n X 3 rfl dX11_main_22 ?_
          have zx10_z13 := zb_rng x10
          have zp1_z14 := zb_rng p1
          refine zg_icmp_ge X 100 dX11_main_23 (by decide) (fun c15 => ?_) (fun c15 => ?_)
          · skip
            replace E := zIf_f (Int.not_lt.mpr c15) E
            refine zg_iload_n X 1 rfl dX11_main_100 ?_
            exact ret _ _ _ _ dX11_main_101 rfl ⟨E.symm.trans hR, ⟨⟨gN_Lp12, gH_Lp12, gE_Lp12, gL_Lp12⟩, hI, hS⟩⟩
          · skip
            replace E := zIf_t c15 E
            refine zg_iconst X (-1) dX11_main_26 (by decide) (fun v16 _ hv16 => ?_)
            replace E := zLet_s (zcst hv16 (by decide)) E
            refine zg_istore X [(4, .int v16), (3, .int x10), (2, .int x11), (0, .ref a0), (1, .int p1)] dX11_main_27 (by decide) rfl ?_
            refine zg_iconst X 1 dX11_main_29 (by decide) (fun v17 _ hv17 => ?_)
            replace E := zLet_s (zcst hv17 (by decide)) E
            refine zg_istore X [(5, .int v17), (4, .int v16), (3, .int x10), (2, .int x11), (0, .ref a0), (1, .int p1)] dX11_main_30 (by decide) rfl ?_
            have Lp20 : ∀ (nLp20 : Nat) (τ20 : zS) (x18 : Int32) (x19 : Int32), zJ κ L kd τ20 → zSame a0 [47, 50, 51] [145, 146, 149, 152, 153, 154, 155] L kd σ τ20 → gE a0 τ20 → gH a0 τ20 → gL a0 τ20 → gN a0 τ20 → R = F_X11_main_32 x10 x11 a0 p1 (F_X11_main_21 a0 p1  nLp12) nLp20 x18 x19 τ20 → (-1) ≤ x19.toInt ∧ x19.toInt ≤ 11 ∧ 1 ≤ x18.toInt ∧ x18.toInt ≤ 12 → (12) - x18.toInt + 1 < (nLp20 : Int) → zG d L kd A 6 p l e (k2_rm 5 (100 * 5)) s m args below meth c Q τ20 32 [(5, .int x18), (4, .int x19), (3, .int x10), (2, .int x11), (0, .ref a0), (1, .int p1)] [] := by
              intro nLp20
              induction nLp20 with
              | zero => intro τ20 x18 x19 hI hS gE_Lp20 gH_Lp20 gL_Lp20 gN_Lp20 E  hxLp20 hm ; exact absurd hm (by omega)
              | succ nLp20 ihLp20 =>
                intro τ20 x18 x19 hI hS gE_Lp20 gH_Lp20 gL_Lp20 gN_Lp20 E  hxLp20 hmLp20 
                rw [F_X11_main_32] at E
                refine zg_iload X 0 rfl dX11_main_32 ?_
                refine zg_aload_n X 4 rfl dX11_main_34 ?_
                refine zg_cVi (As := []) (st := [.int x18]) X ha0 rfl (by decide) rfl (t_X11_many l d L kd κ _ hI a0 ha0   ) mk_X11_313 mc_X11_many mz_X11 mi_X11_many ml_X11_many (na := 0) ⟨md_X11.1, md_X11.2, by decide +kernel⟩ rfl ⟨by decide, by decide⟩ (Nat.le_of_ble_eq_true rfl) dX11_main_35 (fun v22 t21 hq => ?_)
                obtain ⟨⟨hF, ⟨ht21_res, ht21_fact0⟩⟩, rfl⟩ := hq
                replace E := zLet_s hF E
                refine zg_icmp_ge X 84 dX11_main_38 (by decide) (fun c23 => ?_) (fun c23 => ?_)
                · skip
                  replace E := zIf_f (Int.not_lt.mpr c23) E
                  refine zg_iload X 1 rfl dX11_main_84 ?_
                  refine zg_if_ge X 91 dX11_main_86 (by decide) (fun c24 => ?_) (fun c24 => ?_)
                  · skip
                    replace E := zIf_f (Int.not_lt.mpr c24) E
                    refine zg_iload X 1 rfl dX11_main_91 ?_
                    refine zg_istore_n X [(2, .int x19), (5, .int x18), (4, .int x19), (3, .int x10), (0, .ref a0), (1, .int p1)] dX11_main_93 (by decide) rfl ?_
                    refine zg_iinc X 1 (fun v25 => [(3, .int v25), (2, .int x19), (5, .int x18), (4, .int x19), (0, .ref a0), (1, .int p1)]) 3 dX11_main_94 rfl (by decide) (by decide) (by omega) (by omega) (fun _ => rfl) (fun v25 ev25 hv25 => ?_)
                    replace E := zLet_s (zinc ev25 (by decide)) E
                    refine zg_goto X 21 dX11_main_97 (by decide) ?_
                    refine zg_sub [0, 1, 4, 5] rfl ?_
                    exact ihLp12 _ v25 x19 hI hS gE_Lp20 gH_Lp20 gL_Lp20 gN_Lp20 E  (by omega) (by omega) 
                  · skip
                    replace E := zIf_t c24 E
                    refine zg_iconst X (-1) dX11_main_89 (by decide) (fun v26 _ hv26 => ?_)
                    replace E := zLet_s (zcst hv26 (by decide)) E
                    exact ret _ _ _ _ dX11_main_90 rfl ⟨E.symm.trans hR, ⟨⟨gN_Lp20, gH_Lp20, gE_Lp20, gL_Lp20⟩, hI, hS⟩⟩
                · skip
                  replace E := zIf_t c23 E
                  refine zg_aload_n X 4 rfl dX11_main_41 ?_
                  refine fg_X11_110 X hI ha0 dX11_main_42 (fun v27 ev27 hv27 => ?_)
                  replace E := zLet_s (zgr ev27) E
                  refine zg_iload X 0 rfl dX11_main_45 ?_
                  refine ag_149 X hI hv27 (by omega) (by omega) dX11_main_47 (fun v28 ev28 _ => ?_)
                  replace E := zLet_s ev28 E
                  refine zg_iload_n X 3 rfl dX11_main_48 ?_
                  refine zg_icmp_ne X 78 dX11_main_49 (by decide) (fun c29 => ?_) (fun c29 => ?_)
                  · skip
                    replace E := zIf_f c29 E
                    refine zg_iinc X 1 (fun v30 => [(5, .int v30), (4, .int x19), (3, .int x10), (2, .int x11), (0, .ref a0), (1, .int p1)]) 0 dX11_main_78 rfl (by decide) (by decide) (by omega) (by omega) (fun _ => rfl) (fun v30 ev30 hv30 => ?_)
                    replace E := zLet_s (zinc ev30 (by decide)) E
                    refine zg_goto X 32 dX11_main_81 (by decide) ?_
                    refine zg_sub [0, 1, 2, 3, 4, 5] rfl ?_
                    exact ihLp20 _ v30 x19 hI hS gE_Lp20 gH_Lp20 gL_Lp20 gN_Lp20 E  (by omega) (by omega) 
                  · skip
                    replace E := zIf_t c29 E
                    refine zg_iload X 1 rfl dX11_main_52 ?_
                    refine zg_if_lt X 74 dX11_main_54 (by decide) (fun c31 => ?_) (fun c31 => ?_)
                    · skip
                      replace E := zIf_t c31 E
                      refine zg_iload X 0 rfl dX11_main_74 ?_
                      refine zg_istore X [(4, .int x18), (5, .int x18), (3, .int x10), (2, .int x11), (0, .ref a0), (1, .int p1)] dX11_main_76 (by decide) rfl ?_
                      refine zg_iinc X 1 (fun v32 => [(5, .int v32), (4, .int x18), (3, .int x10), (2, .int x11), (0, .ref a0), (1, .int p1)]) 1 dX11_main_78 rfl (by decide) (by decide) (by omega) (by omega) (fun _ => rfl) (fun v32 ev32 hv32 => ?_)
                      replace E := zLet_s (zinc ev32 (by decide)) E
                      refine zg_goto X 32 dX11_main_81 (by decide) ?_
                      refine zg_sub [0, 1, 2, 3, 4, 5] rfl ?_
                      exact ihLp20 _ v32 x18 hI hS gE_Lp20 gH_Lp20 gL_Lp20 gN_Lp20 E  (by omega) (by omega) 
                    · skip
                      replace E := zIf_f (Int.not_lt.mpr c31) E
                      refine zg_aload_n X 4 rfl dX11_main_57 ?_
                      refine fg_X11_122 X hI ha0 dX11_main_58 (fun v33 ev33 hv33 => ?_)
                      replace E := zLet_s (zgr ev33) E
                      refine zg_iload X 0 rfl dX11_main_61 ?_
                      refine ag_155 X hI hv33 (by omega) (by omega) dX11_main_63 (fun v34 ev34 _ => ?_)
                      replace E := zLet_s ev34 E
                      refine zg_aload_n X 4 rfl dX11_main_64 ?_
                      refine fg_X11_122 X hI ha0 dX11_main_65 (fun v35 ev35 hv35 => ?_)
                      replace E := zLet_s (zgr ev35) E
                      refine zg_iload X 1 rfl dX11_main_68 ?_
                      refine ag_155 X hI hv35 (by omega) (by omega) dX11_main_70 (fun v36 ev36 _ => ?_)
                      replace E := zLet_s ev36 E
                      have zv34_z37 := zb_rng v34
                      have zv36_z38 := zb_rng v36
                      refine zg_icmp_le X 78 dX11_main_71 (by decide) (fun c39 => ?_) (fun c39 => ?_)
                      · skip
                        replace E := zIf_f (Int.not_lt.mpr c39) E
                        refine zg_iinc X 1 (fun v40 => [(5, .int v40), (4, .int x19), (3, .int x10), (2, .int x11), (0, .ref a0), (1, .int p1)]) 0 dX11_main_78 rfl (by decide) (by decide) (by omega) (by omega) (fun _ => rfl) (fun v40 ev40 hv40 => ?_)
                        replace E := zLet_s (zinc ev40 (by decide)) E
                        refine zg_goto X 32 dX11_main_81 (by decide) ?_
                        refine zg_sub [0, 1, 2, 3, 4, 5] rfl ?_
                        exact ihLp20 _ v40 x19 hI hS gE_Lp20 gH_Lp20 gL_Lp20 gN_Lp20 E  (by omega) (by omega) 
                      · skip
                        replace E := zIf_t c39 E
                        refine zg_iload X 0 rfl dX11_main_74 ?_
                        refine zg_istore X [(4, .int x18), (5, .int x18), (3, .int x10), (2, .int x11), (0, .ref a0), (1, .int p1)] dX11_main_76 (by decide) rfl ?_
                        refine zg_iinc X 1 (fun v41 => [(5, .int v41), (4, .int x18), (3, .int x10), (2, .int x11), (0, .ref a0), (1, .int p1)]) 1 dX11_main_78 rfl (by decide) (by decide) (by omega) (by omega) (fun _ => rfl) (fun v41 ev41 hv41 => ?_)
                        replace E := zLet_s (zinc ev41 (by decide)) E
                        refine zg_goto X 32 dX11_main_81 (by decide) ?_
                        refine zg_sub [0, 1, 2, 3, 4, 5] rfl ?_
                        exact ihLp20 _ v41 x18 hI hS gE_Lp20 gH_Lp20 gL_Lp20 gN_Lp20 E  (by omega) (by omega) 
            refine zg_sub [0, 1, 2, 3, 4, 5] rfl ?_
            exact Lp20 10000 _ v17 v16 hI hS gE_Lp12 gH_Lp12 gL_Lp12 gN_Lp12 E  (by omega) (by omega) 
      have zrLp12 := zb_rng v9
      refine zg_sub [0, 1, 2, 3] rfl ?_
      exact Lp12 4294967299 _ v9 v8 hI hS gEt6 gHt6 gLt6 gNt6 E  (by omega) (by omega) 
    · skip
      replace E := zIf_t c5 E
      refine zg_iconst X (-1) dX11_main_11 (by decide) (fun v42 _ hv42 => ?_)
      replace E := zLet_s (zcst hv42 (by decide)) E
      exact ret _ _ _ _ dX11_main_12 rfl ⟨E.symm.trans hR, ⟨⟨hgN, hgH, hgE, hgL⟩, hI, hS⟩⟩
set_option maxHeartbeats 4000000 in
set_option maxRecDepth 100000 in
theorem t_X11_driest (l : Launch) (d : zD2) (L : List Nat) (kd : Nat → Nat) (κ : Int) (σ : zS) (hI : zJ κ L kd σ) (a0 : Nat) (ha0 : zT L kd a0 11) (p1 : Int32) (p2 : Int32) (hgN : gN a0 σ) (hgH : gH a0 σ) (hgE : gE a0 σ) (hgL : gL a0 σ) : zMi l yX11_driest (Cond.code yX11_driest cX11_driest 6 (some .int) :: zWL) 6 [.ref a0, .int p1, .int p2] d L kd σ (fun v σ2 => (v, σ2) = F_X11_driest a0 p1 p2 σ ∧ (((gN a0 σ2) ∧ (gH a0 σ2) ∧ (gE a0 σ2) ∧ (gL a0 σ2)) ∧ zJ κ L kd σ2 ∧ zSame a0 [47, 50, 51, 56] [145, 146, 149, 152, 153, 154, 155] L kd σ σ2)) := by
  refine zMi.of (own := RX11) (by decide +kernel) rfl rfl (Nat.le_of_ble_eq_true rfl) ?_
  intro p e s m args below meth c A Q X ret
  have hS : zSame a0 [47, 50, 51, 56] [145, 146, 149, 152, 153, 154, 155] L kd σ σ := zSame.rf
  refine zg_lv (lv2 := [(0, .ref a0), (1, .int p1), (2, .int p2)]) rfl ?_
  obtain ⟨R, hR⟩ : ∃ R, R = F_X11_driest a0 p1 p2 σ := ⟨_, rfl⟩
  have E := hR
  unfold F_X11_driest at E
  refine zg_iload_n X 1 rfl dX11_driest_0 ?_
  refine zg_cSi (As := [.int p1]) (st := []) X (t_X11_isSome l d L kd _ p1 ) mk_X11_408 mc_X11_isSome mz_X11 ms_X11_isSome (na := 1) ⟨md_X11.1, md_X11.2, by decide +kernel⟩ rfl ⟨by decide, by decide⟩ (Nat.le_of_ble_eq_true rfl) dX11_driest_1 (fun v1 σ2 hq => ?_)
  obtain ⟨⟨hF, hv1⟩, rfl⟩ := hq
  replace E := zLet_s hF E
  refine zg_if_eq X 23 dX11_driest_4 (by decide) (fun c2 => ?_) (fun c2 => ?_)
  · skip
    replace E := zIf_t c2 E
    refine zg_iconst X (-1) dX11_driest_23 (by decide) (fun v3 _ hv3 => ?_)
    replace E := zLet_s (zcst hv3 (by decide)) E
    exact ret _ _ _ _ dX11_driest_24 rfl ⟨E.symm.trans hR, ⟨⟨hgN, hgH, hgE, hgL⟩, hI, hS⟩⟩
  · skip
    replace E := zIf_f c2 E
    refine zg_iload_n X 2 rfl dX11_driest_7 ?_
    refine zg_iconst X 0 dX11_driest_8 (by decide) (fun v4 _ hv4 => ?_)
    replace E := zLet_s (zcst hv4 (by decide)) E
    refine zg_iconst X 1 dX11_driest_9 (by decide) (fun v5 _ hv5 => ?_)
    replace E := zLet_s (zcst hv5 (by decide)) E
    refine zg_cSi (As := [.int p2, .int v4, .int v5]) (st := []) X (t_X11_in l d L kd _ p2 v4 v5 ) mk_X11_316 mc_X11_in mz_X11 ms_X11_in (na := 3) ⟨md_X11.1, md_X11.2, by decide +kernel⟩ rfl ⟨by decide, by decide⟩ (Nat.le_of_ble_eq_true rfl) dX11_driest_10 (fun v6 σ2 hq => ?_)
    obtain ⟨⟨hF, hv6⟩, rfl⟩ := hq
    replace E := zLet_s hF E
    refine zg_if_eq X 23 dX11_driest_13 (by decide) (fun c7 => ?_) (fun c7 => ?_)
    · skip
      replace E := zIf_t c7 E
      refine zg_iconst X (-1) dX11_driest_23 (by decide) (fun v8 _ hv8 => ?_)
      replace E := zLet_s (zcst hv8 (by decide)) E
      exact ret _ _ _ _ dX11_driest_24 rfl ⟨E.symm.trans hR, ⟨⟨hgN, hgH, hgE, hgL⟩, hI, hS⟩⟩
    · skip
      replace E := zIf_f c7 E
      refine zg_aload_n X 0 rfl dX11_driest_16 ?_
      refine zg_cVi (As := []) (st := []) X ha0 rfl (by decide) rfl (t_X11_many l d L kd κ _ hI a0 ha0   ) mk_X11_313 mc_X11_many mz_X11 mi_X11_many ml_X11_many (na := 0) ⟨md_X11.1, md_X11.2, by decide +kernel⟩ rfl ⟨by decide, by decide⟩ (Nat.le_of_ble_eq_true rfl) dX11_driest_17 (fun v10 t9 hq => ?_)
      obtain ⟨⟨hF, ⟨ht9_res, ht9_fact0⟩⟩, rfl⟩ := hq
      replace E := zLet_s hF E
      refine zg_if_ne X 25 dX11_driest_20 (by decide) (fun c11 => ?_) (fun c11 => ?_)
      · skip
        replace E := zIf_f c11 E
        refine zg_aload_n X 0 rfl dX11_driest_25 ?_
        refine zg_cVv (As := []) (st := []) X ha0 rfl (by decide) rfl (t_X11_copiesStill l d L kd κ _ hI a0 ha0    hgN hgL) mk_X11_411 mc_X11_copiesStill mz_X11 mi_X11_copiesStill ml_X11_copiesStill (na := 0) ⟨md_X11.1, md_X11.2, by decide +kernel⟩ rfl ⟨by decide, by decide⟩ (Nat.le_of_ble_eq_true rfl) dX11_driest_26 (fun t12 hq => ?_)
        obtain ⟨hF, ⟨gRt12, gBt12⟩, hI, g13⟩ := hq
        replace E := zLet_s hF E
        have hS := hS.tr g13 (by decide) (by decide)
        have gNt12 := gN.same hI ha0 g13 (by decide) hgN
        have gHt12 := gH.same hI ha0 g13 (by decide) hgH
        have gEt12 := gE.same hI ha0 g13 (by decide) hgE
        have gLt12 := gL.same hI ha0 g13 (by decide) hgL
        refine zg_iconst X (-1) dX11_driest_29 (by decide) (fun v14 _ hv14 => ?_)
        replace E := zLet_s (zcst hv14 (by decide)) E
        refine zg_istore_n X [(3, .int v14), (0, .ref a0), (1, .int p1), (2, .int p2)] dX11_driest_30 (by decide) rfl ?_
        refine zg_iconst X 0 dX11_driest_31 (by decide) (fun v15 _ hv15 => ?_)
        replace E := zLet_s (zcst hv15 (by decide)) E
        refine zg_istore X [(4, .int v15), (3, .int v14), (0, .ref a0), (1, .int p1), (2, .int p2)] dX11_driest_32 (by decide) rfl ?_
        refine zg_iconst X 0 dX11_driest_34 (by decide) (fun v16 _ hv16 => ?_)
        replace E := zLet_s (zcst hv16 (by decide)) E
        refine zg_istore X [(5, .int v16), (4, .int v15), (3, .int v14), (0, .ref a0), (1, .int p1), (2, .int p2)] dX11_driest_35 (by decide) rfl ?_
        have Lp20 : ∀ (nLp20 : Nat) (τ20 : zS) (x17 : Int32) (x18 : Int32) (x19 : Int32), zJ κ L kd τ20 → zSame a0 [47, 50, 51, 56] [145, 146, 149, 152, 153, 154, 155] L kd σ τ20 → gE a0 τ20 → gH a0 τ20 → gL a0 τ20 → gN a0 τ20 → gR a0 τ20 → R = F_X11_driest_37 a0 p1 p2  nLp20 x17 x18 x19 τ20 → (-1) ≤ x19.toInt ∧ x19.toInt ≤ 24 ∧ 0 ≤ x17.toInt ∧ x17.toInt ≤ 2147483647 → (2147483647) - x17.toInt + 1 < (nLp20 : Int) → zG d L kd A 6 p l e (k2_rm 6 (100 * 6)) s m args below meth c Q τ20 37 [(5, .int x17), (4, .int x18), (3, .int x19), (0, .ref a0), (1, .int p1), (2, .int p2)] [] := by
          intro nLp20
          induction nLp20 with
          | zero => intro τ20 x17 x18 x19 hI hS gE_Lp20 gH_Lp20 gL_Lp20 gN_Lp20 gR_Lp20 E  hxLp20 hm ; exact absurd hm (by omega)
          | succ nLp20 ihLp20 =>
            intro τ20 x17 x18 x19 hI hS gE_Lp20 gH_Lp20 gL_Lp20 gN_Lp20 gR_Lp20 E  hxLp20 hmLp20 
            rw [F_X11_driest_37] at E
            refine zg_iload X 0 rfl dX11_driest_37 ?_
            refine zg_iload_n X 4 rfl dX11_driest_39 ?_
            have zx17_z21 := zb_rng x17
            have zp1_z22 := zb_rng p1
            refine zg_icmp_ge X 79 dX11_driest_40 (by decide) (fun c23 => ?_) (fun c23 => ?_)
            · skip
              replace E := zIf_f (Int.not_lt.mpr c23) E
              refine zg_iload_n X 5 rfl dX11_driest_79 ?_
              refine zg_if_ne X 87 dX11_driest_80 (by decide) (fun c24 => ?_) (fun c24 => ?_)
              · skip
                replace E := zIf_f c24 E
                refine zg_iload X 1 rfl dX11_driest_87 ?_
                exact ret _ _ _ _ dX11_driest_89 rfl ⟨E.symm.trans hR, ⟨⟨gN_Lp20, gH_Lp20, gE_Lp20, gL_Lp20⟩, hI, hS⟩⟩
              · skip
                replace E := zIf_t c24 E
                refine zg_iload_n X 2 rfl dX11_driest_83 ?_
                refine zg_goto X 89 dX11_driest_84 (by decide) ?_
                exact ret _ _ _ _ dX11_driest_89 rfl ⟨E.symm.trans hR, ⟨⟨gN_Lp20, gH_Lp20, gE_Lp20, gL_Lp20⟩, hI, hS⟩⟩
            · skip
              replace E := zIf_t c23 E
              refine zg_iload_n X 2 rfl dX11_driest_43 ?_
              refine zg_if_lt X 58 dX11_driest_44 (by decide) (fun c25 => ?_) (fun c25 => ?_)
              · skip
                replace E := zIf_t c25 E
                refine zg_iload X 0 rfl dX11_driest_58 ?_
                refine zg_istore_n X [(3, .int x17), (5, .int x17), (4, .int x18), (0, .ref a0), (1, .int p1), (2, .int p2)] dX11_driest_60 (by decide) rfl ?_
                refine zg_aload_n X 3 rfl dX11_driest_61 ?_
                refine fg_X11_122 X hI ha0 dX11_driest_62 (fun v26 ev26 hv26 => ?_)
                replace E := zLet_s (zgr ev26) E
                refine zg_iconst X 0 dX11_driest_65 (by decide) (fun v27 _ hv27 => ?_)
                replace E := zLet_s (zcst hv27 (by decide)) E
                refine ag_155 X hI hv26 (by omega) (by omega) dX11_driest_66 (fun v28 ev28 _ => ?_)
                replace E := zLet_s ev28 E
                refine zg_istore X [(4, .int v28), (3, .int x17), (5, .int x17), (0, .ref a0), (1, .int p1), (2, .int p2)] dX11_driest_67 (by decide) rfl ?_
                refine zg_aload_n X 3 rfl dX11_driest_69 ?_
                refine zg_cVv (As := []) (st := []) X ha0 rfl (by decide) rfl (t_X11_monthGoes l d L kd κ _ hI a0 ha0    gR_Lp20 gL_Lp20) mk_X11_380 mc_X11_monthGoes mz_X11 mi_X11_monthGoes ml_X11_monthGoes (na := 0) ⟨md_X11.1, md_X11.2, by decide +kernel⟩ rfl ⟨by decide, by decide⟩ (Nat.le_of_ble_eq_true rfl) dX11_driest_70 (fun t29 hq => ?_)
                obtain ⟨hF, gRt29, hI, g30⟩ := hq
                replace E := zLet_s hF E
                have hS := hS.tr g30 (by decide) (by decide)
                have gEt29 := gE.same hI ha0 g30 (by decide) gE_Lp20
                have gHt29 := gH.same hI ha0 g30 (by decide) gH_Lp20
                have gLt29 := gL.same hI ha0 g30 (by decide) gL_Lp20
                have gNt29 := gN.same hI ha0 g30 (by decide) gN_Lp20
                refine zg_iinc X 1 (fun v31 => [(5, .int v31), (4, .int v28), (3, .int x17), (0, .ref a0), (1, .int p1), (2, .int p2)]) 2 dX11_driest_73 rfl (by decide) (by decide) (by omega) (by omega) (fun _ => rfl) (fun v31 ev31 hv31 => ?_)
                replace E := zLet_s (zinc ev31 (by decide)) E
                refine zg_goto X 37 dX11_driest_76 (by decide) ?_
                refine zg_sub [0, 1, 2, 3, 4, 5] rfl ?_
                exact ihLp20 _ v31 v28 x17 hI hS gEt29 gHt29 gLt29 gNt29 gRt29 E  (by omega) (by omega) 
              · skip
                replace E := zIf_f (Int.not_lt.mpr c25) E
                refine zg_aload_n X 3 rfl dX11_driest_47 ?_
                refine fg_X11_122 X hI ha0 dX11_driest_48 (fun v32 ev32 hv32 => ?_)
                replace E := zLet_s (zgr ev32) E
                refine zg_iconst X 0 dX11_driest_51 (by decide) (fun v33 _ hv33 => ?_)
                replace E := zLet_s (zcst hv33 (by decide)) E
                refine ag_155 X hI hv32 (by omega) (by omega) dX11_driest_52 (fun v34 ev34 _ => ?_)
                replace E := zLet_s ev34 E
                refine zg_iload X 1 rfl dX11_driest_53 ?_
                have zv34_z35 := zb_rng v34
                have zx18_z36 := zb_rng x18
                refine zg_icmp_ge X 69 dX11_driest_55 (by decide) (fun c37 => ?_) (fun c37 => ?_)
                · skip
                  replace E := zIf_f (Int.not_lt.mpr c37) E
                  refine zg_aload_n X 3 rfl dX11_driest_69 ?_
                  refine zg_cVv (As := []) (st := []) X ha0 rfl (by decide) rfl (t_X11_monthGoes l d L kd κ _ hI a0 ha0    gR_Lp20 gL_Lp20) mk_X11_380 mc_X11_monthGoes mz_X11 mi_X11_monthGoes ml_X11_monthGoes (na := 0) ⟨md_X11.1, md_X11.2, by decide +kernel⟩ rfl ⟨by decide, by decide⟩ (Nat.le_of_ble_eq_true rfl) dX11_driest_70 (fun t38 hq => ?_)
                  obtain ⟨hF, gRt38, hI, g39⟩ := hq
                  replace E := zLet_s hF E
                  have hS := hS.tr g39 (by decide) (by decide)
                  have gEt38 := gE.same hI ha0 g39 (by decide) gE_Lp20
                  have gHt38 := gH.same hI ha0 g39 (by decide) gH_Lp20
                  have gLt38 := gL.same hI ha0 g39 (by decide) gL_Lp20
                  have gNt38 := gN.same hI ha0 g39 (by decide) gN_Lp20
                  refine zg_iinc X 1 (fun v40 => [(5, .int v40), (4, .int x18), (3, .int x19), (0, .ref a0), (1, .int p1), (2, .int p2)]) 0 dX11_driest_73 rfl (by decide) (by decide) (by omega) (by omega) (fun _ => rfl) (fun v40 ev40 hv40 => ?_)
                  replace E := zLet_s (zinc ev40 (by decide)) E
                  refine zg_goto X 37 dX11_driest_76 (by decide) ?_
                  refine zg_sub [0, 1, 2, 3, 4, 5] rfl ?_
                  exact ihLp20 _ v40 x18 x19 hI hS gEt38 gHt38 gLt38 gNt38 gRt38 E  (by omega) (by omega) 
                · skip
                  replace E := zIf_t c37 E
                  refine zg_iload X 0 rfl dX11_driest_58 ?_
                  refine zg_istore_n X [(3, .int x17), (5, .int x17), (4, .int x18), (0, .ref a0), (1, .int p1), (2, .int p2)] dX11_driest_60 (by decide) rfl ?_
                  refine zg_aload_n X 3 rfl dX11_driest_61 ?_
                  refine fg_X11_122 X hI ha0 dX11_driest_62 (fun v41 ev41 hv41 => ?_)
                  replace E := zLet_s (zgr ev41) E
                  refine zg_iconst X 0 dX11_driest_65 (by decide) (fun v42 _ hv42 => ?_)
                  replace E := zLet_s (zcst hv42 (by decide)) E
                  refine ag_155 X hI hv41 (by omega) (by omega) dX11_driest_66 (fun v43 ev43 _ => ?_)
                  replace E := zLet_s ev43 E
                  refine zg_istore X [(4, .int v43), (3, .int x17), (5, .int x17), (0, .ref a0), (1, .int p1), (2, .int p2)] dX11_driest_67 (by decide) rfl ?_
                  refine zg_aload_n X 3 rfl dX11_driest_69 ?_
                  refine zg_cVv (As := []) (st := []) X ha0 rfl (by decide) rfl (t_X11_monthGoes l d L kd κ _ hI a0 ha0    gR_Lp20 gL_Lp20) mk_X11_380 mc_X11_monthGoes mz_X11 mi_X11_monthGoes ml_X11_monthGoes (na := 0) ⟨md_X11.1, md_X11.2, by decide +kernel⟩ rfl ⟨by decide, by decide⟩ (Nat.le_of_ble_eq_true rfl) dX11_driest_70 (fun t44 hq => ?_)
                  obtain ⟨hF, gRt44, hI, g45⟩ := hq
                  replace E := zLet_s hF E
                  have hS := hS.tr g45 (by decide) (by decide)
                  have gEt44 := gE.same hI ha0 g45 (by decide) gE_Lp20
                  have gHt44 := gH.same hI ha0 g45 (by decide) gH_Lp20
                  have gLt44 := gL.same hI ha0 g45 (by decide) gL_Lp20
                  have gNt44 := gN.same hI ha0 g45 (by decide) gN_Lp20
                  refine zg_iinc X 1 (fun v46 => [(5, .int v46), (4, .int v43), (3, .int x17), (0, .ref a0), (1, .int p1), (2, .int p2)]) 2 dX11_driest_73 rfl (by decide) (by decide) (by omega) (by omega) (fun _ => rfl) (fun v46 ev46 hv46 => ?_)
                  replace E := zLet_s (zinc ev46 (by decide)) E
                  refine zg_goto X 37 dX11_driest_76 (by decide) ?_
                  refine zg_sub [0, 1, 2, 3, 4, 5] rfl ?_
                  exact ihLp20 _ v46 v43 x17 hI hS gEt44 gHt44 gLt44 gNt44 gRt44 E  (by omega) (by omega) 
        have zrLp20 := zb_rng v16
        refine zg_sub [0, 1, 2, 3, 4, 5] rfl ?_
        exact Lp20 4294967299 _ v16 v15 v14 hI hS gEt12 gHt12 gLt12 gNt12 gRt12 E  (by omega) (by omega) 
      · skip
        replace E := zIf_t c11 E
        refine zg_iconst X (-1) dX11_driest_23 (by decide) (fun v47 _ hv47 => ?_)
        replace E := zLet_s (zcst hv47 (by decide)) E
        exact ret _ _ _ _ dX11_driest_24 rfl ⟨E.symm.trans hR, ⟨⟨hgN, hgH, hgE, hgL⟩, hI, hS⟩⟩
set_option maxHeartbeats 4000000 in
set_option maxRecDepth 100000 in
theorem t_X11_winsTurned (l : Launch) (d : zD2) (L : List Nat) (kd : Nat → Nat) (κ : Int) (σ : zS) (hI : zJ κ L kd σ) (a0 : Nat) (ha0 : zT L kd a0 11) (p1 : Int32) (p2 : Int32) (p3 : Int32) (p4 : Int32) (hq0 : 0 ≤ p2.toInt ∧ p2.toInt ≤ 2) (hgN : gN a0 σ) (hgL : gL a0 σ) : zMi l yX11_winsTurned (Cond.code yX11_winsTurned cX11_winsTurned 5 (some .boolean) :: zWL) 5 [.ref a0, .int p1, .int p2, .int p3, .int p4] d L kd σ (fun v σ2 => (v, σ2) = F_X11_winsTurned a0 p1 p2 p3 p4 σ ∧ (((0 ≤ v.toInt ∧ v.toInt ≤ 1)) ∧ zJ κ L kd σ2 ∧ zSame a0 [47, 50, 51] [145, 146, 149, 152, 153, 154, 155] L kd σ σ2)) := by
  refine zMi.of (own := RX11) (by decide +kernel) rfl rfl (Nat.le_of_ble_eq_true rfl) ?_
  intro p e s m args below meth c A Q X ret
  have hS : zSame a0 [47, 50, 51] [145, 146, 149, 152, 153, 154, 155] L kd σ σ := zSame.rf
  refine zg_lv (lv2 := [(0, .ref a0), (1, .int p1), (2, .int p2), (3, .int p3), (4, .int p4)]) rfl ?_
  have zm := zM_in hI ha0
  obtain ⟨R, hR⟩ : ∃ R, R = F_X11_winsTurned a0 p1 p2 p3 p4 σ := ⟨_, rfl⟩
  have E := hR
  unfold F_X11_winsTurned at E
  refine zg_aload_n X 0 rfl dX11_winsTurned_0 ?_
  refine zg_cVv (As := []) (st := []) X ha0 rfl (by decide) rfl (t_X11_copies l d L kd κ _ hI a0 ha0    hgN hgL) mk_X11_332 mc_X11_copies mz_X11 mi_X11_copies ml_X11_copies (na := 0) ⟨md_X11.1, md_X11.2, by decide +kernel⟩ rfl ⟨by decide, by decide⟩ (Nat.le_of_ble_eq_true rfl) dX11_winsTurned_1 (fun t1 hq => ?_)
  obtain ⟨hF, ⟨ht1_fact0, gRt1, gBt1⟩, hI, g2⟩ := hq
  replace E := zLet_s hF E
  have hS := hS.tr g2 (by decide) (by decide)
  have Mt1 := zM_same hI ha0 g2 (by decide)
  have gLt1 := gL.same hI ha0 g2 (by decide) hgL
  refine zg_iload_n X 3 rfl dX11_winsTurned_4 ?_
  refine zg_iload_n X 1 rfl dX11_winsTurned_5 ?_
  refine zg_icmp_eq X 25 dX11_winsTurned_6 (by decide) (fun c3 => ?_) (fun c3 => ?_)
  · skip
    replace E := zIf_t c3 E
    refine zg_iconst X 0 dX11_winsTurned_25 (by decide) (fun v4 _ hv4 => ?_)
    replace E := zLet_s (zcst hv4 (by decide)) E
    exact ret _ _ _ _ dX11_winsTurned_26 (zb_bool ⟨by omega, by omega⟩) ⟨E.symm.trans hR, ⟨⟨by omega, by omega⟩, hI, hS⟩⟩
  · skip
    replace E := zIf_f c3 E
    refine zg_iload X 4 rfl dX11_winsTurned_9 ?_
    refine zg_iload_n X 1 rfl dX11_winsTurned_11 ?_
    refine zg_icmp_eq X 25 dX11_winsTurned_12 (by decide) (fun c5 => ?_) (fun c5 => ?_)
    · skip
      replace E := zIf_t c5 E
      refine zg_iconst X 0 dX11_winsTurned_25 (by decide) (fun v6 _ hv6 => ?_)
      replace E := zLet_s (zcst hv6 (by decide)) E
      exact ret _ _ _ _ dX11_winsTurned_26 (zb_bool ⟨by omega, by omega⟩) ⟨E.symm.trans hR, ⟨⟨by omega, by omega⟩, hI, hS⟩⟩
    · skip
      replace E := zIf_f c5 E
      refine zg_aload_n X 0 rfl dX11_winsTurned_15 ?_
      refine zg_iload_n X 3 rfl dX11_winsTurned_16 ?_
      refine zg_iload X 4 rfl dX11_winsTurned_17 ?_
      refine zg_cVi (As := [.int p3, .int p4]) (st := []) X ha0 rfl (by decide) rfl (t_X11_canTurn l d L kd κ _ hI a0 ha0 p3 p4  ) mk_X11_399 mc_X11_canTurn mz_X11 mi_X11_canTurn ml_X11_canTurn (na := 2) ⟨md_X11.1, md_X11.2, by decide +kernel⟩ rfl ⟨by decide, by decide⟩ (Nat.le_of_ble_eq_true rfl) dX11_winsTurned_19 (fun v8 t7 hq => ?_)
      obtain ⟨⟨hF, ⟨ht7_res, ht7_fact0⟩⟩, rfl⟩ := hq
      replace E := zLet_s hF E
      have zcan := ht7_fact0
      refine zg_if_ne X 27 dX11_winsTurned_22 (by decide) (fun c9 => ?_) (fun c9 => ?_)
      · skip
        replace E := zIf_f c9 E
        obtain ⟨zc1, zc2, zc3, zc4, zc5, zc6⟩ := zcan.resolve_right (by omega)
        have zR := gRt1
        have zB := gBt1
        unfold gR at zR
        unfold gB at zB
        rw [Mt1] at zR zB zc3 zc5
        refine zg_aload_n X 0 rfl dX11_winsTurned_27 ?_
        refine fg_X11_110 X hI ha0 dX11_winsTurned_28 (fun v10 ev10 hv10 => ?_)
        replace E := zLet_s (zgr ev10) E
        refine zg_iload_n X 3 rfl dX11_winsTurned_31 ?_
        refine zg_iload X 4 rfl dX11_winsTurned_32 ?_
        refine as_149 X hI hv10 (by omega) (by omega) dX11_winsTurned_34 (fun s11 es11 hI => ?_)
        replace E := zLet_s es11 E
        have g12 := (zSame.rf (o := a0) (Wf := []) (Wa := [149]) (L := L) (kd := kd) (σ := t1)).a ha0 hv10 es11 rfl (by decide)
        have rs11 := zp_st (σ := t1) (σ2 := s11) (i := p3) (x := p4) ev10 es11 (by omega)
        have ws11 := rs11
        have hS := hS.tr g12 (by decide) (by decide)
        have Ms11 := (zM_same hI ha0 g12 (by decide)).trans Mt1
        have gLs11 := gL.same hI ha0 g12 (by decide) gLt1
        have gR_1 : gR a0 s11 := by
          unfold gR
          rw [Ms11]
          exact gRow.turn zm.2 zR zB zc2 zc3 zc4 zc5 zc6 (fun j h0 h1 => ws11 j h0)
        refine zg_aload_n X 0 rfl dX11_winsTurned_35 ?_
        refine zg_cVv (As := []) (st := []) X ha0 rfl (by decide) rfl (t_X11_fillsWays l d L kd κ _ hI a0 ha0    gR_1) mk_X11_326 mc_X11_fillsWays mz_X11 mi_X11_fillsWays ml_X11_fillsWays (na := 0) ⟨md_X11.1, md_X11.2, by decide +kernel⟩ rfl ⟨by decide, by decide⟩ (Nat.le_of_ble_eq_true rfl) dX11_winsTurned_36 (fun t13 hq => ?_)
        obtain ⟨hF, gBt13, hI, g14⟩ := hq
        replace E := zLet_s hF E
        have hS := hS.tr g14 (by decide) (by decide)
        have Mt13 := (zM_same hI ha0 g14 (by decide)).trans Ms11
        have gLt13 := gL.same hI ha0 g14 (by decide) gLs11
        have gRt13 := gR.same hI ha0 g14 (by decide) gR_1
        refine zg_aload_n X 0 rfl dX11_winsTurned_39 ?_
        refine zg_iconst X 0 dX11_winsTurned_40 (by decide) (fun v15 _ hv15 => ?_)
        replace E := zLet_s (zcst hv15 (by decide)) E
        refine zg_cVv (As := [.int v15]) (st := []) X ha0 rfl (by decide) rfl (t_X11_fillsFlows l d L kd κ _ hI a0 ha0 v15   gRt13 gLt13) mk_X11_329 mc_X11_fillsFlows mz_X11 mi_X11_fillsFlows ml_X11_fillsFlows (na := 1) ⟨md_X11.1, md_X11.2, by decide +kernel⟩ rfl ⟨by decide, by decide⟩ (Nat.le_of_ble_eq_true rfl) dX11_winsTurned_41 (fun t16 hq => ?_)
        obtain ⟨hF, hI, g17⟩ := hq
        replace E := zLet_s hF E
        have hS := hS.tr g17 (by decide) (by decide)
        have Mt16 := (zM_same hI ha0 g17 (by decide)).trans Mt13
        have gLt16 := gL.same hI ha0 g17 (by decide) gLt13
        have gRt16 := gR.same hI ha0 g17 (by decide) gRt13
        have gBt16 := gB.same hI ha0 g17 (by decide) gBt13
        refine zg_aload_n X 0 rfl dX11_winsTurned_44 ?_
        refine zg_iload_n X 2 rfl dX11_winsTurned_45 ?_
        refine zg_cVi (As := [.int p2]) (st := []) X ha0 rfl (by decide) rfl (t_X11_winnerBy l d L kd κ _ hI a0 ha0 p2  (by omega) gLt16) mk_X11_374 mc_X11_winnerBy mz_X11 mi_X11_winnerBy ml_X11_winnerBy (na := 1) ⟨md_X11.1, md_X11.2, by decide +kernel⟩ rfl ⟨by decide, by decide⟩ (Nat.le_of_ble_eq_true rfl) dX11_winsTurned_46 (fun v19 t18 hq => ?_)
        obtain ⟨hF, ⟨ht18_res, ht18_fact0, ht18_fact1⟩, hI, g20⟩ := hq
        replace E := zLet2_s hF E
        have hS := hS.tr g20 (by decide) (by decide)
        have Mt18 := (zM_same hI ha0 g20 (by decide)).trans Mt16
        have gRt18 := gR.same hI ha0 g20 (by decide) gRt16
        have gBt18 := gB.same hI ha0 g20 (by decide) gBt16
        refine zg_iload_n X 1 rfl dX11_winsTurned_49 ?_
        refine zg_icmp_ne X 57 dX11_winsTurned_50 (by decide) (fun c21 => ?_) (fun c21 => ?_)
        · skip
          replace E := zIf_f c21 E
          refine zg_iconst X 0 dX11_winsTurned_57 (by decide) (fun v22 _ hv22 => ?_)
          replace E := zLet_s (zcst hv22 (by decide)) E
          exact ret _ _ _ _ dX11_winsTurned_58 (zb_bool ⟨by omega, by omega⟩) ⟨E.symm.trans hR, ⟨⟨by omega, by omega⟩, hI, hS⟩⟩
        · skip
          replace E := zIf_t c21 E
          refine zg_iconst X 1 dX11_winsTurned_53 (by decide) (fun v23 _ hv23 => ?_)
          replace E := zLet_s (zcst hv23 (by decide)) E
          refine zg_goto X 58 dX11_winsTurned_54 (by decide) ?_
          exact ret _ _ _ _ dX11_winsTurned_58 (zb_bool ⟨by omega, by omega⟩) ⟨E.symm.trans hR, ⟨⟨by omega, by omega⟩, hI, hS⟩⟩
      · skip
        replace E := zIf_t c9 E
        refine zg_iconst X 0 dX11_winsTurned_25 (by decide) (fun v24 _ hv24 => ?_)
        replace E := zLet_s (zcst hv24 (by decide)) E
        exact ret _ _ _ _ dX11_winsTurned_26 (zb_bool ⟨by omega, by omega⟩) ⟨E.symm.trans hR, ⟨⟨by omega, by omega⟩, hI, hS⟩⟩
set_option maxHeartbeats 4000000 in
set_option maxRecDepth 100000 in
theorem t_X11_turnFor (l : Launch) (d : zD2) (L : List Nat) (kd : Nat → Nat) (κ : Int) (σ : zS) (hI : zJ κ L kd σ) (a0 : Nat) (ha0 : zT L kd a0 11) (p1 : Int32) (p2 : Int32) (hgN : gN a0 σ) (hgH : gH a0 σ) (hgE : gE a0 σ) (hgL : gL a0 σ) : zMi l yX11_turnFor (Cond.code yX11_turnFor cX11_turnFor 5 (some .int) :: zWL) 6 [.ref a0, .int p1, .int p2] d L kd σ (fun v σ2 => (v, σ2) = F_X11_turnFor a0 p1 p2 σ ∧ (((gN a0 σ2) ∧ (gH a0 σ2) ∧ (gE a0 σ2) ∧ (gL a0 σ2)) ∧ zJ κ L kd σ2 ∧ zSame a0 [47, 50, 51] [145, 146, 149, 152, 153, 154, 155] L kd σ σ2)) := by
  refine zMi.of (own := RX11) (by decide +kernel) rfl rfl (Nat.le_of_ble_eq_true rfl) ?_
  intro p e s m args below meth c A Q X ret
  have hS : zSame a0 [47, 50, 51] [145, 146, 149, 152, 153, 154, 155] L kd σ σ := zSame.rf
  refine zg_lv (lv2 := [(0, .ref a0), (1, .int p1), (2, .int p2)]) rfl ?_
  have zm := zM_in hI ha0
  obtain ⟨R, hR⟩ : ∃ R, R = F_X11_turnFor a0 p1 p2 σ := ⟨_, rfl⟩
  have E := hR
  unfold F_X11_turnFor at E
  refine zg_aload_n X 0 rfl dX11_turnFor_0 ?_
  refine zg_iload_n X 1 rfl dX11_turnFor_1 ?_
  refine zg_iload_n X 2 rfl dX11_turnFor_2 ?_
  refine zg_cVi (As := [.int p1, .int p2]) (st := []) X ha0 rfl (by decide) rfl (t_X11_isClaim l d L kd κ _ hI a0 ha0 p1 p2   hgN hgL) mk_X11_389 mc_X11_isClaim mz_X11 mi_X11_isClaim ml_X11_isClaim (na := 2) ⟨md_X11.1, md_X11.2, by decide +kernel⟩ rfl ⟨by decide, by decide⟩ (Nat.le_of_ble_eq_true rfl) dX11_turnFor_3 (fun v2 t1 hq => ?_)
  obtain ⟨hF, ⟨ht1_res, ht1_fact0, ht1_fact1, gRt1, gBt1⟩, hI, g3⟩ := hq
  replace E := zLet2_s hF E
  have hS := hS.tr g3 (by decide) (by decide)
  have gNt1 := gN.same hI ha0 g3 (by decide) hgN
  have gHt1 := gH.same hI ha0 g3 (by decide) hgH
  have gEt1 := gE.same hI ha0 g3 (by decide) hgE
  have gLt1 := gL.same hI ha0 g3 (by decide) hgL
  refine zg_if_ne X 11 dX11_turnFor_6 (by decide) (fun c4 => ?_) (fun c4 => ?_)
  · skip
    replace E := zIf_f c4 E
    refine zg_iconst X 1 dX11_turnFor_11 (by decide) (fun v5 _ hv5 => ?_)
    replace E := zLet_s (zcst hv5 (by decide)) E
    refine zg_istore_n X [(3, .int v5), (0, .ref a0), (1, .int p1), (2, .int p2)] dX11_turnFor_12 (by decide) rfl ?_
    have Lp7 : ∀ (nLp7 : Nat) (τ7 : zS) (x6 : Int32), zJ κ L kd τ7 → zSame a0 [47, 50, 51] [145, 146, 149, 152, 153, 154, 155] L kd σ τ7 → gE a0 τ7 → gH a0 τ7 → gL a0 τ7 → gN a0 τ7 → R = F_X11_turnFor_13 a0 p1 p2  nLp7 x6 τ7 → 1 ≤ x6.toInt ∧ x6.toInt ≤ 12 → (12) - x6.toInt + 1 < (nLp7 : Int) → zG d L kd A 5 p l e (k2_rm 6 (100 * 6)) s m args below meth c Q τ7 13 [(3, .int x6), (0, .ref a0), (1, .int p1), (2, .int p2)] [] := by
      intro nLp7
      induction nLp7 with
      | zero => intro τ7 x6 hI hS gE_Lp7 gH_Lp7 gL_Lp7 gN_Lp7 E  hxLp7 hm ; exact absurd hm (by omega)
      | succ nLp7 ihLp7 =>
        intro τ7 x6 hI hS gE_Lp7 gH_Lp7 gL_Lp7 gN_Lp7 E  hxLp7 hmLp7 
        rw [F_X11_turnFor_13] at E
        refine zg_iload_n X 0 rfl dX11_turnFor_13 ?_
        refine zg_aload_n X 1 rfl dX11_turnFor_14 ?_
        refine zg_cVi (As := []) (st := [.int x6]) X ha0 rfl (by decide) rfl (t_X11_many l d L kd κ _ hI a0 ha0   ) mk_X11_313 mc_X11_many mz_X11 mi_X11_many ml_X11_many (na := 0) ⟨md_X11.1, md_X11.2, by decide +kernel⟩ rfl ⟨by decide, by decide⟩ (Nat.le_of_ble_eq_true rfl) dX11_turnFor_15 (fun v9 t8 hq => ?_)
        obtain ⟨⟨hF, ⟨ht8_res, ht8_fact0⟩⟩, rfl⟩ := hq
        replace E := zLet_s hF E
        refine zg_icmp_ge X 65 dX11_turnFor_18 (by decide) (fun c10 => ?_) (fun c10 => ?_)
        · skip
          replace E := zIf_f (Int.not_lt.mpr c10) E
          refine zg_bipush X (-2) dX11_turnFor_65 (by decide) (fun v11 _ hv11 => ?_)
          replace E := zLet_s (zcst hv11 (by decide)) E
          exact ret _ _ _ _ dX11_turnFor_67 rfl ⟨E.symm.trans hR, ⟨⟨gN_Lp7, gH_Lp7, gE_Lp7, gL_Lp7⟩, hI, hS⟩⟩
        · skip
          replace E := zIf_t c10 E
          refine zg_iconst X 0 dX11_turnFor_21 (by decide) (fun v12 _ hv12 => ?_)
          replace E := zLet_s (zcst hv12 (by decide)) E
          refine zg_istore X [(4, .int v12), (3, .int x6), (0, .ref a0), (1, .int p1), (2, .int p2)] dX11_turnFor_22 (by decide) rfl ?_
          have Lp14 : ∀ (nLp14 : Nat) (τ14 : zS) (x13 : Int32), zJ κ L kd τ14 → zSame a0 [47, 50, 51] [145, 146, 149, 152, 153, 154, 155] L kd σ τ14 → gE a0 τ14 → gH a0 τ14 → gL a0 τ14 → gN a0 τ14 → R = F_X11_turnFor_24 x6 a0 p1 p2 (F_X11_turnFor_13 a0 p1 p2  nLp7) nLp14 x13 τ14 → 0 ≤ x13.toInt ∧ x13.toInt ≤ 12 → (12) - x13.toInt + 1 < (nLp14 : Int) → zG d L kd A 5 p l e (k2_rm 6 (100 * 6)) s m args below meth c Q τ14 24 [(4, .int x13), (3, .int x6), (0, .ref a0), (1, .int p1), (2, .int p2)] [] := by
            intro nLp14
            induction nLp14 with
            | zero => intro τ14 x13 hI hS gE_Lp14 gH_Lp14 gL_Lp14 gN_Lp14 E  hxLp14 hm ; exact absurd hm (by omega)
            | succ nLp14 ihLp14 =>
              intro τ14 x13 hI hS gE_Lp14 gH_Lp14 gL_Lp14 gN_Lp14 E  hxLp14 hmLp14 
              rw [F_X11_turnFor_24] at E
              refine zg_iload X 0 rfl dX11_turnFor_24 ?_
              refine zg_aload_n X 2 rfl dX11_turnFor_26 ?_
              refine zg_cVi (As := []) (st := [.int x13]) X ha0 rfl (by decide) rfl (t_X11_many l d L kd κ _ hI a0 ha0   ) mk_X11_313 mc_X11_many mz_X11 mi_X11_many ml_X11_many (na := 0) ⟨md_X11.1, md_X11.2, by decide +kernel⟩ rfl ⟨by decide, by decide⟩ (Nat.le_of_ble_eq_true rfl) dX11_turnFor_27 (fun v16 t15 hq => ?_)
              obtain ⟨⟨hF, ⟨ht15_res, ht15_fact0⟩⟩, rfl⟩ := hq
              replace E := zLet_s hF E
              refine zg_icmp_ge X 59 dX11_turnFor_30 (by decide) (fun c17 => ?_) (fun c17 => ?_)
              · skip
                replace E := zIf_f (Int.not_lt.mpr c17) E
                refine zg_iinc X 1 (fun v18 => [(3, .int v18), (4, .int x13), (0, .ref a0), (1, .int p1), (2, .int p2)]) 1 dX11_turnFor_59 rfl (by decide) (by decide) (by omega) (by omega) (fun _ => rfl) (fun v18 ev18 hv18 => ?_)
                replace E := zLet_s (zinc ev18 (by decide)) E
                refine zg_goto X 13 dX11_turnFor_62 (by decide) ?_
                refine zg_sub [0, 2, 3, 4] rfl ?_
                exact ihLp7 _ v18 hI hS gE_Lp14 gH_Lp14 gL_Lp14 gN_Lp14 E  (by omega) (by omega) 
              · skip
                replace E := zIf_t c17 E
                refine zg_aload_n X 2 rfl dX11_turnFor_33 ?_
                refine zg_iload_n X 3 rfl dX11_turnFor_34 ?_
                refine zg_iload_n X 4 rfl dX11_turnFor_35 ?_
                refine zg_iload_n X 1 rfl dX11_turnFor_36 ?_
                refine zg_iload X 0 rfl dX11_turnFor_37 ?_
                refine zg_cVi (As := [.int p1, .int p2, .int x6, .int x13]) (st := []) X ha0 rfl (by decide) rfl (t_X11_winsTurned l d L kd κ _ hI a0 ha0 p1 p2 x6 x13  (by omega) gN_Lp14 gL_Lp14) mk_X11_435 mc_X11_winsTurned mz_X11 mi_X11_winsTurned ml_X11_winsTurned (na := 4) ⟨md_X11.1, md_X11.2, by decide +kernel⟩ rfl ⟨by decide, by decide⟩ (Nat.le_of_ble_eq_true rfl) dX11_turnFor_39 (fun v20 t19 hq => ?_)
                obtain ⟨hF, ht19_res, hI, g21⟩ := hq
                replace E := zLet2_s hF E
                have hS := hS.tr g21 (by decide) (by decide)
                have gEt19 := gE.same hI ha0 g21 (by decide) gE_Lp14
                have gHt19 := gH.same hI ha0 g21 (by decide) gH_Lp14
                have gLt19 := gL.same hI ha0 g21 (by decide) gL_Lp14
                have gNt19 := gN.same hI ha0 g21 (by decide) gN_Lp14
                refine zg_if_eq X 53 dX11_turnFor_42 (by decide) (fun c22 => ?_) (fun c22 => ?_)
                · skip
                  replace E := zIf_t c22 E
                  refine zg_iinc X 1 (fun v23 => [(4, .int v23), (3, .int x6), (0, .ref a0), (1, .int p1), (2, .int p2)]) 0 dX11_turnFor_53 rfl (by decide) (by decide) (by omega) (by omega) (fun _ => rfl) (fun v23 ev23 hv23 => ?_)
                  replace E := zLet_s (zinc ev23 (by decide)) E
                  refine zg_goto X 24 dX11_turnFor_56 (by decide) ?_
                  refine zg_sub [0, 1, 2, 3, 4] rfl ?_
                  exact ihLp14 _ v23 hI hS gEt19 gHt19 gLt19 gNt19 E  (by omega) (by omega) 
                · skip
                  replace E := zIf_f c22 E
                  refine zg_bipush X 100 dX11_turnFor_45 (by decide) (fun v24 _ hv24 => ?_)
                  replace E := zLet_s (zcst hv24 (by decide)) E
                  refine zg_iload_n X 1 rfl dX11_turnFor_47 ?_
                  refine zg_imulc X 100 dX11_turnFor_48 (by omega) (by omega) (by omega) (fun v25 ev25 hv25 => ?_)
                  replace E := zLet_s ev25 E
                  refine zg_iload X 0 rfl dX11_turnFor_49 ?_
                  refine zg_iadd X dX11_turnFor_51 (by omega) (by omega) (fun v26 ev26 hv26 => ?_)
                  replace E := zLet_s ev26 E
                  exact ret _ _ _ _ dX11_turnFor_52 rfl ⟨E.symm.trans hR, ⟨⟨gNt19, gHt19, gEt19, gLt19⟩, hI, hS⟩⟩
          refine zg_sub [0, 1, 2, 3, 4] rfl ?_
          exact Lp14 10000 _ v12 hI hS gE_Lp7 gH_Lp7 gL_Lp7 gN_Lp7 E  (by omega) (by omega) 
    refine zg_sub [0, 1, 2, 3] rfl ?_
    exact Lp7 10000 _ v5 hI hS gEt1 gHt1 gLt1 gNt1 E  (by omega) (by omega) 
  · skip
    replace E := zIf_t c4 E
    refine zg_iconst X (-1) dX11_turnFor_9 (by decide) (fun v27 _ hv27 => ?_)
    replace E := zLet_s (zcst hv27 (by decide)) E
    exact ret _ _ _ _ dX11_turnFor_10 rfl ⟨E.symm.trans hR, ⟨⟨gNt1, gHt1, gEt1, gLt1⟩, hI, hS⟩⟩
set_option maxHeartbeats 4000000 in
set_option maxRecDepth 100000 in
theorem t_X11_damFor (l : Launch) (d : zD2) (L : List Nat) (kd : Nat → Nat) (κ : Int) (σ : zS) (hI : zJ κ L kd σ) (a0 : Nat) (ha0 : zT L kd a0 11) (p1 : Int32) (p2 : Int32) (hgN : gN a0 σ) (hgH : gH a0 σ) (hgE : gE a0 σ) (hgL : gL a0 σ) : zMi l yX11_damFor (Cond.code yX11_damFor cX11_damFor 4 (some .int) :: zWL) 6 [.ref a0, .int p1, .int p2] d L kd σ (fun v σ2 => (v, σ2) = F_X11_damFor a0 p1 p2 σ ∧ (((gN a0 σ2) ∧ (gH a0 σ2) ∧ (gE a0 σ2) ∧ (gL a0 σ2)) ∧ zJ κ L kd σ2 ∧ zSame a0 [47, 50, 51] [145, 146, 149, 152, 153, 154, 155] L kd σ σ2)) := by
  refine zMi.of (own := RX11) (by decide +kernel) rfl rfl (Nat.le_of_ble_eq_true rfl) ?_
  intro p e s m args below meth c A Q X ret
  have hS : zSame a0 [47, 50, 51] [145, 146, 149, 152, 153, 154, 155] L kd σ σ := zSame.rf
  refine zg_lv (lv2 := [(0, .ref a0), (1, .int p1), (2, .int p2)]) rfl ?_
  have zm := zM_in hI ha0
  obtain ⟨R, hR⟩ : ∃ R, R = F_X11_damFor a0 p1 p2 σ := ⟨_, rfl⟩
  have E := hR
  unfold F_X11_damFor at E
  refine zg_aload_n X 0 rfl dX11_damFor_0 ?_
  refine zg_iload_n X 1 rfl dX11_damFor_1 ?_
  refine zg_iload_n X 2 rfl dX11_damFor_2 ?_
  refine zg_cVi (As := [.int p1, .int p2]) (st := []) X ha0 rfl (by decide) rfl (t_X11_isClaim l d L kd κ _ hI a0 ha0 p1 p2   hgN hgL) mk_X11_389 mc_X11_isClaim mz_X11 mi_X11_isClaim ml_X11_isClaim (na := 2) ⟨md_X11.1, md_X11.2, by decide +kernel⟩ rfl ⟨by decide, by decide⟩ (Nat.le_of_ble_eq_true rfl) dX11_damFor_3 (fun v2 t1 hq => ?_)
  obtain ⟨hF, ⟨ht1_res, ht1_fact0, ht1_fact1, gRt1, gBt1⟩, hI, g3⟩ := hq
  replace E := zLet2_s hF E
  have hS := hS.tr g3 (by decide) (by decide)
  have gNt1 := gN.same hI ha0 g3 (by decide) hgN
  have gHt1 := gH.same hI ha0 g3 (by decide) hgH
  have gEt1 := gE.same hI ha0 g3 (by decide) hgE
  have gLt1 := gL.same hI ha0 g3 (by decide) hgL
  refine zg_if_ne X 11 dX11_damFor_6 (by decide) (fun c4 => ?_) (fun c4 => ?_)
  · skip
    replace E := zIf_f c4 E
    refine zg_iconst X 1 dX11_damFor_11 (by decide) (fun v5 _ hv5 => ?_)
    replace E := zLet_s (zcst hv5 (by decide)) E
    refine zg_istore_n X [(3, .int v5), (0, .ref a0), (1, .int p1), (2, .int p2)] dX11_damFor_12 (by decide) rfl ?_
    have Lp7 : ∀ (nLp7 : Nat) (τ7 : zS) (x6 : Int32), zJ κ L kd τ7 → zSame a0 [47, 50, 51] [145, 146, 149, 152, 153, 154, 155] L kd σ τ7 → gE a0 τ7 → gH a0 τ7 → gL a0 τ7 → gN a0 τ7 → R = F_X11_damFor_13 a0 p1 p2  nLp7 x6 τ7 → 1 ≤ x6.toInt ∧ x6.toInt ≤ 12 → (12) - x6.toInt + 1 < (nLp7 : Int) → zG d L kd A 4 p l e (k2_rm 6 (100 * 6)) s m args below meth c Q τ7 13 [(3, .int x6), (0, .ref a0), (1, .int p1), (2, .int p2)] [] := by
      intro nLp7
      induction nLp7 with
      | zero => intro τ7 x6 hI hS gE_Lp7 gH_Lp7 gL_Lp7 gN_Lp7 E  hxLp7 hm ; exact absurd hm (by omega)
      | succ nLp7 ihLp7 =>
        intro τ7 x6 hI hS gE_Lp7 gH_Lp7 gL_Lp7 gN_Lp7 E  hxLp7 hmLp7 
        rw [F_X11_damFor_13] at E
        refine zg_iload_n X 0 rfl dX11_damFor_13 ?_
        refine zg_aload_n X 1 rfl dX11_damFor_14 ?_
        refine zg_cVi (As := []) (st := [.int x6]) X ha0 rfl (by decide) rfl (t_X11_many l d L kd κ _ hI a0 ha0   ) mk_X11_313 mc_X11_many mz_X11 mi_X11_many ml_X11_many (na := 0) ⟨md_X11.1, md_X11.2, by decide +kernel⟩ rfl ⟨by decide, by decide⟩ (Nat.le_of_ble_eq_true rfl) dX11_damFor_15 (fun v9 t8 hq => ?_)
        obtain ⟨⟨hF, ⟨ht8_res, ht8_fact0⟩⟩, rfl⟩ := hq
        replace E := zLet_s hF E
        refine zg_icmp_ge X 61 dX11_damFor_18 (by decide) (fun c10 => ?_) (fun c10 => ?_)
        · skip
          replace E := zIf_f (Int.not_lt.mpr c10) E
          refine zg_bipush X (-2) dX11_damFor_61 (by decide) (fun v11 _ hv11 => ?_)
          replace E := zLet_s (zcst hv11 (by decide)) E
          exact ret _ _ _ _ dX11_damFor_63 rfl ⟨E.symm.trans hR, ⟨⟨gN_Lp7, gH_Lp7, gE_Lp7, gL_Lp7⟩, hI, hS⟩⟩
        · skip
          replace E := zIf_t c10 E
          refine zg_aload_n X 1 rfl dX11_damFor_21 ?_
          refine fg_X11_107 X hI ha0 dX11_damFor_22 (fun v12 ev12 hv12 => ?_)
          replace E := zLet_s (zgr ev12) E
          refine zg_bipush X 12 dX11_damFor_25 (by decide) (fun v13 _ hv13 => ?_)
          replace E := zLet_s (zcst hv13 (by decide)) E
          refine zg_iload_n X 0 rfl dX11_damFor_27 ?_
          refine zg_iadd X dX11_damFor_28 (by omega) (by omega) (fun v14 ev14 hv14 => ?_)
          replace E := zLet_s ev14 E
          refine ag_148 X hI hv12 (by omega) (by omega) dX11_damFor_29 (fun v15 ev15 _ => ?_)
          replace E := zLet_s ev15 E
          refine zg_iconst X 1 dX11_damFor_30 (by decide) (fun v16 _ hv16 => ?_)
          replace E := zLet_s (zcst hv16 (by decide)) E
          refine zg_icmp_ne X 37 dX11_damFor_31 (by decide) (fun c17 => ?_) (fun c17 => ?_)
          · skip
            replace E := zIf_f c17 E
            refine zg_aload_n X 1 rfl dX11_damFor_37 ?_
            refine zg_iconst X 1 dX11_damFor_38 (by decide) (fun v18 _ hv18 => ?_)
            replace E := zLet_s (zcst hv18 (by decide)) E
            refine zg_iload_n X 0 rfl dX11_damFor_39 ?_
            refine zg_ishlW X dX11_damFor_40 (fun v19 ev19 => ?_)
            replace E := zLet_s ev19 E
            refine zg_cVv (As := [.int v19]) (st := []) X ha0 rfl (by decide) rfl (t_X11_damsAll l d L kd κ _ hI a0 ha0 v19   gN_Lp7 gL_Lp7) mk_X11_429 mc_X11_damsAll mz_X11 mi_X11_damsAll ml_X11_damsAll (na := 1) ⟨md_X11.1, md_X11.2, by decide +kernel⟩ rfl ⟨by decide, by decide⟩ (Nat.le_of_ble_eq_true rfl) dX11_damFor_41 (fun t20 hq => ?_)
            obtain ⟨hF, gRt20, hI, g21⟩ := hq
            replace E := zLet_s hF E
            have hS := hS.tr g21 (by decide) (by decide)
            have gEt20 := gE.same hI ha0 g21 (by decide) gE_Lp7
            have gHt20 := gH.same hI ha0 g21 (by decide) gH_Lp7
            have gLt20 := gL.same hI ha0 g21 (by decide) gL_Lp7
            have gNt20 := gN.same hI ha0 g21 (by decide) gN_Lp7
            refine zg_aload_n X 1 rfl dX11_damFor_44 ?_
            refine zg_iload_n X 3 rfl dX11_damFor_45 ?_
            refine zg_cVi (As := [.int p2]) (st := []) X ha0 rfl (by decide) rfl (t_X11_winnerBy l d L kd κ _ hI a0 ha0 p2  (by omega) gLt20) mk_X11_374 mc_X11_winnerBy mz_X11 mi_X11_winnerBy ml_X11_winnerBy (na := 1) ⟨md_X11.1, md_X11.2, by decide +kernel⟩ rfl ⟨by decide, by decide⟩ (Nat.le_of_ble_eq_true rfl) dX11_damFor_46 (fun v23 t22 hq => ?_)
            obtain ⟨hF, ⟨ht22_res, ht22_fact0, ht22_fact1⟩, hI, g24⟩ := hq
            replace E := zLet2_s hF E
            have hS := hS.tr g24 (by decide) (by decide)
            have gEt22 := gE.same hI ha0 g24 (by decide) gEt20
            have gHt22 := gH.same hI ha0 g24 (by decide) gHt20
            have gLt22 := gL.same hI ha0 g24 (by decide) gLt20
            have gNt22 := gN.same hI ha0 g24 (by decide) gNt20
            have gRt22 := gR.same hI ha0 g24 (by decide) gRt20
            refine zg_iload_n X 2 rfl dX11_damFor_49 ?_
            refine zg_icmp_ne X 55 dX11_damFor_50 (by decide) (fun c25 => ?_) (fun c25 => ?_)
            · skip
              replace E := zIf_f c25 E
              refine zg_iinc X 1 (fun v26 => [(3, .int v26), (0, .ref a0), (1, .int p1), (2, .int p2)]) 0 dX11_damFor_55 rfl (by decide) (by decide) (by omega) (by omega) (fun _ => rfl) (fun v26 ev26 hv26 => ?_)
              replace E := zLet_s (zinc ev26 (by decide)) E
              refine zg_goto X 13 dX11_damFor_58 (by decide) ?_
              refine zg_sub [0, 1, 2, 3] rfl ?_
              exact ihLp7 _ v26 hI hS gEt22 gHt22 gLt22 gNt22 E  (by omega) (by omega) 
            · skip
              replace E := zIf_t c25 E
              refine zg_iload_n X 0 rfl dX11_damFor_53 ?_
              exact ret _ _ _ _ dX11_damFor_54 rfl ⟨E.symm.trans hR, ⟨⟨gNt22, gHt22, gEt22, gLt22⟩, hI, hS⟩⟩
          · skip
            replace E := zIf_t c17 E
            refine zg_goto X 55 dX11_damFor_34 (by decide) ?_
            refine zg_iinc X 1 (fun v27 => [(3, .int v27), (0, .ref a0), (1, .int p1), (2, .int p2)]) 0 dX11_damFor_55 rfl (by decide) (by decide) (by omega) (by omega) (fun _ => rfl) (fun v27 ev27 hv27 => ?_)
            replace E := zLet_s (zinc ev27 (by decide)) E
            refine zg_goto X 13 dX11_damFor_58 (by decide) ?_
            refine zg_sub [0, 1, 2, 3] rfl ?_
            exact ihLp7 _ v27 hI hS gE_Lp7 gH_Lp7 gL_Lp7 gN_Lp7 E  (by omega) (by omega) 
    refine zg_sub [0, 1, 2, 3] rfl ?_
    exact Lp7 10000 _ v5 hI hS gEt1 gHt1 gLt1 gNt1 E  (by omega) (by omega) 
  · skip
    replace E := zIf_t c4 E
    refine zg_iconst X (-1) dX11_damFor_9 (by decide) (fun v28 _ hv28 => ?_)
    replace E := zLet_s (zcst hv28 (by decide)) E
    exact ret _ _ _ _ dX11_damFor_10 rfl ⟨E.symm.trans hR, ⟨⟨gNt1, gHt1, gEt1, gLt1⟩, hI, hS⟩⟩
set_option maxHeartbeats 4000000 in
set_option maxRecDepth 100000 in
theorem t_X11_depth (l : Launch) (d : zD2) (L : List Nat) (kd : Nat → Nat) (κ : Int) (σ : zS) (hI : zJ κ L kd σ) (a0 : Nat) (ha0 : zT L kd a0 11) (hgN : gN a0 σ) (hgH : gH a0 σ) (hgE : gE a0 σ) (hgL : gL a0 σ) : zMi l yX11_depth (Cond.code yX11_depth cX11_depth 3 (some .int) :: zWL) 5 [.ref a0] d L kd σ (fun v σ2 => (v, σ2) = F_X11_depth a0 σ ∧ (((gN a0 σ2) ∧ (gH a0 σ2) ∧ (gE a0 σ2) ∧ (gL a0 σ2)) ∧ zJ κ L kd σ2 ∧ zSame a0 [47, 50, 51] [145, 146, 149, 152, 153, 154, 155] L kd σ σ2)) := by
  refine zMi.of (own := RX11) (by decide +kernel) rfl rfl (Nat.le_of_ble_eq_true rfl) ?_
  intro p e s m args below meth c A Q X ret
  have hS : zSame a0 [47, 50, 51] [145, 146, 149, 152, 153, 154, 155] L kd σ σ := zSame.rf
  refine zg_lv (lv2 := [(0, .ref a0)]) rfl ?_
  have zm := zM_in hI ha0
  obtain ⟨R, hR⟩ : ∃ R, R = F_X11_depth a0 σ := ⟨_, rfl⟩
  have E := hR
  unfold F_X11_depth at E
  refine zg_aload_n X 0 rfl dX11_depth_0 ?_
  refine zg_cVv (As := []) (st := []) X ha0 rfl (by decide) rfl (t_X11_copies l d L kd κ _ hI a0 ha0    hgN hgL) mk_X11_332 mc_X11_copies mz_X11 mi_X11_copies ml_X11_copies (na := 0) ⟨md_X11.1, md_X11.2, by decide +kernel⟩ rfl ⟨by decide, by decide⟩ (Nat.le_of_ble_eq_true rfl) dX11_depth_1 (fun t1 hq => ?_)
  obtain ⟨hF, ⟨ht1_fact0, gRt1, gBt1⟩, hI, g2⟩ := hq
  replace E := zLet_s hF E
  have hS := hS.tr g2 (by decide) (by decide)
  have gNt1 := gN.same hI ha0 g2 (by decide) hgN
  have gHt1 := gH.same hI ha0 g2 (by decide) hgH
  have gEt1 := gE.same hI ha0 g2 (by decide) hgE
  have gLt1 := gL.same hI ha0 g2 (by decide) hgL
  refine zg_iconst X 0 dX11_depth_4 (by decide) (fun v3 _ hv3 => ?_)
  replace E := zLet_s (zcst hv3 (by decide)) E
  refine zg_istore_n X [(1, .int v3), (0, .ref a0)] dX11_depth_5 (by decide) rfl ?_
  refine zg_iconst X 1 dX11_depth_6 (by decide) (fun v4 _ hv4 => ?_)
  replace E := zLet_s (zcst hv4 (by decide)) E
  refine zg_istore_n X [(2, .int v4), (1, .int v3), (0, .ref a0)] dX11_depth_7 (by decide) rfl ?_
  have Lp7 : ∀ (nLp7 : Nat) (τ7 : zS) (x5 : Int32) (x6 : Int32), zJ κ L kd τ7 → zSame a0 [47, 50, 51] [145, 146, 149, 152, 153, 154, 155] L kd σ τ7 → gE a0 τ7 → gH a0 τ7 → gL a0 τ7 → gN a0 τ7 → R = F_X11_depth_8 a0  nLp7 x5 x6 τ7 → 1 ≤ x5.toInt ∧ x5.toInt ≤ 12 → (12) - x5.toInt + 1 < (nLp7 : Int) → zG d L kd A 3 p l e (k2_rm 5 (100 * 5)) s m args below meth c Q τ7 8 [(2, .int x5), (1, .int x6), (0, .ref a0)] [] := by
    intro nLp7
    induction nLp7 with
    | zero => intro τ7 x5 x6 hI hS gE_Lp7 gH_Lp7 gL_Lp7 gN_Lp7 E  hxLp7 hm ; exact absurd hm (by omega)
    | succ nLp7 ihLp7 =>
      intro τ7 x5 x6 hI hS gE_Lp7 gH_Lp7 gL_Lp7 gN_Lp7 E  hxLp7 hmLp7 
      rw [F_X11_depth_8] at E
      refine zg_iload_n X 0 rfl dX11_depth_8 ?_
      refine zg_aload_n X 2 rfl dX11_depth_9 ?_
      refine zg_cVi (As := []) (st := [.int x5]) X ha0 rfl (by decide) rfl (t_X11_many l d L kd κ _ hI a0 ha0   ) mk_X11_313 mc_X11_many mz_X11 mi_X11_many ml_X11_many (na := 0) ⟨md_X11.1, md_X11.2, by decide +kernel⟩ rfl ⟨by decide, by decide⟩ (Nat.le_of_ble_eq_true rfl) dX11_depth_10 (fun v9 t8 hq => ?_)
      obtain ⟨⟨hF, ⟨ht8_res, ht8_fact0⟩⟩, rfl⟩ := hq
      replace E := zLet_s hF E
      refine zg_icmp_ge X 51 dX11_depth_13 (by decide) (fun c10 => ?_) (fun c10 => ?_)
      · skip
        replace E := zIf_f (Int.not_lt.mpr c10) E
        refine zg_iload_n X 1 rfl dX11_depth_51 ?_
        exact ret _ _ _ _ dX11_depth_52 rfl ⟨E.symm.trans hR, ⟨⟨gN_Lp7, gH_Lp7, gE_Lp7, gL_Lp7⟩, hI, hS⟩⟩
      · skip
        replace E := zIf_t c10 E
        refine zg_aload_n X 2 rfl dX11_depth_16 ?_
        refine zg_iload_n X 0 rfl dX11_depth_17 ?_
        refine zg_cVi (As := [.int x5]) (st := []) X ha0 rfl (by decide) rfl (t_X11_isSource l d L kd κ _ hI a0 ha0 x5  ) mk_X11_342 mc_X11_isSource mz_X11 mi_X11_isSource ml_X11_isSource (na := 1) ⟨md_X11.1, md_X11.2, by decide +kernel⟩ rfl ⟨by decide, by decide⟩ (Nat.le_of_ble_eq_true rfl) dX11_depth_18 (fun v12 t11 hq => ?_)
        obtain ⟨⟨hF, ⟨ht11_res, ht11_fact0, ht11_fact1, ht11_fact2⟩⟩, rfl⟩ := hq
        replace E := zLet_s hF E
        refine zg_if_eq X 45 dX11_depth_21 (by decide) (fun c13 => ?_) (fun c13 => ?_)
        · skip
          replace E := zIf_t c13 E
          refine zg_iinc X 1 (fun v14 => [(2, .int v14), (1, .int x6), (0, .ref a0)]) 0 dX11_depth_45 rfl (by decide) (by decide) (by omega) (by omega) (fun _ => rfl) (fun v14 ev14 hv14 => ?_)
          replace E := zLet_s (zinc ev14 (by decide)) E
          refine zg_goto X 8 dX11_depth_48 (by decide) ?_
          refine zg_sub [0, 1, 2] rfl ?_
          exact ihLp7 _ v14 x6 hI hS gE_Lp7 gH_Lp7 gL_Lp7 gN_Lp7 E  (by omega) (by omega) 
        · skip
          replace E := zIf_f c13 E
          refine zg_aload_n X 2 rfl dX11_depth_24 ?_
          refine fg_X11_116 X hI ha0 dX11_depth_25 (fun v15 ev15 hv15 => ?_)
          replace E := zLet_s (zgr ev15) E
          refine zg_iload_n X 0 rfl dX11_depth_28 ?_
          refine ag_153 X hI hv15 (by omega) (by omega) dX11_depth_29 (fun v16 ev16 _ => ?_)
          replace E := zLet_s ev16 E
          refine zg_iconst X 1 dX11_depth_30 (by decide) (fun v17 _ hv17 => ?_)
          replace E := zLet_s (zcst hv17 (by decide)) E
          refine zg_iaddW X dX11_depth_31 (fun v18 ev18 => ?_)
          replace E := zLet_s ev18 E
          refine zg_iload_n X 1 rfl dX11_depth_32 ?_
          have zv18_z19 := zb_rng v18
          have zx6_z20 := zb_rng x6
          refine zg_icmp_le X 45 dX11_depth_33 (by decide) (fun c21 => ?_) (fun c21 => ?_)
          · skip
            replace E := zIf_f (Int.not_lt.mpr c21) E
            refine zg_iinc X 1 (fun v22 => [(2, .int v22), (1, .int x6), (0, .ref a0)]) 0 dX11_depth_45 rfl (by decide) (by decide) (by omega) (by omega) (fun _ => rfl) (fun v22 ev22 hv22 => ?_)
            replace E := zLet_s (zinc ev22 (by decide)) E
            refine zg_goto X 8 dX11_depth_48 (by decide) ?_
            refine zg_sub [0, 1, 2] rfl ?_
            exact ihLp7 _ v22 x6 hI hS gE_Lp7 gH_Lp7 gL_Lp7 gN_Lp7 E  (by omega) (by omega) 
          · skip
            replace E := zIf_t c21 E
            refine zg_aload_n X 2 rfl dX11_depth_36 ?_
            refine fg_X11_116 X hI ha0 dX11_depth_37 (fun v23 ev23 hv23 => ?_)
            replace E := zLet_s (zgr ev23) E
            refine zg_iload_n X 0 rfl dX11_depth_40 ?_
            refine ag_153 X hI hv23 (by omega) (by omega) dX11_depth_41 (fun v24 ev24 _ => ?_)
            replace E := zLet_s ev24 E
            refine zg_iconst X 1 dX11_depth_42 (by decide) (fun v25 _ hv25 => ?_)
            replace E := zLet_s (zcst hv25 (by decide)) E
            refine zg_iaddW X dX11_depth_43 (fun v26 ev26 => ?_)
            replace E := zLet_s ev26 E
            refine zg_istore_n X [(1, .int v26), (2, .int x5), (0, .ref a0)] dX11_depth_44 (by decide) rfl ?_
            refine zg_iinc X 1 (fun v27 => [(2, .int v27), (1, .int v26), (0, .ref a0)]) 1 dX11_depth_45 rfl (by decide) (by decide) (by omega) (by omega) (fun _ => rfl) (fun v27 ev27 hv27 => ?_)
            replace E := zLet_s (zinc ev27 (by decide)) E
            refine zg_goto X 8 dX11_depth_48 (by decide) ?_
            refine zg_sub [0, 1, 2] rfl ?_
            exact ihLp7 _ v27 v26 hI hS gE_Lp7 gH_Lp7 gL_Lp7 gN_Lp7 E  (by omega) (by omega) 
  refine zg_sub [0, 1, 2] rfl ?_
  exact Lp7 10000 _ v4 v3 hI hS gEt1 gHt1 gLt1 gNt1 E  (by omega) (by omega) 
set_option maxHeartbeats 4000000 in
set_option maxRecDepth 100000 in
theorem t_X11_orderAt (l : Launch) (d : zD2) (L : List Nat) (kd : Nat → Nat) (κ : Int) (σ : zS) (hI : zJ κ L kd σ) (a0 : Nat) (ha0 : zT L kd a0 11) (p1 : Int32) : zMi l yX11_orderAt (Cond.code yX11_orderAt cX11_orderAt 5 (some .int) :: zWL) 1 [.ref a0, .int p1] d L kd σ (fun v σ2 => v = F_X11_orderAt a0 p1 σ ∧ σ = σ2) := by
  refine zMi.of (own := RX11) (by decide +kernel) rfl rfl (Nat.le_of_ble_eq_true rfl) ?_
  intro p e s m args below meth c A Q X ret
  refine zg_lv (lv2 := [(0, .ref a0), (1, .int p1)]) rfl ?_
  have zm := zM_in hI ha0
  obtain ⟨R, hR⟩ : ∃ R, R = F_X11_orderAt a0 p1 σ := ⟨_, rfl⟩
  have E := hR
  unfold F_X11_orderAt at E
  refine zg_iconst X 0 dX11_orderAt_0 (by decide) (fun v1 _ hv1 => ?_)
  replace E := zLet_s (zcst hv1 (by decide)) E
  refine zg_istore_n X [(2, .int v1), (0, .ref a0), (1, .int p1)] dX11_orderAt_1 (by decide) rfl ?_
  refine zg_iconst X 0 dX11_orderAt_2 (by decide) (fun v2 _ hv2 => ?_)
  replace E := zLet_s (zcst hv2 (by decide)) E
  refine zg_istore_n X [(3, .int v2), (2, .int v1), (0, .ref a0), (1, .int p1)] dX11_orderAt_3 (by decide) rfl ?_
  refine zg_iconst X 1 dX11_orderAt_4 (by decide) (fun v3 _ hv3 => ?_)
  replace E := zLet_s (zcst hv3 (by decide)) E
  refine zg_istore X [(4, .int v3), (3, .int v2), (2, .int v1), (0, .ref a0), (1, .int p1)] dX11_orderAt_5 (by decide) rfl ?_
  have Lp7 : ∀ (nLp7 : Nat) (x4 : Int32) (x5 : Int32) (x6 : Int32), R = F_X11_orderAt_7 a0 p1 σ  nLp7 x4 x5 x6 → 1 ≤ x4.toInt ∧ x4.toInt ≤ 12 → (12) - x4.toInt + 1 < (nLp7 : Int) → zG d L kd A 5 p l e (k2_rm 1 (100 * 1)) s m args below meth c Q σ 7 [(4, .int x4), (3, .int x5), (2, .int x6), (0, .ref a0), (1, .int p1)] [] := by
    intro nLp7
    induction nLp7 with
    | zero => intro x4 x5 x6  E  hxLp7 hm ; exact absurd hm (by omega)
    | succ nLp7 ihLp7 =>
      intro x4 x5 x6  E  hxLp7 hmLp7 
      rw [F_X11_orderAt_7] at E
      refine zg_iload X 0 rfl dX11_orderAt_7 ?_
      refine zg_aload_n X 3 rfl dX11_orderAt_9 ?_
      refine zg_cVi (As := []) (st := [.int x4]) X ha0 rfl (by decide) rfl (t_X11_many l d L kd κ _ hI a0 ha0   ) mk_X11_313 mc_X11_many mz_X11 mi_X11_many ml_X11_many (na := 0) ⟨md_X11.1, md_X11.2, by decide +kernel⟩ rfl ⟨by decide, by decide⟩ (Nat.le_of_ble_eq_true rfl) dX11_orderAt_10 (fun v9 t8 hq => ?_)
      obtain ⟨⟨hF, ⟨ht8_res, ht8_fact0⟩⟩, rfl⟩ := hq
      replace E := zLet_s hF E
      refine zg_icmp_ge X 74 dX11_orderAt_13 (by decide) (fun c10 => ?_) (fun c10 => ?_)
      · skip
        replace E := zIf_f (Int.not_lt.mpr c10) E
        refine zg_iload_n X 2 rfl dX11_orderAt_74 ?_
        refine zg_if_ne X 82 dX11_orderAt_75 (by decide) (fun c11 => ?_) (fun c11 => ?_)
        · skip
          replace E := zIf_f c11 E
          refine zg_iload_n X 1 rfl dX11_orderAt_82 ?_
          refine zg_iconst X 1 dX11_orderAt_83 (by decide) (fun v12 _ hv12 => ?_)
          replace E := zLet_s (zcst hv12 (by decide)) E
          have zx5_z13 := zb_rng x5
          refine zg_icmp_le X 93 dX11_orderAt_84 (by decide) (fun c14 => ?_) (fun c14 => ?_)
          · skip
            replace E := zIf_f (Int.not_lt.mpr c14) E
            refine zg_iload_n X 2 rfl dX11_orderAt_93 ?_
            exact ret _ _ _ _ dX11_orderAt_94 rfl ⟨E.symm.trans hR, rfl⟩
          · skip
            replace E := zIf_t c14 E
            refine zg_iload_n X 2 rfl dX11_orderAt_87 ?_
            refine zg_iconst X 1 dX11_orderAt_88 (by decide) (fun v15 _ hv15 => ?_)
            replace E := zLet_s (zcst hv15 (by decide)) E
            refine zg_iaddW X dX11_orderAt_89 (fun v16 ev16 => ?_)
            replace E := zLet_s ev16 E
            refine zg_goto X 94 dX11_orderAt_90 (by decide) ?_
            exact ret _ _ _ _ dX11_orderAt_94 rfl ⟨E.symm.trans hR, rfl⟩
        · skip
          replace E := zIf_t c11 E
          refine zg_iconst X 1 dX11_orderAt_78 (by decide) (fun v17 _ hv17 => ?_)
          replace E := zLet_s (zcst hv17 (by decide)) E
          refine zg_goto X 94 dX11_orderAt_79 (by decide) ?_
          exact ret _ _ _ _ dX11_orderAt_94 rfl ⟨E.symm.trans hR, rfl⟩
      · skip
        replace E := zIf_t c10 E
        refine zg_aload_n X 3 rfl dX11_orderAt_16 ?_
        refine fg_X11_110 X hI ha0 dX11_orderAt_17 (fun v18 ev18 hv18 => ?_)
        replace E := zLet_s (zgr ev18) E
        refine zg_iload X 0 rfl dX11_orderAt_20 ?_
        refine ag_149 X hI hv18 (by omega) (by omega) dX11_orderAt_22 (fun v19 ev19 _ => ?_)
        replace E := zLet_s ev19 E
        refine zg_iload_n X 4 rfl dX11_orderAt_23 ?_
        refine zg_icmp_ne X 68 dX11_orderAt_24 (by decide) (fun c20 => ?_) (fun c20 => ?_)
        · skip
          replace E := zIf_f c20 E
          refine zg_iinc X 1 (fun v21 => [(4, .int v21), (3, .int x5), (2, .int x6), (0, .ref a0), (1, .int p1)]) 0 dX11_orderAt_68 rfl (by decide) (by decide) (by omega) (by omega) (fun _ => rfl) (fun v21 ev21 hv21 => ?_)
          replace E := zLet_s (zinc ev21 (by decide)) E
          refine zg_goto X 7 dX11_orderAt_71 (by decide) ?_
          refine zg_sub [0, 1, 2, 3, 4] rfl ?_
          exact ihLp7 v21 x5 x6   E  (by omega) (by omega) 
        · skip
          replace E := zIf_t c20 E
          refine zg_aload_n X 3 rfl dX11_orderAt_27 ?_
          refine fg_X11_131 X hI ha0 dX11_orderAt_28 (fun v22 ev22 hv22 => ?_)
          replace E := zLet_s (zgr ev22) E
          refine zg_iload X 0 rfl dX11_orderAt_31 ?_
          refine ag_160 X hI hv22 (by omega) (by omega) dX11_orderAt_33 (fun v23 ev23 _ => ?_)
          replace E := zLet_s ev23 E
          refine zg_iload_n X 2 rfl dX11_orderAt_34 ?_
          have zv23_z24 := zb_rng v23
          have zx6_z25 := zb_rng x6
          refine zg_icmp_ge X 41 dX11_orderAt_35 (by decide) (fun c26 => ?_) (fun c26 => ?_)
          · skip
            replace E := zIf_f (Int.not_lt.mpr c26) E
            refine zg_aload_n X 3 rfl dX11_orderAt_41 ?_
            refine fg_X11_131 X hI ha0 dX11_orderAt_42 (fun v27 ev27 hv27 => ?_)
            replace E := zLet_s (zgr ev27) E
            refine zg_iload X 0 rfl dX11_orderAt_45 ?_
            refine ag_160 X hI hv27 (by omega) (by omega) dX11_orderAt_47 (fun v28 ev28 _ => ?_)
            replace E := zLet_s ev28 E
            refine zg_iload_n X 2 rfl dX11_orderAt_48 ?_
            have zv28_z29 := zb_rng v28
            have zx6_z30 := zb_rng x6
            refine zg_icmp_le X 56 dX11_orderAt_49 (by decide) (fun c31 => ?_) (fun c31 => ?_)
            · skip
              replace E := zIf_f (Int.not_lt.mpr c31) E
              refine zg_iload_n X 1 rfl dX11_orderAt_56 ?_
              refine zg_iconst X 1 dX11_orderAt_57 (by decide) (fun v32 _ hv32 => ?_)
              replace E := zLet_s (zcst hv32 (by decide)) E
              refine zg_iaddW X dX11_orderAt_58 (fun v33 ev33 => ?_)
              replace E := zLet_s ev33 E
              refine zg_istore_n X [(3, .int v33), (4, .int x4), (2, .int x6), (0, .ref a0), (1, .int p1)] dX11_orderAt_59 (by decide) rfl ?_
              refine zg_aload_n X 3 rfl dX11_orderAt_60 ?_
              refine fg_X11_131 X hI ha0 dX11_orderAt_61 (fun v34 ev34 hv34 => ?_)
              replace E := zLet_s (zgr ev34) E
              refine zg_iload X 1 rfl dX11_orderAt_64 ?_
              refine ag_160 X hI hv34 (by omega) (by omega) dX11_orderAt_66 (fun v35 ev35 _ => ?_)
              replace E := zLet_s ev35 E
              refine zg_istore_n X [(2, .int v35), (3, .int v33), (4, .int x4), (0, .ref a0), (1, .int p1)] dX11_orderAt_67 (by decide) rfl ?_
              refine zg_iinc X 1 (fun v36 => [(4, .int v36), (2, .int v35), (3, .int v33), (0, .ref a0), (1, .int p1)]) 2 dX11_orderAt_68 rfl (by decide) (by decide) (by omega) (by omega) (fun _ => rfl) (fun v36 ev36 hv36 => ?_)
              replace E := zLet_s (zinc ev36 (by decide)) E
              refine zg_goto X 7 dX11_orderAt_71 (by decide) ?_
              refine zg_sub [0, 2, 1, 3, 4] rfl ?_
              exact ihLp7 v36 v33 v35   E  (by omega) (by omega) 
            · skip
              replace E := zIf_t c31 E
              refine zg_iconst X 1 dX11_orderAt_52 (by decide) (fun v37 _ hv37 => ?_)
              replace E := zLet_s (zcst hv37 (by decide)) E
              refine zg_goto X 59 dX11_orderAt_53 (by decide) ?_
              refine zg_istore_n X [(3, .int v37), (4, .int x4), (2, .int x6), (0, .ref a0), (1, .int p1)] dX11_orderAt_59 (by decide) rfl ?_
              refine zg_aload_n X 3 rfl dX11_orderAt_60 ?_
              refine fg_X11_131 X hI ha0 dX11_orderAt_61 (fun v38 ev38 hv38 => ?_)
              replace E := zLet_s (zgr ev38) E
              refine zg_iload X 1 rfl dX11_orderAt_64 ?_
              refine ag_160 X hI hv38 (by omega) (by omega) dX11_orderAt_66 (fun v39 ev39 _ => ?_)
              replace E := zLet_s ev39 E
              refine zg_istore_n X [(2, .int v39), (3, .int v37), (4, .int x4), (0, .ref a0), (1, .int p1)] dX11_orderAt_67 (by decide) rfl ?_
              refine zg_iinc X 1 (fun v40 => [(4, .int v40), (2, .int v39), (3, .int v37), (0, .ref a0), (1, .int p1)]) 2 dX11_orderAt_68 rfl (by decide) (by decide) (by omega) (by omega) (fun _ => rfl) (fun v40 ev40 hv40 => ?_)
              replace E := zLet_s (zinc ev40 (by decide)) E
              refine zg_goto X 7 dX11_orderAt_71 (by decide) ?_
              refine zg_sub [0, 2, 1, 3, 4] rfl ?_
              exact ihLp7 v40 v37 v39   E  (by omega) (by omega) 
          · skip
            replace E := zIf_t c26 E
            refine zg_goto X 68 dX11_orderAt_38 (by decide) ?_
            refine zg_iinc X 1 (fun v41 => [(4, .int v41), (3, .int x5), (2, .int x6), (0, .ref a0), (1, .int p1)]) 0 dX11_orderAt_68 rfl (by decide) (by decide) (by omega) (by omega) (fun _ => rfl) (fun v41 ev41 hv41 => ?_)
            replace E := zLet_s (zinc ev41 (by decide)) E
            refine zg_goto X 7 dX11_orderAt_71 (by decide) ?_
            refine zg_sub [0, 1, 2, 3, 4] rfl ?_
            exact ihLp7 v41 x5 x6   E  (by omega) (by omega) 
  refine zg_sub [0, 1, 2, 3, 4] rfl ?_
  exact Lp7 10000 v3 v2 v1   E  (by omega) (by omega) 
set_option maxHeartbeats 4000000 in
set_option maxRecDepth 100000 in
theorem t_X11_order (l : Launch) (d : zD2) (L : List Nat) (kd : Nat → Nat) (κ : Int) (σ : zS) (hI : zJ κ L kd σ) (a0 : Nat) (ha0 : zT L kd a0 11) (p1 : Int32) (hgN : gN a0 σ) (hgH : gH a0 σ) (hgE : gE a0 σ) (hgL : gL a0 σ) : zMi l yX11_order (Cond.code yX11_order cX11_order 4 (some .int) :: zWL) 5 [.ref a0, .int p1] d L kd σ (fun v σ2 => (v, σ2) = F_X11_order a0 p1 σ ∧ (((gN a0 σ2) ∧ (gH a0 σ2) ∧ (gE a0 σ2) ∧ (gL a0 σ2)) ∧ zJ κ L kd σ2 ∧ zSame a0 [47, 50, 51] [145, 146, 149, 152, 153, 154, 155, 160] L kd σ σ2)) := by
  refine zMi.of (own := RX11) (by decide +kernel) rfl rfl (Nat.le_of_ble_eq_true rfl) ?_
  intro p e s m args below meth c A Q X ret
  have hS : zSame a0 [47, 50, 51] [145, 146, 149, 152, 153, 154, 155, 160] L kd σ σ := zSame.rf
  refine zg_lv (lv2 := [(0, .ref a0), (1, .int p1)]) rfl ?_
  have zm := zM_in hI ha0
  obtain ⟨R, hR⟩ : ∃ R, R = F_X11_order a0 p1 σ := ⟨_, rfl⟩
  have E := hR
  unfold F_X11_order at E
  refine zg_aload_n X 0 rfl dX11_order_0 ?_
  refine zg_iload_n X 1 rfl dX11_order_1 ?_
  refine zg_cVi (As := [.int p1]) (st := []) X ha0 rfl (by decide) rfl (t_X11_isPlace l d L kd κ _ hI a0 ha0 p1  ) mk_X11_383 mc_X11_isPlace mz_X11 mi_X11_isPlace ml_X11_isPlace (na := 1) ⟨md_X11.1, md_X11.2, by decide +kernel⟩ rfl ⟨by decide, by decide⟩ (Nat.le_of_ble_eq_true rfl) dX11_order_2 (fun v2 t1 hq => ?_)
  obtain ⟨⟨hF, ⟨ht1_res, ht1_fact0⟩⟩, rfl⟩ := hq
  replace E := zLet_s hF E
  refine zg_if_ne X 10 dX11_order_5 (by decide) (fun c3 => ?_) (fun c3 => ?_)
  · skip
    replace E := zIf_f c3 E
    refine zg_aload_n X 0 rfl dX11_order_10 ?_
    refine zg_cVv (As := []) (st := []) X ha0 rfl (by decide) rfl (t_X11_copies l d L kd κ _ hI a0 ha0    hgN hgL) mk_X11_332 mc_X11_copies mz_X11 mi_X11_copies ml_X11_copies (na := 0) ⟨md_X11.1, md_X11.2, by decide +kernel⟩ rfl ⟨by decide, by decide⟩ (Nat.le_of_ble_eq_true rfl) dX11_order_11 (fun t4 hq => ?_)
    obtain ⟨hF, ⟨ht4_fact0, gRt4, gBt4⟩, hI, g5⟩ := hq
    replace E := zLet_s hF E
    have hS := hS.tr g5 (by decide) (by decide)
    have gNt4 := gN.same hI ha0 g5 (by decide) hgN
    have gHt4 := gH.same hI ha0 g5 (by decide) hgH
    have gEt4 := gE.same hI ha0 g5 (by decide) hgE
    have gLt4 := gL.same hI ha0 g5 (by decide) hgL
    refine zg_bipush X 11 dX11_order_14 (by decide) (fun v6 _ hv6 => ?_)
    replace E := zLet_s (zcst hv6 (by decide)) E
    refine zg_istore_n X [(2, .int v6), (0, .ref a0), (1, .int p1)] dX11_order_16 (by decide) rfl ?_
    have Lp8 : ∀ (nLp8 : Nat) (τ8 : zS) (x7 : Int32), zJ κ L kd τ8 → zSame a0 [47, 50, 51] [145, 146, 149, 152, 153, 154, 155, 160] L kd σ τ8 → gE a0 τ8 → gH a0 τ8 → gL a0 τ8 → gN a0 τ8 → R = F_X11_order_17 a0 p1  nLp8 x7 τ8 → (-1) ≤ x7.toInt ∧ x7.toInt ≤ 11 → x7.toInt + 2 < (nLp8 : Int) → zG d L kd A 4 p l e (k2_rm 5 (100 * 5)) s m args below meth c Q τ8 17 [(2, .int x7), (0, .ref a0), (1, .int p1)] [] := by
      intro nLp8
      induction nLp8 with
      | zero => intro τ8 x7 hI hS gE_Lp8 gH_Lp8 gL_Lp8 gN_Lp8 E  hxLp8 hm ; exact absurd hm (by omega)
      | succ nLp8 ihLp8 =>
        intro τ8 x7 hI hS gE_Lp8 gH_Lp8 gL_Lp8 gN_Lp8 E  hxLp8 hmLp8 
        rw [F_X11_order_17] at E
        refine zg_iload_n X 0 rfl dX11_order_17 ?_
        refine zg_if_lt X 64 dX11_order_18 (by decide) (fun c9 => ?_) (fun c9 => ?_)
        · skip
          replace E := zIf_t c9 E
          refine zg_aload_n X 1 rfl dX11_order_64 ?_
          refine fg_X11_131 X hI ha0 dX11_order_65 (fun v10 ev10 hv10 => ?_)
          replace E := zLet_s (zgr ev10) E
          refine zg_iload_n X 2 rfl dX11_order_68 ?_
          refine ag_160 X hI hv10 (by omega) (by omega) dX11_order_69 (fun v11 ev11 _ => ?_)
          replace E := zLet_s ev11 E
          exact ret _ _ _ _ dX11_order_70 rfl ⟨E.symm.trans hR, ⟨⟨gN_Lp8, gH_Lp8, gE_Lp8, gL_Lp8⟩, hI, hS⟩⟩
        · skip
          replace E := zIf_f (Int.not_lt.mpr c9) E
          refine zg_iconst X 0 dX11_order_21 (by decide) (fun v12 _ hv12 => ?_)
          replace E := zLet_s (zcst hv12 (by decide)) E
          refine zg_istore_n X [(3, .int v12), (2, .int x7), (0, .ref a0), (1, .int p1)] dX11_order_22 (by decide) rfl ?_
          have Lp14 : ∀ (nLp14 : Nat) (τ14 : zS) (x13 : Int32), zJ κ L kd τ14 → zSame a0 [47, 50, 51] [145, 146, 149, 152, 153, 154, 155, 160] L kd σ τ14 → gE a0 τ14 → gH a0 τ14 → gL a0 τ14 → gN a0 τ14 → R = F_X11_order_23 x7 a0 p1 (F_X11_order_17 a0 p1  nLp8) nLp14 x13 τ14 → 0 ≤ x13.toInt ∧ x13.toInt ≤ 12 → (12) - x13.toInt + 1 < (nLp14 : Int) → zG d L kd A 4 p l e (k2_rm 5 (100 * 5)) s m args below meth c Q τ14 23 [(3, .int x13), (2, .int x7), (0, .ref a0), (1, .int p1)] [] := by
            intro nLp14
            induction nLp14 with
            | zero => intro τ14 x13 hI hS gE_Lp14 gH_Lp14 gL_Lp14 gN_Lp14 E  hxLp14 hm ; exact absurd hm (by omega)
            | succ nLp14 ihLp14 =>
              intro τ14 x13 hI hS gE_Lp14 gH_Lp14 gL_Lp14 gN_Lp14 E  hxLp14 hmLp14 
              rw [F_X11_order_23] at E
              refine zg_iload_n X 0 rfl dX11_order_23 ?_
              refine zg_aload_n X 2 rfl dX11_order_24 ?_
              refine zg_cVi (As := []) (st := [.int x13]) X ha0 rfl (by decide) rfl (t_X11_many l d L kd κ _ hI a0 ha0   ) mk_X11_313 mc_X11_many mz_X11 mi_X11_many ml_X11_many (na := 0) ⟨md_X11.1, md_X11.2, by decide +kernel⟩ rfl ⟨by decide, by decide⟩ (Nat.le_of_ble_eq_true rfl) dX11_order_25 (fun v16 t15 hq => ?_)
              obtain ⟨⟨hF, ⟨ht15_res, ht15_fact0⟩⟩, rfl⟩ := hq
              replace E := zLet_s hF E
              refine zg_icmp_ge X 58 dX11_order_28 (by decide) (fun c17 => ?_) (fun c17 => ?_)
              · skip
                replace E := zIf_f (Int.not_lt.mpr c17) E
                refine zg_iinc X (-1) (fun v18 => [(2, .int v18), (3, .int x13), (0, .ref a0), (1, .int p1)]) 1 dX11_order_58 rfl (by decide) (by decide) (by omega) (by omega) (fun _ => rfl) (fun v18 ev18 hv18 => ?_)
                replace E := zLet_s (zinc ev18 (by decide)) E
                refine zg_goto X 17 dX11_order_61 (by decide) ?_
                refine zg_sub [0, 2, 3] rfl ?_
                exact ihLp8 _ v18 hI hS gE_Lp14 gH_Lp14 gL_Lp14 gN_Lp14 E  (by omega) (by omega) 
              · skip
                replace E := zIf_t c17 E
                refine zg_aload_n X 2 rfl dX11_order_31 ?_
                refine fg_X11_116 X hI ha0 dX11_order_32 (fun v19 ev19 hv19 => ?_)
                replace E := zLet_s (zgr ev19) E
                refine zg_iload_n X 0 rfl dX11_order_35 ?_
                refine ag_153 X hI hv19 (by omega) (by omega) dX11_order_36 (fun v20 ev20 _ => ?_)
                replace E := zLet_s ev20 E
                refine zg_iload_n X 1 rfl dX11_order_37 ?_
                refine zg_icmp_ne X 52 dX11_order_38 (by decide) (fun c21 => ?_) (fun c21 => ?_)
                · skip
                  replace E := zIf_f c21 E
                  refine zg_iinc X 1 (fun v22 => [(3, .int v22), (2, .int x7), (0, .ref a0), (1, .int p1)]) 0 dX11_order_52 rfl (by decide) (by decide) (by omega) (by omega) (fun _ => rfl) (fun v22 ev22 hv22 => ?_)
                  replace E := zLet_s (zinc ev22 (by decide)) E
                  refine zg_goto X 23 dX11_order_55 (by decide) ?_
                  refine zg_sub [0, 1, 2, 3] rfl ?_
                  exact ihLp14 _ v22 hI hS gE_Lp14 gH_Lp14 gL_Lp14 gN_Lp14 E  (by omega) (by omega) 
                · skip
                  replace E := zIf_t c21 E
                  refine zg_aload_n X 2 rfl dX11_order_41 ?_
                  refine fg_X11_131 X hI ha0 dX11_order_42 (fun v23 ev23 hv23 => ?_)
                  replace E := zLet_s (zgr ev23) E
                  refine zg_iload_n X 0 rfl dX11_order_45 ?_
                  refine zg_aload_n X 2 rfl dX11_order_46 ?_
                  refine zg_iload_n X 0 rfl dX11_order_47 ?_
                  refine zg_cVi (As := [.int x13]) (st := [.int x13, .ref v23]) X ha0 rfl (by decide) rfl (t_X11_orderAt l d L kd κ _ hI a0 ha0 x13  ) mk_X11_439 mc_X11_orderAt mz_X11 mi_X11_orderAt ml_X11_orderAt (na := 1) ⟨md_X11.1, md_X11.2, by decide +kernel⟩ rfl ⟨by decide, by decide⟩ (Nat.le_of_ble_eq_true rfl) dX11_order_48 (fun v25 t24 hq => ?_)
                  obtain ⟨hF, rfl⟩ := hq
                  replace E := zLet_s hF E
                  refine as_160 X hI hv23 (by omega) (by omega) dX11_order_51 (fun s26 es26 hI => ?_)
                  replace E := zLet_s es26 E
                  have g27 := (zSame.rf (o := a0) (Wf := []) (Wa := [160]) (L := L) (kd := kd) (σ := τ14)).a ha0 hv23 es26 rfl (by decide)
                  have hS := hS.tr g27 (by decide) (by decide)
                  have gEs26 := gE.same hI ha0 g27 (by decide) gE_Lp14
                  have gHs26 := gH.same hI ha0 g27 (by decide) gH_Lp14
                  have gLs26 := gL.same hI ha0 g27 (by decide) gL_Lp14
                  have gNs26 := gN.same hI ha0 g27 (by decide) gN_Lp14
                  refine zg_iinc X 1 (fun v28 => [(3, .int v28), (2, .int x7), (0, .ref a0), (1, .int p1)]) 0 dX11_order_52 rfl (by decide) (by decide) (by omega) (by omega) (fun _ => rfl) (fun v28 ev28 hv28 => ?_)
                  replace E := zLet_s (zinc ev28 (by decide)) E
                  refine zg_goto X 23 dX11_order_55 (by decide) ?_
                  refine zg_sub [0, 1, 2, 3] rfl ?_
                  exact ihLp14 _ v28 hI hS gEs26 gHs26 gLs26 gNs26 E  (by omega) (by omega) 
          refine zg_sub [0, 1, 2, 3] rfl ?_
          exact Lp14 10000 _ v12 hI hS gE_Lp8 gH_Lp8 gL_Lp8 gN_Lp8 E  (by omega) (by omega) 
    refine zg_sub [0, 1, 2] rfl ?_
    exact Lp8 10000 _ v6 hI hS gEt4 gHt4 gLt4 gNt4 E  (by omega) (by omega) 
  · skip
    replace E := zIf_t c3 E
    refine zg_iconst X (-1) dX11_order_8 (by decide) (fun v29 _ hv29 => ?_)
    replace E := zLet_s (zcst hv29 (by decide)) E
    exact ret _ _ _ _ dX11_order_9 rfl ⟨E.symm.trans hR, ⟨⟨hgN, hgH, hgE, hgL⟩, hI, hS⟩⟩
set_option maxHeartbeats 4000000 in
set_option maxRecDepth 100000 in
theorem t_X11_basin (l : Launch) (d : zD2) (L : List Nat) (kd : Nat → Nat) (κ : Int) (σ : zS) (hI : zJ κ L kd σ) (a0 : Nat) (ha0 : zT L kd a0 11) (p1 : Int32) (p2 : Int32) (hgN : gN a0 σ) (hgH : gH a0 σ) (hgE : gE a0 σ) (hgL : gL a0 σ) : zMi l yX11_basin (Cond.code yX11_basin cX11_basin 5 (some .int) :: zWL) 5 [.ref a0, .int p1, .int p2] d L kd σ (fun v σ2 => (v, σ2) = F_X11_basin a0 p1 p2 σ ∧ (((gN a0 σ2) ∧ (gH a0 σ2) ∧ (gE a0 σ2) ∧ (gL a0 σ2)) ∧ zJ κ L kd σ2 ∧ zSame a0 [47, 50, 51] [145, 146, 149, 152, 153, 154, 155] L kd σ σ2)) := by
  refine zMi.of (own := RX11) (by decide +kernel) rfl rfl (Nat.le_of_ble_eq_true rfl) ?_
  intro p e s m args below meth c A Q X ret
  have hS : zSame a0 [47, 50, 51] [145, 146, 149, 152, 153, 154, 155] L kd σ σ := zSame.rf
  refine zg_lv (lv2 := [(0, .ref a0), (1, .int p1), (2, .int p2)]) rfl ?_
  have zm := zM_in hI ha0
  obtain ⟨R, hR⟩ : ∃ R, R = F_X11_basin a0 p1 p2 σ := ⟨_, rfl⟩
  have E := hR
  unfold F_X11_basin at E
  refine zg_aload_n X 0 rfl dX11_basin_0 ?_
  refine zg_iload_n X 1 rfl dX11_basin_1 ?_
  refine zg_cVi (As := [.int p1]) (st := []) X ha0 rfl (by decide) rfl (t_X11_isPlace l d L kd κ _ hI a0 ha0 p1  ) mk_X11_383 mc_X11_isPlace mz_X11 mi_X11_isPlace ml_X11_isPlace (na := 1) ⟨md_X11.1, md_X11.2, by decide +kernel⟩ rfl ⟨by decide, by decide⟩ (Nat.le_of_ble_eq_true rfl) dX11_basin_2 (fun v2 t1 hq => ?_)
  obtain ⟨⟨hF, ⟨ht1_res, ht1_fact0⟩⟩, rfl⟩ := hq
  replace E := zLet_s hF E
  refine zg_if_eq X 17 dX11_basin_5 (by decide) (fun c3 => ?_) (fun c3 => ?_)
  · skip
    replace E := zIf_t c3 E
    refine zg_iconst X (-1) dX11_basin_17 (by decide) (fun v4 _ hv4 => ?_)
    replace E := zLet_s (zcst hv4 (by decide)) E
    exact ret _ _ _ _ dX11_basin_18 rfl ⟨E.symm.trans hR, ⟨⟨hgN, hgH, hgE, hgL⟩, hI, hS⟩⟩
  · skip
    replace E := zIf_f c3 E
    refine zg_iload_n X 2 rfl dX11_basin_8 ?_
    refine zg_iconst X 0 dX11_basin_9 (by decide) (fun v5 _ hv5 => ?_)
    replace E := zLet_s (zcst hv5 (by decide)) E
    refine zg_iconst X 1 dX11_basin_10 (by decide) (fun v6 _ hv6 => ?_)
    replace E := zLet_s (zcst hv6 (by decide)) E
    refine zg_cSi (As := [.int p2, .int v5, .int v6]) (st := []) X (t_X11_in l d L kd _ p2 v5 v6 ) mk_X11_316 mc_X11_in mz_X11 ms_X11_in (na := 3) ⟨md_X11.1, md_X11.2, by decide +kernel⟩ rfl ⟨by decide, by decide⟩ (Nat.le_of_ble_eq_true rfl) dX11_basin_11 (fun v7 σ2 hq => ?_)
    obtain ⟨⟨hF, hv7⟩, rfl⟩ := hq
    replace E := zLet_s hF E
    refine zg_if_ne X 19 dX11_basin_14 (by decide) (fun c8 => ?_) (fun c8 => ?_)
    · skip
      replace E := zIf_f c8 E
      refine zg_aload_n X 0 rfl dX11_basin_19 ?_
      refine zg_cVv (As := []) (st := []) X ha0 rfl (by decide) rfl (t_X11_copies l d L kd κ _ hI a0 ha0    hgN hgL) mk_X11_332 mc_X11_copies mz_X11 mi_X11_copies ml_X11_copies (na := 0) ⟨md_X11.1, md_X11.2, by decide +kernel⟩ rfl ⟨by decide, by decide⟩ (Nat.le_of_ble_eq_true rfl) dX11_basin_20 (fun t9 hq => ?_)
      obtain ⟨hF, ⟨ht9_fact0, gRt9, gBt9⟩, hI, g10⟩ := hq
      replace E := zLet_s hF E
      have hS := hS.tr g10 (by decide) (by decide)
      have gNt9 := gN.same hI ha0 g10 (by decide) hgN
      have gHt9 := gH.same hI ha0 g10 (by decide) hgH
      have gEt9 := gE.same hI ha0 g10 (by decide) hgE
      have gLt9 := gL.same hI ha0 g10 (by decide) hgL
      refine zg_iload_n X 2 rfl dX11_basin_23 ?_
      refine zg_if_ne X 34 dX11_basin_24 (by decide) (fun c11 => ?_) (fun c11 => ?_)
      · skip
        replace E := zIf_f c11 E
        refine zg_iconst X 0 dX11_basin_34 (by decide) (fun v12 _ hv12 => ?_)
        replace E := zLet_s (zcst hv12 (by decide)) E
        refine zg_istore_n X [(3, .int v12), (0, .ref a0), (1, .int p1), (2, .int p2)] dX11_basin_35 (by decide) rfl ?_
        refine zg_iconst X 0 dX11_basin_36 (by decide) (fun v13 _ hv13 => ?_)
        replace E := zLet_s (zcst hv13 (by decide)) E
        refine zg_istore X [(4, .int v13), (3, .int v12), (0, .ref a0), (1, .int p1), (2, .int p2)] dX11_basin_37 (by decide) rfl ?_
        have Lp16 : ∀ (nLp16 : Nat) (τ16 : zS) (x14 : Int32) (x15 : Int32), zJ κ L kd τ16 → zSame a0 [47, 50, 51] [145, 146, 149, 152, 153, 154, 155] L kd σ τ16 → gE a0 τ16 → gH a0 τ16 → gL a0 τ16 → gN a0 τ16 → R = F_X11_basin_39 a0 p1 p2  nLp16 x14 x15 τ16 → 0 ≤ x14.toInt ∧ x14.toInt ≤ 12 → (12) - x14.toInt + 1 < (nLp16 : Int) → zG d L kd A 5 p l e (k2_rm 5 (100 * 5)) s m args below meth c Q τ16 39 [(4, .int x14), (3, .int x15), (0, .ref a0), (1, .int p1), (2, .int p2)] [] := by
          intro nLp16
          induction nLp16 with
          | zero => intro τ16 x14 x15 hI hS gE_Lp16 gH_Lp16 gL_Lp16 gN_Lp16 E  hxLp16 hm ; exact absurd hm (by omega)
          | succ nLp16 ihLp16 =>
            intro τ16 x14 x15 hI hS gE_Lp16 gH_Lp16 gL_Lp16 gN_Lp16 E  hxLp16 hmLp16 
            rw [F_X11_basin_39] at E
            refine zg_iload X 0 rfl dX11_basin_39 ?_
            refine zg_aload_n X 2 rfl dX11_basin_41 ?_
            refine zg_cVi (As := []) (st := [.int x14]) X ha0 rfl (by decide) rfl (t_X11_many l d L kd κ _ hI a0 ha0   ) mk_X11_313 mc_X11_many mz_X11 mi_X11_many ml_X11_many (na := 0) ⟨md_X11.1, md_X11.2, by decide +kernel⟩ rfl ⟨by decide, by decide⟩ (Nat.le_of_ble_eq_true rfl) dX11_basin_42 (fun v18 t17 hq => ?_)
            obtain ⟨⟨hF, ⟨ht17_res, ht17_fact0⟩⟩, rfl⟩ := hq
            replace E := zLet_s hF E
            refine zg_icmp_ge X 78 dX11_basin_45 (by decide) (fun c19 => ?_) (fun c19 => ?_)
            · skip
              replace E := zIf_f (Int.not_lt.mpr c19) E
              refine zg_iload_n X 1 rfl dX11_basin_78 ?_
              exact ret _ _ _ _ dX11_basin_79 rfl ⟨E.symm.trans hR, ⟨⟨gN_Lp16, gH_Lp16, gE_Lp16, gL_Lp16⟩, hI, hS⟩⟩
            · skip
              replace E := zIf_t c19 E
              refine zg_aload_n X 2 rfl dX11_basin_48 ?_
              refine fg_X11_119 X hI ha0 dX11_basin_49 (fun v20 ev20 hv20 => ?_)
              replace E := zLet_s (zgr ev20) E
              refine zg_iload_n X 3 rfl dX11_basin_52 ?_
              refine ag_154 X hI hv20 (by omega) (by omega) dX11_basin_53 (fun v21 ev21 _ => ?_)
              replace E := zLet_s ev21 E
              refine zg_iload X 0 rfl dX11_basin_54 ?_
              refine zg_ishrW X dX11_basin_56 (fun v22 ev22 => ?_)
              replace E := zLet_s ev22 E
              refine zg_iconst X 1 dX11_basin_57 (by decide) (fun v23 _ hv23 => ?_)
              replace E := zLet_s (zcst hv23 (by decide)) E
              refine zg_iandW X dX11_basin_58 (fun v24 ev24 => ?_)
              replace E := zLet_s ev24 E
              refine zg_iconst X 1 dX11_basin_59 (by decide) (fun v25 _ hv25 => ?_)
              replace E := zLet_s (zcst hv25 (by decide)) E
              refine zg_icmp_ne X 72 dX11_basin_60 (by decide) (fun c26 => ?_) (fun c26 => ?_)
              · skip
                replace E := zIf_f c26 E
                refine zg_iinc X 1 (fun v27 => [(4, .int v27), (3, .int x15), (0, .ref a0), (1, .int p1), (2, .int p2)]) 0 dX11_basin_72 rfl (by decide) (by decide) (by omega) (by omega) (fun _ => rfl) (fun v27 ev27 hv27 => ?_)
                replace E := zLet_s (zinc ev27 (by decide)) E
                refine zg_goto X 39 dX11_basin_75 (by decide) ?_
                refine zg_sub [0, 1, 2, 3, 4] rfl ?_
                exact ihLp16 _ v27 x15 hI hS gE_Lp16 gH_Lp16 gL_Lp16 gN_Lp16 E  (by omega) (by omega) 
              · skip
                replace E := zIf_t c26 E
                refine zg_iload_n X 1 rfl dX11_basin_63 ?_
                refine zg_aload_n X 2 rfl dX11_basin_64 ?_
                refine zg_iload X 0 rfl dX11_basin_65 ?_
                refine zg_cVi (As := [.int x14]) (st := [.int x15]) X ha0 rfl (by decide) rfl (t_X11_rainsAt l d L kd κ _ hI a0 ha0 x14  (by omega) gL_Lp16) mk_X11_360 mc_X11_rainsAt mz_X11 mi_X11_rainsAt ml_X11_rainsAt (na := 1) ⟨md_X11.1, md_X11.2, by decide +kernel⟩ rfl ⟨by decide, by decide⟩ (Nat.le_of_ble_eq_true rfl) dX11_basin_67 (fun v29 t28 hq => ?_)
                obtain ⟨hF, hI, g30⟩ := hq
                replace E := zLet2_s hF E
                have hS := hS.tr g30 (by decide) (by decide)
                have gEt28 := gE.same hI ha0 g30 (by decide) gE_Lp16
                have gHt28 := gH.same hI ha0 g30 (by decide) gH_Lp16
                have gLt28 := gL.same hI ha0 g30 (by decide) gL_Lp16
                have gNt28 := gN.same hI ha0 g30 (by decide) gN_Lp16
                refine zg_iaddW X dX11_basin_70 (fun v31 ev31 => ?_)
                replace E := zLet_s ev31 E
                refine zg_istore_n X [(3, .int v31), (4, .int x14), (0, .ref a0), (1, .int p1), (2, .int p2)] dX11_basin_71 (by decide) rfl ?_
                refine zg_iinc X 1 (fun v32 => [(4, .int v32), (3, .int v31), (0, .ref a0), (1, .int p1), (2, .int p2)]) 1 dX11_basin_72 rfl (by decide) (by decide) (by omega) (by omega) (fun _ => rfl) (fun v32 ev32 hv32 => ?_)
                replace E := zLet_s (zinc ev32 (by decide)) E
                refine zg_goto X 39 dX11_basin_75 (by decide) ?_
                refine zg_sub [0, 1, 2, 3, 4] rfl ?_
                exact ihLp16 _ v32 v31 hI hS gEt28 gHt28 gLt28 gNt28 E  (by omega) (by omega) 
        refine zg_sub [0, 1, 2, 3, 4] rfl ?_
        exact Lp16 10000 _ v13 v12 hI hS gEt9 gHt9 gLt9 gNt9 E  (by omega) (by omega) 
      · skip
        replace E := zIf_t c11 E
        refine zg_aload_n X 0 rfl dX11_basin_27 ?_
        refine fg_X11_119 X hI ha0 dX11_basin_28 (fun v33 ev33 hv33 => ?_)
        replace E := zLet_s (zgr ev33) E
        refine zg_iload_n X 1 rfl dX11_basin_31 ?_
        refine ag_154 X hI hv33 (by omega) (by omega) dX11_basin_32 (fun v34 ev34 _ => ?_)
        replace E := zLet_s ev34 E
        exact ret _ _ _ _ dX11_basin_33 rfl ⟨E.symm.trans hR, ⟨⟨gNt9, gHt9, gEt9, gLt9⟩, hI, hS⟩⟩
    · skip
      replace E := zIf_t c8 E
      refine zg_iconst X (-1) dX11_basin_17 (by decide) (fun v35 _ hv35 => ?_)
      replace E := zLet_s (zcst hv35 (by decide)) E
      exact ret _ _ _ _ dX11_basin_18 rfl ⟨E.symm.trans hR, ⟨⟨hgN, hgH, hgE, hgL⟩, hI, hS⟩⟩
set_option maxHeartbeats 4000000 in
set_option maxRecDepth 100000 in
theorem t_X11_reign (l : Launch) (d : zD2) (L : List Nat) (kd : Nat → Nat) (κ : Int) (σ : zS) (hI : zJ κ L kd σ) (a0 : Nat) (ha0 : zT L kd a0 11) (p1 : Int32) (p2 : Int32) (p3 : Int32) (hgN : gN a0 σ) (hgH : gH a0 σ) (hgE : gE a0 σ) (hgL : gL a0 σ) : zMi l yX11_reign (Cond.code yX11_reign cX11_reign 7 (some .int) :: zWL) 6 [.ref a0, .int p1, .int p2, .int p3] d L kd σ (fun v σ2 => (v, σ2) = F_X11_reign a0 p1 p2 p3 σ ∧ (((gN a0 σ2) ∧ (gH a0 σ2) ∧ (gE a0 σ2) ∧ (gL a0 σ2)) ∧ zJ κ L kd σ2 ∧ zSame a0 [47, 50, 51, 56] [145, 146, 149, 152, 153, 154, 155, 161] L kd σ σ2)) := by
  refine zMi.of (own := RX11) (by decide +kernel) rfl rfl (Nat.le_of_ble_eq_true rfl) ?_
  intro p e s m args below meth c A Q X ret
  have hS : zSame a0 [47, 50, 51, 56] [145, 146, 149, 152, 153, 154, 155, 161] L kd σ σ := zSame.rf
  refine zg_lv (lv2 := [(0, .ref a0), (1, .int p1), (2, .int p2), (3, .int p3)]) rfl ?_
  have zm := zM_in hI ha0
  obtain ⟨R, hR⟩ : ∃ R, R = F_X11_reign a0 p1 p2 p3 σ := ⟨_, rfl⟩
  have E := hR
  unfold F_X11_reign at E
  refine zg_iload_n X 1 rfl dX11_reign_0 ?_
  refine zg_cSi (As := [.int p1]) (st := []) X (t_X11_isLaw l d L kd _ p1 ) mk_X11_386 mc_X11_isLaw mz_X11 ms_X11_isLaw (na := 1) ⟨md_X11.1, md_X11.2, by decide +kernel⟩ rfl ⟨by decide, by decide⟩ (Nat.le_of_ble_eq_true rfl) dX11_reign_1 (fun v1 σ2 hq => ?_)
  obtain ⟨⟨hF, hv1⟩, rfl⟩ := hq
  replace E := zLet_s hF E
  refine zg_if_eq X 23 dX11_reign_4 (by decide) (fun c2 => ?_) (fun c2 => ?_)
  · skip
    replace E := zIf_t c2 E
    refine zg_iconst X (-1) dX11_reign_23 (by decide) (fun v3 _ hv3 => ?_)
    replace E := zLet_s (zcst hv3 (by decide)) E
    exact ret _ _ _ _ dX11_reign_24 rfl ⟨E.symm.trans hR, ⟨⟨hgN, hgH, hgE, hgL⟩, hI, hS⟩⟩
  · skip
    replace E := zIf_f c2 E
    refine zg_iload_n X 2 rfl dX11_reign_7 ?_
    refine zg_cSi (As := [.int p2]) (st := []) X (t_X11_isSome l d L kd _ p2 ) mk_X11_408 mc_X11_isSome mz_X11 ms_X11_isSome (na := 1) ⟨md_X11.1, md_X11.2, by decide +kernel⟩ rfl ⟨by decide, by decide⟩ (Nat.le_of_ble_eq_true rfl) dX11_reign_8 (fun v4 σ2 hq => ?_)
    obtain ⟨⟨hF, hv4⟩, rfl⟩ := hq
    replace E := zLet_s hF E
    refine zg_if_eq X 23 dX11_reign_11 (by decide) (fun c5 => ?_) (fun c5 => ?_)
    · skip
      replace E := zIf_t c5 E
      refine zg_iconst X (-1) dX11_reign_23 (by decide) (fun v6 _ hv6 => ?_)
      replace E := zLet_s (zcst hv6 (by decide)) E
      exact ret _ _ _ _ dX11_reign_24 rfl ⟨E.symm.trans hR, ⟨⟨hgN, hgH, hgE, hgL⟩, hI, hS⟩⟩
    · skip
      replace E := zIf_f c5 E
      refine zg_iload_n X 3 rfl dX11_reign_14 ?_
      refine zg_iconst X 0 dX11_reign_15 (by decide) (fun v7 _ hv7 => ?_)
      replace E := zLet_s (zcst hv7 (by decide)) E
      refine zg_iconst X 1 dX11_reign_16 (by decide) (fun v8 _ hv8 => ?_)
      replace E := zLet_s (zcst hv8 (by decide)) E
      refine zg_cSi (As := [.int p3, .int v7, .int v8]) (st := []) X (t_X11_in l d L kd _ p3 v7 v8 ) mk_X11_316 mc_X11_in mz_X11 ms_X11_in (na := 3) ⟨md_X11.1, md_X11.2, by decide +kernel⟩ rfl ⟨by decide, by decide⟩ (Nat.le_of_ble_eq_true rfl) dX11_reign_17 (fun v9 σ2 hq => ?_)
      obtain ⟨⟨hF, hv9⟩, rfl⟩ := hq
      replace E := zLet_s hF E
      refine zg_if_ne X 25 dX11_reign_20 (by decide) (fun c10 => ?_) (fun c10 => ?_)
      · skip
        replace E := zIf_f c10 E
        refine zg_aload_n X 0 rfl dX11_reign_25 ?_
        refine zg_cVv (As := []) (st := []) X ha0 rfl (by decide) rfl (t_X11_copiesStill l d L kd κ _ hI a0 ha0    hgN hgL) mk_X11_411 mc_X11_copiesStill mz_X11 mi_X11_copiesStill ml_X11_copiesStill (na := 0) ⟨md_X11.1, md_X11.2, by decide +kernel⟩ rfl ⟨by decide, by decide⟩ (Nat.le_of_ble_eq_true rfl) dX11_reign_26 (fun t11 hq => ?_)
        obtain ⟨hF, ⟨gRt11, gBt11⟩, hI, g12⟩ := hq
        replace E := zLet_s hF E
        have hS := hS.tr g12 (by decide) (by decide)
        have gNt11 := gN.same hI ha0 g12 (by decide) hgN
        have gHt11 := gH.same hI ha0 g12 (by decide) hgH
        have gEt11 := gE.same hI ha0 g12 (by decide) hgE
        have gLt11 := gL.same hI ha0 g12 (by decide) hgL
        refine zg_iconst X 0 dX11_reign_29 (by decide) (fun v13 _ hv13 => ?_)
        replace E := zLet_s (zcst hv13 (by decide)) E
        refine zg_istore X [(4, .int v13), (0, .ref a0), (1, .int p1), (2, .int p2), (3, .int p3)] dX11_reign_30 (by decide) rfl ?_
        have Lp15 : ∀ (nLp15 : Nat) (τ15 : zS) (x14 : Int32), zJ κ L kd τ15 → zSame a0 [47, 50, 51, 56] [145, 146, 149, 152, 153, 154, 155, 161] L kd σ τ15 → gE a0 τ15 → gH a0 τ15 → gL a0 τ15 → gN a0 τ15 → gR a0 τ15 → R = F_X11_reign_32 a0 p1 p2 p3  nLp15 x14 τ15 → 0 ≤ x14.toInt ∧ x14.toInt ≤ 12 → (12) - x14.toInt + 1 < (nLp15 : Int) → zG d L kd A 7 p l e (k2_rm 6 (100 * 6)) s m args below meth c Q τ15 32 [(4, .int x14), (0, .ref a0), (1, .int p1), (2, .int p2), (3, .int p3)] [] := by
          intro nLp15
          induction nLp15 with
          | zero => intro τ15 x14 hI hS gE_Lp15 gH_Lp15 gL_Lp15 gN_Lp15 gR_Lp15 E  hxLp15 hm ; exact absurd hm (by omega)
          | succ nLp15 ihLp15 =>
            intro τ15 x14 hI hS gE_Lp15 gH_Lp15 gL_Lp15 gN_Lp15 gR_Lp15 E  hxLp15 hmLp15 
            rw [F_X11_reign_32] at E
            refine zg_iload X 0 rfl dX11_reign_32 ?_
            refine zg_bipush X 12 dX11_reign_34 (by decide) (fun v16 _ hv16 => ?_)
            replace E := zLet_s (zcst hv16 (by decide)) E
            refine zg_icmp_ge X 53 dX11_reign_36 (by decide) (fun c17 => ?_) (fun c17 => ?_)
            · skip
              replace E := zIf_f (Int.not_lt.mpr c17) E
              refine zg_iconst X 0 dX11_reign_53 (by decide) (fun v18 _ hv18 => ?_)
              replace E := zLet_s (zcst hv18 (by decide)) E
              refine zg_istore X [(4, .int v18), (0, .ref a0), (1, .int p1), (2, .int p2), (3, .int p3)] dX11_reign_54 (by decide) rfl ?_
              have Lp20 : ∀ (nLp20 : Nat) (τ20 : zS) (x19 : Int32), zJ κ L kd τ20 → zSame a0 [47, 50, 51, 56] [145, 146, 149, 152, 153, 154, 155, 161] L kd σ τ20 → gE a0 τ20 → gH a0 τ20 → gL a0 τ20 → gN a0 τ20 → gR a0 τ20 → R = F_X11_reign_56 a0 p1 p2 p3 (F_X11_reign_32 a0 p1 p2 p3  nLp15) nLp20 x19 τ20 → 0 ≤ x19.toInt ∧ x19.toInt ≤ 2147483647 → (2147483647) - x19.toInt + 1 < (nLp20 : Int) → zG d L kd A 7 p l e (k2_rm 6 (100 * 6)) s m args below meth c Q τ20 56 [(4, .int x19), (0, .ref a0), (1, .int p1), (2, .int p2), (3, .int p3)] [] := by
                intro nLp20
                induction nLp20 with
                | zero => intro τ20 x19 hI hS gE_Lp20 gH_Lp20 gL_Lp20 gN_Lp20 gR_Lp20 E  hxLp20 hm ; exact absurd hm (by omega)
                | succ nLp20 ihLp20 =>
                  intro τ20 x19 hI hS gE_Lp20 gH_Lp20 gL_Lp20 gN_Lp20 gR_Lp20 E  hxLp20 hmLp20 
                  rw [F_X11_reign_56] at E
                  refine zg_iload X 0 rfl dX11_reign_56 ?_
                  refine zg_iload_n X 3 rfl dX11_reign_58 ?_
                  have zx19_z21 := zb_rng x19
                  have zp2_z22 := zb_rng p2
                  refine zg_icmp_ge X 95 dX11_reign_59 (by decide) (fun c23 => ?_) (fun c23 => ?_)
                  · skip
                    replace E := zIf_f (Int.not_lt.mpr c23) E
                    refine zg_iconst X 0 dX11_reign_95 (by decide) (fun v24 _ hv24 => ?_)
                    replace E := zLet_s (zcst hv24 (by decide)) E
                    refine zg_istore X [(4, .int v24), (0, .ref a0), (1, .int p1), (2, .int p2), (3, .int p3)] dX11_reign_96 (by decide) rfl ?_
                    refine zg_bipush X (-2) dX11_reign_98 (by decide) (fun v25 _ hv25 => ?_)
                    replace E := zLet_s (zcst hv25 (by decide)) E
                    refine zg_istore X [(5, .int v25), (4, .int v24), (0, .ref a0), (1, .int p1), (2, .int p2), (3, .int p3)] dX11_reign_100 (by decide) rfl ?_
                    refine zg_iconst X 1 dX11_reign_102 (by decide) (fun v26 _ hv26 => ?_)
                    replace E := zLet_s (zcst hv26 (by decide)) E
                    refine zg_istore X [(6, .int v26), (5, .int v25), (4, .int v24), (0, .ref a0), (1, .int p1), (2, .int p2), (3, .int p3)] dX11_reign_103 (by decide) rfl ?_
                    have Lp30 : ∀ (nLp30 : Nat) (τ30 : zS) (x27 : Int32) (x28 : Int32) (x29 : Int32), zJ κ L kd τ30 → zSame a0 [47, 50, 51, 56] [145, 146, 149, 152, 153, 154, 155, 161] L kd σ τ30 → gE a0 τ30 → gH a0 τ30 → gL a0 τ30 → gN a0 τ30 → R = F_X11_reign_105 a0 p1 p2 p3 (F_X11_reign_32 a0 p1 p2 p3  nLp15) (F_X11_reign_56 a0 p1 p2 p3 (F_X11_reign_32 a0 p1 p2 p3  nLp15) nLp20) nLp30 x27 x28 x29 τ30 → (-2) ≤ x28.toInt ∧ x28.toInt ≤ 11 ∧ 1 ≤ x27.toInt ∧ x27.toInt ≤ 12 → (12) - x27.toInt + 1 < (nLp30 : Int) → zG d L kd A 7 p l e (k2_rm 6 (100 * 6)) s m args below meth c Q τ30 105 [(6, .int x27), (5, .int x28), (4, .int x29), (0, .ref a0), (1, .int p1), (2, .int p2), (3, .int p3)] [] := by
                      intro nLp30
                      induction nLp30 with
                      | zero => intro τ30 x27 x28 x29 hI hS gE_Lp30 gH_Lp30 gL_Lp30 gN_Lp30 E  hxLp30 hm ; exact absurd hm (by omega)
                      | succ nLp30 ihLp30 =>
                        intro τ30 x27 x28 x29 hI hS gE_Lp30 gH_Lp30 gL_Lp30 gN_Lp30 E  hxLp30 hmLp30 
                        rw [F_X11_reign_105] at E
                        refine zg_iload X 0 rfl dX11_reign_105 ?_
                        refine zg_aload_n X 3 rfl dX11_reign_107 ?_
                        refine zg_cVi (As := []) (st := [.int x27]) X ha0 rfl (by decide) rfl (t_X11_many l d L kd κ _ hI a0 ha0   ) mk_X11_313 mc_X11_many mz_X11 mi_X11_many ml_X11_many (na := 0) ⟨md_X11.1, md_X11.2, by decide +kernel⟩ rfl ⟨by decide, by decide⟩ (Nat.le_of_ble_eq_true rfl) dX11_reign_108 (fun v32 t31 hq => ?_)
                        obtain ⟨⟨hF, ⟨ht31_res, ht31_fact0⟩⟩, rfl⟩ := hq
                        replace E := zLet_s hF E
                        refine zg_icmp_ge X 162 dX11_reign_111 (by decide) (fun c33 => ?_) (fun c33 => ?_)
                        · skip
                          replace E := zIf_f (Int.not_lt.mpr c33) E
                          refine zg_iload_n X 6 rfl dX11_reign_162 ?_
                          refine zg_if_ne X 171 dX11_reign_163 (by decide) (fun c34 => ?_) (fun c34 => ?_)
                          · skip
                            replace E := zIf_f c34 E
                            refine zg_iload X 1 rfl dX11_reign_171 ?_
                            exact ret _ _ _ _ dX11_reign_173 rfl ⟨E.symm.trans hR, ⟨⟨gN_Lp30, gH_Lp30, gE_Lp30, gL_Lp30⟩, hI, hS⟩⟩
                          · skip
                            replace E := zIf_t c34 E
                            refine zg_iload X 2 rfl dX11_reign_166 ?_
                            refine zg_goto X 173 dX11_reign_168 (by decide) ?_
                            exact ret _ _ _ _ dX11_reign_173 rfl ⟨E.symm.trans hR, ⟨⟨gN_Lp30, gH_Lp30, gE_Lp30, gL_Lp30⟩, hI, hS⟩⟩
                        · skip
                          replace E := zIf_t c33 E
                          refine zg_aload_n X 3 rfl dX11_reign_114 ?_
                          refine fg_X11_134 X hI ha0 dX11_reign_115 (fun v35 ev35 hv35 => ?_)
                          replace E := zLet_s (zgr ev35) E
                          refine zg_iload X 0 rfl dX11_reign_118 ?_
                          refine ag_161 X hI hv35 (by omega) (by omega) dX11_reign_120 (fun v36 ev36 _ => ?_)
                          replace E := zLet_s ev36 E
                          refine zg_if_ne X 127 dX11_reign_121 (by decide) (fun c37 => ?_) (fun c37 => ?_)
                          · skip
                            replace E := zIf_f c37 E
                            refine zg_iincW X (fun v38 => [(4, .int v38), (6, .int x27), (5, .int x28), (0, .ref a0), (1, .int p1), (2, .int p2), (3, .int p3)]) 2 dX11_reign_127 rfl (by decide) (fun _ => rfl) (fun v38 ev38 => ?_)
                            replace E := zLet_s (zinc ev38 (by decide)) E
                            refine zg_iload X 2 rfl dX11_reign_130 ?_
                            refine zg_if_lt X 152 dX11_reign_132 (by decide) (fun c39 => ?_) (fun c39 => ?_)
                            · skip
                              replace E := zIf_t c39 E
                              refine zg_iload X 1 rfl dX11_reign_152 ?_
                              refine zg_istore X [(5, .int x27), (4, .int v38), (6, .int x27), (0, .ref a0), (1, .int p1), (2, .int p2), (3, .int p3)] dX11_reign_154 (by decide) rfl ?_
                              refine zg_iinc X 1 (fun v40 => [(6, .int v40), (5, .int x27), (4, .int v38), (0, .ref a0), (1, .int p1), (2, .int p2), (3, .int p3)]) 2 dX11_reign_156 rfl (by decide) (by decide) (by omega) (by omega) (fun _ => rfl) (fun v40 ev40 hv40 => ?_)
                              replace E := zLet_s (zinc ev40 (by decide)) E
                              refine zg_goto X 105 dX11_reign_159 (by decide) ?_
                              refine zg_sub [0, 1, 2, 3, 4, 5, 6] rfl ?_
                              exact ihLp30 _ v40 x27 v38 hI hS gE_Lp30 gH_Lp30 gL_Lp30 gN_Lp30 E  (by omega) (by omega) 
                            · skip
                              replace E := zIf_f (Int.not_lt.mpr c39) E
                              refine zg_aload_n X 3 rfl dX11_reign_135 ?_
                              refine fg_X11_134 X hI ha0 dX11_reign_136 (fun v41 ev41 hv41 => ?_)
                              replace E := zLet_s (zgr ev41) E
                              refine zg_iload X 1 rfl dX11_reign_139 ?_
                              refine ag_161 X hI hv41 (by omega) (by omega) dX11_reign_141 (fun v42 ev42 _ => ?_)
                              replace E := zLet_s ev42 E
                              refine zg_aload_n X 3 rfl dX11_reign_142 ?_
                              refine fg_X11_134 X hI ha0 dX11_reign_143 (fun v43 ev43 hv43 => ?_)
                              replace E := zLet_s (zgr ev43) E
                              refine zg_iload X 2 rfl dX11_reign_146 ?_
                              refine ag_161 X hI hv43 (by omega) (by omega) dX11_reign_148 (fun v44 ev44 _ => ?_)
                              replace E := zLet_s ev44 E
                              have zv42_z45 := zb_rng v42
                              have zv44_z46 := zb_rng v44
                              refine zg_icmp_le X 156 dX11_reign_149 (by decide) (fun c47 => ?_) (fun c47 => ?_)
                              · skip
                                replace E := zIf_f (Int.not_lt.mpr c47) E
                                refine zg_iinc X 1 (fun v48 => [(6, .int v48), (4, .int v38), (5, .int x28), (0, .ref a0), (1, .int p1), (2, .int p2), (3, .int p3)]) 1 dX11_reign_156 rfl (by decide) (by decide) (by omega) (by omega) (fun _ => rfl) (fun v48 ev48 hv48 => ?_)
                                replace E := zLet_s (zinc ev48 (by decide)) E
                                refine zg_goto X 105 dX11_reign_159 (by decide) ?_
                                refine zg_sub [0, 2, 1, 3, 4, 5, 6] rfl ?_
                                exact ihLp30 _ v48 x28 v38 hI hS gE_Lp30 gH_Lp30 gL_Lp30 gN_Lp30 E  (by omega) (by omega) 
                              · skip
                                replace E := zIf_t c47 E
                                refine zg_iload X 1 rfl dX11_reign_152 ?_
                                refine zg_istore X [(5, .int x27), (4, .int v38), (6, .int x27), (0, .ref a0), (1, .int p1), (2, .int p2), (3, .int p3)] dX11_reign_154 (by decide) rfl ?_
                                refine zg_iinc X 1 (fun v49 => [(6, .int v49), (5, .int x27), (4, .int v38), (0, .ref a0), (1, .int p1), (2, .int p2), (3, .int p3)]) 2 dX11_reign_156 rfl (by decide) (by decide) (by omega) (by omega) (fun _ => rfl) (fun v49 ev49 hv49 => ?_)
                                replace E := zLet_s (zinc ev49 (by decide)) E
                                refine zg_goto X 105 dX11_reign_159 (by decide) ?_
                                refine zg_sub [0, 1, 2, 3, 4, 5, 6] rfl ?_
                                exact ihLp30 _ v49 x27 v38 hI hS gE_Lp30 gH_Lp30 gL_Lp30 gN_Lp30 E  (by omega) (by omega) 
                          · skip
                            replace E := zIf_t c37 E
                            refine zg_goto X 156 dX11_reign_124 (by decide) ?_
                            refine zg_iinc X 1 (fun v50 => [(6, .int v50), (5, .int x28), (4, .int x29), (0, .ref a0), (1, .int p1), (2, .int p2), (3, .int p3)]) 0 dX11_reign_156 rfl (by decide) (by decide) (by omega) (by omega) (fun _ => rfl) (fun v50 ev50 hv50 => ?_)
                            replace E := zLet_s (zinc ev50 (by decide)) E
                            refine zg_goto X 105 dX11_reign_159 (by decide) ?_
                            refine zg_sub [0, 1, 2, 3, 4, 5, 6] rfl ?_
                            exact ihLp30 _ v50 x28 x29 hI hS gE_Lp30 gH_Lp30 gL_Lp30 gN_Lp30 E  (by omega) (by omega) 
                    refine zg_sub [0, 1, 2, 3, 4, 5, 6] rfl ?_
                    exact Lp30 10000 _ v26 v25 v24 hI hS gE_Lp20 gH_Lp20 gL_Lp20 gN_Lp20 E  (by omega) (by omega) 
                  · skip
                    replace E := zIf_t c23 E
                    refine zg_aload_n X 1 rfl dX11_reign_62 ?_
                    refine zg_iload_n X 2 rfl dX11_reign_63 ?_
                    refine zg_cVi (As := [.int p1]) (st := []) X ha0 rfl (by decide) rfl (t_X11_winnerBy l d L kd κ _ hI a0 ha0 p1  (by omega) gL_Lp20) mk_X11_374 mc_X11_winnerBy mz_X11 mi_X11_winnerBy ml_X11_winnerBy (na := 1) ⟨md_X11.1, md_X11.2, by decide +kernel⟩ rfl ⟨by decide, by decide⟩ (Nat.le_of_ble_eq_true rfl) dX11_reign_64 (fun v52 t51 hq => ?_)
                    obtain ⟨hF, ⟨ht51_res, ht51_fact0, ht51_fact1⟩, hI, g53⟩ := hq
                    replace E := zLet2_s hF E
                    have hS := hS.tr g53 (by decide) (by decide)
                    have gEt51 := gE.same hI ha0 g53 (by decide) gE_Lp20
                    have gHt51 := gH.same hI ha0 g53 (by decide) gH_Lp20
                    have gLt51 := gL.same hI ha0 g53 (by decide) gL_Lp20
                    have gNt51 := gN.same hI ha0 g53 (by decide) gN_Lp20
                    have gRt51 := gR.same hI ha0 g53 (by decide) gR_Lp20
                    refine zg_istore X [(5, .int v52), (4, .int x19), (0, .ref a0), (1, .int p1), (2, .int p2), (3, .int p3)] dX11_reign_67 (by decide) rfl ?_
                    refine zg_iload X 0 rfl dX11_reign_69 ?_
                    refine zg_if_lt X 85 dX11_reign_71 (by decide) (fun c54 => ?_) (fun c54 => ?_)
                    · skip
                      replace E := zIf_t c54 E
                      refine zg_aload_n X 2 rfl dX11_reign_85 ?_
                      refine zg_cVv (As := []) (st := []) X ha0 rfl (by decide) rfl (t_X11_monthGoes l d L kd κ _ hI a0 ha0    gRt51 gLt51) mk_X11_380 mc_X11_monthGoes mz_X11 mi_X11_monthGoes ml_X11_monthGoes (na := 0) ⟨md_X11.1, md_X11.2, by decide +kernel⟩ rfl ⟨by decide, by decide⟩ (Nat.le_of_ble_eq_true rfl) dX11_reign_86 (fun t55 hq => ?_)
                      obtain ⟨hF, gRt55, hI, g56⟩ := hq
                      replace E := zLet_s hF E
                      have hS := hS.tr g56 (by decide) (by decide)
                      have gEt55 := gE.same hI ha0 g56 (by decide) gEt51
                      have gHt55 := gH.same hI ha0 g56 (by decide) gHt51
                      have gLt55 := gL.same hI ha0 g56 (by decide) gLt51
                      have gNt55 := gN.same hI ha0 g56 (by decide) gNt51
                      refine zg_iinc X 1 (fun v57 => [(4, .int v57), (5, .int v52), (0, .ref a0), (1, .int p1), (2, .int p2), (3, .int p3)]) 1 dX11_reign_89 rfl (by decide) (by decide) (by omega) (by omega) (fun _ => rfl) (fun v57 ev57 hv57 => ?_)
                      replace E := zLet_s (zinc ev57 (by decide)) E
                      refine zg_goto X 56 dX11_reign_92 (by decide) ?_
                      refine zg_sub [0, 2, 3, 4, 5] rfl ?_
                      exact ihLp20 _ v57 hI hS gEt55 gHt55 gLt55 gNt55 gRt55 E  (by omega) (by omega) 
                    · skip
                      replace E := zIf_f (Int.not_lt.mpr c54) E
                      refine zg_aload_n X 2 rfl dX11_reign_74 ?_
                      refine fg_X11_134 X hI ha0 dX11_reign_75 (fun v58 ev58 hv58 => ?_)
                      replace E := zLet_s (zgr ev58) E
                      refine zg_iload X 0 rfl dX11_reign_78 ?_
                      refine zg_dup2 X dX11_reign_80 rfl rfl ?_
                      refine ag_161 X hI hv58 (by omega) (by omega) dX11_reign_81 (fun v59 ev59 _ => ?_)
                      replace E := zLet_s ev59 E
                      refine zg_iconst X 1 dX11_reign_82 (by decide) (fun v60 _ hv60 => ?_)
                      replace E := zLet_s (zcst hv60 (by decide)) E
                      refine zg_iaddW X dX11_reign_83 (fun v61 ev61 => ?_)
                      replace E := zLet_s ev61 E
                      refine as_161 X hI hv58 (by omega) (by omega) dX11_reign_84 (fun s62 es62 hI => ?_)
                      replace E := zLet_s es62 E
                      have g63 := (zSame.rf (o := a0) (Wf := []) (Wa := [161]) (L := L) (kd := kd) (σ := t51)).a ha0 hv58 es62 rfl (by decide)
                      have hS := hS.tr g63 (by decide) (by decide)
                      have gEs62 := gE.same hI ha0 g63 (by decide) gEt51
                      have gHs62 := gH.same hI ha0 g63 (by decide) gHt51
                      have gLs62 := gL.same hI ha0 g63 (by decide) gLt51
                      have gNs62 := gN.same hI ha0 g63 (by decide) gNt51
                      have gRs62 := gR.same hI ha0 g63 (by decide) gRt51
                      refine zg_aload_n X 2 rfl dX11_reign_85 ?_
                      refine zg_cVv (As := []) (st := []) X ha0 rfl (by decide) rfl (t_X11_monthGoes l d L kd κ _ hI a0 ha0    gRs62 gLs62) mk_X11_380 mc_X11_monthGoes mz_X11 mi_X11_monthGoes ml_X11_monthGoes (na := 0) ⟨md_X11.1, md_X11.2, by decide +kernel⟩ rfl ⟨by decide, by decide⟩ (Nat.le_of_ble_eq_true rfl) dX11_reign_86 (fun t64 hq => ?_)
                      obtain ⟨hF, gRt64, hI, g65⟩ := hq
                      replace E := zLet_s hF E
                      have hS := hS.tr g65 (by decide) (by decide)
                      have gEt64 := gE.same hI ha0 g65 (by decide) gEs62
                      have gHt64 := gH.same hI ha0 g65 (by decide) gHs62
                      have gLt64 := gL.same hI ha0 g65 (by decide) gLs62
                      have gNt64 := gN.same hI ha0 g65 (by decide) gNs62
                      refine zg_iinc X 1 (fun v66 => [(4, .int v66), (5, .int v52), (0, .ref a0), (1, .int p1), (2, .int p2), (3, .int p3)]) 1 dX11_reign_89 rfl (by decide) (by decide) (by omega) (by omega) (fun _ => rfl) (fun v66 ev66 hv66 => ?_)
                      replace E := zLet_s (zinc ev66 (by decide)) E
                      refine zg_goto X 56 dX11_reign_92 (by decide) ?_
                      refine zg_sub [0, 2, 3, 4, 5] rfl ?_
                      exact ihLp20 _ v66 hI hS gEt64 gHt64 gLt64 gNt64 gRt64 E  (by omega) (by omega) 
              have zrLp20 := zb_rng v18
              refine zg_sub [0, 1, 2, 3, 4] rfl ?_
              exact Lp20 4294967299 _ v18 hI hS gE_Lp15 gH_Lp15 gL_Lp15 gN_Lp15 gR_Lp15 E  (by omega) (by omega) 
            · skip
              replace E := zIf_t c17 E
              refine zg_aload_n X 1 rfl dX11_reign_39 ?_
              refine fg_X11_134 X hI ha0 dX11_reign_40 (fun v67 ev67 hv67 => ?_)
              replace E := zLet_s (zgr ev67) E
              refine zg_iload X 0 rfl dX11_reign_43 ?_
              refine zg_iconst X 0 dX11_reign_45 (by decide) (fun v68 _ hv68 => ?_)
              replace E := zLet_s (zcst hv68 (by decide)) E
              refine as_161 X hI hv67 (by omega) (by omega) dX11_reign_46 (fun s69 es69 hI => ?_)
              replace E := zLet_s es69 E
              have g70 := (zSame.rf (o := a0) (Wf := []) (Wa := [161]) (L := L) (kd := kd) (σ := τ15)).a ha0 hv67 es69 rfl (by decide)
              have hS := hS.tr g70 (by decide) (by decide)
              have gEs69 := gE.same hI ha0 g70 (by decide) gE_Lp15
              have gHs69 := gH.same hI ha0 g70 (by decide) gH_Lp15
              have gLs69 := gL.same hI ha0 g70 (by decide) gL_Lp15
              have gNs69 := gN.same hI ha0 g70 (by decide) gN_Lp15
              have gRs69 := gR.same hI ha0 g70 (by decide) gR_Lp15
              refine zg_iinc X 1 (fun v71 => [(4, .int v71), (0, .ref a0), (1, .int p1), (2, .int p2), (3, .int p3)]) 0 dX11_reign_47 rfl (by decide) (by decide) (by omega) (by omega) (fun _ => rfl) (fun v71 ev71 hv71 => ?_)
              replace E := zLet_s (zinc ev71 (by decide)) E
              refine zg_goto X 32 dX11_reign_50 (by decide) ?_
              refine zg_sub [0, 1, 2, 3, 4] rfl ?_
              exact ihLp15 _ v71 hI hS gEs69 gHs69 gLs69 gNs69 gRs69 E  (by omega) (by omega) 
        refine zg_sub [0, 1, 2, 3, 4] rfl ?_
        exact Lp15 10000 _ v13 hI hS gEt11 gHt11 gLt11 gNt11 gRt11 E  (by omega) (by omega) 
      · skip
        replace E := zIf_t c10 E
        refine zg_iconst X (-1) dX11_reign_23 (by decide) (fun v72 _ hv72 => ?_)
        replace E := zLet_s (zcst hv72 (by decide)) E
        exact ret _ _ _ _ dX11_reign_24 rfl ⟨E.symm.trans hR, ⟨⟨hgN, hgH, hgE, hgL⟩, hI, hS⟩⟩
set_option maxHeartbeats 4000000 in
set_option maxRecDepth 100000 in
theorem t_X11_tourOf (l : Launch) (d : zD2) (L : List Nat) (kd : Nat → Nat) (κ : Int) (σ : zS) (hI : zJ κ L kd σ) (a0 : Nat) (ha0 : zT L kd a0 11) (p1 : Int32) : zMi l yX11_tourOf (Cond.code yX11_tourOf cX11_tourOf 5 (some .int) :: zWL) 1 [.ref a0, .int p1] d L kd σ (fun v σ2 => v = F_X11_tourOf a0 p1 σ ∧ σ = σ2) := by
  refine zMi.of (own := RX11) (by decide +kernel) rfl rfl (Nat.le_of_ble_eq_true rfl) ?_
  intro p e s m args below meth c A Q X ret
  refine zg_lv (lv2 := [(0, .ref a0), (1, .int p1)]) rfl ?_
  have zm := zM_in hI ha0
  obtain ⟨R, hR⟩ : ∃ R, R = F_X11_tourOf a0 p1 σ := ⟨_, rfl⟩
  have E := hR
  unfold F_X11_tourOf at E
  refine zg_iconst X 0 dX11_tourOf_0 (by decide) (fun v1 _ hv1 => ?_)
  replace E := zLet_s (zcst hv1 (by decide)) E
  refine zg_istore_n X [(2, .int v1), (0, .ref a0), (1, .int p1)] dX11_tourOf_1 (by decide) rfl ?_
  refine zg_iconst X 0 dX11_tourOf_2 (by decide) (fun v2 _ hv2 => ?_)
  replace E := zLet_s (zcst hv2 (by decide)) E
  refine zg_istore_n X [(3, .int v2), (2, .int v1), (0, .ref a0), (1, .int p1)] dX11_tourOf_3 (by decide) rfl ?_
  refine zg_iconst X 1 dX11_tourOf_4 (by decide) (fun v3 _ hv3 => ?_)
  replace E := zLet_s (zcst hv3 (by decide)) E
  refine zg_istore X [(4, .int v3), (3, .int v2), (2, .int v1), (0, .ref a0), (1, .int p1)] dX11_tourOf_5 (by decide) rfl ?_
  have Lp7 : ∀ (nLp7 : Nat) (x4 : Int32) (x5 : Int32) (x6 : Int32), R = F_X11_tourOf_7 a0 p1 σ  nLp7 x4 x5 x6 → 1 ≤ x4.toInt ∧ x4.toInt ≤ 12 → (12) - x4.toInt + 1 < (nLp7 : Int) → zG d L kd A 5 p l e (k2_rm 1 (100 * 1)) s m args below meth c Q σ 7 [(4, .int x4), (3, .int x5), (2, .int x6), (0, .ref a0), (1, .int p1)] [] := by
    intro nLp7
    induction nLp7 with
    | zero => intro x4 x5 x6  E  hxLp7 hm ; exact absurd hm (by omega)
    | succ nLp7 ihLp7 =>
      intro x4 x5 x6  E  hxLp7 hmLp7 
      rw [F_X11_tourOf_7] at E
      refine zg_iload X 0 rfl dX11_tourOf_7 ?_
      refine zg_aload_n X 3 rfl dX11_tourOf_9 ?_
      refine zg_cVi (As := []) (st := [.int x4]) X ha0 rfl (by decide) rfl (t_X11_many l d L kd κ _ hI a0 ha0   ) mk_X11_313 mc_X11_many mz_X11 mi_X11_many ml_X11_many (na := 0) ⟨md_X11.1, md_X11.2, by decide +kernel⟩ rfl ⟨by decide, by decide⟩ (Nat.le_of_ble_eq_true rfl) dX11_tourOf_10 (fun v9 t8 hq => ?_)
      obtain ⟨⟨hF, ⟨ht8_res, ht8_fact0⟩⟩, rfl⟩ := hq
      replace E := zLet_s hF E
      refine zg_icmp_ge X 81 dX11_tourOf_13 (by decide) (fun c10 => ?_) (fun c10 => ?_)
      · skip
        replace E := zIf_f (Int.not_lt.mpr c10) E
        refine zg_iconst X 2 dX11_tourOf_81 (by decide) (fun v11 _ hv11 => ?_)
        replace E := zLet_s (zcst hv11 (by decide)) E
        refine zg_iload_n X 2 rfl dX11_tourOf_82 ?_
        refine zg_imulW X dX11_tourOf_83 (fun v12 ev12 => ?_)
        replace E := zLet_s ev12 E
        refine zg_iload_n X 1 rfl dX11_tourOf_84 ?_
        refine zg_isubW X dX11_tourOf_85 (fun v13 ev13 => ?_)
        replace E := zLet_s ev13 E
        exact ret _ _ _ _ dX11_tourOf_86 rfl ⟨E.symm.trans hR, rfl⟩
      · skip
        replace E := zIf_t c10 E
        refine zg_aload_n X 3 rfl dX11_tourOf_16 ?_
        refine fg_X11_119 X hI ha0 dX11_tourOf_17 (fun v14 ev14 hv14 => ?_)
        replace E := zLet_s (zgr ev14) E
        refine zg_iload X 0 rfl dX11_tourOf_20 ?_
        refine ag_154 X hI hv14 (by omega) (by omega) dX11_tourOf_22 (fun v15 ev15 _ => ?_)
        replace E := zLet_s ev15 E
        refine zg_iload_n X 4 rfl dX11_tourOf_23 ?_
        refine zg_iandW X dX11_tourOf_24 (fun v16 ev16 => ?_)
        replace E := zLet_s ev16 E
        refine zg_if_eq X 46 dX11_tourOf_25 (by decide) (fun c17 => ?_) (fun c17 => ?_)
        · skip
          replace E := zIf_t c17 E
          refine zg_iload_n X 4 rfl dX11_tourOf_46 ?_
          refine zg_iload X 0 rfl dX11_tourOf_47 ?_
          refine zg_ishrW X dX11_tourOf_49 (fun v18 ev18 => ?_)
          replace E := zLet_s ev18 E
          refine zg_iconst X 1 dX11_tourOf_50 (by decide) (fun v19 _ hv19 => ?_)
          replace E := zLet_s (zcst hv19 (by decide)) E
          refine zg_iandW X dX11_tourOf_51 (fun v20 ev20 => ?_)
          replace E := zLet_s ev20 E
          refine zg_iconst X 1 dX11_tourOf_52 (by decide) (fun v21 _ hv21 => ?_)
          replace E := zLet_s (zcst hv21 (by decide)) E
          refine zg_icmp_ne X 75 dX11_tourOf_53 (by decide) (fun c22 => ?_) (fun c22 => ?_)
          · skip
            replace E := zIf_f c22 E
            refine zg_iinc X 1 (fun v23 => [(4, .int v23), (3, .int x5), (2, .int x6), (0, .ref a0), (1, .int p1)]) 0 dX11_tourOf_75 rfl (by decide) (by decide) (by omega) (by omega) (fun _ => rfl) (fun v23 ev23 hv23 => ?_)
            replace E := zLet_s (zinc ev23 (by decide)) E
            refine zg_goto X 7 dX11_tourOf_78 (by decide) ?_
            refine zg_sub [0, 1, 2, 3, 4] rfl ?_
            exact ihLp7 v23 x5 x6   E  (by omega) (by omega) 
          · skip
            replace E := zIf_t c22 E
            refine zg_aload_n X 3 rfl dX11_tourOf_56 ?_
            refine fg_X11_113 X hI ha0 dX11_tourOf_57 (fun v24 ev24 hv24 => ?_)
            replace E := zLet_s (zgr ev24) E
            refine zg_iload X 0 rfl dX11_tourOf_60 ?_
            refine ag_152 X hI hv24 (by omega) (by omega) dX11_tourOf_62 (fun v25 ev25 _ => ?_)
            replace E := zLet_s ev25 E
            refine zg_iload_n X 1 rfl dX11_tourOf_63 ?_
            have zv25_z26 := zb_rng v25
            have zx5_z27 := zb_rng x5
            refine zg_icmp_le X 75 dX11_tourOf_64 (by decide) (fun c28 => ?_) (fun c28 => ?_)
            · skip
              replace E := zIf_f (Int.not_lt.mpr c28) E
              refine zg_iinc X 1 (fun v29 => [(4, .int v29), (3, .int x5), (2, .int x6), (0, .ref a0), (1, .int p1)]) 0 dX11_tourOf_75 rfl (by decide) (by decide) (by omega) (by omega) (fun _ => rfl) (fun v29 ev29 hv29 => ?_)
              replace E := zLet_s (zinc ev29 (by decide)) E
              refine zg_goto X 7 dX11_tourOf_78 (by decide) ?_
              refine zg_sub [0, 1, 2, 3, 4] rfl ?_
              exact ihLp7 v29 x5 x6   E  (by omega) (by omega) 
            · skip
              replace E := zIf_t c28 E
              refine zg_aload_n X 3 rfl dX11_tourOf_67 ?_
              refine fg_X11_113 X hI ha0 dX11_tourOf_68 (fun v30 ev30 hv30 => ?_)
              replace E := zLet_s (zgr ev30) E
              refine zg_iload X 0 rfl dX11_tourOf_71 ?_
              refine ag_152 X hI hv30 (by omega) (by omega) dX11_tourOf_73 (fun v31 ev31 _ => ?_)
              replace E := zLet_s ev31 E
              refine zg_istore_n X [(3, .int v31), (4, .int x4), (2, .int x6), (0, .ref a0), (1, .int p1)] dX11_tourOf_74 (by decide) rfl ?_
              refine zg_iinc X 1 (fun v32 => [(4, .int v32), (3, .int v31), (2, .int x6), (0, .ref a0), (1, .int p1)]) 1 dX11_tourOf_75 rfl (by decide) (by decide) (by omega) (by omega) (fun _ => rfl) (fun v32 ev32 hv32 => ?_)
              replace E := zLet_s (zinc ev32 (by decide)) E
              refine zg_goto X 7 dX11_tourOf_78 (by decide) ?_
              refine zg_sub [0, 1, 2, 3, 4] rfl ?_
              exact ihLp7 v32 v31 x6   E  (by omega) (by omega) 
        · skip
          replace E := zIf_f c17 E
          refine zg_iload_n X 2 rfl dX11_tourOf_28 ?_
          refine zg_aload_n X 3 rfl dX11_tourOf_29 ?_
          refine fg_X11_49 X hI ha0 dX11_tourOf_30 (fun v33 ev33 hv33 => ?_)
          replace E := zLet_s (zgr ev33) E
          refine zg_bipush X 12 dX11_tourOf_33 (by decide) (fun v34 _ hv34 => ?_)
          replace E := zLet_s (zcst hv34 (by decide)) E
          refine zg_aload_n X 3 rfl dX11_tourOf_35 ?_
          refine fg_X11_236 X hI ha0 dX11_tourOf_36 (fun v35 ev35 hv35 => ?_)
          replace E := zLet_s ev35 E
          refine zg_imulc X 12 dX11_tourOf_39 (by omega) (by omega) (by omega) (fun v36 ev36 hv36 => ?_)
          replace E := zLet_s ev36 E
          refine zg_iload X 0 rfl dX11_tourOf_40 ?_
          refine zg_iadd X dX11_tourOf_42 (by omega) (by omega) (fun v37 ev37 hv37 => ?_)
          replace E := zLet_s ev37 E
          refine ag_123 X hI hv33 (by omega) (by omega) dX11_tourOf_43 (fun v38 ev38 _ => ?_)
          replace E := zLet_s ev38 E
          refine zg_iaddW X dX11_tourOf_44 (fun v39 ev39 => ?_)
          replace E := zLet_s ev39 E
          refine zg_istore_n X [(2, .int v39), (4, .int x4), (3, .int x5), (0, .ref a0), (1, .int p1)] dX11_tourOf_45 (by decide) rfl ?_
          refine zg_iload_n X 4 rfl dX11_tourOf_46 ?_
          refine zg_iload X 1 rfl dX11_tourOf_47 ?_
          refine zg_ishrW X dX11_tourOf_49 (fun v40 ev40 => ?_)
          replace E := zLet_s ev40 E
          refine zg_iconst X 1 dX11_tourOf_50 (by decide) (fun v41 _ hv41 => ?_)
          replace E := zLet_s (zcst hv41 (by decide)) E
          refine zg_iandW X dX11_tourOf_51 (fun v42 ev42 => ?_)
          replace E := zLet_s ev42 E
          refine zg_iconst X 1 dX11_tourOf_52 (by decide) (fun v43 _ hv43 => ?_)
          replace E := zLet_s (zcst hv43 (by decide)) E
          refine zg_icmp_ne X 75 dX11_tourOf_53 (by decide) (fun c44 => ?_) (fun c44 => ?_)
          · skip
            replace E := zIf_f c44 E
            refine zg_iinc X 1 (fun v45 => [(4, .int v45), (2, .int v39), (3, .int x5), (0, .ref a0), (1, .int p1)]) 1 dX11_tourOf_75 rfl (by decide) (by decide) (by omega) (by omega) (fun _ => rfl) (fun v45 ev45 hv45 => ?_)
            replace E := zLet_s (zinc ev45 (by decide)) E
            refine zg_goto X 7 dX11_tourOf_78 (by decide) ?_
            refine zg_sub [0, 2, 1, 3, 4] rfl ?_
            exact ihLp7 v45 x5 v39   E  (by omega) (by omega) 
          · skip
            replace E := zIf_t c44 E
            refine zg_aload_n X 3 rfl dX11_tourOf_56 ?_
            refine fg_X11_113 X hI ha0 dX11_tourOf_57 (fun v46 ev46 hv46 => ?_)
            replace E := zLet_s (zgr ev46) E
            refine zg_iload X 1 rfl dX11_tourOf_60 ?_
            refine ag_152 X hI hv46 (by omega) (by omega) dX11_tourOf_62 (fun v47 ev47 _ => ?_)
            replace E := zLet_s ev47 E
            refine zg_iload_n X 2 rfl dX11_tourOf_63 ?_
            have zv47_z48 := zb_rng v47
            have zx5_z49 := zb_rng x5
            refine zg_icmp_le X 75 dX11_tourOf_64 (by decide) (fun c50 => ?_) (fun c50 => ?_)
            · skip
              replace E := zIf_f (Int.not_lt.mpr c50) E
              refine zg_iinc X 1 (fun v51 => [(4, .int v51), (2, .int v39), (3, .int x5), (0, .ref a0), (1, .int p1)]) 1 dX11_tourOf_75 rfl (by decide) (by decide) (by omega) (by omega) (fun _ => rfl) (fun v51 ev51 hv51 => ?_)
              replace E := zLet_s (zinc ev51 (by decide)) E
              refine zg_goto X 7 dX11_tourOf_78 (by decide) ?_
              refine zg_sub [0, 2, 1, 3, 4] rfl ?_
              exact ihLp7 v51 x5 v39   E  (by omega) (by omega) 
            · skip
              replace E := zIf_t c50 E
              refine zg_aload_n X 3 rfl dX11_tourOf_67 ?_
              refine fg_X11_113 X hI ha0 dX11_tourOf_68 (fun v52 ev52 hv52 => ?_)
              replace E := zLet_s (zgr ev52) E
              refine zg_iload X 1 rfl dX11_tourOf_71 ?_
              refine ag_152 X hI hv52 (by omega) (by omega) dX11_tourOf_73 (fun v53 ev53 _ => ?_)
              replace E := zLet_s ev53 E
              refine zg_istore_n X [(3, .int v53), (2, .int v39), (4, .int x4), (0, .ref a0), (1, .int p1)] dX11_tourOf_74 (by decide) rfl ?_
              refine zg_iinc X 1 (fun v54 => [(4, .int v54), (3, .int v53), (2, .int v39), (0, .ref a0), (1, .int p1)]) 2 dX11_tourOf_75 rfl (by decide) (by decide) (by omega) (by omega) (fun _ => rfl) (fun v54 ev54 hv54 => ?_)
              replace E := zLet_s (zinc ev54 (by decide)) E
              refine zg_goto X 7 dX11_tourOf_78 (by decide) ?_
              refine zg_sub [0, 1, 2, 3, 4] rfl ?_
              exact ihLp7 v54 v53 v39   E  (by omega) (by omega) 
  refine zg_sub [0, 1, 2, 3, 4] rfl ?_
  exact Lp7 10000 v3 v2 v1   E  (by omega) (by omega) 
set_option maxHeartbeats 4000000 in
set_option maxRecDepth 100000 in
theorem t_X11_tour (l : Launch) (d : zD2) (L : List Nat) (kd : Nat → Nat) (κ : Int) (σ : zS) (hI : zJ κ L kd σ) (a0 : Nat) (ha0 : zT L kd a0 11) (hgN : gN a0 σ) (hgH : gH a0 σ) (hgE : gE a0 σ) (hgL : gL a0 σ) : zMi l yX11_tour (Cond.code yX11_tour cX11_tour 1 (some .int) :: zWL) 5 [.ref a0] d L kd σ (fun v σ2 => (v, σ2) = F_X11_tour a0 σ ∧ (((gN a0 σ2) ∧ (gH a0 σ2) ∧ (gE a0 σ2) ∧ (gL a0 σ2)) ∧ zJ κ L kd σ2 ∧ zSame a0 [47, 50, 51] [145, 146, 149, 152, 153, 154, 155] L kd σ σ2)) := by
  refine zMi.of (own := RX11) (by decide +kernel) rfl rfl (Nat.le_of_ble_eq_true rfl) ?_
  intro p e s m args below meth c A Q X ret
  have hS : zSame a0 [47, 50, 51] [145, 146, 149, 152, 153, 154, 155] L kd σ σ := zSame.rf
  refine zg_lv (lv2 := [(0, .ref a0)]) rfl ?_
  obtain ⟨R, hR⟩ : ∃ R, R = F_X11_tour a0 σ := ⟨_, rfl⟩
  have E := hR
  unfold F_X11_tour at E
  refine zg_aload_n X 0 rfl dX11_tour_0 ?_
  refine zg_cVv (As := []) (st := []) X ha0 rfl (by decide) rfl (t_X11_copies l d L kd κ _ hI a0 ha0    hgN hgL) mk_X11_332 mc_X11_copies mz_X11 mi_X11_copies ml_X11_copies (na := 0) ⟨md_X11.1, md_X11.2, by decide +kernel⟩ rfl ⟨by decide, by decide⟩ (Nat.le_of_ble_eq_true rfl) dX11_tour_1 (fun t1 hq => ?_)
  obtain ⟨hF, ⟨ht1_fact0, gRt1, gBt1⟩, hI, g2⟩ := hq
  replace E := zLet_s hF E
  have hS := hS.tr g2 (by decide) (by decide)
  have gNt1 := gN.same hI ha0 g2 (by decide) hgN
  have gHt1 := gH.same hI ha0 g2 (by decide) hgH
  have gEt1 := gE.same hI ha0 g2 (by decide) hgE
  have gLt1 := gL.same hI ha0 g2 (by decide) hgL
  refine zg_aload_n X 0 rfl dX11_tour_4 ?_
  refine zg_aload_n X 0 rfl dX11_tour_5 ?_
  refine zg_cVi (As := []) (st := [.ref a0]) X ha0 rfl (by decide) rfl (t_X11_sourceBits l d L kd κ _ hI a0 ha0   ) mk_X11_417 mc_X11_sourceBits mz_X11 mi_X11_sourceBits ml_X11_sourceBits (na := 0) ⟨md_X11.1, md_X11.2, by decide +kernel⟩ rfl ⟨by decide, by decide⟩ (Nat.le_of_ble_eq_true rfl) dX11_tour_6 (fun v4 t3 hq => ?_)
  obtain ⟨⟨hF, ht3_res⟩, rfl⟩ := hq
  replace E := zLet_s hF E
  refine zg_cVi (As := [.int v4]) (st := []) X ha0 rfl (by decide) rfl (t_X11_tourOf l d L kd κ _ hI a0 ha0 v4  ) mk_X11_442 mc_X11_tourOf mz_X11 mi_X11_tourOf ml_X11_tourOf (na := 1) ⟨md_X11.1, md_X11.2, by decide +kernel⟩ rfl ⟨by decide, by decide⟩ (Nat.le_of_ble_eq_true rfl) dX11_tour_9 (fun v6 t5 hq => ?_)
  obtain ⟨hF, rfl⟩ := hq
  replace E := zLet_s hF E
  exact ret _ _ _ _ dX11_tour_12 rfl ⟨E.symm.trans hR, ⟨⟨gNt1, gHt1, gEt1, gLt1⟩, hI, hS⟩⟩
set_option maxHeartbeats 4000000 in
set_option maxRecDepth 100000 in
theorem t_X11_parted (l : Launch) (d : zD2) (L : List Nat) (kd : Nat → Nat) (κ : Int) (σ : zS) (hI : zJ κ L kd σ) (a0 : Nat) (ha0 : zT L kd a0 11) (hgN : gN a0 σ) (hgH : gH a0 σ) (hgE : gE a0 σ) (hgL : gL a0 σ) : zMi l yX11_parted (Cond.code yX11_parted cX11_parted 6 (some .int) :: zWL) 5 [.ref a0] d L kd σ (fun v σ2 => (v, σ2) = F_X11_parted a0 σ ∧ (((gN a0 σ2) ∧ (gH a0 σ2) ∧ (gE a0 σ2) ∧ (gL a0 σ2)) ∧ zJ κ L kd σ2 ∧ zSame a0 [47, 50, 51] [145, 146, 149, 152, 153, 154, 155] L kd σ σ2)) := by
  refine zMi.of (own := RX11) (by decide +kernel) rfl rfl (Nat.le_of_ble_eq_true rfl) ?_
  intro p e s m args below meth c A Q X ret
  have hS : zSame a0 [47, 50, 51] [145, 146, 149, 152, 153, 154, 155] L kd σ σ := zSame.rf
  refine zg_lv (lv2 := [(0, .ref a0)]) rfl ?_
  obtain ⟨R, hR⟩ : ∃ R, R = F_X11_parted a0 σ := ⟨_, rfl⟩
  have E := hR
  unfold F_X11_parted at E
  refine zg_aload_n X 0 rfl dX11_parted_0 ?_
  refine zg_cVv (As := []) (st := []) X ha0 rfl (by decide) rfl (t_X11_copies l d L kd κ _ hI a0 ha0    hgN hgL) mk_X11_332 mc_X11_copies mz_X11 mi_X11_copies ml_X11_copies (na := 0) ⟨md_X11.1, md_X11.2, by decide +kernel⟩ rfl ⟨by decide, by decide⟩ (Nat.le_of_ble_eq_true rfl) dX11_parted_1 (fun t1 hq => ?_)
  obtain ⟨hF, ⟨ht1_fact0, gRt1, gBt1⟩, hI, g2⟩ := hq
  replace E := zLet_s hF E
  have hS := hS.tr g2 (by decide) (by decide)
  have gNt1 := gN.same hI ha0 g2 (by decide) hgN
  have gHt1 := gH.same hI ha0 g2 (by decide) hgH
  have gEt1 := gE.same hI ha0 g2 (by decide) hgE
  have gLt1 := gL.same hI ha0 g2 (by decide) hgL
  refine zg_aload_n X 0 rfl dX11_parted_4 ?_
  refine zg_cVi (As := []) (st := []) X ha0 rfl (by decide) rfl (t_X11_sourceBits l d L kd κ _ hI a0 ha0   ) mk_X11_417 mc_X11_sourceBits mz_X11 mi_X11_sourceBits ml_X11_sourceBits (na := 0) ⟨md_X11.1, md_X11.2, by decide +kernel⟩ rfl ⟨by decide, by decide⟩ (Nat.le_of_ble_eq_true rfl) dX11_parted_5 (fun v4 t3 hq => ?_)
  obtain ⟨⟨hF, ht3_res⟩, rfl⟩ := hq
  replace E := zLet_s hF E
  refine zg_istore_n X [(1, .int v4), (0, .ref a0)] dX11_parted_8 (by decide) rfl ?_
  refine zg_aload_n X 1 rfl dX11_parted_9 ?_
  refine zg_iload_n X 0 rfl dX11_parted_10 ?_
  refine zg_cVi (As := [.int v4]) (st := []) X ha0 rfl (by decide) rfl (t_X11_tourOf l d L kd κ _ hI a0 ha0 v4  ) mk_X11_442 mc_X11_tourOf mz_X11 mi_X11_tourOf ml_X11_tourOf (na := 1) ⟨md_X11.1, md_X11.2, by decide +kernel⟩ rfl ⟨by decide, by decide⟩ (Nat.le_of_ble_eq_true rfl) dX11_parted_11 (fun v6 t5 hq => ?_)
  obtain ⟨hF, rfl⟩ := hq
  replace E := zLet_s hF E
  refine zg_istore_n X [(2, .int v6), (1, .int v4), (0, .ref a0)] dX11_parted_14 (by decide) rfl ?_
  refine zg_iconst X 0 dX11_parted_15 (by decide) (fun v7 _ hv7 => ?_)
  replace E := zLet_s (zcst hv7 (by decide)) E
  refine zg_istore_n X [(3, .int v7), (2, .int v6), (1, .int v4), (0, .ref a0)] dX11_parted_16 (by decide) rfl ?_
  have Lp10 : ∀ (nLp10 : Nat) (τ10 : zS) (x8 : Int32) (x9 : Int32), zJ κ L kd τ10 → zSame a0 [47, 50, 51] [145, 146, 149, 152, 153, 154, 155] L kd σ τ10 → gE a0 τ10 → gH a0 τ10 → gL a0 τ10 → gN a0 τ10 → R = F_X11_parted_17 v4 a0  nLp10 x8 x9 τ10 → 0 ≤ x8.toInt ∧ x8.toInt ≤ 4097 → (4097) - x8.toInt + 1 < (nLp10 : Int) → zG d L kd A 6 p l e (k2_rm 5 (100 * 5)) s m args below meth c Q τ10 17 [(3, .int x8), (2, .int x9), (1, .int v4), (0, .ref a0)] [] := by
    intro nLp10
    induction nLp10 with
    | zero => intro τ10 x8 x9 hI hS gE_Lp10 gH_Lp10 gL_Lp10 gN_Lp10 E  hxLp10 hm ; exact absurd hm (by omega)
    | succ nLp10 ihLp10 =>
      intro τ10 x8 x9 hI hS gE_Lp10 gH_Lp10 gL_Lp10 gN_Lp10 E  hxLp10 hmLp10 
      rw [F_X11_parted_17] at E
      refine zg_iload_n X 0 rfl dX11_parted_17 ?_
      refine zg_iload_n X 2 rfl dX11_parted_18 ?_
      refine zg_icmp_gt X 77 dX11_parted_19 (by decide) (fun c11 => ?_) (fun c11 => ?_)
      · skip
        replace E := zIf_t c11 E
        refine zg_iload_n X 1 rfl dX11_parted_77 ?_
        exact ret _ _ _ _ dX11_parted_78 rfl ⟨E.symm.trans hR, ⟨⟨gN_Lp10, gH_Lp10, gE_Lp10, gL_Lp10⟩, hI, hS⟩⟩
      · skip
        replace E := zIf_f (Int.not_lt.mpr c11) E
        refine zg_iload_n X 0 rfl dX11_parted_22 ?_
        refine zg_iload_n X 2 rfl dX11_parted_23 ?_
        refine zg_iconst X (-1) dX11_parted_24 (by decide) (fun v12 _ hv12 => ?_)
        replace E := zLet_s (zcst hv12 (by decide)) E
        refine zg_ixorW X dX11_parted_25 (fun v13 ev13 => ?_)
        replace E := zLet_s ev13 E
        refine zg_iandW X dX11_parted_26 (fun v14 ev14 => ?_)
        replace E := zLet_s ev14 E
        refine zg_if_eq X 33 dX11_parted_27 (by decide) (fun c15 => ?_) (fun c15 => ?_)
        · skip
          replace E := zIf_t c15 E
          refine zg_aload_n X 3 rfl dX11_parted_33 ?_
          refine zg_iload_n X 0 rfl dX11_parted_34 ?_
          refine zg_cVi (As := [.int x8]) (st := []) X ha0 rfl (by decide) rfl (t_X11_tourOf l d L kd κ _ hI a0 ha0 x8  ) mk_X11_442 mc_X11_tourOf mz_X11 mi_X11_tourOf ml_X11_tourOf (na := 1) ⟨md_X11.1, md_X11.2, by decide +kernel⟩ rfl ⟨by decide, by decide⟩ (Nat.le_of_ble_eq_true rfl) dX11_parted_35 (fun v17 t16 hq => ?_)
          obtain ⟨hF, rfl⟩ := hq
          replace E := zLet_s hF E
          refine zg_istore X [(4, .int v17), (3, .int x8), (2, .int x9), (1, .int v4), (0, .ref a0)] dX11_parted_38 (by decide) rfl ?_
          refine zg_aload_n X 4 rfl dX11_parted_40 ?_
          refine zg_iload_n X 3 rfl dX11_parted_41 ?_
          refine zg_iload_n X 1 rfl dX11_parted_42 ?_
          refine zg_iconst X (-1) dX11_parted_43 (by decide) (fun v18 _ hv18 => ?_)
          replace E := zLet_s (zcst hv18 (by decide)) E
          refine zg_ixorW X dX11_parted_44 (fun v19 ev19 => ?_)
          replace E := zLet_s ev19 E
          refine zg_iandW X dX11_parted_45 (fun v20 ev20 => ?_)
          replace E := zLet_s ev20 E
          refine zg_cVi (As := [.int v20]) (st := []) X ha0 rfl (by decide) rfl (t_X11_tourOf l d L kd κ _ hI a0 ha0 v20  ) mk_X11_442 mc_X11_tourOf mz_X11 mi_X11_tourOf ml_X11_tourOf (na := 1) ⟨md_X11.1, md_X11.2, by decide +kernel⟩ rfl ⟨by decide, by decide⟩ (Nat.le_of_ble_eq_true rfl) dX11_parted_46 (fun v22 t21 hq => ?_)
          obtain ⟨hF, rfl⟩ := hq
          replace E := zLet_s hF E
          refine zg_istore X [(5, .int v22), (4, .int v17), (3, .int x8), (2, .int x9), (1, .int v4), (0, .ref a0)] dX11_parted_49 (by decide) rfl ?_
          refine zg_iload X 0 rfl dX11_parted_51 ?_
          refine zg_iload X 1 rfl dX11_parted_53 ?_
          have zv22_z23 := zb_rng v22
          have zv17_z24 := zb_rng v17
          refine zg_icmp_le X 62 dX11_parted_55 (by decide) (fun c25 => ?_) (fun c25 => ?_)
          · skip
            replace E := zIf_f (Int.not_lt.mpr c25) E
            refine zg_iload X 1 rfl dX11_parted_62 ?_
            refine zg_iload_n X 3 rfl dX11_parted_64 ?_
            have zv17_z26 := zb_rng v17
            have zx9_z27 := zb_rng x9
            refine zg_icmp_ge X 71 dX11_parted_65 (by decide) (fun c28 => ?_) (fun c28 => ?_)
            · skip
              replace E := zIf_f (Int.not_lt.mpr c28) E
              refine zg_iinc X 2 (fun v29 => [(3, .int v29), (5, .int v22), (4, .int v17), (2, .int x9), (1, .int v4), (0, .ref a0)]) 2 dX11_parted_71 rfl (by decide) (by decide) (by omega) (by omega) (fun _ => rfl) (fun v29 ev29 hv29 => ?_)
              replace E := zLet_s (zinc ev29 (by decide)) E
              refine zg_goto X 17 dX11_parted_74 (by decide) ?_
              refine zg_sub [0, 3, 4, 5] rfl ?_
              exact ihLp10 _ v29 x9 hI hS gE_Lp10 gH_Lp10 gL_Lp10 gN_Lp10 E  (by omega) (by omega) 
            · skip
              replace E := zIf_t c28 E
              refine zg_iload X 1 rfl dX11_parted_68 ?_
              refine zg_istore_n X [(2, .int v17), (5, .int v22), (4, .int v17), (3, .int x8), (1, .int v4), (0, .ref a0)] dX11_parted_70 (by decide) rfl ?_
              refine zg_iinc X 2 (fun v30 => [(3, .int v30), (2, .int v17), (5, .int v22), (4, .int v17), (1, .int v4), (0, .ref a0)]) 3 dX11_parted_71 rfl (by decide) (by decide) (by omega) (by omega) (fun _ => rfl) (fun v30 ev30 hv30 => ?_)
              replace E := zLet_s (zinc ev30 (by decide)) E
              refine zg_goto X 17 dX11_parted_74 (by decide) ?_
              refine zg_sub [0, 1, 4, 5] rfl ?_
              exact ihLp10 _ v30 v17 hI hS gE_Lp10 gH_Lp10 gL_Lp10 gN_Lp10 E  (by omega) (by omega) 
          · skip
            replace E := zIf_t c25 E
            refine zg_iload X 0 rfl dX11_parted_58 ?_
            refine zg_istore X [(4, .int v22), (5, .int v22), (3, .int x8), (2, .int x9), (1, .int v4), (0, .ref a0)] dX11_parted_60 (by decide) rfl ?_
            refine zg_iload X 0 rfl dX11_parted_62 ?_
            refine zg_iload_n X 3 rfl dX11_parted_64 ?_
            have zv22_z31 := zb_rng v22
            have zx9_z32 := zb_rng x9
            refine zg_icmp_ge X 71 dX11_parted_65 (by decide) (fun c33 => ?_) (fun c33 => ?_)
            · skip
              replace E := zIf_f (Int.not_lt.mpr c33) E
              refine zg_iinc X 2 (fun v34 => [(3, .int v34), (4, .int v22), (5, .int v22), (2, .int x9), (1, .int v4), (0, .ref a0)]) 2 dX11_parted_71 rfl (by decide) (by decide) (by omega) (by omega) (fun _ => rfl) (fun v34 ev34 hv34 => ?_)
              replace E := zLet_s (zinc ev34 (by decide)) E
              refine zg_goto X 17 dX11_parted_74 (by decide) ?_
              refine zg_sub [0, 3, 4, 5] rfl ?_
              exact ihLp10 _ v34 x9 hI hS gE_Lp10 gH_Lp10 gL_Lp10 gN_Lp10 E  (by omega) (by omega) 
            · skip
              replace E := zIf_t c33 E
              refine zg_iload X 0 rfl dX11_parted_68 ?_
              refine zg_istore_n X [(2, .int v22), (4, .int v22), (5, .int v22), (3, .int x8), (1, .int v4), (0, .ref a0)] dX11_parted_70 (by decide) rfl ?_
              refine zg_iinc X 2 (fun v35 => [(3, .int v35), (2, .int v22), (4, .int v22), (5, .int v22), (1, .int v4), (0, .ref a0)]) 3 dX11_parted_71 rfl (by decide) (by decide) (by omega) (by omega) (fun _ => rfl) (fun v35 ev35 hv35 => ?_)
              replace E := zLet_s (zinc ev35 (by decide)) E
              refine zg_goto X 17 dX11_parted_74 (by decide) ?_
              refine zg_sub [0, 1, 4, 5] rfl ?_
              exact ihLp10 _ v35 v22 hI hS gE_Lp10 gH_Lp10 gL_Lp10 gN_Lp10 E  (by omega) (by omega) 
        · skip
          replace E := zIf_f c15 E
          refine zg_goto X 71 dX11_parted_30 (by decide) ?_
          refine zg_iinc X 2 (fun v36 => [(3, .int v36), (2, .int x9), (1, .int v4), (0, .ref a0)]) 0 dX11_parted_71 rfl (by decide) (by decide) (by omega) (by omega) (fun _ => rfl) (fun v36 ev36 hv36 => ?_)
          replace E := zLet_s (zinc ev36 (by decide)) E
          refine zg_goto X 17 dX11_parted_74 (by decide) ?_
          refine zg_sub [0, 1, 2, 3] rfl ?_
          exact ihLp10 _ v36 x9 hI hS gE_Lp10 gH_Lp10 gL_Lp10 gN_Lp10 E  (by omega) (by omega) 
  refine zg_sub [0, 1, 2, 3] rfl ?_
  exact Lp10 10000 _ v7 v6 hI hS gEt1 gHt1 gLt1 gNt1 E  (by omega) (by omega) 
set_option maxHeartbeats 4000000 in
set_option maxRecDepth 100000 in
theorem t_X11_meet (l : Launch) (d : zD2) (L : List Nat) (kd : Nat → Nat) (κ : Int) (σ : zS) (hI : zJ κ L kd σ) (a0 : Nat) (ha0 : zT L kd a0 11) (p1 : Int32) (p2 : Int32) (p3 : Int32) (hgN : gN a0 σ) (hgH : gH a0 σ) (hgE : gE a0 σ) (hgL : gL a0 σ) : zMi l yX11_meet (Cond.code yX11_meet cX11_meet 5 (some .int) :: zWL) 5 [.ref a0, .int p1, .int p2, .int p3] d L kd σ (fun v σ2 => (v, σ2) = F_X11_meet a0 p1 p2 p3 σ ∧ (((gN a0 σ2) ∧ (gH a0 σ2) ∧ (gE a0 σ2) ∧ (gL a0 σ2)) ∧ zJ κ L kd σ2 ∧ zSame a0 [47, 50, 51] [145, 146, 149, 152, 153, 154, 155] L kd σ σ2)) := by
  refine zMi.of (own := RX11) (by decide +kernel) rfl rfl (Nat.le_of_ble_eq_true rfl) ?_
  intro p e s m args below meth c A Q X ret
  have hS : zSame a0 [47, 50, 51] [145, 146, 149, 152, 153, 154, 155] L kd σ σ := zSame.rf
  refine zg_lv (lv2 := [(0, .ref a0), (1, .int p1), (2, .int p2), (3, .int p3)]) rfl ?_
  have zm := zM_in hI ha0
  obtain ⟨R, hR⟩ : ∃ R, R = F_X11_meet a0 p1 p2 p3 σ := ⟨_, rfl⟩
  have E := hR
  unfold F_X11_meet at E
  refine zg_aload_n X 0 rfl dX11_meet_0 ?_
  refine zg_iload_n X 1 rfl dX11_meet_1 ?_
  refine zg_cVi (As := [.int p1]) (st := []) X ha0 rfl (by decide) rfl (t_X11_isPlace l d L kd κ _ hI a0 ha0 p1  ) mk_X11_383 mc_X11_isPlace mz_X11 mi_X11_isPlace ml_X11_isPlace (na := 1) ⟨md_X11.1, md_X11.2, by decide +kernel⟩ rfl ⟨by decide, by decide⟩ (Nat.le_of_ble_eq_true rfl) dX11_meet_2 (fun v2 t1 hq => ?_)
  obtain ⟨⟨hF, ⟨ht1_res, ht1_fact0⟩⟩, rfl⟩ := hq
  replace E := zLet_s hF E
  refine zg_if_eq X 25 dX11_meet_5 (by decide) (fun c3 => ?_) (fun c3 => ?_)
  · skip
    replace E := zIf_t c3 E
    refine zg_iconst X (-1) dX11_meet_25 (by decide) (fun v4 _ hv4 => ?_)
    replace E := zLet_s (zcst hv4 (by decide)) E
    exact ret _ _ _ _ dX11_meet_26 rfl ⟨E.symm.trans hR, ⟨⟨hgN, hgH, hgE, hgL⟩, hI, hS⟩⟩
  · skip
    replace E := zIf_f c3 E
    refine zg_aload_n X 0 rfl dX11_meet_8 ?_
    refine zg_iload_n X 2 rfl dX11_meet_9 ?_
    refine zg_cVi (As := [.int p2]) (st := []) X ha0 rfl (by decide) rfl (t_X11_isPlace l d L kd κ _ hI a0 ha0 p2  ) mk_X11_383 mc_X11_isPlace mz_X11 mi_X11_isPlace ml_X11_isPlace (na := 1) ⟨md_X11.1, md_X11.2, by decide +kernel⟩ rfl ⟨by decide, by decide⟩ (Nat.le_of_ble_eq_true rfl) dX11_meet_10 (fun v6 t5 hq => ?_)
    obtain ⟨⟨hF, ⟨ht5_res, ht5_fact0⟩⟩, rfl⟩ := hq
    replace E := zLet_s hF E
    refine zg_if_eq X 25 dX11_meet_13 (by decide) (fun c7 => ?_) (fun c7 => ?_)
    · skip
      replace E := zIf_t c7 E
      refine zg_iconst X (-1) dX11_meet_25 (by decide) (fun v8 _ hv8 => ?_)
      replace E := zLet_s (zcst hv8 (by decide)) E
      exact ret _ _ _ _ dX11_meet_26 rfl ⟨E.symm.trans hR, ⟨⟨hgN, hgH, hgE, hgL⟩, hI, hS⟩⟩
    · skip
      replace E := zIf_f c7 E
      refine zg_iload_n X 3 rfl dX11_meet_16 ?_
      refine zg_iconst X 0 dX11_meet_17 (by decide) (fun v9 _ hv9 => ?_)
      replace E := zLet_s (zcst hv9 (by decide)) E
      refine zg_iconst X 1 dX11_meet_18 (by decide) (fun v10 _ hv10 => ?_)
      replace E := zLet_s (zcst hv10 (by decide)) E
      refine zg_cSi (As := [.int p3, .int v9, .int v10]) (st := []) X (t_X11_in l d L kd _ p3 v9 v10 ) mk_X11_316 mc_X11_in mz_X11 ms_X11_in (na := 3) ⟨md_X11.1, md_X11.2, by decide +kernel⟩ rfl ⟨by decide, by decide⟩ (Nat.le_of_ble_eq_true rfl) dX11_meet_19 (fun v11 σ2 hq => ?_)
      obtain ⟨⟨hF, hv11⟩, rfl⟩ := hq
      replace E := zLet_s hF E
      refine zg_if_ne X 27 dX11_meet_22 (by decide) (fun c12 => ?_) (fun c12 => ?_)
      · skip
        replace E := zIf_f c12 E
        refine zg_aload_n X 0 rfl dX11_meet_27 ?_
        refine zg_cVv (As := []) (st := []) X ha0 rfl (by decide) rfl (t_X11_copies l d L kd κ _ hI a0 ha0    hgN hgL) mk_X11_332 mc_X11_copies mz_X11 mi_X11_copies ml_X11_copies (na := 0) ⟨md_X11.1, md_X11.2, by decide +kernel⟩ rfl ⟨by decide, by decide⟩ (Nat.le_of_ble_eq_true rfl) dX11_meet_28 (fun t13 hq => ?_)
        obtain ⟨hF, ⟨ht13_fact0, gRt13, gBt13⟩, hI, g14⟩ := hq
        replace E := zLet_s hF E
        have hS := hS.tr g14 (by decide) (by decide)
        have Mt13 := zM_same hI ha0 g14 (by decide)
        have gNt13 := gN.same hI ha0 g14 (by decide) hgN
        have gHt13 := gH.same hI ha0 g14 (by decide) hgH
        have gEt13 := gE.same hI ha0 g14 (by decide) hgE
        have gLt13 := gL.same hI ha0 g14 (by decide) hgL
        obtain ⟨r, hr, hrb⟩ := gRow.rankB (zM_in hI ha0).2 (show gRow _ _ from gRt13)
        have hmo := gBas.mouth (show gRow _ _ from gRt13) (show gBas _ _ _ from gBt13) (o := p2.toInt) (by omega) (by omega)
        have zm1 := Mt13
        refine zg_iload_n X 1 rfl dX11_meet_31 ?_
        refine zg_istore X [(4, .int p1), (0, .ref a0), (1, .int p1), (2, .int p2), (3, .int p3)] dX11_meet_32 (by decide) rfl ?_
        have Lp16 : ∀ (nLp16 : Nat) (τ16 : zS) (x15 : Int32), zJ κ L kd τ16 → zSame a0 [47, 50, 51] [145, 146, 149, 152, 153, 154, 155] L kd σ τ16 → gE a0 τ16 → gH a0 τ16 → gL a0 τ16 → gN a0 τ16 → zM a0 τ16 = zM a0 σ → zp a0 τ16 49 = zp a0 t13 49 → zp a0 τ16 54 = zp a0 t13 54 → R = F_X11_meet_34 a0 p1 p2 p3  nLp16 x15 τ16 → 0 ≤ x15.toInt ∧ 0 ≤ x15.toInt ∧ x15.toInt ≤ 11 ∧ x15.toInt < zM a0 σ → (r x15.toInt : Int) < (nLp16 : Int) → zG d L kd A 5 p l e (k2_rm 5 (100 * 5)) s m args below meth c Q τ16 34 [(4, .int x15), (0, .ref a0), (1, .int p1), (2, .int p2), (3, .int p3)] [] := by
          intro nLp16
          induction nLp16 with
          | zero => intro τ16 x15 hI hS gE_Lp16 gH_Lp16 gL_Lp16 gN_Lp16 M_Lp16 A49_Lp16 A54_Lp16 E  hxLp16 hm ; exact absurd hm (by omega)
          | succ nLp16 ihLp16 =>
            intro τ16 x15 hI hS gE_Lp16 gH_Lp16 gL_Lp16 gN_Lp16 M_Lp16 A49_Lp16 A54_Lp16 E  hxLp16 hmLp16 
            rw [F_X11_meet_34] at E
            refine zg_aload_n X 1 rfl dX11_meet_34 ?_
            refine fg_X11_119 X hI ha0 dX11_meet_35 (fun v17 ev17 hv17 => ?_)
            replace E := zLet_s (zgr ev17) E
            refine zg_iload X 0 rfl dX11_meet_38 ?_
            refine ag_154 X hI hv17 (by omega) (by omega) dX11_meet_40 (fun v18 ev18 _ => ?_)
            replace E := zLet_s ev18 E
            have qv18 := zp_ld ev17 ev18
            rw [A54_Lp16] at qv18
            refine zg_iload_n X 3 rfl dX11_meet_41 ?_
            refine zg_ishrW X dX11_meet_42 (fun v19 ev19 => ?_)
            replace E := zLet_s ev19 E
            refine zg_iconst X 1 dX11_meet_43 (by decide) (fun v20 _ hv20 => ?_)
            replace E := zLet_s (zcst hv20 (by decide)) E
            refine zg_iandW X dX11_meet_44 (fun v21 ev21 => ?_)
            replace E := zLet_s ev21 E
            have zx := zbt_t (by omega) ev19 ev21 (by omega) (by omega)
            rw [qv18] at zx
            refine zg_if_ne X 60 dX11_meet_45 (by decide) (fun c22 => ?_) (fun c22 => ?_)
            · skip
              replace E := zIf_f c22 E
              refine zg_iload_n X 4 rfl dX11_meet_60 ?_
              refine zg_if_ne X 69 dX11_meet_61 (by decide) (fun c23 => ?_) (fun c23 => ?_)
              · skip
                replace E := zIf_f c23 E
                refine zg_aload_n X 1 rfl dX11_meet_69 ?_
                refine fg_X11_113 X hI ha0 dX11_meet_70 (fun v24 ev24 hv24 => ?_)
                replace E := zLet_s (zgr ev24) E
                refine zg_iload_n X 2 rfl dX11_meet_73 ?_
                refine ag_152 X hI hv24 (by omega) (by omega) dX11_meet_74 (fun v25 ev25 _ => ?_)
                replace E := zLet_s ev25 E
                refine zg_aload_n X 1 rfl dX11_meet_75 ?_
                refine fg_X11_113 X hI ha0 dX11_meet_76 (fun v26 ev26 hv26 => ?_)
                replace E := zLet_s (zgr ev26) E
                refine zg_iload_n X 3 rfl dX11_meet_79 ?_
                refine ag_152 X hI hv26 (by omega) (by omega) dX11_meet_80 (fun v27 ev27 _ => ?_)
                replace E := zLet_s ev27 E
                refine zg_iaddW X dX11_meet_81 (fun v28 ev28 => ?_)
                replace E := zLet_s ev28 E
                refine zg_iconst X 2 dX11_meet_82 (by decide) (fun v29 _ hv29 => ?_)
                replace E := zLet_s (zcst hv29 (by decide)) E
                refine zg_aload_n X 1 rfl dX11_meet_83 ?_
                refine fg_X11_113 X hI ha0 dX11_meet_84 (fun v30 ev30 hv30 => ?_)
                replace E := zLet_s (zgr ev30) E
                refine zg_iload X 0 rfl dX11_meet_87 ?_
                refine ag_152 X hI hv30 (by omega) (by omega) dX11_meet_89 (fun v31 ev31 _ => ?_)
                replace E := zLet_s ev31 E
                refine zg_imulW X dX11_meet_90 (fun v32 ev32 => ?_)
                replace E := zLet_s ev32 E
                refine zg_isubW X dX11_meet_91 (fun v33 ev33 => ?_)
                replace E := zLet_s ev33 E
                exact ret _ _ _ _ dX11_meet_92 rfl ⟨E.symm.trans hR, ⟨⟨gN_Lp16, gH_Lp16, gE_Lp16, gL_Lp16⟩, hI, hS⟩⟩
              · skip
                replace E := zIf_t c23 E
                refine zg_iload X 0 rfl dX11_meet_64 ?_
                refine zg_goto X 92 dX11_meet_66 (by decide) ?_
                exact ret _ _ _ _ dX11_meet_92 rfl ⟨E.symm.trans hR, ⟨⟨gN_Lp16, gH_Lp16, gE_Lp16, gL_Lp16⟩, hI, hS⟩⟩
            · skip
              replace E := zIf_t c22 E
              have z0 : x15.toInt ≠ 0 := fun z => by
                rcases zx with y | y
                · rw [z] at y
                  exact y.2 hmo
                · omega
              have zr := hr x15.toInt (by omega) (by omega)
              refine zg_aload_n X 1 rfl dX11_meet_48 ?_
              refine fg_X11_110 X hI ha0 dX11_meet_49 (fun v34 ev34 hv34 => ?_)
              replace E := zLet_s (zgr ev34) E
              refine zg_iload X 0 rfl dX11_meet_52 ?_
              refine ag_149 X hI hv34 (by omega) (by omega) dX11_meet_54 (fun v35 ev35 _ => ?_)
              replace E := zLet_s ev35 E
              have qv35 := zp_ld ev34 ev35
              rw [A49_Lp16] at qv35
              rw [← qv35] at zr
              refine zg_istore X [(4, .int v35), (0, .ref a0), (1, .int p1), (2, .int p2), (3, .int p3)] dX11_meet_55 (by decide) rfl ?_
              refine zg_goto X 34 dX11_meet_57 (by decide) ?_
              refine zg_sub [0, 1, 2, 3, 4] rfl ?_
              exact ihLp16 _ v35 hI hS gE_Lp16 gH_Lp16 gL_Lp16 gN_Lp16 M_Lp16 A49_Lp16 A54_Lp16 E  (by omega) (by omega) 
        refine zg_sub [0, 1, 2, 3, 4] rfl ?_
        have zrb := hrb p1.toInt
        exact Lp16 10000 _ p1 hI hS gEt13 gHt13 gLt13 gNt13 Mt13 rfl rfl E  (by omega) (by omega) 
      · skip
        replace E := zIf_t c12 E
        refine zg_iconst X (-1) dX11_meet_25 (by decide) (fun v36 _ hv36 => ?_)
        replace E := zLet_s (zcst hv36 (by decide)) E
        exact ret _ _ _ _ dX11_meet_26 rfl ⟨E.symm.trans hR, ⟨⟨hgN, hgH, hgE, hgL⟩, hI, hS⟩⟩
set_option maxHeartbeats 4000000 in
set_option maxRecDepth 100000 in
theorem t_X11_when (l : Launch) (d : zD2) (L : List Nat) (kd : Nat → Nat) (κ : Int) (σ : zS) (hI : zJ κ L kd σ) (a0 : Nat) (ha0 : zT L kd a0 11) (p1 : Int32) (hgN : gN a0 σ) (hgH : gH a0 σ) (hgE : gE a0 σ) (hgL : gL a0 σ) : zMi l yX11_when (Cond.code yX11_when cX11_when 3 (some .int) :: zWL) 6 [.ref a0, .int p1] d L kd σ (fun v σ2 => (v, σ2) = F_X11_when a0 p1 σ ∧ (((gN a0 σ2) ∧ (gH a0 σ2) ∧ (gE a0 σ2) ∧ (gL a0 σ2)) ∧ zJ κ L kd σ2 ∧ zSame a0 [47, 50, 51, 56] [145, 146, 149, 152, 153, 154, 155] L kd σ σ2)) := by
  refine zMi.of (own := RX11) (by decide +kernel) rfl rfl (Nat.le_of_ble_eq_true rfl) ?_
  intro p e s m args below meth c A Q X ret
  have hS : zSame a0 [47, 50, 51, 56] [145, 146, 149, 152, 153, 154, 155] L kd σ σ := zSame.rf
  refine zg_lv (lv2 := [(0, .ref a0), (1, .int p1)]) rfl ?_
  have zm := zM_in hI ha0
  obtain ⟨R, hR⟩ : ∃ R, R = F_X11_when a0 p1 σ := ⟨_, rfl⟩
  have E := hR
  unfold F_X11_when at E
  refine zg_aload_n X 0 rfl dX11_when_0 ?_
  refine zg_iload_n X 1 rfl dX11_when_1 ?_
  refine zg_iconst X 0 dX11_when_2 (by decide) (fun v1 _ hv1 => ?_)
  replace E := zLet_s (zcst hv1 (by decide)) E
  refine zg_cVi (As := [.int p1, .int v1]) (st := []) X ha0 rfl (by decide) rfl (t_X11_isClaim l d L kd κ _ hI a0 ha0 p1 v1   hgN hgL) mk_X11_389 mc_X11_isClaim mz_X11 mi_X11_isClaim ml_X11_isClaim (na := 2) ⟨md_X11.1, md_X11.2, by decide +kernel⟩ rfl ⟨by decide, by decide⟩ (Nat.le_of_ble_eq_true rfl) dX11_when_3 (fun v3 t2 hq => ?_)
  obtain ⟨hF, ⟨ht2_res, ht2_fact0, ht2_fact1, gRt2, gBt2⟩, hI, g4⟩ := hq
  replace E := zLet2_s hF E
  have hS := hS.tr g4 (by decide) (by decide)
  have gNt2 := gN.same hI ha0 g4 (by decide) hgN
  have gHt2 := gH.same hI ha0 g4 (by decide) hgH
  have gEt2 := gE.same hI ha0 g4 (by decide) hgE
  have gLt2 := gL.same hI ha0 g4 (by decide) hgL
  refine zg_if_ne X 11 dX11_when_6 (by decide) (fun c5 => ?_) (fun c5 => ?_)
  · skip
    replace E := zIf_f c5 E
    refine zg_aload_n X 0 rfl dX11_when_11 ?_
    refine zg_iconst X 1 dX11_when_12 (by decide) (fun v6 _ hv6 => ?_)
    replace E := zLet_s (zcst hv6 (by decide)) E
    refine fp_X11_323 X hI ha0 ⟨by omega, by omega⟩ dX11_when_13 (fun s7 es7 hI => ?_)
    replace E := zLet_s es7 E
    have g8 := (zSame.rf (o := a0) (Wf := [51]) (Wa := []) (L := L) (kd := kd) (σ := t2)).f ha0 es7 rfl
    have hS := hS.tr g8 (by decide) (by decide)
    have gNs7 := gN.same hI ha0 g8 (by decide) gNt2
    have gHs7 := gH.same hI ha0 g8 (by decide) gHt2
    have gEs7 := gE.same hI ha0 g8 (by decide) gEt2
    have gLs7 := gL.same hI ha0 g8 (by decide) gLt2
    have gRs7 := gR.same hI ha0 g8 (by decide) gRt2
    have gBs7 := gB.same hI ha0 g8 (by decide) gBt2
    have fs7_51 : (s7.1 a0 51).toInt = v6.toInt := by rw [es7]; exact congrArg _ (zu_s _ _ _ _)
    have e9 : v6 = s7.1 a0 51 := by rw [es7]; exact zm_s
    refine zg_iconst X 1 dX11_when_16 (by decide) (fun v10 _ hv10 => ?_)
    replace E := zLet_s (zcst hv10 (by decide)) E
    refine zg_istore_n X [(2, .int v10), (0, .ref a0), (1, .int p1)] dX11_when_17 (by decide) rfl ?_
    have Lp12 : ∀ (nLp12 : Nat) (τ12 : zS) (x11 : Int32), zJ κ L kd τ12 → zSame a0 [47, 50, 51, 56] [145, 146, 149, 152, 153, 154, 155] L kd σ τ12 → gE a0 τ12 → gH a0 τ12 → gL a0 τ12 → gN a0 τ12 → gR a0 τ12 → R = F_X11_when_18 a0 p1  nLp12 x11 τ12 → 1 ≤ x11.toInt ∧ x11.toInt ≤ 61 → (61) - x11.toInt + 1 < (nLp12 : Int) → zG d L kd A 3 p l e (k2_rm 6 (100 * 6)) s m args below meth c Q τ12 18 [(2, .int x11), (0, .ref a0), (1, .int p1)] [] := by
      intro nLp12
      induction nLp12 with
      | zero => intro τ12 x11 hI hS gE_Lp12 gH_Lp12 gL_Lp12 gN_Lp12 gR_Lp12 E  hxLp12 hm ; exact absurd hm (by omega)
      | succ nLp12 ihLp12 =>
        intro τ12 x11 hI hS gE_Lp12 gH_Lp12 gL_Lp12 gN_Lp12 gR_Lp12 E  hxLp12 hmLp12 
        rw [F_X11_when_18] at E
        refine zg_iload_n X 0 rfl dX11_when_18 ?_
        refine zg_bipush X 60 dX11_when_19 (by decide) (fun v13 _ hv13 => ?_)
        replace E := zLet_s (zcst hv13 (by decide)) E
        refine zg_icmp_gt X 44 dX11_when_21 (by decide) (fun c14 => ?_) (fun c14 => ?_)
        · skip
          replace E := zIf_t c14 E
          refine zg_bipush X (-2) dX11_when_44 (by decide) (fun v15 _ hv15 => ?_)
          replace E := zLet_s (zcst hv15 (by decide)) E
          exact ret _ _ _ _ dX11_when_46 rfl ⟨E.symm.trans hR, ⟨⟨gN_Lp12, gH_Lp12, gE_Lp12, gL_Lp12⟩, hI, hS⟩⟩
        · skip
          replace E := zIf_f (Int.not_lt.mpr c14) E
          refine zg_aload_n X 1 rfl dX11_when_24 ?_
          refine zg_cVv (As := []) (st := []) X ha0 rfl (by decide) rfl (t_X11_monthGoes l d L kd κ _ hI a0 ha0    gR_Lp12 gL_Lp12) mk_X11_380 mc_X11_monthGoes mz_X11 mi_X11_monthGoes ml_X11_monthGoes (na := 0) ⟨md_X11.1, md_X11.2, by decide +kernel⟩ rfl ⟨by decide, by decide⟩ (Nat.le_of_ble_eq_true rfl) dX11_when_25 (fun t16 hq => ?_)
          obtain ⟨hF, gRt16, hI, g17⟩ := hq
          replace E := zLet_s hF E
          have hS := hS.tr g17 (by decide) (by decide)
          have gEt16 := gE.same hI ha0 g17 (by decide) gE_Lp12
          have gHt16 := gH.same hI ha0 g17 (by decide) gH_Lp12
          have gLt16 := gL.same hI ha0 g17 (by decide) gL_Lp12
          have gNt16 := gN.same hI ha0 g17 (by decide) gN_Lp12
          refine zg_aload_n X 1 rfl dX11_when_28 ?_
          refine fg_X11_377 X hI ha0 dX11_when_29 (fun v18 ev18 hv18 => ?_)
          replace E := zLet_s ev18 E
          refine zg_iload_n X 2 rfl dX11_when_32 ?_
          refine zg_icmp_ne X 38 dX11_when_33 (by decide) (fun c19 => ?_) (fun c19 => ?_)
          · skip
            replace E := zIf_f c19 E
            refine zg_iinc X 1 (fun v20 => [(2, .int v20), (0, .ref a0), (1, .int p1)]) 0 dX11_when_38 rfl (by decide) (by decide) (by omega) (by omega) (fun _ => rfl) (fun v20 ev20 hv20 => ?_)
            replace E := zLet_s (zinc ev20 (by decide)) E
            refine zg_goto X 18 dX11_when_41 (by decide) ?_
            refine zg_sub [0, 1, 2] rfl ?_
            exact ihLp12 _ v20 hI hS gEt16 gHt16 gLt16 gNt16 gRt16 E  (by omega) (by omega) 
          · skip
            replace E := zIf_t c19 E
            refine zg_iload_n X 0 rfl dX11_when_36 ?_
            exact ret _ _ _ _ dX11_when_37 rfl ⟨E.symm.trans hR, ⟨⟨gNt16, gHt16, gEt16, gLt16⟩, hI, hS⟩⟩
    refine zg_sub [0, 1, 2] rfl ?_
    exact Lp12 10000 _ v10 hI hS gEs7 gHs7 gLs7 gNs7 gRs7 E  (by omega) (by omega) 
  · skip
    replace E := zIf_t c5 E
    refine zg_iconst X (-1) dX11_when_9 (by decide) (fun v21 _ hv21 => ?_)
    replace E := zLet_s (zcst hv21 (by decide)) E
    exact ret _ _ _ _ dX11_when_10 rfl ⟨E.symm.trans hR, ⟨⟨gNt2, gHt2, gEt2, gLt2⟩, hI, hS⟩⟩
set_option maxHeartbeats 4000000 in
set_option maxRecDepth 100000 in
theorem t_X11_then (l : Launch) (d : zD2) (L : List Nat) (kd : Nat → Nat) (κ : Int) (σ : zS) (hI : zJ κ L kd σ) (a0 : Nat) (ha0 : zT L kd a0 11) (p1 : Int32) (p2 : Int32) (p3 : Int32) (hgN : gN a0 σ) (hgH : gH a0 σ) (hgE : gE a0 σ) (hgL : gL a0 σ) : zMi l yX11_then (Cond.code yX11_then cX11_then 4 (some .int) :: zWL) 6 [.ref a0, .int p1, .int p2, .int p3] d L kd σ (fun v σ2 => (v, σ2) = F_X11_then a0 p1 p2 p3 σ ∧ (((gN a0 σ2) ∧ (gH a0 σ2) ∧ (gE a0 σ2) ∧ (gL a0 σ2)) ∧ zJ κ L kd σ2 ∧ zSame a0 [47, 50, 51, 56] [145, 146, 149, 152, 153, 154, 155] L kd σ σ2)) := by
  refine zMi.of (own := RX11) (by decide +kernel) rfl rfl (Nat.le_of_ble_eq_true rfl) ?_
  intro p e s m args below meth c A Q X ret
  have hS : zSame a0 [47, 50, 51, 56] [145, 146, 149, 152, 153, 154, 155] L kd σ σ := zSame.rf
  refine zg_lv (lv2 := [(0, .ref a0), (1, .int p1), (2, .int p2), (3, .int p3)]) rfl ?_
  have zm := zM_in hI ha0
  obtain ⟨R, hR⟩ : ∃ R, R = F_X11_then a0 p1 p2 p3 σ := ⟨_, rfl⟩
  have E := hR
  unfold F_X11_then at E
  refine zg_iload_n X 2 rfl dX11_then_0 ?_
  refine zg_cSi (As := [.int p2]) (st := []) X (t_X11_isLong l d L kd _ p2 ) mk_X11_402 mc_X11_isLong mz_X11 ms_X11_isLong (na := 1) ⟨md_X11.1, md_X11.2, by decide +kernel⟩ rfl ⟨by decide, by decide⟩ (Nat.le_of_ble_eq_true rfl) dX11_then_1 (fun v1 σ2 hq => ?_)
  obtain ⟨⟨hF, hv1⟩, rfl⟩ := hq
  replace E := zLet_s hF E
  refine zg_if_eq X 25 dX11_then_4 (by decide) (fun c2 => ?_) (fun c2 => ?_)
  · skip
    replace E := zIf_t c2 E
    refine zg_iconst X (-1) dX11_then_25 (by decide) (fun v3 _ hv3 => ?_)
    replace E := zLet_s (zcst hv3 (by decide)) E
    exact ret _ _ _ _ dX11_then_26 rfl ⟨E.symm.trans hR, ⟨⟨hgN, hgH, hgE, hgL⟩, hI, hS⟩⟩
  · skip
    replace E := zIf_f c2 E
    refine zg_iload_n X 3 rfl dX11_then_7 ?_
    refine zg_iconst X 0 dX11_then_8 (by decide) (fun v4 _ hv4 => ?_)
    replace E := zLet_s (zcst hv4 (by decide)) E
    refine zg_iconst X 1 dX11_then_9 (by decide) (fun v5 _ hv5 => ?_)
    replace E := zLet_s (zcst hv5 (by decide)) E
    refine zg_cSi (As := [.int p3, .int v4, .int v5]) (st := []) X (t_X11_in l d L kd _ p3 v4 v5 ) mk_X11_316 mc_X11_in mz_X11 ms_X11_in (na := 3) ⟨md_X11.1, md_X11.2, by decide +kernel⟩ rfl ⟨by decide, by decide⟩ (Nat.le_of_ble_eq_true rfl) dX11_then_10 (fun v6 σ2 hq => ?_)
    obtain ⟨⟨hF, hv6⟩, rfl⟩ := hq
    replace E := zLet_s hF E
    refine zg_if_eq X 25 dX11_then_13 (by decide) (fun c7 => ?_) (fun c7 => ?_)
    · skip
      replace E := zIf_t c7 E
      refine zg_iconst X (-1) dX11_then_25 (by decide) (fun v8 _ hv8 => ?_)
      replace E := zLet_s (zcst hv8 (by decide)) E
      exact ret _ _ _ _ dX11_then_26 rfl ⟨E.symm.trans hR, ⟨⟨hgN, hgH, hgE, hgL⟩, hI, hS⟩⟩
    · skip
      replace E := zIf_f c7 E
      refine zg_aload_n X 0 rfl dX11_then_16 ?_
      refine zg_iload_n X 1 rfl dX11_then_17 ?_
      refine zg_iconst X 0 dX11_then_18 (by decide) (fun v9 _ hv9 => ?_)
      replace E := zLet_s (zcst hv9 (by decide)) E
      refine zg_cVi (As := [.int p1, .int v9]) (st := []) X ha0 rfl (by decide) rfl (t_X11_isClaim l d L kd κ _ hI a0 ha0 p1 v9   hgN hgL) mk_X11_389 mc_X11_isClaim mz_X11 mi_X11_isClaim ml_X11_isClaim (na := 2) ⟨md_X11.1, md_X11.2, by decide +kernel⟩ rfl ⟨by decide, by decide⟩ (Nat.le_of_ble_eq_true rfl) dX11_then_19 (fun v11 t10 hq => ?_)
      obtain ⟨hF, ⟨ht10_res, ht10_fact0, ht10_fact1, gRt10, gBt10⟩, hI, g12⟩ := hq
      replace E := zLet2_s hF E
      have hS := hS.tr g12 (by decide) (by decide)
      have gNt10 := gN.same hI ha0 g12 (by decide) hgN
      have gHt10 := gH.same hI ha0 g12 (by decide) hgH
      have gEt10 := gE.same hI ha0 g12 (by decide) hgE
      have gLt10 := gL.same hI ha0 g12 (by decide) hgL
      refine zg_if_ne X 27 dX11_then_22 (by decide) (fun c13 => ?_) (fun c13 => ?_)
      · skip
        replace E := zIf_f c13 E
        refine zg_aload_n X 0 rfl dX11_then_27 ?_
        refine zg_iload_n X 2 rfl dX11_then_28 ?_
        refine zg_cVv (As := [.int p2]) (st := []) X ha0 rfl (by decide) rfl (t_X11_goes l d L kd κ _ hI a0 ha0 p2   gRt10 gLt10) mk_X11_405 mc_X11_goes mz_X11 mi_X11_goes ml_X11_goes (na := 1) ⟨md_X11.1, md_X11.2, by decide +kernel⟩ rfl ⟨by decide, by decide⟩ (Nat.le_of_ble_eq_true rfl) dX11_then_29 (fun t14 hq => ?_)
        obtain ⟨hF, gRt14, hI, g15⟩ := hq
        replace E := zLet_s hF E
        have hS := hS.tr g15 (by decide) (by decide)
        have gNt14 := gN.same hI ha0 g15 (by decide) gNt10
        have gHt14 := gH.same hI ha0 g15 (by decide) gHt10
        have gEt14 := gE.same hI ha0 g15 (by decide) gEt10
        have gLt14 := gL.same hI ha0 g15 (by decide) gLt10
        refine zg_aload_n X 0 rfl dX11_then_32 ?_
        refine fg_X11_110 X hI ha0 dX11_then_33 (fun v16 ev16 hv16 => ?_)
        replace E := zLet_s (zgr ev16) E
        refine zg_bipush X 24 dX11_then_36 (by decide) (fun v17 _ hv17 => ?_)
        replace E := zLet_s (zcst hv17 (by decide)) E
        refine zg_bipush X 12 dX11_then_38 (by decide) (fun v18 _ hv18 => ?_)
        replace E := zLet_s (zcst hv18 (by decide)) E
        refine zg_iload_n X 3 rfl dX11_then_40 ?_
        refine zg_imulc X 12 dX11_then_41 (by omega) (by omega) (by omega) (fun v19 ev19 hv19 => ?_)
        replace E := zLet_s ev19 E
        refine zg_iadd X dX11_then_42 (by omega) (by omega) (fun v20 ev20 hv20 => ?_)
        replace E := zLet_s ev20 E
        refine zg_iload_n X 1 rfl dX11_then_43 ?_
        refine zg_iadd X dX11_then_44 (by omega) (by omega) (fun v21 ev21 hv21 => ?_)
        replace E := zLet_s ev21 E
        refine ag_149 X hI hv16 (by omega) (by omega) dX11_then_45 (fun v22 ev22 _ => ?_)
        replace E := zLet_s ev22 E
        exact ret _ _ _ _ dX11_then_46 rfl ⟨E.symm.trans hR, ⟨⟨gNt14, gHt14, gEt14, gLt14⟩, hI, hS⟩⟩
      · skip
        replace E := zIf_t c13 E
        refine zg_iconst X (-1) dX11_then_25 (by decide) (fun v23 _ hv23 => ?_)
        replace E := zLet_s (zcst hv23 (by decide)) E
        exact ret _ _ _ _ dX11_then_26 rfl ⟨E.symm.trans hR, ⟨⟨gNt10, gHt10, gEt10, gLt10⟩, hI, hS⟩⟩
set_option maxHeartbeats 4000000 in
set_option maxRecDepth 100000 in
theorem t_X11_flowIn (l : Launch) (d : zD2) (L : List Nat) (kd : Nat → Nat) (κ : Int) (σ : zS) (hI : zJ κ L kd σ) (a0 : Nat) (ha0 : zT L kd a0 11) (p1 : Int32) (hgN : gN a0 σ) (hgH : gH a0 σ) (hgE : gE a0 σ) (hgL : gL a0 σ) : zMi l yX11_flowIn (Cond.code yX11_flowIn cX11_flowIn 2 (some .int) :: zWL) 6 [.ref a0, .int p1] d L kd σ (fun v σ2 => (v, σ2) = F_X11_flowIn a0 p1 σ ∧ (((gN a0 σ2) ∧ (gH a0 σ2) ∧ (gE a0 σ2) ∧ (gL a0 σ2)) ∧ zJ κ L kd σ2 ∧ zSame a0 [47, 50, 51, 56] [145, 146, 149, 152, 153, 154, 155] L kd σ σ2)) := by
  refine zMi.of (own := RX11) (by decide +kernel) rfl rfl (Nat.le_of_ble_eq_true rfl) ?_
  intro p e s m args below meth c A Q X ret
  have hS : zSame a0 [47, 50, 51, 56] [145, 146, 149, 152, 153, 154, 155] L kd σ σ := zSame.rf
  refine zg_lv (lv2 := [(0, .ref a0), (1, .int p1)]) rfl ?_
  obtain ⟨R, hR⟩ : ∃ R, R = F_X11_flowIn a0 p1 σ := ⟨_, rfl⟩
  have E := hR
  unfold F_X11_flowIn at E
  refine zg_iload_n X 1 rfl dX11_flowIn_0 ?_
  refine zg_cSi (As := [.int p1]) (st := []) X (t_X11_isLong l d L kd _ p1 ) mk_X11_402 mc_X11_isLong mz_X11 ms_X11_isLong (na := 1) ⟨md_X11.1, md_X11.2, by decide +kernel⟩ rfl ⟨by decide, by decide⟩ (Nat.le_of_ble_eq_true rfl) dX11_flowIn_1 (fun v1 σ2 hq => ?_)
  obtain ⟨⟨hF, hv1⟩, rfl⟩ := hq
  replace E := zLet_s hF E
  refine zg_if_eq X 14 dX11_flowIn_4 (by decide) (fun c2 => ?_) (fun c2 => ?_)
  · skip
    replace E := zIf_t c2 E
    refine zg_iconst X (-1) dX11_flowIn_14 (by decide) (fun v3 _ hv3 => ?_)
    replace E := zLet_s (zcst hv3 (by decide)) E
    exact ret _ _ _ _ dX11_flowIn_15 rfl ⟨E.symm.trans hR, ⟨⟨hgN, hgH, hgE, hgL⟩, hI, hS⟩⟩
  · skip
    replace E := zIf_f c2 E
    refine zg_aload_n X 0 rfl dX11_flowIn_7 ?_
    refine zg_cVi (As := []) (st := []) X ha0 rfl (by decide) rfl (t_X11_many l d L kd κ _ hI a0 ha0   ) mk_X11_313 mc_X11_many mz_X11 mi_X11_many ml_X11_many (na := 0) ⟨md_X11.1, md_X11.2, by decide +kernel⟩ rfl ⟨by decide, by decide⟩ (Nat.le_of_ble_eq_true rfl) dX11_flowIn_8 (fun v5 t4 hq => ?_)
    obtain ⟨⟨hF, ⟨ht4_res, ht4_fact0⟩⟩, rfl⟩ := hq
    replace E := zLet_s hF E
    refine zg_if_ne X 16 dX11_flowIn_11 (by decide) (fun c6 => ?_) (fun c6 => ?_)
    · skip
      replace E := zIf_f c6 E
      refine zg_aload_n X 0 rfl dX11_flowIn_16 ?_
      refine zg_cVv (As := []) (st := []) X ha0 rfl (by decide) rfl (t_X11_copies l d L kd κ _ hI a0 ha0    hgN hgL) mk_X11_332 mc_X11_copies mz_X11 mi_X11_copies ml_X11_copies (na := 0) ⟨md_X11.1, md_X11.2, by decide +kernel⟩ rfl ⟨by decide, by decide⟩ (Nat.le_of_ble_eq_true rfl) dX11_flowIn_17 (fun t7 hq => ?_)
      obtain ⟨hF, ⟨ht7_fact0, gRt7, gBt7⟩, hI, g8⟩ := hq
      replace E := zLet_s hF E
      have hS := hS.tr g8 (by decide) (by decide)
      have gNt7 := gN.same hI ha0 g8 (by decide) hgN
      have gHt7 := gH.same hI ha0 g8 (by decide) hgH
      have gEt7 := gE.same hI ha0 g8 (by decide) hgE
      have gLt7 := gL.same hI ha0 g8 (by decide) hgL
      refine zg_aload_n X 0 rfl dX11_flowIn_20 ?_
      refine zg_iload_n X 1 rfl dX11_flowIn_21 ?_
      refine zg_cVv (As := [.int p1]) (st := []) X ha0 rfl (by decide) rfl (t_X11_goes l d L kd κ _ hI a0 ha0 p1   gRt7 gLt7) mk_X11_405 mc_X11_goes mz_X11 mi_X11_goes ml_X11_goes (na := 1) ⟨md_X11.1, md_X11.2, by decide +kernel⟩ rfl ⟨by decide, by decide⟩ (Nat.le_of_ble_eq_true rfl) dX11_flowIn_22 (fun t9 hq => ?_)
      obtain ⟨hF, gRt9, hI, g10⟩ := hq
      replace E := zLet_s hF E
      have hS := hS.tr g10 (by decide) (by decide)
      have gNt9 := gN.same hI ha0 g10 (by decide) gNt7
      have gHt9 := gH.same hI ha0 g10 (by decide) gHt7
      have gEt9 := gE.same hI ha0 g10 (by decide) gEt7
      have gLt9 := gL.same hI ha0 g10 (by decide) gLt7
      refine zg_aload_n X 0 rfl dX11_flowIn_25 ?_
      refine fg_X11_122 X hI ha0 dX11_flowIn_26 (fun v11 ev11 hv11 => ?_)
      replace E := zLet_s (zgr ev11) E
      refine zg_iconst X 0 dX11_flowIn_29 (by decide) (fun v12 _ hv12 => ?_)
      replace E := zLet_s (zcst hv12 (by decide)) E
      refine ag_155 X hI hv11 (by omega) (by omega) dX11_flowIn_30 (fun v13 ev13 _ => ?_)
      replace E := zLet_s ev13 E
      exact ret _ _ _ _ dX11_flowIn_31 rfl ⟨E.symm.trans hR, ⟨⟨gNt9, gHt9, gEt9, gLt9⟩, hI, hS⟩⟩
    · skip
      replace E := zIf_t c6 E
      refine zg_iconst X (-1) dX11_flowIn_14 (by decide) (fun v14 _ hv14 => ?_)
      replace E := zLet_s (zcst hv14 (by decide)) E
      exact ret _ _ _ _ dX11_flowIn_15 rfl ⟨E.symm.trans hR, ⟨⟨hgN, hgH, hgE, hgL⟩, hI, hS⟩⟩
set_option maxHeartbeats 4000000 in
set_option maxRecDepth 100000 in
theorem t_X11_hasWonMost (l : Launch) (d : zD2) (L : List Nat) (kd : Nat → Nat) (κ : Int) (σ : zS) (hI : zJ κ L kd σ) (a0 : Nat) (ha0 : zT L kd a0 11) (p1 : Int32) (hq0 : 1 ≤ p1.toInt ∧ p1.toInt ≤ 11) : zMi l yX11_hasWonMost (Cond.code yX11_hasWonMost cX11_hasWonMost 3 (some .boolean) :: zWL) 1 [.ref a0, .int p1] d L kd σ (fun v σ2 => (v = F_X11_hasWonMost a0 p1 σ ∧ ((0 ≤ v.toInt ∧ v.toInt ≤ 1))) ∧ σ = σ2) := by
  refine zMi.of (own := RX11) (by decide +kernel) rfl rfl (Nat.le_of_ble_eq_true rfl) ?_
  intro p e s m args below meth c A Q X ret
  refine zg_lv (lv2 := [(0, .ref a0), (1, .int p1)]) rfl ?_
  have zm := zM_in hI ha0
  obtain ⟨R, hR⟩ : ∃ R, R = F_X11_hasWonMost a0 p1 σ := ⟨_, rfl⟩
  have E := hR
  unfold F_X11_hasWonMost at E
  refine zg_iconst X 1 dX11_hasWonMost_0 (by decide) (fun v1 _ hv1 => ?_)
  replace E := zLet_s (zcst hv1 (by decide)) E
  refine zg_istore_n X [(2, .int v1), (0, .ref a0), (1, .int p1)] dX11_hasWonMost_1 (by decide) rfl ?_
  have Lp3 : ∀ (nLp3 : Nat) (x2 : Int32), R = F_X11_hasWonMost_2 a0 p1 σ  nLp3 x2 → 1 ≤ x2.toInt ∧ x2.toInt ≤ 12 → (12) - x2.toInt + 1 < (nLp3 : Int) → zG d L kd A 3 p l e (k2_rm 1 (100 * 1)) s m args below meth c Q σ 2 [(2, .int x2), (0, .ref a0), (1, .int p1)] [] := by
    intro nLp3
    induction nLp3 with
    | zero => intro x2  E  hxLp3 hm ; exact absurd hm (by omega)
    | succ nLp3 ihLp3 =>
      intro x2  E  hxLp3 hmLp3 
      rw [F_X11_hasWonMost_2] at E
      refine zg_iload_n X 0 rfl dX11_hasWonMost_2 ?_
      refine zg_aload_n X 1 rfl dX11_hasWonMost_3 ?_
      refine zg_cVi (As := []) (st := [.int x2]) X ha0 rfl (by decide) rfl (t_X11_many l d L kd κ _ hI a0 ha0   ) mk_X11_313 mc_X11_many mz_X11 mi_X11_many ml_X11_many (na := 0) ⟨md_X11.1, md_X11.2, by decide +kernel⟩ rfl ⟨by decide, by decide⟩ (Nat.le_of_ble_eq_true rfl) dX11_hasWonMost_4 (fun v5 t4 hq => ?_)
      obtain ⟨⟨hF, ⟨ht4_res, ht4_fact0⟩⟩, rfl⟩ := hq
      replace E := zLet_s hF E
      refine zg_icmp_ge X 44 dX11_hasWonMost_7 (by decide) (fun c6 => ?_) (fun c6 => ?_)
      · skip
        replace E := zIf_f (Int.not_lt.mpr c6) E
        refine zg_iconst X 1 dX11_hasWonMost_44 (by decide) (fun v7 _ hv7 => ?_)
        replace E := zLet_s (zcst hv7 (by decide)) E
        exact ret _ _ _ _ dX11_hasWonMost_45 (zb_bool ⟨by omega, by omega⟩) ⟨⟨E.symm.trans hR, ⟨by omega, by omega⟩⟩, rfl⟩
      · skip
        replace E := zIf_t c6 E
        refine zg_iload_n X 0 rfl dX11_hasWonMost_10 ?_
        refine zg_iload_n X 2 rfl dX11_hasWonMost_11 ?_
        refine zg_icmp_eq X 38 dX11_hasWonMost_12 (by decide) (fun c8 => ?_) (fun c8 => ?_)
        · skip
          replace E := zIf_t c8 E
          refine zg_iinc X 1 (fun v9 => [(2, .int v9), (0, .ref a0), (1, .int p1)]) 0 dX11_hasWonMost_38 rfl (by decide) (by decide) (by omega) (by omega) (fun _ => rfl) (fun v9 ev9 hv9 => ?_)
          replace E := zLet_s (zinc ev9 (by decide)) E
          refine zg_goto X 2 dX11_hasWonMost_41 (by decide) ?_
          refine zg_sub [0, 1, 2] rfl ?_
          exact ihLp3 v9   E  (by omega) (by omega) 
        · skip
          replace E := zIf_f c8 E
          refine zg_aload_n X 1 rfl dX11_hasWonMost_15 ?_
          refine fg_X11_110 X hI ha0 dX11_hasWonMost_16 (fun v10 ev10 hv10 => ?_)
          replace E := zLet_s (zgr ev10) E
          refine zg_bipush X 24 dX11_hasWonMost_19 (by decide) (fun v11 _ hv11 => ?_)
          replace E := zLet_s (zcst hv11 (by decide)) E
          refine zg_iload_n X 0 rfl dX11_hasWonMost_21 ?_
          refine zg_iadd X dX11_hasWonMost_22 (by omega) (by omega) (fun v12 ev12 hv12 => ?_)
          replace E := zLet_s ev12 E
          refine ag_149 X hI hv10 (by omega) (by omega) dX11_hasWonMost_23 (fun v13 ev13 _ => ?_)
          replace E := zLet_s ev13 E
          refine zg_aload_n X 1 rfl dX11_hasWonMost_24 ?_
          refine fg_X11_110 X hI ha0 dX11_hasWonMost_25 (fun v14 ev14 hv14 => ?_)
          replace E := zLet_s (zgr ev14) E
          refine zg_bipush X 24 dX11_hasWonMost_28 (by decide) (fun v15 _ hv15 => ?_)
          replace E := zLet_s (zcst hv15 (by decide)) E
          refine zg_iload_n X 2 rfl dX11_hasWonMost_30 ?_
          refine zg_iadd X dX11_hasWonMost_31 (by omega) (by omega) (fun v16 ev16 hv16 => ?_)
          replace E := zLet_s ev16 E
          refine ag_149 X hI hv14 (by omega) (by omega) dX11_hasWonMost_32 (fun v17 ev17 _ => ?_)
          replace E := zLet_s ev17 E
          have zv13_z18 := zb_rng v13
          have zv17_z19 := zb_rng v17
          refine zg_icmp_lt X 38 dX11_hasWonMost_33 (by decide) (fun c20 => ?_) (fun c20 => ?_)
          · skip
            replace E := zIf_t c20 E
            refine zg_iinc X 1 (fun v21 => [(2, .int v21), (0, .ref a0), (1, .int p1)]) 0 dX11_hasWonMost_38 rfl (by decide) (by decide) (by omega) (by omega) (fun _ => rfl) (fun v21 ev21 hv21 => ?_)
            replace E := zLet_s (zinc ev21 (by decide)) E
            refine zg_goto X 2 dX11_hasWonMost_41 (by decide) ?_
            refine zg_sub [0, 1, 2] rfl ?_
            exact ihLp3 v21   E  (by omega) (by omega) 
          · skip
            replace E := zIf_f (Int.not_lt.mpr c20) E
            refine zg_iconst X 0 dX11_hasWonMost_36 (by decide) (fun v22 _ hv22 => ?_)
            replace E := zLet_s (zcst hv22 (by decide)) E
            exact ret _ _ _ _ dX11_hasWonMost_37 (zb_bool ⟨by omega, by omega⟩) ⟨⟨E.symm.trans hR, ⟨by omega, by omega⟩⟩, rfl⟩
  refine zg_sub [0, 1, 2] rfl ?_
  exact Lp3 10000 v1   E  (by omega) (by omega) 
set_option maxHeartbeats 4000000 in
set_option maxRecDepth 100000 in
theorem t_X11_year (l : Launch) (d : zD2) (L : List Nat) (kd : Nat → Nat) (κ : Int) (σ : zS) (hI : zJ κ L kd σ) (a0 : Nat) (ha0 : zT L kd a0 11) (p1 : Int32) (p2 : Int32) (p3 : Int32) (hgN : gN a0 σ) (hgH : gH a0 σ) (hgE : gE a0 σ) (hgL : gL a0 σ) : zMi l yX11_year (Cond.code yX11_year cX11_year 6 (some .int) :: zWL) 6 [.ref a0, .int p1, .int p2, .int p3] d L kd σ (fun v σ2 => (v, σ2) = F_X11_year a0 p1 p2 p3 σ ∧ (((gN a0 σ2) ∧ (gH a0 σ2) ∧ (gE a0 σ2) ∧ (gL a0 σ2)) ∧ zJ κ L kd σ2 ∧ zSame a0 [47, 50, 51, 56] [145, 146, 149, 152, 153, 154, 155] L kd σ σ2)) := by
  refine zMi.of (own := RX11) (by decide +kernel) rfl rfl (Nat.le_of_ble_eq_true rfl) ?_
  intro p e s m args below meth c A Q X ret
  have hS : zSame a0 [47, 50, 51, 56] [145, 146, 149, 152, 153, 154, 155] L kd σ σ := zSame.rf
  refine zg_lv (lv2 := [(0, .ref a0), (1, .int p1), (2, .int p2), (3, .int p3)]) rfl ?_
  have zm := zM_in hI ha0
  obtain ⟨R, hR⟩ : ∃ R, R = F_X11_year a0 p1 p2 p3 σ := ⟨_, rfl⟩
  have E := hR
  unfold F_X11_year at E
  refine zg_iload_n X 2 rfl dX11_year_0 ?_
  refine zg_cSi (As := [.int p2]) (st := []) X (t_X11_isLong l d L kd _ p2 ) mk_X11_402 mc_X11_isLong mz_X11 ms_X11_isLong (na := 1) ⟨md_X11.1, md_X11.2, by decide +kernel⟩ rfl ⟨by decide, by decide⟩ (Nat.le_of_ble_eq_true rfl) dX11_year_1 (fun v1 σ2 hq => ?_)
  obtain ⟨⟨hF, hv1⟩, rfl⟩ := hq
  replace E := zLet_s hF E
  refine zg_if_eq X 26 dX11_year_4 (by decide) (fun c2 => ?_) (fun c2 => ?_)
  · skip
    replace E := zIf_t c2 E
    refine zg_iconst X (-1) dX11_year_26 (by decide) (fun v3 _ hv3 => ?_)
    replace E := zLet_s (zcst hv3 (by decide)) E
    exact ret _ _ _ _ dX11_year_27 rfl ⟨E.symm.trans hR, ⟨⟨hgN, hgH, hgE, hgL⟩, hI, hS⟩⟩
  · skip
    replace E := zIf_f c2 E
    refine zg_iload_n X 3 rfl dX11_year_7 ?_
    refine zg_iconst X 1 dX11_year_8 (by decide) (fun v4 _ hv4 => ?_)
    replace E := zLet_s (zcst hv4 (by decide)) E
    refine zg_bipush X 20 dX11_year_9 (by decide) (fun v5 _ hv5 => ?_)
    replace E := zLet_s (zcst hv5 (by decide)) E
    refine zg_cSi (As := [.int p3, .int v4, .int v5]) (st := []) X (t_X11_in l d L kd _ p3 v4 v5 ) mk_X11_316 mc_X11_in mz_X11 ms_X11_in (na := 3) ⟨md_X11.1, md_X11.2, by decide +kernel⟩ rfl ⟨by decide, by decide⟩ (Nat.le_of_ble_eq_true rfl) dX11_year_11 (fun v6 σ2 hq => ?_)
    obtain ⟨⟨hF, hv6⟩, rfl⟩ := hq
    replace E := zLet_s hF E
    refine zg_if_eq X 26 dX11_year_14 (by decide) (fun c7 => ?_) (fun c7 => ?_)
    · skip
      replace E := zIf_t c7 E
      refine zg_iconst X (-1) dX11_year_26 (by decide) (fun v8 _ hv8 => ?_)
      replace E := zLet_s (zcst hv8 (by decide)) E
      exact ret _ _ _ _ dX11_year_27 rfl ⟨E.symm.trans hR, ⟨⟨hgN, hgH, hgE, hgL⟩, hI, hS⟩⟩
    · skip
      replace E := zIf_f c7 E
      refine zg_aload_n X 0 rfl dX11_year_17 ?_
      refine zg_iload_n X 1 rfl dX11_year_18 ?_
      refine zg_iconst X 0 dX11_year_19 (by decide) (fun v9 _ hv9 => ?_)
      replace E := zLet_s (zcst hv9 (by decide)) E
      refine zg_cVi (As := [.int p1, .int v9]) (st := []) X ha0 rfl (by decide) rfl (t_X11_isClaim l d L kd κ _ hI a0 ha0 p1 v9   hgN hgL) mk_X11_389 mc_X11_isClaim mz_X11 mi_X11_isClaim ml_X11_isClaim (na := 2) ⟨md_X11.1, md_X11.2, by decide +kernel⟩ rfl ⟨by decide, by decide⟩ (Nat.le_of_ble_eq_true rfl) dX11_year_20 (fun v11 t10 hq => ?_)
      obtain ⟨hF, ⟨ht10_res, ht10_fact0, ht10_fact1, gRt10, gBt10⟩, hI, g12⟩ := hq
      replace E := zLet2_s hF E
      have hS := hS.tr g12 (by decide) (by decide)
      have gNt10 := gN.same hI ha0 g12 (by decide) hgN
      have gHt10 := gH.same hI ha0 g12 (by decide) hgH
      have gEt10 := gE.same hI ha0 g12 (by decide) hgE
      have gLt10 := gL.same hI ha0 g12 (by decide) hgL
      refine zg_if_ne X 28 dX11_year_23 (by decide) (fun c13 => ?_) (fun c13 => ?_)
      · skip
        replace E := zIf_f c13 E
        refine zg_iconst X 0 dX11_year_28 (by decide) (fun v14 _ hv14 => ?_)
        replace E := zLet_s (zcst hv14 (by decide)) E
        refine zg_istore X [(4, .int v14), (0, .ref a0), (1, .int p1), (2, .int p2), (3, .int p3)] dX11_year_29 (by decide) rfl ?_
        refine zg_iconst X 0 dX11_year_31 (by decide) (fun v15 _ hv15 => ?_)
        replace E := zLet_s (zcst hv15 (by decide)) E
        refine zg_istore X [(5, .int v15), (4, .int v14), (0, .ref a0), (1, .int p1), (2, .int p2), (3, .int p3)] dX11_year_32 (by decide) rfl ?_
        have Lp18 : ∀ (nLp18 : Nat) (τ18 : zS) (x16 : Int32) (x17 : Int32), zJ κ L kd τ18 → zSame a0 [47, 50, 51, 56] [145, 146, 149, 152, 153, 154, 155] L kd σ τ18 → gE a0 τ18 → gH a0 τ18 → gL a0 τ18 → gN a0 τ18 → R = F_X11_year_34 a0 p1 p2 p3  nLp18 x16 x17 τ18 → 0 ≤ x16.toInt ∧ x16.toInt ≤ 2147483647 → (2147483647) - x16.toInt + 1 < (nLp18 : Int) → zG d L kd A 6 p l e (k2_rm 6 (100 * 6)) s m args below meth c Q τ18 34 [(5, .int x16), (4, .int x17), (0, .ref a0), (1, .int p1), (2, .int p2), (3, .int p3)] [] := by
          intro nLp18
          induction nLp18 with
          | zero => intro τ18 x16 x17 hI hS gE_Lp18 gH_Lp18 gL_Lp18 gN_Lp18 E  hxLp18 hm ; exact absurd hm (by omega)
          | succ nLp18 ihLp18 =>
            intro τ18 x16 x17 hI hS gE_Lp18 gH_Lp18 gL_Lp18 gN_Lp18 E  hxLp18 hmLp18 
            rw [F_X11_year_34] at E
            refine zg_iload X 0 rfl dX11_year_34 ?_
            refine zg_iload_n X 5 rfl dX11_year_36 ?_
            have zx16_z19 := zb_rng x16
            have zp3_z20 := zb_rng p3
            refine zg_icmp_ge X 77 dX11_year_37 (by decide) (fun c21 => ?_) (fun c21 => ?_)
            · skip
              replace E := zIf_f (Int.not_lt.mpr c21) E
              refine zg_iload X 1 rfl dX11_year_77 ?_
              exact ret _ _ _ _ dX11_year_79 rfl ⟨E.symm.trans hR, ⟨⟨gN_Lp18, gH_Lp18, gE_Lp18, gL_Lp18⟩, hI, hS⟩⟩
            · skip
              replace E := zIf_t c21 E
              refine zg_aload_n X 2 rfl dX11_year_40 ?_
              refine zg_cVv (As := []) (st := []) X ha0 rfl (by decide) rfl (t_X11_copies l d L kd κ _ hI a0 ha0    gN_Lp18 gL_Lp18) mk_X11_332 mc_X11_copies mz_X11 mi_X11_copies ml_X11_copies (na := 0) ⟨md_X11.1, md_X11.2, by decide +kernel⟩ rfl ⟨by decide, by decide⟩ (Nat.le_of_ble_eq_true rfl) dX11_year_41 (fun t22 hq => ?_)
              obtain ⟨hF, ⟨ht22_fact0, gRt22, gBt22⟩, hI, g23⟩ := hq
              replace E := zLet_s hF E
              have hS := hS.tr g23 (by decide) (by decide)
              have gEt22 := gE.same hI ha0 g23 (by decide) gE_Lp18
              have gHt22 := gH.same hI ha0 g23 (by decide) gH_Lp18
              have gLt22 := gL.same hI ha0 g23 (by decide) gL_Lp18
              have gNt22 := gN.same hI ha0 g23 (by decide) gN_Lp18
              refine zg_aload_n X 2 rfl dX11_year_44 ?_
              refine zg_dup X dX11_year_45 rfl ?_
              refine fg_X11_320 X hI ha0 dX11_year_46 (fun v24 ev24 _ => ?_)
              replace E := zLet_s ev24 E
              refine zg_iload X 0 rfl dX11_year_49 ?_
              refine zg_iaddW X dX11_year_51 (fun v25 ev25 => ?_)
              replace E := zLet_s ev25 E
              refine fp_X11_320 X hI ha0 (zb_rng _) dX11_year_52 (fun s26 es26 hI => ?_)
              replace E := zLet_s es26 E
              have g27 := (zSame.rf (o := a0) (Wf := [50]) (Wa := []) (L := L) (kd := kd) (σ := t22)).f ha0 es26 rfl
              have hS := hS.tr g27 (by decide) (by decide)
              have gEs26 := gE.same hI ha0 g27 (by decide) gEt22
              have gHs26 := gH.same hI ha0 g27 (by decide) gHt22
              have gLs26 := gL.same hI ha0 g27 (by decide) gLt22
              have gNs26 := gN.same hI ha0 g27 (by decide) gNt22
              have gRs26 := gR.same hI ha0 g27 (by decide) gRt22
              have gBs26 := gB.same hI ha0 g27 (by decide) gBt22
              have fs26_50 : (s26.1 a0 50).toInt = v25.toInt := by rw [es26]; exact congrArg _ (zu_s _ _ _ _)
              have e28 : v25 = s26.1 a0 50 := by rw [es26]; exact zm_s
              refine zg_aload_n X 2 rfl dX11_year_55 ?_
              refine zg_iload_n X 4 rfl dX11_year_56 ?_
              refine zg_cVv (As := [.int p2]) (st := []) X ha0 rfl (by decide) rfl (t_X11_goes l d L kd κ _ hI a0 ha0 p2   gRs26 gLs26) mk_X11_405 mc_X11_goes mz_X11 mi_X11_goes ml_X11_goes (na := 1) ⟨md_X11.1, md_X11.2, by decide +kernel⟩ rfl ⟨by decide, by decide⟩ (Nat.le_of_ble_eq_true rfl) dX11_year_57 (fun t29 hq => ?_)
              obtain ⟨hF, gRt29, hI, g30⟩ := hq
              replace E := zLet_s hF E
              have hS := hS.tr g30 (by decide) (by decide)
              have gEt29 := gE.same hI ha0 g30 (by decide) gEs26
              have gHt29 := gH.same hI ha0 g30 (by decide) gHs26
              have gLt29 := gL.same hI ha0 g30 (by decide) gLs26
              have gNt29 := gN.same hI ha0 g30 (by decide) gNs26
              refine zg_aload_n X 2 rfl dX11_year_60 ?_
              refine zg_iload_n X 3 rfl dX11_year_61 ?_
              refine zg_cVi (As := [.int p1]) (st := []) X ha0 rfl (by decide) rfl (t_X11_hasWonMost l d L kd κ _ hI a0 ha0 p1  (by omega)) mk_X11_445 mc_X11_hasWonMost mz_X11 mi_X11_hasWonMost ml_X11_hasWonMost (na := 1) ⟨md_X11.1, md_X11.2, by decide +kernel⟩ rfl ⟨by decide, by decide⟩ (Nat.le_of_ble_eq_true rfl) dX11_year_62 (fun v33 t32 hq => ?_)
              obtain ⟨⟨hF, ht32_res⟩, rfl⟩ := hq
              replace E := zLet_s hF E
              refine zg_if_eq X 71 dX11_year_65 (by decide) (fun c34 => ?_) (fun c34 => ?_)
              · skip
                replace E := zIf_t c34 E
                refine zg_iinc X 1 (fun v35 => [(5, .int v35), (4, .int x17), (0, .ref a0), (1, .int p1), (2, .int p2), (3, .int p3)]) 0 dX11_year_71 rfl (by decide) (by decide) (by omega) (by omega) (fun _ => rfl) (fun v35 ev35 hv35 => ?_)
                replace E := zLet_s (zinc ev35 (by decide)) E
                refine zg_goto X 34 dX11_year_74 (by decide) ?_
                refine zg_sub [0, 1, 2, 3, 4, 5] rfl ?_
                exact ihLp18 _ v35 x17 hI hS gEt29 gHt29 gLt29 gNt29 E  (by omega) (by omega) 
              · skip
                replace E := zIf_f c34 E
                refine zg_iincW X (fun v36 => [(4, .int v36), (5, .int x16), (0, .ref a0), (1, .int p1), (2, .int p2), (3, .int p3)]) 1 dX11_year_68 rfl (by decide) (fun _ => rfl) (fun v36 ev36 => ?_)
                replace E := zLet_s (zinc ev36 (by decide)) E
                refine zg_iinc X 1 (fun v37 => [(5, .int v37), (4, .int v36), (0, .ref a0), (1, .int p1), (2, .int p2), (3, .int p3)]) 1 dX11_year_71 rfl (by decide) (by decide) (by omega) (by omega) (fun _ => rfl) (fun v37 ev37 hv37 => ?_)
                replace E := zLet_s (zinc ev37 (by decide)) E
                refine zg_goto X 34 dX11_year_74 (by decide) ?_
                refine zg_sub [0, 1, 2, 3, 4, 5] rfl ?_
                exact ihLp18 _ v37 v36 hI hS gEt29 gHt29 gLt29 gNt29 E  (by omega) (by omega) 
        have zrLp18 := zb_rng v15
        refine zg_sub [0, 1, 2, 3, 4, 5] rfl ?_
        exact Lp18 4294967299 _ v15 v14 hI hS gEt10 gHt10 gLt10 gNt10 E  (by omega) (by omega) 
      · skip
        replace E := zIf_t c13 E
        refine zg_iconst X (-1) dX11_year_26 (by decide) (fun v38 _ hv38 => ?_)
        replace E := zLet_s (zcst hv38 (by decide)) E
        exact ret _ _ _ _ dX11_year_27 rfl ⟨E.symm.trans hR, ⟨⟨gNt10, gHt10, gEt10, gLt10⟩, hI, hS⟩⟩
set_option maxHeartbeats 4000000 in
set_option maxRecDepth 100000 in
theorem t_X11_tell (l : Launch) (d : zD2) (L : List Nat) (kd : Nat → Nat) (κ : Int) (σ : zS) (hI : zJ κ L kd σ) (a0 : Nat) (ha0 : zT L kd a0 11) (p1 : Int32) (p2 : Int32) (p3 : Int32) (p4 : Int32) (hq0 : 0 ≤ p4.toInt ∧ p4.toInt ≤ 1) (hgN : gN a0 σ) (hgH : gH a0 σ) (hgE : gE a0 σ) (hgL : gL a0 σ) : zMi l yX11_tell (Cond.code yX11_tell cX11_tell 5 (some .int) :: zWL) 2 [.ref a0, .int p1, .int p2, .int p3, .int p4] d L kd σ (fun v σ2 => (v, σ2) = F_X11_tell a0 p1 p2 p3 p4 σ ∧ (((gN a0 σ2) ∧ (gH a0 σ2) ∧ (gE a0 σ2) ∧ (gL a0 σ2)) ∧ zJ κ L kd σ2 ∧ zSame a0 [62] [163, 164, 165, 166] L kd σ σ2)) := by
  refine zMi.of (own := RX11) (by decide +kernel) rfl rfl (Nat.le_of_ble_eq_true rfl) ?_
  intro p e s m args below meth c A Q X ret
  have hS : zSame a0 [62] [163, 164, 165, 166] L kd σ σ := zSame.rf
  refine zg_lv (lv2 := [(0, .ref a0), (1, .int p1), (2, .int p2), (3, .int p3), (4, .int p4)]) rfl ?_
  have zm := zM_in hI ha0
  obtain ⟨R, hR⟩ : ∃ R, R = F_X11_tell a0 p1 p2 p3 p4 σ := ⟨_, rfl⟩
  have E := hR
  unfold F_X11_tell at E
  refine zg_aload_n X 0 rfl dX11_tell_0 ?_
  refine fg_X11_261 X hI ha0 dX11_tell_1 (fun v1 ev1 hv1 => ?_)
  replace E := zLet_s ev1 E
  refine zg_bipush X 20 dX11_tell_4 (by decide) (fun v2 _ hv2 => ?_)
  replace E := zLet_s (zcst hv2 (by decide)) E
  refine zg_icmp_eq X 39 dX11_tell_6 (by decide) (fun c3 => ?_) (fun c3 => ?_)
  · skip
    replace E := zIf_t c3 E
    refine zg_iconst X (-1) dX11_tell_39 (by decide) (fun v4 _ hv4 => ?_)
    replace E := zLet_s (zcst hv4 (by decide)) E
    exact ret _ _ _ _ dX11_tell_40 rfl ⟨E.symm.trans hR, ⟨⟨hgN, hgH, hgE, hgL⟩, hI, hS⟩⟩
  · skip
    replace E := zIf_f c3 E
    refine zg_aload_n X 0 rfl dX11_tell_9 ?_
    refine zg_iload_n X 1 rfl dX11_tell_10 ?_
    refine zg_cVi (As := [.int p1]) (st := []) X ha0 rfl (by decide) rfl (t_X11_isPlace l d L kd κ _ hI a0 ha0 p1  ) mk_X11_383 mc_X11_isPlace mz_X11 mi_X11_isPlace ml_X11_isPlace (na := 1) ⟨md_X11.1, md_X11.2, by decide +kernel⟩ rfl ⟨by decide, by decide⟩ (Nat.le_of_ble_eq_true rfl) dX11_tell_11 (fun v6 t5 hq => ?_)
    obtain ⟨⟨hF, ⟨ht5_res, ht5_fact0⟩⟩, rfl⟩ := hq
    replace E := zLet_s hF E
    refine zg_if_eq X 39 dX11_tell_14 (by decide) (fun c7 => ?_) (fun c7 => ?_)
    · skip
      replace E := zIf_t c7 E
      refine zg_iconst X (-1) dX11_tell_39 (by decide) (fun v8 _ hv8 => ?_)
      replace E := zLet_s (zcst hv8 (by decide)) E
      exact ret _ _ _ _ dX11_tell_40 rfl ⟨E.symm.trans hR, ⟨⟨hgN, hgH, hgE, hgL⟩, hI, hS⟩⟩
    · skip
      replace E := zIf_f c7 E
      refine zg_iload_n X 2 rfl dX11_tell_17 ?_
      refine zg_iconst X 0 dX11_tell_18 (by decide) (fun v9 _ hv9 => ?_)
      replace E := zLet_s (zcst hv9 (by decide)) E
      refine zg_sipush X 9999 dX11_tell_19 (by decide) (fun v10 _ hv10 => ?_)
      replace E := zLet_s (zcst hv10 (by decide)) E
      refine zg_cSi (As := [.int p2, .int v9, .int v10]) (st := []) X (t_X11_in l d L kd _ p2 v9 v10 ) mk_X11_316 mc_X11_in mz_X11 ms_X11_in (na := 3) ⟨md_X11.1, md_X11.2, by decide +kernel⟩ rfl ⟨by decide, by decide⟩ (Nat.le_of_ble_eq_true rfl) dX11_tell_22 (fun v11 σ2 hq => ?_)
      obtain ⟨⟨hF, hv11⟩, rfl⟩ := hq
      replace E := zLet_s hF E
      refine zg_if_eq X 39 dX11_tell_25 (by decide) (fun c12 => ?_) (fun c12 => ?_)
      · skip
        replace E := zIf_t c12 E
        refine zg_iconst X (-1) dX11_tell_39 (by decide) (fun v13 _ hv13 => ?_)
        replace E := zLet_s (zcst hv13 (by decide)) E
        exact ret _ _ _ _ dX11_tell_40 rfl ⟨E.symm.trans hR, ⟨⟨hgN, hgH, hgE, hgL⟩, hI, hS⟩⟩
      · skip
        replace E := zIf_f c12 E
        refine zg_iload_n X 3 rfl dX11_tell_28 ?_
        refine zg_iload_n X 2 rfl dX11_tell_29 ?_
        refine zg_sipush X 9999 dX11_tell_30 (by decide) (fun v14 _ hv14 => ?_)
        replace E := zLet_s (zcst hv14 (by decide)) E
        refine zg_cSi (As := [.int p3, .int p2, .int v14]) (st := []) X (t_X11_in l d L kd _ p3 p2 v14 ) mk_X11_316 mc_X11_in mz_X11 ms_X11_in (na := 3) ⟨md_X11.1, md_X11.2, by decide +kernel⟩ rfl ⟨by decide, by decide⟩ (Nat.le_of_ble_eq_true rfl) dX11_tell_33 (fun v15 σ2 hq => ?_)
        obtain ⟨⟨hF, hv15⟩, rfl⟩ := hq
        replace E := zLet_s hF E
        refine zg_if_ne X 41 dX11_tell_36 (by decide) (fun c16 => ?_) (fun c16 => ?_)
        · skip
          replace E := zIf_f c16 E
          refine zg_aload_n X 0 rfl dX11_tell_41 ?_
          refine fg_X11_137 X hI ha0 dX11_tell_42 (fun v17 ev17 hv17 => ?_)
          replace E := zLet_s (zgr ev17) E
          refine zg_aload_n X 0 rfl dX11_tell_45 ?_
          refine fg_X11_261 X hI ha0 dX11_tell_46 (fun v18 ev18 hv18 => ?_)
          replace E := zLet_s ev18 E
          have mv18 : v18.toInt = v1.toInt := by rw [ev18, ← ev1]
          refine zg_iload_n X 1 rfl dX11_tell_49 ?_
          refine as_163 X hI hv17 (by omega) (by omega) ⟨by omega, by omega⟩ dX11_tell_50 (fun s19 es19 hI => ?_)
          replace E := zLet_s es19 E
          have g20 := (zSame.rf (o := a0) (Wf := []) (Wa := [163]) (L := L) (kd := kd) (σ := σ)).a ha0 hv17 es19 rfl (by decide)
          have hS := hS.tr g20 (by decide) (by decide)
          have gNs19 := gN.same hI ha0 g20 (by decide) hgN
          have gHs19 := gH.same hI ha0 g20 (by decide) hgH
          have gEs19 := gE.same hI ha0 g20 (by decide) hgE
          have gLs19 := gL.same hI ha0 g20 (by decide) hgL
          have e21 := g20.v ev18 (by decide)
          refine zg_aload_n X 0 rfl dX11_tell_51 ?_
          refine fg_X11_140 X hI ha0 dX11_tell_52 (fun v22 ev22 hv22 => ?_)
          replace E := zLet_s (zgr ev22) E
          refine zg_aload_n X 0 rfl dX11_tell_55 ?_
          refine fg_X11_261 X hI ha0 dX11_tell_56 (fun v23 ev23 hv23 => ?_)
          replace E := zLet_s ev23 E
          have mv23 : v23.toInt = v18.toInt := by rw [ev23, ← e21]
          refine zg_iload_n X 2 rfl dX11_tell_59 ?_
          refine as_164 X hI hv22 (by omega) (by omega) dX11_tell_60 (fun s24 es24 hI => ?_)
          replace E := zLet_s es24 E
          have g25 := (zSame.rf (o := a0) (Wf := []) (Wa := [164]) (L := L) (kd := kd) (σ := s19)).a ha0 hv22 es24 rfl (by decide)
          have hS := hS.tr g25 (by decide) (by decide)
          have gNs24 := gN.same hI ha0 g25 (by decide) gNs19
          have gHs24 := gH.same hI ha0 g25 (by decide) gHs19
          have gEs24 := gE.same hI ha0 g25 (by decide) gEs19
          have gLs24 := gL.same hI ha0 g25 (by decide) gLs19
          have e26 := g25.v ev23 (by decide)
          refine zg_aload_n X 0 rfl dX11_tell_61 ?_
          refine fg_X11_143 X hI ha0 dX11_tell_62 (fun v27 ev27 hv27 => ?_)
          replace E := zLet_s (zgr ev27) E
          refine zg_aload_n X 0 rfl dX11_tell_65 ?_
          refine fg_X11_261 X hI ha0 dX11_tell_66 (fun v28 ev28 hv28 => ?_)
          replace E := zLet_s ev28 E
          have mv28 : v28.toInt = v23.toInt := by rw [ev28, ← e26]
          refine zg_iload_n X 3 rfl dX11_tell_69 ?_
          refine as_165 X hI hv27 (by omega) (by omega) dX11_tell_70 (fun s29 es29 hI => ?_)
          replace E := zLet_s es29 E
          have g30 := (zSame.rf (o := a0) (Wf := []) (Wa := [165]) (L := L) (kd := kd) (σ := s24)).a ha0 hv27 es29 rfl (by decide)
          have hS := hS.tr g30 (by decide) (by decide)
          have gNs29 := gN.same hI ha0 g30 (by decide) gNs24
          have gHs29 := gH.same hI ha0 g30 (by decide) gHs24
          have gEs29 := gE.same hI ha0 g30 (by decide) gEs24
          have gLs29 := gL.same hI ha0 g30 (by decide) gLs24
          have e31 := g30.v ev28 (by decide)
          refine zg_aload_n X 0 rfl dX11_tell_71 ?_
          refine fg_X11_146 X hI ha0 dX11_tell_72 (fun v32 ev32 hv32 => ?_)
          replace E := zLet_s (zgr ev32) E
          refine zg_aload_n X 0 rfl dX11_tell_75 ?_
          refine fg_X11_261 X hI ha0 dX11_tell_76 (fun v33 ev33 hv33 => ?_)
          replace E := zLet_s ev33 E
          have mv33 : v33.toInt = v28.toInt := by rw [ev33, ← e31]
          refine zg_iload X 4 rfl dX11_tell_79 ?_
          refine as_166 X hI hv32 (by omega) (by omega) ⟨by omega, by omega⟩ dX11_tell_81 (fun s34 es34 hI => ?_)
          replace E := zLet_s es34 E
          have g35 := (zSame.rf (o := a0) (Wf := []) (Wa := [166]) (L := L) (kd := kd) (σ := s29)).a ha0 hv32 es34 rfl (by decide)
          have hS := hS.tr g35 (by decide) (by decide)
          have gNs34 := gN.same hI ha0 g35 (by decide) gNs29
          have gHs34 := gH.same hI ha0 g35 (by decide) gHs29
          have gEs34 := gE.same hI ha0 g35 (by decide) gEs29
          have gLs34 := gL.same hI ha0 g35 (by decide) gLs29
          have e36 := g35.v ev33 (by decide)
          refine zg_aload_n X 0 rfl dX11_tell_82 ?_
          refine zg_dup X dX11_tell_83 rfl ?_
          refine fg_X11_261 X hI ha0 dX11_tell_84 (fun v37 ev37 hv37 => ?_)
          replace E := zLet_s ev37 E
          have mv37 : v37.toInt = v33.toInt := by rw [ev37, ← e36]
          refine zg_iconst X 1 dX11_tell_87 (by decide) (fun v38 _ hv38 => ?_)
          replace E := zLet_s (zcst hv38 (by decide)) E
          refine zg_iadd X dX11_tell_88 (by omega) (by omega) (fun v39 ev39 hv39 => ?_)
          replace E := zLet_s ev39 E
          refine fp_X11_261 X hI ha0 ⟨by omega, by omega⟩ dX11_tell_89 (fun s40 es40 hI => ?_)
          replace E := zLet_s es40 E
          have g41 := (zSame.rf (o := a0) (Wf := [62]) (Wa := []) (L := L) (kd := kd) (σ := s34)).f ha0 es40 rfl
          have hS := hS.tr g41 (by decide) (by decide)
          have gNs40 := gN.same hI ha0 g41 (by decide) gNs34
          have gHs40 := gH.same hI ha0 g41 (by decide) gHs34
          have gEs40 := gE.same hI ha0 g41 (by decide) gEs34
          have gLs40 := gL.same hI ha0 g41 (by decide) gLs34
          have fs40_62 : (s40.1 a0 62).toInt = v39.toInt := by rw [es40]; exact congrArg _ (zu_s _ _ _ _)
          have e42 : v39 = s40.1 a0 62 := by rw [es40]; exact zm_s
          refine zg_aload_n X 0 rfl dX11_tell_92 ?_
          refine fg_X11_261 X hI ha0 dX11_tell_93 (fun v43 ev43 hv43 => ?_)
          replace E := zLet_s ev43 E
          have mv43 : v43.toInt = v39.toInt := by rw [ev43, ← e42]
          refine zg_iconst X 1 dX11_tell_96 (by decide) (fun v44 _ hv44 => ?_)
          replace E := zLet_s (zcst hv44 (by decide)) E
          refine zg_isub X dX11_tell_97 (by omega) (by omega) (fun v45 ev45 hv45 => ?_)
          replace E := zLet_s ev45 E
          exact ret _ _ _ _ dX11_tell_98 rfl ⟨E.symm.trans hR, ⟨⟨gNs40, gHs40, gEs40, gLs40⟩, hI, hS⟩⟩
        · skip
          replace E := zIf_t c16 E
          refine zg_iconst X (-1) dX11_tell_39 (by decide) (fun v46 _ hv46 => ?_)
          replace E := zLet_s (zcst hv46 (by decide)) E
          exact ret _ _ _ _ dX11_tell_40 rfl ⟨E.symm.trans hR, ⟨⟨hgN, hgH, hgE, hgL⟩, hI, hS⟩⟩
set_option maxHeartbeats 4000000 in
set_option maxRecDepth 100000 in
theorem t_X11_comesBy (l : Launch) (d : zD2) (L : List Nat) (kd : Nat → Nat) (κ : Int) (σ : zS) (hI : zJ κ L kd σ) (a0 : Nat) (ha0 : zT L kd a0 11) (p1 : Int32) (p2 : Int32) (hq0 : 0 ≤ p1.toInt ∧ p1.toInt ≤ 11) (hq1 : 0 ≤ p2.toInt ∧ p2.toInt ≤ 19) : zMi l yX11_comesBy (Cond.code yX11_comesBy cX11_comesBy 4 (some .boolean) :: zWL) 1 [.ref a0, .int p1, .int p2] d L kd σ (fun v σ2 => (v = F_X11_comesBy a0 p1 p2 σ ∧ ((0 ≤ v.toInt ∧ v.toInt ≤ 1))) ∧ σ = σ2) := by
  refine zMi.of (own := RX11) (by decide +kernel) rfl rfl (Nat.le_of_ble_eq_true rfl) ?_
  intro p e s m args below meth c A Q X ret
  refine zg_lv (lv2 := [(0, .ref a0), (1, .int p1), (2, .int p2)]) rfl ?_
  obtain ⟨R, hR⟩ : ∃ R, R = F_X11_comesBy a0 p1 p2 σ := ⟨_, rfl⟩
  have E := hR
  unfold F_X11_comesBy at E
  refine zg_aload_n X 0 rfl dX11_comesBy_0 ?_
  refine fg_X11_137 X hI ha0 dX11_comesBy_1 (fun v1 ev1 hv1 => ?_)
  replace E := zLet_s (zgr ev1) E
  refine zg_iload_n X 2 rfl dX11_comesBy_4 ?_
  refine ag_163 X hI hv1 (by omega) (by omega) dX11_comesBy_5 (fun v2 ev2 hv2 => ?_)
  replace E := zLet_s ev2 E
  refine zg_istore_n X [(3, .int v2), (0, .ref a0), (1, .int p1), (2, .int p2)] dX11_comesBy_6 (by decide) rfl ?_
  refine zg_aload_n X 1 rfl dX11_comesBy_7 ?_
  refine fg_X11_119 X hI ha0 dX11_comesBy_8 (fun v3 ev3 hv3 => ?_)
  replace E := zLet_s (zgr ev3) E
  refine zg_iload_n X 0 rfl dX11_comesBy_11 ?_
  refine ag_154 X hI hv3 (by omega) (by omega) dX11_comesBy_12 (fun v4 ev4 _ => ?_)
  replace E := zLet_s ev4 E
  refine zg_iload_n X 2 rfl dX11_comesBy_13 ?_
  refine zg_ishrW X dX11_comesBy_14 (fun v5 ev5 => ?_)
  replace E := zLet_s ev5 E
  refine zg_iconst X 1 dX11_comesBy_15 (by decide) (fun v6 _ hv6 => ?_)
  replace E := zLet_s (zcst hv6 (by decide)) E
  refine zg_iandW X dX11_comesBy_16 (fun v7 ev7 => ?_)
  replace E := zLet_s ev7 E
  refine zg_iconst X 1 dX11_comesBy_17 (by decide) (fun v8 _ hv8 => ?_)
  replace E := zLet_s (zcst hv8 (by decide)) E
  refine zg_icmp_ne X 56 dX11_comesBy_18 (by decide) (fun c9 => ?_) (fun c9 => ?_)
  · skip
    replace E := zIf_f c9 E
    refine zg_iconst X 0 dX11_comesBy_56 (by decide) (fun v10 _ hv10 => ?_)
    replace E := zLet_s (zcst hv10 (by decide)) E
    exact ret _ _ _ _ dX11_comesBy_57 (zb_bool ⟨by omega, by omega⟩) ⟨⟨E.symm.trans hR, ⟨by omega, by omega⟩⟩, rfl⟩
  · skip
    replace E := zIf_t c9 E
    refine zg_aload_n X 1 rfl dX11_comesBy_21 ?_
    refine fg_X11_113 X hI ha0 dX11_comesBy_22 (fun v11 ev11 hv11 => ?_)
    replace E := zLet_s (zgr ev11) E
    refine zg_iload_n X 2 rfl dX11_comesBy_25 ?_
    refine ag_152 X hI hv11 (by omega) (by omega) dX11_comesBy_26 (fun v12 ev12 _ => ?_)
    replace E := zLet_s ev12 E
    refine zg_aload_n X 1 rfl dX11_comesBy_27 ?_
    refine fg_X11_113 X hI ha0 dX11_comesBy_28 (fun v13 ev13 hv13 => ?_)
    replace E := zLet_s (zgr ev13) E
    refine zg_iload_n X 0 rfl dX11_comesBy_31 ?_
    refine ag_152 X hI hv13 (by omega) (by omega) dX11_comesBy_32 (fun v14 ev14 _ => ?_)
    replace E := zLet_s ev14 E
    refine zg_isubW X dX11_comesBy_33 (fun v15 ev15 => ?_)
    replace E := zLet_s ev15 E
    refine zg_aload_n X 1 rfl dX11_comesBy_34 ?_
    refine fg_X11_140 X hI ha0 dX11_comesBy_35 (fun v16 ev16 hv16 => ?_)
    replace E := zLet_s (zgr ev16) E
    refine zg_iload_n X 3 rfl dX11_comesBy_38 ?_
    refine ag_164 X hI hv16 (by omega) (by omega) dX11_comesBy_39 (fun v17 ev17 _ => ?_)
    replace E := zLet_s ev17 E
    refine zg_aload_n X 1 rfl dX11_comesBy_40 ?_
    refine fg_X11_143 X hI ha0 dX11_comesBy_41 (fun v18 ev18 hv18 => ?_)
    replace E := zLet_s (zgr ev18) E
    refine zg_iload_n X 3 rfl dX11_comesBy_44 ?_
    refine ag_165 X hI hv18 (by omega) (by omega) dX11_comesBy_45 (fun v19 ev19 _ => ?_)
    replace E := zLet_s ev19 E
    refine zg_cSi (As := [.int v15, .int v17, .int v19]) (st := []) X (t_X11_in l d L kd _ v15 v17 v19 ) mk_X11_316 mc_X11_in mz_X11 ms_X11_in (na := 3) ⟨md_X11.1, md_X11.2, by decide +kernel⟩ rfl ⟨by decide, by decide⟩ (Nat.le_of_ble_eq_true rfl) dX11_comesBy_46 (fun v20 σ2 hq => ?_)
    obtain ⟨⟨hF, hv20⟩, rfl⟩ := hq
    replace E := zLet_s hF E
    refine zg_if_eq X 56 dX11_comesBy_49 (by decide) (fun c21 => ?_) (fun c21 => ?_)
    · skip
      replace E := zIf_t c21 E
      refine zg_iconst X 0 dX11_comesBy_56 (by decide) (fun v22 _ hv22 => ?_)
      replace E := zLet_s (zcst hv22 (by decide)) E
      exact ret _ _ _ _ dX11_comesBy_57 (zb_bool ⟨by omega, by omega⟩) ⟨⟨E.symm.trans hR, ⟨by omega, by omega⟩⟩, rfl⟩
    · skip
      replace E := zIf_f c21 E
      refine zg_iconst X 1 dX11_comesBy_52 (by decide) (fun v23 _ hv23 => ?_)
      replace E := zLet_s (zcst hv23 (by decide)) E
      refine zg_goto X 57 dX11_comesBy_53 (by decide) ?_
      exact ret _ _ _ _ dX11_comesBy_57 (zb_bool ⟨by omega, by omega⟩) ⟨⟨E.symm.trans hR, ⟨by omega, by omega⟩⟩, rfl⟩
set_option maxHeartbeats 4000000 in
set_option maxRecDepth 100000 in
theorem t_X11_dyedBits (l : Launch) (d : zD2) (L : List Nat) (kd : Nat → Nat) (κ : Int) (σ : zS) (hI : zJ κ L kd σ) (a0 : Nat) (ha0 : zT L kd a0 11) (p1 : Int32) (hq0 : 0 ≤ p1.toInt ∧ p1.toInt ≤ 20) (hgN : gN a0 σ) (hgL : gL a0 σ) : zMi l yX11_dyedBits (Cond.code yX11_dyedBits cX11_dyedBits 6 (some .int) :: zWL) 5 [.ref a0, .int p1] d L kd σ (fun v σ2 => (v, σ2) = F_X11_dyedBits a0 p1 σ ∧ (zJ κ L kd σ2 ∧ zSame a0 [47, 50, 51] [145, 146, 149, 152, 153, 154, 155] L kd σ σ2)) := by
  refine zMi.of (own := RX11) (by decide +kernel) rfl rfl (Nat.le_of_ble_eq_true rfl) ?_
  intro p e s m args below meth c A Q X ret
  have hS : zSame a0 [47, 50, 51] [145, 146, 149, 152, 153, 154, 155] L kd σ σ := zSame.rf
  refine zg_lv (lv2 := [(0, .ref a0), (1, .int p1)]) rfl ?_
  obtain ⟨R, hR⟩ : ∃ R, R = F_X11_dyedBits a0 p1 σ := ⟨_, rfl⟩
  have E := hR
  unfold F_X11_dyedBits at E
  refine zg_aload_n X 0 rfl dX11_dyedBits_0 ?_
  refine zg_cVv (As := []) (st := []) X ha0 rfl (by decide) rfl (t_X11_copies l d L kd κ _ hI a0 ha0    hgN hgL) mk_X11_332 mc_X11_copies mz_X11 mi_X11_copies ml_X11_copies (na := 0) ⟨md_X11.1, md_X11.2, by decide +kernel⟩ rfl ⟨by decide, by decide⟩ (Nat.le_of_ble_eq_true rfl) dX11_dyedBits_1 (fun t1 hq => ?_)
  obtain ⟨hF, ⟨ht1_fact0, gRt1, gBt1⟩, hI, g2⟩ := hq
  replace E := zLet_s hF E
  have hS := hS.tr g2 (by decide) (by decide)
  have gNt1 := gN.same hI ha0 g2 (by decide) hgN
  have gLt1 := gL.same hI ha0 g2 (by decide) hgL
  refine zg_iconst X 0 dX11_dyedBits_4 (by decide) (fun v3 _ hv3 => ?_)
  replace E := zLet_s (zcst hv3 (by decide)) E
  refine zg_istore_n X [(2, .int v3), (0, .ref a0), (1, .int p1)] dX11_dyedBits_5 (by decide) rfl ?_
  refine zg_iconst X 1 dX11_dyedBits_6 (by decide) (fun v4 _ hv4 => ?_)
  replace E := zLet_s (zcst hv4 (by decide)) E
  refine zg_istore_n X [(3, .int v4), (2, .int v3), (0, .ref a0), (1, .int p1)] dX11_dyedBits_7 (by decide) rfl ?_
  have Lp7 : ∀ (nLp7 : Nat) (τ7 : zS) (x5 : Int32) (x6 : Int32), zJ κ L kd τ7 → zSame a0 [47, 50, 51] [145, 146, 149, 152, 153, 154, 155] L kd σ τ7 → gL a0 τ7 → gN a0 τ7 → R = F_X11_dyedBits_8 a0 p1  nLp7 x5 x6 τ7 → 1 ≤ x5.toInt ∧ x5.toInt ≤ 12 → (12) - x5.toInt + 1 < (nLp7 : Int) → zG d L kd A 6 p l e (k2_rm 5 (100 * 5)) s m args below meth c Q τ7 8 [(3, .int x5), (2, .int x6), (0, .ref a0), (1, .int p1)] [] := by
    intro nLp7
    induction nLp7 with
    | zero => intro τ7 x5 x6 hI hS gL_Lp7 gN_Lp7 E  hxLp7 hm ; exact absurd hm (by omega)
    | succ nLp7 ihLp7 =>
      intro τ7 x5 x6 hI hS gL_Lp7 gN_Lp7 E  hxLp7 hmLp7 
      rw [F_X11_dyedBits_8] at E
      refine zg_iload_n X 0 rfl dX11_dyedBits_8 ?_
      refine zg_aload_n X 2 rfl dX11_dyedBits_9 ?_
      refine zg_cVi (As := []) (st := [.int x5]) X ha0 rfl (by decide) rfl (t_X11_many l d L kd κ _ hI a0 ha0   ) mk_X11_313 mc_X11_many mz_X11 mi_X11_many ml_X11_many (na := 0) ⟨md_X11.1, md_X11.2, by decide +kernel⟩ rfl ⟨by decide, by decide⟩ (Nat.le_of_ble_eq_true rfl) dX11_dyedBits_10 (fun v9 t8 hq => ?_)
      obtain ⟨⟨hF, ⟨ht8_res, ht8_fact0⟩⟩, rfl⟩ := hq
      replace E := zLet_s hF E
      refine zg_icmp_ge X 84 dX11_dyedBits_13 (by decide) (fun c10 => ?_) (fun c10 => ?_)
      · skip
        replace E := zIf_f (Int.not_lt.mpr c10) E
        refine zg_iload_n X 1 rfl dX11_dyedBits_84 ?_
        exact ret _ _ _ _ dX11_dyedBits_85 rfl ⟨E.symm.trans hR, ⟨hI, hS⟩⟩
      · skip
        replace E := zIf_t c10 E
        refine zg_aload_n X 2 rfl dX11_dyedBits_16 ?_
        refine zg_iload_n X 0 rfl dX11_dyedBits_17 ?_
        refine zg_cVi (As := [.int x5]) (st := []) X ha0 rfl (by decide) rfl (t_X11_isSource l d L kd κ _ hI a0 ha0 x5  ) mk_X11_342 mc_X11_isSource mz_X11 mi_X11_isSource ml_X11_isSource (na := 1) ⟨md_X11.1, md_X11.2, by decide +kernel⟩ rfl ⟨by decide, by decide⟩ (Nat.le_of_ble_eq_true rfl) dX11_dyedBits_18 (fun v12 t11 hq => ?_)
        obtain ⟨⟨hF, ⟨ht11_res, ht11_fact0, ht11_fact1, ht11_fact2⟩⟩, rfl⟩ := hq
        replace E := zLet_s hF E
        refine zg_istore X [(4, .int v12), (3, .int x5), (2, .int x6), (0, .ref a0), (1, .int p1)] dX11_dyedBits_21 (by decide) rfl ?_
        refine zg_iconst X 0 dX11_dyedBits_23 (by decide) (fun v13 _ hv13 => ?_)
        replace E := zLet_s (zcst hv13 (by decide)) E
        refine zg_istore X [(5, .int v13), (4, .int v12), (3, .int x5), (2, .int x6), (0, .ref a0), (1, .int p1)] dX11_dyedBits_24 (by decide) rfl ?_
        have Lp16 : ∀ (nLp16 : Nat) (τ16 : zS) (x14 : Int32) (x15 : Int32), zJ κ L kd τ16 → zSame a0 [47, 50, 51] [145, 146, 149, 152, 153, 154, 155] L kd σ τ16 → gL a0 τ16 → gN a0 τ16 → R = F_X11_dyedBits_26 x5 x6 a0 p1 (F_X11_dyedBits_8 a0 p1  nLp7) nLp16 x14 x15 τ16 → 0 ≤ x15.toInt ∧ x15.toInt ≤ 1 ∧ 0 ≤ x14.toInt ∧ x14.toInt ≤ 20 → (20) - x14.toInt + 1 < (nLp16 : Int) → zG d L kd A 6 p l e (k2_rm 5 (100 * 5)) s m args below meth c Q τ16 26 [(5, .int x14), (4, .int x15), (3, .int x5), (2, .int x6), (0, .ref a0), (1, .int p1)] [] := by
          intro nLp16
          induction nLp16 with
          | zero => intro τ16 x14 x15 hI hS gL_Lp16 gN_Lp16 E  hxLp16 hm ; exact absurd hm (by omega)
          | succ nLp16 ihLp16 =>
            intro τ16 x14 x15 hI hS gL_Lp16 gN_Lp16 E  hxLp16 hmLp16 
            rw [F_X11_dyedBits_26] at E
            refine zg_iload X 0 rfl dX11_dyedBits_26 ?_
            refine zg_iload_n X 5 rfl dX11_dyedBits_28 ?_
            refine zg_icmp_ge X 67 dX11_dyedBits_29 (by decide) (fun c17 => ?_) (fun c17 => ?_)
            · skip
              replace E := zIf_f (Int.not_lt.mpr c17) E
              refine zg_iload X 1 rfl dX11_dyedBits_67 ?_
              refine zg_if_eq X 78 dX11_dyedBits_69 (by decide) (fun c18 => ?_) (fun c18 => ?_)
              · skip
                replace E := zIf_t c18 E
                refine zg_iinc X 1 (fun v19 => [(3, .int v19), (5, .int x14), (4, .int x15), (2, .int x6), (0, .ref a0), (1, .int p1)]) 2 dX11_dyedBits_78 rfl (by decide) (by decide) (by omega) (by omega) (fun _ => rfl) (fun v19 ev19 hv19 => ?_)
                replace E := zLet_s (zinc ev19 (by decide)) E
                refine zg_goto X 8 dX11_dyedBits_81 (by decide) ?_
                refine zg_sub [0, 3, 4, 5] rfl ?_
                exact ihLp7 _ v19 x6 hI hS gL_Lp16 gN_Lp16 E  (by omega) (by omega) 
              · skip
                replace E := zIf_f c18 E
                refine zg_iload_n X 3 rfl dX11_dyedBits_72 ?_
                refine zg_iconst X 1 dX11_dyedBits_73 (by decide) (fun v20 _ hv20 => ?_)
                replace E := zLet_s (zcst hv20 (by decide)) E
                refine zg_iload_n X 2 rfl dX11_dyedBits_74 ?_
                refine zg_ishlW X dX11_dyedBits_75 (fun v21 ev21 => ?_)
                replace E := zLet_s ev21 E
                refine zg_iorW X dX11_dyedBits_76 (fun v22 ev22 => ?_)
                replace E := zLet_s ev22 E
                refine zg_istore_n X [(2, .int v22), (5, .int x14), (4, .int x15), (3, .int x5), (0, .ref a0), (1, .int p1)] dX11_dyedBits_77 (by decide) rfl ?_
                refine zg_iinc X 1 (fun v23 => [(3, .int v23), (2, .int v22), (5, .int x14), (4, .int x15), (0, .ref a0), (1, .int p1)]) 3 dX11_dyedBits_78 rfl (by decide) (by decide) (by omega) (by omega) (fun _ => rfl) (fun v23 ev23 hv23 => ?_)
                replace E := zLet_s (zinc ev23 (by decide)) E
                refine zg_goto X 8 dX11_dyedBits_81 (by decide) ?_
                refine zg_sub [0, 1, 4, 5] rfl ?_
                exact ihLp7 _ v23 v22 hI hS gL_Lp16 gN_Lp16 E  (by omega) (by omega) 
            · skip
              replace E := zIf_t c17 E
              refine zg_iload X 1 rfl dX11_dyedBits_32 ?_
              refine zg_if_eq X 67 dX11_dyedBits_34 (by decide) (fun c24 => ?_) (fun c24 => ?_)
              · skip
                replace E := zIf_t c24 E
                refine zg_iload X 1 rfl dX11_dyedBits_67 ?_
                refine zg_if_eq X 78 dX11_dyedBits_69 (by decide) (fun c25 => ?_) (fun c25 => ?_)
                · skip
                  replace E := zIf_t c25 E
                  refine zg_iinc X 1 (fun v26 => [(3, .int v26), (5, .int x14), (4, .int x15), (2, .int x6), (0, .ref a0), (1, .int p1)]) 2 dX11_dyedBits_78 rfl (by decide) (by decide) (by omega) (by omega) (fun _ => rfl) (fun v26 ev26 hv26 => ?_)
                  replace E := zLet_s (zinc ev26 (by decide)) E
                  refine zg_goto X 8 dX11_dyedBits_81 (by decide) ?_
                  refine zg_sub [0, 3, 4, 5] rfl ?_
                  exact ihLp7 _ v26 x6 hI hS gL_Lp16 gN_Lp16 E  (by omega) (by omega) 
                · omega
              · skip
                replace E := zIf_f c24 E
                refine zg_aload_n X 4 rfl dX11_dyedBits_37 ?_
                refine zg_iload_n X 2 rfl dX11_dyedBits_38 ?_
                refine zg_iload X 0 rfl dX11_dyedBits_39 ?_
                refine zg_cVi (As := [.int x5, .int x14]) (st := []) X ha0 rfl (by decide) rfl (t_X11_comesBy l d L kd κ _ hI a0 ha0 x5 x14  (by omega) (by omega)) mk_X11_448 mc_X11_comesBy mz_X11 mi_X11_comesBy ml_X11_comesBy (na := 2) ⟨md_X11.1, md_X11.2, by decide +kernel⟩ rfl ⟨by decide, by decide⟩ (Nat.le_of_ble_eq_true rfl) dX11_dyedBits_41 (fun v28 t27 hq => ?_)
                obtain ⟨⟨hF, ht27_res⟩, rfl⟩ := hq
                replace E := zLet_s hF E
                refine zg_aload_n X 4 rfl dX11_dyedBits_44 ?_
                refine fg_X11_146 X hI ha0 dX11_dyedBits_45 (fun v29 ev29 hv29 => ?_)
                replace E := zLet_s (zgr ev29) E
                refine zg_iload X 0 rfl dX11_dyedBits_48 ?_
                refine ag_166 X hI hv29 (by omega) (by omega) dX11_dyedBits_50 (fun v30 ev30 hv30 => ?_)
                replace E := zLet_s ev30 E
                refine zg_icmp_ne X 58 dX11_dyedBits_51 (by decide) (fun c31 => ?_) (fun c31 => ?_)
                · skip
                  replace E := zIf_f c31 E
                  refine zg_iconst X 0 dX11_dyedBits_58 (by decide) (fun v32 _ hv32 => ?_)
                  replace E := zLet_s (zcst hv32 (by decide)) E
                  refine zg_istore X [(4, .int v32), (5, .int x14), (3, .int x5), (2, .int x6), (0, .ref a0), (1, .int p1)] dX11_dyedBits_59 (by decide) rfl ?_
                  refine zg_iinc X 1 (fun v33 => [(5, .int v33), (4, .int v32), (3, .int x5), (2, .int x6), (0, .ref a0), (1, .int p1)]) 1 dX11_dyedBits_61 rfl (by decide) (by decide) (by omega) (by omega) (fun _ => rfl) (fun v33 ev33 hv33 => ?_)
                  replace E := zLet_s (zinc ev33 (by decide)) E
                  refine zg_goto X 26 dX11_dyedBits_64 (by decide) ?_
                  refine zg_sub [0, 1, 2, 3, 4, 5] rfl ?_
                  exact ihLp16 _ v33 v32 hI hS gL_Lp16 gN_Lp16 E  (by omega) (by omega) 
                · skip
                  replace E := zIf_t c31 E
                  refine zg_iconst X 1 dX11_dyedBits_54 (by decide) (fun v34 _ hv34 => ?_)
                  replace E := zLet_s (zcst hv34 (by decide)) E
                  refine zg_goto X 59 dX11_dyedBits_55 (by decide) ?_
                  refine zg_istore X [(4, .int v34), (5, .int x14), (3, .int x5), (2, .int x6), (0, .ref a0), (1, .int p1)] dX11_dyedBits_59 (by decide) rfl ?_
                  refine zg_iinc X 1 (fun v35 => [(5, .int v35), (4, .int v34), (3, .int x5), (2, .int x6), (0, .ref a0), (1, .int p1)]) 1 dX11_dyedBits_61 rfl (by decide) (by decide) (by omega) (by omega) (fun _ => rfl) (fun v35 ev35 hv35 => ?_)
                  replace E := zLet_s (zinc ev35 (by decide)) E
                  refine zg_goto X 26 dX11_dyedBits_64 (by decide) ?_
                  refine zg_sub [0, 1, 2, 3, 4, 5] rfl ?_
                  exact ihLp16 _ v35 v34 hI hS gL_Lp16 gN_Lp16 E  (by omega) (by omega) 
        refine zg_sub [0, 1, 2, 3, 4, 5] rfl ?_
        exact Lp16 10000 _ v13 v12 hI hS gL_Lp7 gN_Lp7 E  (by omega) (by omega) 
  refine zg_sub [0, 1, 2, 3] rfl ?_
  exact Lp7 10000 _ v4 v3 hI hS gLt1 gNt1 E  (by omega) (by omega) 
set_option maxHeartbeats 4000000 in
set_option maxRecDepth 100000 in
theorem t_X11_dyed (l : Launch) (d : zD2) (L : List Nat) (kd : Nat → Nat) (κ : Int) (σ : zS) (hI : zJ κ L kd σ) (a0 : Nat) (ha0 : zT L kd a0 11) (p1 : Int32) (p2 : Int32) (hgN : gN a0 σ) (hgH : gH a0 σ) (hgE : gE a0 σ) (hgL : gL a0 σ) : zMi l yX11_dyed (Cond.code yX11_dyed cX11_dyed 4 (some .int) :: zWL) 6 [.ref a0, .int p1, .int p2] d L kd σ (fun v σ2 => (v, σ2) = F_X11_dyed a0 p1 p2 σ ∧ (((gN a0 σ2) ∧ (gH a0 σ2) ∧ (gE a0 σ2) ∧ (gL a0 σ2)) ∧ zJ κ L kd σ2 ∧ zSame a0 [47, 50, 51] [145, 146, 149, 152, 153, 154, 155] L kd σ σ2)) := by
  refine zMi.of (own := RX11) (by decide +kernel) rfl rfl (Nat.le_of_ble_eq_true rfl) ?_
  intro p e s m args below meth c A Q X ret
  have hS : zSame a0 [47, 50, 51] [145, 146, 149, 152, 153, 154, 155] L kd σ σ := zSame.rf
  refine zg_lv (lv2 := [(0, .ref a0), (1, .int p1), (2, .int p2)]) rfl ?_
  obtain ⟨R, hR⟩ : ∃ R, R = F_X11_dyed a0 p1 p2 σ := ⟨_, rfl⟩
  have E := hR
  unfold F_X11_dyed at E
  refine zg_iload_n X 1 rfl dX11_dyed_0 ?_
  refine zg_iconst X 0 dX11_dyed_1 (by decide) (fun v1 _ hv1 => ?_)
  replace E := zLet_s (zcst hv1 (by decide)) E
  refine zg_aload_n X 0 rfl dX11_dyed_2 ?_
  refine fg_X11_261 X hI ha0 dX11_dyed_3 (fun v2 ev2 hv2 => ?_)
  replace E := zLet_s ev2 E
  refine zg_cSi (As := [.int p1, .int v1, .int v2]) (st := []) X (t_X11_in l d L kd _ p1 v1 v2 ) mk_X11_316 mc_X11_in mz_X11 ms_X11_in (na := 3) ⟨md_X11.1, md_X11.2, by decide +kernel⟩ rfl ⟨by decide, by decide⟩ (Nat.le_of_ble_eq_true rfl) dX11_dyed_6 (fun v3 σ2 hq => ?_)
  obtain ⟨⟨hF, hv3⟩, rfl⟩ := hq
  replace E := zLet_s hF E
  refine zg_if_eq X 21 dX11_dyed_9 (by decide) (fun c4 => ?_) (fun c4 => ?_)
  · skip
    replace E := zIf_t c4 E
    refine zg_iconst X (-1) dX11_dyed_21 (by decide) (fun v5 _ hv5 => ?_)
    replace E := zLet_s (zcst hv5 (by decide)) E
    exact ret _ _ _ _ dX11_dyed_22 rfl ⟨E.symm.trans hR, ⟨⟨hgN, hgH, hgE, hgL⟩, hI, hS⟩⟩
  · skip
    replace E := zIf_f c4 E
    refine zg_iload_n X 2 rfl dX11_dyed_12 ?_
    refine zg_iconst X 0 dX11_dyed_13 (by decide) (fun v6 _ hv6 => ?_)
    replace E := zLet_s (zcst hv6 (by decide)) E
    refine zg_iconst X 1 dX11_dyed_14 (by decide) (fun v7 _ hv7 => ?_)
    replace E := zLet_s (zcst hv7 (by decide)) E
    refine zg_cSi (As := [.int p2, .int v6, .int v7]) (st := []) X (t_X11_in l d L kd _ p2 v6 v7 ) mk_X11_316 mc_X11_in mz_X11 ms_X11_in (na := 3) ⟨md_X11.1, md_X11.2, by decide +kernel⟩ rfl ⟨by decide, by decide⟩ (Nat.le_of_ble_eq_true rfl) dX11_dyed_15 (fun v8 σ2 hq => ?_)
    obtain ⟨⟨hF, hv8⟩, rfl⟩ := hq
    replace E := zLet_s hF E
    refine zg_if_ne X 23 dX11_dyed_18 (by decide) (fun c9 => ?_) (fun c9 => ?_)
    · skip
      replace E := zIf_f c9 E
      refine zg_aload_n X 0 rfl dX11_dyed_23 ?_
      refine zg_iload_n X 1 rfl dX11_dyed_24 ?_
      refine zg_cVi (As := [.int p1]) (st := []) X ha0 rfl (by decide) rfl (t_X11_dyedBits l d L kd κ _ hI a0 ha0 p1  (by omega) hgN hgL) mk_X11_451 mc_X11_dyedBits mz_X11 mi_X11_dyedBits ml_X11_dyedBits (na := 1) ⟨md_X11.1, md_X11.2, by decide +kernel⟩ rfl ⟨by decide, by decide⟩ (Nat.le_of_ble_eq_true rfl) dX11_dyed_25 (fun v11 t10 hq => ?_)
      obtain ⟨hF, hI, g12⟩ := hq
      replace E := zLet2_s hF E
      have hS := hS.tr g12 (by decide) (by decide)
      have gNt10 := gN.same hI ha0 g12 (by decide) hgN
      have gHt10 := gH.same hI ha0 g12 (by decide) hgH
      have gEt10 := gE.same hI ha0 g12 (by decide) hgE
      have gLt10 := gL.same hI ha0 g12 (by decide) hgL
      refine zg_istore_n X [(3, .int v11), (0, .ref a0), (1, .int p1), (2, .int p2)] dX11_dyed_28 (by decide) rfl ?_
      refine zg_iload_n X 3 rfl dX11_dyed_29 ?_
      refine zg_if_ne X 40 dX11_dyed_30 (by decide) (fun c14 => ?_) (fun c14 => ?_)
      · skip
        replace E := zIf_f c14 E
        refine zg_iload_n X 0 rfl dX11_dyed_40 ?_
        exact ret _ _ _ _ dX11_dyed_41 rfl ⟨E.symm.trans hR, ⟨⟨gNt10, gHt10, gEt10, gLt10⟩, hI, hS⟩⟩
      · skip
        replace E := zIf_t c14 E
        refine zg_iload_n X 0 rfl dX11_dyed_33 ?_
        refine zg_cSi (As := [.int v11]) (st := []) X (t_X11_bits l d L kd _ v11 ) mk_X11_345 mc_X11_bits mz_X11 ms_X11_bits (na := 1) ⟨md_X11.1, md_X11.2, by decide +kernel⟩ rfl ⟨by decide, by decide⟩ (Nat.le_of_ble_eq_true rfl) dX11_dyed_34 (fun v15 σ2 hq => ?_)
        obtain ⟨⟨hF, hv15⟩, rfl⟩ := hq
        replace E := zLet_s hF E
        refine zg_goto X 41 dX11_dyed_37 (by decide) ?_
        exact ret _ _ _ _ dX11_dyed_41 rfl ⟨E.symm.trans hR, ⟨⟨gNt10, gHt10, gEt10, gLt10⟩, hI, hS⟩⟩
    · skip
      replace E := zIf_t c9 E
      refine zg_iconst X (-1) dX11_dyed_21 (by decide) (fun v16 _ hv16 => ?_)
      replace E := zLet_s (zcst hv16 (by decide)) E
      exact ret _ _ _ _ dX11_dyed_22 rfl ⟨E.symm.trans hR, ⟨⟨hgN, hgH, hgE, hgL⟩, hI, hS⟩⟩
set_option maxHeartbeats 4000000 in
set_option maxRecDepth 100000 in
theorem t_X11_watch (l : Launch) (d : zD2) (L : List Nat) (kd : Nat → Nat) (κ : Int) (σ : zS) (hI : zJ κ L kd σ) (a0 : Nat) (ha0 : zT L kd a0 11) (p1 : Int32) (hgN : gN a0 σ) (hgH : gH a0 σ) (hgE : gE a0 σ) (hgL : gL a0 σ) : zMi l yX11_watch (Cond.code yX11_watch cX11_watch 8 (some .int) :: zWL) 6 [.ref a0, .int p1] d L kd σ (fun v σ2 => (v, σ2) = F_X11_watch a0 p1 σ ∧ (((gN a0 σ2) ∧ (gH a0 σ2) ∧ (gE a0 σ2) ∧ (gL a0 σ2)) ∧ zJ κ L kd σ2 ∧ zSame a0 [47, 50, 51] [145, 146, 149, 152, 153, 154, 155] L kd σ σ2)) := by
  refine zMi.of (own := RX11) (by decide +kernel) rfl rfl (Nat.le_of_ble_eq_true rfl) ?_
  intro p e s m args below meth c A Q X ret
  have hS : zSame a0 [47, 50, 51] [145, 146, 149, 152, 153, 154, 155] L kd σ σ := zSame.rf
  refine zg_lv (lv2 := [(0, .ref a0), (1, .int p1)]) rfl ?_
  have zm := zM_in hI ha0
  obtain ⟨R, hR⟩ : ∃ R, R = F_X11_watch a0 p1 σ := ⟨_, rfl⟩
  have E := hR
  unfold F_X11_watch at E
  refine zg_iload_n X 1 rfl dX11_watch_0 ?_
  refine zg_iconst X 0 dX11_watch_1 (by decide) (fun v1 _ hv1 => ?_)
  replace E := zLet_s (zcst hv1 (by decide)) E
  refine zg_aload_n X 0 rfl dX11_watch_2 ?_
  refine fg_X11_261 X hI ha0 dX11_watch_3 (fun v2 ev2 hv2 => ?_)
  replace E := zLet_s ev2 E
  refine zg_cSi (As := [.int p1, .int v1, .int v2]) (st := []) X (t_X11_in l d L kd _ p1 v1 v2 ) mk_X11_316 mc_X11_in mz_X11 ms_X11_in (na := 3) ⟨md_X11.1, md_X11.2, by decide +kernel⟩ rfl ⟨by decide, by decide⟩ (Nat.le_of_ble_eq_true rfl) dX11_watch_6 (fun v3 σ2 hq => ?_)
  obtain ⟨⟨hF, hv3⟩, rfl⟩ := hq
  replace E := zLet_s hF E
  refine zg_if_ne X 14 dX11_watch_9 (by decide) (fun c4 => ?_) (fun c4 => ?_)
  · skip
    replace E := zIf_f c4 E
    refine zg_aload_n X 0 rfl dX11_watch_14 ?_
    refine zg_iload_n X 1 rfl dX11_watch_15 ?_
    refine zg_cVi (As := [.int p1]) (st := []) X ha0 rfl (by decide) rfl (t_X11_dyedBits l d L kd κ _ hI a0 ha0 p1  (by omega) hgN hgL) mk_X11_451 mc_X11_dyedBits mz_X11 mi_X11_dyedBits ml_X11_dyedBits (na := 1) ⟨md_X11.1, md_X11.2, by decide +kernel⟩ rfl ⟨by decide, by decide⟩ (Nat.le_of_ble_eq_true rfl) dX11_watch_16 (fun v6 t5 hq => ?_)
    obtain ⟨hF, hI, g7⟩ := hq
    replace E := zLet2_s hF E
    have hS := hS.tr g7 (by decide) (by decide)
    have gNt5 := gN.same hI ha0 g7 (by decide) hgN
    have gHt5 := gH.same hI ha0 g7 (by decide) hgH
    have gEt5 := gE.same hI ha0 g7 (by decide) hgE
    have gLt5 := gL.same hI ha0 g7 (by decide) hgL
    refine zg_istore_n X [(2, .int v6), (0, .ref a0), (1, .int p1)] dX11_watch_19 (by decide) rfl ?_
    refine zg_bipush X (-2) dX11_watch_20 (by decide) (fun v9 _ hv9 => ?_)
    replace E := zLet_s (zcst hv9 (by decide)) E
    refine zg_istore_n X [(3, .int v9), (2, .int v6), (0, .ref a0), (1, .int p1)] dX11_watch_22 (by decide) rfl ?_
    refine zg_iconst X 0 dX11_watch_23 (by decide) (fun v10 _ hv10 => ?_)
    replace E := zLet_s (zcst hv10 (by decide)) E
    refine zg_istore X [(4, .int v10), (3, .int v9), (2, .int v6), (0, .ref a0), (1, .int p1)] dX11_watch_24 (by decide) rfl ?_
    refine zg_iconst X 0 dX11_watch_26 (by decide) (fun v11 _ hv11 => ?_)
    replace E := zLet_s (zcst hv11 (by decide)) E
    refine zg_istore X [(5, .int v11), (4, .int v10), (3, .int v9), (2, .int v6), (0, .ref a0), (1, .int p1)] dX11_watch_27 (by decide) rfl ?_
    have Lp15 : ∀ (nLp15 : Nat) (τ15 : zS) (x12 : Int32) (x13 : Int32) (x14 : Int32), zJ κ L kd τ15 → zSame a0 [47, 50, 51] [145, 146, 149, 152, 153, 154, 155] L kd σ τ15 → gE a0 τ15 → gH a0 τ15 → gL a0 τ15 → gN a0 τ15 → R = F_X11_watch_29 v6 a0 p1  nLp15 x12 x13 x14 τ15 → 0 ≤ x12.toInt ∧ x12.toInt ≤ 12 → (12) - x12.toInt + 1 < (nLp15 : Int) → zG d L kd A 8 p l e (k2_rm 6 (100 * 6)) s m args below meth c Q τ15 29 [(5, .int x12), (4, .int x13), (3, .int x14), (2, .int v6), (0, .ref a0), (1, .int p1)] [] := by
      intro nLp15
      induction nLp15 with
      | zero => intro τ15 x12 x13 x14 hI hS gE_Lp15 gH_Lp15 gL_Lp15 gN_Lp15 E  hxLp15 hm ; exact absurd hm (by omega)
      | succ nLp15 ihLp15 =>
        intro τ15 x12 x13 x14 hI hS gE_Lp15 gH_Lp15 gL_Lp15 gN_Lp15 E  hxLp15 hmLp15 
        rw [F_X11_watch_29] at E
        refine zg_iload X 0 rfl dX11_watch_29 ?_
        refine zg_aload_n X 4 rfl dX11_watch_31 ?_
        refine zg_cVi (As := []) (st := [.int x12]) X ha0 rfl (by decide) rfl (t_X11_many l d L kd κ _ hI a0 ha0   ) mk_X11_313 mc_X11_many mz_X11 mi_X11_many ml_X11_many (na := 0) ⟨md_X11.1, md_X11.2, by decide +kernel⟩ rfl ⟨by decide, by decide⟩ (Nat.le_of_ble_eq_true rfl) dX11_watch_32 (fun v17 t16 hq => ?_)
        obtain ⟨⟨hF, ⟨ht16_res, ht16_fact0⟩⟩, rfl⟩ := hq
        replace E := zLet_s hF E
        refine zg_icmp_ge X 109 dX11_watch_35 (by decide) (fun c18 => ?_) (fun c18 => ?_)
        · skip
          replace E := zIf_f (Int.not_lt.mpr c18) E
          refine zg_iload_n X 2 rfl dX11_watch_109 ?_
          exact ret _ _ _ _ dX11_watch_110 rfl ⟨E.symm.trans hR, ⟨⟨gN_Lp15, gH_Lp15, gE_Lp15, gL_Lp15⟩, hI, hS⟩⟩
        · skip
          replace E := zIf_t c18 E
          refine zg_iload_n X 3 rfl dX11_watch_38 ?_
          refine zg_if_eq X 109 dX11_watch_39 (by decide) (fun c19 => ?_) (fun c19 => ?_)
          · skip
            replace E := zIf_t c19 E
            refine zg_iload_n X 2 rfl dX11_watch_109 ?_
            exact ret _ _ _ _ dX11_watch_110 rfl ⟨E.symm.trans hR, ⟨⟨gN_Lp15, gH_Lp15, gE_Lp15, gL_Lp15⟩, hI, hS⟩⟩
          · skip
            replace E := zIf_f c19 E
            refine zg_iload_n X 3 rfl dX11_watch_42 ?_
            refine zg_aload_n X 4 rfl dX11_watch_43 ?_
            refine fg_X11_119 X hI ha0 dX11_watch_44 (fun v20 ev20 hv20 => ?_)
            replace E := zLet_s (zgr ev20) E
            refine zg_iload X 0 rfl dX11_watch_47 ?_
            refine ag_154 X hI hv20 (by omega) (by omega) dX11_watch_49 (fun v21 ev21 _ => ?_)
            replace E := zLet_s ev21 E
            refine zg_iandW X dX11_watch_50 (fun v22 ev22 => ?_)
            replace E := zLet_s ev22 E
            refine zg_cSi (As := [.int v22]) (st := []) X (t_X11_bits l d L kd _ v22 ) mk_X11_345 mc_X11_bits mz_X11 ms_X11_bits (na := 1) ⟨md_X11.1, md_X11.2, by decide +kernel⟩ rfl ⟨by decide, by decide⟩ (Nat.le_of_ble_eq_true rfl) dX11_watch_51 (fun v23 σ2 hq => ?_)
            obtain ⟨⟨hF, hv23⟩, rfl⟩ := hq
            replace E := zLet_s hF E
            refine zg_istore X [(6, .int v23), (5, .int x12), (4, .int x13), (3, .int x14), (2, .int v6), (0, .ref a0), (1, .int p1)] dX11_watch_54 (by decide) rfl ?_
            refine zg_iload X 0 rfl dX11_watch_56 ?_
            refine zg_iload_n X 4 rfl dX11_watch_58 ?_
            refine zg_cSi (As := [.int v6]) (st := [.int v23]) X (t_X11_bits l d L kd _ v6 ) mk_X11_345 mc_X11_bits mz_X11 ms_X11_bits (na := 1) ⟨md_X11.1, md_X11.2, by decide +kernel⟩ rfl ⟨by decide, by decide⟩ (Nat.le_of_ble_eq_true rfl) dX11_watch_59 (fun v24 σ2 hq => ?_)
            obtain ⟨⟨hF, hv24⟩, rfl⟩ := hq
            replace E := zLet_s hF E
            refine zg_iload X 0 rfl dX11_watch_62 ?_
            refine zg_isubW X dX11_watch_64 (fun v25 ev25 => ?_)
            replace E := zLet_s ev25 E
            have zv23_z26 := zb_rng v23
            have zv25_z27 := zb_rng v25
            refine zg_icmp_le X 73 dX11_watch_65 (by decide) (fun c28 => ?_) (fun c28 => ?_)
            · skip
              replace E := zIf_f (Int.not_lt.mpr c28) E
              refine zg_iload_n X 4 rfl dX11_watch_73 ?_
              refine zg_cSi (As := [.int v6]) (st := []) X (t_X11_bits l d L kd _ v6 ) mk_X11_345 mc_X11_bits mz_X11 ms_X11_bits (na := 1) ⟨md_X11.1, md_X11.2, by decide +kernel⟩ rfl ⟨by decide, by decide⟩ (Nat.le_of_ble_eq_true rfl) dX11_watch_74 (fun v29 σ2 hq => ?_)
              obtain ⟨⟨hF, hv29⟩, rfl⟩ := hq
              replace E := zLet_s hF E
              refine zg_iload X 0 rfl dX11_watch_77 ?_
              refine zg_isubW X dX11_watch_79 (fun v30 ev30 => ?_)
              replace E := zLet_s ev30 E
              refine zg_istore X [(7, .int v30), (6, .int v23), (5, .int x12), (4, .int x13), (3, .int x14), (2, .int v6), (0, .ref a0), (1, .int p1)] dX11_watch_80 (by decide) rfl ?_
              refine zg_iload_n X 4 rfl dX11_watch_82 ?_
              refine zg_if_lt X 96 dX11_watch_83 (by decide) (fun c31 => ?_) (fun c31 => ?_)
              · skip
                replace E := zIf_t c31 E
                refine zg_iload X 2 rfl dX11_watch_96 ?_
                refine zg_istore_n X [(3, .int x12), (7, .int v30), (6, .int v23), (5, .int x12), (4, .int x13), (2, .int v6), (0, .ref a0), (1, .int p1)] dX11_watch_98 (by decide) rfl ?_
                refine zg_iload X 1 rfl dX11_watch_99 ?_
                refine zg_istore X [(4, .int v30), (3, .int x12), (7, .int v30), (6, .int v23), (5, .int x12), (2, .int v6), (0, .ref a0), (1, .int p1)] dX11_watch_101 (by decide) rfl ?_
                refine zg_iinc X 1 (fun v32 => [(5, .int v32), (4, .int v30), (3, .int x12), (7, .int v30), (6, .int v23), (2, .int v6), (0, .ref a0), (1, .int p1)]) 4 dX11_watch_103 rfl (by decide) (by decide) (by omega) (by omega) (fun _ => rfl) (fun v32 ev32 hv32 => ?_)
                replace E := zLet_s (zinc ev32 (by decide)) E
                refine zg_goto X 29 dX11_watch_106 (by decide) ?_
                refine zg_sub [0, 1, 2, 5, 6, 7] rfl ?_
                exact ihLp15 _ v32 v30 x12 hI hS gE_Lp15 gH_Lp15 gL_Lp15 gN_Lp15 E  (by omega) (by omega) 
              · skip
                replace E := zIf_f (Int.not_lt.mpr c31) E
                refine zg_iload X 0 rfl dX11_watch_86 ?_
                refine zg_iload X 3 rfl dX11_watch_88 ?_
                have zv30_z33 := zb_rng v30
                have zx13_z34 := zb_rng x13
                refine zg_icmp_lt X 96 dX11_watch_90 (by decide) (fun c35 => ?_) (fun c35 => ?_)
                · skip
                  replace E := zIf_t c35 E
                  refine zg_iload X 2 rfl dX11_watch_96 ?_
                  refine zg_istore_n X [(3, .int x12), (7, .int v30), (6, .int v23), (5, .int x12), (4, .int x13), (2, .int v6), (0, .ref a0), (1, .int p1)] dX11_watch_98 (by decide) rfl ?_
                  refine zg_iload X 1 rfl dX11_watch_99 ?_
                  refine zg_istore X [(4, .int v30), (3, .int x12), (7, .int v30), (6, .int v23), (5, .int x12), (2, .int v6), (0, .ref a0), (1, .int p1)] dX11_watch_101 (by decide) rfl ?_
                  refine zg_iinc X 1 (fun v36 => [(5, .int v36), (4, .int v30), (3, .int x12), (7, .int v30), (6, .int v23), (2, .int v6), (0, .ref a0), (1, .int p1)]) 4 dX11_watch_103 rfl (by decide) (by decide) (by omega) (by omega) (fun _ => rfl) (fun v36 ev36 hv36 => ?_)
                  replace E := zLet_s (zinc ev36 (by decide)) E
                  refine zg_goto X 29 dX11_watch_106 (by decide) ?_
                  refine zg_sub [0, 1, 2, 5, 6, 7] rfl ?_
                  exact ihLp15 _ v36 v30 x12 hI hS gE_Lp15 gH_Lp15 gL_Lp15 gN_Lp15 E  (by omega) (by omega) 
                · skip
                  replace E := zIf_f (Int.not_lt.mpr c35) E
                  refine zg_goto X 103 dX11_watch_93 (by decide) ?_
                  refine zg_iinc X 1 (fun v37 => [(5, .int v37), (7, .int v30), (6, .int v23), (4, .int x13), (3, .int x14), (2, .int v6), (0, .ref a0), (1, .int p1)]) 2 dX11_watch_103 rfl (by decide) (by decide) (by omega) (by omega) (fun _ => rfl) (fun v37 ev37 hv37 => ?_)
                  replace E := zLet_s (zinc ev37 (by decide)) E
                  refine zg_goto X 29 dX11_watch_106 (by decide) ?_
                  refine zg_sub [0, 3, 4, 5, 6, 7] rfl ?_
                  exact ihLp15 _ v37 x13 x14 hI hS gE_Lp15 gH_Lp15 gL_Lp15 gN_Lp15 E  (by omega) (by omega) 
            · skip
              replace E := zIf_t c28 E
              refine zg_iload X 0 rfl dX11_watch_68 ?_
              refine zg_goto X 80 dX11_watch_70 (by decide) ?_
              refine zg_istore X [(7, .int v23), (6, .int v23), (5, .int x12), (4, .int x13), (3, .int x14), (2, .int v6), (0, .ref a0), (1, .int p1)] dX11_watch_80 (by decide) rfl ?_
              refine zg_iload_n X 4 rfl dX11_watch_82 ?_
              refine zg_if_lt X 96 dX11_watch_83 (by decide) (fun c38 => ?_) (fun c38 => ?_)
              · skip
                replace E := zIf_t c38 E
                refine zg_iload X 2 rfl dX11_watch_96 ?_
                refine zg_istore_n X [(3, .int x12), (7, .int v23), (6, .int v23), (5, .int x12), (4, .int x13), (2, .int v6), (0, .ref a0), (1, .int p1)] dX11_watch_98 (by decide) rfl ?_
                refine zg_iload X 1 rfl dX11_watch_99 ?_
                refine zg_istore X [(4, .int v23), (3, .int x12), (7, .int v23), (6, .int v23), (5, .int x12), (2, .int v6), (0, .ref a0), (1, .int p1)] dX11_watch_101 (by decide) rfl ?_
                refine zg_iinc X 1 (fun v39 => [(5, .int v39), (4, .int v23), (3, .int x12), (7, .int v23), (6, .int v23), (2, .int v6), (0, .ref a0), (1, .int p1)]) 4 dX11_watch_103 rfl (by decide) (by decide) (by omega) (by omega) (fun _ => rfl) (fun v39 ev39 hv39 => ?_)
                replace E := zLet_s (zinc ev39 (by decide)) E
                refine zg_goto X 29 dX11_watch_106 (by decide) ?_
                refine zg_sub [0, 1, 2, 5, 6, 7] rfl ?_
                exact ihLp15 _ v39 v23 x12 hI hS gE_Lp15 gH_Lp15 gL_Lp15 gN_Lp15 E  (by omega) (by omega) 
              · skip
                replace E := zIf_f (Int.not_lt.mpr c38) E
                refine zg_iload X 0 rfl dX11_watch_86 ?_
                refine zg_iload X 3 rfl dX11_watch_88 ?_
                have zv23_z40 := zb_rng v23
                have zx13_z41 := zb_rng x13
                refine zg_icmp_lt X 96 dX11_watch_90 (by decide) (fun c42 => ?_) (fun c42 => ?_)
                · skip
                  replace E := zIf_t c42 E
                  refine zg_iload X 2 rfl dX11_watch_96 ?_
                  refine zg_istore_n X [(3, .int x12), (7, .int v23), (6, .int v23), (5, .int x12), (4, .int x13), (2, .int v6), (0, .ref a0), (1, .int p1)] dX11_watch_98 (by decide) rfl ?_
                  refine zg_iload X 1 rfl dX11_watch_99 ?_
                  refine zg_istore X [(4, .int v23), (3, .int x12), (7, .int v23), (6, .int v23), (5, .int x12), (2, .int v6), (0, .ref a0), (1, .int p1)] dX11_watch_101 (by decide) rfl ?_
                  refine zg_iinc X 1 (fun v43 => [(5, .int v43), (4, .int v23), (3, .int x12), (7, .int v23), (6, .int v23), (2, .int v6), (0, .ref a0), (1, .int p1)]) 4 dX11_watch_103 rfl (by decide) (by decide) (by omega) (by omega) (fun _ => rfl) (fun v43 ev43 hv43 => ?_)
                  replace E := zLet_s (zinc ev43 (by decide)) E
                  refine zg_goto X 29 dX11_watch_106 (by decide) ?_
                  refine zg_sub [0, 1, 2, 5, 6, 7] rfl ?_
                  exact ihLp15 _ v43 v23 x12 hI hS gE_Lp15 gH_Lp15 gL_Lp15 gN_Lp15 E  (by omega) (by omega) 
                · skip
                  replace E := zIf_f (Int.not_lt.mpr c42) E
                  refine zg_goto X 103 dX11_watch_93 (by decide) ?_
                  refine zg_iinc X 1 (fun v44 => [(5, .int v44), (7, .int v23), (6, .int v23), (4, .int x13), (3, .int x14), (2, .int v6), (0, .ref a0), (1, .int p1)]) 2 dX11_watch_103 rfl (by decide) (by decide) (by omega) (by omega) (fun _ => rfl) (fun v44 ev44 hv44 => ?_)
                  replace E := zLet_s (zinc ev44 (by decide)) E
                  refine zg_goto X 29 dX11_watch_106 (by decide) ?_
                  refine zg_sub [0, 3, 4, 5, 6, 7] rfl ?_
                  exact ihLp15 _ v44 x13 x14 hI hS gE_Lp15 gH_Lp15 gL_Lp15 gN_Lp15 E  (by omega) (by omega) 
    refine zg_sub [0, 1, 2, 3, 4, 5] rfl ?_
    exact Lp15 10000 _ v11 v10 v9 hI hS gEt5 gHt5 gLt5 gNt5 E  (by omega) (by omega) 
  · skip
    replace E := zIf_t c4 E
    refine zg_iconst X (-1) dX11_watch_12 (by decide) (fun v45 _ hv45 => ?_)
    replace E := zLet_s (zcst hv45 (by decide)) E
    exact ret _ _ _ _ dX11_watch_13 rfl ⟨E.symm.trans hR, ⟨⟨hgN, hgH, hgE, hgL⟩, hI, hS⟩⟩
set_option maxHeartbeats 4000000 in
set_option maxRecDepth 100000 in
theorem t_X11_count (l : Launch) (d : zD2) (L : List Nat) (kd : Nat → Nat) (κ : Int) (σ : zS) (hI : zJ κ L kd σ) (a0 : Nat) (ha0 : zT L kd a0 11) (p1 : Int32) (hgN : gN a0 σ) (hgH : gH a0 σ) (hgE : gE a0 σ) (hgL : gL a0 σ) : zMi l yX11_count (Cond.code yX11_count cX11_count 4 (some .int) :: zWL) 5 [.ref a0, .int p1] d L kd σ (fun v σ2 => (v, σ2) = F_X11_count a0 p1 σ ∧ (((gN a0 σ2) ∧ (gH a0 σ2) ∧ (gE a0 σ2) ∧ (gL a0 σ2)) ∧ zJ κ L kd σ2 ∧ zSame a0 [47, 50, 51] [145, 146, 149, 152, 153, 154, 155] L kd σ σ2)) := by
  refine zMi.of (own := RX11) (by decide +kernel) rfl rfl (Nat.le_of_ble_eq_true rfl) ?_
  intro p e s m args below meth c A Q X ret
  have hS : zSame a0 [47, 50, 51] [145, 146, 149, 152, 153, 154, 155] L kd σ σ := zSame.rf
  refine zg_lv (lv2 := [(0, .ref a0), (1, .int p1)]) rfl ?_
  have zm := zM_in hI ha0
  obtain ⟨R, hR⟩ : ∃ R, R = F_X11_count a0 p1 σ := ⟨_, rfl⟩
  have E := hR
  unfold F_X11_count at E
  refine zg_aload_n X 0 rfl dX11_count_0 ?_
  refine zg_cVv (As := []) (st := []) X ha0 rfl (by decide) rfl (t_X11_copies l d L kd κ _ hI a0 ha0    hgN hgL) mk_X11_332 mc_X11_copies mz_X11 mi_X11_copies ml_X11_copies (na := 0) ⟨md_X11.1, md_X11.2, by decide +kernel⟩ rfl ⟨by decide, by decide⟩ (Nat.le_of_ble_eq_true rfl) dX11_count_1 (fun t1 hq => ?_)
  obtain ⟨hF, ⟨ht1_fact0, gRt1, gBt1⟩, hI, g2⟩ := hq
  replace E := zLet_s hF E
  have hS := hS.tr g2 (by decide) (by decide)
  have gNt1 := gN.same hI ha0 g2 (by decide) hgN
  have gHt1 := gH.same hI ha0 g2 (by decide) hgH
  have gEt1 := gE.same hI ha0 g2 (by decide) hgE
  have gLt1 := gL.same hI ha0 g2 (by decide) hgL
  refine zg_iconst X 0 dX11_count_4 (by decide) (fun v3 _ hv3 => ?_)
  replace E := zLet_s (zcst hv3 (by decide)) E
  refine zg_istore_n X [(2, .int v3), (0, .ref a0), (1, .int p1)] dX11_count_5 (by decide) rfl ?_
  refine zg_iload_n X 2 rfl dX11_count_6 ?_
  by_cases q4 : p1.toInt = 0
  · refine zg_tabIn X 88 0 dX11_count_7 q4 (by decide) (by decide) rfl (by decide) ?_
    replace E := zIf_t q4 E
    refine zg_aload_n X 1 rfl dX11_count_88 ?_
    refine zg_cVi (As := []) (st := []) X ha0 rfl (by decide) rfl (t_X11_many l d L kd κ _ hI a0 ha0   ) mk_X11_313 mc_X11_many mz_X11 mi_X11_many ml_X11_many (na := 0) ⟨md_X11.1, md_X11.2, by decide +kernel⟩ rfl ⟨by decide, by decide⟩ (Nat.le_of_ble_eq_true rfl) dX11_count_89 (fun v6 t5 hq => ?_)
    obtain ⟨⟨hF, ⟨ht5_res, ht5_fact0⟩⟩, rfl⟩ := hq
    replace E := zLet_s hF E
    exact ret _ _ _ _ dX11_count_92 rfl ⟨E.symm.trans hR, ⟨⟨gNt1, gHt1, gEt1, gLt1⟩, hI, hS⟩⟩
  · skip
    replace E := zIf_f q4 E
    by_cases q7 : p1.toInt = 1
    · refine zg_tabIn X 93 1 dX11_count_7 q7 (by decide) (by decide) rfl (by decide) ?_
      replace E := zIf_t q7 E
      refine zg_aload_n X 1 rfl dX11_count_93 ?_
      refine fg_X11_110 X hI ha0 dX11_count_94 (fun v8 ev8 hv8 => ?_)
      replace E := zLet_s (zgr ev8) E
      refine zg_bipush X 48 dX11_count_97 (by decide) (fun v9 _ hv9 => ?_)
      replace E := zLet_s (zcst hv9 (by decide)) E
      refine ag_149 X hI hv8 (by omega) (by omega) dX11_count_99 (fun v10 ev10 _ => ?_)
      replace E := zLet_s ev10 E
      exact ret _ _ _ _ dX11_count_100 rfl ⟨E.symm.trans hR, ⟨⟨gNt1, gHt1, gEt1, gLt1⟩, hI, hS⟩⟩
    · skip
      replace E := zIf_f q7 E
      by_cases q11 : p1.toInt = 2
      · refine zg_tabIn X 101 2 dX11_count_7 q11 (by decide) (by decide) rfl (by decide) ?_
        replace E := zIf_t q11 E
        refine zg_aload_n X 1 rfl dX11_count_101 ?_
        refine fg_X11_110 X hI ha0 dX11_count_102 (fun v12 ev12 hv12 => ?_)
        replace E := zLet_s (zgr ev12) E
        refine zg_bipush X 48 dX11_count_105 (by decide) (fun v13 _ hv13 => ?_)
        replace E := zLet_s (zcst hv13 (by decide)) E
        refine ag_149 X hI hv12 (by omega) (by omega) dX11_count_107 (fun v14 ev14 _ => ?_)
        replace E := zLet_s ev14 E
        refine zg_bipush X 12 dX11_count_108 (by decide) (fun v15 _ hv15 => ?_)
        replace E := zLet_s (zcst hv15 (by decide)) E
        refine zg_iremW X dX11_count_110 (by omega) (fun v16 ev16 => ?_)
        replace E := zLet_s ev16 E
        have hv16 := zb_rem (x := v14) (y := v15) 12 (by omega) (by omega)
        rw [← ev16] at hv16
        exact ret _ _ _ _ dX11_count_111 rfl ⟨E.symm.trans hR, ⟨⟨gNt1, gHt1, gEt1, gLt1⟩, hI, hS⟩⟩
      · skip
        replace E := zIf_f q11 E
        by_cases q17 : p1.toInt = 3
        · refine zg_tabIn X 112 3 dX11_count_7 q17 (by decide) (by decide) rfl (by decide) ?_
          replace E := zIf_t q17 E
          refine zg_aload_n X 1 rfl dX11_count_112 ?_
          refine fg_X11_110 X hI ha0 dX11_count_113 (fun v18 ev18 hv18 => ?_)
          replace E := zLet_s (zgr ev18) E
          refine zg_bipush X 49 dX11_count_116 (by decide) (fun v19 _ hv19 => ?_)
          replace E := zLet_s (zcst hv19 (by decide)) E
          refine ag_149 X hI hv18 (by omega) (by omega) dX11_count_118 (fun v20 ev20 _ => ?_)
          replace E := zLet_s ev20 E
          exact ret _ _ _ _ dX11_count_119 rfl ⟨E.symm.trans hR, ⟨⟨gNt1, gHt1, gEt1, gLt1⟩, hI, hS⟩⟩
        · skip
          replace E := zIf_f q17 E
          by_cases q21 : p1.toInt = 4
          · refine zg_tabIn X 120 4 dX11_count_7 q21 (by decide) (by decide) rfl (by decide) ?_
            replace E := zIf_t q21 E
            refine zg_aload_n X 1 rfl dX11_count_120 ?_
            refine zg_cVi (As := []) (st := []) X ha0 rfl (by decide) rfl (t_X11_sourceBits l d L kd κ _ hI a0 ha0   ) mk_X11_417 mc_X11_sourceBits mz_X11 mi_X11_sourceBits ml_X11_sourceBits (na := 0) ⟨md_X11.1, md_X11.2, by decide +kernel⟩ rfl ⟨by decide, by decide⟩ (Nat.le_of_ble_eq_true rfl) dX11_count_121 (fun v23 t22 hq => ?_)
            obtain ⟨⟨hF, ht22_res⟩, rfl⟩ := hq
            replace E := zLet_s hF E
            exact ret _ _ _ _ dX11_count_124 rfl ⟨E.symm.trans hR, ⟨⟨gNt1, gHt1, gEt1, gLt1⟩, hI, hS⟩⟩
          · skip
            replace E := zIf_f q21 E
            by_cases q24 : p1.toInt = 5
            · refine zg_tabIn X 125 5 dX11_count_7 q24 (by decide) (by decide) rfl (by decide) ?_
              replace E := zIf_t q24 E
              refine zg_aload_n X 1 rfl dX11_count_125 ?_
              refine zg_cVi (As := []) (st := []) X ha0 rfl (by decide) rfl (t_X11_dammedBits l d L kd κ _ hI a0 ha0   ) mk_X11_423 mc_X11_dammedBits mz_X11 mi_X11_dammedBits ml_X11_dammedBits (na := 0) ⟨md_X11.1, md_X11.2, by decide +kernel⟩ rfl ⟨by decide, by decide⟩ (Nat.le_of_ble_eq_true rfl) dX11_count_126 (fun v26 t25 hq => ?_)
              obtain ⟨hF, rfl⟩ := hq
              replace E := zLet_s hF E
              exact ret _ _ _ _ dX11_count_129 rfl ⟨E.symm.trans hR, ⟨⟨gNt1, gHt1, gEt1, gLt1⟩, hI, hS⟩⟩
            · skip
              replace E := zIf_f q24 E
              by_cases q27 : p1.toInt = 6
              · refine zg_tabIn X 130 6 dX11_count_7 q27 (by decide) (by decide) rfl (by decide) ?_
                replace E := zIf_t q27 E
                refine zg_aload_n X 1 rfl dX11_count_130 ?_
                refine zg_cVi (As := []) (st := []) X ha0 rfl (by decide) rfl (t_X11_many l d L kd κ _ hI a0 ha0   ) mk_X11_313 mc_X11_many mz_X11 mi_X11_many ml_X11_many (na := 0) ⟨md_X11.1, md_X11.2, by decide +kernel⟩ rfl ⟨by decide, by decide⟩ (Nat.le_of_ble_eq_true rfl) dX11_count_131 (fun v29 t28 hq => ?_)
                obtain ⟨⟨hF, ⟨ht28_res, ht28_fact0⟩⟩, rfl⟩ := hq
                replace E := zLet_s hF E
                refine zg_if_ne X 141 dX11_count_134 (by decide) (fun c30 => ?_) (fun c30 => ?_)
                · skip
                  replace E := zIf_f c30 E
                  refine zg_aload_n X 1 rfl dX11_count_141 ?_
                  refine fg_X11_122 X hI ha0 dX11_count_142 (fun v31 ev31 hv31 => ?_)
                  replace E := zLet_s (zgr ev31) E
                  refine zg_iconst X 0 dX11_count_145 (by decide) (fun v32 _ hv32 => ?_)
                  replace E := zLet_s (zcst hv32 (by decide)) E
                  refine ag_155 X hI hv31 (by omega) (by omega) dX11_count_146 (fun v33 ev33 _ => ?_)
                  replace E := zLet_s ev33 E
                  exact ret _ _ _ _ dX11_count_147 rfl ⟨E.symm.trans hR, ⟨⟨gNt1, gHt1, gEt1, gLt1⟩, hI, hS⟩⟩
                · skip
                  replace E := zIf_t c30 E
                  refine zg_iconst X 0 dX11_count_137 (by decide) (fun v34 _ hv34 => ?_)
                  replace E := zLet_s (zcst hv34 (by decide)) E
                  refine zg_goto X 147 dX11_count_138 (by decide) ?_
                  exact ret _ _ _ _ dX11_count_147 rfl ⟨E.symm.trans hR, ⟨⟨gNt1, gHt1, gEt1, gLt1⟩, hI, hS⟩⟩
              · skip
                replace E := zIf_f q27 E
                by_cases q35 : p1.toInt = 7
                · refine zg_tabIn X 148 7 dX11_count_7 q35 (by decide) (by decide) rfl (by decide) ?_
                  replace E := zIf_t q35 E
                  refine zg_iconst X 1 dX11_count_148 (by decide) (fun v36 _ hv36 => ?_)
                  replace E := zLet_s (zcst hv36 (by decide)) E
                  refine zg_istore_n X [(3, .int v36), (2, .int v3), (0, .ref a0), (1, .int p1)] dX11_count_149 (by decide) rfl ?_
                  have Lp39 : ∀ (nLp39 : Nat) (τ39 : zS) (x37 : Int32) (x38 : Int32), zJ κ L kd τ39 → zSame a0 [47, 50, 51] [145, 146, 149, 152, 153, 154, 155] L kd σ τ39 → gE a0 τ39 → gH a0 τ39 → gL a0 τ39 → gN a0 τ39 → R = F_X11_count_150 a0 p1  nLp39 x37 x38 τ39 → 1 ≤ x37.toInt ∧ x37.toInt ≤ 12 → (12) - x37.toInt + 1 < (nLp39 : Int) → zG d L kd A 4 p l e (k2_rm 5 (100 * 5)) s m args below meth c Q τ39 150 [(3, .int x37), (2, .int x38), (0, .ref a0), (1, .int p1)] [] := by
                    intro nLp39
                    induction nLp39 with
                    | zero => intro τ39 x37 x38 hI hS gE_Lp39 gH_Lp39 gL_Lp39 gN_Lp39 E  hxLp39 hm ; exact absurd hm (by omega)
                    | succ nLp39 ihLp39 =>
                      intro τ39 x37 x38 hI hS gE_Lp39 gH_Lp39 gL_Lp39 gN_Lp39 E  hxLp39 hmLp39 
                      rw [F_X11_count_150] at E
                      refine zg_iload_n X 0 rfl dX11_count_150 ?_
                      refine zg_aload_n X 2 rfl dX11_count_151 ?_
                      refine zg_cVi (As := []) (st := [.int x37]) X ha0 rfl (by decide) rfl (t_X11_many l d L kd κ _ hI a0 ha0   ) mk_X11_313 mc_X11_many mz_X11 mi_X11_many ml_X11_many (na := 0) ⟨md_X11.1, md_X11.2, by decide +kernel⟩ rfl ⟨by decide, by decide⟩ (Nat.le_of_ble_eq_true rfl) dX11_count_152 (fun v41 t40 hq => ?_)
                      obtain ⟨⟨hF, ⟨ht40_res, ht40_fact0⟩⟩, rfl⟩ := hq
                      replace E := zLet_s hF E
                      refine zg_icmp_ge X 176 dX11_count_155 (by decide) (fun c42 => ?_) (fun c42 => ?_)
                      · skip
                        replace E := zIf_f (Int.not_lt.mpr c42) E
                        refine zg_iload_n X 1 rfl dX11_count_176 ?_
                        exact ret _ _ _ _ dX11_count_177 rfl ⟨E.symm.trans hR, ⟨⟨gN_Lp39, gH_Lp39, gE_Lp39, gL_Lp39⟩, hI, hS⟩⟩
                      · skip
                        replace E := zIf_t c42 E
                        refine zg_iload_n X 1 rfl dX11_count_158 ?_
                        refine zg_aload_n X 2 rfl dX11_count_159 ?_
                        refine fg_X11_110 X hI ha0 dX11_count_160 (fun v43 ev43 hv43 => ?_)
                        replace E := zLet_s (zgr ev43) E
                        refine zg_bipush X 36 dX11_count_163 (by decide) (fun v44 _ hv44 => ?_)
                        replace E := zLet_s (zcst hv44 (by decide)) E
                        refine zg_iload_n X 0 rfl dX11_count_165 ?_
                        refine zg_iadd X dX11_count_166 (by omega) (by omega) (fun v45 ev45 hv45 => ?_)
                        replace E := zLet_s ev45 E
                        refine ag_149 X hI hv43 (by omega) (by omega) dX11_count_167 (fun v46 ev46 _ => ?_)
                        replace E := zLet_s ev46 E
                        refine zg_iaddW X dX11_count_168 (fun v47 ev47 => ?_)
                        replace E := zLet_s ev47 E
                        refine zg_istore_n X [(2, .int v47), (3, .int x37), (0, .ref a0), (1, .int p1)] dX11_count_169 (by decide) rfl ?_
                        refine zg_iinc X 1 (fun v48 => [(3, .int v48), (2, .int v47), (0, .ref a0), (1, .int p1)]) 1 dX11_count_170 rfl (by decide) (by decide) (by omega) (by omega) (fun _ => rfl) (fun v48 ev48 hv48 => ?_)
                        replace E := zLet_s (zinc ev48 (by decide)) E
                        refine zg_goto X 150 dX11_count_173 (by decide) ?_
                        refine zg_sub [0, 1, 2, 3] rfl ?_
                        exact ihLp39 _ v48 v47 hI hS gE_Lp39 gH_Lp39 gL_Lp39 gN_Lp39 E  (by omega) (by omega) 
                  refine zg_sub [0, 1, 2, 3] rfl ?_
                  exact Lp39 10000 _ v36 v3 hI hS gEt1 gHt1 gLt1 gNt1 E  (by omega) (by omega) 
                · skip
                  replace E := zIf_f q35 E
                  by_cases q49 : p1.toInt = 8
                  · refine zg_tabIn X 178 8 dX11_count_7 q49 (by decide) (by decide) rfl (by decide) ?_
                    replace E := zIf_t q49 E
                    refine zg_aload_n X 1 rfl dX11_count_178 ?_
                    refine fg_X11_169 X hI ha0 dX11_count_179 (fun v50 ev50 hv50 => ?_)
                    replace E := zLet_s ev50 E
                    have hkv50 := hI.2.2.1
                    exact ret _ _ _ _ dX11_count_182 rfl ⟨E.symm.trans hR, ⟨⟨gNt1, gHt1, gEt1, gLt1⟩, hI, hS⟩⟩
                  · skip
                    replace E := zIf_f q49 E
                    by_cases q51 : p1.toInt = 9
                    · refine zg_tabIn X 183 9 dX11_count_7 q51 (by decide) (by decide) rfl (by decide) ?_
                      replace E := zIf_t q51 E
                      refine zg_aload_n X 1 rfl dX11_count_183 ?_
                      refine fg_X11_258 X hI ha0 dX11_count_184 (fun v52 ev52 hv52 => ?_)
                      replace E := zLet_s ev52 E
                      exact ret _ _ _ _ dX11_count_187 rfl ⟨E.symm.trans hR, ⟨⟨gNt1, gHt1, gEt1, gLt1⟩, hI, hS⟩⟩
                    · skip
                      replace E := zIf_f q51 E
                      by_cases q53 : p1.toInt = 10
                      · refine zg_tabIn X 188 10 dX11_count_7 q53 (by decide) (by decide) rfl (by decide) ?_
                        replace E := zIf_t q53 E
                        refine zg_aload_n X 1 rfl dX11_count_188 ?_
                        refine fg_X11_261 X hI ha0 dX11_count_189 (fun v54 ev54 hv54 => ?_)
                        replace E := zLet_s ev54 E
                        exact ret _ _ _ _ dX11_count_192 rfl ⟨E.symm.trans hR, ⟨⟨gNt1, gHt1, gEt1, gLt1⟩, hI, hS⟩⟩
                      · skip
                        replace E := zIf_f q53 E
                        by_cases q55 : p1.toInt = 11
                        · refine zg_tabIn X 193 11 dX11_count_7 q55 (by decide) (by decide) rfl (by decide) ?_
                          replace E := zIf_t q55 E
                          refine zg_aload_n X 1 rfl dX11_count_193 ?_
                          refine fg_X11_149 X hI ha0 dX11_count_194 (fun v56 ev56 hv56 => ?_)
                          replace E := zLet_s (zgr ev56) E
                          refine zg_iconst X 0 dX11_count_197 (by decide) (fun v57 _ hv57 => ?_)
                          replace E := zLet_s (zcst hv57 (by decide)) E
                          refine ag_167 X hI hv56 (by omega) (by omega) dX11_count_198 (fun v58 ev58 hv58 => ?_)
                          replace E := zLet_s ev58 E
                          refine zg_if_eq X 206 dX11_count_199 (by decide) (fun c59 => ?_) (fun c59 => ?_)
                          · skip
                            replace E := zIf_t c59 E
                            refine zg_iconst X 0 dX11_count_206 (by decide) (fun v60 _ hv60 => ?_)
                            replace E := zLet_s (zcst hv60 (by decide)) E
                            refine zg_aload_n X 1 rfl dX11_count_207 ?_
                            refine fg_X11_149 X hI ha0 dX11_count_208 (fun v61 ev61 hv61 => ?_)
                            replace E := zLet_s (zgr ev61) E
                            refine zg_iconst X 1 dX11_count_211 (by decide) (fun v62 _ hv62 => ?_)
                            replace E := zLet_s (zcst hv62 (by decide)) E
                            refine ag_167 X hI hv61 (by omega) (by omega) dX11_count_212 (fun v63 ev63 hv63 => ?_)
                            replace E := zLet_s ev63 E
                            refine zg_if_eq X 220 dX11_count_213 (by decide) (fun c64 => ?_) (fun c64 => ?_)
                            · skip
                              replace E := zIf_t c64 E
                              refine zg_iconst X 0 dX11_count_220 (by decide) (fun v65 _ hv65 => ?_)
                              replace E := zLet_s (zcst hv65 (by decide)) E
                              refine zg_iadd X dX11_count_221 (by omega) (by omega) (fun v66 ev66 hv66 => ?_)
                              replace E := zLet_s ev66 E
                              refine zg_aload_n X 1 rfl dX11_count_222 ?_
                              refine fg_X11_149 X hI ha0 dX11_count_223 (fun v67 ev67 hv67 => ?_)
                              replace E := zLet_s (zgr ev67) E
                              refine zg_iconst X 2 dX11_count_226 (by decide) (fun v68 _ hv68 => ?_)
                              replace E := zLet_s (zcst hv68 (by decide)) E
                              refine ag_167 X hI hv67 (by omega) (by omega) dX11_count_227 (fun v69 ev69 hv69 => ?_)
                              replace E := zLet_s ev69 E
                              refine zg_if_eq X 235 dX11_count_228 (by decide) (fun c70 => ?_) (fun c70 => ?_)
                              · skip
                                replace E := zIf_t c70 E
                                refine zg_iconst X 0 dX11_count_235 (by decide) (fun v71 _ hv71 => ?_)
                                replace E := zLet_s (zcst hv71 (by decide)) E
                                refine zg_iadd X dX11_count_236 (by omega) (by omega) (fun v72 ev72 hv72 => ?_)
                                replace E := zLet_s ev72 E
                                exact ret _ _ _ _ dX11_count_237 rfl ⟨E.symm.trans hR, ⟨⟨gNt1, gHt1, gEt1, gLt1⟩, hI, hS⟩⟩
                              · skip
                                replace E := zIf_f c70 E
                                refine zg_iconst X 1 dX11_count_231 (by decide) (fun v73 _ hv73 => ?_)
                                replace E := zLet_s (zcst hv73 (by decide)) E
                                refine zg_goto X 236 dX11_count_232 (by decide) ?_
                                refine zg_iadd X dX11_count_236 (by omega) (by omega) (fun v74 ev74 hv74 => ?_)
                                replace E := zLet_s ev74 E
                                exact ret _ _ _ _ dX11_count_237 rfl ⟨E.symm.trans hR, ⟨⟨gNt1, gHt1, gEt1, gLt1⟩, hI, hS⟩⟩
                            · skip
                              replace E := zIf_f c64 E
                              refine zg_iconst X 1 dX11_count_216 (by decide) (fun v75 _ hv75 => ?_)
                              replace E := zLet_s (zcst hv75 (by decide)) E
                              refine zg_goto X 221 dX11_count_217 (by decide) ?_
                              refine zg_iadd X dX11_count_221 (by omega) (by omega) (fun v76 ev76 hv76 => ?_)
                              replace E := zLet_s ev76 E
                              refine zg_aload_n X 1 rfl dX11_count_222 ?_
                              refine fg_X11_149 X hI ha0 dX11_count_223 (fun v77 ev77 hv77 => ?_)
                              replace E := zLet_s (zgr ev77) E
                              refine zg_iconst X 2 dX11_count_226 (by decide) (fun v78 _ hv78 => ?_)
                              replace E := zLet_s (zcst hv78 (by decide)) E
                              refine ag_167 X hI hv77 (by omega) (by omega) dX11_count_227 (fun v79 ev79 hv79 => ?_)
                              replace E := zLet_s ev79 E
                              refine zg_if_eq X 235 dX11_count_228 (by decide) (fun c80 => ?_) (fun c80 => ?_)
                              · skip
                                replace E := zIf_t c80 E
                                refine zg_iconst X 0 dX11_count_235 (by decide) (fun v81 _ hv81 => ?_)
                                replace E := zLet_s (zcst hv81 (by decide)) E
                                refine zg_iadd X dX11_count_236 (by omega) (by omega) (fun v82 ev82 hv82 => ?_)
                                replace E := zLet_s ev82 E
                                exact ret _ _ _ _ dX11_count_237 rfl ⟨E.symm.trans hR, ⟨⟨gNt1, gHt1, gEt1, gLt1⟩, hI, hS⟩⟩
                              · skip
                                replace E := zIf_f c80 E
                                refine zg_iconst X 1 dX11_count_231 (by decide) (fun v83 _ hv83 => ?_)
                                replace E := zLet_s (zcst hv83 (by decide)) E
                                refine zg_goto X 236 dX11_count_232 (by decide) ?_
                                refine zg_iadd X dX11_count_236 (by omega) (by omega) (fun v84 ev84 hv84 => ?_)
                                replace E := zLet_s ev84 E
                                exact ret _ _ _ _ dX11_count_237 rfl ⟨E.symm.trans hR, ⟨⟨gNt1, gHt1, gEt1, gLt1⟩, hI, hS⟩⟩
                          · skip
                            replace E := zIf_f c59 E
                            refine zg_iconst X 1 dX11_count_202 (by decide) (fun v85 _ hv85 => ?_)
                            replace E := zLet_s (zcst hv85 (by decide)) E
                            refine zg_goto X 207 dX11_count_203 (by decide) ?_
                            refine zg_aload_n X 1 rfl dX11_count_207 ?_
                            refine fg_X11_149 X hI ha0 dX11_count_208 (fun v86 ev86 hv86 => ?_)
                            replace E := zLet_s (zgr ev86) E
                            refine zg_iconst X 1 dX11_count_211 (by decide) (fun v87 _ hv87 => ?_)
                            replace E := zLet_s (zcst hv87 (by decide)) E
                            refine ag_167 X hI hv86 (by omega) (by omega) dX11_count_212 (fun v88 ev88 hv88 => ?_)
                            replace E := zLet_s ev88 E
                            refine zg_if_eq X 220 dX11_count_213 (by decide) (fun c89 => ?_) (fun c89 => ?_)
                            · skip
                              replace E := zIf_t c89 E
                              refine zg_iconst X 0 dX11_count_220 (by decide) (fun v90 _ hv90 => ?_)
                              replace E := zLet_s (zcst hv90 (by decide)) E
                              refine zg_iadd X dX11_count_221 (by omega) (by omega) (fun v91 ev91 hv91 => ?_)
                              replace E := zLet_s ev91 E
                              refine zg_aload_n X 1 rfl dX11_count_222 ?_
                              refine fg_X11_149 X hI ha0 dX11_count_223 (fun v92 ev92 hv92 => ?_)
                              replace E := zLet_s (zgr ev92) E
                              refine zg_iconst X 2 dX11_count_226 (by decide) (fun v93 _ hv93 => ?_)
                              replace E := zLet_s (zcst hv93 (by decide)) E
                              refine ag_167 X hI hv92 (by omega) (by omega) dX11_count_227 (fun v94 ev94 hv94 => ?_)
                              replace E := zLet_s ev94 E
                              refine zg_if_eq X 235 dX11_count_228 (by decide) (fun c95 => ?_) (fun c95 => ?_)
                              · skip
                                replace E := zIf_t c95 E
                                refine zg_iconst X 0 dX11_count_235 (by decide) (fun v96 _ hv96 => ?_)
                                replace E := zLet_s (zcst hv96 (by decide)) E
                                refine zg_iadd X dX11_count_236 (by omega) (by omega) (fun v97 ev97 hv97 => ?_)
                                replace E := zLet_s ev97 E
                                exact ret _ _ _ _ dX11_count_237 rfl ⟨E.symm.trans hR, ⟨⟨gNt1, gHt1, gEt1, gLt1⟩, hI, hS⟩⟩
                              · skip
                                replace E := zIf_f c95 E
                                refine zg_iconst X 1 dX11_count_231 (by decide) (fun v98 _ hv98 => ?_)
                                replace E := zLet_s (zcst hv98 (by decide)) E
                                refine zg_goto X 236 dX11_count_232 (by decide) ?_
                                refine zg_iadd X dX11_count_236 (by omega) (by omega) (fun v99 ev99 hv99 => ?_)
                                replace E := zLet_s ev99 E
                                exact ret _ _ _ _ dX11_count_237 rfl ⟨E.symm.trans hR, ⟨⟨gNt1, gHt1, gEt1, gLt1⟩, hI, hS⟩⟩
                            · skip
                              replace E := zIf_f c89 E
                              refine zg_iconst X 1 dX11_count_216 (by decide) (fun v100 _ hv100 => ?_)
                              replace E := zLet_s (zcst hv100 (by decide)) E
                              refine zg_goto X 221 dX11_count_217 (by decide) ?_
                              refine zg_iadd X dX11_count_221 (by omega) (by omega) (fun v101 ev101 hv101 => ?_)
                              replace E := zLet_s ev101 E
                              refine zg_aload_n X 1 rfl dX11_count_222 ?_
                              refine fg_X11_149 X hI ha0 dX11_count_223 (fun v102 ev102 hv102 => ?_)
                              replace E := zLet_s (zgr ev102) E
                              refine zg_iconst X 2 dX11_count_226 (by decide) (fun v103 _ hv103 => ?_)
                              replace E := zLet_s (zcst hv103 (by decide)) E
                              refine ag_167 X hI hv102 (by omega) (by omega) dX11_count_227 (fun v104 ev104 hv104 => ?_)
                              replace E := zLet_s ev104 E
                              refine zg_if_eq X 235 dX11_count_228 (by decide) (fun c105 => ?_) (fun c105 => ?_)
                              · skip
                                replace E := zIf_t c105 E
                                refine zg_iconst X 0 dX11_count_235 (by decide) (fun v106 _ hv106 => ?_)
                                replace E := zLet_s (zcst hv106 (by decide)) E
                                refine zg_iadd X dX11_count_236 (by omega) (by omega) (fun v107 ev107 hv107 => ?_)
                                replace E := zLet_s ev107 E
                                exact ret _ _ _ _ dX11_count_237 rfl ⟨E.symm.trans hR, ⟨⟨gNt1, gHt1, gEt1, gLt1⟩, hI, hS⟩⟩
                              · skip
                                replace E := zIf_f c105 E
                                refine zg_iconst X 1 dX11_count_231 (by decide) (fun v108 _ hv108 => ?_)
                                replace E := zLet_s (zcst hv108 (by decide)) E
                                refine zg_goto X 236 dX11_count_232 (by decide) ?_
                                refine zg_iadd X dX11_count_236 (by omega) (by omega) (fun v109 ev109 hv109 => ?_)
                                replace E := zLet_s ev109 E
                                exact ret _ _ _ _ dX11_count_237 rfl ⟨E.symm.trans hR, ⟨⟨gNt1, gHt1, gEt1, gLt1⟩, hI, hS⟩⟩
                        · skip
                          replace E := zIf_f q55 E
                          by_cases q110 : p1.toInt = 12
                          · refine zg_tabIn X 238 12 dX11_count_7 q110 (by decide) (by decide) rfl (by decide) ?_
                            replace E := zIf_t q110 E
                            refine zg_aload_n X 1 rfl dX11_count_238 ?_
                            refine zg_cVi (As := []) (st := []) X ha0 rfl (by decide) rfl (t_X11_isStorm l d L kd κ _ hI a0 ha0   ) mk_X11_370 mc_X11_isStorm mz_X11 mi_X11_isStorm ml_X11_isStorm (na := 0) ⟨md_X11.1, md_X11.2, by decide +kernel⟩ rfl ⟨by decide, by decide⟩ (Nat.le_of_ble_eq_true rfl) dX11_count_239 (fun v112 t111 hq => ?_)
                            obtain ⟨⟨hF, ht111_res⟩, rfl⟩ := hq
                            replace E := zLet_s hF E
                            refine zg_if_eq X 249 dX11_count_242 (by decide) (fun c113 => ?_) (fun c113 => ?_)
                            · skip
                              replace E := zIf_t c113 E
                              refine zg_iconst X 0 dX11_count_249 (by decide) (fun v114 _ hv114 => ?_)
                              replace E := zLet_s (zcst hv114 (by decide)) E
                              exact ret _ _ _ _ dX11_count_250 rfl ⟨E.symm.trans hR, ⟨⟨gNt1, gHt1, gEt1, gLt1⟩, hI, hS⟩⟩
                            · skip
                              replace E := zIf_f c113 E
                              refine zg_iconst X 1 dX11_count_245 (by decide) (fun v115 _ hv115 => ?_)
                              replace E := zLet_s (zcst hv115 (by decide)) E
                              refine zg_goto X 250 dX11_count_246 (by decide) ?_
                              exact ret _ _ _ _ dX11_count_250 rfl ⟨E.symm.trans hR, ⟨⟨gNt1, gHt1, gEt1, gLt1⟩, hI, hS⟩⟩
                          · skip
                            replace E := zIf_f q110 E
                            by_cases q116 : p1.toInt = 13
                            · refine zg_tabIn X 251 13 dX11_count_7 q116 (by decide) (by decide) rfl (by decide) ?_
                              replace E := zIf_t q116 E
                              refine zg_iconst X 1 dX11_count_251 (by decide) (fun v117 _ hv117 => ?_)
                              replace E := zLet_s (zcst hv117 (by decide)) E
                              refine zg_istore_n X [(3, .int v117), (2, .int v3), (0, .ref a0), (1, .int p1)] dX11_count_252 (by decide) rfl ?_
                              have Lp120 : ∀ (nLp120 : Nat) (τ120 : zS) (x118 : Int32) (x119 : Int32), zJ κ L kd τ120 → zSame a0 [47, 50, 51] [145, 146, 149, 152, 153, 154, 155] L kd σ τ120 → gE a0 τ120 → gH a0 τ120 → gL a0 τ120 → gN a0 τ120 → R = F_X11_count_253 a0 p1  nLp120 x118 x119 τ120 → 1 ≤ x118.toInt ∧ x118.toInt ≤ 12 → (12) - x118.toInt + 1 < (nLp120 : Int) → zG d L kd A 4 p l e (k2_rm 5 (100 * 5)) s m args below meth c Q τ120 253 [(3, .int x118), (2, .int x119), (0, .ref a0), (1, .int p1)] [] := by
                                intro nLp120
                                induction nLp120 with
                                | zero => intro τ120 x118 x119 hI hS gE_Lp120 gH_Lp120 gL_Lp120 gN_Lp120 E  hxLp120 hm ; exact absurd hm (by omega)
                                | succ nLp120 ihLp120 =>
                                  intro τ120 x118 x119 hI hS gE_Lp120 gH_Lp120 gL_Lp120 gN_Lp120 E  hxLp120 hmLp120 
                                  rw [F_X11_count_253] at E
                                  refine zg_iload_n X 0 rfl dX11_count_253 ?_
                                  refine zg_aload_n X 2 rfl dX11_count_254 ?_
                                  refine zg_cVi (As := []) (st := [.int x118]) X ha0 rfl (by decide) rfl (t_X11_many l d L kd κ _ hI a0 ha0   ) mk_X11_313 mc_X11_many mz_X11 mi_X11_many ml_X11_many (na := 0) ⟨md_X11.1, md_X11.2, by decide +kernel⟩ rfl ⟨by decide, by decide⟩ (Nat.le_of_ble_eq_true rfl) dX11_count_255 (fun v122 t121 hq => ?_)
                                  obtain ⟨⟨hF, ⟨ht121_res, ht121_fact0⟩⟩, rfl⟩ := hq
                                  replace E := zLet_s hF E
                                  refine zg_icmp_ge X 284 dX11_count_258 (by decide) (fun c123 => ?_) (fun c123 => ?_)
                                  · skip
                                    replace E := zIf_f (Int.not_lt.mpr c123) E
                                    refine zg_iload_n X 1 rfl dX11_count_284 ?_
                                    exact ret _ _ _ _ dX11_count_285 rfl ⟨E.symm.trans hR, ⟨⟨gN_Lp120, gH_Lp120, gE_Lp120, gL_Lp120⟩, hI, hS⟩⟩
                                  · skip
                                    replace E := zIf_t c123 E
                                    refine zg_iload_n X 1 rfl dX11_count_261 ?_
                                    refine zg_aload_n X 2 rfl dX11_count_262 ?_
                                    refine fg_X11_49 X hI ha0 dX11_count_263 (fun v124 ev124 hv124 => ?_)
                                    replace E := zLet_s (zgr ev124) E
                                    refine zg_bipush X 12 dX11_count_266 (by decide) (fun v125 _ hv125 => ?_)
                                    replace E := zLet_s (zcst hv125 (by decide)) E
                                    refine zg_aload_n X 2 rfl dX11_count_268 ?_
                                    refine fg_X11_236 X hI ha0 dX11_count_269 (fun v126 ev126 hv126 => ?_)
                                    replace E := zLet_s ev126 E
                                    refine zg_imulc X 12 dX11_count_272 (by omega) (by omega) (by omega) (fun v127 ev127 hv127 => ?_)
                                    replace E := zLet_s ev127 E
                                    refine zg_iload_n X 0 rfl dX11_count_273 ?_
                                    refine zg_iadd X dX11_count_274 (by omega) (by omega) (fun v128 ev128 hv128 => ?_)
                                    replace E := zLet_s ev128 E
                                    refine ag_123 X hI hv124 (by omega) (by omega) dX11_count_275 (fun v129 ev129 _ => ?_)
                                    replace E := zLet_s ev129 E
                                    refine zg_iaddW X dX11_count_276 (fun v130 ev130 => ?_)
                                    replace E := zLet_s ev130 E
                                    refine zg_istore_n X [(2, .int v130), (3, .int x118), (0, .ref a0), (1, .int p1)] dX11_count_277 (by decide) rfl ?_
                                    refine zg_iinc X 1 (fun v131 => [(3, .int v131), (2, .int v130), (0, .ref a0), (1, .int p1)]) 1 dX11_count_278 rfl (by decide) (by decide) (by omega) (by omega) (fun _ => rfl) (fun v131 ev131 hv131 => ?_)
                                    replace E := zLet_s (zinc ev131 (by decide)) E
                                    refine zg_goto X 253 dX11_count_281 (by decide) ?_
                                    refine zg_sub [0, 1, 2, 3] rfl ?_
                                    exact ihLp120 _ v131 v130 hI hS gE_Lp120 gH_Lp120 gL_Lp120 gN_Lp120 E  (by omega) (by omega) 
                              refine zg_sub [0, 1, 2, 3] rfl ?_
                              exact Lp120 10000 _ v117 v3 hI hS gEt1 gHt1 gLt1 gNt1 E  (by omega) (by omega) 
                            · skip
                              replace E := zIf_f q116 E
                              by_cases q132 : p1.toInt = 14
                              · refine zg_tabIn X 286 14 dX11_count_7 q132 (by decide) (by decide) rfl (by decide) ?_
                                replace E := zIf_t q132 E
                                refine zg_iconst X 1 dX11_count_286 (by decide) (fun v133 _ hv133 => ?_)
                                replace E := zLet_s (zcst hv133 (by decide)) E
                                refine zg_istore_n X [(3, .int v133), (2, .int v3), (0, .ref a0), (1, .int p1)] dX11_count_287 (by decide) rfl ?_
                                have Lp136 : ∀ (nLp136 : Nat) (τ136 : zS) (x134 : Int32) (x135 : Int32), zJ κ L kd τ136 → zSame a0 [47, 50, 51] [145, 146, 149, 152, 153, 154, 155] L kd σ τ136 → gE a0 τ136 → gH a0 τ136 → gL a0 τ136 → gN a0 τ136 → R = F_X11_count_288 a0 p1  nLp136 x134 x135 τ136 → 1 ≤ x134.toInt ∧ x134.toInt ≤ 12 → (12) - x134.toInt + 1 < (nLp136 : Int) → zG d L kd A 4 p l e (k2_rm 5 (100 * 5)) s m args below meth c Q τ136 288 [(3, .int x134), (2, .int x135), (0, .ref a0), (1, .int p1)] [] := by
                                  intro nLp136
                                  induction nLp136 with
                                  | zero => intro τ136 x134 x135 hI hS gE_Lp136 gH_Lp136 gL_Lp136 gN_Lp136 E  hxLp136 hm ; exact absurd hm (by omega)
                                  | succ nLp136 ihLp136 =>
                                    intro τ136 x134 x135 hI hS gE_Lp136 gH_Lp136 gL_Lp136 gN_Lp136 E  hxLp136 hmLp136 
                                    rw [F_X11_count_288] at E
                                    refine zg_iload_n X 0 rfl dX11_count_288 ?_
                                    refine zg_aload_n X 2 rfl dX11_count_289 ?_
                                    refine zg_cVi (As := []) (st := [.int x134]) X ha0 rfl (by decide) rfl (t_X11_many l d L kd κ _ hI a0 ha0   ) mk_X11_313 mc_X11_many mz_X11 mi_X11_many ml_X11_many (na := 0) ⟨md_X11.1, md_X11.2, by decide +kernel⟩ rfl ⟨by decide, by decide⟩ (Nat.le_of_ble_eq_true rfl) dX11_count_290 (fun v138 t137 hq => ?_)
                                    obtain ⟨⟨hF, ⟨ht137_res, ht137_fact0⟩⟩, rfl⟩ := hq
                                    replace E := zLet_s hF E
                                    refine zg_icmp_ge X 331 dX11_count_293 (by decide) (fun c139 => ?_) (fun c139 => ?_)
                                    · skip
                                      replace E := zIf_f (Int.not_lt.mpr c139) E
                                      refine zg_iload_n X 1 rfl dX11_count_331 ?_
                                      exact ret _ _ _ _ dX11_count_332 rfl ⟨E.symm.trans hR, ⟨⟨gN_Lp136, gH_Lp136, gE_Lp136, gL_Lp136⟩, hI, hS⟩⟩
                                    · skip
                                      replace E := zIf_t c139 E
                                      refine zg_aload_n X 2 rfl dX11_count_296 ?_
                                      refine fg_X11_110 X hI ha0 dX11_count_297 (fun v140 ev140 hv140 => ?_)
                                      replace E := zLet_s (zgr ev140) E
                                      refine zg_iload_n X 0 rfl dX11_count_300 ?_
                                      refine ag_149 X hI hv140 (by omega) (by omega) dX11_count_301 (fun v141 ev141 _ => ?_)
                                      replace E := zLet_s ev141 E
                                      refine zg_aload_n X 2 rfl dX11_count_302 ?_
                                      refine fg_X11_46 X hI ha0 dX11_count_303 (fun v142 ev142 hv142 => ?_)
                                      replace E := zLet_s (zgr ev142) E
                                      refine zg_bipush X 12 dX11_count_306 (by decide) (fun v143 _ hv143 => ?_)
                                      replace E := zLet_s (zcst hv143 (by decide)) E
                                      refine zg_aload_n X 2 rfl dX11_count_308 ?_
                                      refine fg_X11_236 X hI ha0 dX11_count_309 (fun v144 ev144 hv144 => ?_)
                                      replace E := zLet_s ev144 E
                                      refine zg_imulc X 12 dX11_count_312 (by omega) (by omega) (by omega) (fun v145 ev145 hv145 => ?_)
                                      replace E := zLet_s ev145 E
                                      refine zg_iload_n X 0 rfl dX11_count_313 ?_
                                      refine zg_iadd X dX11_count_314 (by omega) (by omega) (fun v146 ev146 hv146 => ?_)
                                      replace E := zLet_s ev146 E
                                      refine ag_122 X hI hv142 (by omega) (by omega) dX11_count_315 (fun v147 ev147 _ => ?_)
                                      replace E := zLet_s ev147 E
                                      refine zg_icmp_eq X 325 dX11_count_316 (by decide) (fun c148 => ?_) (fun c148 => ?_)
                                      · skip
                                        replace E := zIf_t c148 E
                                        refine zg_iinc X 1 (fun v149 => [(3, .int v149), (2, .int x135), (0, .ref a0), (1, .int p1)]) 0 dX11_count_325 rfl (by decide) (by decide) (by omega) (by omega) (fun _ => rfl) (fun v149 ev149 hv149 => ?_)
                                        replace E := zLet_s (zinc ev149 (by decide)) E
                                        refine zg_goto X 288 dX11_count_328 (by decide) ?_
                                        refine zg_sub [0, 1, 2, 3] rfl ?_
                                        exact ihLp136 _ v149 x135 hI hS gE_Lp136 gH_Lp136 gL_Lp136 gN_Lp136 E  (by omega) (by omega) 
                                      · skip
                                        replace E := zIf_f c148 E
                                        refine zg_iload_n X 1 rfl dX11_count_319 ?_
                                        refine zg_iconst X 1 dX11_count_320 (by decide) (fun v150 _ hv150 => ?_)
                                        replace E := zLet_s (zcst hv150 (by decide)) E
                                        refine zg_iload_n X 0 rfl dX11_count_321 ?_
                                        refine zg_ishlW X dX11_count_322 (fun v151 ev151 => ?_)
                                        replace E := zLet_s ev151 E
                                        refine zg_iorW X dX11_count_323 (fun v152 ev152 => ?_)
                                        replace E := zLet_s ev152 E
                                        refine zg_istore_n X [(2, .int v152), (3, .int x134), (0, .ref a0), (1, .int p1)] dX11_count_324 (by decide) rfl ?_
                                        refine zg_iinc X 1 (fun v153 => [(3, .int v153), (2, .int v152), (0, .ref a0), (1, .int p1)]) 1 dX11_count_325 rfl (by decide) (by decide) (by omega) (by omega) (fun _ => rfl) (fun v153 ev153 hv153 => ?_)
                                        replace E := zLet_s (zinc ev153 (by decide)) E
                                        refine zg_goto X 288 dX11_count_328 (by decide) ?_
                                        refine zg_sub [0, 1, 2, 3] rfl ?_
                                        exact ihLp136 _ v153 v152 hI hS gE_Lp136 gH_Lp136 gL_Lp136 gN_Lp136 E  (by omega) (by omega) 
                                refine zg_sub [0, 1, 2, 3] rfl ?_
                                exact Lp136 10000 _ v133 v3 hI hS gEt1 gHt1 gLt1 gNt1 E  (by omega) (by omega) 
                              · skip
                                replace E := zIf_f q132 E
                                by_cases q154 : p1.toInt = 15
                                · refine zg_tabIn X 333 15 dX11_count_7 q154 (by decide) (by decide) rfl (by decide) ?_
                                  replace E := zIf_t q154 E
                                  refine zg_iconst X 1 dX11_count_333 (by decide) (fun v155 _ hv155 => ?_)
                                  replace E := zLet_s (zcst hv155 (by decide)) E
                                  refine zg_istore_n X [(3, .int v155), (2, .int v3), (0, .ref a0), (1, .int p1)] dX11_count_334 (by decide) rfl ?_
                                  have Lp158 : ∀ (nLp158 : Nat) (τ158 : zS) (x156 : Int32) (x157 : Int32), zJ κ L kd τ158 → zSame a0 [47, 50, 51] [145, 146, 149, 152, 153, 154, 155] L kd σ τ158 → gE a0 τ158 → gH a0 τ158 → gL a0 τ158 → gN a0 τ158 → R = F_X11_count_335 a0 p1  nLp158 x156 x157 τ158 → 1 ≤ x156.toInt ∧ x156.toInt ≤ 12 → (12) - x156.toInt + 1 < (nLp158 : Int) → zG d L kd A 4 p l e (k2_rm 5 (100 * 5)) s m args below meth c Q τ158 335 [(3, .int x156), (2, .int x157), (0, .ref a0), (1, .int p1)] [] := by
                                    intro nLp158
                                    induction nLp158 with
                                    | zero => intro τ158 x156 x157 hI hS gE_Lp158 gH_Lp158 gL_Lp158 gN_Lp158 E  hxLp158 hm ; exact absurd hm (by omega)
                                    | succ nLp158 ihLp158 =>
                                      intro τ158 x156 x157 hI hS gE_Lp158 gH_Lp158 gL_Lp158 gN_Lp158 E  hxLp158 hmLp158 
                                      rw [F_X11_count_335] at E
                                      refine zg_iload_n X 0 rfl dX11_count_335 ?_
                                      refine zg_aload_n X 2 rfl dX11_count_336 ?_
                                      refine zg_cVi (As := []) (st := [.int x156]) X ha0 rfl (by decide) rfl (t_X11_many l d L kd κ _ hI a0 ha0   ) mk_X11_313 mc_X11_many mz_X11 mi_X11_many ml_X11_many (na := 0) ⟨md_X11.1, md_X11.2, by decide +kernel⟩ rfl ⟨by decide, by decide⟩ (Nat.le_of_ble_eq_true rfl) dX11_count_337 (fun v160 t159 hq => ?_)
                                      obtain ⟨⟨hF, ⟨ht159_res, ht159_fact0⟩⟩, rfl⟩ := hq
                                      replace E := zLet_s hF E
                                      refine zg_icmp_ge X 366 dX11_count_340 (by decide) (fun c161 => ?_) (fun c161 => ?_)
                                      · skip
                                        replace E := zIf_f (Int.not_lt.mpr c161) E
                                        refine zg_iload_n X 1 rfl dX11_count_366 ?_
                                        exact ret _ _ _ _ dX11_count_367 rfl ⟨E.symm.trans hR, ⟨⟨gN_Lp158, gH_Lp158, gE_Lp158, gL_Lp158⟩, hI, hS⟩⟩
                                      · skip
                                        replace E := zIf_t c161 E
                                        refine zg_iload_n X 1 rfl dX11_count_343 ?_
                                        refine zg_aload_n X 2 rfl dX11_count_344 ?_
                                        refine fg_X11_52 X hI ha0 dX11_count_345 (fun v162 ev162 hv162 => ?_)
                                        replace E := zLet_s (zgr ev162) E
                                        refine zg_bipush X 12 dX11_count_348 (by decide) (fun v163 _ hv163 => ?_)
                                        replace E := zLet_s (zcst hv163 (by decide)) E
                                        refine zg_aload_n X 2 rfl dX11_count_350 ?_
                                        refine fg_X11_236 X hI ha0 dX11_count_351 (fun v164 ev164 hv164 => ?_)
                                        replace E := zLet_s ev164 E
                                        refine zg_imulc X 12 dX11_count_354 (by omega) (by omega) (by omega) (fun v165 ev165 hv165 => ?_)
                                        replace E := zLet_s ev165 E
                                        refine zg_iload_n X 0 rfl dX11_count_355 ?_
                                        refine zg_iadd X dX11_count_356 (by omega) (by omega) (fun v166 ev166 hv166 => ?_)
                                        replace E := zLet_s ev166 E
                                        refine ag_124 X hI hv162 (by omega) (by omega) dX11_count_357 (fun v167 ev167 _ => ?_)
                                        replace E := zLet_s ev167 E
                                        refine zg_iaddW X dX11_count_358 (fun v168 ev168 => ?_)
                                        replace E := zLet_s ev168 E
                                        refine zg_istore_n X [(2, .int v168), (3, .int x156), (0, .ref a0), (1, .int p1)] dX11_count_359 (by decide) rfl ?_
                                        refine zg_iinc X 1 (fun v169 => [(3, .int v169), (2, .int v168), (0, .ref a0), (1, .int p1)]) 1 dX11_count_360 rfl (by decide) (by decide) (by omega) (by omega) (fun _ => rfl) (fun v169 ev169 hv169 => ?_)
                                        replace E := zLet_s (zinc ev169 (by decide)) E
                                        refine zg_goto X 335 dX11_count_363 (by decide) ?_
                                        refine zg_sub [0, 1, 2, 3] rfl ?_
                                        exact ihLp158 _ v169 v168 hI hS gE_Lp158 gH_Lp158 gL_Lp158 gN_Lp158 E  (by omega) (by omega) 
                                  refine zg_sub [0, 1, 2, 3] rfl ?_
                                  exact Lp158 10000 _ v155 v3 hI hS gEt1 gHt1 gLt1 gNt1 E  (by omega) (by omega) 
                                · skip
                                  replace E := zIf_f q154 E
                                  by_cases q170 : p1.toInt = 16
                                  · refine zg_tabIn X 368 16 dX11_count_7 q170 (by decide) (by decide) rfl (by decide) ?_
                                    replace E := zIf_t q170 E
                                    refine zg_iconst X 1 dX11_count_368 (by decide) (fun v171 _ hv171 => ?_)
                                    replace E := zLet_s (zcst hv171 (by decide)) E
                                    refine zg_istore_n X [(3, .int v171), (2, .int v3), (0, .ref a0), (1, .int p1)] dX11_count_369 (by decide) rfl ?_
                                    have Lp174 : ∀ (nLp174 : Nat) (τ174 : zS) (x172 : Int32) (x173 : Int32), zJ κ L kd τ174 → zSame a0 [47, 50, 51] [145, 146, 149, 152, 153, 154, 155] L kd σ τ174 → gE a0 τ174 → gH a0 τ174 → gL a0 τ174 → gN a0 τ174 → R = F_X11_count_370 a0 p1  nLp174 x172 x173 τ174 → 1 ≤ x172.toInt ∧ x172.toInt ≤ 12 → (12) - x172.toInt + 1 < (nLp174 : Int) → zG d L kd A 4 p l e (k2_rm 5 (100 * 5)) s m args below meth c Q τ174 370 [(3, .int x172), (2, .int x173), (0, .ref a0), (1, .int p1)] [] := by
                                      intro nLp174
                                      induction nLp174 with
                                      | zero => intro τ174 x172 x173 hI hS gE_Lp174 gH_Lp174 gL_Lp174 gN_Lp174 E  hxLp174 hm ; exact absurd hm (by omega)
                                      | succ nLp174 ihLp174 =>
                                        intro τ174 x172 x173 hI hS gE_Lp174 gH_Lp174 gL_Lp174 gN_Lp174 E  hxLp174 hmLp174 
                                        rw [F_X11_count_370] at E
                                        refine zg_iload_n X 0 rfl dX11_count_370 ?_
                                        refine zg_aload_n X 2 rfl dX11_count_371 ?_
                                        refine zg_cVi (As := []) (st := [.int x172]) X ha0 rfl (by decide) rfl (t_X11_many l d L kd κ _ hI a0 ha0   ) mk_X11_313 mc_X11_many mz_X11 mi_X11_many ml_X11_many (na := 0) ⟨md_X11.1, md_X11.2, by decide +kernel⟩ rfl ⟨by decide, by decide⟩ (Nat.le_of_ble_eq_true rfl) dX11_count_372 (fun v176 t175 hq => ?_)
                                        obtain ⟨⟨hF, ⟨ht175_res, ht175_fact0⟩⟩, rfl⟩ := hq
                                        replace E := zLet_s hF E
                                        refine zg_icmp_ge X 401 dX11_count_375 (by decide) (fun c177 => ?_) (fun c177 => ?_)
                                        · skip
                                          replace E := zIf_f (Int.not_lt.mpr c177) E
                                          refine zg_iload_n X 1 rfl dX11_count_401 ?_
                                          exact ret _ _ _ _ dX11_count_402 rfl ⟨E.symm.trans hR, ⟨⟨gN_Lp174, gH_Lp174, gE_Lp174, gL_Lp174⟩, hI, hS⟩⟩
                                        · skip
                                          replace E := zIf_t c177 E
                                          refine zg_aload_n X 2 rfl dX11_count_378 ?_
                                          refine fg_X11_113 X hI ha0 dX11_count_379 (fun v178 ev178 hv178 => ?_)
                                          replace E := zLet_s (zgr ev178) E
                                          refine zg_iload_n X 0 rfl dX11_count_382 ?_
                                          refine ag_152 X hI hv178 (by omega) (by omega) dX11_count_383 (fun v179 ev179 _ => ?_)
                                          replace E := zLet_s ev179 E
                                          refine zg_iload_n X 1 rfl dX11_count_384 ?_
                                          have zv179_z180 := zb_rng v179
                                          have zx173_z181 := zb_rng x173
                                          refine zg_icmp_le X 395 dX11_count_385 (by decide) (fun c182 => ?_) (fun c182 => ?_)
                                          · skip
                                            replace E := zIf_f (Int.not_lt.mpr c182) E
                                            refine zg_iinc X 1 (fun v183 => [(3, .int v183), (2, .int x173), (0, .ref a0), (1, .int p1)]) 0 dX11_count_395 rfl (by decide) (by decide) (by omega) (by omega) (fun _ => rfl) (fun v183 ev183 hv183 => ?_)
                                            replace E := zLet_s (zinc ev183 (by decide)) E
                                            refine zg_goto X 370 dX11_count_398 (by decide) ?_
                                            refine zg_sub [0, 1, 2, 3] rfl ?_
                                            exact ihLp174 _ v183 x173 hI hS gE_Lp174 gH_Lp174 gL_Lp174 gN_Lp174 E  (by omega) (by omega) 
                                          · skip
                                            replace E := zIf_t c182 E
                                            refine zg_aload_n X 2 rfl dX11_count_388 ?_
                                            refine fg_X11_113 X hI ha0 dX11_count_389 (fun v184 ev184 hv184 => ?_)
                                            replace E := zLet_s (zgr ev184) E
                                            refine zg_iload_n X 0 rfl dX11_count_392 ?_
                                            refine ag_152 X hI hv184 (by omega) (by omega) dX11_count_393 (fun v185 ev185 _ => ?_)
                                            replace E := zLet_s ev185 E
                                            refine zg_istore_n X [(2, .int v185), (3, .int x172), (0, .ref a0), (1, .int p1)] dX11_count_394 (by decide) rfl ?_
                                            refine zg_iinc X 1 (fun v186 => [(3, .int v186), (2, .int v185), (0, .ref a0), (1, .int p1)]) 1 dX11_count_395 rfl (by decide) (by decide) (by omega) (by omega) (fun _ => rfl) (fun v186 ev186 hv186 => ?_)
                                            replace E := zLet_s (zinc ev186 (by decide)) E
                                            refine zg_goto X 370 dX11_count_398 (by decide) ?_
                                            refine zg_sub [0, 1, 2, 3] rfl ?_
                                            exact ihLp174 _ v186 v185 hI hS gE_Lp174 gH_Lp174 gL_Lp174 gN_Lp174 E  (by omega) (by omega) 
                                    refine zg_sub [0, 1, 2, 3] rfl ?_
                                    exact Lp174 10000 _ v171 v3 hI hS gEt1 gHt1 gLt1 gNt1 E  (by omega) (by omega) 
                                  · skip
                                    replace E := zIf_f q170 E
                                    refine zg_tabOut X 403 dX11_count_7 (by omega) (by decide) ?_
                                    refine zg_iconst X (-1) dX11_count_403 (by decide) (fun v187 _ hv187 => ?_)
                                    replace E := zLet_s (zcst hv187 (by decide)) E
                                    exact ret _ _ _ _ dX11_count_404 rfl ⟨E.symm.trans hR, ⟨⟨gNt1, gHt1, gEt1, gLt1⟩, hI, hS⟩⟩
set_option maxHeartbeats 4000000 in
set_option maxRecDepth 100000 in
theorem t_X11_hold (l : Launch) (d : zD2) (L : List Nat) (kd : Nat → Nat) (κ : Int) (σ : zS) (hI : zJ κ L kd σ) (a0 : Nat) (ha0 : zT L kd a0 11) (p1 : Int32) (hgN : gN a0 σ) (hgH : gH a0 σ) (hgE : gE a0 σ) (hgL : gL a0 σ) : zMi l yX11_hold (Cond.code yX11_hold cX11_hold 3 (some .boolean) :: zWL) 1 [.ref a0, .int p1] d L kd σ (fun v σ2 => (v, σ2) = F_X11_hold a0 p1 σ ∧ ((((0 ≤ v.toInt ∧ v.toInt ≤ 1)) ∧ (((v.toInt = 1 ∧ 0 ≤ p1.toInt ∧ p1.toInt ≤ 2) ∨ (v.toInt = 0 ∧ (p1.toInt < 0 ∨ 2 < p1.toInt)))) ∧ (gN a0 σ2) ∧ (gH a0 σ2) ∧ (gE a0 σ2) ∧ (gL a0 σ2)) ∧ zJ κ L kd σ2 ∧ zSame a0 [] [167, 168] L kd σ σ2)) := by
  refine zMi.of (own := RX11) (by decide +kernel) rfl rfl (Nat.le_of_ble_eq_true rfl) ?_
  intro p e s m args below meth c A Q X ret
  have hS : zSame a0 [] [167, 168] L kd σ σ := zSame.rf
  refine zg_lv (lv2 := [(0, .ref a0), (1, .int p1)]) rfl ?_
  have zm := zM_in hI ha0
  obtain ⟨R, hR⟩ : ∃ R, R = F_X11_hold a0 p1 σ := ⟨_, rfl⟩
  have E := hR
  unfold F_X11_hold at E
  refine zg_iload_n X 1 rfl dX11_hold_0 ?_
  refine zg_iconst X 0 dX11_hold_1 (by decide) (fun v1 _ hv1 => ?_)
  replace E := zLet_s (zcst hv1 (by decide)) E
  refine zg_iconst X 2 dX11_hold_2 (by decide) (fun v2 _ hv2 => ?_)
  replace E := zLet_s (zcst hv2 (by decide)) E
  refine zg_cSi (As := [.int p1, .int v1, .int v2]) (st := []) X (t_X11_in l d L kd _ p1 v1 v2 ) mk_X11_316 mc_X11_in mz_X11 ms_X11_in (na := 3) ⟨md_X11.1, md_X11.2, by decide +kernel⟩ rfl ⟨by decide, by decide⟩ (Nat.le_of_ble_eq_true rfl) dX11_hold_3 (fun v3 σ2 hq => ?_)
  obtain ⟨⟨hF, hv3⟩, rfl⟩ := hq
  replace E := zLet_s hF E
  refine zg_if_ne X 11 dX11_hold_6 (by decide) (fun c4 => ?_) (fun c4 => ?_)
  · skip
    replace E := zIf_f c4 E
    refine zg_aload_n X 0 rfl dX11_hold_11 ?_
    refine fg_X11_149 X hI ha0 dX11_hold_12 (fun v5 ev5 hv5 => ?_)
    replace E := zLet_s (zgr ev5) E
    refine zg_iload_n X 1 rfl dX11_hold_15 ?_
    refine zg_iconst X 1 dX11_hold_16 (by decide) (fun v6 _ hv6 => ?_)
    replace E := zLet_s (zcst hv6 (by decide)) E
    refine as_167 X hI hv5 (by omega) (by omega) ⟨by omega, by omega⟩ dX11_hold_17 (fun s7 es7 hI => ?_)
    replace E := zLet_s es7 E
    have g8 := (zSame.rf (o := a0) (Wf := []) (Wa := [167]) (L := L) (kd := kd) (σ := σ)).a ha0 hv5 es7 rfl (by decide)
    have rs7 := zp_st (σ := σ) (σ2 := s7) (i := p1) (x := v6) ev5 (by rw [es7, zb_nz ⟨by omega, by omega⟩]) (by omega)
    have ws7 := rs7
    have hS := hS.tr g8 (by decide) (by decide)
    have Ms7 := zM_same hI ha0 g8 (by decide)
    have as7_48 := zp_same hI ha0 g8 48 rfl (by decide) (by decide)
    have as7_68 := zp_same hI ha0 g8 68 rfl (by decide) (by decide)
    have gNs7 := gN.same hI ha0 g8 (by decide) hgN
    have gHs7 := gH.same hI ha0 g8 (by decide) hgH
    have gLs7 := gL.same hI ha0 g8 (by decide) hgL
    refine zg_iconst X 0 dX11_hold_18 (by decide) (fun v9 _ hv9 => ?_)
    replace E := zLet_s (zcst hv9 (by decide)) E
    refine zg_istore_n X [(2, .int v9), (0, .ref a0), (1, .int p1)] dX11_hold_19 (by decide) rfl ?_
    have Lp11 : ∀ (nLp11 : Nat) (τ11 : zS) (x10 : Int32), zJ κ L kd τ11 → zSame a0 [] [167, 168] L kd σ τ11 → gH a0 τ11 → gL a0 τ11 → gN a0 τ11 → zM a0 τ11 = zM a0 σ → zp a0 τ11 48 = zp a0 σ 48 → R = F_X11_hold_20 a0 p1  nLp11 x10 τ11 → 0 ≤ x10.toInt ∧ x10.toInt ≤ 50 → (50) - x10.toInt + 1 < (nLp11 : Int) → (∀ j : Int, 0 ≤ j → j < x10.toInt → zp a0 τ11 68 (50 * p1.toInt + j) = zp a0 σ 48 j) → (∀ x : Int, 0 ≤ x → (x < 50 * p1.toInt ∨ 50 * p1.toInt + 50 ≤ x) → zp a0 τ11 68 x = zp a0 σ 68 x) → (∀ i : Int, 0 ≤ i → i ≠ p1.toInt → zp a0 τ11 67 i = zp a0 σ 67 i) → zG d L kd A 3 p l e (k2_rm 1 (100 * 1)) s m args below meth c Q τ11 20 [(2, .int x10), (0, .ref a0), (1, .int p1)] [] := by
      intro nLp11
      induction nLp11 with
      | zero => intro τ11 x10 hI hS gH_Lp11 gL_Lp11 gN_Lp11 M_Lp11 A48_Lp11 E  hxLp11 hm _ _ _ ; exact absurd hm (by omega)
      | succ nLp11 ihLp11 =>
        intro τ11 x10 hI hS gH_Lp11 gL_Lp11 gN_Lp11 M_Lp11 A48_Lp11 E  hxLp11 hmLp11 hc ho hh
        rw [F_X11_hold_20] at E
        refine zg_iload_n X 0 rfl dX11_hold_20 ?_
        refine zg_bipush X 50 dX11_hold_21 (by decide) (fun v12 _ hv12 => ?_)
        replace E := zLet_s (zcst hv12 (by decide)) E
        refine zg_icmp_ge X 49 dX11_hold_23 (by decide) (fun c13 => ?_) (fun c13 => ?_)
        · skip
          replace E := zIf_f (Int.not_lt.mpr c13) E
          refine zg_iconst X 1 dX11_hold_49 (by decide) (fun v14 _ hv14 => ?_)
          replace E := zLet_s (zcst hv14 (by decide)) E
          exact ret _ _ _ _ dX11_hold_50 (zb_bool ⟨by omega, by omega⟩) ⟨E.symm.trans hR, ⟨⟨⟨by omega, by omega⟩, (by omega), gN_Lp11, gH_Lp11, (by first | exact hgE | (unfold gE; rw [M_Lp11]; exact fun i h0 h1 h2 => if z : i = p1.toInt then gRow.congr zm.2 (show gRow _ _ from hgN) (fun j h3 h4 => by show zp a0 _ 68 (50 * i + j) = _; rw [z]; exact hc j (by omega) (by omega)) else gRow.congr zm.2 (hgE i h0 h1 (by rw [← hh i h0 z]; exact h2)) (fun j h3 h4 => by show zp a0 _ 68 (50 * i + j) = zp a0 _ 68 (50 * i + j); exact ho _ (by omega) (by omega)))), gL_Lp11⟩, hI, hS⟩⟩
        · skip
          replace E := zIf_t c13 E
          refine zg_aload_n X 1 rfl dX11_hold_26 ?_
          refine fg_X11_152 X hI ha0 dX11_hold_27 (fun v15 ev15 hv15 => ?_)
          replace E := zLet_s (zgr ev15) E
          refine zg_bipush X 50 dX11_hold_30 (by decide) (fun v16 _ hv16 => ?_)
          replace E := zLet_s (zcst hv16 (by decide)) E
          refine zg_iload_n X 2 rfl dX11_hold_32 ?_
          refine zg_imulc X 50 dX11_hold_33 (by omega) (by omega) (by omega) (fun v17 ev17 hv17 => ?_)
          replace E := zLet_s ev17 E
          refine zg_iload_n X 0 rfl dX11_hold_34 ?_
          refine zg_iadd X dX11_hold_35 (by omega) (by omega) (fun v18 ev18 hv18 => ?_)
          replace E := zLet_s ev18 E
          refine zg_aload_n X 1 rfl dX11_hold_36 ?_
          refine fg_X11_107 X hI ha0 dX11_hold_37 (fun v19 ev19 hv19 => ?_)
          replace E := zLet_s (zgr ev19) E
          refine zg_iload_n X 0 rfl dX11_hold_40 ?_
          refine ag_148 X hI hv19 (by omega) (by omega) dX11_hold_41 (fun v20 ev20 _ => ?_)
          replace E := zLet_s ev20 E
          have qv20 := zp_ld ev19 ev20
          rw [A48_Lp11] at qv20
          refine as_168 X hI hv15 (by omega) (by omega) dX11_hold_42 (fun s21 es21 hI => ?_)
          replace E := zLet_s es21 E
          have g22 := (zSame.rf (o := a0) (Wf := []) (Wa := [168]) (L := L) (kd := kd) (σ := τ11)).a ha0 hv15 es21 rfl (by decide)
          have rs21 := zp_st (σ := τ11) (σ2 := s21) (i := v18) (x := v20) ev15 es21 (by omega)
          have ws21 := rs21
          have hS := hS.tr g22 (by decide) (by decide)
          have Ms21 := (zM_same hI ha0 g22 (by decide)).trans M_Lp11
          have as21_48 := (zp_same hI ha0 g22 48 rfl (by decide) (by decide)).trans A48_Lp11
          have us21_67 := zp_same hI ha0 g22 67 rfl (by decide) (by decide)
          have gHs21 := gH.same hI ha0 g22 (by decide) gH_Lp11
          have gLs21 := gL.same hI ha0 g22 (by decide) gL_Lp11
          have gNs21 := gN.same hI ha0 g22 (by decide) gN_Lp11
          refine zg_iinc X 1 (fun v23 => [(2, .int v23), (0, .ref a0), (1, .int p1)]) 0 dX11_hold_43 rfl (by decide) (by decide) (by omega) (by omega) (fun _ => rfl) (fun v23 ev23 hv23 => ?_)
          replace E := zLet_s (zinc ev23 (by decide)) E
          refine zg_goto X 20 dX11_hold_46 (by decide) ?_
          refine zg_sub [0, 1, 2] rfl ?_
          exact ihLp11 _ v23 hI hS gHs21 gLs21 gNs21 Ms21 as21_48 E  (by omega) (by omega) (fun j h0 h1 => by rw [ws21 _ (by omega)]; split <;> rename_i hj <;> first | (rw [qv20]; congr 1; omega) | exact hc j h0 (by omega)) (fun x h0 h1 => by rw [ws21 x h0, if_neg (by omega)]; exact ho x h0 h1) (fun i h0 h1 => by rw [us21_67]; exact hh i h0 h1)
    refine zg_sub [0, 1, 2] rfl ?_
    exact Lp11 10000 _ v9 hI hS gHs7 gLs7 gNs7 Ms7 as7_48 E  (by omega) (by omega) (fun j h0 h1 => absurd h1 (by omega)) (fun x h0 h1 => by rw [as7_68]) (fun i h0 h1 => by rw [ws7 i h0, if_neg h1])
  · skip
    replace E := zIf_t c4 E
    refine zg_iconst X 0 dX11_hold_9 (by decide) (fun v24 _ hv24 => ?_)
    replace E := zLet_s (zcst hv24 (by decide)) E
    exact ret _ _ _ _ dX11_hold_10 (zb_bool ⟨by omega, by omega⟩) ⟨E.symm.trans hR, ⟨⟨⟨by omega, by omega⟩, (by omega), hgN, hgH, (by first | exact hgE | (unfold gE; rw [rfl]; exact fun i h0 h1 h2 => if z : i = p1.toInt then gRow.congr zm.2 (show gRow _ _ from hgN) (fun j h3 h4 => by show zp a0 _ 68 (50 * i + j) = _; rw [z]; exact hc j (by omega) (by omega)) else gRow.congr zm.2 (hgE i h0 h1 (by rw [← hh i h0 z]; exact h2)) (fun j h3 h4 => by show zp a0 _ 68 (50 * i + j) = zp a0 _ 68 (50 * i + j); exact ho _ (by omega) (by omega)))), hgL⟩, hI, hS⟩⟩
set_option maxHeartbeats 4000000 in
set_option maxRecDepth 100000 in
theorem t_X11_restore (l : Launch) (d : zD2) (L : List Nat) (kd : Nat → Nat) (κ : Int) (σ : zS) (hI : zJ κ L kd σ) (a0 : Nat) (ha0 : zT L kd a0 11) (p1 : Int32) (hgN : gN a0 σ) (hgH : gH a0 σ) (hgE : gE a0 σ) (hgL : gL a0 σ) : zMi l yX11_restore (Cond.code yX11_restore cX11_restore 3 (some .boolean) :: zWL) 1 [.ref a0, .int p1] d L kd σ (fun v σ2 => (v, σ2) = F_X11_restore a0 p1 σ ∧ ((((0 ≤ v.toInt ∧ v.toInt ≤ 1)) ∧ (gN a0 σ2) ∧ (gH a0 σ2) ∧ (gE a0 σ2) ∧ (gL a0 σ2)) ∧ zJ κ L kd σ2 ∧ zSame a0 [57] [148] L kd σ σ2)) := by
  refine zMi.of (own := RX11) (by decide +kernel) rfl rfl (Nat.le_of_ble_eq_true rfl) ?_
  intro p e s m args below meth c A Q X ret
  have hS : zSame a0 [57] [148] L kd σ σ := zSame.rf
  refine zg_lv (lv2 := [(0, .ref a0), (1, .int p1)]) rfl ?_
  have zm := zM_in hI ha0
  obtain ⟨R, hR⟩ : ∃ R, R = F_X11_restore a0 p1 σ := ⟨_, rfl⟩
  have E := hR
  unfold F_X11_restore at E
  refine zg_iload_n X 1 rfl dX11_restore_0 ?_
  refine zg_iconst X 0 dX11_restore_1 (by decide) (fun v1 _ hv1 => ?_)
  replace E := zLet_s (zcst hv1 (by decide)) E
  refine zg_iconst X 2 dX11_restore_2 (by decide) (fun v2 _ hv2 => ?_)
  replace E := zLet_s (zcst hv2 (by decide)) E
  refine zg_cSi (As := [.int p1, .int v1, .int v2]) (st := []) X (t_X11_in l d L kd _ p1 v1 v2 ) mk_X11_316 mc_X11_in mz_X11 ms_X11_in (na := 3) ⟨md_X11.1, md_X11.2, by decide +kernel⟩ rfl ⟨by decide, by decide⟩ (Nat.le_of_ble_eq_true rfl) dX11_restore_3 (fun v3 σ2 hq => ?_)
  obtain ⟨⟨hF, hv3⟩, rfl⟩ := hq
  replace E := zLet_s hF E
  refine zg_if_eq X 18 dX11_restore_6 (by decide) (fun c4 => ?_) (fun c4 => ?_)
  · skip
    replace E := zIf_t c4 E
    refine zg_iconst X 0 dX11_restore_18 (by decide) (fun v5 _ hv5 => ?_)
    replace E := zLet_s (zcst hv5 (by decide)) E
    exact ret _ _ _ _ dX11_restore_19 (zb_bool ⟨by omega, by omega⟩) ⟨E.symm.trans hR, ⟨⟨⟨by omega, by omega⟩, (by first | exact hgN | (unfold gN; rw [rfl, rfl]; exact gRow.congr zm.2 (hgE p1.toInt (by omega) (by omega) (by omega)) (fun j h1 h2 => hc j (by omega) (by omega)))), (by first | exact hgH | (unfold gH; exact fun i h0 h1 => absurd h1 (by omega))), hgE, hgL⟩, hI, hS⟩⟩
  · skip
    replace E := zIf_f c4 E
    refine zg_aload_n X 0 rfl dX11_restore_9 ?_
    refine fg_X11_149 X hI ha0 dX11_restore_10 (fun v6 ev6 hv6 => ?_)
    replace E := zLet_s (zgr ev6) E
    refine zg_iload_n X 1 rfl dX11_restore_13 ?_
    refine ag_167 X hI hv6 (by omega) (by omega) dX11_restore_14 (fun v7 ev7 hv7 => ?_)
    replace E := zLet_s ev7 E
    have qv7 := zp_ld ev6 ev7
    have zh := qv7
    refine zg_if_ne X 20 dX11_restore_15 (by decide) (fun c8 => ?_) (fun c8 => ?_)
    · skip
      replace E := zIf_f c8 E
      refine zg_iconst X 0 dX11_restore_20 (by decide) (fun v9 _ hv9 => ?_)
      replace E := zLet_s (zcst hv9 (by decide)) E
      refine zg_istore_n X [(2, .int v9), (0, .ref a0), (1, .int p1)] dX11_restore_21 (by decide) rfl ?_
      have Lp11 : ∀ (nLp11 : Nat) (τ11 : zS) (x10 : Int32), zJ κ L kd τ11 → zSame a0 [57] [148] L kd σ τ11 → gE a0 τ11 → gL a0 τ11 → zM a0 τ11 = zM a0 σ → zp a0 τ11 67 = zp a0 σ 67 → zp a0 τ11 68 = zp a0 σ 68 → R = F_X11_restore_22 a0 p1  nLp11 x10 τ11 → 0 ≤ x10.toInt ∧ x10.toInt ≤ 50 → (50) - x10.toInt + 1 < (nLp11 : Int) → (∀ j : Int, 0 ≤ j → j < x10.toInt → zp a0 τ11 48 j = zp a0 σ 68 (50 * p1.toInt + j)) → zG d L kd A 3 p l e (k2_rm 1 (100 * 1)) s m args below meth c Q τ11 22 [(2, .int x10), (0, .ref a0), (1, .int p1)] [] := by
        intro nLp11
        induction nLp11 with
        | zero => intro τ11 x10 hI hS gE_Lp11 gL_Lp11 M_Lp11 A67_Lp11 A68_Lp11 E  hxLp11 hm _ ; exact absurd hm (by omega)
        | succ nLp11 ihLp11 =>
          intro τ11 x10 hI hS gE_Lp11 gL_Lp11 M_Lp11 A67_Lp11 A68_Lp11 E  hxLp11 hmLp11 hc
          rw [F_X11_restore_22] at E
          refine zg_iload_n X 0 rfl dX11_restore_22 ?_
          refine zg_bipush X 50 dX11_restore_23 (by decide) (fun v12 _ hv12 => ?_)
          replace E := zLet_s (zcst hv12 (by decide)) E
          refine zg_icmp_ge X 51 dX11_restore_25 (by decide) (fun c13 => ?_) (fun c13 => ?_)
          · skip
            replace E := zIf_f (Int.not_lt.mpr c13) E
            refine zg_aload_n X 1 rfl dX11_restore_51 ?_
            refine zg_iconst X 0 dX11_restore_52 (by decide) (fun v14 _ hv14 => ?_)
            replace E := zLet_s (zcst hv14 (by decide)) E
            refine fp_X11_258 X hI ha0 ⟨by omega, by omega⟩ dX11_restore_53 (fun s15 es15 hI => ?_)
            replace E := zLet_s es15 E
            have g16 := (zSame.rf (o := a0) (Wf := [57]) (Wa := []) (L := L) (kd := kd) (σ := τ11)).f ha0 es15 rfl
            have hS := hS.tr g16 (by decide) (by decide)
            have Ms15 := (zM_same hI ha0 g16 (by decide)).trans M_Lp11
            have as15_48 := zp_same hI ha0 g16 48 rfl (by decide) (by decide)
            have gEs15 := gE.same hI ha0 g16 (by decide) gE_Lp11
            have gLs15 := gL.same hI ha0 g16 (by decide) gL_Lp11
            have fs15_57 : (s15.1 a0 57).toInt = v14.toInt := by rw [es15]; exact congrArg _ (zu_s _ _ _ _)
            have e17 : v14 = s15.1 a0 57 := by rw [es15]; exact zm_s
            refine zg_iconst X 1 dX11_restore_56 (by decide) (fun v18 _ hv18 => ?_)
            replace E := zLet_s (zcst hv18 (by decide)) E
            exact ret _ _ _ _ dX11_restore_57 (zb_bool ⟨by omega, by omega⟩) ⟨E.symm.trans hR, ⟨⟨⟨by omega, by omega⟩, (by first | exact hgN | (unfold gN; rw [Ms15, as15_48]; exact gRow.congr zm.2 (hgE p1.toInt (by omega) (by omega) (by omega)) (fun j h1 h2 => hc j (by omega) (by omega)))), (by first | exact hgH | (unfold gH; exact fun i h0 h1 => absurd h1 (by omega))), gEs15, gLs15⟩, hI, hS⟩⟩
          · skip
            replace E := zIf_t c13 E
            refine zg_aload_n X 1 rfl dX11_restore_28 ?_
            refine fg_X11_107 X hI ha0 dX11_restore_29 (fun v19 ev19 hv19 => ?_)
            replace E := zLet_s (zgr ev19) E
            refine zg_iload_n X 0 rfl dX11_restore_32 ?_
            refine zg_aload_n X 1 rfl dX11_restore_33 ?_
            refine fg_X11_152 X hI ha0 dX11_restore_34 (fun v20 ev20 hv20 => ?_)
            replace E := zLet_s (zgr ev20) E
            refine zg_bipush X 50 dX11_restore_37 (by decide) (fun v21 _ hv21 => ?_)
            replace E := zLet_s (zcst hv21 (by decide)) E
            refine zg_iload_n X 2 rfl dX11_restore_39 ?_
            refine zg_imulc X 50 dX11_restore_40 (by omega) (by omega) (by omega) (fun v22 ev22 hv22 => ?_)
            replace E := zLet_s ev22 E
            refine zg_iload_n X 0 rfl dX11_restore_41 ?_
            refine zg_iadd X dX11_restore_42 (by omega) (by omega) (fun v23 ev23 hv23 => ?_)
            replace E := zLet_s ev23 E
            refine ag_168 X hI hv20 (by omega) (by omega) dX11_restore_43 (fun v24 ev24 _ => ?_)
            replace E := zLet_s ev24 E
            have qv24 := zp_ld ev20 ev24
            rw [A68_Lp11] at qv24
            refine as_148 X hI hv19 (by omega) (by omega) dX11_restore_44 (fun s25 es25 hI => ?_)
            replace E := zLet_s es25 E
            have g26 := (zSame.rf (o := a0) (Wf := []) (Wa := [148]) (L := L) (kd := kd) (σ := τ11)).a ha0 hv19 es25 rfl (by decide)
            have rs25 := zp_st (σ := τ11) (σ2 := s25) (i := x10) (x := v24) ev19 es25 (by omega)
            have ws25 := rs25
            have fs25_57 : (s25.1 a0 57).toInt = (τ11.1 a0 57).toInt := by rw [g26.2.1 57 (by decide)]
            have hS := hS.tr g26 (by decide) (by decide)
            have Ms25 := (zM_same hI ha0 g26 (by decide)).trans M_Lp11
            have as25_67 := (zp_same hI ha0 g26 67 rfl (by decide) (by decide)).trans A67_Lp11
            have as25_68 := (zp_same hI ha0 g26 68 rfl (by decide) (by decide)).trans A68_Lp11
            have gEs25 := gE.same hI ha0 g26 (by decide) gE_Lp11
            have gLs25 := gL.same hI ha0 g26 (by decide) gL_Lp11
            refine zg_iinc X 1 (fun v27 => [(2, .int v27), (0, .ref a0), (1, .int p1)]) 0 dX11_restore_45 rfl (by decide) (by decide) (by omega) (by omega) (fun _ => rfl) (fun v27 ev27 hv27 => ?_)
            replace E := zLet_s (zinc ev27 (by decide)) E
            refine zg_goto X 22 dX11_restore_48 (by decide) ?_
            refine zg_sub [0, 1, 2] rfl ?_
            exact ihLp11 _ v27 hI hS gEs25 gLs25 Ms25 as25_67 as25_68 E  (by omega) (by omega) (fun j h0 h1 => by rw [ws25 j h0]; split <;> rename_i hj <;> first | (rw [qv24]; congr 1; omega) | exact hc j h0 (by omega))
      refine zg_sub [0, 1, 2] rfl ?_
      exact Lp11 10000 _ v9 hI hS hgE hgL rfl rfl rfl E  (by omega) (by omega) (fun j h0 h1 => absurd h1 (by omega))
    · skip
      replace E := zIf_t c8 E
      refine zg_iconst X 0 dX11_restore_18 (by decide) (fun v28 _ hv28 => ?_)
      replace E := zLet_s (zcst hv28 (by decide)) E
      exact ret _ _ _ _ dX11_restore_19 (zb_bool ⟨by omega, by omega⟩) ⟨E.symm.trans hR, ⟨⟨⟨by omega, by omega⟩, (by first | exact hgN | (unfold gN; rw [rfl, rfl]; exact gRow.congr zm.2 (hgE p1.toInt (by omega) (by omega) (by omega)) (fun j h1 h2 => hc j (by omega) (by omega)))), (by first | exact hgH | (unfold gH; exact fun i h0 h1 => absurd h1 (by omega))), hgE, hgL⟩, hI, hS⟩⟩
set_option maxHeartbeats 4000000 in
set_option maxRecDepth 100000 in
theorem t_X11_forget (l : Launch) (d : zD2) (L : List Nat) (kd : Nat → Nat) (κ : Int) (σ : zS) (hI : zJ κ L kd σ) (a0 : Nat) (ha0 : zT L kd a0 11) (hgN : gN a0 σ) (hgH : gH a0 σ) (hgE : gE a0 σ) (hgL : gL a0 σ) : zMi l yX11_forget (Cond.code yX11_forget cX11_forget 2 (some .int) :: zWL) 0 [.ref a0] d L kd σ (fun v σ2 => (v, σ2) = F_X11_forget a0 σ ∧ (((gN a0 σ2) ∧ (gH a0 σ2) ∧ (gE a0 σ2) ∧ (gL a0 σ2)) ∧ zJ κ L kd σ2 ∧ zSame a0 [62] [] L kd σ σ2)) := by
  refine zMi.of (own := RX11) (by decide +kernel) rfl rfl (Nat.le_of_ble_eq_true rfl) ?_
  intro p e s m args below meth c A Q X ret
  have hS : zSame a0 [62] [] L kd σ σ := zSame.rf
  refine zg_lv (lv2 := [(0, .ref a0)]) rfl ?_
  obtain ⟨R, hR⟩ : ∃ R, R = F_X11_forget a0 σ := ⟨_, rfl⟩
  have E := hR
  unfold F_X11_forget at E
  refine zg_aload_n X 0 rfl dX11_forget_0 ?_
  refine fg_X11_261 X hI ha0 dX11_forget_1 (fun v1 ev1 hv1 => ?_)
  replace E := zLet_s ev1 E
  refine zg_istore_n X [(1, .int v1), (0, .ref a0)] dX11_forget_4 (by decide) rfl ?_
  refine zg_aload_n X 1 rfl dX11_forget_5 ?_
  refine zg_iconst X 0 dX11_forget_6 (by decide) (fun v2 _ hv2 => ?_)
  replace E := zLet_s (zcst hv2 (by decide)) E
  refine fp_X11_261 X hI ha0 ⟨by omega, by omega⟩ dX11_forget_7 (fun s3 es3 hI => ?_)
  replace E := zLet_s es3 E
  have g4 := (zSame.rf (o := a0) (Wf := [62]) (Wa := []) (L := L) (kd := kd) (σ := σ)).f ha0 es3 rfl
  have hS := hS.tr g4 (by decide) (by decide)
  have gNs3 := gN.same hI ha0 g4 (by decide) hgN
  have gHs3 := gH.same hI ha0 g4 (by decide) hgH
  have gEs3 := gE.same hI ha0 g4 (by decide) hgE
  have gLs3 := gL.same hI ha0 g4 (by decide) hgL
  have fs3_62 : (s3.1 a0 62).toInt = v2.toInt := by rw [es3]; exact congrArg _ (zu_s _ _ _ _)
  have e5 : v2 = s3.1 a0 62 := by rw [es3]; exact zm_s
  refine zg_iload_n X 0 rfl dX11_forget_10 ?_
  exact ret _ _ _ _ dX11_forget_11 rfl ⟨E.symm.trans hR, ⟨⟨gNs3, gHs3, gEs3, gLs3⟩, hI, hS⟩⟩
set_option maxHeartbeats 4000000 in
set_option maxRecDepth 100000 in
theorem t_X11_feed (l : Launch) (d : zD2) (L : List Nat) (kd : Nat → Nat) (κ : Int) (σ : zS) (hI : zJ κ L kd σ) (a0 : Nat) (ha0 : zT L kd a0 11) (p1 : Int32) (p2 : Int32) (p3 : Int32) (p4 : Int32) (p5 : Int32) (hgN : gN a0 σ) (hgH : gH a0 σ) (hgE : gE a0 σ) (hgL : gL a0 σ) : zMi l yX11_feed (Cond.code yX11_feed cX11_feed 6 (some .int) :: zWL) 1 [.ref a0, .int p1, .int p2, .int p3, .int p4, .int p5] d L kd σ (fun v σ2 => (v, σ2) = F_X11_feed a0 p1 p2 p3 p4 p5 σ ∧ (∃ κ2 : Int, ((((v.toInt = -1 ∧ 2000 < κ + 20 ∧ κ2 = κ) ∨ (v.toInt = κ + 20 ∧ κ + 20 ≤ 2000 ∧ κ2 = κ + 20))) ∧ (gN a0 σ2) ∧ (gH a0 σ2) ∧ (gE a0 σ2) ∧ (gL a0 σ2)) ∧ zJ κ2 L kd σ2 ∧ zSame a0 [2] [101] L kd σ σ2)) := by
  refine zMi.of (own := RX11) (by decide +kernel) rfl rfl (Nat.le_of_ble_eq_true rfl) ?_
  intro p e s m args below meth c A Q X ret
  have hS : zSame a0 [2] [101] L kd σ σ := zSame.rf
  refine zg_lv (lv2 := [(0, .ref a0), (1, .int p1), (2, .int p2), (3, .int p3), (4, .int p4), (5, .int p5)]) rfl ?_
  have zk := hI.2.2.1
  obtain ⟨R, hR⟩ : ∃ R, R = F_X11_feed a0 p1 p2 p3 p4 p5 σ := ⟨_, rfl⟩
  have E := hR
  unfold F_X11_feed at E
  refine zg_aload_n X 0 rfl dX11_feed_0 ?_
  refine fg_X11_169 X hI ha0 dX11_feed_1 (fun v1 ev1 hv1 => ?_)
  replace E := zLet_s ev1 E
  have hkv1 := hI.2.2.1
  have kv1 : (σ.1 a0 2).toInt = v1.toInt := by rw [ev1]
  refine zg_bipush X 20 dX11_feed_4 (by decide) (fun v2 _ hv2 => ?_)
  replace E := zLet_s (zcst hv2 (by decide)) E
  refine zg_iadd X dX11_feed_6 (by omega) (by omega) (fun v3 ev3 hv3 => ?_)
  replace E := zLet_s ev3 E
  refine zg_sipush X 2000 dX11_feed_7 (by decide) (fun v4 _ hv4 => ?_)
  replace E := zLet_s (zcst hv4 (by decide)) E
  refine zg_icmp_le X 15 dX11_feed_10 (by decide) (fun c5 => ?_) (fun c5 => ?_)
  · skip
    replace E := zIf_f (Int.not_lt.mpr c5) E
    refine zg_aload_n X 0 rfl dX11_feed_15 ?_
    refine zg_iload_n X 1 rfl dX11_feed_16 ?_
    refine zg_cVv (As := [.int p1]) (st := []) X ha0 rfl (by decide) rfl (t_X11_put l d L kd κ _ hI a0 ha0 p1  (by omega)) mk_X11_172 mc_X11_put mz_X11 mi_X11_put ml_X11_put (na := 1) ⟨md_X11.1, md_X11.2, by decide +kernel⟩ rfl ⟨by decide, by decide⟩ (Nat.le_of_ble_eq_true rfl) dX11_feed_17 (fun t6 hq => ?_)
    obtain ⟨hF, hI, g7⟩ := hq
    replace E := zLet_s hF E
    have hS := hS.tr g7 (by decide) (by decide)
    have gNt6 := gN.same hI ha0 g7 (by decide) hgN
    have gHt6 := gH.same hI ha0 g7 (by decide) hgH
    have gEt6 := gE.same hI ha0 g7 (by decide) hgE
    have gLt6 := gL.same hI ha0 g7 (by decide) hgL
    refine zg_aload_n X 0 rfl dX11_feed_20 ?_
    refine zg_iload_n X 2 rfl dX11_feed_21 ?_
    refine zg_cVv (As := [.int p2]) (st := []) X ha0 rfl (by decide) rfl (t_X11_put l d L kd (κ + 4) _ hI a0 ha0 p2  (by omega)) mk_X11_172 mc_X11_put mz_X11 mi_X11_put ml_X11_put (na := 1) ⟨md_X11.1, md_X11.2, by decide +kernel⟩ rfl ⟨by decide, by decide⟩ (Nat.le_of_ble_eq_true rfl) dX11_feed_22 (fun t8 hq => ?_)
    obtain ⟨hF, hI, g9⟩ := hq
    replace E := zLet_s hF E
    have hS := hS.tr g9 (by decide) (by decide)
    have gNt8 := gN.same hI ha0 g9 (by decide) gNt6
    have gHt8 := gH.same hI ha0 g9 (by decide) gHt6
    have gEt8 := gE.same hI ha0 g9 (by decide) gEt6
    have gLt8 := gL.same hI ha0 g9 (by decide) gLt6
    refine zg_aload_n X 0 rfl dX11_feed_25 ?_
    refine zg_iload_n X 3 rfl dX11_feed_26 ?_
    refine zg_cVv (As := [.int p3]) (st := []) X ha0 rfl (by decide) rfl (t_X11_put l d L kd ((κ + 4) + 4) _ hI a0 ha0 p3  (by omega)) mk_X11_172 mc_X11_put mz_X11 mi_X11_put ml_X11_put (na := 1) ⟨md_X11.1, md_X11.2, by decide +kernel⟩ rfl ⟨by decide, by decide⟩ (Nat.le_of_ble_eq_true rfl) dX11_feed_27 (fun t10 hq => ?_)
    obtain ⟨hF, hI, g11⟩ := hq
    replace E := zLet_s hF E
    have hS := hS.tr g11 (by decide) (by decide)
    have gNt10 := gN.same hI ha0 g11 (by decide) gNt8
    have gHt10 := gH.same hI ha0 g11 (by decide) gHt8
    have gEt10 := gE.same hI ha0 g11 (by decide) gEt8
    have gLt10 := gL.same hI ha0 g11 (by decide) gLt8
    refine zg_aload_n X 0 rfl dX11_feed_30 ?_
    refine zg_iload X 4 rfl dX11_feed_31 ?_
    refine zg_cVv (As := [.int p4]) (st := []) X ha0 rfl (by decide) rfl (t_X11_put l d L kd (((κ + 4) + 4) + 4) _ hI a0 ha0 p4  (by omega)) mk_X11_172 mc_X11_put mz_X11 mi_X11_put ml_X11_put (na := 1) ⟨md_X11.1, md_X11.2, by decide +kernel⟩ rfl ⟨by decide, by decide⟩ (Nat.le_of_ble_eq_true rfl) dX11_feed_33 (fun t12 hq => ?_)
    obtain ⟨hF, hI, g13⟩ := hq
    replace E := zLet_s hF E
    have hS := hS.tr g13 (by decide) (by decide)
    have gNt12 := gN.same hI ha0 g13 (by decide) gNt10
    have gHt12 := gH.same hI ha0 g13 (by decide) gHt10
    have gEt12 := gE.same hI ha0 g13 (by decide) gEt10
    have gLt12 := gL.same hI ha0 g13 (by decide) gLt10
    refine zg_aload_n X 0 rfl dX11_feed_36 ?_
    refine zg_iload X 5 rfl dX11_feed_37 ?_
    refine zg_cVv (As := [.int p5]) (st := []) X ha0 rfl (by decide) rfl (t_X11_put l d L kd ((((κ + 4) + 4) + 4) + 4) _ hI a0 ha0 p5  (by omega)) mk_X11_172 mc_X11_put mz_X11 mi_X11_put ml_X11_put (na := 1) ⟨md_X11.1, md_X11.2, by decide +kernel⟩ rfl ⟨by decide, by decide⟩ (Nat.le_of_ble_eq_true rfl) dX11_feed_39 (fun t14 hq => ?_)
    obtain ⟨hF, hI, g15⟩ := hq
    replace E := zLet_s hF E
    have hS := hS.tr g15 (by decide) (by decide)
    have gNt14 := gN.same hI ha0 g15 (by decide) gNt12
    have gHt14 := gH.same hI ha0 g15 (by decide) gHt12
    have gEt14 := gE.same hI ha0 g15 (by decide) gEt12
    have gLt14 := gL.same hI ha0 g15 (by decide) gLt12
    refine zg_aload_n X 0 rfl dX11_feed_42 ?_
    refine fg_X11_169 X hI ha0 dX11_feed_43 (fun v16 ev16 hv16 => ?_)
    replace E := zLet_s ev16 E
    have hkv16 := hI.2.2.1
    have kv16 : (t14.1 a0 2).toInt = v16.toInt := by rw [ev16]
    exact ret _ _ _ _ dX11_feed_46 rfl ⟨E.symm.trans hR, ⟨(((((κ + 4) + 4) + 4) + 4) + 4), ⟨(by omega), gNt14, gHt14, gEt14, gLt14⟩, hI, hS⟩⟩
  · skip
    replace E := zIf_t c5 E
    refine zg_iconst X (-1) dX11_feed_13 (by decide) (fun v17 _ hv17 => ?_)
    replace E := zLet_s (zcst hv17 (by decide)) E
    exact ret _ _ _ _ dX11_feed_14 rfl ⟨E.symm.trans hR, ⟨κ, ⟨(by omega), hgN, hgH, hgE, hgL⟩, hI, hS⟩⟩
set_option maxHeartbeats 4000000 in
set_option maxRecDepth 100000 in
theorem t_X11_back (l : Launch) (d : zD2) (L : List Nat) (kd : Nat → Nat) (κ : Int) (σ : zS) (hI : zJ κ L kd σ) (a0 : Nat) (ha0 : zT L kd a0 11) (p1 : Int32) (hgN : gN a0 σ) (hgH : gH a0 σ) (hgE : gE a0 σ) (hgL : gL a0 σ) : zMi l yX11_back (Cond.code yX11_back cX11_back 2 (some .int) :: zWL) 0 [.ref a0, .int p1] d L kd σ (fun v σ2 => (v, σ2) = F_X11_back a0 p1 σ ∧ (∃ κ2 : Int, ((((v.toInt = -1 ∧ (p1.toInt < 0 ∨ κ < p1.toInt) ∧ κ2 = κ) ∨ (v.toInt = κ - p1.toInt ∧ 0 ≤ p1.toInt ∧ p1.toInt ≤ κ ∧ κ2 = κ - p1.toInt))) ∧ (gN a0 σ2) ∧ (gH a0 σ2) ∧ (gE a0 σ2) ∧ (gL a0 σ2)) ∧ zJ κ2 L kd σ2 ∧ zSame a0 [2] [] L kd σ σ2)) := by
  refine zMi.of (own := RX11) (by decide +kernel) rfl rfl (Nat.le_of_ble_eq_true rfl) ?_
  intro p e s m args below meth c A Q X ret
  have hS : zSame a0 [2] [] L kd σ σ := zSame.rf
  refine zg_lv (lv2 := [(0, .ref a0), (1, .int p1)]) rfl ?_
  have zk := hI.2.2.1
  obtain ⟨R, hR⟩ : ∃ R, R = F_X11_back a0 p1 σ := ⟨_, rfl⟩
  have E := hR
  unfold F_X11_back at E
  refine zg_iload_n X 1 rfl dX11_back_0 ?_
  refine zg_if_lt X 12 dX11_back_1 (by decide) (fun c1 => ?_) (fun c1 => ?_)
  · skip
    replace E := zIf_t c1 E
    refine zg_iconst X (-1) dX11_back_12 (by decide) (fun v2 _ hv2 => ?_)
    replace E := zLet_s (zcst hv2 (by decide)) E
    exact ret _ _ _ _ dX11_back_13 rfl ⟨E.symm.trans hR, ⟨κ, ⟨(by omega), hgN, hgH, hgE, hgL⟩, hI, hS⟩⟩
  · skip
    replace E := zIf_f (Int.not_lt.mpr c1) E
    refine zg_iload_n X 1 rfl dX11_back_4 ?_
    refine zg_aload_n X 0 rfl dX11_back_5 ?_
    refine fg_X11_169 X hI ha0 dX11_back_6 (fun v3 ev3 hv3 => ?_)
    replace E := zLet_s ev3 E
    have hkv3 := hI.2.2.1
    have kv3 : (σ.1 a0 2).toInt = v3.toInt := by rw [ev3]
    have zp1_z4 := zb_rng p1
    refine zg_icmp_le X 14 dX11_back_9 (by decide) (fun c5 => ?_) (fun c5 => ?_)
    · skip
      replace E := zIf_f (Int.not_lt.mpr c5) E
      refine zg_aload_n X 0 rfl dX11_back_14 ?_
      refine zg_dup X dX11_back_15 rfl ?_
      refine fg_X11_169 X hI ha0 dX11_back_16 (fun v6 ev6 hv6 => ?_)
      replace E := zLet_s ev6 E
      have hkv6 := hI.2.2.1
      have kv6 : (σ.1 a0 2).toInt = v6.toInt := by rw [ev6]
      have mv6 : v6.toInt = v3.toInt := by rw [ev6, ← ev3]
      refine zg_iload_n X 1 rfl dX11_back_19 ?_
      refine zg_isub X dX11_back_20 (by omega) (by omega) (fun v7 ev7 hv7 => ?_)
      replace E := zLet_s ev7 E
      refine fq_X11_169 X ha0 dX11_back_21 (fun s8 es8 => ?_)
      replace E := zLet_s es8 E
      have hI : zJ v7.toInt L kd s8 := by rw [es8]; exact zj_taped hI ha0 (by omega) (by omega)
      have g9 := (zSame.rf (o := a0) (Wf := [2]) (Wa := []) (L := L) (kd := kd) (σ := σ)).f ha0 es8 rfl
      have hS := hS.tr g9 (by decide) (by decide)
      have gNs8 := gN.same hI ha0 g9 (by decide) hgN
      have gHs8 := gH.same hI ha0 g9 (by decide) hgH
      have gEs8 := gE.same hI ha0 g9 (by decide) hgE
      have gLs8 := gL.same hI ha0 g9 (by decide) hgL
      have fs8_2 : (s8.1 a0 2).toInt = v7.toInt := by rw [es8]; exact congrArg _ (zu_s _ _ _ _)
      have e10 : v7 = s8.1 a0 2 := by rw [es8]; exact zm_s
      refine zg_aload_n X 0 rfl dX11_back_24 ?_
      refine fg_X11_169 X hI ha0 dX11_back_25 (fun v11 ev11 hv11 => ?_)
      replace E := zLet_s ev11 E
      have hkv11 := hI.2.2.1
      have kv11 : (s8.1 a0 2).toInt = v11.toInt := by rw [ev11]
      have mv11 : v11.toInt = v7.toInt := by rw [ev11, ← e10]
      exact ret _ _ _ _ dX11_back_28 rfl ⟨E.symm.trans hR, ⟨v7.toInt, ⟨(by omega), gNs8, gHs8, gEs8, gLs8⟩, hI, hS⟩⟩
    · skip
      replace E := zIf_t c5 E
      refine zg_iconst X (-1) dX11_back_12 (by decide) (fun v12 _ hv12 => ?_)
      replace E := zLet_s (zcst hv12 (by decide)) E
      exact ret _ _ _ _ dX11_back_13 rfl ⟨E.symm.trans hR, ⟨κ, ⟨(by omega), hgN, hgH, hgE, hgL⟩, hI, hS⟩⟩
end
-- 27.told
section
/-! A TEXT'S LAWS AS THEY ARE TOLD: codes written (zKc: those ahead stay), what waits (zWt: signs and brackets, few of them), both together (zEs: q operands more than signs wait) -/
def zKc (a0 : Nat) (σ σ2 : zS) : Prop := ∀ j : Int, 0 ≤ j → (j < (σ.1 a0 38).toInt ∨ (σ2.1 a0 38).toInt ≤ j) → zp a0 σ2 39 j = zp a0 σ 39 j ∧ zp a0 σ2 40 j = zp a0 σ 40 j
theorem zKc.rf {a0 : Nat} {σ : zS} : zKc a0 σ σ := fun _ _ _ => ⟨rfl, rfl⟩
theorem zKc.tr {a0 : Nat} {σ σ2 σ3 : zS} (h : zKc a0 σ σ2) (g : zKc a0 σ2 σ3) (h1 : (σ.1 a0 38).toInt ≤ (σ2.1 a0 38).toInt) (h2 : (σ2.1 a0 38).toInt ≤ (σ3.1 a0 38).toInt) : zKc a0 σ σ3 := fun j h0 hj => by
  have q1 := h j h0 (by omega)
  have q2 := g j h0 (by omega)
  exact ⟨q2.1.trans q1.1, q2.2.trans q1.2⟩
theorem zKc.eq {a0 : Nat} {σ σ2 : zS} (h1 : zp a0 σ2 39 = zp a0 σ 39) (h2 : zp a0 σ2 40 = zp a0 σ 40) : zKc a0 σ σ2 := fun j _ _ => ⟨congrFun h1 j, congrFun h2 j⟩
def nO (w : Int → Int) : Nat → Int
  | 0 => 0
  | n + 1 => nO w n + (if w n = 6 then 1 else 0)
theorem nO_in (w : Int → Int) : ∀ n : Nat, 0 ≤ nO w n ∧ nO w n ≤ n
  | 0 => ⟨Int.le_refl 0, Int.le_refl 0⟩
  | n + 1 => by
    have q := nO_in w n
    show 0 ≤ nO w n + (if w n = 6 then 1 else 0) ∧ nO w n + (if w n = 6 then 1 else 0) ≤ _
    split <;> omega
theorem nO_congr {w w' : Int → Int} : ∀ n : Nat, (∀ k : Nat, k < n → w' k = w k) → nO w' n = nO w n
  | 0, _ => rfl
  | n + 1, h => by
    show nO w' n + _ = nO w n + _
    rw [nO_congr n (fun k hk => h k (by omega)), h n (by omega)]
theorem nO_top {w : Int → Int} {W : Int} (h : 1 ≤ W) : nO w W.toNat = nO w (W - 1).toNat + (if w (W - 1) = 6 then 1 else 0) := by
  rw [show W.toNat = (W - 1).toNat + 1 by omega]
  show nO w (W - 1).toNat + (if w ((W - 1).toNat : Int) = 6 then 1 else 0) = _
  rw [show ((W - 1).toNat : Int) = W - 1 by omega]
def zWt (w : Int → Int) (n : Int) : Prop := ∀ i : Int, 0 ≤ i → i < n → (w i = 6 ∨ w i = 8 ∨ w i = 9 ∨ w i = 10 ∨ w i = 15) ∧ (w i = 6 → i ≤ 3 * nO w i.toNat + 2) ∧ (w i = 8 ∨ w i = 9 → i ≤ 3 * nO w i.toNat) ∧ (w i = 10 ∨ w i = 15 → i ≤ 3 * nO w i.toNat + 1)
def zEs (w f v : Int → Int) (W C fr q : Int) : Prop := 0 ≤ W ∧ W ≤ 64 ∧ zWt w W ∧ gCod f v fr C ∧ gDep f fr (C - fr).toNat = W - nO w W.toNat + q ∧ C + (W - nO w W.toNat) ≤ 839
theorem zEs.at {w f v : Int → Int} {W C fr q : Int} (h : zEs w f v W C fr q) : 0 ≤ W ∧ 0 ≤ nO w W.toNat ∧ nO w W.toNat ≤ W ∧ C + (W - nO w W.toNat) ≤ 839 ∧ 0 ≤ fr ∧ fr ≤ C := by
  have q := nO_in w W.toNat
  exact ⟨h.1, q.1, by have := h.1; omega, h.2.2.2.2.2, h.2.2.2.1.1, h.2.2.2.1.2.1⟩
theorem gCod.nil (f v : Int → Int) {a : Int} (h0 : 0 ≤ a) (h1 : a ≤ 840) : gCod f v a a := ⟨h0, by omega, h1, fun n hn => absurd hn (by omega)⟩
/-- a code more -/
theorem gCod.emit {f v f' v' : Int → Int} {a c c' k x : Int} (h : gCod f v a c) (hf : ∀ j : Int, 0 ≤ j → f' j = if j = c then k else f j) (hv : ∀ j : Int, 0 ≤ j → v' j = if j = c then x else v j) (hc : c' = c + 1) (h840 : c < 840) (hk : 0 ≤ k ∧ k ≤ 5) (hx : k = 1 → 0 ≤ x ∧ x ≤ 8) (h2 : 2 ≤ k → 2 ≤ gDep f a (c - a).toNat) (hd : 0 ≤ gDep f a (c - a).toNat ∧ gDep f a (c - a).toNat < 400) : gCod f' v' a c' ∧ gDep f' a (c' - a).toNat = gDep f a (c - a).toNat + (if k < 2 then 1 else -1) := by
  subst hc
  obtain ⟨g0, g1, g2, g3⟩ := h
  have ff : ∀ n : Nat, a + n < c → f' (a + n) = f (a + n) := fun n hn => by rw [hf _ (by omega), if_neg (by omega)]
  have vv : ∀ n : Nat, a + n < c → v' (a + n) = v (a + n) := fun n hn => by rw [hv _ (by omega), if_neg (by omega)]
  have dd : ∀ n : Nat, a + n ≤ c → gDep f' a n = gDep f a n := fun n hn => gDep_congr n (fun k hk => ff k (by omega))
  have ec : a + ((c - a).toNat : Int) = c := by omega
  refine ⟨⟨g0, by omega, by omega, fun n hn => ?_⟩, ?_⟩
  · by_cases z : a + n < c
    · rw [ff n z, vv n z, dd n (by omega)]
      exact g3 n z
    · have en : n = (c - a).toNat := by omega
      subst en
      rw [dd _ (by omega), ec, hf c (by omega), hv c (by omega), if_pos rfl, if_pos rfl]
      exact ⟨hk.1, hk.2, hx, h2, hd⟩
  · rw [show (c + 1 - a).toNat = (c - a).toNat + 1 by omega]
    show gDep f' a (c - a).toNat + (if f' (a + ((c - a).toNat : Int)) < 2 then 1 else -1) = _
    rw [dd _ (by omega), ec, hf c (by omega), if_pos rfl]
/-- an operand -/
theorem zEs.operand {w f v f' v' : Int → Int} {W C C' fr : Int} (h : zEs w f v W C fr 0) (hs : ∀ j : Int, 0 ≤ j → j ≠ C → f' j = f j ∧ v' j = v j) (hk : 0 ≤ f' C ∧ f' C ≤ 1 ∧ (f' C = 1 → 0 ≤ v' C ∧ v' C ≤ 8)) (hC : C' = C + 1) (hb : C' + (W - nO w W.toNat) ≤ 839) : zEs w f' v' W C' fr 1 := by
  obtain ⟨h1, h2, h3, h4, h5, h6⟩ := h
  have q := nO_in w W.toNat
  have e := gCod.emit (f' := f') (v' := v') (k := f' C) (x := v' C) h4 (fun j hj => if z : j = C then by rw [if_pos z, z] else by rw [if_neg z]; exact (hs j hj z).1) (fun j hj => if z : j = C then by rw [if_pos z, z] else by rw [if_neg z]; exact (hs j hj z).2) hC (by omega) ⟨hk.1, by omega⟩ hk.2.2 (fun z => absurd z (by omega)) (by rw [h5]; omega)
  refine ⟨h1, h2, h3, e.1, ?_, hb⟩
  rw [e.2, h5, if_pos (by omega)]
  omega
/-- a sign that waited comes out -/
theorem zEs.op {w f v f' v' : Int → Int} {W W' C C' fr k x : Int} (h : zEs w f v W C fr 1) (hW : 1 ≤ W) (hw : w (W - 1) ≠ 6) (hW' : W' = W - 1) (hC : C' = C + 1) (hf : ∀ j : Int, 0 ≤ j → f' j = if j = C then k else f j) (hv : ∀ j : Int, 0 ≤ j → v' j = if j = C then x else v j) (hk : 2 ≤ k ∧ k ≤ 5) : zEs w f' v' W' C' fr 1 ∧ nO w W'.toNat = nO w W.toNat := by
  obtain ⟨h1, h2, h3, h4, h5, h6⟩ := h
  subst hW'
  have t := nO_top (w := w) hW
  rw [if_neg hw] at t
  have q := nO_in w (W - 1).toNat
  have e := gCod.emit (f' := f') (v' := v') (k := k) (x := x) h4 hf hv hC (by omega) ⟨by omega, by omega⟩ (fun z => absurd z (by omega)) (fun _ => by rw [h5]; omega) (by rw [h5]; omega)
  refine ⟨⟨by omega, by omega, fun i g0 g1 => h3 i g0 (by omega), e.1, ?_, by omega⟩, by omega⟩
  rw [e.2, h5, if_neg (by omega)]
  omega
/-- one more waits -/
theorem zEs.push {w w' f v : Int → Int} {W W' C fr q q' x : Int} (h : zEs w f v W C fr q) (hw : ∀ j : Int, 0 ≤ j → w' j = if j = W then x else w j) (hW' : W' = W + 1) (h64 : W' ≤ 64) (hx : (x = 6 ∧ W ≤ 3 * nO w W.toNat + 2 ∧ q' = q) ∨ ((x = 8 ∨ x = 9) ∧ W ≤ 3 * nO w W.toNat ∧ q = q' + 1) ∨ ((x = 10 ∨ x = 15) ∧ W ≤ 3 * nO w W.toNat + 1 ∧ q = q' + 1)) (hb : C + (W' - nO w' W'.toNat) ≤ 839) : zEs w' f v W' C fr q' ∧ nO w' W'.toNat = nO w W.toNat + (if x = 6 then 1 else 0) := by
  obtain ⟨h1, h2, h3, h4, h5, h6⟩ := h
  subst hW'
  have cc : ∀ n : Nat, (n : Int) ≤ W → nO w' n = nO w n := fun n hn => nO_congr n (fun k hk => by rw [hw _ (by omega), if_neg (by omega)])
  have t := nO_top (w := w') (W := W + 1) (by omega)
  rw [show W + 1 - 1 = W by omega, cc W.toNat (by omega), hw W h1, if_pos rfl] at t
  refine ⟨⟨by omega, h64, fun i g0 g1 => ?_, h4, ?_, hb⟩, t⟩
  · rw [cc i.toNat (by omega), hw i g0]
    by_cases z : i = W
    · subst z
      rw [if_pos rfl]
      refine ⟨by omega, fun y => by omega, fun y => by omega, fun y => by omega⟩
    · rw [if_neg z]
      exact h3 i g0 (by omega)
  · rw [h5, t]
    split <;> omega
/-- a bracket goes -/
theorem zEs.pop {w f v : Int → Int} {W W' C fr : Int} (h : zEs w f v W C fr 1) (hW : 1 ≤ W) (hw : w (W - 1) = 6) (hW' : W' = W - 1) : zEs w f v W' C fr 1 ∧ nO w W'.toNat = nO w W.toNat - 1 ∧ W' ≤ 3 * nO w W'.toNat + 2 := by
  obtain ⟨h1, h2, h3, h4, h5, h6⟩ := h
  subst hW'
  have t := nO_top (w := w) hW
  rw [if_pos hw] at t
  have y := (h3 (W - 1) (by omega) (by omega)).2.1 hw
  refine ⟨⟨by omega, by omega, fun i g0 g1 => h3 i g0 (by omega), h4, ?_, by omega⟩, by omega, y⟩
  rw [h5]; omega
/-- where it stops -/
theorem zEs.stop {w f v : Int → Int} {W C fr q : Int} (h : zEs w f v W C fr q) : (W = 0 ∨ (1 ≤ W ∧ w (W - 1) = 6) → W ≤ 3 * nO w W.toNat) ∧ (W = 0 ∨ (1 ≤ W ∧ (w (W - 1) = 6 ∨ w (W - 1) = 8 ∨ w (W - 1) = 9)) → W ≤ 3 * nO w W.toNat + 1) ∧ (nO w W.toNat = 0 → W = 0 ∨ (1 ≤ W ∧ w (W - 1) = 6) → W = 0) := by
  obtain ⟨h1, h2, h3, h4, h5, h6⟩ := h
  have q0 := nO_in w W.toNat
  refine ⟨fun z => ?_, fun z => ?_, fun y z => ?_⟩
  · rcases z with z | ⟨z1, z2⟩
    · omega
    · have t := nO_top (w := w) z1
      rw [if_pos z2] at t
      have y := (h3 (W - 1) (by omega) (by omega)).2.1 z2
      omega
  · rcases z with z | ⟨z1, z2⟩
    · omega
    · have t := nO_top (w := w) z1
      have y := h3 (W - 1) (by omega) (by omega)
      have q1 := nO_in w (W - 1).toNat
      rcases z2 with z2 | z2
      · rw [if_pos z2] at t
        have := y.2.1 z2
        omega
      · rw [if_neg (by omega)] at t
        have := y.2.2.1 z2
        omega
  · rcases z with z | ⟨z1, z2⟩
    · exact z
    · have t := nO_top (w := w) z1
      rw [if_pos z2] at t
      have q1 := nO_in w (W - 1).toNat
      omega
/-- nothing waits -/
theorem zEs.zero (w f v : Int → Int) {c : Int} (h0 : 0 ≤ c) (h1 : c ≤ 839) : zEs w f v 0 c c 0 := by
  refine ⟨by omega, by omega, fun i g0 g1 => absurd g1 (by omega), gCod.nil f v h0 (by omega), ?_, ?_⟩
  · rw [Int.sub_self]; rfl
  · show c + (0 - nO w 0) ≤ 839
    show c + (0 - 0) ≤ 839
    omega
theorem zEs.cod {w f v : Int → Int} {W C fr q : Int} (h : zEs w f v W C fr q) : gCod f v fr C := h.2.2.2.1
theorem zEs.pushO {w w' f v : Int → Int} {W W' C fr q : Int} (h : zEs w f v W C fr q) (hw : ∀ j : Int, 0 ≤ j → w' j = if j = W then 6 else w j) (hW' : W' = W + 1) (h64 : W' ≤ 64) (hx : W ≤ 3 * nO w W.toNat + 2) : zEs w' f v W' C fr q ∧ nO w' W'.toNat = nO w W.toNat + 1 := by
  have h6 := h.at
  have cc : ∀ n : Nat, (n : Int) ≤ W → nO w' n = nO w n := fun n hn => nO_congr n (fun k hk => by rw [hw _ (by omega), if_neg (by omega)])
  have t := nO_top (w := w') (W := W + 1) (by omega)
  rw [show W + 1 - 1 = W by omega, cc W.toNat (by omega), hw W h6.1, if_pos rfl, if_pos rfl] at t
  have e := zEs.push (x := 6) (q' := q) h hw hW' h64 (Or.inl ⟨rfl, hx, rfl⟩) (by subst hW'; omega)
  exact ⟨e.1, by rw [e.2, if_pos rfl]⟩
theorem zEs.pushS {w w' f v : Int → Int} {W W' C fr x : Int} (h : zEs w f v W C fr 1) (hw : ∀ j : Int, 0 ≤ j → w' j = if j = W then x else w j) (hW' : W' = W + 1) (h64 : W' ≤ 64) (hx : ((x = 8 ∨ x = 9) ∧ W ≤ 3 * nO w W.toNat) ∨ ((x = 10 ∨ x = 15) ∧ W ≤ 3 * nO w W.toNat + 1)) (hb : C + (W' - nO w W.toNat) ≤ 839) : zEs w' f v W' C fr 0 ∧ nO w' W'.toNat = nO w W.toNat := by
  have h6 := h.at
  have cc : ∀ n : Nat, (n : Int) ≤ W → nO w' n = nO w n := fun n hn => nO_congr n (fun k hk => by rw [hw _ (by omega), if_neg (by omega)])
  have t := nO_top (w := w') (W := W + 1) (by omega)
  rw [show W + 1 - 1 = W by omega, cc W.toNat (by omega), hw W h6.1, if_pos rfl, if_neg (by omega)] at t
  have e := zEs.push (x := x) (q' := 0) h hw hW' h64 (by omega) (by subst hW'; omega)
  exact ⟨e.1, by rw [e.2, if_neg (by omega)]; omega⟩
/-- kept out of sight of omega -/
def zHide (p : Prop) : Prop := p
theorem zHide.mk {p : Prop} (h : p) : zHide p := h
theorem zHide.un {p : Prop} (h : zHide p) : p := h
/-- kinds of tokens are no lower than 0 -/
def gK (a0 : Nat) (σ : zS) : Prop := ∀ j : Int, 0 ≤ j → 0 ≤ zp a0 σ 5 j
theorem gK.same {κ : Int} {L : List Nat} {kd : Nat → Nat} {σ σ2 : zS} {a0 : Nat} {Wf Wa : List Nat} (hI : zJ κ L kd σ2) (ha : zT L kd a0 11) (g : zSame a0 Wf Wa L kd σ σ2) (hd : (!Wa.contains 105) = true) (h : gK a0 σ) : gK a0 σ2 := by
  rw [Bool.not_eq_true'] at hd
  unfold gK
  rw [zp_same hI ha g 5 rfl (by decide) hd]
  exact h
end
