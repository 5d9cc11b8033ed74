set_option maxHeartbeats 4000000 in
set_option maxRecDepth 100000 in
theorem t_X11_token (l : Launch) (d : zD2) (L : List Nat) (kd : Nat → Nat) (κ : Int) (σ : zS) (hI : zJ κ L kd σ) (a0 : Nat) (ha0 : zT L kd a0 11) (p1 : Int32) (p2 : Int32) (p3 : Int32) (p4 : Int64) (hq0 : (σ.1 a0 10).toInt ≤ 401) (hq1 : 0 ≤ p1.toInt) (hgK : gK a0 σ) : zMv l yX11_token (Cond.code yX11_token cX11_token 6 none :: zWL) 0 [.ref a0, .int p1, .int p2, .int p3, .long p4] d L kd σ (fun σ2 => σ2 = F_X11_token a0 p1 p2 p3 p4 σ ∧ ((((σ2.1 a0 10).toInt = (σ.1 a0 10).toInt + 1) ∧ (gK a0 σ2)) ∧ zJ κ L kd σ2 ∧ zSame a0 [10] [105, 106, 107, 108] L kd σ σ2)) := by
  refine zMv.of (own := RX11) (by decide +kernel) rfl rfl (Nat.le_of_ble_eq_true rfl) ?_
  intro p e s m args below meth c A Q X ret
  have hS : zSame a0 [10] [105, 106, 107, 108] L kd σ σ := zSame.rf
  refine zg_lv (lv2 := [(0, .ref a0), (1, .int p1), (2, .int p2), (3, .int p3), (4, .long p4)]) rfl ?_
  obtain ⟨R, hR⟩ : ∃ R, R = F_X11_token a0 p1 p2 p3 p4 σ := ⟨_, rfl⟩
  have E := hR
  unfold F_X11_token at E
  refine zg_aload_n X 0 rfl dX11_token_0 ?_
  refine fg_X11_20 X hI ha0 dX11_token_1 (fun v1 ev1 hv1 => ?_)
  replace E := zLet_s (zgr ev1) E
  refine zg_aload_n X 0 rfl dX11_token_4 ?_
  refine fg_X11_184 X hI ha0 dX11_token_5 (fun v2 ev2 hv2 => ?_)
  replace E := zLet_s ev2 E
  have kv2 : (σ.1 a0 10).toInt = v2.toInt := by rw [ev2]
  refine zg_iload_n X 1 rfl dX11_token_8 ?_
  refine as_105 X hI hv1 (by omega) (by omega) dX11_token_9 (fun s3 es3 hI => ?_)
  replace E := zLet_s es3 E
  have g4 := (zSame.rf (o := a0) (Wf := []) (Wa := [105]) (L := L) (kd := kd) (σ := σ)).a ha0 hv1 es3 rfl (by decide)
  have rs3 := zp_st (σ := σ) (σ2 := s3) (i := v2) (x := p1) ev1 es3 (by omega)
  have ws3 := rs3
  rw [← kv2] at ws3
  have fs3_10 : (s3.1 a0 10).toInt = (σ.1 a0 10).toInt := by rw [g4.2.1 10 (by decide)]
  have hS := hS.tr g4 (by decide) (by decide)
  have e5 := g4.v ev2 (by decide)
  refine zg_aload_n X 0 rfl dX11_token_10 ?_
  refine fg_X11_24 X hI ha0 dX11_token_11 (fun v6 ev6 hv6 => ?_)
  replace E := zLet_s (zgr ev6) E
  refine zg_aload_n X 0 rfl dX11_token_14 ?_
  refine fg_X11_184 X hI ha0 dX11_token_15 (fun v7 ev7 hv7 => ?_)
  replace E := zLet_s ev7 E
  have kv7 : (s3.1 a0 10).toInt = v7.toInt := by rw [ev7]
  have mv7 : v7.toInt = v2.toInt := by rw [ev7, ← e5]
  refine zg_iload_n X 2 rfl dX11_token_18 ?_
  refine as_106 X hI hv6 (by omega) (by omega) dX11_token_19 (fun s8 es8 hI => ?_)
  replace E := zLet_s es8 E
  have g9 := (zSame.rf (o := a0) (Wf := []) (Wa := [106]) (L := L) (kd := kd) (σ := s3)).a ha0 hv6 es8 rfl (by decide)
  have fs8_10 : (s8.1 a0 10).toInt = (s3.1 a0 10).toInt := by rw [g9.2.1 10 (by decide)]
  have hS := hS.tr g9 (by decide) (by decide)
  have as8_5 := zp_same hI ha0 g9 5 rfl (by decide) (by decide)
  have e10 := g9.v ev7 (by decide)
  refine zg_aload_n X 0 rfl dX11_token_20 ?_
  refine fg_X11_27 X hI ha0 dX11_token_21 (fun v11 ev11 hv11 => ?_)
  replace E := zLet_s (zgr ev11) E
  refine zg_aload_n X 0 rfl dX11_token_24 ?_
  refine fg_X11_184 X hI ha0 dX11_token_25 (fun v12 ev12 hv12 => ?_)
  replace E := zLet_s ev12 E
  have kv12 : (s8.1 a0 10).toInt = v12.toInt := by rw [ev12]
  have mv12 : v12.toInt = v7.toInt := by rw [ev12, ← e10]
  refine zg_iload_n X 3 rfl dX11_token_28 ?_
  refine as_107 X hI hv11 (by omega) (by omega) dX11_token_29 (fun s13 es13 hI => ?_)
  replace E := zLet_s es13 E
  have g14 := (zSame.rf (o := a0) (Wf := []) (Wa := [107]) (L := L) (kd := kd) (σ := s8)).a ha0 hv11 es13 rfl (by decide)
  have fs13_10 : (s13.1 a0 10).toInt = (s8.1 a0 10).toInt := by rw [g14.2.1 10 (by decide)]
  have hS := hS.tr g14 (by decide) (by decide)
  have as13_5 := (zp_same hI ha0 g14 5 rfl (by decide) (by decide)).trans as8_5
  have e15 := g14.v ev12 (by decide)
  refine zg_aload_n X 0 rfl dX11_token_30 ?_
  refine fg_X11_30 X hI ha0 dX11_token_31 (fun v16 ev16 hv16 => ?_)
  replace E := zLet_s (zgr ev16) E
  refine zg_aload_n X 0 rfl dX11_token_34 ?_
  refine fg_X11_184 X hI ha0 dX11_token_35 (fun v17 ev17 hv17 => ?_)
  replace E := zLet_s ev17 E
  have kv17 : (s13.1 a0 10).toInt = v17.toInt := by rw [ev17]
  have mv17 : v17.toInt = v12.toInt := by rw [ev17, ← e15]
  refine zg_lload X 4 rfl dX11_token_38 ?_
  refine as_108 X hI hv16 (by omega) (by omega) dX11_token_40 (fun s18 es18 hI => ?_)
  replace E := zLet_s es18 E
  have g19 := (zSame.rf (o := a0) (Wf := []) (Wa := [108]) (L := L) (kd := kd) (σ := s13)).l hv16 es18 rfl
  have fs18_10 : (s18.1 a0 10).toInt = (s13.1 a0 10).toInt := by rw [g19.2.1 10 (by decide)]
  have hS := hS.tr g19 (by decide) (by decide)
  have as18_5 := (zp_same hI ha0 g19 5 rfl (by decide) (by decide)).trans as13_5
  have e20 := g19.v ev17 (by decide)
  refine zg_aload_n X 0 rfl dX11_token_41 ?_
  refine zg_dup X dX11_token_42 rfl ?_
  refine fg_X11_184 X hI ha0 dX11_token_43 (fun v21 ev21 hv21 => ?_)
  replace E := zLet_s ev21 E
  have kv21 : (s18.1 a0 10).toInt = v21.toInt := by rw [ev21]
  have mv21 : v21.toInt = v17.toInt := by rw [ev21, ← e20]
  refine zg_iconst X 1 dX11_token_46 (by decide) (fun v22 _ hv22 => ?_)
  replace E := zLet_s (zcst hv22 (by decide)) E
  refine zg_iadd X dX11_token_47 (by omega) (by omega) (fun v23 ev23 hv23 => ?_)
  replace E := zLet_s ev23 E
  refine fp_X11_184 X hI ha0 ⟨by omega, by omega⟩ dX11_token_48 (fun s24 es24 hI => ?_)
  replace E := zLet_s es24 E
  have g25 := (zSame.rf (o := a0) (Wf := [10]) (Wa := []) (L := L) (kd := kd) (σ := s18)).f ha0 es24 rfl
  have hS := hS.tr g25 (by decide) (by decide)
  have as24_5 := (zp_same hI ha0 g25 5 rfl (by decide) (by decide)).trans as18_5
  have fs24_10 : (s24.1 a0 10).toInt = v23.toInt := by rw [es24]; exact congrArg _ (zu_s _ _ _ _)
  have e26 : v23 = s24.1 a0 10 := by rw [es24]; exact zm_s
  exact ret _ _ _ dX11_token_51 ⟨E.symm.trans hR, ⟨⟨(by omega), (fun j h0 => by rw [as24_5, ws3 j h0]; split <;> first | omega | exact hgK j h0)⟩, hI, hS⟩⟩
set_option maxHeartbeats 4000000 in
set_option maxRecDepth 100000 in
theorem t_X11_sign (l : Launch) (d : zD2) (L : List Nat) (kd : Nat → Nat) (κ : Int) (σ : zS) (hI : zJ κ L kd σ) (a0 : Nat) (ha0 : zT L kd a0 11) (p1 : Int32) (p2 : Int32) (p3 : Int32) (hq0 : (σ.1 a0 10).toInt ≤ 401) (hgK : gK a0 σ) : zMi l yX11_sign (Cond.code yX11_sign cX11_sign 5 (some .int) :: zWL) 1 [.ref a0, .int p1, .int p2, .int p3] d L kd σ (fun v σ2 => (v, σ2) = F_X11_sign a0 p1 p2 p3 σ ∧ ((((1 ≤ v.toInt ∧ v.toInt ≤ 1)) ∧ ((σ2.1 a0 10).toInt = (σ.1 a0 10).toInt + 1) ∧ (gK a0 σ2)) ∧ zJ κ L kd σ2 ∧ zSame a0 [10] [105, 106, 107, 108] L kd σ σ2)) := by
  refine zMi.of (own := RX11) (by decide +kernel) rfl rfl (Nat.le_of_ble_eq_true rfl) ?_
  intro p e s m args below meth c A Q X ret
  have hS : zSame a0 [10] [105, 106, 107, 108] L kd σ σ := zSame.rf
  refine zg_lv (lv2 := [(0, .ref a0), (1, .int p1), (2, .int p2), (3, .int p3)]) rfl ?_
  obtain ⟨R, hR⟩ : ∃ R, R = F_X11_sign a0 p1 p2 p3 σ := ⟨_, rfl⟩
  have E := hR
  unfold F_X11_sign at E
  refine zg_iload_n X 2 rfl dX11_sign_0 ?_
  refine zg_bipush X 59 dX11_sign_1 (by decide) (fun v1 _ hv1 => ?_)
  replace E := zLet_s (zcst hv1 (by decide)) E
  refine zg_icmp_ne X 10 dX11_sign_3 (by decide) (fun c2 => ?_) (fun c2 => ?_)
  · skip
    replace E := zIf_f c2 E
    refine zg_iload_n X 2 rfl dX11_sign_10 ?_
    refine zg_bipush X 61 dX11_sign_11 (by decide) (fun v3 _ hv3 => ?_)
    replace E := zLet_s (zcst hv3 (by decide)) E
    refine zg_icmp_ne X 20 dX11_sign_13 (by decide) (fun c4 => ?_) (fun c4 => ?_)
    · skip
      replace E := zIf_f c4 E
      refine zg_iload_n X 2 rfl dX11_sign_20 ?_
      refine zg_bipush X 40 dX11_sign_21 (by decide) (fun v5 _ hv5 => ?_)
      replace E := zLet_s (zcst hv5 (by decide)) E
      refine zg_icmp_ne X 31 dX11_sign_23 (by decide) (fun c6 => ?_) (fun c6 => ?_)
      · skip
        replace E := zIf_f c6 E
        refine zg_iload_n X 2 rfl dX11_sign_31 ?_
        refine zg_bipush X 41 dX11_sign_32 (by decide) (fun v7 _ hv7 => ?_)
        replace E := zLet_s (zcst hv7 (by decide)) E
        refine zg_icmp_ne X 42 dX11_sign_34 (by decide) (fun c8 => ?_) (fun c8 => ?_)
        · skip
          replace E := zIf_f c8 E
          refine zg_iconst X 3 dX11_sign_42 (by decide) (fun v9 _ hv9 => ?_)
          replace E := zLet_s (zcst hv9 (by decide)) E
          refine zg_istore X [(4, .int v9), (0, .ref a0), (1, .int p1), (2, .int p2), (3, .int p3)] dX11_sign_43 (by decide) rfl ?_
          refine zg_iload_n X 3 rfl dX11_sign_45 ?_
          refine zg_bipush X 43 dX11_sign_46 (by decide) (fun v10 _ hv10 => ?_)
          replace E := zLet_s (zcst hv10 (by decide)) E
          refine zg_icmp_ne X 55 dX11_sign_48 (by decide) (fun c11 => ?_) (fun c11 => ?_)
          · skip
            replace E := zIf_f c11 E
            refine zg_iload_n X 3 rfl dX11_sign_55 ?_
            refine zg_bipush X 45 dX11_sign_56 (by decide) (fun v12 _ hv12 => ?_)
            replace E := zLet_s (zcst hv12 (by decide)) E
            refine zg_icmp_ne X 65 dX11_sign_58 (by decide) (fun c13 => ?_) (fun c13 => ?_)
            · skip
              replace E := zIf_f c13 E
              refine zg_iload_n X 3 rfl dX11_sign_65 ?_
              refine zg_bipush X 42 dX11_sign_66 (by decide) (fun v14 _ hv14 => ?_)
              replace E := zLet_s (zcst hv14 (by decide)) E
              refine zg_icmp_ne X 75 dX11_sign_68 (by decide) (fun c15 => ?_) (fun c15 => ?_)
              · skip
                replace E := zIf_f c15 E
                refine zg_iload_n X 3 rfl dX11_sign_75 ?_
                refine zg_bipush X 47 dX11_sign_76 (by decide) (fun v16 _ hv16 => ?_)
                replace E := zLet_s (zcst hv16 (by decide)) E
                refine zg_icmp_ne X 85 dX11_sign_78 (by decide) (fun c17 => ?_) (fun c17 => ?_)
                · skip
                  replace E := zIf_f c17 E
                  refine zg_iload_n X 3 rfl dX11_sign_85 ?_
                  refine zg_bipush X 60 dX11_sign_86 (by decide) (fun v18 _ hv18 => ?_)
                  replace E := zLet_s (zcst hv18 (by decide)) E
                  refine zg_icmp_ne X 95 dX11_sign_88 (by decide) (fun c19 => ?_) (fun c19 => ?_)
                  · skip
                    replace E := zIf_f c19 E
                    refine zg_aload_n X 1 rfl dX11_sign_95 ?_
                    refine zg_iload X 0 rfl dX11_sign_96 ?_
                    refine zg_iload_n X 2 rfl dX11_sign_98 ?_
                    refine zg_iconst X 0 dX11_sign_99 (by decide) (fun v20 _ hv20 => ?_)
                    replace E := zLet_s (zcst hv20 (by decide)) E
                    refine zg_lconst X dX11_sign_100 (fun v21 ev21 => ?_)
                    replace E := zLet_s ev21 E
                    refine zg_cVv (As := [.int v9, .int p1, .int v20, .long v21]) (st := []) X ha0 rfl (by decide) rfl (t_X11_token l d L kd κ _ hI a0 ha0 v9 p1 v20 v21  (by omega) (by omega) hgK) mk_X11_191 mc_X11_token mz_X11 mi_X11_token ml_X11_token (na := 4) ⟨md_X11.1, md_X11.2, by decide +kernel⟩ rfl ⟨by decide, by decide⟩ (Nat.le_of_ble_eq_true rfl) dX11_sign_101 (fun t22 hq => ?_)
                    obtain ⟨hF, ⟨ht22_fact0, gKt22⟩, hI, g23⟩ := hq
                    replace E := zLet_s hF E
                    have hS := hS.tr g23 (by decide) (by decide)
                    refine zg_iconst X 1 dX11_sign_104 (by decide) (fun v24 _ hv24 => ?_)
                    replace E := zLet_s (zcst hv24 (by decide)) E
                    exact ret _ _ _ _ dX11_sign_105 rfl ⟨E.symm.trans hR, ⟨⟨⟨by omega, by omega⟩, (by omega), gKt22⟩, hI, hS⟩⟩
                  · skip
                    replace E := zIf_t c19 E
                    refine zg_bipush X 13 dX11_sign_91 (by decide) (fun v25 _ hv25 => ?_)
                    replace E := zLet_s (zcst hv25 (by decide)) E
                    refine zg_istore X [(4, .int v25), (0, .ref a0), (1, .int p1), (2, .int p2), (3, .int p3)] dX11_sign_93 (by decide) rfl ?_
                    refine zg_aload_n X 1 rfl dX11_sign_95 ?_
                    refine zg_iload X 0 rfl dX11_sign_96 ?_
                    refine zg_iload_n X 2 rfl dX11_sign_98 ?_
                    refine zg_iconst X 0 dX11_sign_99 (by decide) (fun v26 _ hv26 => ?_)
                    replace E := zLet_s (zcst hv26 (by decide)) E
                    refine zg_lconst X dX11_sign_100 (fun v27 ev27 => ?_)
                    replace E := zLet_s ev27 E
                    refine zg_cVv (As := [.int v25, .int p1, .int v26, .long v27]) (st := []) X ha0 rfl (by decide) rfl (t_X11_token l d L kd κ _ hI a0 ha0 v25 p1 v26 v27  (by omega) (by omega) hgK) mk_X11_191 mc_X11_token mz_X11 mi_X11_token ml_X11_token (na := 4) ⟨md_X11.1, md_X11.2, by decide +kernel⟩ rfl ⟨by decide, by decide⟩ (Nat.le_of_ble_eq_true rfl) dX11_sign_101 (fun t28 hq => ?_)
                    obtain ⟨hF, ⟨ht28_fact0, gKt28⟩, hI, g29⟩ := hq
                    replace E := zLet_s hF E
                    have hS := hS.tr g29 (by decide) (by decide)
                    refine zg_iconst X 1 dX11_sign_104 (by decide) (fun v30 _ hv30 => ?_)
                    replace E := zLet_s (zcst hv30 (by decide)) E
                    exact ret _ _ _ _ dX11_sign_105 rfl ⟨E.symm.trans hR, ⟨⟨⟨by omega, by omega⟩, (by omega), gKt28⟩, hI, hS⟩⟩
                · skip
                  replace E := zIf_t c17 E
                  refine zg_bipush X 15 dX11_sign_81 (by decide) (fun v31 _ hv31 => ?_)
                  replace E := zLet_s (zcst hv31 (by decide)) E
                  refine zg_istore X [(4, .int v31), (0, .ref a0), (1, .int p1), (2, .int p2), (3, .int p3)] dX11_sign_83 (by decide) rfl ?_
                  refine zg_iload_n X 3 rfl dX11_sign_85 ?_
                  refine zg_bipush X 60 dX11_sign_86 (by decide) (fun v32 _ hv32 => ?_)
                  replace E := zLet_s (zcst hv32 (by decide)) E
                  refine zg_icmp_ne X 95 dX11_sign_88 (by decide) (fun c33 => ?_) (fun c33 => ?_)
                  · skip
                    replace E := zIf_f c33 E
                    refine zg_aload_n X 1 rfl dX11_sign_95 ?_
                    refine zg_iload X 0 rfl dX11_sign_96 ?_
                    refine zg_iload_n X 2 rfl dX11_sign_98 ?_
                    refine zg_iconst X 0 dX11_sign_99 (by decide) (fun v34 _ hv34 => ?_)
                    replace E := zLet_s (zcst hv34 (by decide)) E
                    refine zg_lconst X dX11_sign_100 (fun v35 ev35 => ?_)
                    replace E := zLet_s ev35 E
                    refine zg_cVv (As := [.int v31, .int p1, .int v34, .long v35]) (st := []) X ha0 rfl (by decide) rfl (t_X11_token l d L kd κ _ hI a0 ha0 v31 p1 v34 v35  (by omega) (by omega) hgK) mk_X11_191 mc_X11_token mz_X11 mi_X11_token ml_X11_token (na := 4) ⟨md_X11.1, md_X11.2, by decide +kernel⟩ rfl ⟨by decide, by decide⟩ (Nat.le_of_ble_eq_true rfl) dX11_sign_101 (fun t36 hq => ?_)
                    obtain ⟨hF, ⟨ht36_fact0, gKt36⟩, hI, g37⟩ := hq
                    replace E := zLet_s hF E
                    have hS := hS.tr g37 (by decide) (by decide)
                    refine zg_iconst X 1 dX11_sign_104 (by decide) (fun v38 _ hv38 => ?_)
                    replace E := zLet_s (zcst hv38 (by decide)) E
                    exact ret _ _ _ _ dX11_sign_105 rfl ⟨E.symm.trans hR, ⟨⟨⟨by omega, by omega⟩, (by omega), gKt36⟩, hI, hS⟩⟩
                  · omega
              · skip
                replace E := zIf_t c15 E
                refine zg_bipush X 10 dX11_sign_71 (by decide) (fun v39 _ hv39 => ?_)
                replace E := zLet_s (zcst hv39 (by decide)) E
                refine zg_istore X [(4, .int v39), (0, .ref a0), (1, .int p1), (2, .int p2), (3, .int p3)] dX11_sign_73 (by decide) rfl ?_
                refine zg_iload_n X 3 rfl dX11_sign_75 ?_
                refine zg_bipush X 47 dX11_sign_76 (by decide) (fun v40 _ hv40 => ?_)
                replace E := zLet_s (zcst hv40 (by decide)) E
                refine zg_icmp_ne X 85 dX11_sign_78 (by decide) (fun c41 => ?_) (fun c41 => ?_)
                · skip
                  replace E := zIf_f c41 E
                  refine zg_iload_n X 3 rfl dX11_sign_85 ?_
                  refine zg_bipush X 60 dX11_sign_86 (by decide) (fun v42 _ hv42 => ?_)
                  replace E := zLet_s (zcst hv42 (by decide)) E
                  refine zg_icmp_ne X 95 dX11_sign_88 (by decide) (fun c43 => ?_) (fun c43 => ?_)
                  · skip
                    replace E := zIf_f c43 E
                    refine zg_aload_n X 1 rfl dX11_sign_95 ?_
                    refine zg_iload X 0 rfl dX11_sign_96 ?_
                    refine zg_iload_n X 2 rfl dX11_sign_98 ?_
                    refine zg_iconst X 0 dX11_sign_99 (by decide) (fun v44 _ hv44 => ?_)
                    replace E := zLet_s (zcst hv44 (by decide)) E
                    refine zg_lconst X dX11_sign_100 (fun v45 ev45 => ?_)
                    replace E := zLet_s ev45 E
                    refine zg_cVv (As := [.int v39, .int p1, .int v44, .long v45]) (st := []) X ha0 rfl (by decide) rfl (t_X11_token l d L kd κ _ hI a0 ha0 v39 p1 v44 v45  (by omega) (by omega) hgK) mk_X11_191 mc_X11_token mz_X11 mi_X11_token ml_X11_token (na := 4) ⟨md_X11.1, md_X11.2, by decide +kernel⟩ rfl ⟨by decide, by decide⟩ (Nat.le_of_ble_eq_true rfl) dX11_sign_101 (fun t46 hq => ?_)
                    obtain ⟨hF, ⟨ht46_fact0, gKt46⟩, hI, g47⟩ := hq
                    replace E := zLet_s hF E
                    have hS := hS.tr g47 (by decide) (by decide)
                    refine zg_iconst X 1 dX11_sign_104 (by decide) (fun v48 _ hv48 => ?_)
                    replace E := zLet_s (zcst hv48 (by decide)) E
                    exact ret _ _ _ _ dX11_sign_105 rfl ⟨E.symm.trans hR, ⟨⟨⟨by omega, by omega⟩, (by omega), gKt46⟩, hI, hS⟩⟩
                  · omega
                · omega
            · skip
              replace E := zIf_t c13 E
              refine zg_bipush X 9 dX11_sign_61 (by decide) (fun v49 _ hv49 => ?_)
              replace E := zLet_s (zcst hv49 (by decide)) E
              refine zg_istore X [(4, .int v49), (0, .ref a0), (1, .int p1), (2, .int p2), (3, .int p3)] dX11_sign_63 (by decide) rfl ?_
              refine zg_iload_n X 3 rfl dX11_sign_65 ?_
              refine zg_bipush X 42 dX11_sign_66 (by decide) (fun v50 _ hv50 => ?_)
              replace E := zLet_s (zcst hv50 (by decide)) E
              refine zg_icmp_ne X 75 dX11_sign_68 (by decide) (fun c51 => ?_) (fun c51 => ?_)
              · skip
                replace E := zIf_f c51 E
                refine zg_iload_n X 3 rfl dX11_sign_75 ?_
                refine zg_bipush X 47 dX11_sign_76 (by decide) (fun v52 _ hv52 => ?_)
                replace E := zLet_s (zcst hv52 (by decide)) E
                refine zg_icmp_ne X 85 dX11_sign_78 (by decide) (fun c53 => ?_) (fun c53 => ?_)
                · skip
                  replace E := zIf_f c53 E
                  refine zg_iload_n X 3 rfl dX11_sign_85 ?_
                  refine zg_bipush X 60 dX11_sign_86 (by decide) (fun v54 _ hv54 => ?_)
                  replace E := zLet_s (zcst hv54 (by decide)) E
                  refine zg_icmp_ne X 95 dX11_sign_88 (by decide) (fun c55 => ?_) (fun c55 => ?_)
                  · skip
                    replace E := zIf_f c55 E
                    refine zg_aload_n X 1 rfl dX11_sign_95 ?_
                    refine zg_iload X 0 rfl dX11_sign_96 ?_
                    refine zg_iload_n X 2 rfl dX11_sign_98 ?_
                    refine zg_iconst X 0 dX11_sign_99 (by decide) (fun v56 _ hv56 => ?_)
                    replace E := zLet_s (zcst hv56 (by decide)) E
                    refine zg_lconst X dX11_sign_100 (fun v57 ev57 => ?_)
                    replace E := zLet_s ev57 E
                    refine zg_cVv (As := [.int v49, .int p1, .int v56, .long v57]) (st := []) X ha0 rfl (by decide) rfl (t_X11_token l d L kd κ _ hI a0 ha0 v49 p1 v56 v57  (by omega) (by omega) hgK) mk_X11_191 mc_X11_token mz_X11 mi_X11_token ml_X11_token (na := 4) ⟨md_X11.1, md_X11.2, by decide +kernel⟩ rfl ⟨by decide, by decide⟩ (Nat.le_of_ble_eq_true rfl) dX11_sign_101 (fun t58 hq => ?_)
                    obtain ⟨hF, ⟨ht58_fact0, gKt58⟩, hI, g59⟩ := hq
                    replace E := zLet_s hF E
                    have hS := hS.tr g59 (by decide) (by decide)
                    refine zg_iconst X 1 dX11_sign_104 (by decide) (fun v60 _ hv60 => ?_)
                    replace E := zLet_s (zcst hv60 (by decide)) E
                    exact ret _ _ _ _ dX11_sign_105 rfl ⟨E.symm.trans hR, ⟨⟨⟨by omega, by omega⟩, (by omega), gKt58⟩, hI, hS⟩⟩
                  · omega
                · omega
              · omega
          · skip
            replace E := zIf_t c11 E
            refine zg_bipush X 8 dX11_sign_51 (by decide) (fun v61 _ hv61 => ?_)
            replace E := zLet_s (zcst hv61 (by decide)) E
            refine zg_istore X [(4, .int v61), (0, .ref a0), (1, .int p1), (2, .int p2), (3, .int p3)] dX11_sign_53 (by decide) rfl ?_
            refine zg_iload_n X 3 rfl dX11_sign_55 ?_
            refine zg_bipush X 45 dX11_sign_56 (by decide) (fun v62 _ hv62 => ?_)
            replace E := zLet_s (zcst hv62 (by decide)) E
            refine zg_icmp_ne X 65 dX11_sign_58 (by decide) (fun c63 => ?_) (fun c63 => ?_)
            · skip
              replace E := zIf_f c63 E
              refine zg_iload_n X 3 rfl dX11_sign_65 ?_
              refine zg_bipush X 42 dX11_sign_66 (by decide) (fun v64 _ hv64 => ?_)
              replace E := zLet_s (zcst hv64 (by decide)) E
              refine zg_icmp_ne X 75 dX11_sign_68 (by decide) (fun c65 => ?_) (fun c65 => ?_)
              · skip
                replace E := zIf_f c65 E
                refine zg_iload_n X 3 rfl dX11_sign_75 ?_
                refine zg_bipush X 47 dX11_sign_76 (by decide) (fun v66 _ hv66 => ?_)
                replace E := zLet_s (zcst hv66 (by decide)) E
                refine zg_icmp_ne X 85 dX11_sign_78 (by decide) (fun c67 => ?_) (fun c67 => ?_)
                · skip
                  replace E := zIf_f c67 E
                  refine zg_iload_n X 3 rfl dX11_sign_85 ?_
                  refine zg_bipush X 60 dX11_sign_86 (by decide) (fun v68 _ hv68 => ?_)
                  replace E := zLet_s (zcst hv68 (by decide)) E
                  refine zg_icmp_ne X 95 dX11_sign_88 (by decide) (fun c69 => ?_) (fun c69 => ?_)
                  · skip
                    replace E := zIf_f c69 E
                    refine zg_aload_n X 1 rfl dX11_sign_95 ?_
                    refine zg_iload X 0 rfl dX11_sign_96 ?_
                    refine zg_iload_n X 2 rfl dX11_sign_98 ?_
                    refine zg_iconst X 0 dX11_sign_99 (by decide) (fun v70 _ hv70 => ?_)
                    replace E := zLet_s (zcst hv70 (by decide)) E
                    refine zg_lconst X dX11_sign_100 (fun v71 ev71 => ?_)
                    replace E := zLet_s ev71 E
                    refine zg_cVv (As := [.int v61, .int p1, .int v70, .long v71]) (st := []) X ha0 rfl (by decide) rfl (t_X11_token l d L kd κ _ hI a0 ha0 v61 p1 v70 v71  (by omega) (by omega) hgK) mk_X11_191 mc_X11_token mz_X11 mi_X11_token ml_X11_token (na := 4) ⟨md_X11.1, md_X11.2, by decide +kernel⟩ rfl ⟨by decide, by decide⟩ (Nat.le_of_ble_eq_true rfl) dX11_sign_101 (fun t72 hq => ?_)
                    obtain ⟨hF, ⟨ht72_fact0, gKt72⟩, hI, g73⟩ := hq
                    replace E := zLet_s hF E
                    have hS := hS.tr g73 (by decide) (by decide)
                    refine zg_iconst X 1 dX11_sign_104 (by decide) (fun v74 _ hv74 => ?_)
                    replace E := zLet_s (zcst hv74 (by decide)) E
                    exact ret _ _ _ _ dX11_sign_105 rfl ⟨E.symm.trans hR, ⟨⟨⟨by omega, by omega⟩, (by omega), gKt72⟩, hI, hS⟩⟩
                  · omega
                · omega
              · omega
            · omega
        · skip
          replace E := zIf_t c8 E
          refine zg_bipush X 7 dX11_sign_37 (by decide) (fun v75 _ hv75 => ?_)
          replace E := zLet_s (zcst hv75 (by decide)) E
          refine zg_goto X 43 dX11_sign_39 (by decide) ?_
          refine zg_istore X [(4, .int v75), (0, .ref a0), (1, .int p1), (2, .int p2), (3, .int p3)] dX11_sign_43 (by decide) rfl ?_
          refine zg_iload_n X 3 rfl dX11_sign_45 ?_
          refine zg_bipush X 43 dX11_sign_46 (by decide) (fun v76 _ hv76 => ?_)
          replace E := zLet_s (zcst hv76 (by decide)) E
          refine zg_icmp_ne X 55 dX11_sign_48 (by decide) (fun c77 => ?_) (fun c77 => ?_)
          · skip
            replace E := zIf_f c77 E
            refine zg_iload_n X 3 rfl dX11_sign_55 ?_
            refine zg_bipush X 45 dX11_sign_56 (by decide) (fun v78 _ hv78 => ?_)
            replace E := zLet_s (zcst hv78 (by decide)) E
            refine zg_icmp_ne X 65 dX11_sign_58 (by decide) (fun c79 => ?_) (fun c79 => ?_)
            · skip
              replace E := zIf_f c79 E
              refine zg_iload_n X 3 rfl dX11_sign_65 ?_
              refine zg_bipush X 42 dX11_sign_66 (by decide) (fun v80 _ hv80 => ?_)
              replace E := zLet_s (zcst hv80 (by decide)) E
              refine zg_icmp_ne X 75 dX11_sign_68 (by decide) (fun c81 => ?_) (fun c81 => ?_)
              · skip
                replace E := zIf_f c81 E
                refine zg_iload_n X 3 rfl dX11_sign_75 ?_
                refine zg_bipush X 47 dX11_sign_76 (by decide) (fun v82 _ hv82 => ?_)
                replace E := zLet_s (zcst hv82 (by decide)) E
                refine zg_icmp_ne X 85 dX11_sign_78 (by decide) (fun c83 => ?_) (fun c83 => ?_)
                · skip
                  replace E := zIf_f c83 E
                  refine zg_iload_n X 3 rfl dX11_sign_85 ?_
                  refine zg_bipush X 60 dX11_sign_86 (by decide) (fun v84 _ hv84 => ?_)
                  replace E := zLet_s (zcst hv84 (by decide)) E
                  refine zg_icmp_ne X 95 dX11_sign_88 (by decide) (fun c85 => ?_) (fun c85 => ?_)
                  · skip
                    replace E := zIf_f c85 E
                    refine zg_aload_n X 1 rfl dX11_sign_95 ?_
                    refine zg_iload X 0 rfl dX11_sign_96 ?_
                    refine zg_iload_n X 2 rfl dX11_sign_98 ?_
                    refine zg_iconst X 0 dX11_sign_99 (by decide) (fun v86 _ hv86 => ?_)
                    replace E := zLet_s (zcst hv86 (by decide)) E
                    refine zg_lconst X dX11_sign_100 (fun v87 ev87 => ?_)
                    replace E := zLet_s ev87 E
                    refine zg_cVv (As := [.int v75, .int p1, .int v86, .long v87]) (st := []) X ha0 rfl (by decide) rfl (t_X11_token l d L kd κ _ hI a0 ha0 v75 p1 v86 v87  (by omega) (by omega) hgK) mk_X11_191 mc_X11_token mz_X11 mi_X11_token ml_X11_token (na := 4) ⟨md_X11.1, md_X11.2, by decide +kernel⟩ rfl ⟨by decide, by decide⟩ (Nat.le_of_ble_eq_true rfl) dX11_sign_101 (fun t88 hq => ?_)
                    obtain ⟨hF, ⟨ht88_fact0, gKt88⟩, hI, g89⟩ := hq
                    replace E := zLet_s hF E
                    have hS := hS.tr g89 (by decide) (by decide)
                    refine zg_iconst X 1 dX11_sign_104 (by decide) (fun v90 _ hv90 => ?_)
                    replace E := zLet_s (zcst hv90 (by decide)) E
                    exact ret _ _ _ _ dX11_sign_105 rfl ⟨E.symm.trans hR, ⟨⟨⟨by omega, by omega⟩, (by omega), gKt88⟩, hI, hS⟩⟩
                  · omega
                · omega
              · omega
            · omega
          · omega
      · skip
        replace E := zIf_t c6 E
        refine zg_bipush X 6 dX11_sign_26 (by decide) (fun v91 _ hv91 => ?_)
        replace E := zLet_s (zcst hv91 (by decide)) E
        refine zg_goto X 43 dX11_sign_28 (by decide) ?_
        refine zg_istore X [(4, .int v91), (0, .ref a0), (1, .int p1), (2, .int p2), (3, .int p3)] dX11_sign_43 (by decide) rfl ?_
        refine zg_iload_n X 3 rfl dX11_sign_45 ?_
        refine zg_bipush X 43 dX11_sign_46 (by decide) (fun v92 _ hv92 => ?_)
        replace E := zLet_s (zcst hv92 (by decide)) E
        refine zg_icmp_ne X 55 dX11_sign_48 (by decide) (fun c93 => ?_) (fun c93 => ?_)
        · skip
          replace E := zIf_f c93 E
          refine zg_iload_n X 3 rfl dX11_sign_55 ?_
          refine zg_bipush X 45 dX11_sign_56 (by decide) (fun v94 _ hv94 => ?_)
          replace E := zLet_s (zcst hv94 (by decide)) E
          refine zg_icmp_ne X 65 dX11_sign_58 (by decide) (fun c95 => ?_) (fun c95 => ?_)
          · skip
            replace E := zIf_f c95 E
            refine zg_iload_n X 3 rfl dX11_sign_65 ?_
            refine zg_bipush X 42 dX11_sign_66 (by decide) (fun v96 _ hv96 => ?_)
            replace E := zLet_s (zcst hv96 (by decide)) E
            refine zg_icmp_ne X 75 dX11_sign_68 (by decide) (fun c97 => ?_) (fun c97 => ?_)
            · skip
              replace E := zIf_f c97 E
              refine zg_iload_n X 3 rfl dX11_sign_75 ?_
              refine zg_bipush X 47 dX11_sign_76 (by decide) (fun v98 _ hv98 => ?_)
              replace E := zLet_s (zcst hv98 (by decide)) E
              refine zg_icmp_ne X 85 dX11_sign_78 (by decide) (fun c99 => ?_) (fun c99 => ?_)
              · skip
                replace E := zIf_f c99 E
                refine zg_iload_n X 3 rfl dX11_sign_85 ?_
                refine zg_bipush X 60 dX11_sign_86 (by decide) (fun v100 _ hv100 => ?_)
                replace E := zLet_s (zcst hv100 (by decide)) E
                refine zg_icmp_ne X 95 dX11_sign_88 (by decide) (fun c101 => ?_) (fun c101 => ?_)
                · skip
                  replace E := zIf_f c101 E
                  refine zg_aload_n X 1 rfl dX11_sign_95 ?_
                  refine zg_iload X 0 rfl dX11_sign_96 ?_
                  refine zg_iload_n X 2 rfl dX11_sign_98 ?_
                  refine zg_iconst X 0 dX11_sign_99 (by decide) (fun v102 _ hv102 => ?_)
                  replace E := zLet_s (zcst hv102 (by decide)) E
                  refine zg_lconst X dX11_sign_100 (fun v103 ev103 => ?_)
                  replace E := zLet_s ev103 E
                  refine zg_cVv (As := [.int v91, .int p1, .int v102, .long v103]) (st := []) X ha0 rfl (by decide) rfl (t_X11_token l d L kd κ _ hI a0 ha0 v91 p1 v102 v103  (by omega) (by omega) hgK) mk_X11_191 mc_X11_token mz_X11 mi_X11_token ml_X11_token (na := 4) ⟨md_X11.1, md_X11.2, by decide +kernel⟩ rfl ⟨by decide, by decide⟩ (Nat.le_of_ble_eq_true rfl) dX11_sign_101 (fun t104 hq => ?_)
                  obtain ⟨hF, ⟨ht104_fact0, gKt104⟩, hI, g105⟩ := hq
                  replace E := zLet_s hF E
                  have hS := hS.tr g105 (by decide) (by decide)
                  refine zg_iconst X 1 dX11_sign_104 (by decide) (fun v106 _ hv106 => ?_)
                  replace E := zLet_s (zcst hv106 (by decide)) E
                  exact ret _ _ _ _ dX11_sign_105 rfl ⟨E.symm.trans hR, ⟨⟨⟨by omega, by omega⟩, (by omega), gKt104⟩, hI, hS⟩⟩
                · omega
              · omega
            · omega
          · omega
        · omega
    · skip
      replace E := zIf_t c4 E
      refine zg_iconst X 5 dX11_sign_16 (by decide) (fun v107 _ hv107 => ?_)
      replace E := zLet_s (zcst hv107 (by decide)) E
      refine zg_goto X 43 dX11_sign_17 (by decide) ?_
      refine zg_istore X [(4, .int v107), (0, .ref a0), (1, .int p1), (2, .int p2), (3, .int p3)] dX11_sign_43 (by decide) rfl ?_
      refine zg_iload_n X 3 rfl dX11_sign_45 ?_
      refine zg_bipush X 43 dX11_sign_46 (by decide) (fun v108 _ hv108 => ?_)
      replace E := zLet_s (zcst hv108 (by decide)) E
      refine zg_icmp_ne X 55 dX11_sign_48 (by decide) (fun c109 => ?_) (fun c109 => ?_)
      · skip
        replace E := zIf_f c109 E
        refine zg_iload_n X 3 rfl dX11_sign_55 ?_
        refine zg_bipush X 45 dX11_sign_56 (by decide) (fun v110 _ hv110 => ?_)
        replace E := zLet_s (zcst hv110 (by decide)) E
        refine zg_icmp_ne X 65 dX11_sign_58 (by decide) (fun c111 => ?_) (fun c111 => ?_)
        · skip
          replace E := zIf_f c111 E
          refine zg_iload_n X 3 rfl dX11_sign_65 ?_
          refine zg_bipush X 42 dX11_sign_66 (by decide) (fun v112 _ hv112 => ?_)
          replace E := zLet_s (zcst hv112 (by decide)) E
          refine zg_icmp_ne X 75 dX11_sign_68 (by decide) (fun c113 => ?_) (fun c113 => ?_)
          · skip
            replace E := zIf_f c113 E
            refine zg_iload_n X 3 rfl dX11_sign_75 ?_
            refine zg_bipush X 47 dX11_sign_76 (by decide) (fun v114 _ hv114 => ?_)
            replace E := zLet_s (zcst hv114 (by decide)) E
            refine zg_icmp_ne X 85 dX11_sign_78 (by decide) (fun c115 => ?_) (fun c115 => ?_)
            · skip
              replace E := zIf_f c115 E
              refine zg_iload_n X 3 rfl dX11_sign_85 ?_
              refine zg_bipush X 60 dX11_sign_86 (by decide) (fun v116 _ hv116 => ?_)
              replace E := zLet_s (zcst hv116 (by decide)) E
              refine zg_icmp_ne X 95 dX11_sign_88 (by decide) (fun c117 => ?_) (fun c117 => ?_)
              · skip
                replace E := zIf_f c117 E
                refine zg_aload_n X 1 rfl dX11_sign_95 ?_
                refine zg_iload X 0 rfl dX11_sign_96 ?_
                refine zg_iload_n X 2 rfl dX11_sign_98 ?_
                refine zg_iconst X 0 dX11_sign_99 (by decide) (fun v118 _ hv118 => ?_)
                replace E := zLet_s (zcst hv118 (by decide)) E
                refine zg_lconst X dX11_sign_100 (fun v119 ev119 => ?_)
                replace E := zLet_s ev119 E
                refine zg_cVv (As := [.int v107, .int p1, .int v118, .long v119]) (st := []) X ha0 rfl (by decide) rfl (t_X11_token l d L kd κ _ hI a0 ha0 v107 p1 v118 v119  (by omega) (by omega) hgK) mk_X11_191 mc_X11_token mz_X11 mi_X11_token ml_X11_token (na := 4) ⟨md_X11.1, md_X11.2, by decide +kernel⟩ rfl ⟨by decide, by decide⟩ (Nat.le_of_ble_eq_true rfl) dX11_sign_101 (fun t120 hq => ?_)
                obtain ⟨hF, ⟨ht120_fact0, gKt120⟩, hI, g121⟩ := hq
                replace E := zLet_s hF E
                have hS := hS.tr g121 (by decide) (by decide)
                refine zg_iconst X 1 dX11_sign_104 (by decide) (fun v122 _ hv122 => ?_)
                replace E := zLet_s (zcst hv122 (by decide)) E
                exact ret _ _ _ _ dX11_sign_105 rfl ⟨E.symm.trans hR, ⟨⟨⟨by omega, by omega⟩, (by omega), gKt120⟩, hI, hS⟩⟩
              · omega
            · omega
          · omega
        · omega
      · omega
  · skip
    replace E := zIf_t c2 E
    refine zg_iconst X 4 dX11_sign_6 (by decide) (fun v123 _ hv123 => ?_)
    replace E := zLet_s (zcst hv123 (by decide)) E
    refine zg_goto X 43 dX11_sign_7 (by decide) ?_
    refine zg_istore X [(4, .int v123), (0, .ref a0), (1, .int p1), (2, .int p2), (3, .int p3)] dX11_sign_43 (by decide) rfl ?_
    refine zg_iload_n X 3 rfl dX11_sign_45 ?_
    refine zg_bipush X 43 dX11_sign_46 (by decide) (fun v124 _ hv124 => ?_)
    replace E := zLet_s (zcst hv124 (by decide)) E
    refine zg_icmp_ne X 55 dX11_sign_48 (by decide) (fun c125 => ?_) (fun c125 => ?_)
    · skip
      replace E := zIf_f c125 E
      refine zg_iload_n X 3 rfl dX11_sign_55 ?_
      refine zg_bipush X 45 dX11_sign_56 (by decide) (fun v126 _ hv126 => ?_)
      replace E := zLet_s (zcst hv126 (by decide)) E
      refine zg_icmp_ne X 65 dX11_sign_58 (by decide) (fun c127 => ?_) (fun c127 => ?_)
      · skip
        replace E := zIf_f c127 E
        refine zg_iload_n X 3 rfl dX11_sign_65 ?_
        refine zg_bipush X 42 dX11_sign_66 (by decide) (fun v128 _ hv128 => ?_)
        replace E := zLet_s (zcst hv128 (by decide)) E
        refine zg_icmp_ne X 75 dX11_sign_68 (by decide) (fun c129 => ?_) (fun c129 => ?_)
        · skip
          replace E := zIf_f c129 E
          refine zg_iload_n X 3 rfl dX11_sign_75 ?_
          refine zg_bipush X 47 dX11_sign_76 (by decide) (fun v130 _ hv130 => ?_)
          replace E := zLet_s (zcst hv130 (by decide)) E
          refine zg_icmp_ne X 85 dX11_sign_78 (by decide) (fun c131 => ?_) (fun c131 => ?_)
          · skip
            replace E := zIf_f c131 E
            refine zg_iload_n X 3 rfl dX11_sign_85 ?_
            refine zg_bipush X 60 dX11_sign_86 (by decide) (fun v132 _ hv132 => ?_)
            replace E := zLet_s (zcst hv132 (by decide)) E
            refine zg_icmp_ne X 95 dX11_sign_88 (by decide) (fun c133 => ?_) (fun c133 => ?_)
            · skip
              replace E := zIf_f c133 E
              refine zg_aload_n X 1 rfl dX11_sign_95 ?_
              refine zg_iload X 0 rfl dX11_sign_96 ?_
              refine zg_iload_n X 2 rfl dX11_sign_98 ?_
              refine zg_iconst X 0 dX11_sign_99 (by decide) (fun v134 _ hv134 => ?_)
              replace E := zLet_s (zcst hv134 (by decide)) E
              refine zg_lconst X dX11_sign_100 (fun v135 ev135 => ?_)
              replace E := zLet_s ev135 E
              refine zg_cVv (As := [.int v123, .int p1, .int v134, .long v135]) (st := []) X ha0 rfl (by decide) rfl (t_X11_token l d L kd κ _ hI a0 ha0 v123 p1 v134 v135  (by omega) (by omega) hgK) mk_X11_191 mc_X11_token mz_X11 mi_X11_token ml_X11_token (na := 4) ⟨md_X11.1, md_X11.2, by decide +kernel⟩ rfl ⟨by decide, by decide⟩ (Nat.le_of_ble_eq_true rfl) dX11_sign_101 (fun t136 hq => ?_)
              obtain ⟨hF, ⟨ht136_fact0, gKt136⟩, hI, g137⟩ := hq
              replace E := zLet_s hF E
              have hS := hS.tr g137 (by decide) (by decide)
              refine zg_iconst X 1 dX11_sign_104 (by decide) (fun v138 _ hv138 => ?_)
              replace E := zLet_s (zcst hv138 (by decide)) E
              exact ret _ _ _ _ dX11_sign_105 rfl ⟨E.symm.trans hR, ⟨⟨⟨by omega, by omega⟩, (by omega), gKt136⟩, hI, hS⟩⟩
            · omega
          · omega
        · omega
      · omega
    · omega
set_option maxHeartbeats 4000000 in
set_option maxRecDepth 100000 in
theorem t_X11_cut (l : Launch) (d : zD2) (L : List Nat) (kd : Nat → Nat) (κ : Int) (σ : zS) (hI : zJ κ L kd σ) (a0 : Nat) (ha0 : zT L kd a0 11) (hgK : gK a0 σ) : zMv l yX11_cut (Cond.code yX11_cut cX11_cut 8 none :: zWL) 2 [.ref a0] d L kd σ (fun σ2 => σ2 = F_X11_cut a0 σ ∧ ((gK a0 σ2) ∧ zJ κ L kd σ2 ∧ zSame a0 [10] [105, 106, 107, 108] L kd σ σ2)) := by
  refine zMv.of (own := RX11) (by decide +kernel) rfl rfl (Nat.le_of_ble_eq_true rfl) ?_
  intro p e s m args below meth c A Q X ret
  have hS : zSame a0 [10] [105, 106, 107, 108] L kd σ σ := zSame.rf
  refine zg_lv (lv2 := [(0, .ref a0)]) rfl ?_
  have z4 : 0 ≤ (σ.1 a0 4).toInt ∧ (σ.1 a0 4).toInt ≤ 2000 := zj_get hI ha0 rfl
  obtain ⟨R, hR⟩ : ∃ R, R = F_X11_cut a0 σ := ⟨_, rfl⟩
  have E := hR
  unfold F_X11_cut at E
  refine zg_aload_n X 0 rfl dX11_cut_0 ?_
  refine zg_iconst X 0 dX11_cut_1 (by decide) (fun v1 _ hv1 => ?_)
  replace E := zLet_s (zcst hv1 (by decide)) E
  refine fp_X11_184 X hI ha0 ⟨by omega, by omega⟩ dX11_cut_2 (fun s2 es2 hI => ?_)
  replace E := zLet_s es2 E
  have g3 := (zSame.rf (o := a0) (Wf := [10]) (Wa := []) (L := L) (kd := kd) (σ := σ)).f ha0 es2 rfl
  have fs2_4 : (s2.1 a0 4).toInt = (σ.1 a0 4).toInt := by rw [g3.2.1 4 (by decide)]
  have hS := hS.tr g3 (by decide) (by decide)
  have gKs2 := gK.same hI ha0 g3 (by decide) hgK
  have fs2_10 : (s2.1 a0 10).toInt = v1.toInt := by rw [es2]; exact congrArg _ (zu_s _ _ _ _)
  have e4 : v1 = s2.1 a0 10 := by rw [es2]; exact zm_s
  refine zg_iconst X 0 dX11_cut_5 (by decide) (fun v5 _ hv5 => ?_)
  replace E := zLet_s (zcst hv5 (by decide)) E
  refine zg_istore_n X [(1, .int v5), (0, .ref a0)] dX11_cut_6 (by decide) rfl ?_
  have Lp7 : ∀ (nLp7 : Nat) (τ7 : zS) (x6 : Int32), zJ κ L kd τ7 → zSame a0 [10] [105, 106, 107, 108] L kd σ τ7 → gK a0 τ7 → (τ7.1 a0 4).toInt = (σ.1 a0 4).toInt → R = F_X11_cut_7 a0  nLp7 x6 τ7 → 0 ≤ x6.toInt ∧ x6.toInt ≤ 2000 ∧ x6.toInt ≤ (τ7.1 a0 4).toInt ∧ (τ7.1 a0 10).toInt ≤ 401 → 4000 * (401 - (τ7.1 a0 10).toInt) + (2001 - x6.toInt) < (nLp7 : Int) → zG d L kd A 8 p l e (k2_rm 2 (100 * 2)) s m args below meth c Q τ7 7 [(1, .int x6), (0, .ref a0)] [] := by
    intro nLp7
    induction nLp7 with
    | zero => intro τ7 x6 hI hS gK_Lp7 T4_Lp7 E  hxLp7 hm ; exact absurd hm (by omega)
    | succ nLp7 ihLp7 =>
      intro τ7 x6 hI hS gK_Lp7 T4_Lp7 E  hxLp7 hmLp7 
      rw [F_X11_cut_7] at E
      refine zg_aload_n X 1 rfl dX11_cut_7 ?_
      refine fg_X11_184 X hI ha0 dX11_cut_8 (fun v8 ev8 hv8 => ?_)
      replace E := zLet_s ev8 E
      have kv8 : (τ7.1 a0 10).toInt = v8.toInt := by rw [ev8]
      refine zg_sipush X 400 dX11_cut_11 (by decide) (fun v9 _ hv9 => ?_)
      replace E := zLet_s (zcst hv9 (by decide)) E
      refine zg_icmp_gt X 294 dX11_cut_14 (by decide) (fun c10 => ?_) (fun c10 => ?_)
      · skip
        replace E := zIf_t c10 E
        exact ret _ _ _ dX11_cut_294 ⟨E.symm.trans hR, ⟨gK_Lp7, hI, hS⟩⟩
      · skip
        replace E := zIf_f (Int.not_lt.mpr c10) E
        refine zg_aload_n X 1 rfl dX11_cut_17 ?_
        refine zg_iload_n X 0 rfl dX11_cut_18 ?_
        refine zg_cVi (As := [.int x6]) (st := []) X ha0 rfl (by decide) rfl (t_X11_byteAt l d L kd κ _ hI a0 ha0 x6  (by omega)) mk_X11_187 mc_X11_byteAt mz_X11 mi_X11_byteAt ml_X11_byteAt (na := 1) ⟨md_X11.1, md_X11.2, by decide +kernel⟩ rfl ⟨by decide, by decide⟩ (Nat.le_of_ble_eq_true rfl) dX11_cut_19 (fun v12 t11 hq => ?_)
        obtain ⟨⟨hF, ht11_fact0⟩, rfl⟩ := hq
        replace E := zLet_s hF E
        refine zg_istore_n X [(2, .int v12), (1, .int x6), (0, .ref a0)] dX11_cut_22 (by decide) rfl ?_
        refine zg_iload_n X 1 rfl dX11_cut_23 ?_
        refine zg_aload_n X 2 rfl dX11_cut_24 ?_
        refine fg_X11_175 X hI ha0 dX11_cut_25 (fun v13 ev13 hv13 => ?_)
        replace E := zLet_s ev13 E
        have kv13 : (τ7.1 a0 4).toInt = v13.toInt := by rw [ev13]
        refine zg_icmp_lt X 43 dX11_cut_28 (by decide) (fun c14 => ?_) (fun c14 => ?_)
        · skip
          replace E := zIf_t c14 E
          refine zg_iload_n X 0 rfl dX11_cut_43 ?_
          refine zg_bipush X 9 dX11_cut_44 (by decide) (fun v15 _ hv15 => ?_)
          replace E := zLet_s (zcst hv15 (by decide)) E
          refine zg_icmp_eq X 67 dX11_cut_46 (by decide) (fun c16 => ?_) (fun c16 => ?_)
          · skip
            replace E := zIf_t c16 E
            refine zg_iinc X 1 (fun v17 => [(1, .int v17), (2, .int v12), (0, .ref a0)]) 1 dX11_cut_67 rfl (by decide) (by decide) (by omega) (by omega) (fun _ => rfl) (fun v17 ev17 hv17 => ?_)
            replace E := zLet_s (zinc ev17 (by decide)) E
            refine zg_goto X 291 dX11_cut_70 (by decide) ?_
            refine zg_goto X 7 dX11_cut_291 (by decide) ?_
            refine zg_sub [0, 2] rfl ?_
            exact ihLp7 _ v17 hI hS gK_Lp7 (by omega) E  (by omega) (by omega) 
          · skip
            replace E := zIf_f c16 E
            refine zg_iload_n X 0 rfl dX11_cut_49 ?_
            refine zg_bipush X 10 dX11_cut_50 (by decide) (fun v18 _ hv18 => ?_)
            replace E := zLet_s (zcst hv18 (by decide)) E
            refine zg_icmp_eq X 67 dX11_cut_52 (by decide) (fun c19 => ?_) (fun c19 => ?_)
            · skip
              replace E := zIf_t c19 E
              refine zg_iinc X 1 (fun v20 => [(1, .int v20), (2, .int v12), (0, .ref a0)]) 1 dX11_cut_67 rfl (by decide) (by decide) (by omega) (by omega) (fun _ => rfl) (fun v20 ev20 hv20 => ?_)
              replace E := zLet_s (zinc ev20 (by decide)) E
              refine zg_goto X 291 dX11_cut_70 (by decide) ?_
              refine zg_goto X 7 dX11_cut_291 (by decide) ?_
              refine zg_sub [0, 2] rfl ?_
              exact ihLp7 _ v20 hI hS gK_Lp7 (by omega) E  (by omega) (by omega) 
            · skip
              replace E := zIf_f c19 E
              refine zg_iload_n X 0 rfl dX11_cut_55 ?_
              refine zg_bipush X 13 dX11_cut_56 (by decide) (fun v21 _ hv21 => ?_)
              replace E := zLet_s (zcst hv21 (by decide)) E
              refine zg_icmp_eq X 67 dX11_cut_58 (by decide) (fun c22 => ?_) (fun c22 => ?_)
              · skip
                replace E := zIf_t c22 E
                refine zg_iinc X 1 (fun v23 => [(1, .int v23), (2, .int v12), (0, .ref a0)]) 1 dX11_cut_67 rfl (by decide) (by decide) (by omega) (by omega) (fun _ => rfl) (fun v23 ev23 hv23 => ?_)
                replace E := zLet_s (zinc ev23 (by decide)) E
                refine zg_goto X 291 dX11_cut_70 (by decide) ?_
                refine zg_goto X 7 dX11_cut_291 (by decide) ?_
                refine zg_sub [0, 2] rfl ?_
                exact ihLp7 _ v23 hI hS gK_Lp7 (by omega) E  (by omega) (by omega) 
              · skip
                replace E := zIf_f c22 E
                refine zg_iload_n X 0 rfl dX11_cut_61 ?_
                refine zg_bipush X 32 dX11_cut_62 (by decide) (fun v24 _ hv24 => ?_)
                replace E := zLet_s (zcst hv24 (by decide)) E
                refine zg_icmp_ne X 73 dX11_cut_64 (by decide) (fun c25 => ?_) (fun c25 => ?_)
                · skip
                  replace E := zIf_f c25 E
                  refine zg_iload_n X 0 rfl dX11_cut_73 ?_
                  refine zg_cSi (As := [.int v12]) (st := []) X (t_X11_isLetter l d L kd _ v12 ) mk_X11_195 mc_X11_isLetter mz_X11 ms_X11_isLetter (na := 1) ⟨md_X11.1, md_X11.2, by decide +kernel⟩ rfl ⟨by decide, by decide⟩ (Nat.le_of_ble_eq_true rfl) dX11_cut_74 (fun v26 σ2 hq => ?_)
                  obtain ⟨⟨hF, hv26⟩, rfl⟩ := hq
                  replace E := zLet_s hF E
                  refine zg_if_eq X 196 dX11_cut_77 (by decide) (fun c27 => ?_) (fun c27 => ?_)
                  · skip
                    replace E := zIf_t c27 E
                    refine zg_iload_n X 0 rfl dX11_cut_196 ?_
                    refine zg_cSi (As := [.int v12]) (st := []) X (t_X11_isDigit l d L kd _ v12 ) mk_X11_199 mc_X11_isDigit mz_X11 ms_X11_isDigit (na := 1) ⟨md_X11.1, md_X11.2, by decide +kernel⟩ rfl ⟨by decide, by decide⟩ (Nat.le_of_ble_eq_true rfl) dX11_cut_197 (fun v28 σ2 hq => ?_)
                    obtain ⟨⟨hF, hv28⟩, rfl⟩ := hq
                    replace E := zLet_s hF E
                    refine zg_if_eq X 275 dX11_cut_200 (by decide) (fun c29 => ?_) (fun c29 => ?_)
                    · skip
                      replace E := zIf_t c29 E
                      refine zg_iload_n X 1 rfl dX11_cut_275 ?_
                      refine zg_aload_n X 2 rfl dX11_cut_276 ?_
                      refine zg_iload_n X 1 rfl dX11_cut_277 ?_
                      refine zg_iload_n X 0 rfl dX11_cut_278 ?_
                      refine zg_aload_n X 2 rfl dX11_cut_279 ?_
                      refine zg_iload_n X 1 rfl dX11_cut_280 ?_
                      refine zg_iconst X 1 dX11_cut_281 (by decide) (fun v30 _ hv30 => ?_)
                      replace E := zLet_s (zcst hv30 (by decide)) E
                      refine zg_iadd X dX11_cut_282 (by omega) (by omega) (fun v31 ev31 hv31 => ?_)
                      replace E := zLet_s ev31 E
                      refine zg_cVi (As := [.int v31]) (st := [.int v12, .int x6, .ref a0, .int x6]) X ha0 rfl (by decide) rfl (t_X11_byteAt l d L kd κ _ hI a0 ha0 v31  (by omega)) mk_X11_187 mc_X11_byteAt mz_X11 mi_X11_byteAt ml_X11_byteAt (na := 1) ⟨md_X11.1, md_X11.2, by decide +kernel⟩ rfl ⟨by decide, by decide⟩ (Nat.le_of_ble_eq_true rfl) dX11_cut_283 (fun v33 t32 hq => ?_)
                      obtain ⟨⟨hF, ht32_fact0⟩, rfl⟩ := hq
                      replace E := zLet_s hF E
                      refine zg_cVi (As := [.int x6, .int v12, .int v33]) (st := [.int x6]) X ha0 rfl (by decide) rfl (t_X11_sign l d L kd κ _ hI a0 ha0 x6 v12 v33  (by omega) gK_Lp7) mk_X11_202 mc_X11_sign mz_X11 mi_X11_sign ml_X11_sign (na := 3) ⟨md_X11.1, md_X11.2, by decide +kernel⟩ rfl ⟨by decide, by decide⟩ (Nat.le_of_ble_eq_true rfl) dX11_cut_286 (fun v35 t34 hq => ?_)
                      obtain ⟨hF, ⟨ht34_res, ht34_fact0, gKt34⟩, hI, g36⟩ := hq
                      replace E := zLet2_s hF E
                      have ft34_4 : (t34.1 a0 4).toInt = (τ7.1 a0 4).toInt := by rw [g36.2.1 4 (by decide)]
                      have hS := hS.tr g36 (by decide) (by decide)
                      refine zg_iadd X dX11_cut_289 (by omega) (by omega) (fun v38 ev38 hv38 => ?_)
                      replace E := zLet_s ev38 E
                      refine zg_istore_n X [(1, .int v38), (2, .int v12), (0, .ref a0)] dX11_cut_290 (by decide) rfl ?_
                      refine zg_goto X 7 dX11_cut_291 (by decide) ?_
                      refine zg_sub [0, 2] rfl ?_
                      exact ihLp7 _ v38 hI hS gKt34 (by omega) E  (by omega) (by omega) 
                    · skip
                      replace E := zIf_f c29 E
                      refine zg_iconst X 0 dX11_cut_203 (by decide) (fun v39 _ hv39 => ?_)
                      replace E := zLet_s (zcst hv39 (by decide)) E
                      refine zg_istore_n X [(3, .int v39), (2, .int v12), (1, .int x6), (0, .ref a0)] dX11_cut_204 (by decide) rfl ?_
                      refine zg_iconst X 0 dX11_cut_205 (by decide) (fun v40 _ hv40 => ?_)
                      replace E := zLet_s (zcst hv40 (by decide)) E
                      refine zg_istore X [(4, .int v40), (3, .int v39), (2, .int v12), (1, .int x6), (0, .ref a0)] dX11_cut_206 (by decide) rfl ?_
                      have Lp43 : ∀ (nLp43 : Nat) (τ43 : zS) (x41 : Int32) (x42 : Int32), zJ κ L kd τ43 → zSame a0 [10] [105, 106, 107, 108] L kd σ τ43 → gK a0 τ43 → (τ43.1 a0 4).toInt = (σ.1 a0 4).toInt → R = F_X11_cut_208 v12 x6 a0 (F_X11_cut_7 a0  nLp7) nLp43 x41 x42 τ43 → 0 ≤ x42.toInt ∧ x42.toInt ≤ 2000 ∧ x6.toInt + x42.toInt ≤ (τ43.1 a0 4).toInt ∧ (τ43.1 a0 10).toInt = (τ7.1 a0 10).toInt → (τ43.1 a0 4).toInt - x6.toInt - x42.toInt + 1 < (nLp43 : Int) → zG d L kd A 8 p l e (k2_rm 2 (100 * 2)) s m args below meth c Q τ43 208 [(4, .int x41), (3, .int x42), (2, .int v12), (1, .int x6), (0, .ref a0)] [] := by
                        intro nLp43
                        induction nLp43 with
                        | zero => intro τ43 x41 x42 hI hS gK_Lp43 T4_Lp43 E  hxLp43 hm ; exact absurd hm (by omega)
                        | succ nLp43 ihLp43 =>
                          intro τ43 x41 x42 hI hS gK_Lp43 T4_Lp43 E  hxLp43 hmLp43 
                          rw [F_X11_cut_208] at E
                          refine zg_aload_n X 4 rfl dX11_cut_208 ?_
                          refine zg_iload_n X 3 rfl dX11_cut_209 ?_
                          refine zg_iload_n X 1 rfl dX11_cut_210 ?_
                          refine zg_iadd X dX11_cut_211 (by omega) (by omega) (fun v44 ev44 hv44 => ?_)
                          replace E := zLet_s ev44 E
                          refine zg_cVi (As := [.int v44]) (st := []) X ha0 rfl (by decide) rfl (t_X11_byteAt l d L kd κ _ hI a0 ha0 v44  (by omega)) mk_X11_187 mc_X11_byteAt mz_X11 mi_X11_byteAt ml_X11_byteAt (na := 1) ⟨md_X11.1, md_X11.2, by decide +kernel⟩ rfl ⟨by decide, by decide⟩ (Nat.le_of_ble_eq_true rfl) dX11_cut_212 (fun v46 t45 hq => ?_)
                          obtain ⟨⟨hF, ht45_fact0⟩, rfl⟩ := hq
                          replace E := zLet_s hF E
                          refine zg_cSi (As := [.int v46]) (st := []) X (t_X11_isDigit l d L kd _ v46 ) mk_X11_199 mc_X11_isDigit mz_X11 ms_X11_isDigit (na := 1) ⟨md_X11.1, md_X11.2, by decide +kernel⟩ rfl ⟨by decide, by decide⟩ (Nat.le_of_ble_eq_true rfl) dX11_cut_215 (fun v47 σ2 hq => ?_)
                          obtain ⟨⟨hF, hv47⟩, rfl⟩ := hq
                          replace E := zLet_s hF E
                          refine zg_if_eq X 250 dX11_cut_218 (by decide) (fun c48 => ?_) (fun c48 => ?_)
                          · skip
                            replace E := zIf_t c48 E
                            refine zg_aload_n X 4 rfl dX11_cut_250 ?_
                            refine zg_iload_n X 1 rfl dX11_cut_251 ?_
                            refine zg_iconst X 4 dX11_cut_252 (by decide) (fun v49 _ hv49 => ?_)
                            replace E := zLet_s (zcst hv49 (by decide)) E
                            refine zg_icmp_le X 260 dX11_cut_253 (by decide) (fun c50 => ?_) (fun c50 => ?_)
                            · skip
                              replace E := zIf_f (Int.not_lt.mpr c50) E
                              refine zg_iconst X 2 dX11_cut_260 (by decide) (fun v51 _ hv51 => ?_)
                              replace E := zLet_s (zcst hv51 (by decide)) E
                              refine zg_iload_n X 3 rfl dX11_cut_261 ?_
                              refine zg_iload X 0 rfl dX11_cut_262 ?_
                              refine zg_lconst X dX11_cut_264 (fun v52 ev52 => ?_)
                              replace E := zLet_s ev52 E
                              refine zg_cVv (As := [.int v51, .int x6, .int x41, .long v52]) (st := []) X ha0 rfl (by decide) rfl (t_X11_token l d L kd κ _ hI a0 ha0 v51 x6 x41 v52  (by omega) (by omega) gK_Lp43) mk_X11_191 mc_X11_token mz_X11 mi_X11_token ml_X11_token (na := 4) ⟨md_X11.1, md_X11.2, by decide +kernel⟩ rfl ⟨by decide, by decide⟩ (Nat.le_of_ble_eq_true rfl) dX11_cut_265 (fun t53 hq => ?_)
                              obtain ⟨hF, ⟨ht53_fact0, gKt53⟩, hI, g54⟩ := hq
                              replace E := zLet_s hF E
                              have ft53_4 : (t53.1 a0 4).toInt = (τ43.1 a0 4).toInt := by rw [g54.2.1 4 (by decide)]
                              have hS := hS.tr g54 (by decide) (by decide)
                              refine zg_iload_n X 3 rfl dX11_cut_268 ?_
                              refine zg_iload_n X 1 rfl dX11_cut_269 ?_
                              refine zg_iadd X dX11_cut_270 (by omega) (by omega) (fun v55 ev55 hv55 => ?_)
                              replace E := zLet_s ev55 E
                              refine zg_istore_n X [(1, .int v55), (4, .int x41), (3, .int x42), (2, .int v12), (0, .ref a0)] dX11_cut_271 (by decide) rfl ?_
                              refine zg_goto X 291 dX11_cut_272 (by decide) ?_
                              refine zg_goto X 7 dX11_cut_291 (by decide) ?_
                              refine zg_sub [0, 4] rfl ?_
                              exact ihLp7 _ v55 hI hS gKt53 (by omega) E  (by omega) (by omega) 
                            · skip
                              replace E := zIf_t c50 E
                              refine zg_iconst X 3 dX11_cut_256 (by decide) (fun v56 _ hv56 => ?_)
                              replace E := zLet_s (zcst hv56 (by decide)) E
                              refine zg_goto X 261 dX11_cut_257 (by decide) ?_
                              refine zg_iload_n X 3 rfl dX11_cut_261 ?_
                              refine zg_iload X 0 rfl dX11_cut_262 ?_
                              refine zg_lconst X dX11_cut_264 (fun v57 ev57 => ?_)
                              replace E := zLet_s ev57 E
                              refine zg_cVv (As := [.int v56, .int x6, .int x41, .long v57]) (st := []) X ha0 rfl (by decide) rfl (t_X11_token l d L kd κ _ hI a0 ha0 v56 x6 x41 v57  (by omega) (by omega) gK_Lp43) mk_X11_191 mc_X11_token mz_X11 mi_X11_token ml_X11_token (na := 4) ⟨md_X11.1, md_X11.2, by decide +kernel⟩ rfl ⟨by decide, by decide⟩ (Nat.le_of_ble_eq_true rfl) dX11_cut_265 (fun t58 hq => ?_)
                              obtain ⟨hF, ⟨ht58_fact0, gKt58⟩, hI, g59⟩ := hq
                              replace E := zLet_s hF E
                              have ft58_4 : (t58.1 a0 4).toInt = (τ43.1 a0 4).toInt := by rw [g59.2.1 4 (by decide)]
                              have hS := hS.tr g59 (by decide) (by decide)
                              refine zg_iload_n X 3 rfl dX11_cut_268 ?_
                              refine zg_iload_n X 1 rfl dX11_cut_269 ?_
                              refine zg_iadd X dX11_cut_270 (by omega) (by omega) (fun v60 ev60 hv60 => ?_)
                              replace E := zLet_s ev60 E
                              refine zg_istore_n X [(1, .int v60), (4, .int x41), (3, .int x42), (2, .int v12), (0, .ref a0)] dX11_cut_271 (by decide) rfl ?_
                              refine zg_goto X 291 dX11_cut_272 (by decide) ?_
                              refine zg_goto X 7 dX11_cut_291 (by decide) ?_
                              refine zg_sub [0, 4] rfl ?_
                              exact ihLp7 _ v60 hI hS gKt58 (by omega) E  (by omega) (by omega) 
                          · skip
                            replace E := zIf_f c48 E
                            refine zg_iload_n X 1 rfl dX11_cut_221 ?_
                            refine zg_iconst X 4 dX11_cut_222 (by decide) (fun v61 _ hv61 => ?_)
                            replace E := zLet_s (zcst hv61 (by decide)) E
                            refine zg_icmp_ge X 244 dX11_cut_223 (by decide) (fun c62 => ?_) (fun c62 => ?_)
                            · skip
                              replace E := zIf_f (Int.not_lt.mpr c62) E
                              refine zg_iinc X 1 (fun v63 => [(3, .int v63), (4, .int x41), (2, .int v12), (1, .int x6), (0, .ref a0)]) 1 dX11_cut_244 rfl (by decide) (by decide) (by omega) (by omega) (fun _ => rfl) (fun v63 ev63 hv63 => ?_)
                              replace E := zLet_s (zinc ev63 (by decide)) E
                              refine zg_goto X 208 dX11_cut_247 (by decide) ?_
                              refine zg_sub [1, 0, 2, 3, 4] rfl ?_
                              exact ihLp43 _ x41 v63 hI hS gK_Lp43 (by omega) E  (by omega) (by omega) 
                            · skip
                              replace E := zIf_t c62 E
                              refine zg_bipush X 10 dX11_cut_226 (by decide) (fun v64 _ hv64 => ?_)
                              replace E := zLet_s (zcst hv64 (by decide)) E
                              refine zg_iload X 0 rfl dX11_cut_228 ?_
                              refine zg_imulW X dX11_cut_230 (fun v65 ev65 => ?_)
                              replace E := zLet_s ev65 E
                              refine zg_aload_n X 4 rfl dX11_cut_231 ?_
                              refine zg_iload_n X 3 rfl dX11_cut_232 ?_
                              refine zg_iload_n X 1 rfl dX11_cut_233 ?_
                              refine zg_iadd X dX11_cut_234 (by omega) (by omega) (fun v66 ev66 hv66 => ?_)
                              replace E := zLet_s ev66 E
                              refine zg_cVi (As := [.int v66]) (st := [.int v65]) X ha0 rfl (by decide) rfl (t_X11_byteAt l d L kd κ _ hI a0 ha0 v66  (by omega)) mk_X11_187 mc_X11_byteAt mz_X11 mi_X11_byteAt ml_X11_byteAt (na := 1) ⟨md_X11.1, md_X11.2, by decide +kernel⟩ rfl ⟨by decide, by decide⟩ (Nat.le_of_ble_eq_true rfl) dX11_cut_235 (fun v68 t67 hq => ?_)
                              obtain ⟨⟨hF, ht67_fact0⟩, rfl⟩ := hq
                              replace E := zLet_s hF E
                              refine zg_iaddW X dX11_cut_238 (fun v69 ev69 => ?_)
                              replace E := zLet_s ev69 E
                              refine zg_bipush X 48 dX11_cut_239 (by decide) (fun v70 _ hv70 => ?_)
                              replace E := zLet_s (zcst hv70 (by decide)) E
                              refine zg_isubW X dX11_cut_241 (fun v71 ev71 => ?_)
                              replace E := zLet_s ev71 E
                              refine zg_istore X [(4, .int v71), (3, .int x42), (2, .int v12), (1, .int x6), (0, .ref a0)] dX11_cut_242 (by decide) rfl ?_
                              refine zg_iinc X 1 (fun v72 => [(3, .int v72), (4, .int v71), (2, .int v12), (1, .int x6), (0, .ref a0)]) 1 dX11_cut_244 rfl (by decide) (by decide) (by omega) (by omega) (fun _ => rfl) (fun v72 ev72 hv72 => ?_)
                              replace E := zLet_s (zinc ev72 (by decide)) E
                              refine zg_goto X 208 dX11_cut_247 (by decide) ?_
                              refine zg_sub [1, 0, 2, 3, 4] rfl ?_
                              exact ihLp43 _ v71 v72 hI hS gK_Lp43 (by omega) E  (by omega) (by omega) 
                      refine zg_sub [0, 1, 2, 3, 4] rfl ?_
                      exact Lp43 10000 _ v40 v39 hI hS gK_Lp7 (by omega) E  (by omega) (by omega) 
                  · skip
                    replace E := zIf_f c27 E
                    refine zg_iconst X 0 dX11_cut_80 (by decide) (fun v73 _ hv73 => ?_)
                    replace E := zLet_s (zcst hv73 (by decide)) E
                    refine zg_istore_n X [(3, .int v73), (2, .int v12), (1, .int x6), (0, .ref a0)] dX11_cut_81 (by decide) rfl ?_
                    refine zg_lconst X dX11_cut_82 (fun v74 ev74 => ?_)
                    replace E := zLet_s ev74 E
                    refine zg_lstore X [(4, .long v74), (3, .int v73), (2, .int v12), (1, .int x6), (0, .ref a0)] dX11_cut_83 (by decide) rfl ?_
                    have Lp77 : ∀ (nLp77 : Nat) (τ77 : zS) (x75 : Int64) (x76 : Int32), zJ κ L kd τ77 → zSame a0 [10] [105, 106, 107, 108] L kd σ τ77 → gK a0 τ77 → (τ77.1 a0 4).toInt = (σ.1 a0 4).toInt → R = F_X11_cut_85 v12 x6 a0 (F_X11_cut_7 a0  nLp7) nLp77 x75 x76 τ77 → 0 ≤ x76.toInt ∧ x76.toInt ≤ 2000 ∧ x6.toInt + x76.toInt ≤ (τ77.1 a0 4).toInt ∧ (τ77.1 a0 10).toInt = (τ7.1 a0 10).toInt → (τ77.1 a0 4).toInt - x6.toInt - x76.toInt + 1 < (nLp77 : Int) → zG d L kd A 8 p l e (k2_rm 2 (100 * 2)) s m args below meth c Q τ77 85 [(4, .long x75), (3, .int x76), (2, .int v12), (1, .int x6), (0, .ref a0)] [] := by
                      intro nLp77
                      induction nLp77 with
                      | zero => intro τ77 x75 x76 hI hS gK_Lp77 T4_Lp77 E  hxLp77 hm ; exact absurd hm (by omega)
                      | succ nLp77 ihLp77 =>
                        intro τ77 x75 x76 hI hS gK_Lp77 T4_Lp77 E  hxLp77 hmLp77 
                        rw [F_X11_cut_85] at E
                        refine zg_aload_n X 4 rfl dX11_cut_85 ?_
                        refine zg_iload_n X 3 rfl dX11_cut_86 ?_
                        refine zg_iload_n X 1 rfl dX11_cut_87 ?_
                        refine zg_iadd X dX11_cut_88 (by omega) (by omega) (fun v78 ev78 hv78 => ?_)
                        replace E := zLet_s ev78 E
                        refine zg_cVi (As := [.int v78]) (st := []) X ha0 rfl (by decide) rfl (t_X11_byteAt l d L kd κ _ hI a0 ha0 v78  (by omega)) mk_X11_187 mc_X11_byteAt mz_X11 mi_X11_byteAt ml_X11_byteAt (na := 1) ⟨md_X11.1, md_X11.2, by decide +kernel⟩ rfl ⟨by decide, by decide⟩ (Nat.le_of_ble_eq_true rfl) dX11_cut_89 (fun v80 t79 hq => ?_)
                        obtain ⟨⟨hF, ht79_fact0⟩, rfl⟩ := hq
                        replace E := zLet_s hF E
                        refine zg_cSi (As := [.int v80]) (st := []) X (t_X11_isLetter l d L kd _ v80 ) mk_X11_195 mc_X11_isLetter mz_X11 ms_X11_isLetter (na := 1) ⟨md_X11.1, md_X11.2, by decide +kernel⟩ rfl ⟨by decide, by decide⟩ (Nat.le_of_ble_eq_true rfl) dX11_cut_92 (fun v81 σ2 hq => ?_)
                        obtain ⟨⟨hF, hv81⟩, rfl⟩ := hq
                        replace E := zLet_s hF E
                        refine zg_if_eq X 124 dX11_cut_95 (by decide) (fun c82 => ?_) (fun c82 => ?_)
                        · skip
                          replace E := zIf_t c82 E
                          refine zg_iload_n X 1 rfl dX11_cut_124 ?_
                          refine zg_bipush X 8 dX11_cut_125 (by decide) (fun v83 _ hv83 => ?_)
                          replace E := zLet_s (zcst hv83 (by decide)) E
                          refine zg_icmp_le X 134 dX11_cut_127 (by decide) (fun c84 => ?_) (fun c84 => ?_)
                          · skip
                            replace E := zIf_f (Int.not_lt.mpr c84) E
                            refine zg_iconst X 1 dX11_cut_134 (by decide) (fun v85 _ hv85 => ?_)
                            replace E := zLet_s (zcst hv85 (by decide)) E
                            refine zg_istore X [(6, .int v85), (4, .long x75), (3, .int x76), (2, .int v12), (1, .int x6), (0, .ref a0)] dX11_cut_135 (by decide) rfl ?_
                            refine zg_iload_n X 2 rfl dX11_cut_137 ?_
                            refine zg_bipush X 8 dX11_cut_138 (by decide) (fun v86 _ hv86 => ?_)
                            replace E := zLet_s (zcst hv86 (by decide)) E
                            refine zg_icmp_gt X 179 dX11_cut_140 (by decide) (fun c87 => ?_) (fun c87 => ?_)
                            · omega
                            · skip
                              replace E := zIf_f (Int.not_lt.mpr c87) E
                              refine zg_iconst X 0 dX11_cut_143 (by decide) (fun v88 _ hv88 => ?_)
                              replace E := zLet_s (zcst hv88 (by decide)) E
                              refine zg_istore X [(7, .int v88), (6, .int v85), (4, .long x75), (3, .int x76), (2, .int v12), (1, .int x6), (0, .ref a0)] dX11_cut_144 (by decide) rfl ?_
                              have Lp91 : ∀ (nLp91 : Nat) (τ91 : zS) (x89 : Int32) (x90 : Int32), zJ κ L kd τ91 → zSame a0 [10] [105, 106, 107, 108] L kd σ τ91 → gK a0 τ91 → (τ91.1 a0 4).toInt = (σ.1 a0 4).toInt → R = F_X11_cut_146 x75 x76 v12 x6 a0 (F_X11_cut_7 a0  nLp7) (F_X11_cut_85 v12 x6 a0 (F_X11_cut_7 a0  nLp7) nLp77) nLp91 x89 x90 τ91 → 0 ≤ x90.toInt ∧ x90.toInt ≤ 41 ∧ 0 ≤ x89.toInt ∧ x89.toInt ≤ 22 ∧ (τ91.1 a0 10).toInt = (τ77.1 a0 10).toInt → (22) - x89.toInt + 1 < (nLp91 : Int) → zG d L kd A 8 p l e (k2_rm 2 (100 * 2)) s m args below meth c Q τ91 146 [(7, .int x89), (6, .int x90), (4, .long x75), (3, .int x76), (2, .int v12), (1, .int x6), (0, .ref a0)] [] := by
                                intro nLp91
                                induction nLp91 with
                                | zero => intro τ91 x89 x90 hI hS gK_Lp91 T4_Lp91 E  hxLp91 hm ; exact absurd hm (by omega)
                                | succ nLp91 ihLp91 =>
                                  intro τ91 x89 x90 hI hS gK_Lp91 T4_Lp91 E  hxLp91 hmLp91 
                                  rw [F_X11_cut_146] at E
                                  refine zg_iload X 0 rfl dX11_cut_146 ?_
                                  refine zg_bipush X 22 dX11_cut_148 (by decide) (fun v92 _ hv92 => ?_)
                                  replace E := zLet_s (zcst hv92 (by decide)) E
                                  refine zg_icmp_ge X 179 dX11_cut_150 (by decide) (fun c93 => ?_) (fun c93 => ?_)
                                  · skip
                                    replace E := zIf_f (Int.not_lt.mpr c93) E
                                    refine zg_aload_n X 6 rfl dX11_cut_179 ?_
                                    refine zg_iload X 1 rfl dX11_cut_180 ?_
                                    refine zg_iload_n X 5 rfl dX11_cut_182 ?_
                                    refine zg_iconst X 0 dX11_cut_183 (by decide) (fun v94 _ hv94 => ?_)
                                    replace E := zLet_s (zcst hv94 (by decide)) E
                                    refine zg_lload X 2 rfl dX11_cut_184 ?_
                                    refine zg_cVv (As := [.int x90, .int x6, .int v94, .long x75]) (st := []) X ha0 rfl (by decide) rfl (t_X11_token l d L kd κ _ hI a0 ha0 x90 x6 v94 x75  (by omega) (by omega) gK_Lp91) mk_X11_191 mc_X11_token mz_X11 mi_X11_token ml_X11_token (na := 4) ⟨md_X11.1, md_X11.2, by decide +kernel⟩ rfl ⟨by decide, by decide⟩ (Nat.le_of_ble_eq_true rfl) dX11_cut_186 (fun t95 hq => ?_)
                                    obtain ⟨hF, ⟨ht95_fact0, gKt95⟩, hI, g96⟩ := hq
                                    replace E := zLet_s hF E
                                    have ft95_4 : (t95.1 a0 4).toInt = (τ91.1 a0 4).toInt := by rw [g96.2.1 4 (by decide)]
                                    have hS := hS.tr g96 (by decide) (by decide)
                                    refine zg_iload_n X 5 rfl dX11_cut_189 ?_
                                    refine zg_iload_n X 3 rfl dX11_cut_190 ?_
                                    refine zg_iadd X dX11_cut_191 (by omega) (by omega) (fun v97 ev97 hv97 => ?_)
                                    replace E := zLet_s ev97 E
                                    refine zg_istore_n X [(1, .int v97), (7, .int x89), (6, .int x90), (4, .long x75), (3, .int x76), (2, .int v12), (0, .ref a0)] dX11_cut_192 (by decide) rfl ?_
                                    refine zg_goto X 291 dX11_cut_193 (by decide) ?_
                                    refine zg_goto X 7 dX11_cut_291 (by decide) ?_
                                    refine zg_sub [0, 6] rfl ?_
                                    exact ihLp7 _ v97 hI hS gKt95 (by omega) E  (by omega) (by omega) 
                                  · skip
                                    replace E := zIf_t c93 E
                                    refine zg_aload_n X 6 rfl dX11_cut_153 ?_
                                    refine fg_X11_34 X hI ha0 dX11_cut_154 (fun v98 ev98 hv98 => ?_)
                                    replace E := zLet_s (zgr ev98) E
                                    refine zg_iload X 0 rfl dX11_cut_157 ?_
                                    refine ag_109 X hv98 (by omega) (by omega) dX11_cut_159 (fun v99 ev99 => ?_)
                                    replace E := zLet_s ev99 E
                                    refine zg_lload X 2 rfl dX11_cut_160 ?_
                                    refine zg_lcmp X dX11_cut_162 (fun v100 ev100 => ?_)
                                    replace E := zLet_s ev100 E
                                    refine zg_if_ne X 173 dX11_cut_163 (by decide) (fun c101 => ?_) (fun c101 => ?_)
                                    · skip
                                      replace E := zIf_f c101 E
                                      refine zg_iinc X 1 (fun v102 => [(7, .int v102), (6, .int x90), (4, .long x75), (3, .int x76), (2, .int v12), (1, .int x6), (0, .ref a0)]) 0 dX11_cut_173 rfl (by decide) (by decide) (by omega) (by omega) (fun _ => rfl) (fun v102 ev102 hv102 => ?_)
                                      replace E := zLet_s (zinc ev102 (by decide)) E
                                      refine zg_goto X 146 dX11_cut_176 (by decide) ?_
                                      refine zg_sub [0, 1, 2, 3, 4, 5, 6] rfl ?_
                                      exact ihLp91 _ v102 x90 hI hS gK_Lp91 (by omega) E  (by omega) (by omega) 
                                    · skip
                                      replace E := zIf_t c101 E
                                      refine zg_bipush X 20 dX11_cut_166 (by decide) (fun v103 _ hv103 => ?_)
                                      replace E := zLet_s (zcst hv103 (by decide)) E
                                      refine zg_iload X 0 rfl dX11_cut_168 ?_
                                      refine zg_iadd X dX11_cut_170 (by omega) (by omega) (fun v104 ev104 hv104 => ?_)
                                      replace E := zLet_s ev104 E
                                      refine zg_istore X [(6, .int v104), (7, .int x89), (4, .long x75), (3, .int x76), (2, .int v12), (1, .int x6), (0, .ref a0)] dX11_cut_171 (by decide) rfl ?_
                                      refine zg_iinc X 1 (fun v105 => [(7, .int v105), (6, .int v104), (4, .long x75), (3, .int x76), (2, .int v12), (1, .int x6), (0, .ref a0)]) 1 dX11_cut_173 rfl (by decide) (by decide) (by omega) (by omega) (fun _ => rfl) (fun v105 ev105 hv105 => ?_)
                                      replace E := zLet_s (zinc ev105 (by decide)) E
                                      refine zg_goto X 146 dX11_cut_176 (by decide) ?_
                                      refine zg_sub [0, 1, 2, 3, 4, 5, 6] rfl ?_
                                      exact ihLp91 _ v105 v104 hI hS gK_Lp91 (by omega) E  (by omega) (by omega) 
                              refine zg_sub [0, 1, 2, 3, 4, 5, 6] rfl ?_
                              exact Lp91 10000 _ v88 v85 hI hS gK_Lp77 (by omega) E  (by omega) (by omega) 
                          · skip
                            replace E := zIf_t c84 E
                            refine zg_iconst X 3 dX11_cut_130 (by decide) (fun v106 _ hv106 => ?_)
                            replace E := zLet_s (zcst hv106 (by decide)) E
                            refine zg_goto X 135 dX11_cut_131 (by decide) ?_
                            refine zg_istore X [(6, .int v106), (4, .long x75), (3, .int x76), (2, .int v12), (1, .int x6), (0, .ref a0)] dX11_cut_135 (by decide) rfl ?_
                            refine zg_iload_n X 2 rfl dX11_cut_137 ?_
                            refine zg_bipush X 8 dX11_cut_138 (by decide) (fun v107 _ hv107 => ?_)
                            replace E := zLet_s (zcst hv107 (by decide)) E
                            refine zg_icmp_gt X 179 dX11_cut_140 (by decide) (fun c108 => ?_) (fun c108 => ?_)
                            · skip
                              replace E := zIf_t c108 E
                              refine zg_aload_n X 5 rfl dX11_cut_179 ?_
                              refine zg_iload X 0 rfl dX11_cut_180 ?_
                              refine zg_iload_n X 4 rfl dX11_cut_182 ?_
                              refine zg_iconst X 0 dX11_cut_183 (by decide) (fun v109 _ hv109 => ?_)
                              replace E := zLet_s (zcst hv109 (by decide)) E
                              refine zg_lload X 1 rfl dX11_cut_184 ?_
                              refine zg_cVv (As := [.int v106, .int x6, .int v109, .long x75]) (st := []) X ha0 rfl (by decide) rfl (t_X11_token l d L kd κ _ hI a0 ha0 v106 x6 v109 x75  (by omega) (by omega) gK_Lp77) mk_X11_191 mc_X11_token mz_X11 mi_X11_token ml_X11_token (na := 4) ⟨md_X11.1, md_X11.2, by decide +kernel⟩ rfl ⟨by decide, by decide⟩ (Nat.le_of_ble_eq_true rfl) dX11_cut_186 (fun t110 hq => ?_)
                              obtain ⟨hF, ⟨ht110_fact0, gKt110⟩, hI, g111⟩ := hq
                              replace E := zLet_s hF E
                              have ft110_4 : (t110.1 a0 4).toInt = (τ77.1 a0 4).toInt := by rw [g111.2.1 4 (by decide)]
                              have hS := hS.tr g111 (by decide) (by decide)
                              refine zg_iload_n X 4 rfl dX11_cut_189 ?_
                              refine zg_iload_n X 2 rfl dX11_cut_190 ?_
                              refine zg_iadd X dX11_cut_191 (by omega) (by omega) (fun v112 ev112 hv112 => ?_)
                              replace E := zLet_s ev112 E
                              refine zg_istore_n X [(1, .int v112), (6, .int v106), (4, .long x75), (3, .int x76), (2, .int v12), (0, .ref a0)] dX11_cut_192 (by decide) rfl ?_
                              refine zg_goto X 291 dX11_cut_193 (by decide) ?_
                              refine zg_goto X 7 dX11_cut_291 (by decide) ?_
                              refine zg_sub [0, 5] rfl ?_
                              exact ihLp7 _ v112 hI hS gKt110 (by omega) E  (by omega) (by omega) 
                            · omega
                        · skip
                          replace E := zIf_f c82 E
                          refine zg_iload_n X 1 rfl dX11_cut_98 ?_
                          refine zg_bipush X 8 dX11_cut_99 (by decide) (fun v113 _ hv113 => ?_)
                          replace E := zLet_s (zcst hv113 (by decide)) E
                          refine zg_icmp_ge X 118 dX11_cut_101 (by decide) (fun c114 => ?_) (fun c114 => ?_)
                          · skip
                            replace E := zIf_f (Int.not_lt.mpr c114) E
                            refine zg_iinc X 1 (fun v115 => [(3, .int v115), (4, .long x75), (2, .int v12), (1, .int x6), (0, .ref a0)]) 1 dX11_cut_118 rfl (by decide) (by decide) (by omega) (by omega) (fun _ => rfl) (fun v115 ev115 hv115 => ?_)
                            replace E := zLet_s (zinc ev115 (by decide)) E
                            refine zg_goto X 85 dX11_cut_121 (by decide) ?_
                            refine zg_sub [1, 0, 2, 3, 4] rfl ?_
                            exact ihLp77 _ x75 v115 hI hS gK_Lp77 (by omega) E  (by omega) (by omega) 
                          · skip
                            replace E := zIf_t c114 E
                            refine zg_lload X 0 rfl dX11_cut_104 ?_
                            refine zg_aload_n X 4 rfl dX11_cut_106 ?_
                            refine zg_iload_n X 3 rfl dX11_cut_107 ?_
                            refine zg_iload_n X 1 rfl dX11_cut_108 ?_
                            refine zg_iadd X dX11_cut_109 (by omega) (by omega) (fun v116 ev116 hv116 => ?_)
                            replace E := zLet_s ev116 E
                            refine zg_cVi (As := [.int v116]) (st := [.long x75]) X ha0 rfl (by decide) rfl (t_X11_byteAt l d L kd κ _ hI a0 ha0 v116  (by omega)) mk_X11_187 mc_X11_byteAt mz_X11 mi_X11_byteAt ml_X11_byteAt (na := 1) ⟨md_X11.1, md_X11.2, by decide +kernel⟩ rfl ⟨by decide, by decide⟩ (Nat.le_of_ble_eq_true rfl) dX11_cut_110 (fun v118 t117 hq => ?_)
                            obtain ⟨⟨hF, ht117_fact0⟩, rfl⟩ := hq
                            replace E := zLet_s hF E
                            refine zg_cSl (As := [.long x75, .int v118]) (st := []) X (t_X11_appends l d L kd _ x75 v118 ) mk_X11_180 mc_X11_appends mz_X11 ms_X11_appends (na := 2) ⟨md_X11.1, md_X11.2, by decide +kernel⟩ rfl ⟨by decide, by decide⟩ (Nat.le_of_ble_eq_true rfl) dX11_cut_113 (fun v119 σ2 hq => ?_)
                            obtain ⟨⟨hF, hv119⟩, rfl⟩ := hq
                            replace E := zLet_s hF E
                            refine zg_lstore X [(4, .long v119), (3, .int x76), (2, .int v12), (1, .int x6), (0, .ref a0)] dX11_cut_116 (by decide) rfl ?_
                            refine zg_iinc X 1 (fun v120 => [(3, .int v120), (4, .long v119), (2, .int v12), (1, .int x6), (0, .ref a0)]) 1 dX11_cut_118 rfl (by decide) (by decide) (by omega) (by omega) (fun _ => rfl) (fun v120 ev120 hv120 => ?_)
                            replace E := zLet_s (zinc ev120 (by decide)) E
                            refine zg_goto X 85 dX11_cut_121 (by decide) ?_
                            refine zg_sub [1, 0, 2, 3, 4] rfl ?_
                            exact ihLp77 _ v119 v120 hI hS gK_Lp77 (by omega) E  (by omega) (by omega) 
                    refine zg_sub [0, 1, 2, 3, 4] rfl ?_
                    exact Lp77 10000 _ v74 v73 hI hS gK_Lp7 (by omega) E  (by omega) (by omega) 
                · skip
                  replace E := zIf_t c25 E
                  refine zg_iinc X 1 (fun v121 => [(1, .int v121), (2, .int v12), (0, .ref a0)]) 1 dX11_cut_67 rfl (by decide) (by decide) (by omega) (by omega) (fun _ => rfl) (fun v121 ev121 hv121 => ?_)
                  replace E := zLet_s (zinc ev121 (by decide)) E
                  refine zg_goto X 291 dX11_cut_70 (by decide) ?_
                  refine zg_goto X 7 dX11_cut_291 (by decide) ?_
                  refine zg_sub [0, 2] rfl ?_
                  exact ihLp7 _ v121 hI hS gK_Lp7 (by omega) E  (by omega) (by omega) 
        · skip
          replace E := zIf_f (Int.not_lt.mpr c14) E
          refine zg_aload_n X 2 rfl dX11_cut_31 ?_
          refine zg_iconst X 0 dX11_cut_32 (by decide) (fun v122 _ hv122 => ?_)
          replace E := zLet_s (zcst hv122 (by decide)) E
          refine zg_aload_n X 2 rfl dX11_cut_33 ?_
          refine fg_X11_175 X hI ha0 dX11_cut_34 (fun v123 ev123 hv123 => ?_)
          replace E := zLet_s ev123 E
          have kv123 : (τ7.1 a0 4).toInt = v123.toInt := by rw [ev123]
          have mv123 : v123.toInt = v13.toInt := by rw [ev123, ← ev13]
          refine zg_iconst X 0 dX11_cut_37 (by decide) (fun v124 _ hv124 => ?_)
          replace E := zLet_s (zcst hv124 (by decide)) E
          refine zg_lconst X dX11_cut_38 (fun v125 ev125 => ?_)
          replace E := zLet_s ev125 E
          refine zg_cVv (As := [.int v122, .int v123, .int v124, .long v125]) (st := []) X ha0 rfl (by decide) rfl (t_X11_token l d L kd κ _ hI a0 ha0 v122 v123 v124 v125  (by omega) (by omega) gK_Lp7) mk_X11_191 mc_X11_token mz_X11 mi_X11_token ml_X11_token (na := 4) ⟨md_X11.1, md_X11.2, by decide +kernel⟩ rfl ⟨by decide, by decide⟩ (Nat.le_of_ble_eq_true rfl) dX11_cut_39 (fun t126 hq => ?_)
          obtain ⟨hF, ⟨ht126_fact0, gKt126⟩, hI, g127⟩ := hq
          replace E := zLet_s hF E
          have ft126_4 : (t126.1 a0 4).toInt = (τ7.1 a0 4).toInt := by rw [g127.2.1 4 (by decide)]
          have hS := hS.tr g127 (by decide) (by decide)
          exact ret _ _ _ dX11_cut_42 ⟨E.symm.trans hR, ⟨gKt126, hI, hS⟩⟩
  refine zg_sub [0, 1] rfl ?_
  exact Lp7 2000000 _ v5 hI hS gKs2 (by omega) E  (by omega) (by omega) 
set_option maxHeartbeats 4000000 in
set_option maxRecDepth 100000 in
theorem t_X11_numberOf (l : Launch) (d : zD2) (L : List Nat) (kd : Nat → Nat) (κ : Int) (σ : zS) (hI : zJ κ L kd σ) (a0 : Nat) (ha0 : zT L kd a0 11) (p1 : Int32) (hq0 : 0 ≤ p1.toInt ∧ p1.toInt ≤ 402) : zMi l yX11_numberOf (Cond.code yX11_numberOf cX11_numberOf 3 (some .int) :: zWL) 0 [.ref a0, .int p1] d L kd σ (fun v σ2 => (v = F_X11_numberOf a0 p1 σ ∧ ((-1 ≤ v.toInt ∧ v.toInt ≤ (σ.1 a0 42).toInt))) ∧ σ = σ2) := by
  refine zMi.of (own := RX11) (by decide +kernel) rfl rfl (Nat.le_of_ble_eq_true rfl) ?_
  intro p e s m args below meth c A Q X ret
  refine zg_lv (lv2 := [(0, .ref a0), (1, .int p1)]) rfl ?_
  have z42 : 0 ≤ (σ.1 a0 42).toInt ∧ (σ.1 a0 42).toInt ≤ 11 := zj_get hI ha0 rfl
  obtain ⟨R, hR⟩ : ∃ R, R = F_X11_numberOf a0 p1 σ := ⟨_, rfl⟩
  have E := hR
  unfold F_X11_numberOf at E
  refine zg_aload_n X 0 rfl dX11_numberOf_0 ?_
  refine fg_X11_248 X hI ha0 dX11_numberOf_1 (fun v1 ev1 hv1 => ?_)
  replace E := zLet_s ev1 E
  refine zg_if_eq X 25 dX11_numberOf_4 (by decide) (fun c2 => ?_) (fun c2 => ?_)
  · skip
    replace E := zIf_t c2 E
    refine zg_iconst X 1 dX11_numberOf_25 (by decide) (fun v3 _ hv3 => ?_)
    replace E := zLet_s (zcst hv3 (by decide)) E
    refine zg_istore_n X [(2, .int v3), (0, .ref a0), (1, .int p1)] dX11_numberOf_26 (by decide) rfl ?_
    have Lp5 : ∀ (nLp5 : Nat) (x4 : Int32), R = F_X11_numberOf_27 a0 p1 σ  nLp5 x4 → 1 ≤ x4.toInt ∧ x4.toInt ≤ 12 → (12) - x4.toInt + 1 < (nLp5 : Int) → zG d L kd A 3 p l e (k2_rm 0 (100 * 0)) s m args below meth c Q σ 27 [(2, .int x4), (0, .ref a0), (1, .int p1)] [] := by
      intro nLp5
      induction nLp5 with
      | zero => intro x4  E  hxLp5 hm ; exact absurd hm (by omega)
      | succ nLp5 ihLp5 =>
        intro x4  E  hxLp5 hmLp5 
        rw [F_X11_numberOf_27] at E
        refine zg_iload_n X 0 rfl dX11_numberOf_27 ?_
        refine zg_aload_n X 1 rfl dX11_numberOf_28 ?_
        refine fg_X11_252 X hI ha0 dX11_numberOf_29 (fun v6 ev6 hv6 => ?_)
        replace E := zLet_s ev6 E
        have kv6 : (σ.1 a0 42).toInt = v6.toInt := by rw [ev6]
        refine zg_icmp_gt X 59 dX11_numberOf_32 (by decide) (fun c7 => ?_) (fun c7 => ?_)
        · skip
          replace E := zIf_t c7 E
          refine zg_iconst X (-1) dX11_numberOf_59 (by decide) (fun v8 _ hv8 => ?_)
          replace E := zLet_s (zcst hv8 (by decide)) E
          exact ret _ _ _ _ dX11_numberOf_60 rfl ⟨⟨E.symm.trans hR, (by omega)⟩, rfl⟩
        · skip
          replace E := zIf_f (Int.not_lt.mpr c7) E
          refine zg_aload_n X 1 rfl dX11_numberOf_35 ?_
          refine fg_X11_40 X hI ha0 dX11_numberOf_36 (fun v9 ev9 hv9 => ?_)
          replace E := zLet_s (zgr ev9) E
          refine zg_iload_n X 0 rfl dX11_numberOf_39 ?_
          refine ag_120 X hv9 (by omega) (by omega) dX11_numberOf_40 (fun v10 ev10 => ?_)
          replace E := zLet_s ev10 E
          refine zg_aload_n X 1 rfl dX11_numberOf_41 ?_
          refine fg_X11_30 X hI ha0 dX11_numberOf_42 (fun v11 ev11 hv11 => ?_)
          replace E := zLet_s (zgr ev11) E
          refine zg_iload_n X 2 rfl dX11_numberOf_45 ?_
          refine ag_108 X hv11 (by omega) (by omega) dX11_numberOf_46 (fun v12 ev12 => ?_)
          replace E := zLet_s ev12 E
          refine zg_lcmp X dX11_numberOf_47 (fun v13 ev13 => ?_)
          replace E := zLet_s ev13 E
          refine zg_if_ne X 53 dX11_numberOf_48 (by decide) (fun c14 => ?_) (fun c14 => ?_)
          · skip
            replace E := zIf_f c14 E
            refine zg_iinc X 1 (fun v15 => [(2, .int v15), (0, .ref a0), (1, .int p1)]) 0 dX11_numberOf_53 rfl (by decide) (by decide) (by omega) (by omega) (fun _ => rfl) (fun v15 ev15 hv15 => ?_)
            replace E := zLet_s (zinc ev15 (by decide)) E
            refine zg_goto X 27 dX11_numberOf_56 (by decide) ?_
            refine zg_sub [0, 1, 2] rfl ?_
            exact ihLp5 v15   E  (by omega) (by omega) 
          · skip
            replace E := zIf_t c14 E
            refine zg_iload_n X 0 rfl dX11_numberOf_51 ?_
            exact ret _ _ _ _ dX11_numberOf_52 rfl ⟨⟨E.symm.trans hR, (by omega)⟩, rfl⟩
    refine zg_sub [0, 1, 2] rfl ?_
    exact Lp5 10000 v3   E  (by omega) (by omega) 
  · skip
    replace E := zIf_f c2 E
    refine zg_aload_n X 0 rfl dX11_numberOf_7 ?_
    refine fg_X11_40 X hI ha0 dX11_numberOf_8 (fun v16 ev16 hv16 => ?_)
    replace E := zLet_s (zgr ev16) E
    refine zg_iconst X 0 dX11_numberOf_11 (by decide) (fun v17 _ hv17 => ?_)
    replace E := zLet_s (zcst hv17 (by decide)) E
    refine ag_120 X hv16 (by omega) (by omega) dX11_numberOf_12 (fun v18 ev18 => ?_)
    replace E := zLet_s ev18 E
    refine zg_aload_n X 0 rfl dX11_numberOf_13 ?_
    refine fg_X11_30 X hI ha0 dX11_numberOf_14 (fun v19 ev19 hv19 => ?_)
    replace E := zLet_s (zgr ev19) E
    refine zg_iload_n X 1 rfl dX11_numberOf_17 ?_
    refine ag_108 X hv19 (by omega) (by omega) dX11_numberOf_18 (fun v20 ev20 => ?_)
    replace E := zLet_s ev20 E
    refine zg_lcmp X dX11_numberOf_19 (fun v21 ev21 => ?_)
    replace E := zLet_s ev21 E
    refine zg_if_ne X 25 dX11_numberOf_20 (by decide) (fun c22 => ?_) (fun c22 => ?_)
    · skip
      replace E := zIf_f c22 E
      refine zg_iconst X 1 dX11_numberOf_25 (by decide) (fun v23 _ hv23 => ?_)
      replace E := zLet_s (zcst hv23 (by decide)) E
      refine zg_istore_n X [(2, .int v23), (0, .ref a0), (1, .int p1)] dX11_numberOf_26 (by decide) rfl ?_
      have Lp25 : ∀ (nLp25 : Nat) (x24 : Int32), R = F_X11_numberOf_27_1 a0 p1 σ  nLp25 x24 → 1 ≤ x24.toInt ∧ x24.toInt ≤ 12 → (12) - x24.toInt + 1 < (nLp25 : Int) → zG d L kd A 3 p l e (k2_rm 0 (100 * 0)) s m args below meth c Q σ 27 [(2, .int x24), (0, .ref a0), (1, .int p1)] [] := by
        intro nLp25
        induction nLp25 with
        | zero => intro x24  E  hxLp25 hm ; exact absurd hm (by omega)
        | succ nLp25 ihLp25 =>
          intro x24  E  hxLp25 hmLp25 
          rw [F_X11_numberOf_27_1] at E
          refine zg_iload_n X 0 rfl dX11_numberOf_27 ?_
          refine zg_aload_n X 1 rfl dX11_numberOf_28 ?_
          refine fg_X11_252 X hI ha0 dX11_numberOf_29 (fun v26 ev26 hv26 => ?_)
          replace E := zLet_s ev26 E
          have kv26 : (σ.1 a0 42).toInt = v26.toInt := by rw [ev26]
          refine zg_icmp_gt X 59 dX11_numberOf_32 (by decide) (fun c27 => ?_) (fun c27 => ?_)
          · skip
            replace E := zIf_t c27 E
            refine zg_iconst X (-1) dX11_numberOf_59 (by decide) (fun v28 _ hv28 => ?_)
            replace E := zLet_s (zcst hv28 (by decide)) E
            exact ret _ _ _ _ dX11_numberOf_60 rfl ⟨⟨E.symm.trans hR, (by omega)⟩, rfl⟩
          · skip
            replace E := zIf_f (Int.not_lt.mpr c27) E
            refine zg_aload_n X 1 rfl dX11_numberOf_35 ?_
            refine fg_X11_40 X hI ha0 dX11_numberOf_36 (fun v29 ev29 hv29 => ?_)
            replace E := zLet_s (zgr ev29) E
            refine zg_iload_n X 0 rfl dX11_numberOf_39 ?_
            refine ag_120 X hv29 (by omega) (by omega) dX11_numberOf_40 (fun v30 ev30 => ?_)
            replace E := zLet_s ev30 E
            refine zg_aload_n X 1 rfl dX11_numberOf_41 ?_
            refine fg_X11_30 X hI ha0 dX11_numberOf_42 (fun v31 ev31 hv31 => ?_)
            replace E := zLet_s (zgr ev31) E
            refine zg_iload_n X 2 rfl dX11_numberOf_45 ?_
            refine ag_108 X hv31 (by omega) (by omega) dX11_numberOf_46 (fun v32 ev32 => ?_)
            replace E := zLet_s ev32 E
            refine zg_lcmp X dX11_numberOf_47 (fun v33 ev33 => ?_)
            replace E := zLet_s ev33 E
            refine zg_if_ne X 53 dX11_numberOf_48 (by decide) (fun c34 => ?_) (fun c34 => ?_)
            · skip
              replace E := zIf_f c34 E
              refine zg_iinc X 1 (fun v35 => [(2, .int v35), (0, .ref a0), (1, .int p1)]) 0 dX11_numberOf_53 rfl (by decide) (by decide) (by omega) (by omega) (fun _ => rfl) (fun v35 ev35 hv35 => ?_)
              replace E := zLet_s (zinc ev35 (by decide)) E
              refine zg_goto X 27 dX11_numberOf_56 (by decide) ?_
              refine zg_sub [0, 1, 2] rfl ?_
              exact ihLp25 v35   E  (by omega) (by omega) 
            · skip
              replace E := zIf_t c34 E
              refine zg_iload_n X 0 rfl dX11_numberOf_51 ?_
              exact ret _ _ _ _ dX11_numberOf_52 rfl ⟨⟨E.symm.trans hR, (by omega)⟩, rfl⟩
      refine zg_sub [0, 1, 2] rfl ?_
      exact Lp25 10000 v23   E  (by omega) (by omega) 
    · skip
      replace E := zIf_t c22 E
      refine zg_iconst X 0 dX11_numberOf_23 (by decide) (fun v36 _ hv36 => ?_)
      replace E := zLet_s (zcst hv36 (by decide)) E
      exact ret _ _ _ _ dX11_numberOf_24 rfl ⟨⟨E.symm.trans hR, (by omega)⟩, rfl⟩
set_option maxHeartbeats 4000000 in
set_option maxRecDepth 100000 in
theorem t_X11_named (l : Launch) (d : zD2) (L : List Nat) (kd : Nat → Nat) (κ : Int) (σ : zS) (hI : zJ κ L kd σ) (a0 : Nat) (ha0 : zT L kd a0 11) : zMi l yX11_named (Cond.code yX11_named cX11_named 2 (some .int) :: zWL) 3 [.ref a0] d L kd σ (fun v σ2 => (v, σ2) = F_X11_named a0 σ ∧ ((((0 ≤ v.toInt ∧ v.toInt ≤ 400)) ∧ (v.toInt = (σ.1 a0 11).toInt) ∧ (((0 < (σ2.1 a0 13).toInt ∧ (σ.1 a0 11).toInt ≤ (σ2.1 a0 11).toInt ∧ (σ2.1 a0 11).toInt ≤ (σ.1 a0 11).toInt + 1) ∨ ((σ.1 a0 13).toInt = 0 ∧ (σ2.1 a0 13).toInt = 0 ∧ (σ2.1 a0 11).toInt = (σ.1 a0 11).toInt + 1))) ∧ (((1 ≤ (σ.1 a0 15).toInt → 1 ≤ (σ2.1 a0 15).toInt) ∧ (0 ≤ (σ.1 a0 15).toInt → 0 ≤ (σ2.1 a0 15).toInt)))) ∧ zJ κ L kd σ2 ∧ zSame a0 [11, 13, 14, 15, 16] [] L kd σ σ2)) := by
  refine zMi.of (own := RX11) (by decide +kernel) rfl rfl (Nat.le_of_ble_eq_true rfl) ?_
  intro p e s m args below meth c A Q X ret
  have hS : zSame a0 [11, 13, 14, 15, 16] [] L kd σ σ := zSame.rf
  refine zg_lv (lv2 := [(0, .ref a0)]) rfl ?_
  obtain ⟨R, hR⟩ : ∃ R, R = F_X11_named a0 σ := ⟨_, rfl⟩
  have E := hR
  unfold F_X11_named at E
  refine zg_aload_n X 0 rfl dX11_named_0 ?_
  refine fg_X11_209 X hI ha0 dX11_named_1 (fun v1 ev1 hv1 => ?_)
  replace E := zLet_s ev1 E
  have kv1 : (σ.1 a0 11).toInt = v1.toInt := by rw [ev1]
  refine zg_istore_n X [(1, .int v1), (0, .ref a0)] dX11_named_4 (by decide) rfl ?_
  refine zg_aload_n X 1 rfl dX11_named_5 ?_
  refine zg_iconst X 1 dX11_named_6 (by decide) (fun v2 _ hv2 => ?_)
  replace E := zLet_s (zcst hv2 (by decide)) E
  refine zg_cVv (As := [.int v2]) (st := []) X ha0 rfl (by decide) rfl (t_X11_must l d L kd κ _ hI a0 ha0 v2  ) mk_X11_274 mc_X11_must mz_X11 mi_X11_must ml_X11_must (na := 1) ⟨md_X11.1, md_X11.2, by decide +kernel⟩ rfl ⟨by decide, by decide⟩ (Nat.le_of_ble_eq_true rfl) dX11_named_7 (fun t3 hq => ?_)
  obtain ⟨hF, ht3_fact0, hI, g4⟩ := hq
  replace E := zLet_s hF E
  have ft3_15 : (t3.1 a0 15).toInt = (σ.1 a0 15).toInt := by rw [g4.2.1 15 (by decide)]
  have hS := hS.tr g4 (by decide) (by decide)
  refine zg_aload_n X 1 rfl dX11_named_10 ?_
  refine fg_X11_206 X hI ha0 dX11_named_11 (fun v5 ev5 hv5 => ?_)
  replace E := zLet_s ev5 E
  have kv5 : (t3.1 a0 13).toInt = v5.toInt := by rw [ev5]
  refine zg_if_ne X 31 dX11_named_14 (by decide) (fun c6 => ?_) (fun c6 => ?_)
  · skip
    replace E := zIf_f c6 E
    refine zg_iload_n X 0 rfl dX11_named_31 ?_
    exact ret _ _ _ _ dX11_named_32 rfl ⟨E.symm.trans hR, ⟨⟨⟨by omega, by omega⟩, (by omega), (by omega), (by omega)⟩, hI, hS⟩⟩
  · skip
    replace E := zIf_t c6 E
    refine zg_aload_n X 1 rfl dX11_named_17 ?_
    refine zg_iload_n X 0 rfl dX11_named_18 ?_
    refine zg_cVi (As := [.int v1]) (st := []) X ha0 rfl (by decide) rfl (t_X11_numberOf l d L kd κ _ hI a0 ha0 v1  (by omega)) mk_X11_280 mc_X11_numberOf mz_X11 mi_X11_numberOf ml_X11_numberOf (na := 1) ⟨md_X11.1, md_X11.2, by decide +kernel⟩ rfl ⟨by decide, by decide⟩ (Nat.le_of_ble_eq_true rfl) dX11_named_19 (fun v8 t7 hq => ?_)
    obtain ⟨⟨hF, ht7_fact0⟩, rfl⟩ := hq
    replace E := zLet_s hF E
    refine zg_if_lt X 31 dX11_named_22 (by decide) (fun c9 => ?_) (fun c9 => ?_)
    · skip
      replace E := zIf_t c9 E
      refine zg_iload_n X 0 rfl dX11_named_31 ?_
      exact ret _ _ _ _ dX11_named_32 rfl ⟨E.symm.trans hR, ⟨⟨⟨by omega, by omega⟩, (by omega), (by omega), (by omega)⟩, hI, hS⟩⟩
    · skip
      replace E := zIf_f (Int.not_lt.mpr c9) E
      refine zg_aload_n X 1 rfl dX11_named_25 ?_
      refine zg_iconst X 3 dX11_named_26 (by decide) (fun v10 _ hv10 => ?_)
      replace E := zLet_s (zcst hv10 (by decide)) E
      refine zg_iload_n X 0 rfl dX11_named_27 ?_
      refine zg_cVv (As := [.int v10, .int v1]) (st := []) X ha0 rfl (by decide) rfl (t_X11_wrong l d L kd κ _ hI a0 ha0 v10 v1  (by omega) (by omega)) mk_X11_283 mc_X11_wrong mz_X11 mi_X11_wrong ml_X11_wrong (na := 2) ⟨md_X11.1, md_X11.2, by decide +kernel⟩ rfl ⟨by decide, by decide⟩ (Nat.le_of_ble_eq_true rfl) dX11_named_28 (fun t11 hq => ?_)
      obtain ⟨hF, ⟨ht11_fact0, ht11_fact1⟩, hI, g12⟩ := hq
      replace E := zLet_s hF E
      have ft11_11 : (t11.1 a0 11).toInt = (t3.1 a0 11).toInt := by rw [g12.2.1 11 (by decide)]
      have ft11_13 : (t11.1 a0 13).toInt = (t3.1 a0 13).toInt := by rw [g12.2.1 13 (by decide)]
      have hS := hS.tr g12 (by decide) (by decide)
      refine zg_iload_n X 0 rfl dX11_named_31 ?_
      exact ret _ _ _ _ dX11_named_32 rfl ⟨E.symm.trans hR, ⟨⟨⟨by omega, by omega⟩, (by omega), (by omega), (by omega)⟩, hI, hS⟩⟩
set_option maxHeartbeats 4000000 in
set_option maxRecDepth 100000 in
theorem t_X11_bounded (l : Launch) (d : zD2) (L : List Nat) (kd : Nat → Nat) (κ : Int) (σ : zS) (hI : zJ κ L kd σ) (a0 : Nat) (ha0 : zT L kd a0 11) (p1 : Int32) (p2 : Int32) : zMi l yX11_bounded (Cond.code yX11_bounded cX11_bounded 4 (some .int) :: zWL) 2 [.ref a0, .int p1, .int p2] d L kd σ (fun v σ2 => (v, σ2) = F_X11_bounded a0 p1 p2 σ ∧ (((((0 < (σ2.1 a0 13).toInt ∧ (σ.1 a0 11).toInt ≤ (σ2.1 a0 11).toInt ∧ (σ2.1 a0 11).toInt ≤ (σ.1 a0 11).toInt + 1) ∨ ((σ.1 a0 13).toInt = 0 ∧ (σ2.1 a0 13).toInt = 0 ∧ (σ2.1 a0 11).toInt = (σ.1 a0 11).toInt + 1))) ∧ (((1 ≤ (σ.1 a0 15).toInt → 1 ≤ (σ2.1 a0 15).toInt) ∧ (0 ≤ (σ.1 a0 15).toInt → 0 ≤ (σ2.1 a0 15).toInt)))) ∧ zJ κ L kd σ2 ∧ zSame a0 [11, 13, 14, 15, 16] [] L kd σ σ2)) := by
  refine zMi.of (own := RX11) (by decide +kernel) rfl rfl (Nat.le_of_ble_eq_true rfl) ?_
  intro p e s m args below meth c A Q X ret
  have hS : zSame a0 [11, 13, 14, 15, 16] [] L kd σ σ := zSame.rf
  refine zg_lv (lv2 := [(0, .ref a0), (1, .int p1), (2, .int p2)]) rfl ?_
  obtain ⟨R, hR⟩ : ∃ R, R = F_X11_bounded a0 p1 p2 σ := ⟨_, rfl⟩
  have E := hR
  unfold F_X11_bounded at E
  refine zg_aload_n X 0 rfl dX11_bounded_0 ?_
  refine fg_X11_206 X hI ha0 dX11_bounded_1 (fun v1 ev1 hv1 => ?_)
  replace E := zLet_s ev1 E
  have kv1 : (σ.1 a0 13).toInt = v1.toInt := by rw [ev1]
  refine zg_if_gt X 15 dX11_bounded_4 (by decide) (fun c2 => ?_) (fun c2 => ?_)
  · skip
    replace E := zIf_t c2 E
    refine zg_aload_n X 0 rfl dX11_bounded_15 ?_
    refine zg_iconst X 1 dX11_bounded_16 (by decide) (fun v3 _ hv3 => ?_)
    replace E := zLet_s (zcst hv3 (by decide)) E
    refine zg_cVv (As := [.int v3]) (st := []) X ha0 rfl (by decide) rfl (t_X11_fail l d L kd κ _ hI a0 ha0 v3  (by omega)) mk_X11_221 mc_X11_fail mz_X11 mi_X11_fail ml_X11_fail (na := 1) ⟨md_X11.1, md_X11.2, by decide +kernel⟩ rfl ⟨by decide, by decide⟩ (Nat.le_of_ble_eq_true rfl) dX11_bounded_17 (fun t4 hq => ?_)
    obtain ⟨hF, ht4_fact0, hI, g5⟩ := hq
    replace E := zLet_s hF E
    have ft4_11 : (t4.1 a0 11).toInt = (σ.1 a0 11).toInt := by rw [g5.2.1 11 (by decide)]
    have ft4_15 : (t4.1 a0 15).toInt = (σ.1 a0 15).toInt := by rw [g5.2.1 15 (by decide)]
    have hS := hS.tr g5 (by decide) (by decide)
    refine zg_iload_n X 1 rfl dX11_bounded_20 ?_
    exact ret _ _ _ _ dX11_bounded_21 rfl ⟨E.symm.trans hR, ⟨⟨(by omega), (by omega)⟩, hI, hS⟩⟩
  · skip
    replace E := zIf_f (Int.not_lt.mpr c2) E
    refine zg_aload_n X 0 rfl dX11_bounded_7 ?_
    refine zg_iconst X 2 dX11_bounded_8 (by decide) (fun v6 _ hv6 => ?_)
    replace E := zLet_s (zcst hv6 (by decide)) E
    refine zg_cVi (As := [.int v6]) (st := []) X ha0 rfl (by decide) rfl (t_X11_is l d L kd κ _ hI a0 ha0 v6  ) mk_X11_224 mc_X11_is mz_X11 mi_X11_is ml_X11_is (na := 1) ⟨md_X11.1, md_X11.2, by decide +kernel⟩ rfl ⟨by decide, by decide⟩ (Nat.le_of_ble_eq_true rfl) dX11_bounded_9 (fun v8 t7 hq => ?_)
    obtain ⟨⟨hF, ⟨ht7_res, ht7_fact0⟩⟩, rfl⟩ := hq
    replace E := zLet_s hF E
    refine zg_if_ne X 22 dX11_bounded_12 (by decide) (fun c9 => ?_) (fun c9 => ?_)
    · skip
      replace E := zIf_f c9 E
      refine zg_aload_n X 0 rfl dX11_bounded_22 ?_
      refine fg_X11_27 X hI ha0 dX11_bounded_23 (fun v10 ev10 hv10 => ?_)
      replace E := zLet_s (zgr ev10) E
      refine zg_aload_n X 0 rfl dX11_bounded_26 ?_
      refine fg_X11_209 X hI ha0 dX11_bounded_27 (fun v11 ev11 hv11 => ?_)
      replace E := zLet_s ev11 E
      have kv11 : (σ.1 a0 11).toInt = v11.toInt := by rw [ev11]
      refine ag_107 X hI hv10 (by omega) (by omega) dX11_bounded_30 (fun v12 ev12 _ => ?_)
      replace E := zLet_s ev12 E
      refine zg_istore_n X [(3, .int v12), (0, .ref a0), (1, .int p1), (2, .int p2)] dX11_bounded_31 (by decide) rfl ?_
      refine zg_iload_n X 0 rfl dX11_bounded_32 ?_
      refine zg_iload_n X 2 rfl dX11_bounded_33 ?_
      have zv12_z13 := zb_rng v12
      have zp1_z14 := zb_rng p1
      refine zg_icmp_lt X 42 dX11_bounded_34 (by decide) (fun c15 => ?_) (fun c15 => ?_)
      · skip
        replace E := zIf_t c15 E
        refine zg_aload_n X 1 rfl dX11_bounded_42 ?_
        refine zg_iconst X 5 dX11_bounded_43 (by decide) (fun v16 _ hv16 => ?_)
        replace E := zLet_s (zcst hv16 (by decide)) E
        refine zg_aload_n X 1 rfl dX11_bounded_44 ?_
        refine fg_X11_209 X hI ha0 dX11_bounded_45 (fun v17 ev17 hv17 => ?_)
        replace E := zLet_s ev17 E
        have kv17 : (σ.1 a0 11).toInt = v17.toInt := by rw [ev17]
        have mv17 : v17.toInt = v11.toInt := by rw [ev17, ← ev11]
        refine zg_cVv (As := [.int v16, .int v17]) (st := []) X ha0 rfl (by decide) rfl (t_X11_wrong l d L kd κ _ hI a0 ha0 v16 v17  (by omega) (by omega)) mk_X11_283 mc_X11_wrong mz_X11 mi_X11_wrong ml_X11_wrong (na := 2) ⟨md_X11.1, md_X11.2, by decide +kernel⟩ rfl ⟨by decide, by decide⟩ (Nat.le_of_ble_eq_true rfl) dX11_bounded_48 (fun t18 hq => ?_)
        obtain ⟨hF, ⟨ht18_fact0, ht18_fact1⟩, hI, g19⟩ := hq
        replace E := zLet_s hF E
        have ft18_11 : (t18.1 a0 11).toInt = (σ.1 a0 11).toInt := by rw [g19.2.1 11 (by decide)]
        have ft18_13 : (t18.1 a0 13).toInt = (σ.1 a0 13).toInt := by rw [g19.2.1 13 (by decide)]
        have hS := hS.tr g19 (by decide) (by decide)
        refine zg_aload_n X 1 rfl dX11_bounded_51 ?_
        refine zg_cVv (As := []) (st := []) X ha0 rfl (by decide) rfl (t_X11_goesOn l d L kd κ _ hI a0 ha0   ) mk_X11_227 mc_X11_goesOn mz_X11 mi_X11_goesOn ml_X11_goesOn (na := 0) ⟨md_X11.1, md_X11.2, by decide +kernel⟩ rfl ⟨by decide, by decide⟩ (Nat.le_of_ble_eq_true rfl) dX11_bounded_52 (fun t22 hq => ?_)
        obtain ⟨hF, ht22_fact0, hI, g23⟩ := hq
        replace E := zLet_s hF E
        have ft22_15 : (t22.1 a0 15).toInt = (t18.1 a0 15).toInt := by rw [g23.2.1 15 (by decide)]
        have hS := hS.tr g23 (by decide) (by decide)
        refine zg_iload_n X 0 rfl dX11_bounded_55 ?_
        exact ret _ _ _ _ dX11_bounded_56 rfl ⟨E.symm.trans hR, ⟨⟨(by omega), (by omega)⟩, hI, hS⟩⟩
      · skip
        replace E := zIf_f (Int.not_lt.mpr c15) E
        refine zg_iload_n X 0 rfl dX11_bounded_37 ?_
        refine zg_iload_n X 3 rfl dX11_bounded_38 ?_
        have zv12_z24 := zb_rng v12
        have zp2_z25 := zb_rng p2
        refine zg_icmp_le X 51 dX11_bounded_39 (by decide) (fun c26 => ?_) (fun c26 => ?_)
        · skip
          replace E := zIf_f (Int.not_lt.mpr c26) E
          refine zg_aload_n X 1 rfl dX11_bounded_51 ?_
          refine zg_cVv (As := []) (st := []) X ha0 rfl (by decide) rfl (t_X11_goesOn l d L kd κ _ hI a0 ha0   ) mk_X11_227 mc_X11_goesOn mz_X11 mi_X11_goesOn ml_X11_goesOn (na := 0) ⟨md_X11.1, md_X11.2, by decide +kernel⟩ rfl ⟨by decide, by decide⟩ (Nat.le_of_ble_eq_true rfl) dX11_bounded_52 (fun t27 hq => ?_)
          obtain ⟨hF, ht27_fact0, hI, g28⟩ := hq
          replace E := zLet_s hF E
          have ft27_15 : (t27.1 a0 15).toInt = (σ.1 a0 15).toInt := by rw [g28.2.1 15 (by decide)]
          have hS := hS.tr g28 (by decide) (by decide)
          refine zg_iload_n X 0 rfl dX11_bounded_55 ?_
          exact ret _ _ _ _ dX11_bounded_56 rfl ⟨E.symm.trans hR, ⟨⟨(by omega), (by omega)⟩, hI, hS⟩⟩
        · skip
          replace E := zIf_t c26 E
          refine zg_aload_n X 1 rfl dX11_bounded_42 ?_
          refine zg_iconst X 5 dX11_bounded_43 (by decide) (fun v29 _ hv29 => ?_)
          replace E := zLet_s (zcst hv29 (by decide)) E
          refine zg_aload_n X 1 rfl dX11_bounded_44 ?_
          refine fg_X11_209 X hI ha0 dX11_bounded_45 (fun v30 ev30 hv30 => ?_)
          replace E := zLet_s ev30 E
          have kv30 : (σ.1 a0 11).toInt = v30.toInt := by rw [ev30]
          have mv30 : v30.toInt = v11.toInt := by rw [ev30, ← ev11]
          refine zg_cVv (As := [.int v29, .int v30]) (st := []) X ha0 rfl (by decide) rfl (t_X11_wrong l d L kd κ _ hI a0 ha0 v29 v30  (by omega) (by omega)) mk_X11_283 mc_X11_wrong mz_X11 mi_X11_wrong ml_X11_wrong (na := 2) ⟨md_X11.1, md_X11.2, by decide +kernel⟩ rfl ⟨by decide, by decide⟩ (Nat.le_of_ble_eq_true rfl) dX11_bounded_48 (fun t31 hq => ?_)
          obtain ⟨hF, ⟨ht31_fact0, ht31_fact1⟩, hI, g32⟩ := hq
          replace E := zLet_s hF E
          have ft31_11 : (t31.1 a0 11).toInt = (σ.1 a0 11).toInt := by rw [g32.2.1 11 (by decide)]
          have ft31_13 : (t31.1 a0 13).toInt = (σ.1 a0 13).toInt := by rw [g32.2.1 13 (by decide)]
          have hS := hS.tr g32 (by decide) (by decide)
          refine zg_aload_n X 1 rfl dX11_bounded_51 ?_
          refine zg_cVv (As := []) (st := []) X ha0 rfl (by decide) rfl (t_X11_goesOn l d L kd κ _ hI a0 ha0   ) mk_X11_227 mc_X11_goesOn mz_X11 mi_X11_goesOn ml_X11_goesOn (na := 0) ⟨md_X11.1, md_X11.2, by decide +kernel⟩ rfl ⟨by decide, by decide⟩ (Nat.le_of_ble_eq_true rfl) dX11_bounded_52 (fun t35 hq => ?_)
          obtain ⟨hF, ht35_fact0, hI, g36⟩ := hq
          replace E := zLet_s hF E
          have ft35_15 : (t35.1 a0 15).toInt = (t31.1 a0 15).toInt := by rw [g36.2.1 15 (by decide)]
          have hS := hS.tr g36 (by decide) (by decide)
          refine zg_iload_n X 0 rfl dX11_bounded_55 ?_
          exact ret _ _ _ _ dX11_bounded_56 rfl ⟨E.symm.trans hR, ⟨⟨(by omega), (by omega)⟩, hI, hS⟩⟩
    · skip
      replace E := zIf_t c9 E
      refine zg_aload_n X 0 rfl dX11_bounded_15 ?_
      refine zg_iconst X 1 dX11_bounded_16 (by decide) (fun v37 _ hv37 => ?_)
      replace E := zLet_s (zcst hv37 (by decide)) E
      refine zg_cVv (As := [.int v37]) (st := []) X ha0 rfl (by decide) rfl (t_X11_fail l d L kd κ _ hI a0 ha0 v37  (by omega)) mk_X11_221 mc_X11_fail mz_X11 mi_X11_fail ml_X11_fail (na := 1) ⟨md_X11.1, md_X11.2, by decide +kernel⟩ rfl ⟨by decide, by decide⟩ (Nat.le_of_ble_eq_true rfl) dX11_bounded_17 (fun t38 hq => ?_)
      obtain ⟨hF, ht38_fact0, hI, g39⟩ := hq
      replace E := zLet_s hF E
      have ft38_11 : (t38.1 a0 11).toInt = (σ.1 a0 11).toInt := by rw [g39.2.1 11 (by decide)]
      have ft38_15 : (t38.1 a0 15).toInt = (σ.1 a0 15).toInt := by rw [g39.2.1 15 (by decide)]
      have hS := hS.tr g39 (by decide) (by decide)
      refine zg_iload_n X 1 rfl dX11_bounded_20 ?_
      exact ret _ _ _ _ dX11_bounded_21 rfl ⟨E.symm.trans hR, ⟨⟨(by omega), (by omega)⟩, hI, hS⟩⟩
set_option maxHeartbeats 4000000 in
set_option maxRecDepth 100000 in
theorem t_X11_emit (l : Launch) (d : zD2) (L : List Nat) (kd : Nat → Nat) (κ : Int) (σ : zS) (hI : zJ κ L kd σ) (a0 : Nat) (ha0 : zT L kd a0 11) (p1 : Int32) (p2 : Int32) (hq0 : (σ.1 a0 38).toInt ≤ 839) : zMv l yX11_emit (Cond.code yX11_emit cX11_emit 3 none :: zWL) 0 [.ref a0, .int p1, .int p2] d L kd σ (fun σ2 => σ2 = F_X11_emit a0 p1 p2 σ ∧ ((((σ2.1 a0 38).toInt = (σ.1 a0 38).toInt + 1) ∧ ((∀ j : Int, 0 ≤ j → zp a0 σ2 39 j = if j = (σ.1 a0 38).toInt then p1.toInt else zp a0 σ 39 j)) ∧ ((∀ j : Int, 0 ≤ j → zp a0 σ2 40 j = if j = (σ.1 a0 38).toInt then p2.toInt else zp a0 σ 40 j))) ∧ zJ κ L kd σ2 ∧ zSame a0 [38] [139, 140] L kd σ σ2)) := by
  refine zMv.of (own := RX11) (by decide +kernel) rfl rfl (Nat.le_of_ble_eq_true rfl) ?_
  intro p e s m args below meth c A Q X ret
  have hS : zSame a0 [38] [139, 140] L kd σ σ := zSame.rf
  refine zg_lv (lv2 := [(0, .ref a0), (1, .int p1), (2, .int p2)]) rfl ?_
  obtain ⟨R, hR⟩ : ∃ R, R = F_X11_emit a0 p1 p2 σ := ⟨_, rfl⟩
  have E := hR
  unfold F_X11_emit at E
  refine zg_aload_n X 0 rfl dX11_emit_0 ?_
  refine fg_X11_92 X hI ha0 dX11_emit_1 (fun v1 ev1 hv1 => ?_)
  replace E := zLet_s (zgr ev1) E
  refine zg_aload_n X 0 rfl dX11_emit_4 ?_
  refine fg_X11_245 X hI ha0 dX11_emit_5 (fun v2 ev2 hv2 => ?_)
  replace E := zLet_s ev2 E
  have kv2 : (σ.1 a0 38).toInt = v2.toInt := by rw [ev2]
  refine zg_iload_n X 1 rfl dX11_emit_8 ?_
  refine as_139 X hI hv1 (by omega) (by omega) dX11_emit_9 (fun s3 es3 hI => ?_)
  replace E := zLet_s es3 E
  have g4 := (zSame.rf (o := a0) (Wf := []) (Wa := [139]) (L := L) (kd := kd) (σ := σ)).a ha0 hv1 es3 rfl (by decide)
  have rs3 := zp_st (σ := σ) (σ2 := s3) (i := v2) (x := p1) ev1 es3 (by omega)
  have ws3 := rs3
  rw [← kv2] at ws3
  have fs3_38 : (s3.1 a0 38).toInt = (σ.1 a0 38).toInt := by rw [g4.2.1 38 (by decide)]
  have hS := hS.tr g4 (by decide) (by decide)
  have as3_40 := zp_same hI ha0 g4 40 rfl (by decide) (by decide)
  have e5 := g4.v ev2 (by decide)
  refine zg_aload_n X 0 rfl dX11_emit_10 ?_
  refine fg_X11_95 X hI ha0 dX11_emit_11 (fun v6 ev6 hv6 => ?_)
  replace E := zLet_s (zgr ev6) E
  refine zg_aload_n X 0 rfl dX11_emit_14 ?_
  refine fg_X11_245 X hI ha0 dX11_emit_15 (fun v7 ev7 hv7 => ?_)
  replace E := zLet_s ev7 E
  have kv7 : (s3.1 a0 38).toInt = v7.toInt := by rw [ev7]
  have mv7 : v7.toInt = v2.toInt := by rw [ev7, ← e5]
  refine zg_iload_n X 2 rfl dX11_emit_18 ?_
  refine as_140 X hI hv6 (by omega) (by omega) dX11_emit_19 (fun s8 es8 hI => ?_)
  replace E := zLet_s es8 E
  have g9 := (zSame.rf (o := a0) (Wf := []) (Wa := [140]) (L := L) (kd := kd) (σ := s3)).a ha0 hv6 es8 rfl (by decide)
  have rs8 := zp_st (σ := s3) (σ2 := s8) (i := v7) (x := p2) ev6 es8 (by omega)
  have ws8 := rs8
  rw [as3_40] at ws8
  rw [← kv7] at ws8
  have fs8_38 : (s8.1 a0 38).toInt = (s3.1 a0 38).toInt := by rw [g9.2.1 38 (by decide)]
  have hS := hS.tr g9 (by decide) (by decide)
  have as8_39 := zp_same hI ha0 g9 39 rfl (by decide) (by decide)
  have e10 := g9.v ev7 (by decide)
  refine zg_aload_n X 0 rfl dX11_emit_20 ?_
  refine zg_dup X dX11_emit_21 rfl ?_
  refine fg_X11_245 X hI ha0 dX11_emit_22 (fun v11 ev11 hv11 => ?_)
  replace E := zLet_s ev11 E
  have kv11 : (s8.1 a0 38).toInt = v11.toInt := by rw [ev11]
  have mv11 : v11.toInt = v7.toInt := by rw [ev11, ← e10]
  refine zg_iconst X 1 dX11_emit_25 (by decide) (fun v12 _ hv12 => ?_)
  replace E := zLet_s (zcst hv12 (by decide)) E
  refine zg_iadd X dX11_emit_26 (by omega) (by omega) (fun v13 ev13 hv13 => ?_)
  replace E := zLet_s ev13 E
  refine fp_X11_245 X hI ha0 ⟨by omega, by omega⟩ dX11_emit_27 (fun s14 es14 hI => ?_)
  replace E := zLet_s es14 E
  have g15 := (zSame.rf (o := a0) (Wf := [38]) (Wa := []) (L := L) (kd := kd) (σ := s8)).f ha0 es14 rfl
  have hS := hS.tr g15 (by decide) (by decide)
  have as14_39 := (zp_same hI ha0 g15 39 rfl (by decide) (by decide)).trans as8_39
  have as14_40 := zp_same hI ha0 g15 40 rfl (by decide) (by decide)
  have fs14_38 : (s14.1 a0 38).toInt = v13.toInt := by rw [es14]; exact congrArg _ (zu_s _ _ _ _)
  have e16 : v13 = s14.1 a0 38 := by rw [es14]; exact zm_s
  exact ret _ _ _ dX11_emit_30 ⟨E.symm.trans hR, ⟨⟨(by omega), (fun j h0 => by rw [as14_39, ws3 j h0] <;> (split <;> split <;> first | rfl | (exfalso; omega))), (fun j h0 => by rw [as14_40, ws8 j h0] <;> (split <;> split <;> first | rfl | (exfalso; omega)))⟩, hI, hS⟩⟩
set_option maxHeartbeats 4000000 in
set_option maxRecDepth 100000 in
theorem t_X11_comesOut (l : Launch) (d : zD2) (L : List Nat) (kd : Nat → Nat) (κ : Int) (σ : zS) (hI : zJ κ L kd σ) (a0 : Nat) (ha0 : zT L kd a0 11) (p1 : Int32) (fr : Int) (hq0 : 0 ≤ p1.toInt ∧ p1.toInt ≤ 1) (hq1 : zEs (zp a0 σ 43) (zp a0 σ 39) (zp a0 σ 40) (σ.1 a0 44).toInt (σ.1 a0 38).toInt fr 1) : zMv l yX11_comesOut (Cond.code yX11_comesOut cX11_comesOut 3 none :: zWL) 1 [.ref a0, .int p1] d L kd σ (fun σ2 => σ2 = F_X11_comesOut a0 p1 σ ∧ (((zEs (zp a0 σ 43) (zp a0 σ2 39) (zp a0 σ2 40) (σ2.1 a0 44).toInt (σ2.1 a0 38).toInt fr 1) ∧ (((σ2.1 a0 44).toInt ≤ (σ.1 a0 44).toInt ∧ (σ2.1 a0 38).toInt = (σ.1 a0 38).toInt + (σ.1 a0 44).toInt - (σ2.1 a0 44).toInt ∧ nO (zp a0 σ 43) (σ2.1 a0 44).toInt.toNat = nO (zp a0 σ 43) (σ.1 a0 44).toInt.toNat)) ∧ (zKc a0 σ σ2) ∧ (((σ2.1 a0 44).toInt = 0 ∨ (1 ≤ (σ2.1 a0 44).toInt ∧ (zp a0 σ 43 ((σ2.1 a0 44).toInt - 1) = 6 ∨ (p1.toInt = 1 ∧ (zp a0 σ 43 ((σ2.1 a0 44).toInt - 1) = 8 ∨ zp a0 σ 43 ((σ2.1 a0 44).toInt - 1) = 9))))))) ∧ zJ κ L kd σ2 ∧ zSame a0 [38, 44] [139, 140] L kd σ σ2)) := by
  refine zMv.of (own := RX11) (by decide +kernel) rfl rfl (Nat.le_of_ble_eq_true rfl) ?_
  intro p e s m args below meth c A Q X ret
  have hS : zSame a0 [38, 44] [139, 140] L kd σ σ := zSame.rf
  refine zg_lv (lv2 := [(0, .ref a0), (1, .int p1)]) rfl ?_
  have z44 : 0 ≤ (σ.1 a0 44).toInt ∧ (σ.1 a0 44).toInt ≤ 64 := zj_get hI ha0 rfl
  obtain ⟨R, hR⟩ : ∃ R, R = F_X11_comesOut a0 p1 σ := ⟨_, rfl⟩
  have E := hR
  unfold F_X11_comesOut at E
  have Lp1 : ∀ (nLp1 : Nat) (τ1 : zS) , zJ κ L kd τ1 → zSame a0 [38, 44] [139, 140] L kd σ τ1 → zp a0 τ1 43 = zp a0 σ 43 → R = F_X11_comesOut_0 a0 p1  nLp1  τ1 → 0 ≤ (τ1.1 a0 44).toInt ∧ (τ1.1 a0 44).toInt ≤ (σ.1 a0 44).toInt ∧ (τ1.1 a0 38).toInt = (σ.1 a0 38).toInt + (σ.1 a0 44).toInt - (τ1.1 a0 44).toInt ∧ nO (zp a0 σ 43) ((τ1.1 a0 44).toInt).toNat = nO (zp a0 σ 43) ((σ.1 a0 44).toInt).toNat → (τ1.1 a0 44).toInt < (nLp1 : Int) → (zEs (zp a0 σ 43) (zp a0 τ1 39) (zp a0 τ1 40) (τ1.1 a0 44).toInt (τ1.1 a0 38).toInt fr 1) → (zKc a0 σ τ1) → zG d L kd A 3 p l e (k2_rm 1 (100 * 1)) s m args below meth c Q τ1 0 [(0, .ref a0), (1, .int p1)] [] := by
    intro nLp1
    induction nLp1 with
    | zero => intro τ1  hI hS A43_Lp1 E  hxLp1 hm _ _ ; exact absurd hm (by omega)
    | succ nLp1 ihLp1 =>
      intro τ1  hI hS A43_Lp1 E  hxLp1 hmLp1 hx hk
      rw [F_X11_comesOut_0] at E
      refine zg_aload_n X 0 rfl dX11_comesOut_0 ?_
      refine fg_X11_297 X hI ha0 dX11_comesOut_1 (fun v2 ev2 hv2 => ?_)
      replace E := zLet_s ev2 E
      have kv2 : (τ1.1 a0 44).toInt = v2.toInt := by rw [ev2]
      refine zg_if_le X 91 dX11_comesOut_4 (by decide) (fun c3 => ?_) (fun c3 => ?_)
      · skip
        replace E := zIf_f (Int.not_lt.mpr c3) E
        exact ret _ _ _ dX11_comesOut_91 ⟨E.symm.trans hR, ⟨⟨(hx), (by omega), (hk), (by omega)⟩, hI, hS⟩⟩
      · skip
        replace E := zIf_t c3 E
        refine zg_aload_n X 0 rfl dX11_comesOut_7 ?_
        refine fg_X11_98 X hI ha0 dX11_comesOut_8 (fun v4 ev4 hv4 => ?_)
        replace E := zLet_s (zgr ev4) E
        refine zg_aload_n X 0 rfl dX11_comesOut_11 ?_
        refine fg_X11_297 X hI ha0 dX11_comesOut_12 (fun v5 ev5 hv5 => ?_)
        replace E := zLet_s ev5 E
        have kv5 : (τ1.1 a0 44).toInt = v5.toInt := by rw [ev5]
        have mv5 : v5.toInt = v2.toInt := by rw [ev5, ← ev2]
        refine zg_iconst X 1 dX11_comesOut_15 (by decide) (fun v6 _ hv6 => ?_)
        replace E := zLet_s (zcst hv6 (by decide)) E
        refine zg_isub X dX11_comesOut_16 (by omega) (by omega) (fun v7 ev7 hv7 => ?_)
        replace E := zLet_s ev7 E
        refine ag_143 X hI hv4 (by omega) (by omega) dX11_comesOut_17 (fun v8 ev8 _ => ?_)
        replace E := zLet_s ev8 E
        have qv8 := zp_ld ev4 ev8
        rw [A43_Lp1] at qv8
        rw [show v7.toInt = (τ1.1 a0 44).toInt - 1 by omega] at qv8
        refine zg_istore_n X [(2, .int v8), (0, .ref a0), (1, .int p1)] dX11_comesOut_18 (by decide) rfl ?_
        refine zg_iload_n X 0 rfl dX11_comesOut_19 ?_
        refine zg_bipush X 6 dX11_comesOut_20 (by decide) (fun v9 _ hv9 => ?_)
        replace E := zLet_s (zcst hv9 (by decide)) E
        refine zg_icmp_eq X 41 dX11_comesOut_22 (by decide) (fun c10 => ?_) (fun c10 => ?_)
        · skip
          replace E := zIf_t c10 E
          exact ret _ _ _ dX11_comesOut_41 ⟨E.symm.trans hR, ⟨⟨(hx), (by omega), (hk), (by omega)⟩, hI, hS⟩⟩
        · skip
          replace E := zIf_f c10 E
          refine zg_iload_n X 2 rfl dX11_comesOut_25 ?_
          refine zg_if_eq X 42 dX11_comesOut_26 (by decide) (fun c11 => ?_) (fun c11 => ?_)
          · skip
            replace E := zIf_t c11 E
            have zw : zp a0 σ 43 ((τ1.1 a0 44).toInt - 1) ≠ 6 := by omega
            have zo := hx.at
            have zt := nO_top (w := zp a0 σ 43) (W := (τ1.1 a0 44).toInt) (by omega)
            rw [if_neg zw] at zt
            have zi := nO_in (zp a0 σ 43) ((τ1.1 a0 44).toInt - 1).toNat
            obtain ⟨y44, hy44⟩ : ∃ x : Int, x = (τ1.1 a0 44).toInt - 1 := ⟨_, rfl⟩
            rw [← hy44] at zt zi
            refine zg_aload_n X 1 rfl dX11_comesOut_42 ?_
            refine zg_dup X dX11_comesOut_43 rfl ?_
            refine fg_X11_297 X hI ha0 dX11_comesOut_44 (fun v12 ev12 hv12 => ?_)
            replace E := zLet_s ev12 E
            have kv12 : (τ1.1 a0 44).toInt = v12.toInt := by rw [ev12]
            have mv12 : v12.toInt = v5.toInt := by rw [ev12, ← ev5]
            refine zg_iconst X 1 dX11_comesOut_47 (by decide) (fun v13 _ hv13 => ?_)
            replace E := zLet_s (zcst hv13 (by decide)) E
            refine zg_isub X dX11_comesOut_48 (by omega) (by omega) (fun v14 ev14 hv14 => ?_)
            replace E := zLet_s ev14 E
            refine fp_X11_297 X hI ha0 ⟨by omega, by omega⟩ dX11_comesOut_49 (fun s15 es15 hI => ?_)
            replace E := zLet_s es15 E
            have g16 := (zSame.rf (o := a0) (Wf := [44]) (Wa := []) (L := L) (kd := kd) (σ := τ1)).f ha0 es15 rfl
            have fs15_38 : (s15.1 a0 38).toInt = (τ1.1 a0 38).toInt := by rw [g16.2.1 38 (by decide)]
            have hS := hS.tr g16 (by decide) (by decide)
            have as15_39 := zp_same hI ha0 g16 39 rfl (by decide) (by decide)
            have as15_40 := zp_same hI ha0 g16 40 rfl (by decide) (by decide)
            have as15_43 := (zp_same hI ha0 g16 43 rfl (by decide) (by decide)).trans A43_Lp1
            have fs15_44 : (s15.1 a0 44).toInt = v14.toInt := by rw [es15]; exact congrArg _ (zu_s _ _ _ _)
            have e17 : v14 = s15.1 a0 44 := by rw [es15]; exact zm_s
            refine zg_aload_n X 1 rfl dX11_comesOut_52 ?_
            refine zg_iload_n X 0 rfl dX11_comesOut_53 ?_
            refine zg_bipush X 8 dX11_comesOut_54 (by decide) (fun v18 _ hv18 => ?_)
            replace E := zLet_s (zcst hv18 (by decide)) E
            refine zg_icmp_ne X 63 dX11_comesOut_56 (by decide) (fun c19 => ?_) (fun c19 => ?_)
            · skip
              replace E := zIf_f c19 E
              refine zg_iload_n X 0 rfl dX11_comesOut_63 ?_
              refine zg_bipush X 9 dX11_comesOut_64 (by decide) (fun v20 _ hv20 => ?_)
              replace E := zLet_s (zcst hv20 (by decide)) E
              refine zg_icmp_ne X 73 dX11_comesOut_66 (by decide) (fun c21 => ?_) (fun c21 => ?_)
              · skip
                replace E := zIf_f c21 E
                refine zg_iload_n X 0 rfl dX11_comesOut_73 ?_
                refine zg_bipush X 10 dX11_comesOut_74 (by decide) (fun v22 _ hv22 => ?_)
                replace E := zLet_s (zcst hv22 (by decide)) E
                refine zg_icmp_ne X 83 dX11_comesOut_76 (by decide) (fun c23 => ?_) (fun c23 => ?_)
                · skip
                  replace E := zIf_f c23 E
                  refine zg_iconst X 5 dX11_comesOut_83 (by decide) (fun v24 _ hv24 => ?_)
                  replace E := zLet_s (zcst hv24 (by decide)) E
                  refine zg_iconst X 0 dX11_comesOut_84 (by decide) (fun v25 _ hv25 => ?_)
                  replace E := zLet_s (zcst hv25 (by decide)) E
                  have za := as15_39
                  have zb := as15_40
                  refine zg_cVv (As := [.int v24, .int v25]) (st := []) X ha0 rfl (by decide) rfl (t_X11_emit l d L kd κ _ hI a0 ha0 v24 v25  (by omega)) mk_X11_300 mc_X11_emit mz_X11 mi_X11_emit ml_X11_emit (na := 2) ⟨md_X11.1, md_X11.2, by decide +kernel⟩ rfl ⟨by decide, by decide⟩ (Nat.le_of_ble_eq_true rfl) dX11_comesOut_85 (fun t26 hq => ?_)
                  obtain ⟨hF, ⟨ht26_fact0, ht26_fact1, ht26_fact2⟩, hI, g27⟩ := hq
                  replace E := zLet_s hF E
                  have ft26_44 : (t26.1 a0 44).toInt = (s15.1 a0 44).toInt := by rw [g27.2.1 44 (by decide)]
                  have hS := hS.tr g27 (by decide) (by decide)
                  have at26_43 := (zp_same hI ha0 g27 43 rfl (by decide) (by decide)).trans as15_43
                  have zf39 := ht26_fact1
                  have zf40 := ht26_fact2
                  have zc1 := ht26_fact0
                  rw [za] at zf39
                  rw [zb] at zf40
                  rw [show y44 = (t26.1 a0 44).toInt by omega] at zt zi
                  refine zg_goto X 0 dX11_comesOut_88 (by decide) ?_
                  refine zg_sub [1, 2] rfl ?_
                  exact ihLp1 _  hI hS at26_43 E  (by omega) (by omega) ((zEs.op hx (by omega) zw (by omega) (by omega) (fun j h0 => by rw [zf39 j h0]; split <;> split <;> first | rfl | (exfalso; omega)) (fun j h0 => by rw [zf40 j h0]; split <;> split <;> first | rfl | (exfalso; omega)) (by omega)).1) (fun j h0 h1 => by have y := hk j h0 (by omega); rw [zf39 j h0, zf40 j h0, if_neg (by omega), if_neg (by omega)]; exact y)
                · skip
                  replace E := zIf_t c23 E
                  refine zg_iconst X 4 dX11_comesOut_79 (by decide) (fun v29 _ hv29 => ?_)
                  replace E := zLet_s (zcst hv29 (by decide)) E
                  refine zg_goto X 84 dX11_comesOut_80 (by decide) ?_
                  refine zg_iconst X 0 dX11_comesOut_84 (by decide) (fun v30 _ hv30 => ?_)
                  replace E := zLet_s (zcst hv30 (by decide)) E
                  have za := as15_39
                  have zb := as15_40
                  refine zg_cVv (As := [.int v29, .int v30]) (st := []) X ha0 rfl (by decide) rfl (t_X11_emit l d L kd κ _ hI a0 ha0 v29 v30  (by omega)) mk_X11_300 mc_X11_emit mz_X11 mi_X11_emit ml_X11_emit (na := 2) ⟨md_X11.1, md_X11.2, by decide +kernel⟩ rfl ⟨by decide, by decide⟩ (Nat.le_of_ble_eq_true rfl) dX11_comesOut_85 (fun t31 hq => ?_)
                  obtain ⟨hF, ⟨ht31_fact0, ht31_fact1, ht31_fact2⟩, hI, g32⟩ := hq
                  replace E := zLet_s hF E
                  have ft31_44 : (t31.1 a0 44).toInt = (s15.1 a0 44).toInt := by rw [g32.2.1 44 (by decide)]
                  have hS := hS.tr g32 (by decide) (by decide)
                  have at31_43 := (zp_same hI ha0 g32 43 rfl (by decide) (by decide)).trans as15_43
                  have zf39 := ht31_fact1
                  have zf40 := ht31_fact2
                  have zc1 := ht31_fact0
                  rw [za] at zf39
                  rw [zb] at zf40
                  rw [show y44 = (t31.1 a0 44).toInt by omega] at zt zi
                  refine zg_goto X 0 dX11_comesOut_88 (by decide) ?_
                  refine zg_sub [1, 2] rfl ?_
                  exact ihLp1 _  hI hS at31_43 E  (by omega) (by omega) ((zEs.op hx (by omega) zw (by omega) (by omega) (fun j h0 => by rw [zf39 j h0]; split <;> split <;> first | rfl | (exfalso; omega)) (fun j h0 => by rw [zf40 j h0]; split <;> split <;> first | rfl | (exfalso; omega)) (by omega)).1) (fun j h0 h1 => by have y := hk j h0 (by omega); rw [zf39 j h0, zf40 j h0, if_neg (by omega), if_neg (by omega)]; exact y)
              · skip
                replace E := zIf_t c21 E
                refine zg_iconst X 3 dX11_comesOut_69 (by decide) (fun v34 _ hv34 => ?_)
                replace E := zLet_s (zcst hv34 (by decide)) E
                refine zg_goto X 84 dX11_comesOut_70 (by decide) ?_
                refine zg_iconst X 0 dX11_comesOut_84 (by decide) (fun v35 _ hv35 => ?_)
                replace E := zLet_s (zcst hv35 (by decide)) E
                have za := as15_39
                have zb := as15_40
                refine zg_cVv (As := [.int v34, .int v35]) (st := []) X ha0 rfl (by decide) rfl (t_X11_emit l d L kd κ _ hI a0 ha0 v34 v35  (by omega)) mk_X11_300 mc_X11_emit mz_X11 mi_X11_emit ml_X11_emit (na := 2) ⟨md_X11.1, md_X11.2, by decide +kernel⟩ rfl ⟨by decide, by decide⟩ (Nat.le_of_ble_eq_true rfl) dX11_comesOut_85 (fun t36 hq => ?_)
                obtain ⟨hF, ⟨ht36_fact0, ht36_fact1, ht36_fact2⟩, hI, g37⟩ := hq
                replace E := zLet_s hF E
                have ft36_44 : (t36.1 a0 44).toInt = (s15.1 a0 44).toInt := by rw [g37.2.1 44 (by decide)]
                have hS := hS.tr g37 (by decide) (by decide)
                have at36_43 := (zp_same hI ha0 g37 43 rfl (by decide) (by decide)).trans as15_43
                have zf39 := ht36_fact1
                have zf40 := ht36_fact2
                have zc1 := ht36_fact0
                rw [za] at zf39
                rw [zb] at zf40
                rw [show y44 = (t36.1 a0 44).toInt by omega] at zt zi
                refine zg_goto X 0 dX11_comesOut_88 (by decide) ?_
                refine zg_sub [1, 2] rfl ?_
                exact ihLp1 _  hI hS at36_43 E  (by omega) (by omega) ((zEs.op hx (by omega) zw (by omega) (by omega) (fun j h0 => by rw [zf39 j h0]; split <;> split <;> first | rfl | (exfalso; omega)) (fun j h0 => by rw [zf40 j h0]; split <;> split <;> first | rfl | (exfalso; omega)) (by omega)).1) (fun j h0 h1 => by have y := hk j h0 (by omega); rw [zf39 j h0, zf40 j h0, if_neg (by omega), if_neg (by omega)]; exact y)
            · skip
              replace E := zIf_t c19 E
              refine zg_iconst X 2 dX11_comesOut_59 (by decide) (fun v39 _ hv39 => ?_)
              replace E := zLet_s (zcst hv39 (by decide)) E
              refine zg_goto X 84 dX11_comesOut_60 (by decide) ?_
              refine zg_iconst X 0 dX11_comesOut_84 (by decide) (fun v40 _ hv40 => ?_)
              replace E := zLet_s (zcst hv40 (by decide)) E
              have za := as15_39
              have zb := as15_40
              refine zg_cVv (As := [.int v39, .int v40]) (st := []) X ha0 rfl (by decide) rfl (t_X11_emit l d L kd κ _ hI a0 ha0 v39 v40  (by omega)) mk_X11_300 mc_X11_emit mz_X11 mi_X11_emit ml_X11_emit (na := 2) ⟨md_X11.1, md_X11.2, by decide +kernel⟩ rfl ⟨by decide, by decide⟩ (Nat.le_of_ble_eq_true rfl) dX11_comesOut_85 (fun t41 hq => ?_)
              obtain ⟨hF, ⟨ht41_fact0, ht41_fact1, ht41_fact2⟩, hI, g42⟩ := hq
              replace E := zLet_s hF E
              have ft41_44 : (t41.1 a0 44).toInt = (s15.1 a0 44).toInt := by rw [g42.2.1 44 (by decide)]
              have hS := hS.tr g42 (by decide) (by decide)
              have at41_43 := (zp_same hI ha0 g42 43 rfl (by decide) (by decide)).trans as15_43
              have zf39 := ht41_fact1
              have zf40 := ht41_fact2
              have zc1 := ht41_fact0
              rw [za] at zf39
              rw [zb] at zf40
              rw [show y44 = (t41.1 a0 44).toInt by omega] at zt zi
              refine zg_goto X 0 dX11_comesOut_88 (by decide) ?_
              refine zg_sub [1, 2] rfl ?_
              exact ihLp1 _  hI hS at41_43 E  (by omega) (by omega) ((zEs.op hx (by omega) zw (by omega) (by omega) (fun j h0 => by rw [zf39 j h0]; split <;> split <;> first | rfl | (exfalso; omega)) (fun j h0 => by rw [zf40 j h0]; split <;> split <;> first | rfl | (exfalso; omega)) (by omega)).1) (fun j h0 h1 => by have y := hk j h0 (by omega); rw [zf39 j h0, zf40 j h0, if_neg (by omega), if_neg (by omega)]; exact y)
          · skip
            replace E := zIf_f c11 E
            refine zg_iload_n X 0 rfl dX11_comesOut_29 ?_
            refine zg_bipush X 8 dX11_comesOut_30 (by decide) (fun v44 _ hv44 => ?_)
            replace E := zLet_s (zcst hv44 (by decide)) E
            refine zg_icmp_eq X 41 dX11_comesOut_32 (by decide) (fun c45 => ?_) (fun c45 => ?_)
            · skip
              replace E := zIf_t c45 E
              exact ret _ _ _ dX11_comesOut_41 ⟨E.symm.trans hR, ⟨⟨(hx), (by omega), (hk), (by omega)⟩, hI, hS⟩⟩
            · skip
              replace E := zIf_f c45 E
              refine zg_iload_n X 0 rfl dX11_comesOut_35 ?_
              refine zg_bipush X 9 dX11_comesOut_36 (by decide) (fun v46 _ hv46 => ?_)
              replace E := zLet_s (zcst hv46 (by decide)) E
              refine zg_icmp_ne X 42 dX11_comesOut_38 (by decide) (fun c47 => ?_) (fun c47 => ?_)
              · skip
                replace E := zIf_f c47 E
                have zw : zp a0 σ 43 ((τ1.1 a0 44).toInt - 1) ≠ 6 := by omega
                have zo := hx.at
                have zt := nO_top (w := zp a0 σ 43) (W := (τ1.1 a0 44).toInt) (by omega)
                rw [if_neg zw] at zt
                have zi := nO_in (zp a0 σ 43) ((τ1.1 a0 44).toInt - 1).toNat
                obtain ⟨y44, hy44⟩ : ∃ x : Int, x = (τ1.1 a0 44).toInt - 1 := ⟨_, rfl⟩
                rw [← hy44] at zt zi
                refine zg_aload_n X 1 rfl dX11_comesOut_42 ?_
                refine zg_dup X dX11_comesOut_43 rfl ?_
                refine fg_X11_297 X hI ha0 dX11_comesOut_44 (fun v48 ev48 hv48 => ?_)
                replace E := zLet_s ev48 E
                have kv48 : (τ1.1 a0 44).toInt = v48.toInt := by rw [ev48]
                have mv48 : v48.toInt = v5.toInt := by rw [ev48, ← ev5]
                refine zg_iconst X 1 dX11_comesOut_47 (by decide) (fun v49 _ hv49 => ?_)
                replace E := zLet_s (zcst hv49 (by decide)) E
                refine zg_isub X dX11_comesOut_48 (by omega) (by omega) (fun v50 ev50 hv50 => ?_)
                replace E := zLet_s ev50 E
                refine fp_X11_297 X hI ha0 ⟨by omega, by omega⟩ dX11_comesOut_49 (fun s51 es51 hI => ?_)
                replace E := zLet_s es51 E
                have g52 := (zSame.rf (o := a0) (Wf := [44]) (Wa := []) (L := L) (kd := kd) (σ := τ1)).f ha0 es51 rfl
                have fs51_38 : (s51.1 a0 38).toInt = (τ1.1 a0 38).toInt := by rw [g52.2.1 38 (by decide)]
                have hS := hS.tr g52 (by decide) (by decide)
                have as51_39 := zp_same hI ha0 g52 39 rfl (by decide) (by decide)
                have as51_40 := zp_same hI ha0 g52 40 rfl (by decide) (by decide)
                have as51_43 := (zp_same hI ha0 g52 43 rfl (by decide) (by decide)).trans A43_Lp1
                have fs51_44 : (s51.1 a0 44).toInt = v50.toInt := by rw [es51]; exact congrArg _ (zu_s _ _ _ _)
                have e53 : v50 = s51.1 a0 44 := by rw [es51]; exact zm_s
                refine zg_aload_n X 1 rfl dX11_comesOut_52 ?_
                refine zg_iload_n X 0 rfl dX11_comesOut_53 ?_
                refine zg_bipush X 8 dX11_comesOut_54 (by decide) (fun v54 _ hv54 => ?_)
                replace E := zLet_s (zcst hv54 (by decide)) E
                refine zg_icmp_ne X 63 dX11_comesOut_56 (by decide) (fun c55 => ?_) (fun c55 => ?_)
                · skip
                  replace E := zIf_f c55 E
                  refine zg_iload_n X 0 rfl dX11_comesOut_63 ?_
                  refine zg_bipush X 9 dX11_comesOut_64 (by decide) (fun v56 _ hv56 => ?_)
                  replace E := zLet_s (zcst hv56 (by decide)) E
                  refine zg_icmp_ne X 73 dX11_comesOut_66 (by decide) (fun c57 => ?_) (fun c57 => ?_)
                  · skip
                    replace E := zIf_f c57 E
                    refine zg_iload_n X 0 rfl dX11_comesOut_73 ?_
                    refine zg_bipush X 10 dX11_comesOut_74 (by decide) (fun v58 _ hv58 => ?_)
                    replace E := zLet_s (zcst hv58 (by decide)) E
                    refine zg_icmp_ne X 83 dX11_comesOut_76 (by decide) (fun c59 => ?_) (fun c59 => ?_)
                    · skip
                      replace E := zIf_f c59 E
                      refine zg_iconst X 5 dX11_comesOut_83 (by decide) (fun v60 _ hv60 => ?_)
                      replace E := zLet_s (zcst hv60 (by decide)) E
                      refine zg_iconst X 0 dX11_comesOut_84 (by decide) (fun v61 _ hv61 => ?_)
                      replace E := zLet_s (zcst hv61 (by decide)) E
                      have za := as51_39
                      have zb := as51_40
                      refine zg_cVv (As := [.int v60, .int v61]) (st := []) X ha0 rfl (by decide) rfl (t_X11_emit l d L kd κ _ hI a0 ha0 v60 v61  (by omega)) mk_X11_300 mc_X11_emit mz_X11 mi_X11_emit ml_X11_emit (na := 2) ⟨md_X11.1, md_X11.2, by decide +kernel⟩ rfl ⟨by decide, by decide⟩ (Nat.le_of_ble_eq_true rfl) dX11_comesOut_85 (fun t62 hq => ?_)
                      obtain ⟨hF, ⟨ht62_fact0, ht62_fact1, ht62_fact2⟩, hI, g63⟩ := hq
                      replace E := zLet_s hF E
                      have ft62_44 : (t62.1 a0 44).toInt = (s51.1 a0 44).toInt := by rw [g63.2.1 44 (by decide)]
                      have hS := hS.tr g63 (by decide) (by decide)
                      have at62_43 := (zp_same hI ha0 g63 43 rfl (by decide) (by decide)).trans as51_43
                      have zf39 := ht62_fact1
                      have zf40 := ht62_fact2
                      have zc1 := ht62_fact0
                      rw [za] at zf39
                      rw [zb] at zf40
                      rw [show y44 = (t62.1 a0 44).toInt by omega] at zt zi
                      refine zg_goto X 0 dX11_comesOut_88 (by decide) ?_
                      refine zg_sub [1, 2] rfl ?_
                      exact ihLp1 _  hI hS at62_43 E  (by omega) (by omega) ((zEs.op hx (by omega) zw (by omega) (by omega) (fun j h0 => by rw [zf39 j h0]; split <;> split <;> first | rfl | (exfalso; omega)) (fun j h0 => by rw [zf40 j h0]; split <;> split <;> first | rfl | (exfalso; omega)) (by omega)).1) (fun j h0 h1 => by have y := hk j h0 (by omega); rw [zf39 j h0, zf40 j h0, if_neg (by omega), if_neg (by omega)]; exact y)
                    · skip
                      replace E := zIf_t c59 E
                      refine zg_iconst X 4 dX11_comesOut_79 (by decide) (fun v65 _ hv65 => ?_)
                      replace E := zLet_s (zcst hv65 (by decide)) E
                      refine zg_goto X 84 dX11_comesOut_80 (by decide) ?_
                      refine zg_iconst X 0 dX11_comesOut_84 (by decide) (fun v66 _ hv66 => ?_)
                      replace E := zLet_s (zcst hv66 (by decide)) E
                      have za := as51_39
                      have zb := as51_40
                      refine zg_cVv (As := [.int v65, .int v66]) (st := []) X ha0 rfl (by decide) rfl (t_X11_emit l d L kd κ _ hI a0 ha0 v65 v66  (by omega)) mk_X11_300 mc_X11_emit mz_X11 mi_X11_emit ml_X11_emit (na := 2) ⟨md_X11.1, md_X11.2, by decide +kernel⟩ rfl ⟨by decide, by decide⟩ (Nat.le_of_ble_eq_true rfl) dX11_comesOut_85 (fun t67 hq => ?_)
                      obtain ⟨hF, ⟨ht67_fact0, ht67_fact1, ht67_fact2⟩, hI, g68⟩ := hq
                      replace E := zLet_s hF E
                      have ft67_44 : (t67.1 a0 44).toInt = (s51.1 a0 44).toInt := by rw [g68.2.1 44 (by decide)]
                      have hS := hS.tr g68 (by decide) (by decide)
                      have at67_43 := (zp_same hI ha0 g68 43 rfl (by decide) (by decide)).trans as51_43
                      have zf39 := ht67_fact1
                      have zf40 := ht67_fact2
                      have zc1 := ht67_fact0
                      rw [za] at zf39
                      rw [zb] at zf40
                      rw [show y44 = (t67.1 a0 44).toInt by omega] at zt zi
                      refine zg_goto X 0 dX11_comesOut_88 (by decide) ?_
                      refine zg_sub [1, 2] rfl ?_
                      exact ihLp1 _  hI hS at67_43 E  (by omega) (by omega) ((zEs.op hx (by omega) zw (by omega) (by omega) (fun j h0 => by rw [zf39 j h0]; split <;> split <;> first | rfl | (exfalso; omega)) (fun j h0 => by rw [zf40 j h0]; split <;> split <;> first | rfl | (exfalso; omega)) (by omega)).1) (fun j h0 h1 => by have y := hk j h0 (by omega); rw [zf39 j h0, zf40 j h0, if_neg (by omega), if_neg (by omega)]; exact y)
                  · skip
                    replace E := zIf_t c57 E
                    refine zg_iconst X 3 dX11_comesOut_69 (by decide) (fun v70 _ hv70 => ?_)
                    replace E := zLet_s (zcst hv70 (by decide)) E
                    refine zg_goto X 84 dX11_comesOut_70 (by decide) ?_
                    refine zg_iconst X 0 dX11_comesOut_84 (by decide) (fun v71 _ hv71 => ?_)
                    replace E := zLet_s (zcst hv71 (by decide)) E
                    have za := as51_39
                    have zb := as51_40
                    refine zg_cVv (As := [.int v70, .int v71]) (st := []) X ha0 rfl (by decide) rfl (t_X11_emit l d L kd κ _ hI a0 ha0 v70 v71  (by omega)) mk_X11_300 mc_X11_emit mz_X11 mi_X11_emit ml_X11_emit (na := 2) ⟨md_X11.1, md_X11.2, by decide +kernel⟩ rfl ⟨by decide, by decide⟩ (Nat.le_of_ble_eq_true rfl) dX11_comesOut_85 (fun t72 hq => ?_)
                    obtain ⟨hF, ⟨ht72_fact0, ht72_fact1, ht72_fact2⟩, hI, g73⟩ := hq
                    replace E := zLet_s hF E
                    have ft72_44 : (t72.1 a0 44).toInt = (s51.1 a0 44).toInt := by rw [g73.2.1 44 (by decide)]
                    have hS := hS.tr g73 (by decide) (by decide)
                    have at72_43 := (zp_same hI ha0 g73 43 rfl (by decide) (by decide)).trans as51_43
                    have zf39 := ht72_fact1
                    have zf40 := ht72_fact2
                    have zc1 := ht72_fact0
                    rw [za] at zf39
                    rw [zb] at zf40
                    rw [show y44 = (t72.1 a0 44).toInt by omega] at zt zi
                    refine zg_goto X 0 dX11_comesOut_88 (by decide) ?_
                    refine zg_sub [1, 2] rfl ?_
                    exact ihLp1 _  hI hS at72_43 E  (by omega) (by omega) ((zEs.op hx (by omega) zw (by omega) (by omega) (fun j h0 => by rw [zf39 j h0]; split <;> split <;> first | rfl | (exfalso; omega)) (fun j h0 => by rw [zf40 j h0]; split <;> split <;> first | rfl | (exfalso; omega)) (by omega)).1) (fun j h0 h1 => by have y := hk j h0 (by omega); rw [zf39 j h0, zf40 j h0, if_neg (by omega), if_neg (by omega)]; exact y)
                · skip
                  replace E := zIf_t c55 E
                  refine zg_iconst X 2 dX11_comesOut_59 (by decide) (fun v75 _ hv75 => ?_)
                  replace E := zLet_s (zcst hv75 (by decide)) E
                  refine zg_goto X 84 dX11_comesOut_60 (by decide) ?_
                  refine zg_iconst X 0 dX11_comesOut_84 (by decide) (fun v76 _ hv76 => ?_)
                  replace E := zLet_s (zcst hv76 (by decide)) E
                  have za := as51_39
                  have zb := as51_40
                  refine zg_cVv (As := [.int v75, .int v76]) (st := []) X ha0 rfl (by decide) rfl (t_X11_emit l d L kd κ _ hI a0 ha0 v75 v76  (by omega)) mk_X11_300 mc_X11_emit mz_X11 mi_X11_emit ml_X11_emit (na := 2) ⟨md_X11.1, md_X11.2, by decide +kernel⟩ rfl ⟨by decide, by decide⟩ (Nat.le_of_ble_eq_true rfl) dX11_comesOut_85 (fun t77 hq => ?_)
                  obtain ⟨hF, ⟨ht77_fact0, ht77_fact1, ht77_fact2⟩, hI, g78⟩ := hq
                  replace E := zLet_s hF E
                  have ft77_44 : (t77.1 a0 44).toInt = (s51.1 a0 44).toInt := by rw [g78.2.1 44 (by decide)]
                  have hS := hS.tr g78 (by decide) (by decide)
                  have at77_43 := (zp_same hI ha0 g78 43 rfl (by decide) (by decide)).trans as51_43
                  have zf39 := ht77_fact1
                  have zf40 := ht77_fact2
                  have zc1 := ht77_fact0
                  rw [za] at zf39
                  rw [zb] at zf40
                  rw [show y44 = (t77.1 a0 44).toInt by omega] at zt zi
                  refine zg_goto X 0 dX11_comesOut_88 (by decide) ?_
                  refine zg_sub [1, 2] rfl ?_
                  exact ihLp1 _  hI hS at77_43 E  (by omega) (by omega) ((zEs.op hx (by omega) zw (by omega) (by omega) (fun j h0 => by rw [zf39 j h0]; split <;> split <;> first | rfl | (exfalso; omega)) (fun j h0 => by rw [zf40 j h0]; split <;> split <;> first | rfl | (exfalso; omega)) (by omega)).1) (fun j h0 h1 => by have y := hk j h0 (by omega); rw [zf39 j h0, zf40 j h0, if_neg (by omega), if_neg (by omega)]; exact y)
              · skip
                replace E := zIf_t c47 E
                exact ret _ _ _ dX11_comesOut_41 ⟨E.symm.trans hR, ⟨⟨(hx), (by omega), (hk), (by omega)⟩, hI, hS⟩⟩
  refine zg_sub [0, 1] rfl ?_
  exact Lp1 10000 _  hI hS rfl E  (by omega) (by omega) (hq1) (zKc.rf)
set_option maxHeartbeats 4000000 in
set_option maxRecDepth 100000 in
theorem t_X11_unit (l : Launch) (d : zD2) (L : List Nat) (kd : Nat → Nat) (κ : Int) (σ : zS) (hI : zJ κ L kd σ) (a0 : Nat) (ha0 : zT L kd a0 11) (hq0 : (σ.1 a0 38).toInt ≤ 839) : zMv l yX11_unit (Cond.code yX11_unit cX11_unit 1 none :: zWL) 2 [.ref a0] d L kd σ (fun σ2 => σ2 = F_X11_unit a0 σ ∧ (((((0 < (σ2.1 a0 13).toInt ∧ (σ.1 a0 11).toInt ≤ (σ2.1 a0 11).toInt ∧ (σ2.1 a0 11).toInt ≤ (σ.1 a0 11).toInt + 1 ∧ (σ.1 a0 38).toInt ≤ (σ2.1 a0 38).toInt ∧ (σ2.1 a0 38).toInt ≤ (σ.1 a0 38).toInt + 1 ∧ ((σ.1 a0 13).toInt = 0 ∨ (σ2.1 a0 38).toInt = (σ.1 a0 38).toInt)) ∨ ((σ.1 a0 13).toInt = 0 ∧ (σ2.1 a0 13).toInt = 0 ∧ (σ2.1 a0 11).toInt = (σ.1 a0 11).toInt + 1 ∧ (σ2.1 a0 38).toInt = (σ.1 a0 38).toInt + 1))) ∧ ((∀ j : Int, 0 ≤ j → (j ≠ (σ.1 a0 38).toInt ∨ (σ2.1 a0 38).toInt = (σ.1 a0 38).toInt) → zp a0 σ2 39 j = zp a0 σ 39 j ∧ zp a0 σ2 40 j = zp a0 σ 40 j)) ∧ (((σ2.1 a0 13).toInt = 0 → 0 ≤ zp a0 σ2 39 (σ.1 a0 38).toInt ∧ zp a0 σ2 39 (σ.1 a0 38).toInt ≤ 1 ∧ (zp a0 σ2 39 (σ.1 a0 38).toInt = 1 → 0 ≤ zp a0 σ2 40 (σ.1 a0 38).toInt ∧ zp a0 σ2 40 (σ.1 a0 38).toInt ≤ 8)))) ∧ zJ κ L kd σ2 ∧ zSame a0 [11, 13, 14, 38] [139, 140] L kd σ σ2)) := by
  refine zMv.of (own := RX11) (by decide +kernel) rfl rfl (Nat.le_of_ble_eq_true rfl) ?_
  intro p e s m args below meth c A Q X ret
  have hS : zSame a0 [11, 13, 14, 38] [139, 140] L kd σ σ := zSame.rf
  refine zg_lv (lv2 := [(0, .ref a0)]) rfl ?_
  have z11 : 0 ≤ (σ.1 a0 11).toInt ∧ (σ.1 a0 11).toInt ≤ 400 := zj_get hI ha0 rfl
  have z13 : 0 ≤ (σ.1 a0 13).toInt ∧ (σ.1 a0 13).toInt ≤ 2147483647 := zj_get hI ha0 rfl
  have z38 : 0 ≤ (σ.1 a0 38).toInt ∧ (σ.1 a0 38).toInt ≤ 840 := zj_get hI ha0 rfl
  obtain ⟨R, hR⟩ : ∃ R, R = F_X11_unit a0 σ := ⟨_, rfl⟩
  have E := hR
  unfold F_X11_unit at E
  refine zg_aload_n X 0 rfl dX11_unit_0 ?_
  refine zg_iconst X 2 dX11_unit_1 (by decide) (fun v1 _ hv1 => ?_)
  replace E := zLet_s (zcst hv1 (by decide)) E
  refine zg_cVi (As := [.int v1]) (st := []) X ha0 rfl (by decide) rfl (t_X11_is l d L kd κ _ hI a0 ha0 v1  ) mk_X11_224 mc_X11_is mz_X11 mi_X11_is ml_X11_is (na := 1) ⟨md_X11.1, md_X11.2, by decide +kernel⟩ rfl ⟨by decide, by decide⟩ (Nat.le_of_ble_eq_true rfl) dX11_unit_2 (fun v3 t2 hq => ?_)
  obtain ⟨⟨hF, ⟨ht2_res, ht2_fact0⟩⟩, rfl⟩ := hq
  replace E := zLet_s hF E
  refine zg_if_eq X 29 dX11_unit_5 (by decide) (fun c4 => ?_) (fun c4 => ?_)
  · skip
    replace E := zIf_t c4 E
    refine zg_aload_n X 0 rfl dX11_unit_29 ?_
    refine fg_X11_206 X hI ha0 dX11_unit_30 (fun v5 ev5 hv5 => ?_)
    replace E := zLet_s ev5 E
    have kv5 : (σ.1 a0 13).toInt = v5.toInt := by rw [ev5]
    refine zg_if_ne X 88 dX11_unit_33 (by decide) (fun c6 => ?_) (fun c6 => ?_)
    · skip
      replace E := zIf_f c6 E
      refine zg_aload_n X 0 rfl dX11_unit_88 ?_
      refine zg_iconst X 1 dX11_unit_89 (by decide) (fun v7 _ hv7 => ?_)
      replace E := zLet_s (zcst hv7 (by decide)) E
      refine zg_cVv (As := [.int v7]) (st := []) X ha0 rfl (by decide) rfl (t_X11_fail l d L kd κ _ hI a0 ha0 v7  (by omega)) mk_X11_221 mc_X11_fail mz_X11 mi_X11_fail ml_X11_fail (na := 1) ⟨md_X11.1, md_X11.2, by decide +kernel⟩ rfl ⟨by decide, by decide⟩ (Nat.le_of_ble_eq_true rfl) dX11_unit_90 (fun t8 hq => ?_)
      obtain ⟨hF, ht8_fact0, hI, g9⟩ := hq
      replace E := zLet_s hF E
      have ft8_11 : (t8.1 a0 11).toInt = (σ.1 a0 11).toInt := by rw [g9.2.1 11 (by decide)]
      have ft8_38 : (t8.1 a0 38).toInt = (σ.1 a0 38).toInt := by rw [g9.2.1 38 (by decide)]
      have hS := hS.tr g9 (by decide) (by decide)
      have at8_39 := zp_same hI ha0 g9 39 rfl (by decide) (by decide)
      have at8_40 := zp_same hI ha0 g9 40 rfl (by decide) (by decide)
      exact ret _ _ _ dX11_unit_93 ⟨E.symm.trans hR, ⟨⟨(by omega), (fun j h0 h1 => by first | (rw [at8_39, at8_40, z39 j h0, z40 j h0, if_neg (by omega), if_neg (by omega)]; exact ⟨rfl, rfl⟩) | exact ⟨congrFun at8_39 j, congrFun at8_40 j⟩), (fun h0 => by first | (exfalso; omega) | (rw [at8_39, at8_40, z39 _ (by omega), z40 _ (by omega), if_pos rfl, if_pos rfl]; omega))⟩, hI, hS⟩⟩
    · skip
      replace E := zIf_t c6 E
      refine zg_aload_n X 0 rfl dX11_unit_36 ?_
      refine fg_X11_20 X hI ha0 dX11_unit_37 (fun v10 ev10 hv10 => ?_)
      replace E := zLet_s (zgr ev10) E
      refine zg_aload_n X 0 rfl dX11_unit_40 ?_
      refine fg_X11_209 X hI ha0 dX11_unit_41 (fun v11 ev11 hv11 => ?_)
      replace E := zLet_s ev11 E
      have kv11 : (σ.1 a0 11).toInt = v11.toInt := by rw [ev11]
      refine ag_105 X hI hv10 (by omega) (by omega) dX11_unit_44 (fun v12 ev12 _ => ?_)
      replace E := zLet_s ev12 E
      have qv12 := zp_ld ev10 ev12
      rw [← kv11] at qv12
      refine zg_bipush X 33 dX11_unit_45 (by decide) (fun v13 _ hv13 => ?_)
      replace E := zLet_s (zcst hv13 (by decide)) E
      have zv12_z14 := zb_rng v12
      refine zg_icmp_lt X 88 dX11_unit_47 (by decide) (fun c15 => ?_) (fun c15 => ?_)
      · skip
        replace E := zIf_t c15 E
        refine zg_aload_n X 0 rfl dX11_unit_88 ?_
        refine zg_iconst X 1 dX11_unit_89 (by decide) (fun v16 _ hv16 => ?_)
        replace E := zLet_s (zcst hv16 (by decide)) E
        refine zg_cVv (As := [.int v16]) (st := []) X ha0 rfl (by decide) rfl (t_X11_fail l d L kd κ _ hI a0 ha0 v16  (by omega)) mk_X11_221 mc_X11_fail mz_X11 mi_X11_fail ml_X11_fail (na := 1) ⟨md_X11.1, md_X11.2, by decide +kernel⟩ rfl ⟨by decide, by decide⟩ (Nat.le_of_ble_eq_true rfl) dX11_unit_90 (fun t17 hq => ?_)
        obtain ⟨hF, ht17_fact0, hI, g18⟩ := hq
        replace E := zLet_s hF E
        have ft17_11 : (t17.1 a0 11).toInt = (σ.1 a0 11).toInt := by rw [g18.2.1 11 (by decide)]
        have ft17_38 : (t17.1 a0 38).toInt = (σ.1 a0 38).toInt := by rw [g18.2.1 38 (by decide)]
        have hS := hS.tr g18 (by decide) (by decide)
        have at17_39 := zp_same hI ha0 g18 39 rfl (by decide) (by decide)
        have at17_40 := zp_same hI ha0 g18 40 rfl (by decide) (by decide)
        exact ret _ _ _ dX11_unit_93 ⟨E.symm.trans hR, ⟨⟨(by omega), (fun j h0 h1 => by first | (rw [at17_39, at17_40, z39 j h0, z40 j h0, if_neg (by omega), if_neg (by omega)]; exact ⟨rfl, rfl⟩) | exact ⟨congrFun at17_39 j, congrFun at17_40 j⟩), (fun h0 => by first | (exfalso; omega) | (rw [at17_39, at17_40, z39 _ (by omega), z40 _ (by omega), if_pos rfl, if_pos rfl]; omega))⟩, hI, hS⟩⟩
      · skip
        replace E := zIf_f (Int.not_lt.mpr c15) E
        refine zg_aload_n X 0 rfl dX11_unit_50 ?_
        refine fg_X11_20 X hI ha0 dX11_unit_51 (fun v20 ev20 hv20 => ?_)
        replace E := zLet_s (zgr ev20) E
        refine zg_aload_n X 0 rfl dX11_unit_54 ?_
        refine fg_X11_209 X hI ha0 dX11_unit_55 (fun v21 ev21 hv21 => ?_)
        replace E := zLet_s ev21 E
        have kv21 : (σ.1 a0 11).toInt = v21.toInt := by rw [ev21]
        have mv21 : v21.toInt = v11.toInt := by rw [ev21, ← ev11]
        refine ag_105 X hI hv20 (by omega) (by omega) dX11_unit_58 (fun v22 ev22 _ => ?_)
        replace E := zLet_s ev22 E
        have qv22 := zp_ld ev20 ev22
        rw [← kv21] at qv22
        refine zg_bipush X 41 dX11_unit_59 (by decide) (fun v23 _ hv23 => ?_)
        replace E := zLet_s (zcst hv23 (by decide)) E
        have zv22_z24 := zb_rng v22
        refine zg_icmp_gt X 88 dX11_unit_61 (by decide) (fun c25 => ?_) (fun c25 => ?_)
        · skip
          replace E := zIf_t c25 E
          refine zg_aload_n X 0 rfl dX11_unit_88 ?_
          refine zg_iconst X 1 dX11_unit_89 (by decide) (fun v26 _ hv26 => ?_)
          replace E := zLet_s (zcst hv26 (by decide)) E
          refine zg_cVv (As := [.int v26]) (st := []) X ha0 rfl (by decide) rfl (t_X11_fail l d L kd κ _ hI a0 ha0 v26  (by omega)) mk_X11_221 mc_X11_fail mz_X11 mi_X11_fail ml_X11_fail (na := 1) ⟨md_X11.1, md_X11.2, by decide +kernel⟩ rfl ⟨by decide, by decide⟩ (Nat.le_of_ble_eq_true rfl) dX11_unit_90 (fun t27 hq => ?_)
          obtain ⟨hF, ht27_fact0, hI, g28⟩ := hq
          replace E := zLet_s hF E
          have ft27_11 : (t27.1 a0 11).toInt = (σ.1 a0 11).toInt := by rw [g28.2.1 11 (by decide)]
          have ft27_38 : (t27.1 a0 38).toInt = (σ.1 a0 38).toInt := by rw [g28.2.1 38 (by decide)]
          have hS := hS.tr g28 (by decide) (by decide)
          have at27_39 := zp_same hI ha0 g28 39 rfl (by decide) (by decide)
          have at27_40 := zp_same hI ha0 g28 40 rfl (by decide) (by decide)
          exact ret _ _ _ dX11_unit_93 ⟨E.symm.trans hR, ⟨⟨(by omega), (fun j h0 h1 => by first | (rw [at27_39, at27_40, z39 j h0, z40 j h0, if_neg (by omega), if_neg (by omega)]; exact ⟨rfl, rfl⟩) | exact ⟨congrFun at27_39 j, congrFun at27_40 j⟩), (fun h0 => by first | (exfalso; omega) | (rw [at27_39, at27_40, z39 _ (by omega), z40 _ (by omega), if_pos rfl, if_pos rfl]; omega))⟩, hI, hS⟩⟩
        · skip
          replace E := zIf_f (Int.not_lt.mpr c25) E
          refine zg_aload_n X 0 rfl dX11_unit_64 ?_
          refine zg_iconst X 1 dX11_unit_65 (by decide) (fun v30 _ hv30 => ?_)
          replace E := zLet_s (zcst hv30 (by decide)) E
          refine zg_aload_n X 0 rfl dX11_unit_66 ?_
          refine fg_X11_20 X hI ha0 dX11_unit_67 (fun v31 ev31 hv31 => ?_)
          replace E := zLet_s (zgr ev31) E
          refine zg_aload_n X 0 rfl dX11_unit_70 ?_
          refine fg_X11_209 X hI ha0 dX11_unit_71 (fun v32 ev32 hv32 => ?_)
          replace E := zLet_s ev32 E
          have kv32 : (σ.1 a0 11).toInt = v32.toInt := by rw [ev32]
          have mv32 : v32.toInt = v21.toInt := by rw [ev32, ← ev21]
          refine ag_105 X hI hv31 (by omega) (by omega) dX11_unit_74 (fun v33 ev33 _ => ?_)
          replace E := zLet_s ev33 E
          have qv33 := zp_ld ev31 ev33
          rw [← kv32] at qv33
          refine zg_bipush X 33 dX11_unit_75 (by decide) (fun v34 _ hv34 => ?_)
          replace E := zLet_s (zcst hv34 (by decide)) E
          refine zg_isub X dX11_unit_77 (by omega) (by omega) (fun v35 ev35 hv35 => ?_)
          replace E := zLet_s ev35 E
          refine zg_cVv (As := [.int v30, .int v35]) (st := []) X ha0 rfl (by decide) rfl (t_X11_emit l d L kd κ _ hI a0 ha0 v30 v35  (by omega)) mk_X11_300 mc_X11_emit mz_X11 mi_X11_emit ml_X11_emit (na := 2) ⟨md_X11.1, md_X11.2, by decide +kernel⟩ rfl ⟨by decide, by decide⟩ (Nat.le_of_ble_eq_true rfl) dX11_unit_78 (fun t36 hq => ?_)
          obtain ⟨hF, ⟨ht36_fact0, ht36_fact1, ht36_fact2⟩, hI, g37⟩ := hq
          replace E := zLet_s hF E
          have ft36_11 : (t36.1 a0 11).toInt = (σ.1 a0 11).toInt := by rw [g37.2.1 11 (by decide)]
          have ft36_13 : (t36.1 a0 13).toInt = (σ.1 a0 13).toInt := by rw [g37.2.1 13 (by decide)]
          have hS := hS.tr g37 (by decide) (by decide)
          have z39 := ht36_fact1
          have z40 := ht36_fact2
          refine zg_aload_n X 0 rfl dX11_unit_81 ?_
          refine zg_cVv (As := []) (st := []) X ha0 rfl (by decide) rfl (t_X11_goesOn l d L kd κ _ hI a0 ha0   ) mk_X11_227 mc_X11_goesOn mz_X11 mi_X11_goesOn ml_X11_goesOn (na := 0) ⟨md_X11.1, md_X11.2, by decide +kernel⟩ rfl ⟨by decide, by decide⟩ (Nat.le_of_ble_eq_true rfl) dX11_unit_82 (fun t40 hq => ?_)
          obtain ⟨hF, ht40_fact0, hI, g41⟩ := hq
          replace E := zLet_s hF E
          have ft40_38 : (t40.1 a0 38).toInt = (t36.1 a0 38).toInt := by rw [g41.2.1 38 (by decide)]
          have hS := hS.tr g41 (by decide) (by decide)
          have at40_39 := zp_same hI ha0 g41 39 rfl (by decide) (by decide)
          have at40_40 := zp_same hI ha0 g41 40 rfl (by decide) (by decide)
          refine zg_goto X 93 dX11_unit_85 (by decide) ?_
          exact ret _ _ _ dX11_unit_93 ⟨E.symm.trans hR, ⟨⟨(by omega), (fun j h0 h1 => by first | (rw [at40_39, at40_40, z39 j h0, z40 j h0, if_neg (by omega), if_neg (by omega)]; exact ⟨rfl, rfl⟩) | exact ⟨congrFun at40_39 j, congrFun at40_40 j⟩), (fun h0 => by first | (exfalso; omega) | (rw [at40_39, at40_40, z39 _ (by omega), z40 _ (by omega), if_pos rfl, if_pos rfl]; omega))⟩, hI, hS⟩⟩
  · skip
    replace E := zIf_f c4 E
    refine zg_aload_n X 0 rfl dX11_unit_8 ?_
    refine zg_iconst X 0 dX11_unit_9 (by decide) (fun v42 _ hv42 => ?_)
    replace E := zLet_s (zcst hv42 (by decide)) E
    refine zg_aload_n X 0 rfl dX11_unit_10 ?_
    refine fg_X11_27 X hI ha0 dX11_unit_11 (fun v43 ev43 hv43 => ?_)
    replace E := zLet_s (zgr ev43) E
    refine zg_aload_n X 0 rfl dX11_unit_14 ?_
    refine fg_X11_209 X hI ha0 dX11_unit_15 (fun v44 ev44 hv44 => ?_)
    replace E := zLet_s ev44 E
    have kv44 : (σ.1 a0 11).toInt = v44.toInt := by rw [ev44]
    refine ag_107 X hI hv43 (by omega) (by omega) dX11_unit_18 (fun v45 ev45 _ => ?_)
    replace E := zLet_s ev45 E
    refine zg_cVv (As := [.int v42, .int v45]) (st := []) X ha0 rfl (by decide) rfl (t_X11_emit l d L kd κ _ hI a0 ha0 v42 v45  (by omega)) mk_X11_300 mc_X11_emit mz_X11 mi_X11_emit ml_X11_emit (na := 2) ⟨md_X11.1, md_X11.2, by decide +kernel⟩ rfl ⟨by decide, by decide⟩ (Nat.le_of_ble_eq_true rfl) dX11_unit_19 (fun t46 hq => ?_)
    obtain ⟨hF, ⟨ht46_fact0, ht46_fact1, ht46_fact2⟩, hI, g47⟩ := hq
    replace E := zLet_s hF E
    have ft46_11 : (t46.1 a0 11).toInt = (σ.1 a0 11).toInt := by rw [g47.2.1 11 (by decide)]
    have ft46_13 : (t46.1 a0 13).toInt = (σ.1 a0 13).toInt := by rw [g47.2.1 13 (by decide)]
    have hS := hS.tr g47 (by decide) (by decide)
    have z39 := ht46_fact1
    have z40 := ht46_fact2
    refine zg_aload_n X 0 rfl dX11_unit_22 ?_
    refine zg_cVv (As := []) (st := []) X ha0 rfl (by decide) rfl (t_X11_goesOn l d L kd κ _ hI a0 ha0   ) mk_X11_227 mc_X11_goesOn mz_X11 mi_X11_goesOn ml_X11_goesOn (na := 0) ⟨md_X11.1, md_X11.2, by decide +kernel⟩ rfl ⟨by decide, by decide⟩ (Nat.le_of_ble_eq_true rfl) dX11_unit_23 (fun t49 hq => ?_)
    obtain ⟨hF, ht49_fact0, hI, g50⟩ := hq
    replace E := zLet_s hF E
    have ft49_38 : (t49.1 a0 38).toInt = (t46.1 a0 38).toInt := by rw [g50.2.1 38 (by decide)]
    have hS := hS.tr g50 (by decide) (by decide)
    have at49_39 := zp_same hI ha0 g50 39 rfl (by decide) (by decide)
    have at49_40 := zp_same hI ha0 g50 40 rfl (by decide) (by decide)
    refine zg_goto X 93 dX11_unit_26 (by decide) ?_
    exact ret _ _ _ dX11_unit_93 ⟨E.symm.trans hR, ⟨⟨(by omega), (fun j h0 h1 => by first | (rw [at49_39, at49_40, z39 j h0, z40 j h0, if_neg (by omega), if_neg (by omega)]; exact ⟨rfl, rfl⟩) | exact ⟨congrFun at49_39 j, congrFun at49_40 j⟩), (fun h0 => by first | (exfalso; omega) | (rw [at49_39, at49_40, z39 _ (by omega), z40 _ (by omega), if_pos rfl, if_pos rfl]; omega))⟩, hI, hS⟩⟩
