set_option maxHeartbeats 4000000 in
set_option maxRecDepth 100000 in
theorem t_X7_append (l : Launch) (d : zD2) (L : List Nat) (kd : Nat → Nat) (κ : Int) (b : Nat) (σ : zS) (hI : zI κ b L kd σ) (a0 : Nat) (ha0 : zT L kd a0 7) (p1 : Int32) (hq0 : 0 ≤ κ ∧ κ ≤ 1996) : zMv l yX7_append (Cond.code yX7_append cX7_append 3 none :: zWL) 0 [.ref a0, .int p1] d L kd σ (fun σ2 => σ2 = F_X7_append a0 p1 σ ∧ zSm [7, 39] [] L kd σ σ2 ∧ (zI (κ + 4) b L kd σ2)) := by
  refine zMv.of (own := RX7) (by decide +kernel) rfl rfl (Nat.le_of_ble_eq_true rfl) ?_
  intro p e s m args below meth c A Q X ret
  refine zg_lv (lv2 := [(0, .ref a0), (1, .int p1)]) rfl ?_
  obtain ⟨R, hR⟩ : ∃ R, R = F_X7_append a0 p1 σ := ⟨_, rfl⟩
  have E := hR
  unfold F_X7_append at E
  have hS : zSm [7, 39] [] L kd σ σ := zSm.rf
  refine zg_bipush X 24 dX7_append_0 (by decide) (fun v1 _ hv1 => ?_)
  replace E := zLet_s (zcst hv1 (by decide)) E
  refine zg_istore_n X [(2, .int v1), (0, .ref a0), (1, .int p1)] dX7_append_2 (by decide) rfl ?_
  refine zg_iload_n X 0 rfl dX7_append_3 ?_
  refine zg_if_lt X 48 dX7_append_4 (by decide) (fun c2 => ?_) (fun c2 => ?_)
  · omega
  · skip
    replace E := zIf_f (Int.not_lt.mpr c2) E
    refine zg_aload_n X 1 rfl dX7_append_7 ?_
    refine fg_X7_15 X hI ha0 dX7_append_8 (fun v3 ev3 hv3 => ?_)
    replace E := zLet_s ev3 E
    have hkv3 := hI.2.2.1
    refine zg_aload_n X 1 rfl dX7_append_11 ?_
    refine fg_X7_9 X hI ha0 dX7_append_12 (fun v4 ev4 hv4 => ?_)
    replace E := zLet_s (zgr ev4) E
    refine zg_alen12 X hv4 rfl (by decide) dX7_append_15 (fun v5 hv5 => ?_)
    have hv5 : v5.toInt = 2000 := hv5
    replace E := zLet_s (zcst hv5 (by decide)) E
    refine zg_icmp_ge X 42 dX7_append_16 (by decide) (fun c6 => ?_) (fun c6 => ?_)
    · skip
      replace E := zIf_f (Int.not_lt.mpr c6) E
      refine zg_iinc X (-8) (fun v7 => [(2, .int v7), (0, .ref a0), (1, .int p1)]) 0 dX7_append_42 rfl (by decide) (by decide) (by omega) (by omega) (fun _ => rfl) (fun v7 ev7 hv7 => ?_)
      replace E := zLet_s (zinc ev7 (by decide)) E
      refine zg_goto X 3 dX7_append_45 (by decide) ?_
      refine zg_iload_n X 0 rfl dX7_append_3 ?_
      refine zg_if_lt X 48 dX7_append_4 (by decide) (fun c8 => ?_) (fun c8 => ?_)
      · omega
      · skip
        replace E := zIf_f (Int.not_lt.mpr c8) E
        refine zg_aload_n X 1 rfl dX7_append_7 ?_
        refine fg_X7_15 X hI ha0 dX7_append_8 (fun v9 ev9 hv9 => ?_)
        replace E := zLet_s ev9 E
        have hkv9 := hI.2.2.1
        have mv9 : v9.toInt = v3.toInt := by rw [ev9, ← ev3]
        refine zg_aload_n X 1 rfl dX7_append_11 ?_
        refine fg_X7_9 X hI ha0 dX7_append_12 (fun v10 ev10 hv10 => ?_)
        replace E := zLet_s (zgr ev10) E
        refine zg_alen12 X hv10 rfl (by decide) dX7_append_15 (fun v11 hv11 => ?_)
        have hv11 : v11.toInt = 2000 := hv11
        replace E := zLet_s (zcst hv11 (by decide)) E
        refine zg_icmp_ge X 42 dX7_append_16 (by decide) (fun c12 => ?_) (fun c12 => ?_)
        · skip
          replace E := zIf_f (Int.not_lt.mpr c12) E
          refine zg_iinc X (-8) (fun v13 => [(2, .int v13), (0, .ref a0), (1, .int p1)]) 0 dX7_append_42 rfl (by decide) (by decide) (by omega) (by omega) (fun _ => rfl) (fun v13 ev13 hv13 => ?_)
          replace E := zLet_s (zinc ev13 (by decide)) E
          refine zg_goto X 3 dX7_append_45 (by decide) ?_
          refine zg_iload_n X 0 rfl dX7_append_3 ?_
          refine zg_if_lt X 48 dX7_append_4 (by decide) (fun c14 => ?_) (fun c14 => ?_)
          · omega
          · skip
            replace E := zIf_f (Int.not_lt.mpr c14) E
            refine zg_aload_n X 1 rfl dX7_append_7 ?_
            refine fg_X7_15 X hI ha0 dX7_append_8 (fun v15 ev15 hv15 => ?_)
            replace E := zLet_s ev15 E
            have hkv15 := hI.2.2.1
            have mv15 : v15.toInt = v9.toInt := by rw [ev15, ← ev9]
            refine zg_aload_n X 1 rfl dX7_append_11 ?_
            refine fg_X7_9 X hI ha0 dX7_append_12 (fun v16 ev16 hv16 => ?_)
            replace E := zLet_s (zgr ev16) E
            refine zg_alen12 X hv16 rfl (by decide) dX7_append_15 (fun v17 hv17 => ?_)
            have hv17 : v17.toInt = 2000 := hv17
            replace E := zLet_s (zcst hv17 (by decide)) E
            refine zg_icmp_ge X 42 dX7_append_16 (by decide) (fun c18 => ?_) (fun c18 => ?_)
            · skip
              replace E := zIf_f (Int.not_lt.mpr c18) E
              refine zg_iinc X (-8) (fun v19 => [(2, .int v19), (0, .ref a0), (1, .int p1)]) 0 dX7_append_42 rfl (by decide) (by decide) (by omega) (by omega) (fun _ => rfl) (fun v19 ev19 hv19 => ?_)
              replace E := zLet_s (zinc ev19 (by decide)) E
              refine zg_goto X 3 dX7_append_45 (by decide) ?_
              refine zg_iload_n X 0 rfl dX7_append_3 ?_
              refine zg_if_lt X 48 dX7_append_4 (by decide) (fun c20 => ?_) (fun c20 => ?_)
              · omega
              · skip
                replace E := zIf_f (Int.not_lt.mpr c20) E
                refine zg_aload_n X 1 rfl dX7_append_7 ?_
                refine fg_X7_15 X hI ha0 dX7_append_8 (fun v21 ev21 hv21 => ?_)
                replace E := zLet_s ev21 E
                have hkv21 := hI.2.2.1
                have mv21 : v21.toInt = v15.toInt := by rw [ev21, ← ev15]
                refine zg_aload_n X 1 rfl dX7_append_11 ?_
                refine fg_X7_9 X hI ha0 dX7_append_12 (fun v22 ev22 hv22 => ?_)
                replace E := zLet_s (zgr ev22) E
                refine zg_alen12 X hv22 rfl (by decide) dX7_append_15 (fun v23 hv23 => ?_)
                have hv23 : v23.toInt = 2000 := hv23
                replace E := zLet_s (zcst hv23 (by decide)) E
                refine zg_icmp_ge X 42 dX7_append_16 (by decide) (fun c24 => ?_) (fun c24 => ?_)
                · skip
                  replace E := zIf_f (Int.not_lt.mpr c24) E
                  refine zg_iinc X (-8) (fun v25 => [(2, .int v25), (0, .ref a0), (1, .int p1)]) 0 dX7_append_42 rfl (by decide) (by decide) (by omega) (by omega) (fun _ => rfl) (fun v25 ev25 hv25 => ?_)
                  replace E := zLet_s (zinc ev25 (by decide)) E
                  refine zg_goto X 3 dX7_append_45 (by decide) ?_
                  refine zg_iload_n X 0 rfl dX7_append_3 ?_
                  refine zg_if_lt X 48 dX7_append_4 (by decide) (fun c26 => ?_) (fun c26 => ?_)
                  · skip
                    replace E := zIf_t c26 E
                    exact ret _ _ _ dX7_append_48 ⟨E.symm.trans hR, hS, (zi_eq (by omega) hI)⟩
                  · omega
                · omega
            · omega
        · omega
    · skip
      replace E := zIf_t c6 E
      refine zg_aload_n X 1 rfl dX7_append_19 ?_
      refine fg_X7_9 X hI ha0 dX7_append_20 (fun v27 ev27 hv27 => ?_)
      replace E := zLet_s (zgr ev27) E
      refine zg_aload_n X 1 rfl dX7_append_23 ?_
      refine fg_X7_15 X hI ha0 dX7_append_24 (fun v28 ev28 hv28 => ?_)
      replace E := zLet_s ev28 E
      have hkv28 := hI.2.2.1
      have mv28 : v28.toInt = v3.toInt := by rw [ev28, ← ev3]
      refine zg_iload_n X 2 rfl dX7_append_27 ?_
      refine zg_iload_n X 0 rfl dX7_append_28 ?_
      refine zg_iushrW X dX7_append_29 (fun v29 ev29 => ?_)
      replace E := zLet_s ev29 E
      refine zg_i2b X dX7_append_30 (fun v30 ev30 => ?_)
      replace E := zLet_s ev30 E
      refine as_39 X hI hv27 (by omega) (by omega) dX7_append_31 (fun s31 es31 hI => ?_)
      replace E := zLet_s es31 E
      have hS := hS.i hv27 es31 rfl
      have e32 : v28 = s31.1 a0 1 := by rw [es31]; exact zm_k hv27 ha0 (by decide) ev28
      refine zg_aload_n X 1 rfl dX7_append_32 ?_
      refine zg_dup X dX7_append_33 rfl ?_
      refine fg_X7_15 X hI ha0 dX7_append_34 (fun v33 ev33 hv33 => ?_)
      replace E := zLet_s ev33 E
      have hkv33 := hI.2.2.1
      have mv33 : v33.toInt = v28.toInt := by rw [ev33, ← e32]
      refine zg_iconst X 1 dX7_append_37 (by decide) (fun v34 _ hv34 => ?_)
      replace E := zLet_s (zcst hv34 (by decide)) E
      refine zg_iadd X dX7_append_38 (by omega) (by omega) (fun v35 ev35 hv35 => ?_)
      replace E := zLet_s ev35 E
      refine fq_X7_15 X ha0 dX7_append_39 (fun s36 es36 => ?_)
      replace E := zLet_s es36 E
      have hS := hS.i ha0 es36 rfl
      have hI : zI v35.toInt b L kd s36 := by rw [es36]; exact zi_tape hI ha0 (by omega) (by omega)
      refine zg_iinc X (-8) (fun v37 => [(2, .int v37), (0, .ref a0), (1, .int p1)]) 0 dX7_append_42 rfl (by decide) (by decide) (by omega) (by omega) (fun _ => rfl) (fun v37 ev37 hv37 => ?_)
      replace E := zLet_s (zinc ev37 (by decide)) E
      refine zg_goto X 3 dX7_append_45 (by decide) ?_
      refine zg_iload_n X 0 rfl dX7_append_3 ?_
      refine zg_if_lt X 48 dX7_append_4 (by decide) (fun c38 => ?_) (fun c38 => ?_)
      · omega
      · skip
        replace E := zIf_f (Int.not_lt.mpr c38) E
        refine zg_aload_n X 1 rfl dX7_append_7 ?_
        refine fg_X7_15 X hI ha0 dX7_append_8 (fun v39 ev39 hv39 => ?_)
        replace E := zLet_s ev39 E
        have hkv39 := hI.2.2.1
        refine zg_aload_n X 1 rfl dX7_append_11 ?_
        refine fg_X7_9 X hI ha0 dX7_append_12 (fun v40 ev40 hv40 => ?_)
        replace E := zLet_s (zgr ev40) E
        refine zg_alen12 X hv40 rfl (by decide) dX7_append_15 (fun v41 hv41 => ?_)
        have hv41 : v41.toInt = 2000 := hv41
        replace E := zLet_s (zcst hv41 (by decide)) E
        refine zg_icmp_ge X 42 dX7_append_16 (by decide) (fun c42 => ?_) (fun c42 => ?_)
        · skip
          replace E := zIf_f (Int.not_lt.mpr c42) E
          refine zg_iinc X (-8) (fun v43 => [(2, .int v43), (0, .ref a0), (1, .int p1)]) 0 dX7_append_42 rfl (by decide) (by decide) (by omega) (by omega) (fun _ => rfl) (fun v43 ev43 hv43 => ?_)
          replace E := zLet_s (zinc ev43 (by decide)) E
          refine zg_goto X 3 dX7_append_45 (by decide) ?_
          refine zg_iload_n X 0 rfl dX7_append_3 ?_
          refine zg_if_lt X 48 dX7_append_4 (by decide) (fun c44 => ?_) (fun c44 => ?_)
          · omega
          · skip
            replace E := zIf_f (Int.not_lt.mpr c44) E
            refine zg_aload_n X 1 rfl dX7_append_7 ?_
            refine fg_X7_15 X hI ha0 dX7_append_8 (fun v45 ev45 hv45 => ?_)
            replace E := zLet_s ev45 E
            have hkv45 := hI.2.2.1
            have mv45 : v45.toInt = v39.toInt := by rw [ev45, ← ev39]
            refine zg_aload_n X 1 rfl dX7_append_11 ?_
            refine fg_X7_9 X hI ha0 dX7_append_12 (fun v46 ev46 hv46 => ?_)
            replace E := zLet_s (zgr ev46) E
            refine zg_alen12 X hv46 rfl (by decide) dX7_append_15 (fun v47 hv47 => ?_)
            have hv47 : v47.toInt = 2000 := hv47
            replace E := zLet_s (zcst hv47 (by decide)) E
            refine zg_icmp_ge X 42 dX7_append_16 (by decide) (fun c48 => ?_) (fun c48 => ?_)
            · skip
              replace E := zIf_f (Int.not_lt.mpr c48) E
              refine zg_iinc X (-8) (fun v49 => [(2, .int v49), (0, .ref a0), (1, .int p1)]) 0 dX7_append_42 rfl (by decide) (by decide) (by omega) (by omega) (fun _ => rfl) (fun v49 ev49 hv49 => ?_)
              replace E := zLet_s (zinc ev49 (by decide)) E
              refine zg_goto X 3 dX7_append_45 (by decide) ?_
              refine zg_iload_n X 0 rfl dX7_append_3 ?_
              refine zg_if_lt X 48 dX7_append_4 (by decide) (fun c50 => ?_) (fun c50 => ?_)
              · omega
              · skip
                replace E := zIf_f (Int.not_lt.mpr c50) E
                refine zg_aload_n X 1 rfl dX7_append_7 ?_
                refine fg_X7_15 X hI ha0 dX7_append_8 (fun v51 ev51 hv51 => ?_)
                replace E := zLet_s ev51 E
                have hkv51 := hI.2.2.1
                have mv51 : v51.toInt = v45.toInt := by rw [ev51, ← ev45]
                refine zg_aload_n X 1 rfl dX7_append_11 ?_
                refine fg_X7_9 X hI ha0 dX7_append_12 (fun v52 ev52 hv52 => ?_)
                replace E := zLet_s (zgr ev52) E
                refine zg_alen12 X hv52 rfl (by decide) dX7_append_15 (fun v53 hv53 => ?_)
                have hv53 : v53.toInt = 2000 := hv53
                replace E := zLet_s (zcst hv53 (by decide)) E
                refine zg_icmp_ge X 42 dX7_append_16 (by decide) (fun c54 => ?_) (fun c54 => ?_)
                · skip
                  replace E := zIf_f (Int.not_lt.mpr c54) E
                  refine zg_iinc X (-8) (fun v55 => [(2, .int v55), (0, .ref a0), (1, .int p1)]) 0 dX7_append_42 rfl (by decide) (by decide) (by omega) (by omega) (fun _ => rfl) (fun v55 ev55 hv55 => ?_)
                  replace E := zLet_s (zinc ev55 (by decide)) E
                  refine zg_goto X 3 dX7_append_45 (by decide) ?_
                  refine zg_iload_n X 0 rfl dX7_append_3 ?_
                  refine zg_if_lt X 48 dX7_append_4 (by decide) (fun c56 => ?_) (fun c56 => ?_)
                  · skip
                    replace E := zIf_t c56 E
                    exact ret _ _ _ dX7_append_48 ⟨E.symm.trans hR, hS, (zi_eq (by omega) hI)⟩
                  · omega
                · omega
            · omega
        · skip
          replace E := zIf_t c42 E
          refine zg_aload_n X 1 rfl dX7_append_19 ?_
          refine fg_X7_9 X hI ha0 dX7_append_20 (fun v57 ev57 hv57 => ?_)
          replace E := zLet_s (zgr ev57) E
          refine zg_aload_n X 1 rfl dX7_append_23 ?_
          refine fg_X7_15 X hI ha0 dX7_append_24 (fun v58 ev58 hv58 => ?_)
          replace E := zLet_s ev58 E
          have hkv58 := hI.2.2.1
          have mv58 : v58.toInt = v39.toInt := by rw [ev58, ← ev39]
          refine zg_iload_n X 2 rfl dX7_append_27 ?_
          refine zg_iload_n X 0 rfl dX7_append_28 ?_
          refine zg_iushrW X dX7_append_29 (fun v59 ev59 => ?_)
          replace E := zLet_s ev59 E
          refine zg_i2b X dX7_append_30 (fun v60 ev60 => ?_)
          replace E := zLet_s ev60 E
          refine as_39 X hI hv57 (by omega) (by omega) dX7_append_31 (fun s61 es61 hI => ?_)
          replace E := zLet_s es61 E
          have hS := hS.i hv57 es61 rfl
          have e62 : v58 = s61.1 a0 1 := by rw [es61]; exact zm_k hv57 ha0 (by decide) ev58
          refine zg_aload_n X 1 rfl dX7_append_32 ?_
          refine zg_dup X dX7_append_33 rfl ?_
          refine fg_X7_15 X hI ha0 dX7_append_34 (fun v63 ev63 hv63 => ?_)
          replace E := zLet_s ev63 E
          have hkv63 := hI.2.2.1
          have mv63 : v63.toInt = v58.toInt := by rw [ev63, ← e62]
          refine zg_iconst X 1 dX7_append_37 (by decide) (fun v64 _ hv64 => ?_)
          replace E := zLet_s (zcst hv64 (by decide)) E
          refine zg_iadd X dX7_append_38 (by omega) (by omega) (fun v65 ev65 hv65 => ?_)
          replace E := zLet_s ev65 E
          refine fq_X7_15 X ha0 dX7_append_39 (fun s66 es66 => ?_)
          replace E := zLet_s es66 E
          have hS := hS.i ha0 es66 rfl
          have hI : zI v65.toInt b L kd s66 := by rw [es66]; exact zi_tape hI ha0 (by omega) (by omega)
          refine zg_iinc X (-8) (fun v67 => [(2, .int v67), (0, .ref a0), (1, .int p1)]) 0 dX7_append_42 rfl (by decide) (by decide) (by omega) (by omega) (fun _ => rfl) (fun v67 ev67 hv67 => ?_)
          replace E := zLet_s (zinc ev67 (by decide)) E
          refine zg_goto X 3 dX7_append_45 (by decide) ?_
          refine zg_iload_n X 0 rfl dX7_append_3 ?_
          refine zg_if_lt X 48 dX7_append_4 (by decide) (fun c68 => ?_) (fun c68 => ?_)
          · omega
          · skip
            replace E := zIf_f (Int.not_lt.mpr c68) E
            refine zg_aload_n X 1 rfl dX7_append_7 ?_
            refine fg_X7_15 X hI ha0 dX7_append_8 (fun v69 ev69 hv69 => ?_)
            replace E := zLet_s ev69 E
            have hkv69 := hI.2.2.1
            refine zg_aload_n X 1 rfl dX7_append_11 ?_
            refine fg_X7_9 X hI ha0 dX7_append_12 (fun v70 ev70 hv70 => ?_)
            replace E := zLet_s (zgr ev70) E
            refine zg_alen12 X hv70 rfl (by decide) dX7_append_15 (fun v71 hv71 => ?_)
            have hv71 : v71.toInt = 2000 := hv71
            replace E := zLet_s (zcst hv71 (by decide)) E
            refine zg_icmp_ge X 42 dX7_append_16 (by decide) (fun c72 => ?_) (fun c72 => ?_)
            · skip
              replace E := zIf_f (Int.not_lt.mpr c72) E
              refine zg_iinc X (-8) (fun v73 => [(2, .int v73), (0, .ref a0), (1, .int p1)]) 0 dX7_append_42 rfl (by decide) (by decide) (by omega) (by omega) (fun _ => rfl) (fun v73 ev73 hv73 => ?_)
              replace E := zLet_s (zinc ev73 (by decide)) E
              refine zg_goto X 3 dX7_append_45 (by decide) ?_
              refine zg_iload_n X 0 rfl dX7_append_3 ?_
              refine zg_if_lt X 48 dX7_append_4 (by decide) (fun c74 => ?_) (fun c74 => ?_)
              · omega
              · skip
                replace E := zIf_f (Int.not_lt.mpr c74) E
                refine zg_aload_n X 1 rfl dX7_append_7 ?_
                refine fg_X7_15 X hI ha0 dX7_append_8 (fun v75 ev75 hv75 => ?_)
                replace E := zLet_s ev75 E
                have hkv75 := hI.2.2.1
                have mv75 : v75.toInt = v69.toInt := by rw [ev75, ← ev69]
                refine zg_aload_n X 1 rfl dX7_append_11 ?_
                refine fg_X7_9 X hI ha0 dX7_append_12 (fun v76 ev76 hv76 => ?_)
                replace E := zLet_s (zgr ev76) E
                refine zg_alen12 X hv76 rfl (by decide) dX7_append_15 (fun v77 hv77 => ?_)
                have hv77 : v77.toInt = 2000 := hv77
                replace E := zLet_s (zcst hv77 (by decide)) E
                refine zg_icmp_ge X 42 dX7_append_16 (by decide) (fun c78 => ?_) (fun c78 => ?_)
                · skip
                  replace E := zIf_f (Int.not_lt.mpr c78) E
                  refine zg_iinc X (-8) (fun v79 => [(2, .int v79), (0, .ref a0), (1, .int p1)]) 0 dX7_append_42 rfl (by decide) (by decide) (by omega) (by omega) (fun _ => rfl) (fun v79 ev79 hv79 => ?_)
                  replace E := zLet_s (zinc ev79 (by decide)) E
                  refine zg_goto X 3 dX7_append_45 (by decide) ?_
                  refine zg_iload_n X 0 rfl dX7_append_3 ?_
                  refine zg_if_lt X 48 dX7_append_4 (by decide) (fun c80 => ?_) (fun c80 => ?_)
                  · skip
                    replace E := zIf_t c80 E
                    exact ret _ _ _ dX7_append_48 ⟨E.symm.trans hR, hS, (zi_eq (by omega) hI)⟩
                  · omega
                · omega
            · skip
              replace E := zIf_t c72 E
              refine zg_aload_n X 1 rfl dX7_append_19 ?_
              refine fg_X7_9 X hI ha0 dX7_append_20 (fun v81 ev81 hv81 => ?_)
              replace E := zLet_s (zgr ev81) E
              refine zg_aload_n X 1 rfl dX7_append_23 ?_
              refine fg_X7_15 X hI ha0 dX7_append_24 (fun v82 ev82 hv82 => ?_)
              replace E := zLet_s ev82 E
              have hkv82 := hI.2.2.1
              have mv82 : v82.toInt = v69.toInt := by rw [ev82, ← ev69]
              refine zg_iload_n X 2 rfl dX7_append_27 ?_
              refine zg_iload_n X 0 rfl dX7_append_28 ?_
              refine zg_iushrW X dX7_append_29 (fun v83 ev83 => ?_)
              replace E := zLet_s ev83 E
              refine zg_i2b X dX7_append_30 (fun v84 ev84 => ?_)
              replace E := zLet_s ev84 E
              refine as_39 X hI hv81 (by omega) (by omega) dX7_append_31 (fun s85 es85 hI => ?_)
              replace E := zLet_s es85 E
              have hS := hS.i hv81 es85 rfl
              have e86 : v82 = s85.1 a0 1 := by rw [es85]; exact zm_k hv81 ha0 (by decide) ev82
              refine zg_aload_n X 1 rfl dX7_append_32 ?_
              refine zg_dup X dX7_append_33 rfl ?_
              refine fg_X7_15 X hI ha0 dX7_append_34 (fun v87 ev87 hv87 => ?_)
              replace E := zLet_s ev87 E
              have hkv87 := hI.2.2.1
              have mv87 : v87.toInt = v82.toInt := by rw [ev87, ← e86]
              refine zg_iconst X 1 dX7_append_37 (by decide) (fun v88 _ hv88 => ?_)
              replace E := zLet_s (zcst hv88 (by decide)) E
              refine zg_iadd X dX7_append_38 (by omega) (by omega) (fun v89 ev89 hv89 => ?_)
              replace E := zLet_s ev89 E
              refine fq_X7_15 X ha0 dX7_append_39 (fun s90 es90 => ?_)
              replace E := zLet_s es90 E
              have hS := hS.i ha0 es90 rfl
              have hI : zI v89.toInt b L kd s90 := by rw [es90]; exact zi_tape hI ha0 (by omega) (by omega)
              refine zg_iinc X (-8) (fun v91 => [(2, .int v91), (0, .ref a0), (1, .int p1)]) 0 dX7_append_42 rfl (by decide) (by decide) (by omega) (by omega) (fun _ => rfl) (fun v91 ev91 hv91 => ?_)
              replace E := zLet_s (zinc ev91 (by decide)) E
              refine zg_goto X 3 dX7_append_45 (by decide) ?_
              refine zg_iload_n X 0 rfl dX7_append_3 ?_
              refine zg_if_lt X 48 dX7_append_4 (by decide) (fun c92 => ?_) (fun c92 => ?_)
              · omega
              · skip
                replace E := zIf_f (Int.not_lt.mpr c92) E
                refine zg_aload_n X 1 rfl dX7_append_7 ?_
                refine fg_X7_15 X hI ha0 dX7_append_8 (fun v93 ev93 hv93 => ?_)
                replace E := zLet_s ev93 E
                have hkv93 := hI.2.2.1
                refine zg_aload_n X 1 rfl dX7_append_11 ?_
                refine fg_X7_9 X hI ha0 dX7_append_12 (fun v94 ev94 hv94 => ?_)
                replace E := zLet_s (zgr ev94) E
                refine zg_alen12 X hv94 rfl (by decide) dX7_append_15 (fun v95 hv95 => ?_)
                have hv95 : v95.toInt = 2000 := hv95
                replace E := zLet_s (zcst hv95 (by decide)) E
                refine zg_icmp_ge X 42 dX7_append_16 (by decide) (fun c96 => ?_) (fun c96 => ?_)
                · skip
                  replace E := zIf_f (Int.not_lt.mpr c96) E
                  refine zg_iinc X (-8) (fun v97 => [(2, .int v97), (0, .ref a0), (1, .int p1)]) 0 dX7_append_42 rfl (by decide) (by decide) (by omega) (by omega) (fun _ => rfl) (fun v97 ev97 hv97 => ?_)
                  replace E := zLet_s (zinc ev97 (by decide)) E
                  refine zg_goto X 3 dX7_append_45 (by decide) ?_
                  refine zg_iload_n X 0 rfl dX7_append_3 ?_
                  refine zg_if_lt X 48 dX7_append_4 (by decide) (fun c98 => ?_) (fun c98 => ?_)
                  · skip
                    replace E := zIf_t c98 E
                    exact ret _ _ _ dX7_append_48 ⟨E.symm.trans hR, hS, (zi_eq (by omega) hI)⟩
                  · omega
                · skip
                  replace E := zIf_t c96 E
                  refine zg_aload_n X 1 rfl dX7_append_19 ?_
                  refine fg_X7_9 X hI ha0 dX7_append_20 (fun v99 ev99 hv99 => ?_)
                  replace E := zLet_s (zgr ev99) E
                  refine zg_aload_n X 1 rfl dX7_append_23 ?_
                  refine fg_X7_15 X hI ha0 dX7_append_24 (fun v100 ev100 hv100 => ?_)
                  replace E := zLet_s ev100 E
                  have hkv100 := hI.2.2.1
                  have mv100 : v100.toInt = v93.toInt := by rw [ev100, ← ev93]
                  refine zg_iload_n X 2 rfl dX7_append_27 ?_
                  refine zg_iload_n X 0 rfl dX7_append_28 ?_
                  refine zg_iushrW X dX7_append_29 (fun v101 ev101 => ?_)
                  replace E := zLet_s ev101 E
                  refine zg_i2b X dX7_append_30 (fun v102 ev102 => ?_)
                  replace E := zLet_s ev102 E
                  refine as_39 X hI hv99 (by omega) (by omega) dX7_append_31 (fun s103 es103 hI => ?_)
                  replace E := zLet_s es103 E
                  have hS := hS.i hv99 es103 rfl
                  have e104 : v100 = s103.1 a0 1 := by rw [es103]; exact zm_k hv99 ha0 (by decide) ev100
                  refine zg_aload_n X 1 rfl dX7_append_32 ?_
                  refine zg_dup X dX7_append_33 rfl ?_
                  refine fg_X7_15 X hI ha0 dX7_append_34 (fun v105 ev105 hv105 => ?_)
                  replace E := zLet_s ev105 E
                  have hkv105 := hI.2.2.1
                  have mv105 : v105.toInt = v100.toInt := by rw [ev105, ← e104]
                  refine zg_iconst X 1 dX7_append_37 (by decide) (fun v106 _ hv106 => ?_)
                  replace E := zLet_s (zcst hv106 (by decide)) E
                  refine zg_iadd X dX7_append_38 (by omega) (by omega) (fun v107 ev107 hv107 => ?_)
                  replace E := zLet_s ev107 E
                  refine fq_X7_15 X ha0 dX7_append_39 (fun s108 es108 => ?_)
                  replace E := zLet_s es108 E
                  have hS := hS.i ha0 es108 rfl
                  have hI : zI v107.toInt b L kd s108 := by rw [es108]; exact zi_tape hI ha0 (by omega) (by omega)
                  refine zg_iinc X (-8) (fun v109 => [(2, .int v109), (0, .ref a0), (1, .int p1)]) 0 dX7_append_42 rfl (by decide) (by decide) (by omega) (by omega) (fun _ => rfl) (fun v109 ev109 hv109 => ?_)
                  replace E := zLet_s (zinc ev109 (by decide)) E
                  refine zg_goto X 3 dX7_append_45 (by decide) ?_
                  refine zg_iload_n X 0 rfl dX7_append_3 ?_
                  refine zg_if_lt X 48 dX7_append_4 (by decide) (fun c110 => ?_) (fun c110 => ?_)
                  · skip
                    replace E := zIf_t c110 E
                    exact ret _ _ _ dX7_append_48 ⟨E.symm.trans hR, hS, (zi_eq (by omega) hI)⟩
                  · omega
set_option maxHeartbeats 4000000 in
set_option maxRecDepth 100000 in
theorem t_X10_isPlace (l : Launch) (d : zD2) (L : List Nat) (kd : Nat → Nat) (κ : Int) (b : Nat) (σ : zS) (hI : zI κ b L kd σ) (a0 : Nat) (ha0 : zT L kd a0 10) (p1 : Int32) : zMi l yX10_isPlace (Cond.code yX10_isPlace cX10_isPlace 2 (some .boolean) :: zWL) 1 [.ref a0, .int p1] d L kd σ (fun v σ2 => (v, σ2) = F_X10_isPlace a0 p1 σ ∧ zSm [] [] L kd σ σ2 ∧ (((v.toInt = 1 ∧ 0 ≤ p1.toInt ∧ p1.toInt ≤ 11) ∨ v.toInt = 0) ∧ zI κ b L kd σ2)) := by
  refine zMi.of (own := RX10) (by decide +kernel) rfl rfl (Nat.le_of_ble_eq_true rfl) ?_
  intro p e s m args below meth c A Q X ret
  refine zg_lv (lv2 := [(0, .ref a0), (1, .int p1)]) rfl ?_
  obtain ⟨R, hR⟩ : ∃ R, R = F_X10_isPlace a0 p1 σ := ⟨_, rfl⟩
  have E := hR
  unfold F_X10_isPlace at E
  have hS : zSm [] [] L kd σ σ := zSm.rf
  refine zg_iload_n X 1 rfl dX10_isPlace_0 ?_
  refine zg_iconst X 0 dX10_isPlace_1 (by decide) (fun v1 _ hv1 => ?_)
  replace E := zLet_s (zcst hv1 (by decide)) E
  refine zg_aload_n X 0 rfl dX10_isPlace_2 ?_
  refine fg_X10_70 X hI ha0 dX10_isPlace_3 (fun v2 ev2 hv2 => ?_)
  replace E := zLet_s (zgr ev2) E
  refine fg_X10_175 X hI hv2 dX10_isPlace_6 (fun v3 ev3 hv3 => ?_)
  replace E := zLet_s ev3 E
  refine zg_iconst X 1 dX10_isPlace_9 (by decide) (fun v4 _ hv4 => ?_)
  replace E := zLet_s (zcst hv4 (by decide)) E
  refine zg_isub X dX10_isPlace_10 (by omega) (by omega) (fun v5 ev5 hv5 => ?_)
  replace E := zLet_s ev5 E
  refine zg_cSi (As := [.int p1, .int v1, .int v5]) (st := []) X (t_X10_isWithin l d L kd _ p1 v1 v5 ) mk_X10_229 mc_X10_isWithin mz_X10 ms_X10_isWithin (na := 3) ⟨md_X10.1, md_X10.2, by decide +kernel⟩ rfl ⟨by decide, by decide⟩ (Nat.le_of_ble_eq_true rfl) dX10_isPlace_11 (fun v6 σ2 hq => ?_)
  obtain ⟨⟨hF, hv6⟩, rfl⟩ := hq
  replace E := zLet_s hF E
  exact ret _ _ _ _ dX10_isPlace_14 (zb_bool ⟨by omega, by omega⟩) ⟨E.symm.trans hR, hS, ⟨by omega, hI⟩⟩
set_option maxHeartbeats 4000000 in
set_option maxRecDepth 100000 in
theorem t_X10_isLaw (l : Launch) (d : zD2) (L : List Nat) (kd : Nat → Nat) (κ : Int) (b : Nat) (σ : zS) (hI : zI κ b L kd σ) (a0 : Nat) (ha0 : zT L kd a0 10) (p1 : Int32) : zMi l yX10_isLaw (Cond.code yX10_isLaw cX10_isLaw 2 (some .boolean) :: zWL) 1 [.ref a0, .int p1] d L kd σ (fun v σ2 => (v, σ2) = F_X10_isLaw a0 p1 σ ∧ zSm [] [] L kd σ σ2 ∧ (((v.toInt = 1 ∧ 0 ≤ p1.toInt ∧ p1.toInt ≤ 2) ∨ v.toInt = 0) ∧ zI κ b L kd σ2)) := by
  refine zMi.of (own := RX10) (by decide +kernel) rfl rfl (Nat.le_of_ble_eq_true rfl) ?_
  intro p e s m args below meth c A Q X ret
  refine zg_lv (lv2 := [(0, .ref a0), (1, .int p1)]) rfl ?_
  obtain ⟨R, hR⟩ : ∃ R, R = F_X10_isLaw a0 p1 σ := ⟨_, rfl⟩
  have E := hR
  unfold F_X10_isLaw at E
  have hS : zSm [] [] L kd σ σ := zSm.rf
  refine zg_iload_n X 1 rfl dX10_isLaw_0 ?_
  refine zg_iconst X 0 dX10_isLaw_1 (by decide) (fun v1 _ hv1 => ?_)
  replace E := zLet_s (zcst hv1 (by decide)) E
  refine zg_iconst X 2 dX10_isLaw_2 (by decide) (fun v2 _ hv2 => ?_)
  replace E := zLet_s (zcst hv2 (by decide)) E
  refine zg_cSi (As := [.int p1, .int v1, .int v2]) (st := []) X (t_X10_isWithin l d L kd _ p1 v1 v2 ) mk_X10_229 mc_X10_isWithin mz_X10 ms_X10_isWithin (na := 3) ⟨md_X10.1, md_X10.2, by decide +kernel⟩ rfl ⟨by decide, by decide⟩ (Nat.le_of_ble_eq_true rfl) dX10_isLaw_3 (fun v3 σ2 hq => ?_)
  obtain ⟨⟨hF, hv3⟩, rfl⟩ := hq
  replace E := zLet_s hF E
  exact ret _ _ _ _ dX10_isLaw_6 (zb_bool ⟨by omega, by omega⟩) ⟨E.symm.trans hR, hS, ⟨by omega, hI⟩⟩
set_option maxHeartbeats 4000000 in
set_option maxRecDepth 100000 in
theorem t_X10_hasMouth (l : Launch) (d : zD2) (L : List Nat) (kd : Nat → Nat) (κ : Int) (b : Nat) (σ : zS) (hI : zI κ b L kd σ) (a0 : Nat) (ha0 : zT L kd a0 10) : zMi l yX10_hasMouth (Cond.code yX10_hasMouth cX10_hasMouth 1 (some .boolean) :: zWL) 0 [.ref a0] d L kd σ (fun v σ2 => (v, σ2) = F_X10_hasMouth a0 σ ∧ zSm [] [] L kd σ σ2 ∧ ((0 ≤ v.toInt ∧ v.toInt ≤ 1) ∧ zI κ b L kd σ2)) := by
  refine zMi.of (own := RX10) (by decide +kernel) rfl rfl (Nat.le_of_ble_eq_true rfl) ?_
  intro p e s m args below meth c A Q X ret
  refine zg_lv (lv2 := [(0, .ref a0)]) rfl ?_
  obtain ⟨R, hR⟩ : ∃ R, R = F_X10_hasMouth a0 σ := ⟨_, rfl⟩
  have E := hR
  unfold F_X10_hasMouth at E
  have hS : zSm [] [] L kd σ σ := zSm.rf
  refine zg_aload_n X 0 rfl dX10_hasMouth_0 ?_
  refine fg_X10_70 X hI ha0 dX10_hasMouth_1 (fun v1 ev1 hv1 => ?_)
  replace E := zLet_s (zgr ev1) E
  refine fg_X10_175 X hI hv1 dX10_hasMouth_4 (fun v2 ev2 hv2 => ?_)
  replace E := zLet_s ev2 E
  refine zg_if_le X 14 dX10_hasMouth_7 (by decide) (fun c3 => ?_) (fun c3 => ?_)
  · skip
    replace E := zIf_f (Int.not_lt.mpr c3) E
    refine zg_iconst X 0 dX10_hasMouth_14 (by decide) (fun v4 _ hv4 => ?_)
    replace E := zLet_s (zcst hv4 (by decide)) E
    exact ret _ _ _ _ dX10_hasMouth_15 (zb_bool ⟨by omega, by omega⟩) ⟨E.symm.trans hR, hS, ⟨⟨by omega, by omega⟩, hI⟩⟩
  · skip
    replace E := zIf_t c3 E
    refine zg_iconst X 1 dX10_hasMouth_10 (by decide) (fun v5 _ hv5 => ?_)
    replace E := zLet_s (zcst hv5 (by decide)) E
    refine zg_goto X 15 dX10_hasMouth_11 (by decide) ?_
    exact ret _ _ _ _ dX10_hasMouth_15 (zb_bool ⟨by omega, by omega⟩) ⟨E.symm.trans hR, hS, ⟨⟨by omega, by omega⟩, hI⟩⟩
set_option maxHeartbeats 4000000 in
set_option maxRecDepth 100000 in
theorem t_X10_mouthFlow (l : Launch) (d : zD2) (L : List Nat) (kd : Nat → Nat) (κ : Int) (b : Nat) (σ : zS) (hI : zI κ b L kd σ) (a0 : Nat) (ha0 : zT L kd a0 10) : zMi l yX10_mouthFlow (Cond.code yX10_mouthFlow cX10_mouthFlow 1 (some .int) :: zWL) 1 [.ref a0] d L kd σ (fun v σ2 => (v, σ2) = F_X10_mouthFlow a0 σ ∧ zSm [] [] L kd σ σ2 ∧ (zI κ b L kd σ2)) := by
  refine zMi.of (own := RX10) (by decide +kernel) rfl rfl (Nat.le_of_ble_eq_true rfl) ?_
  intro p e s m args below meth c A Q X ret
  refine zg_lv (lv2 := [(0, .ref a0)]) rfl ?_
  obtain ⟨R, hR⟩ : ∃ R, R = F_X10_mouthFlow a0 σ := ⟨_, rfl⟩
  have E := hR
  unfold F_X10_mouthFlow at E
  have hS : zSm [] [] L kd σ σ := zSm.rf
  refine zg_aload_n X 0 rfl dX10_mouthFlow_0 ?_
  refine zg_cVi (As := []) (st := []) X ha0 rfl (by decide) rfl (t_X10_hasMouth l d L kd κ b _ hI a0 ha0 ) mk_X10_277 mc_X10_hasMouth mz_X10 mi_X10_hasMouth ml_X10_hasMouth (na := 0) ⟨md_X10.1, md_X10.2, by decide +kernel⟩ rfl ⟨by decide, by decide⟩ (Nat.le_of_ble_eq_true rfl) dX10_mouthFlow_1 (fun v1 s2 hq => ?_)
  obtain ⟨hF, hS2, hI⟩ := hq
  replace E := zLet2_s hF E
  have hS := hS.tr hS2 rfl rfl
  obtain ⟨hv1, hI⟩ := hI
  refine zg_if_eq X 19 dX10_mouthFlow_4 (by decide) (fun c3 => ?_) (fun c3 => ?_)
  · skip
    replace E := zIf_t c3 E
    refine zg_iconst X 0 dX10_mouthFlow_19 (by decide) (fun v4 _ hv4 => ?_)
    replace E := zLet_s (zcst hv4 (by decide)) E
    exact ret _ _ _ _ dX10_mouthFlow_20 rfl ⟨E.symm.trans hR, hS, hI⟩
  · skip
    replace E := zIf_f c3 E
    refine zg_aload_n X 0 rfl dX10_mouthFlow_7 ?_
    refine fg_X10_26 X hI ha0 dX10_mouthFlow_8 (fun v5 ev5 hv5 => ?_)
    replace E := zLet_s (zgr ev5) E
    refine fg_X10_135 X hI hv5 dX10_mouthFlow_11 (fun v6 ev6 hv6 => ?_)
    replace E := zLet_s (zgr ev6) E
    refine zg_iconst X 0 dX10_mouthFlow_14 (by decide) (fun v7 _ hv7 => ?_)
    replace E := zLet_s (zcst hv7 (by decide)) E
    refine ag_31 X hI hv6 (by omega) (by omega) dX10_mouthFlow_15 (fun v8 ev8 _ => ?_)
    replace E := zLet_s ev8 E
    refine zg_goto X 20 dX10_mouthFlow_16 (by decide) ?_
    exact ret _ _ _ _ dX10_mouthFlow_20 rfl ⟨E.symm.trans hR, hS, hI⟩
set_option maxHeartbeats 4000000 in
set_option maxRecDepth 100000 in
theorem t_X10_look (l : Launch) (d : zD2) (L : List Nat) (kd : Nat → Nat) (κ : Int) (b : Nat) (σ : zS) (hI : zI κ b L kd σ) (a0 : Nat) (ha0 : zT L kd a0 10) : zMv l yX10_look (Cond.code yX10_look cX10_look 1 none :: zWL) 6 [.ref a0] d L kd σ (fun σ2 => σ2 = F_X10_look a0 σ ∧ zSm [6, 20, 21, 30, 31, 33, 34, 35, 36, 38] [5] L kd σ σ2 ∧ (zI κ 1 L kd σ2)) := by
  refine zMv.of (own := RX10) (by decide +kernel) rfl rfl (Nat.le_of_ble_eq_true rfl) ?_
  intro p e s m args below meth c A Q X ret
  refine zg_lv (lv2 := [(0, .ref a0)]) rfl ?_
  obtain ⟨R, hR⟩ : ∃ R, R = F_X10_look a0 σ := ⟨_, rfl⟩
  have E := hR
  unfold F_X10_look at E
  have hS : zSm [6, 20, 21, 30, 31, 33, 34, 35, 36, 38] [5] L kd σ σ := zSm.rf
  refine zg_aload_n X 0 rfl dX10_look_0 ?_
  refine fg_X10_26 X hI ha0 dX10_look_1 (fun v1 ev1 hv1 => ?_)
  replace E := zLet_s (zgr ev1) E
  refine zg_aload_n X 0 rfl dX10_look_4 ?_
  refine fg_X10_70 X hI ha0 dX10_look_5 (fun v2 ev2 hv2 => ?_)
  replace E := zLet_s (zgr ev2) E
  refine zg_aload_n X 0 rfl dX10_look_8 ?_
  refine fg_X10_52 X hI ha0 dX10_look_9 (fun v3 ev3 hv3 => ?_)
  replace E := zLet_s (zgr ev3) E
  refine zg_cVv (As := [.ref v2, .ref v3]) (st := []) X hv1 rfl (by decide) rfl (t_X5_look l d L kd κ b _ hI v1 hv1 v2 hv2 v3 hv3 ) mk_X10_271 mc_X5_look mz_X5 mi_X5_look ml_X5_look (na := 2) ⟨md_X5.1, md_X5.2, by decide +kernel⟩ rfl ⟨by decide, by decide⟩ (Nat.le_of_ble_eq_true rfl) dX10_look_12 (fun s4 hq => ?_)
  obtain ⟨hF, hS2, hI⟩ := hq
  replace E := zLet_s hF E
  have hS := hS.tr hS2 rfl rfl
  exact ret _ _ _ dX10_look_15 ⟨E.symm.trans hR, hS, hI⟩
set_option maxHeartbeats 4000000 in
set_option maxRecDepth 100000 in
theorem t_X10_isContest (l : Launch) (d : zD2) (L : List Nat) (kd : Nat → Nat) (κ : Int) (b : Nat) (σ : zS) (hI : zI κ b L kd σ) (a0 : Nat) (ha0 : zT L kd a0 10) (p1 : Int32) (p2 : Int32) : zMi l yX10_isContest (Cond.code yX10_isContest cX10_isContest 3 (some .boolean) :: zWL) 6 [.ref a0, .int p1, .int p2] d L kd σ (fun v σ2 => (v, σ2) = F_X10_isContest a0 p1 p2 σ ∧ zSm [6, 20, 21, 30, 31, 33, 34, 35, 36, 38] [5] L kd σ σ2 ∧ (((v.toInt = 1 ∧ 1 ≤ p1.toInt ∧ p1.toInt ≤ 11 ∧ 0 ≤ p2.toInt ∧ p2.toInt ≤ 2) ∨ v.toInt = 0) ∧ zI κ 1 L kd σ2)) := by
  refine zMi.of (own := RX10) (by decide +kernel) rfl rfl (Nat.le_of_ble_eq_true rfl) ?_
  intro p e s m args below meth c A Q X ret
  refine zg_lv (lv2 := [(0, .ref a0), (1, .int p1), (2, .int p2)]) rfl ?_
  obtain ⟨R, hR⟩ : ∃ R, R = F_X10_isContest a0 p1 p2 σ := ⟨_, rfl⟩
  have E := hR
  unfold F_X10_isContest at E
  have hS : zSm [6, 20, 21, 30, 31, 33, 34, 35, 36, 38] [5] L kd σ σ := zSm.rf
  refine zg_aload_n X 0 rfl dX10_isContest_0 ?_
  refine fg_X10_26 X hI ha0 dX10_isContest_1 (fun v1 ev1 hv1 => ?_)
  replace E := zLet_s (zgr ev1) E
  refine zg_aload_n X 0 rfl dX10_isContest_4 ?_
  refine fg_X10_70 X hI ha0 dX10_isContest_5 (fun v2 ev2 hv2 => ?_)
  replace E := zLet_s (zgr ev2) E
  refine zg_aload_n X 0 rfl dX10_isContest_8 ?_
  refine fg_X10_52 X hI ha0 dX10_isContest_9 (fun v3 ev3 hv3 => ?_)
  replace E := zLet_s (zgr ev3) E
  refine zg_cVv (As := [.ref v2, .ref v3]) (st := []) X hv1 rfl (by decide) rfl (t_X5_look l d L kd κ b _ hI v1 hv1 v2 hv2 v3 hv3 ) mk_X10_271 mc_X5_look mz_X5 mi_X5_look ml_X5_look (na := 2) ⟨md_X5.1, md_X5.2, by decide +kernel⟩ rfl ⟨by decide, by decide⟩ (Nat.le_of_ble_eq_true rfl) dX10_isContest_12 (fun s4 hq => ?_)
  obtain ⟨hF, hS2, hI⟩ := hq
  replace E := zLet_s hF E
  have hS := hS.tr hS2 rfl rfl
  refine zg_aload_n X 0 rfl dX10_isContest_15 ?_
  refine zg_iload_n X 2 rfl dX10_isContest_16 ?_
  refine zg_cVi (As := [.int p2]) (st := []) X ha0 rfl (by decide) rfl (t_X10_isLaw l d L kd κ 1 _ hI a0 ha0 p2 ) mk_X10_169 mc_X10_isLaw mz_X10 mi_X10_isLaw ml_X10_isLaw (na := 1) ⟨md_X10.1, md_X10.2, by decide +kernel⟩ rfl ⟨by decide, by decide⟩ (Nat.le_of_ble_eq_true rfl) dX10_isContest_17 (fun v5 s6 hq => ?_)
  obtain ⟨hF, hS2, hI⟩ := hq
  replace E := zLet2_s hF E
  have hS := hS.tr hS2 rfl rfl
  obtain ⟨hv5, hI⟩ := hI
  refine zg_if_eq X 38 dX10_isContest_20 (by decide) (fun c7 => ?_) (fun c7 => ?_)
  · skip
    replace E := zIf_t c7 E
    refine zg_iconst X 0 dX10_isContest_38 (by decide) (fun v8 _ hv8 => ?_)
    replace E := zLet_s (zcst hv8 (by decide)) E
    exact ret _ _ _ _ dX10_isContest_39 (zb_bool ⟨by omega, by omega⟩) ⟨E.symm.trans hR, hS, ⟨by omega, hI⟩⟩
  · skip
    replace E := zIf_f c7 E
    refine zg_aload_n X 0 rfl dX10_isContest_23 ?_
    refine fg_X10_34 X hI ha0 dX10_isContest_24 (fun v9 ev9 hv9 => ?_)
    replace E := zLet_s (zgr ev9) E
    refine zg_iload_n X 1 rfl dX10_isContest_27 ?_
    refine zg_cVi (As := [.int p1]) (st := []) X hv9 rfl (by decide) rfl (t_X6_isSource l d L kd κ 1 _ hI v9 hv9 p1 ) mk_X10_146 mc_X6_isSource mz_X6 mi_X6_isSource ml_X6_isSource (na := 1) ⟨md_X6.1, md_X6.2, by decide +kernel⟩ rfl ⟨by decide, by decide⟩ (Nat.le_of_ble_eq_true rfl) dX10_isContest_28 (fun v10 s11 hq => ?_)
    obtain ⟨hF, hS2, hI⟩ := hq
    replace E := zLet2_s hF E
    have hS := hS.tr hS2 rfl rfl
    obtain ⟨hv10, hI⟩ := hI
    refine zg_if_eq X 38 dX10_isContest_31 (by decide) (fun c12 => ?_) (fun c12 => ?_)
    · skip
      replace E := zIf_t c12 E
      refine zg_iconst X 0 dX10_isContest_38 (by decide) (fun v13 _ hv13 => ?_)
      replace E := zLet_s (zcst hv13 (by decide)) E
      exact ret _ _ _ _ dX10_isContest_39 (zb_bool ⟨by omega, by omega⟩) ⟨E.symm.trans hR, hS, ⟨by omega, hI⟩⟩
    · skip
      replace E := zIf_f c12 E
      refine zg_iconst X 1 dX10_isContest_34 (by decide) (fun v14 _ hv14 => ?_)
      replace E := zLet_s (zcst hv14 (by decide)) E
      refine zg_goto X 39 dX10_isContest_35 (by decide) ?_
      exact ret _ _ _ _ dX10_isContest_39 (zb_bool ⟨by omega, by omega⟩) ⟨E.symm.trans hR, hS, ⟨by omega, hI⟩⟩
set_option maxHeartbeats 4000000 in
set_option maxRecDepth 100000 in
theorem t_X10_beginAnew (l : Launch) (d : zD2) (L : List Nat) (kd : Nat → Nat) (κ : Int) (b : Nat) (σ : zS) (hI : zI κ b L kd σ) (a0 : Nat) (ha0 : zT L kd a0 10) : zMv l yX10_beginAnew (Cond.code yX10_beginAnew cX10_beginAnew 1 none :: zWL) 2 [.ref a0] d L kd σ (fun σ2 => σ2 = F_X10_beginAnew a0 σ ∧ zSm [1, 2, 4, 10, 22, 23, 24] [] L kd σ σ2 ∧ (zI κ b L kd σ2)) := by
  refine zMv.of (own := RX10) (by decide +kernel) rfl rfl (Nat.le_of_ble_eq_true rfl) ?_
  intro p e s m args below meth c A Q X ret
  refine zg_lv (lv2 := [(0, .ref a0)]) rfl ?_
  obtain ⟨R, hR⟩ : ∃ R, R = F_X10_beginAnew a0 σ := ⟨_, rfl⟩
  have E := hR
  unfold F_X10_beginAnew at E
  have hS : zSm [1, 2, 4, 10, 22, 23, 24] [] L kd σ σ := zSm.rf
  refine zg_aload_n X 0 rfl dX10_beginAnew_0 ?_
  refine fg_X10_52 X hI ha0 dX10_beginAnew_1 (fun v1 ev1 hv1 => ?_)
  replace E := zLet_s (zgr ev1) E
  refine zg_aload_n X 0 rfl dX10_beginAnew_4 ?_
  refine fg_X10_70 X hI ha0 dX10_beginAnew_5 (fun v2 ev2 hv2 => ?_)
  replace E := zLet_s (zgr ev2) E
  refine zg_cVv (As := [.ref v2]) (st := []) X hv1 rfl (by decide) rfl (t_X1_begin l d L kd κ b _ hI v1 hv1 v2 hv2 ) mk_X10_103 mc_X1_begin mz_X1 mi_X1_begin ml_X1_begin (na := 1) ⟨md_X1.1, md_X1.2, by decide +kernel⟩ rfl ⟨by decide, by decide⟩ (Nat.le_of_ble_eq_true rfl) dX10_beginAnew_8 (fun s3 hq => ?_)
  obtain ⟨hF, hS2, hI⟩ := hq
  replace E := zLet_s hF E
  have hS := hS.tr hS2 rfl rfl
  refine zg_aload_n X 0 rfl dX10_beginAnew_11 ?_
  refine fg_X10_38 X hI ha0 dX10_beginAnew_12 (fun v4 ev4 hv4 => ?_)
  replace E := zLet_s (zgr ev4) E
  refine zg_iconst X 0 dX10_beginAnew_15 (by decide) (fun v5 _ hv5 => ?_)
  replace E := zLet_s (zcst hv5 (by decide)) E
  refine fp_X10_107 X hI hv4 ⟨by omega, by omega⟩ dX10_beginAnew_16 (fun s6 es6 hI => ?_)
  replace E := zLet_s es6 E
  have hS := hS.i hv4 es6 rfl
  refine zg_aload_n X 0 rfl dX10_beginAnew_19 ?_
  refine fg_X10_45 X hI ha0 dX10_beginAnew_20 (fun v7 ev7 hv7 => ?_)
  replace E := zLet_s (zgr ev7) E
  refine zg_iconst X 0 dX10_beginAnew_23 (by decide) (fun v8 _ hv8 => ?_)
  replace E := zLet_s (zcst hv8 (by decide)) E
  refine fp_X10_108 X hI hv7 ⟨by omega, by omega⟩ dX10_beginAnew_24 (fun s9 es9 hI => ?_)
  replace E := zLet_s es9 E
  have hS := hS.i hv7 es9 rfl
  refine zg_aload_n X 0 rfl dX10_beginAnew_27 ?_
  refine zg_iconst X 0 dX10_beginAnew_28 (by decide) (fun v10 _ hv10 => ?_)
  replace E := zLet_s (zcst hv10 (by decide)) E
  refine fp_X10_77 X hI ha0 (zb_rng _) dX10_beginAnew_29 (fun s11 es11 hI => ?_)
  replace E := zLet_s es11 E
  have hS := hS.i ha0 es11 rfl
  exact ret _ _ _ dX10_beginAnew_32 ⟨E.symm.trans hR, hS, hI⟩
set_option maxHeartbeats 4000000 in
set_option maxRecDepth 100000 in
theorem t_X10_sumOf (l : Launch) (d : zD2) (L : List Nat) (kd : Nat → Nat) (κ : Int) (b : Nat) (σ : zS) (hI : zI κ b L kd σ) (a0 : Nat) (ha0 : zT L kd a0 10) (kp1 : Nat) (p1 : Nat) (hp1 : zT L kd p1 kp1) (hkp1 : zb kp1 = 13) (hzp1 : 12 ≤ zn kp1) : zMi l yX10_sumOf (Cond.code yX10_sumOf cX10_sumOf 4 (some .int) :: zWL) 0 [.ref a0, .ref p1] d L kd σ (fun v σ2 => (v, σ2) = F_X10_sumOf a0 p1 σ ∧ zSm [] [] L kd σ σ2 ∧ (zI κ b L kd σ2)) := by
  refine zMi.of (own := RX10) (by decide +kernel) rfl rfl (Nat.le_of_ble_eq_true rfl) ?_
  intro p e s m args below meth c A Q X ret
  refine zg_lv (lv2 := [(0, .ref a0), (1, .ref p1)]) rfl ?_
  obtain ⟨R, hR⟩ : ∃ R, R = F_X10_sumOf a0 p1 σ := ⟨_, rfl⟩
  have E := hR
  unfold F_X10_sumOf at E
  have hS : zSm [] [] L kd σ σ := zSm.rf
  refine zg_iconst X 0 dX10_sumOf_0 (by decide) (fun v1 _ hv1 => ?_)
  replace E := zLet_s (zcst hv1 (by decide)) E
  refine zg_istore_n X [(2, .int v1), (0, .ref a0), (1, .ref p1)] dX10_sumOf_1 (by decide) rfl ?_
  refine zg_iconst X 0 dX10_sumOf_2 (by decide) (fun v2 _ hv2 => ?_)
  replace E := zLet_s (zcst hv2 (by decide)) E
  refine zg_istore_n X [(3, .int v2), (2, .int v1), (0, .ref a0), (1, .ref p1)] dX10_sumOf_3 (by decide) rfl ?_
  have Lp5 : ∀ (nLp5 : Nat) (τ5 : zS) (x3 : Int32) (x4 : Int32), zI κ b L kd τ5 → zSm [] [] L kd σ τ5 → R = F_X10_sumOf_4 a0 p1  nLp5 x3 x4 τ5 → 0 ≤ x3.toInt ∧ x3.toInt ≤ 12 → (12) - x3.toInt + 1 < (nLp5 : Int) → zG d L kd A 4 p l e (k2_rm 0 (100 * 0)) s m args below meth c Q τ5 4 [(3, .int x3), (2, .int x4), (0, .ref a0), (1, .ref p1)] [] := by
    intro nLp5
    induction nLp5 with
    | zero => intro τ5 x3 x4 hI hS E  hxLp5 hm ; exact absurd hm (by omega)
    | succ nLp5 ihLp5 =>
      intro τ5 x3 x4 hI hS E  hxLp5 hmLp5 
      rw [F_X10_sumOf_4] at E
      refine zg_iload_n X 0 rfl dX10_sumOf_4 ?_
      refine zg_aload_n X 2 rfl dX10_sumOf_5 ?_
      refine fg_X10_70 X hI ha0 dX10_sumOf_6 (fun v6 ev6 hv6 => ?_)
      replace E := zLet_s (zgr ev6) E
      refine fg_X10_175 X hI hv6 dX10_sumOf_9 (fun v7 ev7 hv7 => ?_)
      replace E := zLet_s ev7 E
      refine zg_icmp_ge X 27 dX10_sumOf_12 (by decide) (fun c8 => ?_) (fun c8 => ?_)
      · skip
        replace E := zIf_f (Int.not_lt.mpr c8) E
        refine zg_iload_n X 1 rfl dX10_sumOf_27 ?_
        exact ret _ _ _ _ dX10_sumOf_28 rfl ⟨E.symm.trans hR, hS, hI⟩
      · skip
        replace E := zIf_t c8 E
        refine zg_iload_n X 1 rfl dX10_sumOf_15 ?_
        refine zg_aload_n X 3 rfl dX10_sumOf_16 ?_
        refine zg_iload_n X 0 rfl dX10_sumOf_17 ?_
        refine zg_iald X hp1 hkp1 (by omega) (by omega) dX10_sumOf_18 ?_
        refine zg_topi (fun v9 ev9 => ?_)
        replace E := zLet_s ev9 E
        refine zg_iaddW X dX10_sumOf_19 (fun v10 ev10 => ?_)
        replace E := zLet_s ev10 E
        refine zg_istore_n X [(2, .int v10), (3, .int x3), (0, .ref a0), (1, .ref p1)] dX10_sumOf_20 (by decide) rfl ?_
        refine zg_iinc X 1 (fun v11 => [(3, .int v11), (2, .int v10), (0, .ref a0), (1, .ref p1)]) 1 dX10_sumOf_21 rfl (by decide) (by decide) (by omega) (by omega) (fun _ => rfl) (fun v11 ev11 hv11 => ?_)
        replace E := zLet_s (zinc ev11 (by decide)) E
        refine zg_goto X 4 dX10_sumOf_24 (by decide) ?_
        refine zg_sub [0, 1, 2, 3] rfl ?_
        exact ihLp5 _ v11 v10 hI hS E  (by omega) (by omega) 
  refine zg_sub [0, 1, 2, 3] rfl ?_
  exact Lp5 10000 _ v2 v1 hI hS E  (by omega) (by omega) 
set_option maxHeartbeats 4000000 in
set_option maxRecDepth 100000 in
theorem t_X10_turnedPlaces (l : Launch) (d : zD2) (L : List Nat) (kd : Nat → Nat) (κ : Int) (b : Nat) (σ : zS) (hI : zI κ b L kd σ) (a0 : Nat) (ha0 : zT L kd a0 10) : zMi l yX10_turnedPlaces (Cond.code yX10_turnedPlaces cX10_turnedPlaces 3 (some .int) :: zWL) 1 [.ref a0] d L kd σ (fun v σ2 => (v, σ2) = F_X10_turnedPlaces a0 σ ∧ zSm [] [] L kd σ σ2 ∧ (zI κ b L kd σ2)) := by
  refine zMi.of (own := RX10) (by decide +kernel) rfl rfl (Nat.le_of_ble_eq_true rfl) ?_
  intro p e s m args below meth c A Q X ret
  refine zg_lv (lv2 := [(0, .ref a0)]) rfl ?_
  obtain ⟨R, hR⟩ : ∃ R, R = F_X10_turnedPlaces a0 σ := ⟨_, rfl⟩
  have E := hR
  unfold F_X10_turnedPlaces at E
  have hS : zSm [] [] L kd σ σ := zSm.rf
  refine zg_iconst X 0 dX10_turnedPlaces_0 (by decide) (fun v1 _ hv1 => ?_)
  replace E := zLet_s (zcst hv1 (by decide)) E
  refine zg_istore_n X [(1, .int v1), (0, .ref a0)] dX10_turnedPlaces_1 (by decide) rfl ?_
  refine zg_iconst X 1 dX10_turnedPlaces_2 (by decide) (fun v2 _ hv2 => ?_)
  replace E := zLet_s (zcst hv2 (by decide)) E
  refine zg_istore_n X [(2, .int v2), (1, .int v1), (0, .ref a0)] dX10_turnedPlaces_3 (by decide) rfl ?_
  have Lp5 : ∀ (nLp5 : Nat) (τ5 : zS) (x3 : Int32) (x4 : Int32), zI κ b L kd τ5 → zSm [] [] L kd σ τ5 → R = F_X10_turnedPlaces_4 a0  nLp5 x3 x4 τ5 → 1 ≤ x3.toInt ∧ x3.toInt ≤ 12 → (12) - x3.toInt + 1 < (nLp5 : Int) → zG d L kd A 3 p l e (k2_rm 1 (100 * 1)) s m args below meth c Q τ5 4 [(2, .int x3), (1, .int x4), (0, .ref a0)] [] := by
    intro nLp5
    induction nLp5 with
    | zero => intro τ5 x3 x4 hI hS E  hxLp5 hm ; exact absurd hm (by omega)
    | succ nLp5 ihLp5 =>
      intro τ5 x3 x4 hI hS E  hxLp5 hmLp5 
      rw [F_X10_turnedPlaces_4] at E
      refine zg_iload_n X 0 rfl dX10_turnedPlaces_4 ?_
      refine zg_aload_n X 2 rfl dX10_turnedPlaces_5 ?_
      refine fg_X10_70 X hI ha0 dX10_turnedPlaces_6 (fun v6 ev6 hv6 => ?_)
      replace E := zLet_s (zgr ev6) E
      refine fg_X10_175 X hI hv6 dX10_turnedPlaces_9 (fun v7 ev7 hv7 => ?_)
      replace E := zLet_s ev7 E
      refine zg_icmp_ge X 49 dX10_turnedPlaces_12 (by decide) (fun c8 => ?_) (fun c8 => ?_)
      · skip
        replace E := zIf_f (Int.not_lt.mpr c8) E
        refine zg_iload_n X 1 rfl dX10_turnedPlaces_49 ?_
        exact ret _ _ _ _ dX10_turnedPlaces_50 rfl ⟨E.symm.trans hR, hS, hI⟩
      · skip
        replace E := zIf_t c8 E
        refine zg_aload_n X 2 rfl dX10_turnedPlaces_15 ?_
        refine fg_X10_52 X hI ha0 dX10_turnedPlaces_16 (fun v9 ev9 hv9 => ?_)
        replace E := zLet_s (zgr ev9) E
        refine fg_X10_116 X hI hv9 dX10_turnedPlaces_19 (fun v10 ev10 hv10 => ?_)
        replace E := zLet_s (zgr ev10) E
        refine zg_iload_n X 0 rfl dX10_turnedPlaces_22 ?_
        refine ag_22 X hI hv10 (by omega) (by omega) dX10_turnedPlaces_23 (fun v11 ev11 hv11 => ?_)
        replace E := zLet_s ev11 E
        refine zg_aload_n X 2 rfl dX10_turnedPlaces_24 ?_
        refine fg_X10_70 X hI ha0 dX10_turnedPlaces_25 (fun v12 ev12 hv12 => ?_)
        replace E := zLet_s (zgr ev12) E
        refine fg_X10_215 X hI hv12 dX10_turnedPlaces_28 (fun v13 ev13 hv13 => ?_)
        replace E := zLet_s (zgr ev13) E
        refine zg_iload_n X 0 rfl dX10_turnedPlaces_31 ?_
        refine ag_45 X hI hv13 (by omega) (by omega) dX10_turnedPlaces_32 (fun v14 ev14 hv14 => ?_)
        replace E := zLet_s ev14 E
        refine zg_icmp_eq X 43 dX10_turnedPlaces_33 (by decide) (fun c15 => ?_) (fun c15 => ?_)
        · skip
          replace E := zIf_t c15 E
          refine zg_iinc X 1 (fun v16 => [(2, .int v16), (1, .int x4), (0, .ref a0)]) 0 dX10_turnedPlaces_43 rfl (by decide) (by decide) (by omega) (by omega) (fun _ => rfl) (fun v16 ev16 hv16 => ?_)
          replace E := zLet_s (zinc ev16 (by decide)) E
          refine zg_goto X 4 dX10_turnedPlaces_46 (by decide) ?_
          refine zg_sub [0, 1, 2] rfl ?_
          exact ihLp5 _ v16 x4 hI hS E  (by omega) (by omega) 
        · skip
          replace E := zIf_f c15 E
          refine zg_iload_n X 1 rfl dX10_turnedPlaces_36 ?_
          refine zg_iload_n X 0 rfl dX10_turnedPlaces_37 ?_
          refine zg_cSi (As := [.int x3]) (st := [.int x4]) X (t_X10_bit l d L kd _ x3 ) mk_X10_216 mc_X10_bit mz_X10 ms_X10_bit (na := 1) ⟨md_X10.1, md_X10.2, by decide +kernel⟩ rfl ⟨by decide, by decide⟩ (Nat.le_of_ble_eq_true rfl) dX10_turnedPlaces_38 (fun v17 σ2 hq => ?_)
          obtain ⟨⟨hF, hv17⟩, rfl⟩ := hq
          replace E := zLet_s hF E
          refine zg_iorW X dX10_turnedPlaces_41 (fun v18 ev18 => ?_)
          replace E := zLet_s ev18 E
          refine zg_istore_n X [(1, .int v18), (2, .int x3), (0, .ref a0)] dX10_turnedPlaces_42 (by decide) rfl ?_
          refine zg_iinc X 1 (fun v19 => [(2, .int v19), (1, .int v18), (0, .ref a0)]) 1 dX10_turnedPlaces_43 rfl (by decide) (by decide) (by omega) (by omega) (fun _ => rfl) (fun v19 ev19 hv19 => ?_)
          replace E := zLet_s (zinc ev19 (by decide)) E
          refine zg_goto X 4 dX10_turnedPlaces_46 (by decide) ?_
          refine zg_sub [0, 1, 2] rfl ?_
          exact ihLp5 _ v19 v18 hI hS E  (by omega) (by omega) 
  refine zg_sub [0, 1, 2] rfl ?_
  exact Lp5 10000 _ v2 v1 hI hS E  (by omega) (by omega) 
set_option maxHeartbeats 4000000 in
set_option maxRecDepth 100000 in
theorem t_X10_isTurn (l : Launch) (d : zD2) (L : List Nat) (kd : Nat → Nat) (κ : Int) (b : Nat) (σ : zS) (hI : zI κ b L kd σ) (a0 : Nat) (ha0 : zT L kd a0 10) (p1 : Int32) (p2 : Int32) : zMi l yX10_isTurn (Cond.code yX10_isTurn cX10_isTurn 3 (some .boolean) :: zWL) 2 [.ref a0, .int p1, .int p2] d L kd σ (fun v σ2 => (v, σ2) = F_X10_isTurn a0 p1 p2 σ ∧ zSm [] [] L kd σ σ2 ∧ (((v.toInt = 1 ∧ 1 ≤ p1.toInt ∧ p1.toInt ≤ 11 ∧ 0 ≤ p2.toInt ∧ p2.toInt ≤ 11) ∨ v.toInt = 0) ∧ zI κ b L kd σ2)) := by
  refine zMi.of (own := RX10) (by decide +kernel) rfl rfl (Nat.le_of_ble_eq_true rfl) ?_
  intro p e s m args below meth c A Q X ret
  refine zg_lv (lv2 := [(0, .ref a0), (1, .int p1), (2, .int p2)]) rfl ?_
  obtain ⟨R, hR⟩ : ∃ R, R = F_X10_isTurn a0 p1 p2 σ := ⟨_, rfl⟩
  have E := hR
  unfold F_X10_isTurn at E
  have hS : zSm [] [] L kd σ σ := zSm.rf
  refine zg_iload_n X 1 rfl dX10_isTurn_0 ?_
  refine zg_if_eq X 49 dX10_isTurn_1 (by decide) (fun c1 => ?_) (fun c1 => ?_)
  · skip
    replace E := zIf_t c1 E
    refine zg_iconst X 0 dX10_isTurn_49 (by decide) (fun v2 _ hv2 => ?_)
    replace E := zLet_s (zcst hv2 (by decide)) E
    exact ret _ _ _ _ dX10_isTurn_50 (zb_bool ⟨by omega, by omega⟩) ⟨E.symm.trans hR, hS, ⟨by omega, hI⟩⟩
  · skip
    replace E := zIf_f c1 E
    refine zg_aload_n X 0 rfl dX10_isTurn_4 ?_
    refine zg_iload_n X 1 rfl dX10_isTurn_5 ?_
    refine zg_cVi (As := [.int p1]) (st := []) X ha0 rfl (by decide) rfl (t_X10_isPlace l d L kd κ b _ hI a0 ha0 p1 ) mk_X10_109 mc_X10_isPlace mz_X10 mi_X10_isPlace ml_X10_isPlace (na := 1) ⟨md_X10.1, md_X10.2, by decide +kernel⟩ rfl ⟨by decide, by decide⟩ (Nat.le_of_ble_eq_true rfl) dX10_isTurn_6 (fun v3 s4 hq => ?_)
    obtain ⟨hF, hS2, hI⟩ := hq
    replace E := zLet2_s hF E
    have hS := hS.tr hS2 rfl rfl
    obtain ⟨hv3, hI⟩ := hI
    refine zg_if_eq X 49 dX10_isTurn_9 (by decide) (fun c5 => ?_) (fun c5 => ?_)
    · skip
      replace E := zIf_t c5 E
      refine zg_iconst X 0 dX10_isTurn_49 (by decide) (fun v6 _ hv6 => ?_)
      replace E := zLet_s (zcst hv6 (by decide)) E
      exact ret _ _ _ _ dX10_isTurn_50 (zb_bool ⟨by omega, by omega⟩) ⟨E.symm.trans hR, hS, ⟨by omega, hI⟩⟩
    · skip
      replace E := zIf_f c5 E
      refine zg_aload_n X 0 rfl dX10_isTurn_12 ?_
      refine zg_iload_n X 2 rfl dX10_isTurn_13 ?_
      refine zg_cVi (As := [.int p2]) (st := []) X ha0 rfl (by decide) rfl (t_X10_isPlace l d L kd κ b _ hI a0 ha0 p2 ) mk_X10_109 mc_X10_isPlace mz_X10 mi_X10_isPlace ml_X10_isPlace (na := 1) ⟨md_X10.1, md_X10.2, by decide +kernel⟩ rfl ⟨by decide, by decide⟩ (Nat.le_of_ble_eq_true rfl) dX10_isTurn_14 (fun v7 s8 hq => ?_)
      obtain ⟨hF, hS2, hI⟩ := hq
      replace E := zLet2_s hF E
      have hS := hS.tr hS2 rfl rfl
      obtain ⟨hv7, hI⟩ := hI
      refine zg_if_eq X 49 dX10_isTurn_17 (by decide) (fun c9 => ?_) (fun c9 => ?_)
      · skip
        replace E := zIf_t c9 E
        refine zg_iconst X 0 dX10_isTurn_49 (by decide) (fun v10 _ hv10 => ?_)
        replace E := zLet_s (zcst hv10 (by decide)) E
        exact ret _ _ _ _ dX10_isTurn_50 (zb_bool ⟨by omega, by omega⟩) ⟨E.symm.trans hR, hS, ⟨by omega, hI⟩⟩
      · skip
        replace E := zIf_f c9 E
        refine zg_aload_n X 0 rfl dX10_isTurn_20 ?_
        refine fg_X10_52 X hI ha0 dX10_isTurn_21 (fun v11 ev11 hv11 => ?_)
        replace E := zLet_s (zgr ev11) E
        refine fg_X10_116 X hI hv11 dX10_isTurn_24 (fun v12 ev12 hv12 => ?_)
        replace E := zLet_s (zgr ev12) E
        refine zg_iload_n X 1 rfl dX10_isTurn_27 ?_
        refine ag_22 X hI hv12 (by omega) (by omega) dX10_isTurn_28 (fun v13 ev13 hv13 => ?_)
        replace E := zLet_s ev13 E
        refine zg_iload_n X 2 rfl dX10_isTurn_29 ?_
        refine zg_icmp_eq X 49 dX10_isTurn_30 (by decide) (fun c14 => ?_) (fun c14 => ?_)
        · skip
          replace E := zIf_t c14 E
          refine zg_iconst X 0 dX10_isTurn_49 (by decide) (fun v15 _ hv15 => ?_)
          replace E := zLet_s (zcst hv15 (by decide)) E
          exact ret _ _ _ _ dX10_isTurn_50 (zb_bool ⟨by omega, by omega⟩) ⟨E.symm.trans hR, hS, ⟨by omega, hI⟩⟩
        · skip
          replace E := zIf_f c14 E
          refine zg_aload_n X 0 rfl dX10_isTurn_33 ?_
          refine fg_X10_52 X hI ha0 dX10_isTurn_34 (fun v16 ev16 hv16 => ?_)
          replace E := zLet_s (zgr ev16) E
          refine zg_iload_n X 2 rfl dX10_isTurn_37 ?_
          refine zg_iload_n X 1 rfl dX10_isTurn_38 ?_
          refine zg_cVi (As := [.int p2, .int p1]) (st := []) X hv16 rfl (by decide) rfl (t_X1_comesBy l d L kd κ b _ hI v16 hv16 p2 p1 (by omega)) mk_X10_226 mc_X1_comesBy mz_X1 mi_X1_comesBy ml_X1_comesBy (na := 2) ⟨md_X1.1, md_X1.2, by decide +kernel⟩ rfl ⟨by decide, by decide⟩ (Nat.le_of_ble_eq_true rfl) dX10_isTurn_39 (fun v17 s18 hq => ?_)
          obtain ⟨hF, hS2, hI⟩ := hq
          replace E := zLet2_s hF E
          have hS := hS.tr hS2 rfl rfl
          obtain ⟨hv17, hI⟩ := hI
          refine zg_if_ne X 49 dX10_isTurn_42 (by decide) (fun c19 => ?_) (fun c19 => ?_)
          · skip
            replace E := zIf_f c19 E
            refine zg_iconst X 0 dX10_isTurn_49 (by decide) (fun v20 _ hv20 => ?_)
            replace E := zLet_s (zcst hv20 (by decide)) E
            exact ret _ _ _ _ dX10_isTurn_50 (zb_bool ⟨by omega, by omega⟩) ⟨E.symm.trans hR, hS, ⟨by omega, hI⟩⟩
          · skip
            replace E := zIf_t c19 E
            refine zg_iconst X 1 dX10_isTurn_45 (by decide) (fun v21 _ hv21 => ?_)
            replace E := zLet_s (zcst hv21 (by decide)) E
            refine zg_goto X 50 dX10_isTurn_46 (by decide) ?_
            exact ret _ _ _ _ dX10_isTurn_50 (zb_bool ⟨by omega, by omega⟩) ⟨E.symm.trans hR, hS, ⟨by omega, hI⟩⟩
set_option maxHeartbeats 4000000 in
set_option maxRecDepth 100000 in
theorem t_X10_castVotes (l : Launch) (d : zD2) (L : List Nat) (kd : Nat → Nat) (κ : Int) (σ : zS) (hI : zI κ 1 L kd σ) (a0 : Nat) (ha0 : zT L kd a0 10) : zMv l yX10_castVotes (Cond.code yX10_castVotes cX10_castVotes 4 none :: zWL) 4 [.ref a0] d L kd σ (fun σ2 => σ2 = F_X10_castVotes a0 σ ∧ zSm [20, 21, 32, 53] [] L kd σ σ2 ∧ (zI κ 1 L kd σ2)) := by
  refine zMv.of (own := RX10) (by decide +kernel) rfl rfl (Nat.le_of_ble_eq_true rfl) ?_
  intro p e s m args below meth c A Q X ret
  refine zg_lv (lv2 := [(0, .ref a0)]) rfl ?_
  obtain ⟨R, hR⟩ : ∃ R, R = F_X10_castVotes a0 σ := ⟨_, rfl⟩
  have E := hR
  unfold F_X10_castVotes at E
  have hS : zSm [20, 21, 32, 53] [] L kd σ σ := zSm.rf
  refine zg_iconst X 0 dX10_castVotes_0 (by decide) (fun v1 _ hv1 => ?_)
  replace E := zLet_s (zcst hv1 (by decide)) E
  refine zg_istore_n X [(1, .int v1), (0, .ref a0)] dX10_castVotes_1 (by decide) rfl ?_
  have Lp3 : ∀ (nLp3 : Nat) (τ3 : zS) (x2 : Int32), zI κ 1 L kd τ3 → zSm [20, 21, 32, 53] [] L kd σ τ3 → R = F_X10_castVotes_2 a0  nLp3 x2 τ3 → 0 ≤ x2.toInt ∧ x2.toInt ≤ 3 → (3) - x2.toInt + 1 < (nLp3 : Int) → zG d L kd A 4 p l e (k2_rm 4 (100 * 4)) s m args below meth c Q τ3 2 [(1, .int x2), (0, .ref a0)] [] := by
    intro nLp3
    induction nLp3 with
    | zero => intro τ3 x2 hI hS E  hxLp3 hm ; exact absurd hm (by omega)
    | succ nLp3 ihLp3 =>
      intro τ3 x2 hI hS E  hxLp3 hmLp3 
      rw [F_X10_castVotes_2] at E
      refine zg_iload_n X 0 rfl dX10_castVotes_2 ?_
      refine zg_iconst X 3 dX10_castVotes_3 (by decide) (fun v4 _ hv4 => ?_)
      replace E := zLet_s (zcst hv4 (by decide)) E
      refine zg_icmp_ge X 77 dX10_castVotes_4 (by decide) (fun c5 => ?_) (fun c5 => ?_)
      · skip
        replace E := zIf_f (Int.not_lt.mpr c5) E
        exact ret _ _ _ dX10_castVotes_77 ⟨E.symm.trans hR, hS, hI⟩
      · skip
        replace E := zIf_t c5 E
        refine zg_aload_n X 1 rfl dX10_castVotes_7 ?_
        refine fg_X10_26 X hI ha0 dX10_castVotes_8 (fun v6 ev6 hv6 => ?_)
        replace E := zLet_s (zgr ev6) E
        refine zg_iload_n X 0 rfl dX10_castVotes_11 ?_
        refine zg_cVv (As := [.int x2]) (st := []) X hv6 rfl (by decide) rfl (t_X5_weigh l d L kd κ _ hI v6 hv6 x2 (by omega)) mk_X10_247 mc_X5_weigh mz_X5 mi_X5_weigh ml_X5_weigh (na := 1) ⟨md_X5.1, md_X5.2, by decide +kernel⟩ rfl ⟨by decide, by decide⟩ (Nat.le_of_ble_eq_true rfl) dX10_castVotes_12 (fun s7 hq => ?_)
        obtain ⟨hF, hS2, hI⟩ := hq
        replace E := zLet_s hF E
        have hS := hS.tr hS2 rfl rfl
        refine zg_iconst X 1 dX10_castVotes_15 (by decide) (fun v8 _ hv8 => ?_)
        replace E := zLet_s (zcst hv8 (by decide)) E
        refine zg_istore_n X [(2, .int v8), (1, .int x2), (0, .ref a0)] dX10_castVotes_16 (by decide) rfl ?_
        have Lp10 : ∀ (nLp10 : Nat) (τ10 : zS) (x9 : Int32), zI κ 1 L kd τ10 → zSm [20, 21, 32, 53] [] L kd σ τ10 → R = F_X10_castVotes_17 x2 a0 (F_X10_castVotes_2 a0  nLp3) nLp10 x9 τ10 → 1 ≤ x9.toInt ∧ x9.toInt ≤ 12 → (12) - x9.toInt + 1 < (nLp10 : Int) → zG d L kd A 4 p l e (k2_rm 4 (100 * 4)) s m args below meth c Q τ10 17 [(2, .int x9), (1, .int x2), (0, .ref a0)] [] := by
          intro nLp10
          induction nLp10 with
          | zero => intro τ10 x9 hI hS E  hxLp10 hm ; exact absurd hm (by omega)
          | succ nLp10 ihLp10 =>
            intro τ10 x9 hI hS E  hxLp10 hmLp10 
            rw [F_X10_castVotes_17] at E
            refine zg_iload_n X 0 rfl dX10_castVotes_17 ?_
            refine zg_aload_n X 2 rfl dX10_castVotes_18 ?_
            refine fg_X10_70 X hI ha0 dX10_castVotes_19 (fun v11 ev11 hv11 => ?_)
            replace E := zLet_s (zgr ev11) E
            refine fg_X10_175 X hI hv11 dX10_castVotes_22 (fun v12 ev12 hv12 => ?_)
            replace E := zLet_s ev12 E
            refine zg_icmp_ge X 71 dX10_castVotes_25 (by decide) (fun c13 => ?_) (fun c13 => ?_)
            · skip
              replace E := zIf_f (Int.not_lt.mpr c13) E
              refine zg_iinc X 1 (fun v14 => [(1, .int v14), (2, .int x9), (0, .ref a0)]) 1 dX10_castVotes_71 rfl (by decide) (by decide) (by omega) (by omega) (fun _ => rfl) (fun v14 ev14 hv14 => ?_)
              replace E := zLet_s (zinc ev14 (by decide)) E
              refine zg_goto X 2 dX10_castVotes_74 (by decide) ?_
              refine zg_sub [0, 2] rfl ?_
              exact ihLp3 _ v14 hI hS E  (by omega) (by omega) 
            · skip
              replace E := zIf_t c13 E
              refine zg_iconst X 3 dX10_castVotes_28 (by decide) (fun v15 _ hv15 => ?_)
              replace E := zLet_s (zcst hv15 (by decide)) E
              refine zg_aload_n X 2 rfl dX10_castVotes_29 ?_
              refine fg_X10_26 X hI ha0 dX10_castVotes_30 (fun v16 ev16 hv16 => ?_)
              replace E := zLet_s (zgr ev16) E
              refine zg_iload_n X 0 rfl dX10_castVotes_33 ?_
              refine zg_cVi (As := [.int x9]) (st := [.int v15]) X hv16 rfl (by decide) rfl (t_X5_rankOf l d L kd κ _ hI v16 hv16 x9 (by omega)) mk_X10_253 mc_X5_rankOf mz_X5 mi_X5_rankOf ml_X5_rankOf (na := 1) ⟨md_X5.1, md_X5.2, by decide +kernel⟩ rfl ⟨by decide, by decide⟩ (Nat.le_of_ble_eq_true rfl) dX10_castVotes_34 (fun v17 s18 hq => ?_)
              obtain ⟨hF, hS2, hI⟩ := hq
              replace E := zLet2_s hF E
              have hS := hS.tr hS2 rfl rfl
              refine zg_imulW X dX10_castVotes_37 (fun v19 ev19 => ?_)
              replace E := zLet_s ev19 E
              refine zg_iload_n X 1 rfl dX10_castVotes_38 ?_
              refine zg_iaddW X dX10_castVotes_39 (fun v20 ev20 => ?_)
              replace E := zLet_s ev20 E
              refine zg_istore_n X [(3, .int v20), (2, .int x9), (1, .int x2), (0, .ref a0)] dX10_castVotes_40 (by decide) rfl ?_
              refine zg_aload_n X 3 rfl dX10_castVotes_41 ?_
              refine fg_X10_63 X hI ha0 dX10_castVotes_42 (fun v21 ev21 hv21 => ?_)
              replace E := zLet_s (zgr ev21) E
              refine zg_iload_n X 1 rfl dX10_castVotes_45 ?_
              refine zg_iload_n X 2 rfl dX10_castVotes_46 ?_
              refine zg_if_ne X 54 dX10_castVotes_47 (by decide) (fun c22 => ?_) (fun c22 => ?_)
              · skip
                replace E := zIf_f c22 E
                refine zg_aload_n X 3 rfl dX10_castVotes_54 ?_
                refine fg_X10_63 X hI ha0 dX10_castVotes_55 (fun v23 ev23 hv23 => ?_)
                replace E := zLet_s (zgr ev23) E
                refine zg_iload_n X 1 rfl dX10_castVotes_58 ?_
                refine ag_53 X hI hv23 (by omega) (by omega) dX10_castVotes_59 (fun v24 ev24 _ => ?_)
                replace E := zLet_s ev24 E
                refine zg_iload_n X 0 rfl dX10_castVotes_60 ?_
                refine zg_min X wj_X10_262 ⟨by decide, Nat.le_of_ble_eq_true rfl⟩ dX10_castVotes_61 (fun v25 hv25 => ?_)
                replace E := zLet_s (zmin_e hv25) E
                refine as_53 X hI hv21 (by omega) (by omega) dX10_castVotes_64 (fun s26 es26 hI => ?_)
                replace E := zLet_s es26 E
                have hS := hS.i hv21 es26 rfl
                refine zg_iinc X 1 (fun v27 => [(2, .int v27), (3, .int v20), (1, .int x2), (0, .ref a0)]) 1 dX10_castVotes_65 rfl (by decide) (by decide) (by omega) (by omega) (fun _ => rfl) (fun v27 ev27 hv27 => ?_)
                replace E := zLet_s (zinc ev27 (by decide)) E
                refine zg_goto X 17 dX10_castVotes_68 (by decide) ?_
                refine zg_sub [0, 2, 3] rfl ?_
                exact ihLp10 _ v27 hI hS E  (by omega) (by omega) 
              · skip
                replace E := zIf_t c22 E
                refine zg_iload_n X 0 rfl dX10_castVotes_50 ?_
                refine zg_goto X 64 dX10_castVotes_51 (by decide) ?_
                refine as_53 X hI hv21 (by omega) (by omega) dX10_castVotes_64 (fun s28 es28 hI => ?_)
                replace E := zLet_s es28 E
                have hS := hS.i hv21 es28 rfl
                refine zg_iinc X 1 (fun v29 => [(2, .int v29), (3, .int v20), (1, .int x2), (0, .ref a0)]) 1 dX10_castVotes_65 rfl (by decide) (by decide) (by omega) (by omega) (fun _ => rfl) (fun v29 ev29 hv29 => ?_)
                replace E := zLet_s (zinc ev29 (by decide)) E
                refine zg_goto X 17 dX10_castVotes_68 (by decide) ?_
                refine zg_sub [0, 2, 3] rfl ?_
                exact ihLp10 _ v29 hI hS E  (by omega) (by omega) 
        refine zg_sub [0, 1, 2] rfl ?_
        exact Lp10 10000 _ v8 hI hS E  (by omega) (by omega) 
  refine zg_sub [0, 1] rfl ?_
  exact Lp3 10000 _ v1 hI hS E  (by omega) (by omega) 
set_option maxHeartbeats 4000000 in
set_option maxRecDepth 100000 in
theorem t_X10_votesFor (l : Launch) (d : zD2) (L : List Nat) (kd : Nat → Nat) (κ : Int) (b : Nat) (σ : zS) (hI : zI κ b L kd σ) (a0 : Nat) (ha0 : zT L kd a0 10) (p1 : Int32) : zMi l yX10_votesFor (Cond.code yX10_votesFor cX10_votesFor 4 (some .int) :: zWL) 1 [.ref a0, .int p1] d L kd σ (fun v σ2 => (v, σ2) = F_X10_votesFor a0 p1 σ ∧ zSm [] [] L kd σ σ2 ∧ (zI κ b L kd σ2)) := by
  refine zMi.of (own := RX10) (by decide +kernel) rfl rfl (Nat.le_of_ble_eq_true rfl) ?_
  intro p e s m args below meth c A Q X ret
  refine zg_lv (lv2 := [(0, .ref a0), (1, .int p1)]) rfl ?_
  obtain ⟨R, hR⟩ : ∃ R, R = F_X10_votesFor a0 p1 σ := ⟨_, rfl⟩
  have E := hR
  unfold F_X10_votesFor at E
  have hS : zSm [] [] L kd σ σ := zSm.rf
  refine zg_iconst X 0 dX10_votesFor_0 (by decide) (fun v1 _ hv1 => ?_)
  replace E := zLet_s (zcst hv1 (by decide)) E
  refine zg_istore_n X [(2, .int v1), (0, .ref a0), (1, .int p1)] dX10_votesFor_1 (by decide) rfl ?_
  refine zg_iconst X 1 dX10_votesFor_2 (by decide) (fun v2 _ hv2 => ?_)
  replace E := zLet_s (zcst hv2 (by decide)) E
  refine zg_istore_n X [(3, .int v2), (2, .int v1), (0, .ref a0), (1, .int p1)] dX10_votesFor_3 (by decide) rfl ?_
  have Lp5 : ∀ (nLp5 : Nat) (τ5 : zS) (x3 : Int32) (x4 : Int32), zI κ b L kd τ5 → zSm [] [] L kd σ τ5 → R = F_X10_votesFor_4 a0 p1  nLp5 x3 x4 τ5 → 1 ≤ x3.toInt ∧ x3.toInt ≤ 12 → (12) - x3.toInt + 1 < (nLp5 : Int) → zG d L kd A 4 p l e (k2_rm 1 (100 * 1)) s m args below meth c Q τ5 4 [(3, .int x3), (2, .int x4), (0, .ref a0), (1, .int p1)] [] := by
    intro nLp5
    induction nLp5 with
    | zero => intro τ5 x3 x4 hI hS E  hxLp5 hm ; exact absurd hm (by omega)
    | succ nLp5 ihLp5 =>
      intro τ5 x3 x4 hI hS E  hxLp5 hmLp5 
      rw [F_X10_votesFor_4] at E
      refine zg_iload_n X 0 rfl dX10_votesFor_4 ?_
      refine zg_aload_n X 2 rfl dX10_votesFor_5 ?_
      refine fg_X10_70 X hI ha0 dX10_votesFor_6 (fun v6 ev6 hv6 => ?_)
      replace E := zLet_s (zgr ev6) E
      refine fg_X10_175 X hI hv6 dX10_votesFor_9 (fun v7 ev7 hv7 => ?_)
      replace E := zLet_s ev7 E
      refine zg_icmp_ge X 47 dX10_votesFor_12 (by decide) (fun c8 => ?_) (fun c8 => ?_)
      · skip
        replace E := zIf_f (Int.not_lt.mpr c8) E
        refine zg_iload_n X 1 rfl dX10_votesFor_47 ?_
        exact ret _ _ _ _ dX10_votesFor_48 rfl ⟨E.symm.trans hR, hS, hI⟩
      · skip
        replace E := zIf_t c8 E
        refine zg_aload_n X 2 rfl dX10_votesFor_15 ?_
        refine fg_X10_34 X hI ha0 dX10_votesFor_16 (fun v9 ev9 hv9 => ?_)
        replace E := zLet_s (zgr ev9) E
        refine zg_iload_n X 0 rfl dX10_votesFor_19 ?_
        refine zg_cVi (As := [.int x3]) (st := []) X hv9 rfl (by decide) rfl (t_X6_isSource l d L kd κ b _ hI v9 hv9 x3 ) mk_X10_146 mc_X6_isSource mz_X6 mi_X6_isSource ml_X6_isSource (na := 1) ⟨md_X6.1, md_X6.2, by decide +kernel⟩ rfl ⟨by decide, by decide⟩ (Nat.le_of_ble_eq_true rfl) dX10_votesFor_20 (fun v10 s11 hq => ?_)
        obtain ⟨hF, hS2, hI⟩ := hq
        replace E := zLet2_s hF E
        have hS := hS.tr hS2 rfl rfl
        obtain ⟨hv10, hI⟩ := hI
        refine zg_if_eq X 41 dX10_votesFor_23 (by decide) (fun c12 => ?_) (fun c12 => ?_)
        · skip
          replace E := zIf_t c12 E
          refine zg_iinc X 1 (fun v13 => [(3, .int v13), (2, .int x4), (0, .ref a0), (1, .int p1)]) 0 dX10_votesFor_41 rfl (by decide) (by decide) (by omega) (by omega) (fun _ => rfl) (fun v13 ev13 hv13 => ?_)
          replace E := zLet_s (zinc ev13 (by decide)) E
          refine zg_goto X 4 dX10_votesFor_44 (by decide) ?_
          refine zg_sub [0, 1, 2, 3] rfl ?_
          exact ihLp5 _ v13 x4 hI hS E  (by omega) (by omega) 
        · skip
          replace E := zIf_f c12 E
          refine zg_aload_n X 2 rfl dX10_votesFor_26 ?_
          refine fg_X10_63 X hI ha0 dX10_votesFor_27 (fun v14 ev14 hv14 => ?_)
          replace E := zLet_s (zgr ev14) E
          refine zg_iload_n X 0 rfl dX10_votesFor_30 ?_
          refine ag_53 X hI hv14 (by omega) (by omega) dX10_votesFor_31 (fun v15 ev15 _ => ?_)
          replace E := zLet_s ev15 E
          refine zg_iconst X 3 dX10_votesFor_32 (by decide) (fun v16 _ hv16 => ?_)
          replace E := zLet_s (zcst hv16 (by decide)) E
          refine zg_iremW X dX10_votesFor_33 (by omega) (fun v17 ev17 => ?_)
          replace E := zLet_s ev17 E
          have hv17 := zb_rem (x := v15) (y := v16) 3 (by omega) (by omega)
          rw [← ev17] at hv17
          refine zg_iload_n X 3 rfl dX10_votesFor_34 ?_
          refine zg_icmp_ne X 41 dX10_votesFor_35 (by decide) (fun c18 => ?_) (fun c18 => ?_)
          · skip
            replace E := zIf_f c18 E
            refine zg_iinc X 1 (fun v19 => [(3, .int v19), (2, .int x4), (0, .ref a0), (1, .int p1)]) 0 dX10_votesFor_41 rfl (by decide) (by decide) (by omega) (by omega) (fun _ => rfl) (fun v19 ev19 hv19 => ?_)
            replace E := zLet_s (zinc ev19 (by decide)) E
            refine zg_goto X 4 dX10_votesFor_44 (by decide) ?_
            refine zg_sub [0, 1, 2, 3] rfl ?_
            exact ihLp5 _ v19 x4 hI hS E  (by omega) (by omega) 
          · skip
            replace E := zIf_t c18 E
            refine zg_iincW X (fun v20 => [(2, .int v20), (3, .int x3), (0, .ref a0), (1, .int p1)]) 1 dX10_votesFor_38 rfl (by decide) (fun _ => rfl) (fun v20 ev20 => ?_)
            replace E := zLet_s (zinc ev20 (by decide)) E
            refine zg_iinc X 1 (fun v21 => [(3, .int v21), (2, .int v20), (0, .ref a0), (1, .int p1)]) 1 dX10_votesFor_41 rfl (by decide) (by decide) (by omega) (by omega) (fun _ => rfl) (fun v21 ev21 hv21 => ?_)
            replace E := zLet_s (zinc ev21 (by decide)) E
            refine zg_goto X 4 dX10_votesFor_44 (by decide) ?_
            refine zg_sub [0, 1, 2, 3] rfl ?_
            exact ihLp5 _ v21 v20 hI hS E  (by omega) (by omega) 
  refine zg_sub [0, 1, 2, 3] rfl ?_
  exact Lp5 10000 _ v2 v1 hI hS E  (by omega) (by omega) 
set_option maxHeartbeats 4000000 in
set_option maxRecDepth 100000 in
theorem t_X10_winsTurned (l : Launch) (d : zD2) (L : List Nat) (kd : Nat → Nat) (κ : Int) (b : Nat) (σ : zS) (hI : zI κ b L kd σ) (a0 : Nat) (ha0 : zT L kd a0 10) (p1 : Int32) (p2 : Int32) (p3 : Int32) (p4 : Int32) (hq0 : 0 ≤ p2.toInt ∧ p2.toInt ≤ 2) (hq1 : 0 ≤ p3.toInt ∧ p3.toInt ≤ 11) (hq2 : 0 ≤ p4.toInt ∧ p4.toInt ≤ 11) : zMi l yX10_winsTurned (Cond.code yX10_winsTurned cX10_winsTurned 5 (some .boolean) :: zWL) 6 [.ref a0, .int p1, .int p2, .int p3, .int p4] d L kd σ (fun v σ2 => (v, σ2) = F_X10_winsTurned a0 p1 p2 p3 p4 σ ∧ zSm [1, 6, 20, 21, 22, 23, 24, 30, 31, 32, 33, 34, 35, 36, 38] [5] L kd σ σ2 ∧ ((0 ≤ v.toInt ∧ v.toInt ≤ 1) ∧ zI κ 1 L kd σ2)) := by
  refine zMi.of (own := RX10) (by decide +kernel) rfl rfl (Nat.le_of_ble_eq_true rfl) ?_
  intro p e s m args below meth c A Q X ret
  refine zg_lv (lv2 := [(0, .ref a0), (1, .int p1), (2, .int p2), (3, .int p3), (4, .int p4)]) rfl ?_
  obtain ⟨R, hR⟩ : ∃ R, R = F_X10_winsTurned a0 p1 p2 p3 p4 σ := ⟨_, rfl⟩
  have E := hR
  unfold F_X10_winsTurned at E
  have hS : zSm [1, 6, 20, 21, 22, 23, 24, 30, 31, 32, 33, 34, 35, 36, 38] [5] L kd σ σ := zSm.rf
  refine zg_aload_n X 0 rfl dX10_winsTurned_0 ?_
  refine fg_X10_56 X hI ha0 dX10_winsTurned_1 (fun v1 ev1 hv1 => ?_)
  replace E := zLet_s (zgr ev1) E
  refine zg_aload_n X 0 rfl dX10_winsTurned_4 ?_
  refine fg_X10_52 X hI ha0 dX10_winsTurned_5 (fun v2 ev2 hv2 => ?_)
  replace E := zLet_s (zgr ev2) E
  refine zg_cVv (As := [.ref v2]) (st := []) X hv1 rfl (by decide) rfl (t_X1_copy l d L kd κ b _ hI v1 hv1 v2 hv2 ) mk_X10_241 mc_X1_copy mz_X1 mi_X1_copy ml_X1_copy (na := 1) ⟨md_X1.1, md_X1.2, by decide +kernel⟩ rfl ⟨by decide, by decide⟩ (Nat.le_of_ble_eq_true rfl) dX10_winsTurned_8 (fun s3 hq => ?_)
  obtain ⟨hF, hS2, hI⟩ := hq
  replace E := zLet_s hF E
  have hS := hS.tr hS2 rfl rfl
  refine zg_aload_n X 0 rfl dX10_winsTurned_11 ?_
  refine fg_X10_56 X hI ha0 dX10_winsTurned_12 (fun v4 ev4 hv4 => ?_)
  replace E := zLet_s (zgr ev4) E
  refine fg_X10_116 X hI hv4 dX10_winsTurned_15 (fun v5 ev5 hv5 => ?_)
  replace E := zLet_s (zgr ev5) E
  refine zg_iload_n X 3 rfl dX10_winsTurned_18 ?_
  refine zg_iload X 4 rfl dX10_winsTurned_19 ?_
  refine as_22 X hI hv5 (by omega) (by omega) ⟨by omega, by omega⟩ dX10_winsTurned_21 (fun s6 es6 hI => ?_)
  replace E := zLet_s es6 E
  have hS := hS.i hv5 es6 rfl
  refine zg_aload_n X 0 rfl dX10_winsTurned_22 ?_
  refine fg_X10_26 X hI ha0 dX10_winsTurned_23 (fun v7 ev7 hv7 => ?_)
  replace E := zLet_s (zgr ev7) E
  refine zg_aload_n X 0 rfl dX10_winsTurned_26 ?_
  refine fg_X10_70 X hI ha0 dX10_winsTurned_27 (fun v8 ev8 hv8 => ?_)
  replace E := zLet_s (zgr ev8) E
  refine zg_aload_n X 0 rfl dX10_winsTurned_30 ?_
  refine fg_X10_56 X hI ha0 dX10_winsTurned_31 (fun v9 ev9 hv9 => ?_)
  replace E := zLet_s (zgr ev9) E
  refine zg_cVv (As := [.ref v8, .ref v9]) (st := []) X hv7 rfl (by decide) rfl (t_X5_look l d L kd κ b _ hI v7 hv7 v8 hv8 v9 hv9 ) mk_X10_271 mc_X5_look mz_X5 mi_X5_look ml_X5_look (na := 2) ⟨md_X5.1, md_X5.2, by decide +kernel⟩ rfl ⟨by decide, by decide⟩ (Nat.le_of_ble_eq_true rfl) dX10_winsTurned_34 (fun s10 hq => ?_)
  obtain ⟨hF, hS2, hI⟩ := hq
  replace E := zLet_s hF E
  have hS := hS.tr hS2 rfl rfl
  refine zg_aload_n X 0 rfl dX10_winsTurned_37 ?_
  refine fg_X10_26 X hI ha0 dX10_winsTurned_38 (fun v11 ev11 hv11 => ?_)
  replace E := zLet_s (zgr ev11) E
  refine zg_iload_n X 2 rfl dX10_winsTurned_41 ?_
  refine zg_cVi (As := [.int p2]) (st := []) X hv11 rfl (by decide) rfl (t_X5_winnerBy l d L kd κ _ hI v11 hv11 p2 (by omega)) mk_X10_172 mc_X5_winnerBy mz_X5 mi_X5_winnerBy ml_X5_winnerBy (na := 1) ⟨md_X5.1, md_X5.2, by decide +kernel⟩ rfl ⟨by decide, by decide⟩ (Nat.le_of_ble_eq_true rfl) dX10_winsTurned_42 (fun v12 s13 hq => ?_)
  obtain ⟨hF, hS2, hI⟩ := hq
  replace E := zLet2_s hF E
  have hS := hS.tr hS2 rfl rfl
  obtain ⟨hv12, hI⟩ := hI
  refine zg_iload_n X 1 rfl dX10_winsTurned_45 ?_
  refine zg_icmp_ne X 53 dX10_winsTurned_46 (by decide) (fun c14 => ?_) (fun c14 => ?_)
  · skip
    replace E := zIf_f c14 E
    refine zg_iconst X 0 dX10_winsTurned_53 (by decide) (fun v15 _ hv15 => ?_)
    replace E := zLet_s (zcst hv15 (by decide)) E
    exact ret _ _ _ _ dX10_winsTurned_54 (zb_bool ⟨by omega, by omega⟩) ⟨E.symm.trans hR, hS, ⟨⟨by omega, by omega⟩, hI⟩⟩
  · skip
    replace E := zIf_t c14 E
    refine zg_iconst X 1 dX10_winsTurned_49 (by decide) (fun v16 _ hv16 => ?_)
    replace E := zLet_s (zcst hv16 (by decide)) E
    refine zg_goto X 54 dX10_winsTurned_50 (by decide) ?_
    exact ret _ _ _ _ dX10_winsTurned_54 (zb_bool ⟨by omega, by omega⟩) ⟨E.symm.trans hR, hS, ⟨⟨by omega, by omega⟩, hI⟩⟩
set_option maxHeartbeats 4000000 in
set_option maxRecDepth 100000 in
theorem t_X10_isAhead (l : Launch) (d : zD2) (L : List Nat) (kd : Nat → Nat) (σ : zS) (p1 : Int32) (p2 : Int32) : zMi l yX10_isAhead (Cond.code yX10_isAhead cX10_isAhead 4 (some .boolean) :: zWL) 1 [.int p1, .int p2] d L kd σ (fun v σ2 => (v = F_X10_isAhead p1 p2 ∧ ((0 ≤ v.toInt ∧ v.toInt ≤ 1))) ∧ σ = σ2) := by
  refine zMi.of (own := RX10) (by decide +kernel) rfl rfl (Nat.le_of_ble_eq_true rfl) ?_
  intro p e s m args below meth c A Q X ret
  refine zg_lv (lv2 := [(0, .int p1), (1, .int p2)]) rfl ?_
  obtain ⟨R, hR⟩ : ∃ R, R = F_X10_isAhead p1 p2 := ⟨_, rfl⟩
  have E := hR
  unfold F_X10_isAhead at E
  refine zg_iload_n X 1 rfl dX10_isAhead_0 ?_
  refine zg_cSi (As := [.int p2]) (st := []) X (t_J6_bitCount_0f7a4 l d L kd _ p2 ) mk_X10_198 mc_J6_bitCount_0f7a4 mz_J6 ms_J6_bitCount_0f7a4 (na := 1) ⟨md_J6.1, md_J6.2, by decide +kernel⟩ rfl ⟨by decide, by decide⟩ (Nat.le_of_ble_eq_true rfl) dX10_isAhead_1 (fun v1 σ2 hq => ?_)
  obtain ⟨⟨hF, hv1⟩, rfl⟩ := hq
  replace E := zLet_s hF E
  refine zg_iload_n X 0 rfl dX10_isAhead_4 ?_
  refine zg_cSi (As := [.int p1]) (st := [.int v1]) X (t_J6_bitCount_0f7a4 l d L kd _ p1 ) mk_X10_198 mc_J6_bitCount_0f7a4 mz_J6 ms_J6_bitCount_0f7a4 (na := 1) ⟨md_J6.1, md_J6.2, by decide +kernel⟩ rfl ⟨by decide, by decide⟩ (Nat.le_of_ble_eq_true rfl) dX10_isAhead_5 (fun v2 σ2 hq => ?_)
  obtain ⟨⟨hF, hv2⟩, rfl⟩ := hq
  replace E := zLet_s hF E
  refine zg_isubW X dX10_isAhead_8 (fun v3 ev3 => ?_)
  replace E := zLet_s ev3 E
  refine zg_istore_n X [(2, .int v3), (0, .int p1), (1, .int p2)] dX10_isAhead_9 (by decide) rfl ?_
  refine zg_iload_n X 1 rfl dX10_isAhead_10 ?_
  refine zg_iload_n X 2 rfl dX10_isAhead_11 ?_
  refine zg_ixorW X dX10_isAhead_12 (fun v4 ev4 => ?_)
  replace E := zLet_s ev4 E
  refine zg_iload_n X 1 rfl dX10_isAhead_13 ?_
  refine zg_iload_n X 2 rfl dX10_isAhead_14 ?_
  refine zg_ixorW X dX10_isAhead_15 (fun v5 ev5 => ?_)
  replace E := zLet_s ev5 E
  refine zg_inegW X dX10_isAhead_16 (fun v6 ev6 => ?_)
  replace E := zLet_s ev6 E
  refine zg_iandW X dX10_isAhead_17 (fun v7 ev7 => ?_)
  replace E := zLet_s ev7 E
  refine zg_istore_n X [(3, .int v7), (2, .int v3), (0, .int p1), (1, .int p2)] dX10_isAhead_18 (by decide) rfl ?_
  refine zg_iload_n X 3 rfl dX10_isAhead_19 ?_
  refine zg_iconst X (-1) dX10_isAhead_20 (by decide) (fun v8 _ hv8 => ?_)
  replace E := zLet_s (zcst hv8 (by decide)) E
  refine zg_icmp_eq X 38 dX10_isAhead_21 (by decide) (fun c9 => ?_) (fun c9 => ?_)
  · skip
    replace E := zIf_t c9 E
    refine zg_iconst X 1 dX10_isAhead_38 (by decide) (fun v10 _ hv10 => ?_)
    replace E := zLet_s (zcst hv10 (by decide)) E
    refine zg_goto X 43 dX10_isAhead_39 (by decide) ?_
    exact ret _ _ _ _ dX10_isAhead_43 (zb_bool ⟨by omega, by omega⟩) ⟨⟨E.symm.trans hR, ⟨by omega, by omega⟩⟩, rfl⟩
  · skip
    replace E := zIf_f c9 E
    refine zg_iload_n X 1 rfl dX10_isAhead_24 ?_
    refine zg_if_gt X 38 dX10_isAhead_25 (by decide) (fun c11 => ?_) (fun c11 => ?_)
    · skip
      replace E := zIf_t c11 E
      refine zg_iconst X 1 dX10_isAhead_38 (by decide) (fun v12 _ hv12 => ?_)
      replace E := zLet_s (zcst hv12 (by decide)) E
      refine zg_goto X 43 dX10_isAhead_39 (by decide) ?_
      exact ret _ _ _ _ dX10_isAhead_43 (zb_bool ⟨by omega, by omega⟩) ⟨⟨E.symm.trans hR, ⟨by omega, by omega⟩⟩, rfl⟩
    · skip
      replace E := zIf_f (Int.not_lt.mpr c11) E
      refine zg_iload_n X 1 rfl dX10_isAhead_28 ?_
      refine zg_if_ne X 42 dX10_isAhead_29 (by decide) (fun c13 => ?_) (fun c13 => ?_)
      · skip
        replace E := zIf_f c13 E
        refine zg_iconst X 0 dX10_isAhead_42 (by decide) (fun v14 _ hv14 => ?_)
        replace E := zLet_s (zcst hv14 (by decide)) E
        exact ret _ _ _ _ dX10_isAhead_43 (zb_bool ⟨by omega, by omega⟩) ⟨⟨E.symm.trans hR, ⟨by omega, by omega⟩⟩, rfl⟩
      · skip
        replace E := zIf_t c13 E
        refine zg_iload_n X 2 rfl dX10_isAhead_32 ?_
        refine zg_iload_n X 0 rfl dX10_isAhead_33 ?_
        refine zg_iandW X dX10_isAhead_34 (fun v15 ev15 => ?_)
        replace E := zLet_s ev15 E
        refine zg_if_eq X 42 dX10_isAhead_35 (by decide) (fun c16 => ?_) (fun c16 => ?_)
        · skip
          replace E := zIf_t c16 E
          refine zg_iconst X 0 dX10_isAhead_42 (by decide) (fun v17 _ hv17 => ?_)
          replace E := zLet_s (zcst hv17 (by decide)) E
          exact ret _ _ _ _ dX10_isAhead_43 (zb_bool ⟨by omega, by omega⟩) ⟨⟨E.symm.trans hR, ⟨by omega, by omega⟩⟩, rfl⟩
        · skip
          replace E := zIf_f c16 E
          refine zg_iconst X 1 dX10_isAhead_38 (by decide) (fun v18 _ hv18 => ?_)
          replace E := zLet_s (zcst hv18 (by decide)) E
          refine zg_goto X 43 dX10_isAhead_39 (by decide) ?_
          exact ret _ _ _ _ dX10_isAhead_43 (zb_bool ⟨by omega, by omega⟩) ⟨⟨E.symm.trans hR, ⟨by omega, by omega⟩⟩, rfl⟩
set_option maxHeartbeats 4000000 in
set_option maxRecDepth 100000 in
theorem t_X10_lossOf (l : Launch) (d : zD2) (L : List Nat) (kd : Nat → Nat) (κ : Int) (σ : zS) (hI : zI κ 1 L kd σ) (a0 : Nat) (ha0 : zT L kd a0 10) (p1 : Int32) (hq0 : 0 ≤ p1.toInt ∧ p1.toInt ≤ 11) : zMi l yX10_lossOf (Cond.code yX10_lossOf cX10_lossOf 3 (some .int) :: zWL) 4 [.ref a0, .int p1] d L kd σ (fun v σ2 => (v, σ2) = F_X10_lossOf a0 p1 σ ∧ zSm [20, 21, 31] [] L kd σ σ2 ∧ (zI κ 1 L kd σ2)) := by
  refine zMi.of (own := RX10) (by decide +kernel) rfl rfl (Nat.le_of_ble_eq_true rfl) ?_
  intro p e s m args below meth c A Q X ret
  refine zg_lv (lv2 := [(0, .ref a0), (1, .int p1)]) rfl ?_
  obtain ⟨R, hR⟩ : ∃ R, R = F_X10_lossOf a0 p1 σ := ⟨_, rfl⟩
  have E := hR
  unfold F_X10_lossOf at E
  have hS : zSm [20, 21, 31] [] L kd σ σ := zSm.rf
  refine zg_aload_n X 0 rfl dX10_lossOf_0 ?_
  refine zg_cVi (As := []) (st := []) X ha0 rfl (by decide) rfl (t_X10_mouthFlow l d L kd κ 1 _ hI a0 ha0 ) mk_X10_191 mc_X10_mouthFlow mz_X10 mi_X10_mouthFlow ml_X10_mouthFlow (na := 0) ⟨md_X10.1, md_X10.2, by decide +kernel⟩ rfl ⟨by decide, by decide⟩ (Nat.le_of_ble_eq_true rfl) dX10_lossOf_1 (fun v1 s2 hq => ?_)
  obtain ⟨hF, hS2, hI⟩ := hq
  replace E := zLet2_s hF E
  have hS := hS.tr hS2 rfl rfl
  refine zg_istore_n X [(2, .int v1), (0, .ref a0), (1, .int p1)] dX10_lossOf_4 (by decide) rfl ?_
  refine zg_aload_n X 1 rfl dX10_lossOf_5 ?_
  refine fg_X10_26 X hI ha0 dX10_lossOf_6 (fun v3 ev3 hv3 => ?_)
  replace E := zLet_s (zgr ev3) E
  refine zg_aload_n X 1 rfl dX10_lossOf_9 ?_
  refine fg_X10_52 X hI ha0 dX10_lossOf_10 (fun v4 ev4 hv4 => ?_)
  replace E := zLet_s (zgr ev4) E
  refine fg_X10_128 X hI hv4 dX10_lossOf_13 (fun v5 ev5 _ => ?_)
  replace E := zLet_s ev5 E
  refine zg_iload_n X 2 rfl dX10_lossOf_16 ?_
  refine zg_cSi (As := [.int p1]) (st := [.int v5, .ref v3]) X (t_X10_bit l d L kd _ p1 ) mk_X10_216 mc_X10_bit mz_X10 ms_X10_bit (na := 1) ⟨md_X10.1, md_X10.2, by decide +kernel⟩ rfl ⟨by decide, by decide⟩ (Nat.le_of_ble_eq_true rfl) dX10_lossOf_17 (fun v6 σ2 hq => ?_)
  obtain ⟨⟨hF, hv6⟩, rfl⟩ := hq
  replace E := zLet_s hF E
  refine zg_iorW X dX10_lossOf_20 (fun v7 ev7 => ?_)
  replace E := zLet_s ev7 E
  refine zg_cVv (As := [.int v7]) (st := []) X hv3 rfl (by decide) rfl (t_X5_run l d L kd κ _ hI v3 hv3 v7 ) mk_X10_274 mc_X5_run mz_X5 mi_X5_run ml_X5_run (na := 1) ⟨md_X5.1, md_X5.2, by decide +kernel⟩ rfl ⟨by decide, by decide⟩ (Nat.le_of_ble_eq_true rfl) dX10_lossOf_21 (fun s8 hq => ?_)
  obtain ⟨hF, hS2, hI⟩ := hq
  replace E := zLet_s hF E
  have hS := hS.tr hS2 rfl rfl
  refine zg_iload_n X 0 rfl dX10_lossOf_24 ?_
  refine zg_aload_n X 1 rfl dX10_lossOf_25 ?_
  refine zg_cVi (As := []) (st := [.int v1]) X ha0 rfl (by decide) rfl (t_X10_mouthFlow l d L kd κ 1 _ hI a0 ha0 ) mk_X10_191 mc_X10_mouthFlow mz_X10 mi_X10_mouthFlow ml_X10_mouthFlow (na := 0) ⟨md_X10.1, md_X10.2, by decide +kernel⟩ rfl ⟨by decide, by decide⟩ (Nat.le_of_ble_eq_true rfl) dX10_lossOf_26 (fun v9 s10 hq => ?_)
  obtain ⟨hF, hS2, hI⟩ := hq
  replace E := zLet2_s hF E
  have hS := hS.tr hS2 rfl rfl
  refine zg_isubW X dX10_lossOf_29 (fun v11 ev11 => ?_)
  replace E := zLet_s ev11 E
  exact ret _ _ _ _ dX10_lossOf_30 rfl ⟨E.symm.trans hR, hS, hI⟩
set_option maxHeartbeats 4000000 in
set_option maxRecDepth 100000 in
theorem t_X10_greatestInto (l : Launch) (d : zD2) (L : List Nat) (kd : Nat → Nat) (κ : Int) (σ : zS) (hI : zI κ 1 L kd σ) (a0 : Nat) (ha0 : zT L kd a0 10) (p1 : Int32) : zMi l yX10_greatestInto (Cond.code yX10_greatestInto cX10_greatestInto 4 (some .int) :: zWL) 0 [.ref a0, .int p1] d L kd σ (fun v σ2 => (v, σ2) = F_X10_greatestInto a0 p1 σ ∧ zSm [] [] L kd σ σ2 ∧ (((-1) ≤ v.toInt ∧ v.toInt ≤ 11) ∧ zI κ 1 L kd σ2)) := by
  refine zMi.of (own := RX10) (by decide +kernel) rfl rfl (Nat.le_of_ble_eq_true rfl) ?_
  intro p e s m args below meth c A Q X ret
  refine zg_lv (lv2 := [(0, .ref a0), (1, .int p1)]) rfl ?_
  obtain ⟨R, hR⟩ : ∃ R, R = F_X10_greatestInto a0 p1 σ := ⟨_, rfl⟩
  have E := hR
  unfold F_X10_greatestInto at E
  have hS : zSm [] [] L kd σ σ := zSm.rf
  refine zg_iconst X (-1) dX10_greatestInto_0 (by decide) (fun v1 _ hv1 => ?_)
  replace E := zLet_s (zcst hv1 (by decide)) E
  refine zg_istore_n X [(2, .int v1), (0, .ref a0), (1, .int p1)] dX10_greatestInto_1 (by decide) rfl ?_
  refine zg_iconst X 1 dX10_greatestInto_2 (by decide) (fun v2 _ hv2 => ?_)
  replace E := zLet_s (zcst hv2 (by decide)) E
  refine zg_istore_n X [(3, .int v2), (2, .int v1), (0, .ref a0), (1, .int p1)] dX10_greatestInto_3 (by decide) rfl ?_
  have Lp5 : ∀ (nLp5 : Nat) (τ5 : zS) (x3 : Int32) (x4 : Int32), zI κ 1 L kd τ5 → zSm [] [] L kd σ τ5 → R = F_X10_greatestInto_4 a0 p1  nLp5 x3 x4 τ5 → (-1) ≤ x4.toInt ∧ x4.toInt ≤ 11 ∧ 1 ≤ x3.toInt ∧ x3.toInt ≤ 12 → (12) - x3.toInt + 1 < (nLp5 : Int) → zG d L kd A 4 p l e (k2_rm 0 (100 * 0)) s m args below meth c Q τ5 4 [(3, .int x3), (2, .int x4), (0, .ref a0), (1, .int p1)] [] := by
    intro nLp5
    induction nLp5 with
    | zero => intro τ5 x3 x4 hI hS E  hxLp5 hm ; exact absurd hm (by omega)
    | succ nLp5 ihLp5 =>
      intro τ5 x3 x4 hI hS E  hxLp5 hmLp5 
      rw [F_X10_greatestInto_4] at E
      refine zg_iload_n X 0 rfl dX10_greatestInto_4 ?_
      refine zg_aload_n X 2 rfl dX10_greatestInto_5 ?_
      refine fg_X10_70 X hI ha0 dX10_greatestInto_6 (fun v6 ev6 hv6 => ?_)
      replace E := zLet_s (zgr ev6) E
      refine fg_X10_175 X hI hv6 dX10_greatestInto_9 (fun v7 ev7 hv7 => ?_)
      replace E := zLet_s ev7 E
      refine zg_icmp_ge X 62 dX10_greatestInto_12 (by decide) (fun c8 => ?_) (fun c8 => ?_)
      · skip
        replace E := zIf_f (Int.not_lt.mpr c8) E
        refine zg_iload_n X 1 rfl dX10_greatestInto_62 ?_
        exact ret _ _ _ _ dX10_greatestInto_63 rfl ⟨E.symm.trans hR, hS, ⟨⟨by omega, by omega⟩, hI⟩⟩
      · skip
        replace E := zIf_t c8 E
        refine zg_aload_n X 2 rfl dX10_greatestInto_15 ?_
        refine fg_X10_52 X hI ha0 dX10_greatestInto_16 (fun v9 ev9 hv9 => ?_)
        replace E := zLet_s (zgr ev9) E
        refine fg_X10_116 X hI hv9 dX10_greatestInto_19 (fun v10 ev10 hv10 => ?_)
        replace E := zLet_s (zgr ev10) E
        refine zg_iload_n X 0 rfl dX10_greatestInto_22 ?_
        refine ag_22 X hI hv10 (by omega) (by omega) dX10_greatestInto_23 (fun v11 ev11 hv11 => ?_)
        replace E := zLet_s ev11 E
        refine zg_iload_n X 3 rfl dX10_greatestInto_24 ?_
        refine zg_icmp_ne X 56 dX10_greatestInto_25 (by decide) (fun c12 => ?_) (fun c12 => ?_)
        · skip
          replace E := zIf_f c12 E
          refine zg_iinc X 1 (fun v13 => [(3, .int v13), (2, .int x4), (0, .ref a0), (1, .int p1)]) 0 dX10_greatestInto_56 rfl (by decide) (by decide) (by omega) (by omega) (fun _ => rfl) (fun v13 ev13 hv13 => ?_)
          replace E := zLet_s (zinc ev13 (by decide)) E
          refine zg_goto X 4 dX10_greatestInto_59 (by decide) ?_
          refine zg_sub [0, 1, 2, 3] rfl ?_
          exact ihLp5 _ v13 x4 hI hS E  (by omega) (by omega) 
        · skip
          replace E := zIf_t c12 E
          refine zg_iload_n X 1 rfl dX10_greatestInto_28 ?_
          refine zg_iconst X (-1) dX10_greatestInto_29 (by decide) (fun v14 _ hv14 => ?_)
          replace E := zLet_s (zcst hv14 (by decide)) E
          refine zg_icmp_eq X 54 dX10_greatestInto_30 (by decide) (fun c15 => ?_) (fun c15 => ?_)
          · skip
            replace E := zIf_t c15 E
            refine zg_iload_n X 0 rfl dX10_greatestInto_54 ?_
            refine zg_istore_n X [(2, .int x3), (3, .int x3), (0, .ref a0), (1, .int p1)] dX10_greatestInto_55 (by decide) rfl ?_
            refine zg_iinc X 1 (fun v16 => [(3, .int v16), (2, .int x3), (0, .ref a0), (1, .int p1)]) 1 dX10_greatestInto_56 rfl (by decide) (by decide) (by omega) (by omega) (fun _ => rfl) (fun v16 ev16 hv16 => ?_)
            replace E := zLet_s (zinc ev16 (by decide)) E
            refine zg_goto X 4 dX10_greatestInto_59 (by decide) ?_
            refine zg_sub [0, 1, 2, 3] rfl ?_
            exact ihLp5 _ v16 x3 hI hS E  (by omega) (by omega) 
          · skip
            replace E := zIf_f c15 E
            refine zg_aload_n X 2 rfl dX10_greatestInto_33 ?_
            refine fg_X10_26 X hI ha0 dX10_greatestInto_34 (fun v17 ev17 hv17 => ?_)
            replace E := zLet_s (zgr ev17) E
            refine fg_X10_135 X hI hv17 dX10_greatestInto_37 (fun v18 ev18 hv18 => ?_)
            replace E := zLet_s (zgr ev18) E
            refine zg_iload_n X 0 rfl dX10_greatestInto_40 ?_
            refine ag_31 X hI hv18 (by omega) (by omega) dX10_greatestInto_41 (fun v19 ev19 _ => ?_)
            replace E := zLet_s ev19 E
            refine zg_aload_n X 2 rfl dX10_greatestInto_42 ?_
            refine fg_X10_26 X hI ha0 dX10_greatestInto_43 (fun v20 ev20 hv20 => ?_)
            replace E := zLet_s (zgr ev20) E
            refine fg_X10_135 X hI hv20 dX10_greatestInto_46 (fun v21 ev21 hv21 => ?_)
            replace E := zLet_s (zgr ev21) E
            refine zg_iload_n X 1 rfl dX10_greatestInto_49 ?_
            refine ag_31 X hI hv21 (by omega) (by omega) dX10_greatestInto_50 (fun v22 ev22 _ => ?_)
            replace E := zLet_s ev22 E
            have zv19_z23 := zb_rng v19
            have zv22_z24 := zb_rng v22
            refine zg_icmp_le X 56 dX10_greatestInto_51 (by decide) (fun c25 => ?_) (fun c25 => ?_)
            · skip
              replace E := zIf_f (Int.not_lt.mpr c25) E
              refine zg_iinc X 1 (fun v26 => [(3, .int v26), (2, .int x4), (0, .ref a0), (1, .int p1)]) 0 dX10_greatestInto_56 rfl (by decide) (by decide) (by omega) (by omega) (fun _ => rfl) (fun v26 ev26 hv26 => ?_)
              replace E := zLet_s (zinc ev26 (by decide)) E
              refine zg_goto X 4 dX10_greatestInto_59 (by decide) ?_
              refine zg_sub [0, 1, 2, 3] rfl ?_
              exact ihLp5 _ v26 x4 hI hS E  (by omega) (by omega) 
            · skip
              replace E := zIf_t c25 E
              refine zg_iload_n X 0 rfl dX10_greatestInto_54 ?_
              refine zg_istore_n X [(2, .int x3), (3, .int x3), (0, .ref a0), (1, .int p1)] dX10_greatestInto_55 (by decide) rfl ?_
              refine zg_iinc X 1 (fun v27 => [(3, .int v27), (2, .int x3), (0, .ref a0), (1, .int p1)]) 1 dX10_greatestInto_56 rfl (by decide) (by decide) (by omega) (by omega) (fun _ => rfl) (fun v27 ev27 hv27 => ?_)
              replace E := zLet_s (zinc ev27 (by decide)) E
              refine zg_goto X 4 dX10_greatestInto_59 (by decide) ?_
              refine zg_sub [0, 1, 2, 3] rfl ?_
              exact ihLp5 _ v27 x3 hI hS E  (by omega) (by omega) 
  refine zg_sub [0, 1, 2, 3] rfl ?_
  exact Lp5 10000 _ v2 v1 hI hS E  (by omega) (by omega) 
set_option maxHeartbeats 4000000 in
set_option maxRecDepth 100000 in
theorem t_X10_tryFromNow (l : Launch) (d : zD2) (L : List Nat) (kd : Nat → Nat) (κ : Int) (b : Nat) (σ : zS) (hI : zI κ b L kd σ) (a0 : Nat) (ha0 : zT L kd a0 10) : zMv l yX10_tryFromNow (Cond.code yX10_tryFromNow cX10_tryFromNow 1 none :: zWL) 6 [.ref a0] d L kd σ (fun σ2 => σ2 = F_X10_tryFromNow a0 σ ∧ zSm [1, 6, 20, 21, 22, 23, 24, 30, 31, 33, 34, 35, 36, 38] [5] L kd σ σ2 ∧ (zI κ 1 L kd σ2)) := by
  refine zMv.of (own := RX10) (by decide +kernel) rfl rfl (Nat.le_of_ble_eq_true rfl) ?_
  intro p e s m args below meth c A Q X ret
  refine zg_lv (lv2 := [(0, .ref a0)]) rfl ?_
  obtain ⟨R, hR⟩ : ∃ R, R = F_X10_tryFromNow a0 σ := ⟨_, rfl⟩
  have E := hR
  unfold F_X10_tryFromNow at E
  have hS : zSm [1, 6, 20, 21, 22, 23, 24, 30, 31, 33, 34, 35, 36, 38] [5] L kd σ σ := zSm.rf
  refine zg_aload_n X 0 rfl dX10_tryFromNow_0 ?_
  refine fg_X10_56 X hI ha0 dX10_tryFromNow_1 (fun v1 ev1 hv1 => ?_)
  replace E := zLet_s (zgr ev1) E
  refine zg_aload_n X 0 rfl dX10_tryFromNow_4 ?_
  refine fg_X10_52 X hI ha0 dX10_tryFromNow_5 (fun v2 ev2 hv2 => ?_)
  replace E := zLet_s (zgr ev2) E
  refine zg_cVv (As := [.ref v2]) (st := []) X hv1 rfl (by decide) rfl (t_X1_copy l d L kd κ b _ hI v1 hv1 v2 hv2 ) mk_X10_241 mc_X1_copy mz_X1 mi_X1_copy ml_X1_copy (na := 1) ⟨md_X1.1, md_X1.2, by decide +kernel⟩ rfl ⟨by decide, by decide⟩ (Nat.le_of_ble_eq_true rfl) dX10_tryFromNow_8 (fun s3 hq => ?_)
  obtain ⟨hF, hS2, hI⟩ := hq
  replace E := zLet_s hF E
  have hS := hS.tr hS2 rfl rfl
  refine zg_aload_n X 0 rfl dX10_tryFromNow_11 ?_
  refine fg_X10_26 X hI ha0 dX10_tryFromNow_12 (fun v4 ev4 hv4 => ?_)
  replace E := zLet_s (zgr ev4) E
  refine zg_aload_n X 0 rfl dX10_tryFromNow_15 ?_
  refine fg_X10_70 X hI ha0 dX10_tryFromNow_16 (fun v5 ev5 hv5 => ?_)
  replace E := zLet_s (zgr ev5) E
  refine zg_aload_n X 0 rfl dX10_tryFromNow_19 ?_
  refine fg_X10_56 X hI ha0 dX10_tryFromNow_20 (fun v6 ev6 hv6 => ?_)
  replace E := zLet_s (zgr ev6) E
  refine zg_cVv (As := [.ref v5, .ref v6]) (st := []) X hv4 rfl (by decide) rfl (t_X5_look l d L kd κ b _ hI v4 hv4 v5 hv5 v6 hv6 ) mk_X10_271 mc_X5_look mz_X5 mi_X5_look ml_X5_look (na := 2) ⟨md_X5.1, md_X5.2, by decide +kernel⟩ rfl ⟨by decide, by decide⟩ (Nat.le_of_ble_eq_true rfl) dX10_tryFromNow_23 (fun s7 hq => ?_)
  obtain ⟨hF, hS2, hI⟩ := hq
  replace E := zLet_s hF E
  have hS := hS.tr hS2 rfl rfl
  exact ret _ _ _ dX10_tryFromNow_26 ⟨E.symm.trans hR, hS, hI⟩
set_option maxHeartbeats 4000000 in
set_option maxRecDepth 100000 in
theorem t_X10_tallied (l : Launch) (d : zD2) (L : List Nat) (kd : Nat → Nat) (κ : Int) (b : Nat) (σ : zS) (hI : zI κ b L kd σ) (a0 : Nat) (ha0 : zT L kd a0 10) : zMi l yX10_tallied (Cond.code yX10_tallied cX10_tallied 3 (some .int) :: zWL) 0 [.ref a0] d L kd σ (fun v σ2 => (v, σ2) = F_X10_tallied a0 σ ∧ zSm [] [] L kd σ σ2 ∧ (zI κ b L kd σ2)) := by
  refine zMi.of (own := RX10) (by decide +kernel) rfl rfl (Nat.le_of_ble_eq_true rfl) ?_
  intro p e s m args below meth c A Q X ret
  refine zg_lv (lv2 := [(0, .ref a0)]) rfl ?_
  obtain ⟨R, hR⟩ : ∃ R, R = F_X10_tallied a0 σ := ⟨_, rfl⟩
  have E := hR
  unfold F_X10_tallied at E
  have hS : zSm [] [] L kd σ σ := zSm.rf
  refine zg_iconst X 0 dX10_tallied_0 (by decide) (fun v1 _ hv1 => ?_)
  replace E := zLet_s (zcst hv1 (by decide)) E
  refine zg_istore_n X [(1, .int v1), (0, .ref a0)] dX10_tallied_1 (by decide) rfl ?_
  refine zg_iconst X 1 dX10_tallied_2 (by decide) (fun v2 _ hv2 => ?_)
  replace E := zLet_s (zcst hv2 (by decide)) E
  refine zg_istore_n X [(2, .int v2), (1, .int v1), (0, .ref a0)] dX10_tallied_3 (by decide) rfl ?_
  have Lp5 : ∀ (nLp5 : Nat) (τ5 : zS) (x3 : Int32) (x4 : Int32), zI κ b L kd τ5 → zSm [] [] L kd σ τ5 → R = F_X10_tallied_4 a0  nLp5 x3 x4 τ5 → 1 ≤ x3.toInt ∧ x3.toInt ≤ 12 → (12) - x3.toInt + 1 < (nLp5 : Int) → zG d L kd A 3 p l e (k2_rm 0 (100 * 0)) s m args below meth c Q τ5 4 [(2, .int x3), (1, .int x4), (0, .ref a0)] [] := by
    intro nLp5
    induction nLp5 with
    | zero => intro τ5 x3 x4 hI hS E  hxLp5 hm ; exact absurd hm (by omega)
    | succ nLp5 ihLp5 =>
      intro τ5 x3 x4 hI hS E  hxLp5 hmLp5 
      rw [F_X10_tallied_4] at E
      refine zg_iload_n X 0 rfl dX10_tallied_4 ?_
      refine zg_aload_n X 2 rfl dX10_tallied_5 ?_
      refine fg_X10_70 X hI ha0 dX10_tallied_6 (fun v6 ev6 hv6 => ?_)
      replace E := zLet_s (zgr ev6) E
      refine fg_X10_175 X hI hv6 dX10_tallied_9 (fun v7 ev7 hv7 => ?_)
      replace E := zLet_s ev7 E
      refine zg_icmp_ge X 33 dX10_tallied_12 (by decide) (fun c8 => ?_) (fun c8 => ?_)
      · skip
        replace E := zIf_f (Int.not_lt.mpr c8) E
        refine zg_iload_n X 1 rfl dX10_tallied_33 ?_
        exact ret _ _ _ _ dX10_tallied_34 rfl ⟨E.symm.trans hR, hS, hI⟩
      · skip
        replace E := zIf_t c8 E
        refine zg_aload_n X 2 rfl dX10_tallied_15 ?_
        refine fg_X10_63 X hI ha0 dX10_tallied_16 (fun v9 ev9 hv9 => ?_)
        replace E := zLet_s (zgr ev9) E
        refine zg_iload_n X 0 rfl dX10_tallied_19 ?_
        refine ag_53 X hI hv9 (by omega) (by omega) dX10_tallied_20 (fun v10 ev10 _ => ?_)
        replace E := zLet_s ev10 E
        refine zg_if_le X 27 dX10_tallied_21 (by decide) (fun c11 => ?_) (fun c11 => ?_)
        · skip
          replace E := zIf_f (Int.not_lt.mpr c11) E
          refine zg_iinc X 1 (fun v12 => [(2, .int v12), (1, .int x4), (0, .ref a0)]) 0 dX10_tallied_27 rfl (by decide) (by decide) (by omega) (by omega) (fun _ => rfl) (fun v12 ev12 hv12 => ?_)
          replace E := zLet_s (zinc ev12 (by decide)) E
          refine zg_goto X 4 dX10_tallied_30 (by decide) ?_
          refine zg_sub [0, 1, 2] rfl ?_
          exact ihLp5 _ v12 x4 hI hS E  (by omega) (by omega) 
        · skip
          replace E := zIf_t c11 E
          refine zg_iincW X (fun v13 => [(1, .int v13), (2, .int x3), (0, .ref a0)]) 1 dX10_tallied_24 rfl (by decide) (fun _ => rfl) (fun v13 ev13 => ?_)
          replace E := zLet_s (zinc ev13 (by decide)) E
          refine zg_iinc X 1 (fun v14 => [(2, .int v14), (1, .int v13), (0, .ref a0)]) 1 dX10_tallied_27 rfl (by decide) (by decide) (by omega) (by omega) (fun _ => rfl) (fun v14 ev14 hv14 => ?_)
          replace E := zLet_s (zinc ev14 (by decide)) E
          refine zg_goto X 4 dX10_tallied_30 (by decide) ?_
          refine zg_sub [0, 1, 2] rfl ?_
          exact ihLp5 _ v14 v13 hI hS E  (by omega) (by omega) 
  refine zg_sub [0, 1, 2] rfl ?_
  exact Lp5 10000 _ v2 v1 hI hS E  (by omega) (by omega) 
set_option maxHeartbeats 4000000 in
set_option maxRecDepth 100000 in
theorem t_X10_mostTallied (l : Launch) (d : zD2) (L : List Nat) (kd : Nat → Nat) (κ : Int) (b : Nat) (σ : zS) (hI : zI κ b L kd σ) (a0 : Nat) (ha0 : zT L kd a0 10) : zMi l yX10_mostTallied (Cond.code yX10_mostTallied cX10_mostTallied 3 (some .int) :: zWL) 0 [.ref a0] d L kd σ (fun v σ2 => (v, σ2) = F_X10_mostTallied a0 σ ∧ zSm [] [] L kd σ σ2 ∧ (((-2) ≤ v.toInt ∧ v.toInt ≤ 11) ∧ zI κ b L kd σ2)) := by
  refine zMi.of (own := RX10) (by decide +kernel) rfl rfl (Nat.le_of_ble_eq_true rfl) ?_
  intro p e s m args below meth c A Q X ret
  refine zg_lv (lv2 := [(0, .ref a0)]) rfl ?_
  obtain ⟨R, hR⟩ : ∃ R, R = F_X10_mostTallied a0 σ := ⟨_, rfl⟩
  have E := hR
  unfold F_X10_mostTallied at E
  have hS : zSm [] [] L kd σ σ := zSm.rf
  refine zg_bipush X (-2) dX10_mostTallied_0 (by decide) (fun v1 _ hv1 => ?_)
  replace E := zLet_s (zcst hv1 (by decide)) E
  refine zg_istore_n X [(1, .int v1), (0, .ref a0)] dX10_mostTallied_2 (by decide) rfl ?_
  refine zg_iconst X 1 dX10_mostTallied_3 (by decide) (fun v2 _ hv2 => ?_)
  replace E := zLet_s (zcst hv2 (by decide)) E
  refine zg_istore_n X [(2, .int v2), (1, .int v1), (0, .ref a0)] dX10_mostTallied_4 (by decide) rfl ?_
  have Lp5 : ∀ (nLp5 : Nat) (τ5 : zS) (x3 : Int32) (x4 : Int32), zI κ b L kd τ5 → zSm [] [] L kd σ τ5 → R = F_X10_mostTallied_5 a0  nLp5 x3 x4 τ5 → (-2) ≤ x4.toInt ∧ x4.toInt ≤ 11 ∧ 1 ≤ x3.toInt ∧ x3.toInt ≤ 12 → (12) - x3.toInt + 1 < (nLp5 : Int) → zG d L kd A 3 p l e (k2_rm 0 (100 * 0)) s m args below meth c Q τ5 5 [(2, .int x3), (1, .int x4), (0, .ref a0)] [] := by
    intro nLp5
    induction nLp5 with
    | zero => intro τ5 x3 x4 hI hS E  hxLp5 hm ; exact absurd hm (by omega)
    | succ nLp5 ihLp5 =>
      intro τ5 x3 x4 hI hS E  hxLp5 hmLp5 
      rw [F_X10_mostTallied_5] at E
      refine zg_iload_n X 0 rfl dX10_mostTallied_5 ?_
      refine zg_aload_n X 2 rfl dX10_mostTallied_6 ?_
      refine fg_X10_70 X hI ha0 dX10_mostTallied_7 (fun v6 ev6 hv6 => ?_)
      replace E := zLet_s (zgr ev6) E
      refine fg_X10_175 X hI hv6 dX10_mostTallied_10 (fun v7 ev7 hv7 => ?_)
      replace E := zLet_s ev7 E
      refine zg_icmp_ge X 47 dX10_mostTallied_13 (by decide) (fun c8 => ?_) (fun c8 => ?_)
      · skip
        replace E := zIf_f (Int.not_lt.mpr c8) E
        refine zg_iload_n X 1 rfl dX10_mostTallied_47 ?_
        exact ret _ _ _ _ dX10_mostTallied_48 rfl ⟨E.symm.trans hR, hS, ⟨⟨by omega, by omega⟩, hI⟩⟩
      · skip
        replace E := zIf_t c8 E
        refine zg_aload_n X 2 rfl dX10_mostTallied_16 ?_
        refine fg_X10_63 X hI ha0 dX10_mostTallied_17 (fun v9 ev9 hv9 => ?_)
        replace E := zLet_s (zgr ev9) E
        refine zg_iload_n X 0 rfl dX10_mostTallied_20 ?_
        refine ag_53 X hI hv9 (by omega) (by omega) dX10_mostTallied_21 (fun v10 ev10 _ => ?_)
        replace E := zLet_s ev10 E
        refine zg_iload_n X 1 rfl dX10_mostTallied_22 ?_
        refine zg_if_ge X 30 dX10_mostTallied_23 (by decide) (fun c11 => ?_) (fun c11 => ?_)
        · skip
          replace E := zIf_f (Int.not_lt.mpr c11) E
          refine zg_aload_n X 2 rfl dX10_mostTallied_30 ?_
          refine fg_X10_63 X hI ha0 dX10_mostTallied_31 (fun v12 ev12 hv12 => ?_)
          replace E := zLet_s (zgr ev12) E
          refine zg_iload_n X 1 rfl dX10_mostTallied_34 ?_
          refine ag_53 X hI hv12 (by omega) (by omega) dX10_mostTallied_35 (fun v13 ev13 _ => ?_)
          replace E := zLet_s ev13 E
          have zv10_z14 := zb_rng v10
          have zv13_z15 := zb_rng v13
          refine zg_icmp_le X 41 dX10_mostTallied_36 (by decide) (fun c16 => ?_) (fun c16 => ?_)
          · skip
            replace E := zIf_f (Int.not_lt.mpr c16) E
            refine zg_iinc X 1 (fun v17 => [(2, .int v17), (1, .int x4), (0, .ref a0)]) 0 dX10_mostTallied_41 rfl (by decide) (by decide) (by omega) (by omega) (fun _ => rfl) (fun v17 ev17 hv17 => ?_)
            replace E := zLet_s (zinc ev17 (by decide)) E
            refine zg_goto X 5 dX10_mostTallied_44 (by decide) ?_
            refine zg_sub [0, 1, 2] rfl ?_
            exact ihLp5 _ v17 x4 hI hS E  (by omega) (by omega) 
          · skip
            replace E := zIf_t c16 E
            refine zg_iload_n X 0 rfl dX10_mostTallied_39 ?_
            refine zg_istore_n X [(1, .int x3), (2, .int x3), (0, .ref a0)] dX10_mostTallied_40 (by decide) rfl ?_
            refine zg_iinc X 1 (fun v18 => [(2, .int v18), (1, .int x3), (0, .ref a0)]) 1 dX10_mostTallied_41 rfl (by decide) (by decide) (by omega) (by omega) (fun _ => rfl) (fun v18 ev18 hv18 => ?_)
            replace E := zLet_s (zinc ev18 (by decide)) E
            refine zg_goto X 5 dX10_mostTallied_44 (by decide) ?_
            refine zg_sub [0, 1, 2] rfl ?_
            exact ihLp5 _ v18 x3 hI hS E  (by omega) (by omega) 
        · skip
          replace E := zIf_t c11 E
          refine zg_iconst X 0 dX10_mostTallied_26 (by decide) (fun v19 _ hv19 => ?_)
          replace E := zLet_s (zcst hv19 (by decide)) E
          refine zg_goto X 36 dX10_mostTallied_27 (by decide) ?_
          have zv10_z20 := zb_rng v10
          refine zg_icmp_le X 41 dX10_mostTallied_36 (by decide) (fun c21 => ?_) (fun c21 => ?_)
          · skip
            replace E := zIf_f (Int.not_lt.mpr c21) E
            refine zg_iinc X 1 (fun v22 => [(2, .int v22), (1, .int x4), (0, .ref a0)]) 0 dX10_mostTallied_41 rfl (by decide) (by decide) (by omega) (by omega) (fun _ => rfl) (fun v22 ev22 hv22 => ?_)
            replace E := zLet_s (zinc ev22 (by decide)) E
            refine zg_goto X 5 dX10_mostTallied_44 (by decide) ?_
            refine zg_sub [0, 1, 2] rfl ?_
            exact ihLp5 _ v22 x4 hI hS E  (by omega) (by omega) 
          · skip
            replace E := zIf_t c21 E
            refine zg_iload_n X 0 rfl dX10_mostTallied_39 ?_
            refine zg_istore_n X [(1, .int x3), (2, .int x3), (0, .ref a0)] dX10_mostTallied_40 (by decide) rfl ?_
            refine zg_iinc X 1 (fun v23 => [(2, .int v23), (1, .int x3), (0, .ref a0)]) 1 dX10_mostTallied_41 rfl (by decide) (by decide) (by omega) (by omega) (fun _ => rfl) (fun v23 ev23 hv23 => ?_)
            replace E := zLet_s (zinc ev23 (by decide)) E
            refine zg_goto X 5 dX10_mostTallied_44 (by decide) ?_
            refine zg_sub [0, 1, 2] rfl ?_
            exact ihLp5 _ v23 x3 hI hS E  (by omega) (by omega) 
  refine zg_sub [0, 1, 2] rfl ?_
  exact Lp5 10000 _ v2 v1 hI hS E  (by omega) (by omega) 
set_option maxHeartbeats 4000000 in
set_option maxRecDepth 100000 in
theorem t_X10_hasWonMost (l : Launch) (d : zD2) (L : List Nat) (kd : Nat → Nat) (κ : Int) (b : Nat) (σ : zS) (hI : zI κ b L kd σ) (a0 : Nat) (ha0 : zT L kd a0 10) (p1 : Int32) (hq0 : 0 ≤ p1.toInt ∧ p1.toInt ≤ 11) : zMi l yX10_hasWonMost (Cond.code yX10_hasWonMost cX10_hasWonMost 4 (some .boolean) :: zWL) 1 [.ref a0, .int p1] d L kd σ (fun v σ2 => (v, σ2) = F_X10_hasWonMost a0 p1 σ ∧ zSm [] [] L kd σ σ2 ∧ ((0 ≤ v.toInt ∧ v.toInt ≤ 1) ∧ zI κ b L kd σ2)) := by
  refine zMi.of (own := RX10) (by decide +kernel) rfl rfl (Nat.le_of_ble_eq_true rfl) ?_
  intro p e s m args below meth c A Q X ret
  refine zg_lv (lv2 := [(0, .ref a0), (1, .int p1)]) rfl ?_
  obtain ⟨R, hR⟩ : ∃ R, R = F_X10_hasWonMost a0 p1 σ := ⟨_, rfl⟩
  have E := hR
  unfold F_X10_hasWonMost at E
  have hS : zSm [] [] L kd σ σ := zSm.rf
  refine zg_iconst X 1 dX10_hasWonMost_0 (by decide) (fun v1 _ hv1 => ?_)
  replace E := zLet_s (zcst hv1 (by decide)) E
  refine zg_istore_n X [(2, .int v1), (0, .ref a0), (1, .int p1)] dX10_hasWonMost_1 (by decide) rfl ?_
  refine zg_iconst X 1 dX10_hasWonMost_2 (by decide) (fun v2 _ hv2 => ?_)
  replace E := zLet_s (zcst hv2 (by decide)) E
  refine zg_istore_n X [(3, .int v2), (2, .int v1), (0, .ref a0), (1, .int p1)] dX10_hasWonMost_3 (by decide) rfl ?_
  have Lp5 : ∀ (nLp5 : Nat) (τ5 : zS) (x3 : Int32) (x4 : Int32), zI κ b L kd τ5 → zSm [] [] L kd σ τ5 → R = F_X10_hasWonMost_4 a0 p1  nLp5 x3 x4 τ5 → 0 ≤ x4.toInt ∧ x4.toInt ≤ 1 ∧ 1 ≤ x3.toInt ∧ x3.toInt ≤ 12 → (12) - x3.toInt + 1 < (nLp5 : Int) → zG d L kd A 4 p l e (k2_rm 1 (100 * 1)) s m args below meth c Q τ5 4 [(3, .int x3), (2, .int x4), (0, .ref a0), (1, .int p1)] [] := by
    intro nLp5
    induction nLp5 with
    | zero => intro τ5 x3 x4 hI hS E  hxLp5 hm ; exact absurd hm (by omega)
    | succ nLp5 ihLp5 =>
      intro τ5 x3 x4 hI hS E  hxLp5 hmLp5 
      rw [F_X10_hasWonMost_4] at E
      refine zg_iload_n X 0 rfl dX10_hasWonMost_4 ?_
      refine zg_aload_n X 2 rfl dX10_hasWonMost_5 ?_
      refine fg_X10_70 X hI ha0 dX10_hasWonMost_6 (fun v6 ev6 hv6 => ?_)
      replace E := zLet_s (zgr ev6) E
      refine fg_X10_175 X hI hv6 dX10_hasWonMost_9 (fun v7 ev7 hv7 => ?_)
      replace E := zLet_s ev7 E
      refine zg_icmp_ge X 60 dX10_hasWonMost_12 (by decide) (fun c8 => ?_) (fun c8 => ?_)
      · skip
        replace E := zIf_f (Int.not_lt.mpr c8) E
        refine zg_iload_n X 1 rfl dX10_hasWonMost_60 ?_
        exact ret _ _ _ _ dX10_hasWonMost_61 (zb_bool ⟨by omega, by omega⟩) ⟨E.symm.trans hR, hS, ⟨⟨by omega, by omega⟩, hI⟩⟩
      · skip
        replace E := zIf_t c8 E
        refine zg_iload_n X 0 rfl dX10_hasWonMost_15 ?_
        refine zg_iload_n X 3 rfl dX10_hasWonMost_16 ?_
        refine zg_icmp_eq X 54 dX10_hasWonMost_17 (by decide) (fun c9 => ?_) (fun c9 => ?_)
        · skip
          replace E := zIf_t c9 E
          refine zg_iinc X 1 (fun v10 => [(3, .int v10), (2, .int x4), (0, .ref a0), (1, .int p1)]) 0 dX10_hasWonMost_54 rfl (by decide) (by decide) (by omega) (by omega) (fun _ => rfl) (fun v10 ev10 hv10 => ?_)
          replace E := zLet_s (zinc ev10 (by decide)) E
          refine zg_goto X 4 dX10_hasWonMost_57 (by decide) ?_
          refine zg_sub [0, 1, 2, 3] rfl ?_
          exact ihLp5 _ v10 x4 hI hS E  (by omega) (by omega) 
        · skip
          replace E := zIf_f c9 E
          refine zg_aload_n X 2 rfl dX10_hasWonMost_20 ?_
          refine fg_X10_34 X hI ha0 dX10_hasWonMost_21 (fun v11 ev11 hv11 => ?_)
          replace E := zLet_s (zgr ev11) E
          refine zg_iload_n X 0 rfl dX10_hasWonMost_24 ?_
          refine zg_cVi (As := [.int x3]) (st := []) X hv11 rfl (by decide) rfl (t_X6_isSource l d L kd κ b _ hI v11 hv11 x3 ) mk_X10_146 mc_X6_isSource mz_X6 mi_X6_isSource ml_X6_isSource (na := 1) ⟨md_X6.1, md_X6.2, by decide +kernel⟩ rfl ⟨by decide, by decide⟩ (Nat.le_of_ble_eq_true rfl) dX10_hasWonMost_25 (fun v12 s13 hq => ?_)
          obtain ⟨hF, hS2, hI⟩ := hq
          replace E := zLet2_s hF E
          have hS := hS.tr hS2 rfl rfl
          obtain ⟨hv12, hI⟩ := hI
          refine zg_if_eq X 54 dX10_hasWonMost_28 (by decide) (fun c14 => ?_) (fun c14 => ?_)
          · skip
            replace E := zIf_t c14 E
            refine zg_iinc X 1 (fun v15 => [(3, .int v15), (2, .int x4), (0, .ref a0), (1, .int p1)]) 0 dX10_hasWonMost_54 rfl (by decide) (by decide) (by omega) (by omega) (fun _ => rfl) (fun v15 ev15 hv15 => ?_)
            replace E := zLet_s (zinc ev15 (by decide)) E
            refine zg_goto X 4 dX10_hasWonMost_57 (by decide) ?_
            refine zg_sub [0, 1, 2, 3] rfl ?_
            exact ihLp5 _ v15 x4 hI hS E  (by omega) (by omega) 
          · skip
            replace E := zIf_f c14 E
            refine zg_aload_n X 2 rfl dX10_hasWonMost_31 ?_
            refine fg_X10_56 X hI ha0 dX10_hasWonMost_32 (fun v16 ev16 hv16 => ?_)
            replace E := zLet_s (zgr ev16) E
            refine fg_X10_149 X hI hv16 dX10_hasWonMost_35 (fun v17 ev17 hv17 => ?_)
            replace E := zLet_s (zgr ev17) E
            refine zg_iload_n X 0 rfl dX10_hasWonMost_38 ?_
            refine ag_23 X hI hv17 (by omega) (by omega) dX10_hasWonMost_39 (fun v18 ev18 _ => ?_)
            replace E := zLet_s ev18 E
            refine zg_aload_n X 2 rfl dX10_hasWonMost_40 ?_
            refine fg_X10_56 X hI ha0 dX10_hasWonMost_41 (fun v19 ev19 hv19 => ?_)
            replace E := zLet_s (zgr ev19) E
            refine fg_X10_149 X hI hv19 dX10_hasWonMost_44 (fun v20 ev20 hv20 => ?_)
            replace E := zLet_s (zgr ev20) E
            refine zg_iload_n X 3 rfl dX10_hasWonMost_47 ?_
            refine ag_23 X hI hv20 (by omega) (by omega) dX10_hasWonMost_48 (fun v21 ev21 _ => ?_)
            replace E := zLet_s ev21 E
            have zv18_z22 := zb_rng v18
            have zv21_z23 := zb_rng v21
            refine zg_icmp_lt X 54 dX10_hasWonMost_49 (by decide) (fun c24 => ?_) (fun c24 => ?_)
            · skip
              replace E := zIf_t c24 E
              refine zg_iinc X 1 (fun v25 => [(3, .int v25), (2, .int x4), (0, .ref a0), (1, .int p1)]) 0 dX10_hasWonMost_54 rfl (by decide) (by decide) (by omega) (by omega) (fun _ => rfl) (fun v25 ev25 hv25 => ?_)
              replace E := zLet_s (zinc ev25 (by decide)) E
              refine zg_goto X 4 dX10_hasWonMost_57 (by decide) ?_
              refine zg_sub [0, 1, 2, 3] rfl ?_
              exact ihLp5 _ v25 x4 hI hS E  (by omega) (by omega) 
            · skip
              replace E := zIf_f (Int.not_lt.mpr c24) E
              refine zg_iconst X 0 dX10_hasWonMost_52 (by decide) (fun v26 _ hv26 => ?_)
              replace E := zLet_s (zcst hv26 (by decide)) E
              refine zg_istore_n X [(2, .int v26), (3, .int x3), (0, .ref a0), (1, .int p1)] dX10_hasWonMost_53 (by decide) rfl ?_
              refine zg_iinc X 1 (fun v27 => [(3, .int v27), (2, .int v26), (0, .ref a0), (1, .int p1)]) 1 dX10_hasWonMost_54 rfl (by decide) (by decide) (by omega) (by omega) (fun _ => rfl) (fun v27 ev27 hv27 => ?_)
              replace E := zLet_s (zinc ev27 (by decide)) E
              refine zg_goto X 4 dX10_hasWonMost_57 (by decide) ?_
              refine zg_sub [0, 1, 2, 3] rfl ?_
              exact ihLp5 _ v27 v26 hI hS E  (by omega) (by omega) 
  refine zg_sub [0, 1, 2, 3] rfl ?_
  exact Lp5 10000 _ v2 v1 hI hS E  (by omega) (by omega) 
set_option maxHeartbeats 4000000 in
set_option maxRecDepth 100000 in
theorem t_X10_leftAtWorst (l : Launch) (d : zD2) (L : List Nat) (kd : Nat → Nat) (κ : Int) (b : Nat) (σ : zS) (hI : zI κ b L kd σ) (a0 : Nat) (ha0 : zT L kd a0 10) (p1 : Int32) (p2 : Int32) : zMi l yX10_leftAtWorst (Cond.code yX10_leftAtWorst cX10_leftAtWorst 4 (some .int) :: zWL) 3 [.ref a0, .int p1, .int p2] d L kd σ (fun v σ2 => (v, σ2) = F_X10_leftAtWorst a0 p1 p2 σ ∧ zSm [] [] L kd σ σ2 ∧ (zI κ b L kd σ2)) := by
  refine zMi.of (own := RX10) (by decide +kernel) rfl rfl (Nat.le_of_ble_eq_true rfl) ?_
  intro p e s m args below meth c A Q X ret
  refine zg_lv (lv2 := [(0, .ref a0), (1, .int p1), (2, .int p2)]) rfl ?_
  obtain ⟨R, hR⟩ : ∃ R, R = F_X10_leftAtWorst a0 p1 p2 σ := ⟨_, rfl⟩
  have E := hR
  unfold F_X10_leftAtWorst at E
  have hS : zSm [] [] L kd σ σ := zSm.rf
  refine zg_iload_n X 1 rfl dX10_leftAtWorst_0 ?_
  refine zg_aload_n X 0 rfl dX10_leftAtWorst_1 ?_
  refine fg_X10_34 X hI ha0 dX10_leftAtWorst_2 (fun v1 ev1 hv1 => ?_)
  replace E := zLet_s (zgr ev1) E
  refine zg_iload_n X 2 rfl dX10_leftAtWorst_5 ?_
  refine zg_cVi (As := [.int p2]) (st := [.int p1]) X hv1 rfl (by decide) rfl (t_X6_comingBy l d L kd κ b _ hI v1 hv1 p2 ) mk_X10_324 mc_X6_comingBy mz_X6 mi_X6_comingBy ml_X6_comingBy (na := 1) ⟨md_X6.1, md_X6.2, by decide +kernel⟩ rfl ⟨by decide, by decide⟩ (Nat.le_of_ble_eq_true rfl) dX10_leftAtWorst_6 (fun v2 s3 hq => ?_)
  obtain ⟨hF, hS2, hI⟩ := hq
  replace E := zLet2_s hF E
  have hS := hS.tr hS2 rfl rfl
  refine zg_iandW X dX10_leftAtWorst_9 (fun v4 ev4 => ?_)
  replace E := zLet_s ev4 E
  refine zg_istore_n X [(3, .int v4), (0, .ref a0), (1, .int p1), (2, .int p2)] dX10_leftAtWorst_10 (by decide) rfl ?_
  refine zg_iload_n X 0 rfl dX10_leftAtWorst_11 ?_
  refine zg_cSi (As := [.int v4]) (st := []) X (t_J6_bitCount_0f7a4 l d L kd _ v4 ) mk_X10_198 mc_J6_bitCount_0f7a4 mz_J6 ms_J6_bitCount_0f7a4 (na := 1) ⟨md_J6.1, md_J6.2, by decide +kernel⟩ rfl ⟨by decide, by decide⟩ (Nat.le_of_ble_eq_true rfl) dX10_leftAtWorst_12 (fun v5 σ2 hq => ?_)
  obtain ⟨⟨hF, hv5⟩, rfl⟩ := hq
  replace E := zLet_s hF E
  refine zg_iload_n X 2 rfl dX10_leftAtWorst_15 ?_
  refine zg_iload_n X 0 rfl dX10_leftAtWorst_16 ?_
  refine zg_iconst X (-1) dX10_leftAtWorst_17 (by decide) (fun v6 _ hv6 => ?_)
  replace E := zLet_s (zcst hv6 (by decide)) E
  refine zg_ixorW X dX10_leftAtWorst_18 (fun v7 ev7 => ?_)
  replace E := zLet_s ev7 E
  refine zg_iandW X dX10_leftAtWorst_19 (fun v8 ev8 => ?_)
  replace E := zLet_s ev8 E
  refine zg_cSi (As := [.int v8]) (st := [.int v5]) X (t_J6_bitCount_0f7a4 l d L kd _ v8 ) mk_X10_198 mc_J6_bitCount_0f7a4 mz_J6 ms_J6_bitCount_0f7a4 (na := 1) ⟨md_J6.1, md_J6.2, by decide +kernel⟩ rfl ⟨by decide, by decide⟩ (Nat.le_of_ble_eq_true rfl) dX10_leftAtWorst_20 (fun v9 σ2 hq => ?_)
  obtain ⟨⟨hF, hv9⟩, rfl⟩ := hq
  replace E := zLet_s hF E
  refine zg_max X wj_X10_333 ⟨by decide, Nat.le_of_ble_eq_true rfl⟩ dX10_leftAtWorst_23 (fun v10 hv10 => ?_)
  replace E := zLet_s (zmax_e hv10) E
  exact ret _ _ _ _ dX10_leftAtWorst_26 rfl ⟨E.symm.trans hR, hS, hI⟩
