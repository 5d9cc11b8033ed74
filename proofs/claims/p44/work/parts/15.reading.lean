set_option maxHeartbeats 4000000 in
set_option maxRecDepth 100000 in
theorem t_X8_isLetter (l : Launch) (d : zD2) (L : List Nat) (kd : Nat → Nat) (σ : zS) (p1 : Int32) : zMi l yX8_isLetter (Cond.code yX8_isLetter cX8_isLetter 1 (some .boolean) :: zWL) 0 [.int p1] d L kd σ (fun v σ2 => (v = F_X8_isLetter p1 ∧ ((0 ≤ v.toInt ∧ v.toInt ≤ 1))) ∧ σ = σ2) := by
  refine zMi.of (own := RX8) (by decide +kernel) rfl rfl (Nat.le_of_ble_eq_true rfl) ?_
  intro p e s m args below meth c A Q X ret
  refine zg_lv (lv2 := [(0, .int p1)]) rfl ?_
  obtain ⟨R, hR⟩ : ∃ R, R = F_X8_isLetter p1 := ⟨_, rfl⟩
  have E := hR
  unfold F_X8_isLetter at E
  refine zg_iload_n X 0 rfl dX8_isLetter_0 ?_
  refine zg_bipush X 97 dX8_isLetter_1 (by decide) (fun v1 _ hv1 => ?_)
  replace E := zLet_s (zcst hv1 (by decide)) E
  have zp1_z2 := zb_rng p1
  refine zg_icmp_lt X 16 dX8_isLetter_3 (by decide) (fun c3 => ?_) (fun c3 => ?_)
  · skip
    replace E := zIf_t c3 E
    refine zg_iconst X 0 dX8_isLetter_16 (by decide) (fun v4 _ hv4 => ?_)
    replace E := zLet_s (zcst hv4 (by decide)) E
    exact ret _ _ _ _ dX8_isLetter_17 (zb_bool ⟨by omega, by omega⟩) ⟨⟨E.symm.trans hR, ⟨by omega, by omega⟩⟩, rfl⟩
  · skip
    replace E := zIf_f (Int.not_lt.mpr c3) E
    refine zg_iload_n X 0 rfl dX8_isLetter_6 ?_
    refine zg_bipush X 122 dX8_isLetter_7 (by decide) (fun v5 _ hv5 => ?_)
    replace E := zLet_s (zcst hv5 (by decide)) E
    have zp1_z6 := zb_rng p1
    refine zg_icmp_gt X 16 dX8_isLetter_9 (by decide) (fun c7 => ?_) (fun c7 => ?_)
    · skip
      replace E := zIf_t c7 E
      refine zg_iconst X 0 dX8_isLetter_16 (by decide) (fun v8 _ hv8 => ?_)
      replace E := zLet_s (zcst hv8 (by decide)) E
      exact ret _ _ _ _ dX8_isLetter_17 (zb_bool ⟨by omega, by omega⟩) ⟨⟨E.symm.trans hR, ⟨by omega, by omega⟩⟩, rfl⟩
    · skip
      replace E := zIf_f (Int.not_lt.mpr c7) E
      refine zg_iconst X 1 dX8_isLetter_12 (by decide) (fun v9 _ hv9 => ?_)
      replace E := zLet_s (zcst hv9 (by decide)) E
      refine zg_goto X 17 dX8_isLetter_13 (by decide) ?_
      exact ret _ _ _ _ dX8_isLetter_17 (zb_bool ⟨by omega, by omega⟩) ⟨⟨E.symm.trans hR, ⟨by omega, by omega⟩⟩, rfl⟩
set_option maxHeartbeats 4000000 in
set_option maxRecDepth 100000 in
theorem t_X8_isDigit (l : Launch) (d : zD2) (L : List Nat) (kd : Nat → Nat) (σ : zS) (p1 : Int32) : zMi l yX8_isDigit (Cond.code yX8_isDigit cX8_isDigit 1 (some .boolean) :: zWL) 0 [.int p1] d L kd σ (fun v σ2 => (v = F_X8_isDigit p1 ∧ ((0 ≤ v.toInt ∧ v.toInt ≤ 1))) ∧ σ = σ2) := by
  refine zMi.of (own := RX8) (by decide +kernel) rfl rfl (Nat.le_of_ble_eq_true rfl) ?_
  intro p e s m args below meth c A Q X ret
  refine zg_lv (lv2 := [(0, .int p1)]) rfl ?_
  obtain ⟨R, hR⟩ : ∃ R, R = F_X8_isDigit p1 := ⟨_, rfl⟩
  have E := hR
  unfold F_X8_isDigit at E
  refine zg_iload_n X 0 rfl dX8_isDigit_0 ?_
  refine zg_bipush X 48 dX8_isDigit_1 (by decide) (fun v1 _ hv1 => ?_)
  replace E := zLet_s (zcst hv1 (by decide)) E
  have zp1_z2 := zb_rng p1
  refine zg_icmp_lt X 16 dX8_isDigit_3 (by decide) (fun c3 => ?_) (fun c3 => ?_)
  · skip
    replace E := zIf_t c3 E
    refine zg_iconst X 0 dX8_isDigit_16 (by decide) (fun v4 _ hv4 => ?_)
    replace E := zLet_s (zcst hv4 (by decide)) E
    exact ret _ _ _ _ dX8_isDigit_17 (zb_bool ⟨by omega, by omega⟩) ⟨⟨E.symm.trans hR, ⟨by omega, by omega⟩⟩, rfl⟩
  · skip
    replace E := zIf_f (Int.not_lt.mpr c3) E
    refine zg_iload_n X 0 rfl dX8_isDigit_6 ?_
    refine zg_bipush X 57 dX8_isDigit_7 (by decide) (fun v5 _ hv5 => ?_)
    replace E := zLet_s (zcst hv5 (by decide)) E
    have zp1_z6 := zb_rng p1
    refine zg_icmp_gt X 16 dX8_isDigit_9 (by decide) (fun c7 => ?_) (fun c7 => ?_)
    · skip
      replace E := zIf_t c7 E
      refine zg_iconst X 0 dX8_isDigit_16 (by decide) (fun v8 _ hv8 => ?_)
      replace E := zLet_s (zcst hv8 (by decide)) E
      exact ret _ _ _ _ dX8_isDigit_17 (zb_bool ⟨by omega, by omega⟩) ⟨⟨E.symm.trans hR, ⟨by omega, by omega⟩⟩, rfl⟩
    · skip
      replace E := zIf_f (Int.not_lt.mpr c7) E
      refine zg_iconst X 1 dX8_isDigit_12 (by decide) (fun v9 _ hv9 => ?_)
      replace E := zLet_s (zcst hv9 (by decide)) E
      refine zg_goto X 17 dX8_isDigit_13 (by decide) ?_
      exact ret _ _ _ _ dX8_isDigit_17 (zb_bool ⟨by omega, by omega⟩) ⟨⟨E.symm.trans hR, ⟨by omega, by omega⟩⟩, rfl⟩
set_option maxHeartbeats 4000000 in
set_option maxRecDepth 100000 in
theorem t_X8_withLetter (l : Launch) (d : zD2) (L : List Nat) (kd : Nat → Nat) (σ : zS) (p1 : Int64) (p2 : Int32) : zMl l yX8_withLetter (Cond.code yX8_withLetter cX8_withLetter 3 (some .long) :: zWL) 0 [.long p1, .int p2] d L kd σ (fun v σ2 => (v = F_X8_withLetter p1 p2 ∧ (True)) ∧ σ = σ2) := by
  refine zMl.of (own := RX8) (by decide +kernel) rfl rfl (Nat.le_of_ble_eq_true rfl) ?_
  intro p e s m args below meth c A Q X ret
  refine zg_lv (lv2 := [(0, .long p1), (2, .int p2)]) rfl ?_
  obtain ⟨R, hR⟩ : ∃ R, R = F_X8_withLetter p1 p2 := ⟨_, rfl⟩
  have E := hR
  unfold F_X8_withLetter at E
  refine zg_lload_n X 0 rfl dX8_withLetter_0 ?_
  refine zg_ldc2 X wk_X8_43 dX8_withLetter_1 (fun v1 ev1 => ?_)
  replace E := zLet_s ev1 E
  refine zg_lmul X dX8_withLetter_4 (fun v2 ev2 => ?_)
  replace E := zLet_s ev2 E
  refine zg_iload_n X 1 rfl dX8_withLetter_5 ?_
  refine zg_bipush X 97 dX8_withLetter_6 (by decide) (fun v3 _ hv3 => ?_)
  replace E := zLet_s (zcst hv3 (by decide)) E
  refine zg_isubW X dX8_withLetter_8 (fun v4 ev4 => ?_)
  replace E := zLet_s ev4 E
  refine zg_iconst X 1 dX8_withLetter_9 (by decide) (fun v5 _ hv5 => ?_)
  replace E := zLet_s (zcst hv5 (by decide)) E
  refine zg_iaddW X dX8_withLetter_10 (fun v6 ev6 => ?_)
  replace E := zLet_s ev6 E
  refine zg_i2l X dX8_withLetter_11 (fun v7 ev7 => ?_)
  replace E := zLet_s ev7 E
  refine zg_ladd X dX8_withLetter_12 (fun v8 ev8 => ?_)
  replace E := zLet_s ev8 E
  exact ret _ _ _ _ dX8_withLetter_13 ⟨⟨E.symm.trans hR, trivial⟩, rfl⟩
set_option maxHeartbeats 4000000 in
set_option maxRecDepth 100000 in
theorem t_X8_add (l : Launch) (d : zD2) (L : List Nat) (kd : Nat → Nat) (κ : Int) (b : Nat) (σ : zS) (hI : zI κ b L kd σ) (a0 : Nat) (ha0 : zT L kd a0 8) (p1 : Int32) (p2 : Int64) (p3 : Int32) : zMv l yX8_add (Cond.code yX8_add cX8_add 5 none :: zWL) 0 [.ref a0, .int p1, .long p2, .int p3] d L kd σ (fun σ2 => σ2 = F_X8_add a0 p1 p2 p3 σ ∧ zSm [8, 41, 42, 43] [] L kd σ σ2 ∧ (zI κ b L kd σ2)) := by
  refine zMv.of (own := RX8) (by decide +kernel) rfl rfl (Nat.le_of_ble_eq_true rfl) ?_
  intro p e s m args below meth c A Q X ret
  refine zg_lv (lv2 := [(0, .ref a0), (1, .int p1), (2, .long p2), (4, .int p3)]) rfl ?_
  obtain ⟨R, hR⟩ : ∃ R, R = F_X8_add a0 p1 p2 p3 σ := ⟨_, rfl⟩
  have E := hR
  unfold F_X8_add at E
  have hS : zSm [8, 41, 42, 43] [] L kd σ σ := zSm.rf
  refine zg_aload_n X 0 rfl dX8_add_0 ?_
  refine fg_X8_23 X hI ha0 dX8_add_1 (fun v1 ev1 hv1 => ?_)
  replace E := zLet_s ev1 E
  refine zg_aload_n X 0 rfl dX8_add_4 ?_
  refine fg_X8_13 X hI ha0 dX8_add_5 (fun v2 ev2 hv2 => ?_)
  replace E := zLet_s (zgr ev2) E
  refine zg_alen13 X hv2 rfl (by decide) dX8_add_8 (fun v3 hv3 => ?_)
  have hv3 : v3.toInt = 402 := hv3
  replace E := zLet_s (zcst hv3 (by decide)) E
  refine zg_icmp_ge X 53 dX8_add_9 (by decide) (fun c4 => ?_) (fun c4 => ?_)
  · skip
    replace E := zIf_f (Int.not_lt.mpr c4) E
    exact ret _ _ _ dX8_add_53 ⟨E.symm.trans hR, hS, hI⟩
  · skip
    replace E := zIf_t c4 E
    refine zg_aload_n X 0 rfl dX8_add_12 ?_
    refine fg_X8_13 X hI ha0 dX8_add_13 (fun v5 ev5 hv5 => ?_)
    replace E := zLet_s (zgr ev5) E
    refine zg_aload_n X 0 rfl dX8_add_16 ?_
    refine fg_X8_23 X hI ha0 dX8_add_17 (fun v6 ev6 hv6 => ?_)
    replace E := zLet_s ev6 E
    have mv6 : v6.toInt = v1.toInt := by rw [ev6, ← ev1]
    refine zg_iload_n X 1 rfl dX8_add_20 ?_
    refine as_41 X hI hv5 (by omega) (by omega) dX8_add_21 (fun s7 es7 hI => ?_)
    replace E := zLet_s es7 E
    have hS := hS.i hv5 es7 rfl
    have e8 : v6 = s7.1 a0 4 := by rw [es7]; exact zm_k hv5 ha0 (by decide) ev6
    refine zg_aload_n X 0 rfl dX8_add_22 ?_
    refine fg_X8_17 X hI ha0 dX8_add_23 (fun v9 ev9 hv9 => ?_)
    replace E := zLet_s (zgr ev9) E
    refine zg_aload_n X 0 rfl dX8_add_26 ?_
    refine fg_X8_23 X hI ha0 dX8_add_27 (fun v10 ev10 hv10 => ?_)
    replace E := zLet_s ev10 E
    have mv10 : v10.toInt = v6.toInt := by rw [ev10, ← e8]
    refine zg_lload_n X 2 rfl dX8_add_30 ?_
    refine as_42 X hI hv9 (by omega) (by omega) dX8_add_31 (fun s11 es11 hI => ?_)
    replace E := zLet_s es11 E
    have hS := hS.l hv9 es11 rfl
    have e12 : v10 = s11.1 a0 4 := by rw [es11]; exact ev10
    refine zg_aload_n X 0 rfl dX8_add_32 ?_
    refine fg_X8_20 X hI ha0 dX8_add_33 (fun v13 ev13 hv13 => ?_)
    replace E := zLet_s (zgr ev13) E
    refine zg_aload_n X 0 rfl dX8_add_36 ?_
    refine fg_X8_23 X hI ha0 dX8_add_37 (fun v14 ev14 hv14 => ?_)
    replace E := zLet_s ev14 E
    have mv14 : v14.toInt = v10.toInt := by rw [ev14, ← e12]
    refine zg_iload X 3 rfl dX8_add_40 ?_
    refine as_43 X hI hv13 (by omega) (by omega) dX8_add_42 (fun s15 es15 hI => ?_)
    replace E := zLet_s es15 E
    have hS := hS.i hv13 es15 rfl
    have e16 : v14 = s15.1 a0 4 := by rw [es15]; exact zm_k hv13 ha0 (by decide) ev14
    refine zg_aload_n X 0 rfl dX8_add_43 ?_
    refine zg_dup X dX8_add_44 rfl ?_
    refine fg_X8_23 X hI ha0 dX8_add_45 (fun v17 ev17 hv17 => ?_)
    replace E := zLet_s ev17 E
    have mv17 : v17.toInt = v14.toInt := by rw [ev17, ← e16]
    refine zg_iconst X 1 dX8_add_48 (by decide) (fun v18 _ hv18 => ?_)
    replace E := zLet_s (zcst hv18 (by decide)) E
    refine zg_iadd X dX8_add_49 (by omega) (by omega) (fun v19 ev19 hv19 => ?_)
    replace E := zLet_s ev19 E
    refine fp_X8_23 X hI ha0 ⟨by omega, by omega⟩ dX8_add_50 (fun s20 es20 hI => ?_)
    replace E := zLet_s es20 E
    have hS := hS.i ha0 es20 rfl
    have e22 : v19 = s20.1 a0 4 := by rw [es20]; exact zm_s
    exact ret _ _ _ dX8_add_53 ⟨E.symm.trans hR, hS, hI⟩
set_option maxHeartbeats 4000000 in
set_option maxRecDepth 100000 in
theorem t_X8_kindOf (l : Launch) (d : zD2) (L : List Nat) (kd : Nat → Nat) (κ : Int) (b : Nat) (σ : zS) (hI : zI κ b L kd σ) (a0 : Nat) (ha0 : zT L kd a0 8) (p1 : Int64) : zMi l yX8_kindOf (Cond.code yX8_kindOf cX8_kindOf 5 (some .int) :: zWL) 0 [.ref a0, .long p1] d L kd σ (fun v σ2 => (v, σ2) = F_X8_kindOf a0 p1 σ ∧ zSm [] [] L kd σ σ2 ∧ (zI κ b L kd σ2)) := by
  refine zMi.of (own := RX8) (by decide +kernel) rfl rfl (Nat.le_of_ble_eq_true rfl) ?_
  intro p e s m args below meth c A Q X ret
  refine zg_lv (lv2 := [(0, .ref a0), (1, .long p1)]) rfl ?_
  obtain ⟨R, hR⟩ : ∃ R, R = F_X8_kindOf a0 p1 σ := ⟨_, rfl⟩
  have E := hR
  unfold F_X8_kindOf at E
  have hS : zSm [] [] L kd σ σ := zSm.rf
  refine zg_bipush X 22 dX8_kindOf_0 (by decide) (fun v1 _ hv1 => ?_)
  replace E := zLet_s (zcst hv1 (by decide)) E
  refine zg_istore_n X [(3, .int v1), (0, .ref a0), (1, .long p1)] dX8_kindOf_2 (by decide) rfl ?_
  refine zg_iconst X 0 dX8_kindOf_3 (by decide) (fun v2 _ hv2 => ?_)
  replace E := zLet_s (zcst hv2 (by decide)) E
  refine zg_istore X [(4, .int v2), (3, .int v1), (0, .ref a0), (1, .long p1)] dX8_kindOf_4 (by decide) rfl ?_
  have Lp5 : ∀ (nLp5 : Nat) (τ5 : zS) (x3 : Int32) (x4 : Int32), zI κ b L kd τ5 → zSm [] [] L kd σ τ5 → R = F_X8_kindOf_6 a0 p1  nLp5 x3 x4 τ5 → 0 ≤ x3.toInt ∧ x3.toInt ≤ 22 → (22) - x3.toInt + 1 < (nLp5 : Int) → zG d L kd A 5 p l e (k2_rm 0 (100 * 0)) s m args below meth c Q τ5 6 [(4, .int x3), (3, .int x4), (0, .ref a0), (1, .long p1)] [] := by
    intro nLp5
    induction nLp5 with
    | zero => intro τ5 x3 x4 hI hS E  hxLp5 hm ; exact absurd hm (by omega)
    | succ nLp5 ihLp5 =>
      intro τ5 x3 x4 hI hS E  hxLp5 hmLp5 
      rw [F_X8_kindOf_6] at E
      refine zg_iload X 0 rfl dX8_kindOf_6 ?_
      refine zg_bipush X 22 dX8_kindOf_8 (by decide) (fun v6 _ hv6 => ?_)
      replace E := zLet_s (zcst hv6 (by decide)) E
      refine zg_icmp_ge X 34 dX8_kindOf_10 (by decide) (fun c7 => ?_) (fun c7 => ?_)
      · skip
        replace E := zIf_f (Int.not_lt.mpr c7) E
        refine zg_iload_n X 1 rfl dX8_kindOf_34 ?_
        exact ret _ _ _ _ dX8_kindOf_35 rfl ⟨E.symm.trans hR, hS, hI⟩
      · skip
        replace E := zIf_t c7 E
        refine zg_aload_n X 2 rfl dX8_kindOf_13 ?_
        refine fg_X8_9 X hI ha0 dX8_kindOf_14 (fun v8 ev8 hv8 => ?_)
        replace E := zLet_s (zgr ev8) E
        refine zg_iload X 0 rfl dX8_kindOf_17 ?_
        refine ag_40 X hv8 (by omega) (by omega) dX8_kindOf_19 (fun v9 ev9 => ?_)
        replace E := zLet_s ev9 E
        refine zg_lload_n X 3 rfl dX8_kindOf_20 ?_
        refine zg_lcmp X dX8_kindOf_21 (fun v10 ev10 => ?_)
        replace E := zLet_s ev10 E
        refine zg_if_ne X 28 dX8_kindOf_22 (by decide) (fun c11 => ?_) (fun c11 => ?_)
        · skip
          replace E := zIf_f c11 E
          refine zg_iinc X 1 (fun v12 => [(4, .int v12), (3, .int x4), (0, .ref a0), (1, .long p1)]) 0 dX8_kindOf_28 rfl (by decide) (by decide) (by omega) (by omega) (fun _ => rfl) (fun v12 ev12 hv12 => ?_)
          replace E := zLet_s (zinc ev12 (by decide)) E
          refine zg_goto X 6 dX8_kindOf_31 (by decide) ?_
          refine zg_sub [0, 1, 2, 3] rfl ?_
          exact ihLp5 _ v12 x4 hI hS E  (by omega) (by omega) 
        · skip
          replace E := zIf_t c11 E
          refine zg_iload X 0 rfl dX8_kindOf_25 ?_
          refine zg_istore_n X [(3, .int x3), (4, .int x3), (0, .ref a0), (1, .long p1)] dX8_kindOf_27 (by decide) rfl ?_
          refine zg_iinc X 1 (fun v13 => [(4, .int v13), (3, .int x3), (0, .ref a0), (1, .long p1)]) 1 dX8_kindOf_28 rfl (by decide) (by decide) (by omega) (by omega) (fun _ => rfl) (fun v13 ev13 hv13 => ?_)
          replace E := zLet_s (zinc ev13 (by decide)) E
          refine zg_goto X 6 dX8_kindOf_31 (by decide) ?_
          refine zg_sub [0, 1, 2, 3] rfl ?_
          exact ihLp5 _ v13 x3 hI hS E  (by omega) (by omega) 
  refine zg_sub [0, 1, 2, 3] rfl ?_
  exact Lp5 10000 _ v2 v1 hI hS E  (by omega) (by omega) 
set_option maxHeartbeats 4000000 in
set_option maxRecDepth 100000 in
theorem t_X8_pastBlanks (l : Launch) (d : zD2) (L : List Nat) (kd : Nat → Nat) (κ : Int) (b : Nat) (σ : zS) (hI : zI κ b L kd σ) (p1 : Nat) (hp1 : zT L kd p1 39) (p2 : Int32) (p3 : Int32) (hq0 : p2.toInt ≤ 2000) (hq1 : 0 ≤ p3.toInt ∧ p3.toInt ≤ 2000) : zMi l yX8_pastBlanks (Cond.code yX8_pastBlanks cX8_pastBlanks 4 (some .int) :: zWL) 0 [.ref p1, .int p2, .int p3] d L kd σ (fun v σ2 => (v, σ2) = F_X8_pastBlanks p1 p2 p3 σ ∧ zSm [] [] L kd σ σ2 ∧ ((0 ≤ v.toInt ∧ v.toInt ≤ 2000) ∧ zI κ b L kd σ2)) := by
  refine zMi.of (own := RX8) (by decide +kernel) rfl rfl (Nat.le_of_ble_eq_true rfl) ?_
  intro p e s m args below meth c A Q X ret
  refine zg_lv (lv2 := [(0, .ref p1), (1, .int p2), (2, .int p3)]) rfl ?_
  obtain ⟨R, hR⟩ : ∃ R, R = F_X8_pastBlanks p1 p2 p3 σ := ⟨_, rfl⟩
  have E := hR
  unfold F_X8_pastBlanks at E
  have hS : zSm [] [] L kd σ σ := zSm.rf
  refine zg_iload_n X 2 rfl dX8_pastBlanks_0 ?_
  refine zg_istore_n X [(3, .int p3), (0, .ref p1), (1, .int p2), (2, .int p3)] dX8_pastBlanks_1 (by decide) rfl ?_
  have Lp2 : ∀ (nLp2 : Nat) (τ2 : zS) (x1 : Int32), zI κ b L kd τ2 → zSm [] [] L kd σ τ2 → R = F_X8_pastBlanks_2 p1 p2 p3  nLp2 x1 τ2 → 0 ≤ x1.toInt ∧ x1.toInt ≤ 2000 → 2000 - x1.toInt + 1 < (nLp2 : Int) → zG d L kd A 4 p l e (k2_rm 0 (100 * 0)) s m args below meth c Q τ2 2 [(3, .int x1), (0, .ref p1), (1, .int p2), (2, .int p3)] [] := by
    intro nLp2
    induction nLp2 with
    | zero => intro τ2 x1 hI hS E  hxLp2 hm ; exact absurd hm (by omega)
    | succ nLp2 ihLp2 =>
      intro τ2 x1 hI hS E  hxLp2 hmLp2 
      rw [F_X8_pastBlanks_2] at E
      refine zg_iload_n X 0 rfl dX8_pastBlanks_2 ?_
      refine zg_iload_n X 2 rfl dX8_pastBlanks_3 ?_
      have zp2_z3 := zb_rng p2
      refine zg_icmp_ge X 45 dX8_pastBlanks_4 (by decide) (fun c4 => ?_) (fun c4 => ?_)
      · skip
        replace E := zIf_f (Int.not_lt.mpr c4) E
        refine zg_iload_n X 0 rfl dX8_pastBlanks_45 ?_
        exact ret _ _ _ _ dX8_pastBlanks_46 rfl ⟨E.symm.trans hR, hS, ⟨⟨by omega, by omega⟩, hI⟩⟩
      · skip
        replace E := zIf_t c4 E
        refine zg_aload_n X 1 rfl dX8_pastBlanks_7 ?_
        refine zg_iload_n X 0 rfl dX8_pastBlanks_8 ?_
        refine ag_39 X hI hp1 (by omega) (by omega) dX8_pastBlanks_9 (fun v5 ev5 hv5 => ?_)
        replace E := zLet_s ev5 E
        refine zg_bipush X 32 dX8_pastBlanks_10 (by decide) (fun v6 _ hv6 => ?_)
        replace E := zLet_s (zcst hv6 (by decide)) E
        refine zg_icmp_eq X 39 dX8_pastBlanks_12 (by decide) (fun c7 => ?_) (fun c7 => ?_)
        · skip
          replace E := zIf_t c7 E
          refine zg_iinc X 1 (fun v8 => [(3, .int v8), (0, .ref p1), (1, .int p2), (2, .int p3)]) 0 dX8_pastBlanks_39 rfl (by decide) (by decide) (by omega) (by omega) (fun _ => rfl) (fun v8 ev8 hv8 => ?_)
          replace E := zLet_s (zinc ev8 (by decide)) E
          refine zg_goto X 2 dX8_pastBlanks_42 (by decide) ?_
          refine zg_sub [0, 1, 2, 3] rfl ?_
          exact ihLp2 _ v8 hI hS E  (by omega) (by omega) 
        · skip
          replace E := zIf_f c7 E
          refine zg_aload_n X 1 rfl dX8_pastBlanks_15 ?_
          refine zg_iload_n X 0 rfl dX8_pastBlanks_16 ?_
          refine ag_39 X hI hp1 (by omega) (by omega) dX8_pastBlanks_17 (fun v9 ev9 hv9 => ?_)
          replace E := zLet_s ev9 E
          refine zg_bipush X 9 dX8_pastBlanks_18 (by decide) (fun v10 _ hv10 => ?_)
          replace E := zLet_s (zcst hv10 (by decide)) E
          refine zg_icmp_eq X 39 dX8_pastBlanks_20 (by decide) (fun c11 => ?_) (fun c11 => ?_)
          · skip
            replace E := zIf_t c11 E
            refine zg_iinc X 1 (fun v12 => [(3, .int v12), (0, .ref p1), (1, .int p2), (2, .int p3)]) 0 dX8_pastBlanks_39 rfl (by decide) (by decide) (by omega) (by omega) (fun _ => rfl) (fun v12 ev12 hv12 => ?_)
            replace E := zLet_s (zinc ev12 (by decide)) E
            refine zg_goto X 2 dX8_pastBlanks_42 (by decide) ?_
            refine zg_sub [0, 1, 2, 3] rfl ?_
            exact ihLp2 _ v12 hI hS E  (by omega) (by omega) 
          · skip
            replace E := zIf_f c11 E
            refine zg_aload_n X 1 rfl dX8_pastBlanks_23 ?_
            refine zg_iload_n X 0 rfl dX8_pastBlanks_24 ?_
            refine ag_39 X hI hp1 (by omega) (by omega) dX8_pastBlanks_25 (fun v13 ev13 hv13 => ?_)
            replace E := zLet_s ev13 E
            refine zg_bipush X 10 dX8_pastBlanks_26 (by decide) (fun v14 _ hv14 => ?_)
            replace E := zLet_s (zcst hv14 (by decide)) E
            refine zg_icmp_eq X 39 dX8_pastBlanks_28 (by decide) (fun c15 => ?_) (fun c15 => ?_)
            · skip
              replace E := zIf_t c15 E
              refine zg_iinc X 1 (fun v16 => [(3, .int v16), (0, .ref p1), (1, .int p2), (2, .int p3)]) 0 dX8_pastBlanks_39 rfl (by decide) (by decide) (by omega) (by omega) (fun _ => rfl) (fun v16 ev16 hv16 => ?_)
              replace E := zLet_s (zinc ev16 (by decide)) E
              refine zg_goto X 2 dX8_pastBlanks_42 (by decide) ?_
              refine zg_sub [0, 1, 2, 3] rfl ?_
              exact ihLp2 _ v16 hI hS E  (by omega) (by omega) 
            · skip
              replace E := zIf_f c15 E
              refine zg_aload_n X 1 rfl dX8_pastBlanks_31 ?_
              refine zg_iload_n X 0 rfl dX8_pastBlanks_32 ?_
              refine ag_39 X hI hp1 (by omega) (by omega) dX8_pastBlanks_33 (fun v17 ev17 hv17 => ?_)
              replace E := zLet_s ev17 E
              refine zg_bipush X 13 dX8_pastBlanks_34 (by decide) (fun v18 _ hv18 => ?_)
              replace E := zLet_s (zcst hv18 (by decide)) E
              refine zg_icmp_ne X 45 dX8_pastBlanks_36 (by decide) (fun c19 => ?_) (fun c19 => ?_)
              · skip
                replace E := zIf_f c19 E
                refine zg_iload_n X 0 rfl dX8_pastBlanks_45 ?_
                exact ret _ _ _ _ dX8_pastBlanks_46 rfl ⟨E.symm.trans hR, hS, ⟨⟨by omega, by omega⟩, hI⟩⟩
              · skip
                replace E := zIf_t c19 E
                refine zg_iinc X 1 (fun v20 => [(3, .int v20), (0, .ref p1), (1, .int p2), (2, .int p3)]) 0 dX8_pastBlanks_39 rfl (by decide) (by decide) (by omega) (by omega) (fun _ => rfl) (fun v20 ev20 hv20 => ?_)
                replace E := zLet_s (zinc ev20 (by decide)) E
                refine zg_goto X 2 dX8_pastBlanks_42 (by decide) ?_
                refine zg_sub [0, 1, 2, 3] rfl ?_
                exact ihLp2 _ v20 hI hS E  (by omega) (by omega) 
  refine zg_sub [0, 1, 2, 3] rfl ?_
  exact Lp2 10000 _ p3 hI hS E  (by omega) (by omega) 
set_option maxHeartbeats 4000000 in
set_option maxRecDepth 100000 in
theorem t_X8_addLetters (l : Launch) (d : zD2) (L : List Nat) (kd : Nat → Nat) (κ : Int) (b : Nat) (σ : zS) (hI : zI κ b L kd σ) (a0 : Nat) (ha0 : zT L kd a0 8) (p1 : Nat) (hp1 : zT L kd p1 39) (p2 : Int32) (p3 : Int32) (hq0 : p2.toInt ≤ 2000) (hq1 : 0 ≤ p3.toInt ∧ p3.toInt ≤ 2000) : zMi l yX8_addLetters (Cond.code yX8_addLetters cX8_addLetters 7 (some .int) :: zWL) 1 [.ref a0, .ref p1, .int p2, .int p3] d L kd σ (fun v σ2 => (v, σ2) = F_X8_addLetters a0 p1 p2 p3 σ ∧ zSm [8, 41, 42, 43] [] L kd σ σ2 ∧ ((0 ≤ v.toInt ∧ v.toInt ≤ 2000) ∧ zI κ b L kd σ2)) := by
  refine zMi.of (own := RX8) (by decide +kernel) rfl rfl (Nat.le_of_ble_eq_true rfl) ?_
  intro p e s m args below meth c A Q X ret
  refine zg_lv (lv2 := [(0, .ref a0), (1, .ref p1), (2, .int p2), (3, .int p3)]) rfl ?_
  obtain ⟨R, hR⟩ : ∃ R, R = F_X8_addLetters a0 p1 p2 p3 σ := ⟨_, rfl⟩
  have E := hR
  unfold F_X8_addLetters at E
  have hS : zSm [8, 41, 42, 43] [] L kd σ σ := zSm.rf
  refine zg_lconst X dX8_addLetters_0 (fun v1 ev1 => ?_)
  replace E := zLet_s ev1 E
  refine zg_lstore X [(4, .long v1), (0, .ref a0), (1, .ref p1), (2, .int p2), (3, .int p3)] dX8_addLetters_1 (by decide) rfl ?_
  refine zg_iload_n X 4 rfl dX8_addLetters_3 ?_
  refine zg_istore X [(6, .int p3), (4, .long v1), (0, .ref a0), (1, .ref p1), (2, .int p2), (3, .int p3)] dX8_addLetters_4 (by decide) rfl ?_
  have Lp4 : ∀ (nLp4 : Nat) (τ4 : zS) (x2 : Int32) (x3 : Int64), zI κ b L kd τ4 → zSm [8, 41, 42, 43] [] L kd σ τ4 → R = F_X8_addLetters_6 a0 p1 p2 p3  nLp4 x2 x3 τ4 → 0 ≤ x2.toInt ∧ x2.toInt ≤ 2000 → 2000 - x2.toInt + 1 < (nLp4 : Int) → zG d L kd A 7 p l e (k2_rm 1 (100 * 1)) s m args below meth c Q τ4 6 [(6, .int x2), (4, .long x3), (0, .ref a0), (1, .ref p1), (2, .int p2), (3, .int p3)] [] := by
    intro nLp4
    induction nLp4 with
    | zero => intro τ4 x2 x3 hI hS E  hxLp4 hm ; exact absurd hm (by omega)
    | succ nLp4 ihLp4 =>
      intro τ4 x2 x3 hI hS E  hxLp4 hmLp4 
      rw [F_X8_addLetters_6] at E
      refine zg_iload X 0 rfl dX8_addLetters_6 ?_
      refine zg_iload_n X 4 rfl dX8_addLetters_8 ?_
      have zp2_z5 := zb_rng p2
      refine zg_icmp_ge X 52 dX8_addLetters_9 (by decide) (fun c6 => ?_) (fun c6 => ?_)
      · skip
        replace E := zIf_f (Int.not_lt.mpr c6) E
        refine zg_aload_n X 2 rfl dX8_addLetters_52 ?_
        refine zg_iload X 0 rfl dX8_addLetters_53 ?_
        refine zg_iload_n X 5 rfl dX8_addLetters_55 ?_
        refine zg_isub X dX8_addLetters_56 (by omega) (by omega) (fun v7 ev7 hv7 => ?_)
        replace E := zLet_s ev7 E
        refine zg_bipush X 8 dX8_addLetters_57 (by decide) (fun v8 _ hv8 => ?_)
        replace E := zLet_s (zcst hv8 (by decide)) E
        refine zg_icmp_le X 67 dX8_addLetters_59 (by decide) (fun c9 => ?_) (fun c9 => ?_)
        · skip
          replace E := zIf_f (Int.not_lt.mpr c9) E
          refine zg_aload_n X 2 rfl dX8_addLetters_67 ?_
          refine zg_lload X 1 rfl dX8_addLetters_68 ?_
          refine zg_cVi (As := [.long x3]) (st := [.ref a0]) X ha0 rfl (by decide) rfl (t_X8_kindOf l d L kd κ b _ hI a0 ha0 x3 ) mk_X8_72 mc_X8_kindOf mz_X8 mi_X8_kindOf ml_X8_kindOf (na := 1) ⟨md_X8.1, md_X8.2, by decide +kernel⟩ rfl ⟨by decide, by decide⟩ (Nat.le_of_ble_eq_true rfl) dX8_addLetters_70 (fun v10 s11 hq => ?_)
          obtain ⟨hF, hS2, hI⟩ := hq
          replace E := zLet2_s hF E
          have hS := hS.tr hS2 rfl rfl
          refine zg_lload X 1 rfl dX8_addLetters_73 ?_
          refine zg_iload_n X 5 rfl dX8_addLetters_75 ?_
          refine zg_cVv (As := [.int v10, .long x3, .int p3]) (st := []) X ha0 rfl (by decide) rfl (t_X8_add l d L kd κ b _ hI a0 ha0 v10 x3 p3 ) mk_X8_49 mc_X8_add mz_X8 mi_X8_add ml_X8_add (na := 3) ⟨md_X8.1, md_X8.2, by decide +kernel⟩ rfl ⟨by decide, by decide⟩ (Nat.le_of_ble_eq_true rfl) dX8_addLetters_76 (fun s12 hq => ?_)
          obtain ⟨hF, hS2, hI⟩ := hq
          replace E := zLet_s hF E
          have hS := hS.tr hS2 rfl rfl
          refine zg_iload X 0 rfl dX8_addLetters_79 ?_
          exact ret _ _ _ _ dX8_addLetters_81 rfl ⟨E.symm.trans hR, hS, ⟨⟨by omega, by omega⟩, hI⟩⟩
        · skip
          replace E := zIf_t c9 E
          refine zg_bipush X 34 dX8_addLetters_62 (by decide) (fun v13 _ hv13 => ?_)
          replace E := zLet_s (zcst hv13 (by decide)) E
          refine zg_goto X 73 dX8_addLetters_64 (by decide) ?_
          refine zg_lload X 1 rfl dX8_addLetters_73 ?_
          refine zg_iload_n X 5 rfl dX8_addLetters_75 ?_
          refine zg_cVv (As := [.int v13, .long x3, .int p3]) (st := []) X ha0 rfl (by decide) rfl (t_X8_add l d L kd κ b _ hI a0 ha0 v13 x3 p3 ) mk_X8_49 mc_X8_add mz_X8 mi_X8_add ml_X8_add (na := 3) ⟨md_X8.1, md_X8.2, by decide +kernel⟩ rfl ⟨by decide, by decide⟩ (Nat.le_of_ble_eq_true rfl) dX8_addLetters_76 (fun s14 hq => ?_)
          obtain ⟨hF, hS2, hI⟩ := hq
          replace E := zLet_s hF E
          have hS := hS.tr hS2 rfl rfl
          refine zg_iload X 0 rfl dX8_addLetters_79 ?_
          exact ret _ _ _ _ dX8_addLetters_81 rfl ⟨E.symm.trans hR, hS, ⟨⟨by omega, by omega⟩, hI⟩⟩
      · skip
        replace E := zIf_t c6 E
        refine zg_aload_n X 3 rfl dX8_addLetters_12 ?_
        refine zg_iload X 0 rfl dX8_addLetters_13 ?_
        refine ag_39 X hI hp1 (by omega) (by omega) dX8_addLetters_15 (fun v15 ev15 hv15 => ?_)
        replace E := zLet_s ev15 E
        refine zg_cSi (As := [.int v15]) (st := []) X (t_X8_isLetter l d L kd _ v15 ) mk_X8_53 mc_X8_isLetter mz_X8 ms_X8_isLetter (na := 1) ⟨md_X8.1, md_X8.2, by decide +kernel⟩ rfl ⟨by decide, by decide⟩ (Nat.le_of_ble_eq_true rfl) dX8_addLetters_16 (fun v16 σ2 hq => ?_)
        obtain ⟨⟨hF, hv16⟩, rfl⟩ := hq
        replace E := zLet_s hF E
        refine zg_if_eq X 52 dX8_addLetters_19 (by decide) (fun c17 => ?_) (fun c17 => ?_)
        · skip
          replace E := zIf_t c17 E
          refine zg_aload_n X 2 rfl dX8_addLetters_52 ?_
          refine zg_iload X 0 rfl dX8_addLetters_53 ?_
          refine zg_iload_n X 5 rfl dX8_addLetters_55 ?_
          refine zg_isub X dX8_addLetters_56 (by omega) (by omega) (fun v18 ev18 hv18 => ?_)
          replace E := zLet_s ev18 E
          refine zg_bipush X 8 dX8_addLetters_57 (by decide) (fun v19 _ hv19 => ?_)
          replace E := zLet_s (zcst hv19 (by decide)) E
          refine zg_icmp_le X 67 dX8_addLetters_59 (by decide) (fun c20 => ?_) (fun c20 => ?_)
          · skip
            replace E := zIf_f (Int.not_lt.mpr c20) E
            refine zg_aload_n X 2 rfl dX8_addLetters_67 ?_
            refine zg_lload X 1 rfl dX8_addLetters_68 ?_
            refine zg_cVi (As := [.long x3]) (st := [.ref a0]) X ha0 rfl (by decide) rfl (t_X8_kindOf l d L kd κ b _ hI a0 ha0 x3 ) mk_X8_72 mc_X8_kindOf mz_X8 mi_X8_kindOf ml_X8_kindOf (na := 1) ⟨md_X8.1, md_X8.2, by decide +kernel⟩ rfl ⟨by decide, by decide⟩ (Nat.le_of_ble_eq_true rfl) dX8_addLetters_70 (fun v21 s22 hq => ?_)
            obtain ⟨hF, hS2, hI⟩ := hq
            replace E := zLet2_s hF E
            have hS := hS.tr hS2 rfl rfl
            refine zg_lload X 1 rfl dX8_addLetters_73 ?_
            refine zg_iload_n X 5 rfl dX8_addLetters_75 ?_
            refine zg_cVv (As := [.int v21, .long x3, .int p3]) (st := []) X ha0 rfl (by decide) rfl (t_X8_add l d L kd κ b _ hI a0 ha0 v21 x3 p3 ) mk_X8_49 mc_X8_add mz_X8 mi_X8_add ml_X8_add (na := 3) ⟨md_X8.1, md_X8.2, by decide +kernel⟩ rfl ⟨by decide, by decide⟩ (Nat.le_of_ble_eq_true rfl) dX8_addLetters_76 (fun s23 hq => ?_)
            obtain ⟨hF, hS2, hI⟩ := hq
            replace E := zLet_s hF E
            have hS := hS.tr hS2 rfl rfl
            refine zg_iload X 0 rfl dX8_addLetters_79 ?_
            exact ret _ _ _ _ dX8_addLetters_81 rfl ⟨E.symm.trans hR, hS, ⟨⟨by omega, by omega⟩, hI⟩⟩
          · skip
            replace E := zIf_t c20 E
            refine zg_bipush X 34 dX8_addLetters_62 (by decide) (fun v24 _ hv24 => ?_)
            replace E := zLet_s (zcst hv24 (by decide)) E
            refine zg_goto X 73 dX8_addLetters_64 (by decide) ?_
            refine zg_lload X 1 rfl dX8_addLetters_73 ?_
            refine zg_iload_n X 5 rfl dX8_addLetters_75 ?_
            refine zg_cVv (As := [.int v24, .long x3, .int p3]) (st := []) X ha0 rfl (by decide) rfl (t_X8_add l d L kd κ b _ hI a0 ha0 v24 x3 p3 ) mk_X8_49 mc_X8_add mz_X8 mi_X8_add ml_X8_add (na := 3) ⟨md_X8.1, md_X8.2, by decide +kernel⟩ rfl ⟨by decide, by decide⟩ (Nat.le_of_ble_eq_true rfl) dX8_addLetters_76 (fun s25 hq => ?_)
            obtain ⟨hF, hS2, hI⟩ := hq
            replace E := zLet_s hF E
            have hS := hS.tr hS2 rfl rfl
            refine zg_iload X 0 rfl dX8_addLetters_79 ?_
            exact ret _ _ _ _ dX8_addLetters_81 rfl ⟨E.symm.trans hR, hS, ⟨⟨by omega, by omega⟩, hI⟩⟩
        · skip
          replace E := zIf_f c17 E
          refine zg_iload X 0 rfl dX8_addLetters_22 ?_
          refine zg_iload_n X 5 rfl dX8_addLetters_24 ?_
          refine zg_isub X dX8_addLetters_25 (by omega) (by omega) (fun v26 ev26 hv26 => ?_)
          replace E := zLet_s ev26 E
          refine zg_bipush X 8 dX8_addLetters_26 (by decide) (fun v27 _ hv27 => ?_)
          replace E := zLet_s (zcst hv27 (by decide)) E
          refine zg_icmp_ge X 43 dX8_addLetters_28 (by decide) (fun c28 => ?_) (fun c28 => ?_)
          · skip
            replace E := zIf_f (Int.not_lt.mpr c28) E
            refine zg_lconst X dX8_addLetters_43 (fun v29 ev29 => ?_)
            replace E := zLet_s ev29 E
            refine zg_lstore X [(4, .long v29), (6, .int x2), (0, .ref a0), (1, .ref p1), (2, .int p2), (3, .int p3)] dX8_addLetters_44 (by decide) rfl ?_
            refine zg_iinc X 1 (fun v30 => [(6, .int v30), (4, .long v29), (0, .ref a0), (1, .ref p1), (2, .int p2), (3, .int p3)]) 1 dX8_addLetters_46 rfl (by decide) (by decide) (by omega) (by omega) (fun _ => rfl) (fun v30 ev30 hv30 => ?_)
            replace E := zLet_s (zinc ev30 (by decide)) E
            refine zg_goto X 6 dX8_addLetters_49 (by decide) ?_
            refine zg_sub [0, 1, 2, 3, 4, 5] rfl ?_
            exact ihLp4 _ v30 v29 hI hS E  (by omega) (by omega) 
          · skip
            replace E := zIf_t c28 E
            refine zg_lload X 1 rfl dX8_addLetters_31 ?_
            refine zg_aload_n X 3 rfl dX8_addLetters_33 ?_
            refine zg_iload X 0 rfl dX8_addLetters_34 ?_
            refine ag_39 X hI hp1 (by omega) (by omega) dX8_addLetters_36 (fun v31 ev31 hv31 => ?_)
            replace E := zLet_s ev31 E
            refine zg_cSl (As := [.long x3, .int v31]) (st := []) X (t_X8_withLetter l d L kd _ x3 v31 ) mk_X8_39 mc_X8_withLetter mz_X8 ms_X8_withLetter (na := 2) ⟨md_X8.1, md_X8.2, by decide +kernel⟩ rfl ⟨by decide, by decide⟩ (Nat.le_of_ble_eq_true rfl) dX8_addLetters_37 (fun v32 σ2 hq => ?_)
            obtain ⟨⟨hF, hv32⟩, rfl⟩ := hq
            replace E := zLet_s hF E
            refine zg_goto X 44 dX8_addLetters_40 (by decide) ?_
            refine zg_lstore X [(4, .long v32), (6, .int x2), (0, .ref a0), (1, .ref p1), (2, .int p2), (3, .int p3)] dX8_addLetters_44 (by decide) rfl ?_
            refine zg_iinc X 1 (fun v33 => [(6, .int v33), (4, .long v32), (0, .ref a0), (1, .ref p1), (2, .int p2), (3, .int p3)]) 1 dX8_addLetters_46 rfl (by decide) (by decide) (by omega) (by omega) (fun _ => rfl) (fun v33 ev33 hv33 => ?_)
            replace E := zLet_s (zinc ev33 (by decide)) E
            refine zg_goto X 6 dX8_addLetters_49 (by decide) ?_
            refine zg_sub [0, 1, 2, 3, 4, 5] rfl ?_
            exact ihLp4 _ v33 v32 hI hS E  (by omega) (by omega) 
  refine zg_sub [0, 1, 2, 3, 4, 5] rfl ?_
  exact Lp4 10000 _ p3 v1 hI hS E  (by omega) (by omega) 
set_option maxHeartbeats 4000000 in
set_option maxRecDepth 100000 in
theorem t_X8_addDigits (l : Launch) (d : zD2) (L : List Nat) (kd : Nat → Nat) (κ : Int) (b : Nat) (σ : zS) (hI : zI κ b L kd σ) (a0 : Nat) (ha0 : zT L kd a0 8) (p1 : Nat) (hp1 : zT L kd p1 39) (p2 : Int32) (p3 : Int32) (hq0 : p2.toInt ≤ 2000) (hq1 : 0 ≤ p3.toInt ∧ p3.toInt ≤ 2000) : zMi l yX8_addDigits (Cond.code yX8_addDigits cX8_addDigits 6 (some .int) :: zWL) 1 [.ref a0, .ref p1, .int p2, .int p3] d L kd σ (fun v σ2 => (v, σ2) = F_X8_addDigits a0 p1 p2 p3 σ ∧ zSm [8, 41, 42, 43] [] L kd σ σ2 ∧ ((0 ≤ v.toInt ∧ v.toInt ≤ 2000) ∧ zI κ b L kd σ2)) := by
  refine zMi.of (own := RX8) (by decide +kernel) rfl rfl (Nat.le_of_ble_eq_true rfl) ?_
  intro p e s m args below meth c A Q X ret
  refine zg_lv (lv2 := [(0, .ref a0), (1, .ref p1), (2, .int p2), (3, .int p3)]) rfl ?_
  obtain ⟨R, hR⟩ : ∃ R, R = F_X8_addDigits a0 p1 p2 p3 σ := ⟨_, rfl⟩
  have E := hR
  unfold F_X8_addDigits at E
  have hS : zSm [8, 41, 42, 43] [] L kd σ σ := zSm.rf
  refine zg_iconst X 0 dX8_addDigits_0 (by decide) (fun v1 _ hv1 => ?_)
  replace E := zLet_s (zcst hv1 (by decide)) E
  refine zg_istore X [(4, .int v1), (0, .ref a0), (1, .ref p1), (2, .int p2), (3, .int p3)] dX8_addDigits_1 (by decide) rfl ?_
  refine zg_iload_n X 4 rfl dX8_addDigits_3 ?_
  refine zg_istore X [(5, .int p3), (4, .int v1), (0, .ref a0), (1, .ref p1), (2, .int p2), (3, .int p3)] dX8_addDigits_4 (by decide) rfl ?_
  have Lp4 : ∀ (nLp4 : Nat) (τ4 : zS) (x2 : Int32) (x3 : Int32), zI κ b L kd τ4 → zSm [8, 41, 42, 43] [] L kd σ τ4 → R = F_X8_addDigits_6 a0 p1 p2 p3  nLp4 x2 x3 τ4 → 0 ≤ x2.toInt ∧ x2.toInt ≤ 2000 → 2000 - x2.toInt + 1 < (nLp4 : Int) → zG d L kd A 6 p l e (k2_rm 1 (100 * 1)) s m args below meth c Q τ4 6 [(5, .int x2), (4, .int x3), (0, .ref a0), (1, .ref p1), (2, .int p2), (3, .int p3)] [] := by
    intro nLp4
    induction nLp4 with
    | zero => intro τ4 x2 x3 hI hS E  hxLp4 hm ; exact absurd hm (by omega)
    | succ nLp4 ihLp4 =>
      intro τ4 x2 x3 hI hS E  hxLp4 hmLp4 
      rw [F_X8_addDigits_6] at E
      refine zg_iload X 0 rfl dX8_addDigits_6 ?_
      refine zg_iload_n X 4 rfl dX8_addDigits_8 ?_
      have zp2_z5 := zb_rng p2
      refine zg_icmp_ge X 55 dX8_addDigits_9 (by decide) (fun c6 => ?_) (fun c6 => ?_)
      · skip
        replace E := zIf_f (Int.not_lt.mpr c6) E
        refine zg_aload_n X 2 rfl dX8_addDigits_55 ?_
        refine zg_iload X 0 rfl dX8_addDigits_56 ?_
        refine zg_iload_n X 5 rfl dX8_addDigits_58 ?_
        refine zg_isub X dX8_addDigits_59 (by omega) (by omega) (fun v7 ev7 hv7 => ?_)
        replace E := zLet_s ev7 E
        refine zg_iconst X 4 dX8_addDigits_60 (by decide) (fun v8 _ hv8 => ?_)
        replace E := zLet_s (zcst hv8 (by decide)) E
        refine zg_icmp_le X 69 dX8_addDigits_61 (by decide) (fun c9 => ?_) (fun c9 => ?_)
        · skip
          replace E := zIf_f (Int.not_lt.mpr c9) E
          refine zg_bipush X 23 dX8_addDigits_69 (by decide) (fun v10 _ hv10 => ?_)
          replace E := zLet_s (zcst hv10 (by decide)) E
          refine zg_iload X 1 rfl dX8_addDigits_71 ?_
          refine zg_i2l X dX8_addDigits_73 (fun v11 ev11 => ?_)
          replace E := zLet_s ev11 E
          refine zg_iload_n X 5 rfl dX8_addDigits_74 ?_
          refine zg_cVv (As := [.int v10, .long v11, .int p3]) (st := []) X ha0 rfl (by decide) rfl (t_X8_add l d L kd κ b _ hI a0 ha0 v10 v11 p3 ) mk_X8_49 mc_X8_add mz_X8 mi_X8_add ml_X8_add (na := 3) ⟨md_X8.1, md_X8.2, by decide +kernel⟩ rfl ⟨by decide, by decide⟩ (Nat.le_of_ble_eq_true rfl) dX8_addDigits_75 (fun s12 hq => ?_)
          obtain ⟨hF, hS2, hI⟩ := hq
          replace E := zLet_s hF E
          have hS := hS.tr hS2 rfl rfl
          refine zg_iload X 0 rfl dX8_addDigits_78 ?_
          exact ret _ _ _ _ dX8_addDigits_80 rfl ⟨E.symm.trans hR, hS, ⟨⟨by omega, by omega⟩, hI⟩⟩
        · skip
          replace E := zIf_t c9 E
          refine zg_bipush X 34 dX8_addDigits_64 (by decide) (fun v13 _ hv13 => ?_)
          replace E := zLet_s (zcst hv13 (by decide)) E
          refine zg_goto X 71 dX8_addDigits_66 (by decide) ?_
          refine zg_iload X 1 rfl dX8_addDigits_71 ?_
          refine zg_i2l X dX8_addDigits_73 (fun v14 ev14 => ?_)
          replace E := zLet_s ev14 E
          refine zg_iload_n X 5 rfl dX8_addDigits_74 ?_
          refine zg_cVv (As := [.int v13, .long v14, .int p3]) (st := []) X ha0 rfl (by decide) rfl (t_X8_add l d L kd κ b _ hI a0 ha0 v13 v14 p3 ) mk_X8_49 mc_X8_add mz_X8 mi_X8_add ml_X8_add (na := 3) ⟨md_X8.1, md_X8.2, by decide +kernel⟩ rfl ⟨by decide, by decide⟩ (Nat.le_of_ble_eq_true rfl) dX8_addDigits_75 (fun s15 hq => ?_)
          obtain ⟨hF, hS2, hI⟩ := hq
          replace E := zLet_s hF E
          have hS := hS.tr hS2 rfl rfl
          refine zg_iload X 0 rfl dX8_addDigits_78 ?_
          exact ret _ _ _ _ dX8_addDigits_80 rfl ⟨E.symm.trans hR, hS, ⟨⟨by omega, by omega⟩, hI⟩⟩
      · skip
        replace E := zIf_t c6 E
        refine zg_aload_n X 3 rfl dX8_addDigits_12 ?_
        refine zg_iload X 0 rfl dX8_addDigits_13 ?_
        refine ag_39 X hI hp1 (by omega) (by omega) dX8_addDigits_15 (fun v16 ev16 hv16 => ?_)
        replace E := zLet_s ev16 E
        refine zg_cSi (As := [.int v16]) (st := []) X (t_X8_isDigit l d L kd _ v16 ) mk_X8_60 mc_X8_isDigit mz_X8 ms_X8_isDigit (na := 1) ⟨md_X8.1, md_X8.2, by decide +kernel⟩ rfl ⟨by decide, by decide⟩ (Nat.le_of_ble_eq_true rfl) dX8_addDigits_16 (fun v17 σ2 hq => ?_)
        obtain ⟨⟨hF, hv17⟩, rfl⟩ := hq
        replace E := zLet_s hF E
        refine zg_if_eq X 55 dX8_addDigits_19 (by decide) (fun c18 => ?_) (fun c18 => ?_)
        · skip
          replace E := zIf_t c18 E
          refine zg_aload_n X 2 rfl dX8_addDigits_55 ?_
          refine zg_iload X 0 rfl dX8_addDigits_56 ?_
          refine zg_iload_n X 5 rfl dX8_addDigits_58 ?_
          refine zg_isub X dX8_addDigits_59 (by omega) (by omega) (fun v19 ev19 hv19 => ?_)
          replace E := zLet_s ev19 E
          refine zg_iconst X 4 dX8_addDigits_60 (by decide) (fun v20 _ hv20 => ?_)
          replace E := zLet_s (zcst hv20 (by decide)) E
          refine zg_icmp_le X 69 dX8_addDigits_61 (by decide) (fun c21 => ?_) (fun c21 => ?_)
          · skip
            replace E := zIf_f (Int.not_lt.mpr c21) E
            refine zg_bipush X 23 dX8_addDigits_69 (by decide) (fun v22 _ hv22 => ?_)
            replace E := zLet_s (zcst hv22 (by decide)) E
            refine zg_iload X 1 rfl dX8_addDigits_71 ?_
            refine zg_i2l X dX8_addDigits_73 (fun v23 ev23 => ?_)
            replace E := zLet_s ev23 E
            refine zg_iload_n X 5 rfl dX8_addDigits_74 ?_
            refine zg_cVv (As := [.int v22, .long v23, .int p3]) (st := []) X ha0 rfl (by decide) rfl (t_X8_add l d L kd κ b _ hI a0 ha0 v22 v23 p3 ) mk_X8_49 mc_X8_add mz_X8 mi_X8_add ml_X8_add (na := 3) ⟨md_X8.1, md_X8.2, by decide +kernel⟩ rfl ⟨by decide, by decide⟩ (Nat.le_of_ble_eq_true rfl) dX8_addDigits_75 (fun s24 hq => ?_)
            obtain ⟨hF, hS2, hI⟩ := hq
            replace E := zLet_s hF E
            have hS := hS.tr hS2 rfl rfl
            refine zg_iload X 0 rfl dX8_addDigits_78 ?_
            exact ret _ _ _ _ dX8_addDigits_80 rfl ⟨E.symm.trans hR, hS, ⟨⟨by omega, by omega⟩, hI⟩⟩
          · skip
            replace E := zIf_t c21 E
            refine zg_bipush X 34 dX8_addDigits_64 (by decide) (fun v25 _ hv25 => ?_)
            replace E := zLet_s (zcst hv25 (by decide)) E
            refine zg_goto X 71 dX8_addDigits_66 (by decide) ?_
            refine zg_iload X 1 rfl dX8_addDigits_71 ?_
            refine zg_i2l X dX8_addDigits_73 (fun v26 ev26 => ?_)
            replace E := zLet_s ev26 E
            refine zg_iload_n X 5 rfl dX8_addDigits_74 ?_
            refine zg_cVv (As := [.int v25, .long v26, .int p3]) (st := []) X ha0 rfl (by decide) rfl (t_X8_add l d L kd κ b _ hI a0 ha0 v25 v26 p3 ) mk_X8_49 mc_X8_add mz_X8 mi_X8_add ml_X8_add (na := 3) ⟨md_X8.1, md_X8.2, by decide +kernel⟩ rfl ⟨by decide, by decide⟩ (Nat.le_of_ble_eq_true rfl) dX8_addDigits_75 (fun s27 hq => ?_)
            obtain ⟨hF, hS2, hI⟩ := hq
            replace E := zLet_s hF E
            have hS := hS.tr hS2 rfl rfl
            refine zg_iload X 0 rfl dX8_addDigits_78 ?_
            exact ret _ _ _ _ dX8_addDigits_80 rfl ⟨E.symm.trans hR, hS, ⟨⟨by omega, by omega⟩, hI⟩⟩
        · skip
          replace E := zIf_f c18 E
          refine zg_iload X 0 rfl dX8_addDigits_22 ?_
          refine zg_iload_n X 5 rfl dX8_addDigits_24 ?_
          refine zg_isub X dX8_addDigits_25 (by omega) (by omega) (fun v28 ev28 hv28 => ?_)
          replace E := zLet_s ev28 E
          refine zg_iconst X 4 dX8_addDigits_26 (by decide) (fun v29 _ hv29 => ?_)
          replace E := zLet_s (zcst hv29 (by decide)) E
          refine zg_icmp_ge X 46 dX8_addDigits_27 (by decide) (fun c30 => ?_) (fun c30 => ?_)
          · skip
            replace E := zIf_f (Int.not_lt.mpr c30) E
            refine zg_iconst X 0 dX8_addDigits_46 (by decide) (fun v31 _ hv31 => ?_)
            replace E := zLet_s (zcst hv31 (by decide)) E
            refine zg_istore X [(4, .int v31), (5, .int x2), (0, .ref a0), (1, .ref p1), (2, .int p2), (3, .int p3)] dX8_addDigits_47 (by decide) rfl ?_
            refine zg_iinc X 1 (fun v32 => [(5, .int v32), (4, .int v31), (0, .ref a0), (1, .ref p1), (2, .int p2), (3, .int p3)]) 1 dX8_addDigits_49 rfl (by decide) (by decide) (by omega) (by omega) (fun _ => rfl) (fun v32 ev32 hv32 => ?_)
            replace E := zLet_s (zinc ev32 (by decide)) E
            refine zg_goto X 6 dX8_addDigits_52 (by decide) ?_
            refine zg_sub [0, 1, 2, 3, 4, 5] rfl ?_
            exact ihLp4 _ v32 v31 hI hS E  (by omega) (by omega) 
          · skip
            replace E := zIf_t c30 E
            refine zg_iload X 1 rfl dX8_addDigits_30 ?_
            refine zg_bipush X 10 dX8_addDigits_32 (by decide) (fun v33 _ hv33 => ?_)
            replace E := zLet_s (zcst hv33 (by decide)) E
            refine zg_imulW X dX8_addDigits_34 (fun v34 ev34 => ?_)
            replace E := zLet_s ev34 E
            refine zg_aload_n X 3 rfl dX8_addDigits_35 ?_
            refine zg_iload X 0 rfl dX8_addDigits_36 ?_
            refine ag_39 X hI hp1 (by omega) (by omega) dX8_addDigits_38 (fun v35 ev35 hv35 => ?_)
            replace E := zLet_s ev35 E
            refine zg_bipush X 48 dX8_addDigits_39 (by decide) (fun v36 _ hv36 => ?_)
            replace E := zLet_s (zcst hv36 (by decide)) E
            refine zg_isub X dX8_addDigits_41 (by omega) (by omega) (fun v37 ev37 hv37 => ?_)
            replace E := zLet_s ev37 E
            refine zg_iaddW X dX8_addDigits_42 (fun v38 ev38 => ?_)
            replace E := zLet_s ev38 E
            refine zg_goto X 47 dX8_addDigits_43 (by decide) ?_
            refine zg_istore X [(4, .int v38), (5, .int x2), (0, .ref a0), (1, .ref p1), (2, .int p2), (3, .int p3)] dX8_addDigits_47 (by decide) rfl ?_
            refine zg_iinc X 1 (fun v39 => [(5, .int v39), (4, .int v38), (0, .ref a0), (1, .ref p1), (2, .int p2), (3, .int p3)]) 1 dX8_addDigits_49 rfl (by decide) (by decide) (by omega) (by omega) (fun _ => rfl) (fun v39 ev39 hv39 => ?_)
            replace E := zLet_s (zinc ev39 (by decide)) E
            refine zg_goto X 6 dX8_addDigits_52 (by decide) ?_
            refine zg_sub [0, 1, 2, 3, 4, 5] rfl ?_
            exact ihLp4 _ v39 v38 hI hS E  (by omega) (by omega) 
  refine zg_sub [0, 1, 2, 3, 4, 5] rfl ?_
  exact Lp4 10000 _ p3 v1 hI hS E  (by omega) (by omega) 
set_option maxHeartbeats 4000000 in
set_option maxRecDepth 100000 in
theorem t_X8_scan (l : Launch) (d : zD2) (L : List Nat) (kd : Nat → Nat) (κ : Int) (b : Nat) (σ : zS) (hI : zI κ b L kd σ) (a0 : Nat) (ha0 : zT L kd a0 8) (p1 : Nat) (hp1 : zT L kd p1 39) (p2 : Int32) (hq0 : p2.toInt ≤ 2000) : zMv l yX8_scan (Cond.code yX8_scan cX8_scan 8 none :: zWL) 4 [.ref a0, .ref p1, .int p2] d L kd σ (fun σ2 => σ2 = F_X8_scan a0 p1 p2 σ ∧ zSm [8, 41, 42, 43] [] L kd σ σ2 ∧ (zI κ b L kd σ2)) := by
  refine zMv.of (own := RX8) (by decide +kernel) rfl rfl (Nat.le_of_ble_eq_true rfl) ?_
  intro p e s m args below meth c A Q X ret
  refine zg_lv (lv2 := [(0, .ref a0), (1, .ref p1), (2, .int p2)]) rfl ?_
  obtain ⟨R, hR⟩ : ∃ R, R = F_X8_scan a0 p1 p2 σ := ⟨_, rfl⟩
  have E := hR
  unfold F_X8_scan at E
  have hS : zSm [8, 41, 42, 43] [] L kd σ σ := zSm.rf
  refine zg_aload_n X 0 rfl dX8_scan_0 ?_
  refine zg_iconst X 0 dX8_scan_1 (by decide) (fun v1 _ hv1 => ?_)
  replace E := zLet_s (zcst hv1 (by decide)) E
  refine fp_X8_23 X hI ha0 ⟨by omega, by omega⟩ dX8_scan_2 (fun s2 es2 hI => ?_)
  replace E := zLet_s es2 E
  have hS := hS.i ha0 es2 rfl
  have e3 : v1 = s2.1 a0 4 := by rw [es2]; exact zm_s
  refine zg_iconst X 0 dX8_scan_5 (by decide) (fun v4 _ hv4 => ?_)
  replace E := zLet_s (zcst hv4 (by decide)) E
  refine zg_istore_n X [(3, .int v4), (0, .ref a0), (1, .ref p1), (2, .int p2)] dX8_scan_6 (by decide) rfl ?_
  refine zg_iconst X 1 dX8_scan_7 (by decide) (fun v5 _ hv5 => ?_)
  replace E := zLet_s (zcst hv5 (by decide)) E
  refine zg_istore X [(4, .int v5), (3, .int v4), (0, .ref a0), (1, .ref p1), (2, .int p2)] dX8_scan_8 (by decide) rfl ?_
  refine zg_iconst X 0 dX8_scan_10 (by decide) (fun v6 _ hv6 => ?_)
  replace E := zLet_s (zcst hv6 (by decide)) E
  refine zg_istore X [(5, .int v6), (4, .int v5), (3, .int v4), (0, .ref a0), (1, .ref p1), (2, .int p2)] dX8_scan_11 (by decide) rfl ?_
  have Lp10 : ∀ (nLp10 : Nat) (τ10 : zS) (x7 : Int32) (x8 : Int32) (x9 : Int32), zI κ b L kd τ10 → zSm [8, 41, 42, 43] [] L kd σ τ10 → R = F_X8_scan_13 a0 p1 p2  nLp10 x7 x8 x9 τ10 → 0 ≤ x9.toInt ∧ x9.toInt ≤ 2000 ∧ 0 ≤ x8.toInt ∧ x8.toInt ≤ 1 ∧ 0 ≤ x7.toInt ∧ x7.toInt ≤ 401 → (401) - x7.toInt + 1 < (nLp10 : Int) → zG d L kd A 8 p l e (k2_rm 4 (100 * 4)) s m args below meth c Q τ10 13 [(5, .int x7), (4, .int x8), (3, .int x9), (0, .ref a0), (1, .ref p1), (2, .int p2)] [] := by
    intro nLp10
    induction nLp10 with
    | zero => intro τ10 x7 x8 x9 hI hS E  hxLp10 hm ; exact absurd hm (by omega)
    | succ nLp10 ihLp10 =>
      intro τ10 x7 x8 x9 hI hS E  hxLp10 hmLp10 
      rw [F_X8_scan_13] at E
      refine zg_iload X 0 rfl dX8_scan_13 ?_
      refine zg_sipush X 400 dX8_scan_15 (by decide) (fun v11 _ hv11 => ?_)
      replace E := zLet_s (zcst hv11 (by decide)) E
      refine zg_icmp_gt X 180 dX8_scan_18 (by decide) (fun c12 => ?_) (fun c12 => ?_)
      · skip
        replace E := zIf_t c12 E
        exact ret _ _ _ dX8_scan_180 ⟨E.symm.trans hR, hS, hI⟩
      · skip
        replace E := zIf_f (Int.not_lt.mpr c12) E
        refine zg_iload X 1 rfl dX8_scan_21 ?_
        refine zg_if_eq X 180 dX8_scan_23 (by decide) (fun c13 => ?_) (fun c13 => ?_)
        · skip
          replace E := zIf_t c13 E
          exact ret _ _ _ dX8_scan_180 ⟨E.symm.trans hR, hS, hI⟩
        · skip
          replace E := zIf_f c13 E
          refine zg_aload_n X 4 rfl dX8_scan_26 ?_
          refine zg_iload_n X 5 rfl dX8_scan_27 ?_
          refine zg_iload_n X 2 rfl dX8_scan_28 ?_
          refine zg_cSi (As := [.ref p1, .int p2, .int x9]) (st := []) X (t_X8_pastBlanks l d L kd κ b _ hI p1 hp1 p2 x9 (by omega) (by omega)) mk_X8_45 mc_X8_pastBlanks mz_X8 ms_X8_pastBlanks (na := 3) ⟨md_X8.1, md_X8.2, by decide +kernel⟩ rfl ⟨by decide, by decide⟩ (Nat.le_of_ble_eq_true rfl) dX8_scan_29 (fun v14 s15 hq => ?_)
          obtain ⟨hF, hS2, hI⟩ := hq
          replace E := zLet2_s hF E
          have hS := hS.tr hS2 rfl rfl
          obtain ⟨hv14, hI⟩ := hI
          refine zg_istore_n X [(3, .int v14), (5, .int x7), (4, .int x8), (0, .ref a0), (1, .ref p1), (2, .int p2)] dX8_scan_32 (by decide) rfl ?_
          refine zg_iload_n X 0 rfl dX8_scan_33 ?_
          refine zg_iload_n X 5 rfl dX8_scan_34 ?_
          have zp2_z16 := zb_rng p2
          refine zg_icmp_ge X 44 dX8_scan_35 (by decide) (fun c17 => ?_) (fun c17 => ?_)
          · skip
            replace E := zIf_f (Int.not_lt.mpr c17) E
            refine zg_iconst X 0 dX8_scan_44 (by decide) (fun v18 _ hv18 => ?_)
            replace E := zLet_s (zcst hv18 (by decide)) E
            refine zg_istore X [(6, .int v18), (3, .int v14), (5, .int x7), (4, .int x8), (0, .ref a0), (1, .ref p1), (2, .int p2)] dX8_scan_45 (by decide) rfl ?_
            refine zg_iload_n X 1 rfl dX8_scan_47 ?_
            refine zg_iload_n X 6 rfl dX8_scan_48 ?_
            have zp2_z19 := zb_rng p2
            refine zg_icmp_lt X 63 dX8_scan_49 (by decide) (fun c20 => ?_) (fun c20 => ?_)
            · skip
              replace E := zIf_t c20 E
              refine zg_iload X 0 rfl dX8_scan_63 ?_
              refine zg_cSi (As := [.int v18]) (st := []) X (t_X8_isLetter l d L kd _ v18 ) mk_X8_53 mc_X8_isLetter mz_X8 ms_X8_isLetter (na := 1) ⟨md_X8.1, md_X8.2, by decide +kernel⟩ rfl ⟨by decide, by decide⟩ (Nat.le_of_ble_eq_true rfl) dX8_scan_65 (fun v21 σ2 hq => ?_)
              obtain ⟨⟨hF, hv21⟩, rfl⟩ := hq
              replace E := zLet_s hF E
              refine zg_if_eq X 82 dX8_scan_68 (by decide) (fun c22 => ?_) (fun c22 => ?_)
              · skip
                replace E := zIf_t c22 E
                refine zg_iload X 0 rfl dX8_scan_82 ?_
                refine zg_cSi (As := [.int v18]) (st := []) X (t_X8_isDigit l d L kd _ v18 ) mk_X8_60 mc_X8_isDigit mz_X8 ms_X8_isDigit (na := 1) ⟨md_X8.1, md_X8.2, by decide +kernel⟩ rfl ⟨by decide, by decide⟩ (Nat.le_of_ble_eq_true rfl) dX8_scan_84 (fun v23 σ2 hq => ?_)
                obtain ⟨⟨hF, hv23⟩, rfl⟩ := hq
                replace E := zLet_s hF E
                refine zg_if_eq X 101 dX8_scan_87 (by decide) (fun c24 => ?_) (fun c24 => ?_)
                · skip
                  replace E := zIf_t c24 E
                  refine zg_iload X 0 rfl dX8_scan_101 ?_
                  refine zg_if_le X 117 dX8_scan_103 (by decide) (fun c25 => ?_) (fun c25 => ?_)
                  · skip
                    replace E := zIf_f (Int.not_lt.mpr c25) E
                    refine zg_iconst X (-1) dX8_scan_117 (by decide) (fun v26 _ hv26 => ?_)
                    replace E := zLet_s (zcst hv26 (by decide)) E
                    refine zg_istore X [(7, .int v26), (6, .int v18), (3, .int v14), (5, .int x7), (4, .int x8), (0, .ref a0), (1, .ref p1), (2, .int p2)] dX8_scan_118 (by decide) rfl ?_
                    refine zg_aload_n X 5 rfl dX8_scan_120 ?_
                    refine zg_iload X 0 rfl dX8_scan_121 ?_
                    refine zg_if_ge X 131 dX8_scan_123 (by decide) (fun c27 => ?_) (fun c27 => ?_)
                    · omega
                    · skip
                      replace E := zIf_t c27 E
                      refine zg_bipush X 34 dX8_scan_126 (by decide) (fun v28 _ hv28 => ?_)
                      replace E := zLet_s (zcst hv28 (by decide)) E
                      refine zg_goto X 136 dX8_scan_128 (by decide) ?_
                      refine zg_lconst X dX8_scan_136 (fun v29 ev29 => ?_)
                      replace E := zLet_s ev29 E
                      refine zg_iload_n X 2 rfl dX8_scan_137 ?_
                      refine zg_cVv (As := [.int v28, .long v29, .int v14]) (st := []) X ha0 rfl (by decide) rfl (t_X8_add l d L kd κ b _ hI a0 ha0 v28 v29 v14 ) mk_X8_49 mc_X8_add mz_X8 mi_X8_add ml_X8_add (na := 3) ⟨md_X8.1, md_X8.2, by decide +kernel⟩ rfl ⟨by decide, by decide⟩ (Nat.le_of_ble_eq_true rfl) dX8_scan_138 (fun s30 hq => ?_)
                      obtain ⟨hF, hS2, hI⟩ := hq
                      replace E := zLet_s hF E
                      have hS := hS.tr hS2 rfl rfl
                      refine zg_iinc X 1 (fun v31 => [(3, .int v31), (7, .int v26), (6, .int v18), (5, .int x7), (4, .int x8), (0, .ref a0), (1, .ref p1), (2, .int p2)]) 2 dX8_scan_141 rfl (by decide) (by decide) (by omega) (by omega) (fun _ => rfl) (fun v31 ev31 hv31 => ?_)
                      replace E := zLet_s (zinc ev31 (by decide)) E
                      refine zg_aload_n X 5 rfl dX8_scan_144 ?_
                      refine fg_X8_23 X hI ha0 dX8_scan_145 (fun v32 ev32 hv32 => ?_)
                      replace E := zLet_s ev32 E
                      refine zg_if_le X 171 dX8_scan_148 (by decide) (fun c33 => ?_) (fun c33 => ?_)
                      · skip
                        replace E := zIf_f (Int.not_lt.mpr c33) E
                        refine zg_iconst X 0 dX8_scan_171 (by decide) (fun v34 _ hv34 => ?_)
                        replace E := zLet_s (zcst hv34 (by decide)) E
                        refine zg_istore X [(4, .int v34), (3, .int v31), (7, .int v26), (6, .int v18), (5, .int x7), (0, .ref a0), (1, .ref p1), (2, .int p2)] dX8_scan_172 (by decide) rfl ?_
                        refine zg_iinc X 1 (fun v35 => [(5, .int v35), (4, .int v34), (3, .int v31), (7, .int v26), (6, .int v18), (0, .ref a0), (1, .ref p1), (2, .int p2)]) 4 dX8_scan_174 rfl (by decide) (by decide) (by omega) (by omega) (fun _ => rfl) (fun v35 ev35 hv35 => ?_)
                        replace E := zLet_s (zinc ev35 (by decide)) E
                        refine zg_goto X 13 dX8_scan_177 (by decide) ?_
                        refine zg_sub [0, 1, 2, 5, 6, 7] rfl ?_
                        exact ihLp10 _ v35 v34 v31 hI hS E  (by omega) (by omega) 
                      · skip
                        replace E := zIf_t c33 E
                        refine zg_aload_n X 5 rfl dX8_scan_151 ?_
                        refine fg_X8_13 X hI ha0 dX8_scan_152 (fun v36 ev36 hv36 => ?_)
                        replace E := zLet_s (zgr ev36) E
                        refine zg_aload_n X 5 rfl dX8_scan_155 ?_
                        refine fg_X8_23 X hI ha0 dX8_scan_156 (fun v37 ev37 hv37 => ?_)
                        replace E := zLet_s ev37 E
                        have mv37 : v37.toInt = v32.toInt := by rw [ev37, ← ev32]
                        refine zg_iconst X 1 dX8_scan_159 (by decide) (fun v38 _ hv38 => ?_)
                        replace E := zLet_s (zcst hv38 (by decide)) E
                        refine zg_isub X dX8_scan_160 (by omega) (by omega) (fun v39 ev39 hv39 => ?_)
                        replace E := zLet_s ev39 E
                        refine ag_41 X hI hv36 (by omega) (by omega) dX8_scan_161 (fun v40 ev40 _ => ?_)
                        replace E := zLet_s ev40 E
                        refine zg_bipush X 33 dX8_scan_162 (by decide) (fun v41 _ hv41 => ?_)
                        replace E := zLet_s (zcst hv41 (by decide)) E
                        have zv40_z42 := zb_rng v40
                        refine zg_icmp_ge X 171 dX8_scan_164 (by decide) (fun c43 => ?_) (fun c43 => ?_)
                        · skip
                          replace E := zIf_f (Int.not_lt.mpr c43) E
                          refine zg_iconst X 0 dX8_scan_171 (by decide) (fun v44 _ hv44 => ?_)
                          replace E := zLet_s (zcst hv44 (by decide)) E
                          refine zg_istore X [(4, .int v44), (3, .int v31), (7, .int v26), (6, .int v18), (5, .int x7), (0, .ref a0), (1, .ref p1), (2, .int p2)] dX8_scan_172 (by decide) rfl ?_
                          refine zg_iinc X 1 (fun v45 => [(5, .int v45), (4, .int v44), (3, .int v31), (7, .int v26), (6, .int v18), (0, .ref a0), (1, .ref p1), (2, .int p2)]) 4 dX8_scan_174 rfl (by decide) (by decide) (by omega) (by omega) (fun _ => rfl) (fun v45 ev45 hv45 => ?_)
                          replace E := zLet_s (zinc ev45 (by decide)) E
                          refine zg_goto X 13 dX8_scan_177 (by decide) ?_
                          refine zg_sub [0, 1, 2, 5, 6, 7] rfl ?_
                          exact ihLp10 _ v45 v44 v31 hI hS E  (by omega) (by omega) 
                        · skip
                          replace E := zIf_t c43 E
                          refine zg_iconst X 1 dX8_scan_167 (by decide) (fun v46 _ hv46 => ?_)
                          replace E := zLet_s (zcst hv46 (by decide)) E
                          refine zg_goto X 172 dX8_scan_168 (by decide) ?_
                          refine zg_istore X [(4, .int v46), (3, .int v31), (7, .int v26), (6, .int v18), (5, .int x7), (0, .ref a0), (1, .ref p1), (2, .int p2)] dX8_scan_172 (by decide) rfl ?_
                          refine zg_iinc X 1 (fun v47 => [(5, .int v47), (4, .int v46), (3, .int v31), (7, .int v26), (6, .int v18), (0, .ref a0), (1, .ref p1), (2, .int p2)]) 4 dX8_scan_174 rfl (by decide) (by decide) (by omega) (by omega) (fun _ => rfl) (fun v47 ev47 hv47 => ?_)
                          replace E := zLet_s (zinc ev47 (by decide)) E
                          refine zg_goto X 13 dX8_scan_177 (by decide) ?_
                          refine zg_sub [0, 1, 2, 5, 6, 7] rfl ?_
                          exact ihLp10 _ v47 v46 v31 hI hS E  (by omega) (by omega) 
                  · omega
                · skip
                  replace E := zIf_f c24 E
                  refine zg_aload_n X 4 rfl dX8_scan_90 ?_
                  refine zg_aload_n X 5 rfl dX8_scan_91 ?_
                  refine zg_iload_n X 6 rfl dX8_scan_92 ?_
                  refine zg_iload_n X 1 rfl dX8_scan_93 ?_
                  refine zg_cVi (As := [.ref p1, .int p2, .int v14]) (st := []) X ha0 rfl (by decide) rfl (t_X8_addDigits l d L kd κ b _ hI a0 ha0 p1 hp1 p2 v14 (by omega) (by omega)) mk_X8_63 mc_X8_addDigits mz_X8 mi_X8_addDigits ml_X8_addDigits (na := 3) ⟨md_X8.1, md_X8.2, by decide +kernel⟩ rfl ⟨by decide, by decide⟩ (Nat.le_of_ble_eq_true rfl) dX8_scan_94 (fun v48 s49 hq => ?_)
                  obtain ⟨hF, hS2, hI⟩ := hq
                  replace E := zLet2_s hF E
                  have hS := hS.tr hS2 rfl rfl
                  obtain ⟨hv48, hI⟩ := hI
                  refine zg_istore_n X [(3, .int v48), (6, .int v18), (5, .int x7), (4, .int x8), (0, .ref a0), (1, .ref p1), (2, .int p2)] dX8_scan_97 (by decide) rfl ?_
                  refine zg_goto X 144 dX8_scan_98 (by decide) ?_
                  refine zg_aload_n X 4 rfl dX8_scan_144 ?_
                  refine fg_X8_23 X hI ha0 dX8_scan_145 (fun v50 ev50 hv50 => ?_)
                  replace E := zLet_s ev50 E
                  refine zg_if_le X 171 dX8_scan_148 (by decide) (fun c51 => ?_) (fun c51 => ?_)
                  · skip
                    replace E := zIf_f (Int.not_lt.mpr c51) E
                    refine zg_iconst X 0 dX8_scan_171 (by decide) (fun v52 _ hv52 => ?_)
                    replace E := zLet_s (zcst hv52 (by decide)) E
                    refine zg_istore X [(4, .int v52), (3, .int v48), (6, .int v18), (5, .int x7), (0, .ref a0), (1, .ref p1), (2, .int p2)] dX8_scan_172 (by decide) rfl ?_
                    refine zg_iinc X 1 (fun v53 => [(5, .int v53), (4, .int v52), (3, .int v48), (6, .int v18), (0, .ref a0), (1, .ref p1), (2, .int p2)]) 3 dX8_scan_174 rfl (by decide) (by decide) (by omega) (by omega) (fun _ => rfl) (fun v53 ev53 hv53 => ?_)
                    replace E := zLet_s (zinc ev53 (by decide)) E
                    refine zg_goto X 13 dX8_scan_177 (by decide) ?_
                    refine zg_sub [0, 1, 2, 4, 5, 6] rfl ?_
                    exact ihLp10 _ v53 v52 v48 hI hS E  (by omega) (by omega) 
                  · skip
                    replace E := zIf_t c51 E
                    refine zg_aload_n X 4 rfl dX8_scan_151 ?_
                    refine fg_X8_13 X hI ha0 dX8_scan_152 (fun v54 ev54 hv54 => ?_)
                    replace E := zLet_s (zgr ev54) E
                    refine zg_aload_n X 4 rfl dX8_scan_155 ?_
                    refine fg_X8_23 X hI ha0 dX8_scan_156 (fun v55 ev55 hv55 => ?_)
                    replace E := zLet_s ev55 E
                    have mv55 : v55.toInt = v50.toInt := by rw [ev55, ← ev50]
                    refine zg_iconst X 1 dX8_scan_159 (by decide) (fun v56 _ hv56 => ?_)
                    replace E := zLet_s (zcst hv56 (by decide)) E
                    refine zg_isub X dX8_scan_160 (by omega) (by omega) (fun v57 ev57 hv57 => ?_)
                    replace E := zLet_s ev57 E
                    refine ag_41 X hI hv54 (by omega) (by omega) dX8_scan_161 (fun v58 ev58 _ => ?_)
                    replace E := zLet_s ev58 E
                    refine zg_bipush X 33 dX8_scan_162 (by decide) (fun v59 _ hv59 => ?_)
                    replace E := zLet_s (zcst hv59 (by decide)) E
                    have zv58_z60 := zb_rng v58
                    refine zg_icmp_ge X 171 dX8_scan_164 (by decide) (fun c61 => ?_) (fun c61 => ?_)
                    · skip
                      replace E := zIf_f (Int.not_lt.mpr c61) E
                      refine zg_iconst X 0 dX8_scan_171 (by decide) (fun v62 _ hv62 => ?_)
                      replace E := zLet_s (zcst hv62 (by decide)) E
                      refine zg_istore X [(4, .int v62), (3, .int v48), (6, .int v18), (5, .int x7), (0, .ref a0), (1, .ref p1), (2, .int p2)] dX8_scan_172 (by decide) rfl ?_
                      refine zg_iinc X 1 (fun v63 => [(5, .int v63), (4, .int v62), (3, .int v48), (6, .int v18), (0, .ref a0), (1, .ref p1), (2, .int p2)]) 3 dX8_scan_174 rfl (by decide) (by decide) (by omega) (by omega) (fun _ => rfl) (fun v63 ev63 hv63 => ?_)
                      replace E := zLet_s (zinc ev63 (by decide)) E
                      refine zg_goto X 13 dX8_scan_177 (by decide) ?_
                      refine zg_sub [0, 1, 2, 4, 5, 6] rfl ?_
                      exact ihLp10 _ v63 v62 v48 hI hS E  (by omega) (by omega) 
                    · skip
                      replace E := zIf_t c61 E
                      refine zg_iconst X 1 dX8_scan_167 (by decide) (fun v64 _ hv64 => ?_)
                      replace E := zLet_s (zcst hv64 (by decide)) E
                      refine zg_goto X 172 dX8_scan_168 (by decide) ?_
                      refine zg_istore X [(4, .int v64), (3, .int v48), (6, .int v18), (5, .int x7), (0, .ref a0), (1, .ref p1), (2, .int p2)] dX8_scan_172 (by decide) rfl ?_
                      refine zg_iinc X 1 (fun v65 => [(5, .int v65), (4, .int v64), (3, .int v48), (6, .int v18), (0, .ref a0), (1, .ref p1), (2, .int p2)]) 3 dX8_scan_174 rfl (by decide) (by decide) (by omega) (by omega) (fun _ => rfl) (fun v65 ev65 hv65 => ?_)
                      replace E := zLet_s (zinc ev65 (by decide)) E
                      refine zg_goto X 13 dX8_scan_177 (by decide) ?_
                      refine zg_sub [0, 1, 2, 4, 5, 6] rfl ?_
                      exact ihLp10 _ v65 v64 v48 hI hS E  (by omega) (by omega) 
              · skip
                replace E := zIf_f c22 E
                refine zg_aload_n X 4 rfl dX8_scan_71 ?_
                refine zg_aload_n X 5 rfl dX8_scan_72 ?_
                refine zg_iload_n X 6 rfl dX8_scan_73 ?_
                refine zg_iload_n X 1 rfl dX8_scan_74 ?_
                refine zg_cVi (As := [.ref p1, .int p2, .int v14]) (st := []) X ha0 rfl (by decide) rfl (t_X8_addLetters l d L kd κ b _ hI a0 ha0 p1 hp1 p2 v14 (by omega) (by omega)) mk_X8_57 mc_X8_addLetters mz_X8 mi_X8_addLetters ml_X8_addLetters (na := 3) ⟨md_X8.1, md_X8.2, by decide +kernel⟩ rfl ⟨by decide, by decide⟩ (Nat.le_of_ble_eq_true rfl) dX8_scan_75 (fun v66 s67 hq => ?_)
                obtain ⟨hF, hS2, hI⟩ := hq
                replace E := zLet2_s hF E
                have hS := hS.tr hS2 rfl rfl
                obtain ⟨hv66, hI⟩ := hI
                refine zg_istore_n X [(3, .int v66), (6, .int v18), (5, .int x7), (4, .int x8), (0, .ref a0), (1, .ref p1), (2, .int p2)] dX8_scan_78 (by decide) rfl ?_
                refine zg_goto X 144 dX8_scan_79 (by decide) ?_
                refine zg_aload_n X 4 rfl dX8_scan_144 ?_
                refine fg_X8_23 X hI ha0 dX8_scan_145 (fun v68 ev68 hv68 => ?_)
                replace E := zLet_s ev68 E
                refine zg_if_le X 171 dX8_scan_148 (by decide) (fun c69 => ?_) (fun c69 => ?_)
                · skip
                  replace E := zIf_f (Int.not_lt.mpr c69) E
                  refine zg_iconst X 0 dX8_scan_171 (by decide) (fun v70 _ hv70 => ?_)
                  replace E := zLet_s (zcst hv70 (by decide)) E
                  refine zg_istore X [(4, .int v70), (3, .int v66), (6, .int v18), (5, .int x7), (0, .ref a0), (1, .ref p1), (2, .int p2)] dX8_scan_172 (by decide) rfl ?_
                  refine zg_iinc X 1 (fun v71 => [(5, .int v71), (4, .int v70), (3, .int v66), (6, .int v18), (0, .ref a0), (1, .ref p1), (2, .int p2)]) 3 dX8_scan_174 rfl (by decide) (by decide) (by omega) (by omega) (fun _ => rfl) (fun v71 ev71 hv71 => ?_)
                  replace E := zLet_s (zinc ev71 (by decide)) E
                  refine zg_goto X 13 dX8_scan_177 (by decide) ?_
                  refine zg_sub [0, 1, 2, 4, 5, 6] rfl ?_
                  exact ihLp10 _ v71 v70 v66 hI hS E  (by omega) (by omega) 
                · skip
                  replace E := zIf_t c69 E
                  refine zg_aload_n X 4 rfl dX8_scan_151 ?_
                  refine fg_X8_13 X hI ha0 dX8_scan_152 (fun v72 ev72 hv72 => ?_)
                  replace E := zLet_s (zgr ev72) E
                  refine zg_aload_n X 4 rfl dX8_scan_155 ?_
                  refine fg_X8_23 X hI ha0 dX8_scan_156 (fun v73 ev73 hv73 => ?_)
                  replace E := zLet_s ev73 E
                  have mv73 : v73.toInt = v68.toInt := by rw [ev73, ← ev68]
                  refine zg_iconst X 1 dX8_scan_159 (by decide) (fun v74 _ hv74 => ?_)
                  replace E := zLet_s (zcst hv74 (by decide)) E
                  refine zg_isub X dX8_scan_160 (by omega) (by omega) (fun v75 ev75 hv75 => ?_)
                  replace E := zLet_s ev75 E
                  refine ag_41 X hI hv72 (by omega) (by omega) dX8_scan_161 (fun v76 ev76 _ => ?_)
                  replace E := zLet_s ev76 E
                  refine zg_bipush X 33 dX8_scan_162 (by decide) (fun v77 _ hv77 => ?_)
                  replace E := zLet_s (zcst hv77 (by decide)) E
                  have zv76_z78 := zb_rng v76
                  refine zg_icmp_ge X 171 dX8_scan_164 (by decide) (fun c79 => ?_) (fun c79 => ?_)
                  · skip
                    replace E := zIf_f (Int.not_lt.mpr c79) E
                    refine zg_iconst X 0 dX8_scan_171 (by decide) (fun v80 _ hv80 => ?_)
                    replace E := zLet_s (zcst hv80 (by decide)) E
                    refine zg_istore X [(4, .int v80), (3, .int v66), (6, .int v18), (5, .int x7), (0, .ref a0), (1, .ref p1), (2, .int p2)] dX8_scan_172 (by decide) rfl ?_
                    refine zg_iinc X 1 (fun v81 => [(5, .int v81), (4, .int v80), (3, .int v66), (6, .int v18), (0, .ref a0), (1, .ref p1), (2, .int p2)]) 3 dX8_scan_174 rfl (by decide) (by decide) (by omega) (by omega) (fun _ => rfl) (fun v81 ev81 hv81 => ?_)
                    replace E := zLet_s (zinc ev81 (by decide)) E
                    refine zg_goto X 13 dX8_scan_177 (by decide) ?_
                    refine zg_sub [0, 1, 2, 4, 5, 6] rfl ?_
                    exact ihLp10 _ v81 v80 v66 hI hS E  (by omega) (by omega) 
                  · skip
                    replace E := zIf_t c79 E
                    refine zg_iconst X 1 dX8_scan_167 (by decide) (fun v82 _ hv82 => ?_)
                    replace E := zLet_s (zcst hv82 (by decide)) E
                    refine zg_goto X 172 dX8_scan_168 (by decide) ?_
                    refine zg_istore X [(4, .int v82), (3, .int v66), (6, .int v18), (5, .int x7), (0, .ref a0), (1, .ref p1), (2, .int p2)] dX8_scan_172 (by decide) rfl ?_
                    refine zg_iinc X 1 (fun v83 => [(5, .int v83), (4, .int v82), (3, .int v66), (6, .int v18), (0, .ref a0), (1, .ref p1), (2, .int p2)]) 3 dX8_scan_174 rfl (by decide) (by decide) (by omega) (by omega) (fun _ => rfl) (fun v83 ev83 hv83 => ?_)
                    replace E := zLet_s (zinc ev83 (by decide)) E
                    refine zg_goto X 13 dX8_scan_177 (by decide) ?_
                    refine zg_sub [0, 1, 2, 4, 5, 6] rfl ?_
                    exact ihLp10 _ v83 v82 v66 hI hS E  (by omega) (by omega) 
            · skip
              replace E := zIf_f (Int.not_lt.mpr c20) E
              refine zg_aload_n X 4 rfl dX8_scan_52 ?_
              refine zg_bipush X 33 dX8_scan_53 (by decide) (fun v84 _ hv84 => ?_)
              replace E := zLet_s (zcst hv84 (by decide)) E
              refine zg_lconst X dX8_scan_55 (fun v85 ev85 => ?_)
              replace E := zLet_s ev85 E
              refine zg_iload_n X 6 rfl dX8_scan_56 ?_
              refine zg_cVv (As := [.int v84, .long v85, .int p2]) (st := []) X ha0 rfl (by decide) rfl (t_X8_add l d L kd κ b _ hI a0 ha0 v84 v85 p2 ) mk_X8_49 mc_X8_add mz_X8 mi_X8_add ml_X8_add (na := 3) ⟨md_X8.1, md_X8.2, by decide +kernel⟩ rfl ⟨by decide, by decide⟩ (Nat.le_of_ble_eq_true rfl) dX8_scan_57 (fun s86 hq => ?_)
              obtain ⟨hF, hS2, hI⟩ := hq
              replace E := zLet_s hF E
              have hS := hS.tr hS2 rfl rfl
              refine zg_goto X 144 dX8_scan_60 (by decide) ?_
              refine zg_aload_n X 4 rfl dX8_scan_144 ?_
              refine fg_X8_23 X hI ha0 dX8_scan_145 (fun v87 ev87 hv87 => ?_)
              replace E := zLet_s ev87 E
              refine zg_if_le X 171 dX8_scan_148 (by decide) (fun c88 => ?_) (fun c88 => ?_)
              · skip
                replace E := zIf_f (Int.not_lt.mpr c88) E
                refine zg_iconst X 0 dX8_scan_171 (by decide) (fun v89 _ hv89 => ?_)
                replace E := zLet_s (zcst hv89 (by decide)) E
                refine zg_istore X [(4, .int v89), (6, .int v18), (3, .int v14), (5, .int x7), (0, .ref a0), (1, .ref p1), (2, .int p2)] dX8_scan_172 (by decide) rfl ?_
                refine zg_iinc X 1 (fun v90 => [(5, .int v90), (4, .int v89), (6, .int v18), (3, .int v14), (0, .ref a0), (1, .ref p1), (2, .int p2)]) 3 dX8_scan_174 rfl (by decide) (by decide) (by omega) (by omega) (fun _ => rfl) (fun v90 ev90 hv90 => ?_)
                replace E := zLet_s (zinc ev90 (by decide)) E
                refine zg_goto X 13 dX8_scan_177 (by decide) ?_
                refine zg_sub [0, 1, 3, 4, 5, 6] rfl ?_
                exact ihLp10 _ v90 v89 v14 hI hS E  (by omega) (by omega) 
              · skip
                replace E := zIf_t c88 E
                refine zg_aload_n X 4 rfl dX8_scan_151 ?_
                refine fg_X8_13 X hI ha0 dX8_scan_152 (fun v91 ev91 hv91 => ?_)
                replace E := zLet_s (zgr ev91) E
                refine zg_aload_n X 4 rfl dX8_scan_155 ?_
                refine fg_X8_23 X hI ha0 dX8_scan_156 (fun v92 ev92 hv92 => ?_)
                replace E := zLet_s ev92 E
                have mv92 : v92.toInt = v87.toInt := by rw [ev92, ← ev87]
                refine zg_iconst X 1 dX8_scan_159 (by decide) (fun v93 _ hv93 => ?_)
                replace E := zLet_s (zcst hv93 (by decide)) E
                refine zg_isub X dX8_scan_160 (by omega) (by omega) (fun v94 ev94 hv94 => ?_)
                replace E := zLet_s ev94 E
                refine ag_41 X hI hv91 (by omega) (by omega) dX8_scan_161 (fun v95 ev95 _ => ?_)
                replace E := zLet_s ev95 E
                refine zg_bipush X 33 dX8_scan_162 (by decide) (fun v96 _ hv96 => ?_)
                replace E := zLet_s (zcst hv96 (by decide)) E
                have zv95_z97 := zb_rng v95
                refine zg_icmp_ge X 171 dX8_scan_164 (by decide) (fun c98 => ?_) (fun c98 => ?_)
                · skip
                  replace E := zIf_f (Int.not_lt.mpr c98) E
                  refine zg_iconst X 0 dX8_scan_171 (by decide) (fun v99 _ hv99 => ?_)
                  replace E := zLet_s (zcst hv99 (by decide)) E
                  refine zg_istore X [(4, .int v99), (6, .int v18), (3, .int v14), (5, .int x7), (0, .ref a0), (1, .ref p1), (2, .int p2)] dX8_scan_172 (by decide) rfl ?_
                  refine zg_iinc X 1 (fun v100 => [(5, .int v100), (4, .int v99), (6, .int v18), (3, .int v14), (0, .ref a0), (1, .ref p1), (2, .int p2)]) 3 dX8_scan_174 rfl (by decide) (by decide) (by omega) (by omega) (fun _ => rfl) (fun v100 ev100 hv100 => ?_)
                  replace E := zLet_s (zinc ev100 (by decide)) E
                  refine zg_goto X 13 dX8_scan_177 (by decide) ?_
                  refine zg_sub [0, 1, 3, 4, 5, 6] rfl ?_
                  exact ihLp10 _ v100 v99 v14 hI hS E  (by omega) (by omega) 
                · skip
                  replace E := zIf_t c98 E
                  refine zg_iconst X 1 dX8_scan_167 (by decide) (fun v101 _ hv101 => ?_)
                  replace E := zLet_s (zcst hv101 (by decide)) E
                  refine zg_goto X 172 dX8_scan_168 (by decide) ?_
                  refine zg_istore X [(4, .int v101), (6, .int v18), (3, .int v14), (5, .int x7), (0, .ref a0), (1, .ref p1), (2, .int p2)] dX8_scan_172 (by decide) rfl ?_
                  refine zg_iinc X 1 (fun v102 => [(5, .int v102), (4, .int v101), (6, .int v18), (3, .int v14), (0, .ref a0), (1, .ref p1), (2, .int p2)]) 3 dX8_scan_174 rfl (by decide) (by decide) (by omega) (by omega) (fun _ => rfl) (fun v102 ev102 hv102 => ?_)
                  replace E := zLet_s (zinc ev102 (by decide)) E
                  refine zg_goto X 13 dX8_scan_177 (by decide) ?_
                  refine zg_sub [0, 1, 3, 4, 5, 6] rfl ?_
                  exact ihLp10 _ v102 v101 v14 hI hS E  (by omega) (by omega) 
          · skip
            replace E := zIf_t c17 E
            refine zg_aload_n X 4 rfl dX8_scan_38 ?_
            refine zg_iload_n X 0 rfl dX8_scan_39 ?_
            refine ag_39 X hI hp1 (by omega) (by omega) dX8_scan_40 (fun v103 ev103 hv103 => ?_)
            replace E := zLet_s ev103 E
            refine zg_goto X 45 dX8_scan_41 (by decide) ?_
            refine zg_istore X [(6, .int v103), (3, .int v14), (5, .int x7), (4, .int x8), (0, .ref a0), (1, .ref p1), (2, .int p2)] dX8_scan_45 (by decide) rfl ?_
            refine zg_iload_n X 1 rfl dX8_scan_47 ?_
            refine zg_iload_n X 6 rfl dX8_scan_48 ?_
            refine zg_icmp_lt X 63 dX8_scan_49 (by decide) (fun c104 => ?_) (fun c104 => ?_)
            · skip
              replace E := zIf_t c104 E
              refine zg_iload X 0 rfl dX8_scan_63 ?_
              refine zg_cSi (As := [.int v103]) (st := []) X (t_X8_isLetter l d L kd _ v103 ) mk_X8_53 mc_X8_isLetter mz_X8 ms_X8_isLetter (na := 1) ⟨md_X8.1, md_X8.2, by decide +kernel⟩ rfl ⟨by decide, by decide⟩ (Nat.le_of_ble_eq_true rfl) dX8_scan_65 (fun v105 σ2 hq => ?_)
              obtain ⟨⟨hF, hv105⟩, rfl⟩ := hq
              replace E := zLet_s hF E
              refine zg_if_eq X 82 dX8_scan_68 (by decide) (fun c106 => ?_) (fun c106 => ?_)
              · skip
                replace E := zIf_t c106 E
                refine zg_iload X 0 rfl dX8_scan_82 ?_
                refine zg_cSi (As := [.int v103]) (st := []) X (t_X8_isDigit l d L kd _ v103 ) mk_X8_60 mc_X8_isDigit mz_X8 ms_X8_isDigit (na := 1) ⟨md_X8.1, md_X8.2, by decide +kernel⟩ rfl ⟨by decide, by decide⟩ (Nat.le_of_ble_eq_true rfl) dX8_scan_84 (fun v107 σ2 hq => ?_)
                obtain ⟨⟨hF, hv107⟩, rfl⟩ := hq
                replace E := zLet_s hF E
                refine zg_if_eq X 101 dX8_scan_87 (by decide) (fun c108 => ?_) (fun c108 => ?_)
                · skip
                  replace E := zIf_t c108 E
                  refine zg_iload X 0 rfl dX8_scan_101 ?_
                  refine zg_if_le X 117 dX8_scan_103 (by decide) (fun c109 => ?_) (fun c109 => ?_)
                  · skip
                    replace E := zIf_f (Int.not_lt.mpr c109) E
                    refine zg_iconst X (-1) dX8_scan_117 (by decide) (fun v110 _ hv110 => ?_)
                    replace E := zLet_s (zcst hv110 (by decide)) E
                    refine zg_istore X [(7, .int v110), (6, .int v103), (3, .int v14), (5, .int x7), (4, .int x8), (0, .ref a0), (1, .ref p1), (2, .int p2)] dX8_scan_118 (by decide) rfl ?_
                    refine zg_aload_n X 5 rfl dX8_scan_120 ?_
                    refine zg_iload X 0 rfl dX8_scan_121 ?_
                    refine zg_if_ge X 131 dX8_scan_123 (by decide) (fun c111 => ?_) (fun c111 => ?_)
                    · omega
                    · skip
                      replace E := zIf_t c111 E
                      refine zg_bipush X 34 dX8_scan_126 (by decide) (fun v112 _ hv112 => ?_)
                      replace E := zLet_s (zcst hv112 (by decide)) E
                      refine zg_goto X 136 dX8_scan_128 (by decide) ?_
                      refine zg_lconst X dX8_scan_136 (fun v113 ev113 => ?_)
                      replace E := zLet_s ev113 E
                      refine zg_iload_n X 2 rfl dX8_scan_137 ?_
                      refine zg_cVv (As := [.int v112, .long v113, .int v14]) (st := []) X ha0 rfl (by decide) rfl (t_X8_add l d L kd κ b _ hI a0 ha0 v112 v113 v14 ) mk_X8_49 mc_X8_add mz_X8 mi_X8_add ml_X8_add (na := 3) ⟨md_X8.1, md_X8.2, by decide +kernel⟩ rfl ⟨by decide, by decide⟩ (Nat.le_of_ble_eq_true rfl) dX8_scan_138 (fun s114 hq => ?_)
                      obtain ⟨hF, hS2, hI⟩ := hq
                      replace E := zLet_s hF E
                      have hS := hS.tr hS2 rfl rfl
                      refine zg_iinc X 1 (fun v115 => [(3, .int v115), (7, .int v110), (6, .int v103), (5, .int x7), (4, .int x8), (0, .ref a0), (1, .ref p1), (2, .int p2)]) 2 dX8_scan_141 rfl (by decide) (by decide) (by omega) (by omega) (fun _ => rfl) (fun v115 ev115 hv115 => ?_)
                      replace E := zLet_s (zinc ev115 (by decide)) E
                      refine zg_aload_n X 5 rfl dX8_scan_144 ?_
                      refine fg_X8_23 X hI ha0 dX8_scan_145 (fun v116 ev116 hv116 => ?_)
                      replace E := zLet_s ev116 E
                      refine zg_if_le X 171 dX8_scan_148 (by decide) (fun c117 => ?_) (fun c117 => ?_)
                      · skip
                        replace E := zIf_f (Int.not_lt.mpr c117) E
                        refine zg_iconst X 0 dX8_scan_171 (by decide) (fun v118 _ hv118 => ?_)
                        replace E := zLet_s (zcst hv118 (by decide)) E
                        refine zg_istore X [(4, .int v118), (3, .int v115), (7, .int v110), (6, .int v103), (5, .int x7), (0, .ref a0), (1, .ref p1), (2, .int p2)] dX8_scan_172 (by decide) rfl ?_
                        refine zg_iinc X 1 (fun v119 => [(5, .int v119), (4, .int v118), (3, .int v115), (7, .int v110), (6, .int v103), (0, .ref a0), (1, .ref p1), (2, .int p2)]) 4 dX8_scan_174 rfl (by decide) (by decide) (by omega) (by omega) (fun _ => rfl) (fun v119 ev119 hv119 => ?_)
                        replace E := zLet_s (zinc ev119 (by decide)) E
                        refine zg_goto X 13 dX8_scan_177 (by decide) ?_
                        refine zg_sub [0, 1, 2, 5, 6, 7] rfl ?_
                        exact ihLp10 _ v119 v118 v115 hI hS E  (by omega) (by omega) 
                      · skip
                        replace E := zIf_t c117 E
                        refine zg_aload_n X 5 rfl dX8_scan_151 ?_
                        refine fg_X8_13 X hI ha0 dX8_scan_152 (fun v120 ev120 hv120 => ?_)
                        replace E := zLet_s (zgr ev120) E
                        refine zg_aload_n X 5 rfl dX8_scan_155 ?_
                        refine fg_X8_23 X hI ha0 dX8_scan_156 (fun v121 ev121 hv121 => ?_)
                        replace E := zLet_s ev121 E
                        have mv121 : v121.toInt = v116.toInt := by rw [ev121, ← ev116]
                        refine zg_iconst X 1 dX8_scan_159 (by decide) (fun v122 _ hv122 => ?_)
                        replace E := zLet_s (zcst hv122 (by decide)) E
                        refine zg_isub X dX8_scan_160 (by omega) (by omega) (fun v123 ev123 hv123 => ?_)
                        replace E := zLet_s ev123 E
                        refine ag_41 X hI hv120 (by omega) (by omega) dX8_scan_161 (fun v124 ev124 _ => ?_)
                        replace E := zLet_s ev124 E
                        refine zg_bipush X 33 dX8_scan_162 (by decide) (fun v125 _ hv125 => ?_)
                        replace E := zLet_s (zcst hv125 (by decide)) E
                        have zv124_z126 := zb_rng v124
                        refine zg_icmp_ge X 171 dX8_scan_164 (by decide) (fun c127 => ?_) (fun c127 => ?_)
                        · skip
                          replace E := zIf_f (Int.not_lt.mpr c127) E
                          refine zg_iconst X 0 dX8_scan_171 (by decide) (fun v128 _ hv128 => ?_)
                          replace E := zLet_s (zcst hv128 (by decide)) E
                          refine zg_istore X [(4, .int v128), (3, .int v115), (7, .int v110), (6, .int v103), (5, .int x7), (0, .ref a0), (1, .ref p1), (2, .int p2)] dX8_scan_172 (by decide) rfl ?_
                          refine zg_iinc X 1 (fun v129 => [(5, .int v129), (4, .int v128), (3, .int v115), (7, .int v110), (6, .int v103), (0, .ref a0), (1, .ref p1), (2, .int p2)]) 4 dX8_scan_174 rfl (by decide) (by decide) (by omega) (by omega) (fun _ => rfl) (fun v129 ev129 hv129 => ?_)
                          replace E := zLet_s (zinc ev129 (by decide)) E
                          refine zg_goto X 13 dX8_scan_177 (by decide) ?_
                          refine zg_sub [0, 1, 2, 5, 6, 7] rfl ?_
                          exact ihLp10 _ v129 v128 v115 hI hS E  (by omega) (by omega) 
                        · skip
                          replace E := zIf_t c127 E
                          refine zg_iconst X 1 dX8_scan_167 (by decide) (fun v130 _ hv130 => ?_)
                          replace E := zLet_s (zcst hv130 (by decide)) E
                          refine zg_goto X 172 dX8_scan_168 (by decide) ?_
                          refine zg_istore X [(4, .int v130), (3, .int v115), (7, .int v110), (6, .int v103), (5, .int x7), (0, .ref a0), (1, .ref p1), (2, .int p2)] dX8_scan_172 (by decide) rfl ?_
                          refine zg_iinc X 1 (fun v131 => [(5, .int v131), (4, .int v130), (3, .int v115), (7, .int v110), (6, .int v103), (0, .ref a0), (1, .ref p1), (2, .int p2)]) 4 dX8_scan_174 rfl (by decide) (by decide) (by omega) (by omega) (fun _ => rfl) (fun v131 ev131 hv131 => ?_)
                          replace E := zLet_s (zinc ev131 (by decide)) E
                          refine zg_goto X 13 dX8_scan_177 (by decide) ?_
                          refine zg_sub [0, 1, 2, 5, 6, 7] rfl ?_
                          exact ihLp10 _ v131 v130 v115 hI hS E  (by omega) (by omega) 
                  · skip
                    replace E := zIf_t c109 E
                    refine zg_sldc (i := 1) X (by decide) rfl dX8_scan_106 ?_
                    refine zg_iload X 0 rfl dX8_scan_108 ?_
                    refine zg_i2c X dX8_scan_110 (fun v132 ev132 => ?_)
                    replace E := zLet_s ev132 E
                    refine zg_cKi (As := [.int v132]) (st := []) X (by decide) rfl (t_J0_indexOf_0f7a4 l d L kd _ 1 (by decide) v132 ) mk_X8_68 mc_J0_indexOf_0f7a4 mz_J0 mi_J0_indexOf_0f7a4 ml_J0_indexOf_0f7a4 (na := 1) ⟨md_J0.1, md_J0.2, by decide +kernel⟩ rfl ⟨by decide, by decide⟩ (Nat.le_of_ble_eq_true rfl) dX8_scan_111 (fun v133 σ2 hq => ?_)
                    obtain ⟨⟨hF, hv133⟩, rfl⟩ := hq
                    replace E := zLet_s hF E
                    refine zg_goto X 118 dX8_scan_114 (by decide) ?_
                    refine zg_istore X [(7, .int v133), (6, .int v103), (3, .int v14), (5, .int x7), (4, .int x8), (0, .ref a0), (1, .ref p1), (2, .int p2)] dX8_scan_118 (by decide) rfl ?_
                    refine zg_aload_n X 5 rfl dX8_scan_120 ?_
                    refine zg_iload X 0 rfl dX8_scan_121 ?_
                    refine zg_if_ge X 131 dX8_scan_123 (by decide) (fun c134 => ?_) (fun c134 => ?_)
                    · skip
                      replace E := zIf_f (Int.not_lt.mpr c134) E
                      refine zg_bipush X 24 dX8_scan_131 (by decide) (fun v135 _ hv135 => ?_)
                      replace E := zLet_s (zcst hv135 (by decide)) E
                      refine zg_iload X 0 rfl dX8_scan_133 ?_
                      refine zg_iaddW X dX8_scan_135 (fun v136 ev136 => ?_)
                      replace E := zLet_s ev136 E
                      refine zg_lconst X dX8_scan_136 (fun v137 ev137 => ?_)
                      replace E := zLet_s ev137 E
                      refine zg_iload_n X 2 rfl dX8_scan_137 ?_
                      refine zg_cVv (As := [.int v136, .long v137, .int v14]) (st := []) X ha0 rfl (by decide) rfl (t_X8_add l d L kd κ b _ hI a0 ha0 v136 v137 v14 ) mk_X8_49 mc_X8_add mz_X8 mi_X8_add ml_X8_add (na := 3) ⟨md_X8.1, md_X8.2, by decide +kernel⟩ rfl ⟨by decide, by decide⟩ (Nat.le_of_ble_eq_true rfl) dX8_scan_138 (fun s138 hq => ?_)
                      obtain ⟨hF, hS2, hI⟩ := hq
                      replace E := zLet_s hF E
                      have hS := hS.tr hS2 rfl rfl
                      refine zg_iinc X 1 (fun v139 => [(3, .int v139), (7, .int v133), (6, .int v103), (5, .int x7), (4, .int x8), (0, .ref a0), (1, .ref p1), (2, .int p2)]) 2 dX8_scan_141 rfl (by decide) (by decide) (by omega) (by omega) (fun _ => rfl) (fun v139 ev139 hv139 => ?_)
                      replace E := zLet_s (zinc ev139 (by decide)) E
                      refine zg_aload_n X 5 rfl dX8_scan_144 ?_
                      refine fg_X8_23 X hI ha0 dX8_scan_145 (fun v140 ev140 hv140 => ?_)
                      replace E := zLet_s ev140 E
                      refine zg_if_le X 171 dX8_scan_148 (by decide) (fun c141 => ?_) (fun c141 => ?_)
                      · skip
                        replace E := zIf_f (Int.not_lt.mpr c141) E
                        refine zg_iconst X 0 dX8_scan_171 (by decide) (fun v142 _ hv142 => ?_)
                        replace E := zLet_s (zcst hv142 (by decide)) E
                        refine zg_istore X [(4, .int v142), (3, .int v139), (7, .int v133), (6, .int v103), (5, .int x7), (0, .ref a0), (1, .ref p1), (2, .int p2)] dX8_scan_172 (by decide) rfl ?_
                        refine zg_iinc X 1 (fun v143 => [(5, .int v143), (4, .int v142), (3, .int v139), (7, .int v133), (6, .int v103), (0, .ref a0), (1, .ref p1), (2, .int p2)]) 4 dX8_scan_174 rfl (by decide) (by decide) (by omega) (by omega) (fun _ => rfl) (fun v143 ev143 hv143 => ?_)
                        replace E := zLet_s (zinc ev143 (by decide)) E
                        refine zg_goto X 13 dX8_scan_177 (by decide) ?_
                        refine zg_sub [0, 1, 2, 5, 6, 7] rfl ?_
                        exact ihLp10 _ v143 v142 v139 hI hS E  (by omega) (by omega) 
                      · skip
                        replace E := zIf_t c141 E
                        refine zg_aload_n X 5 rfl dX8_scan_151 ?_
                        refine fg_X8_13 X hI ha0 dX8_scan_152 (fun v144 ev144 hv144 => ?_)
                        replace E := zLet_s (zgr ev144) E
                        refine zg_aload_n X 5 rfl dX8_scan_155 ?_
                        refine fg_X8_23 X hI ha0 dX8_scan_156 (fun v145 ev145 hv145 => ?_)
                        replace E := zLet_s ev145 E
                        have mv145 : v145.toInt = v140.toInt := by rw [ev145, ← ev140]
                        refine zg_iconst X 1 dX8_scan_159 (by decide) (fun v146 _ hv146 => ?_)
                        replace E := zLet_s (zcst hv146 (by decide)) E
                        refine zg_isub X dX8_scan_160 (by omega) (by omega) (fun v147 ev147 hv147 => ?_)
                        replace E := zLet_s ev147 E
                        refine ag_41 X hI hv144 (by omega) (by omega) dX8_scan_161 (fun v148 ev148 _ => ?_)
                        replace E := zLet_s ev148 E
                        refine zg_bipush X 33 dX8_scan_162 (by decide) (fun v149 _ hv149 => ?_)
                        replace E := zLet_s (zcst hv149 (by decide)) E
                        have zv148_z150 := zb_rng v148
                        refine zg_icmp_ge X 171 dX8_scan_164 (by decide) (fun c151 => ?_) (fun c151 => ?_)
                        · skip
                          replace E := zIf_f (Int.not_lt.mpr c151) E
                          refine zg_iconst X 0 dX8_scan_171 (by decide) (fun v152 _ hv152 => ?_)
                          replace E := zLet_s (zcst hv152 (by decide)) E
                          refine zg_istore X [(4, .int v152), (3, .int v139), (7, .int v133), (6, .int v103), (5, .int x7), (0, .ref a0), (1, .ref p1), (2, .int p2)] dX8_scan_172 (by decide) rfl ?_
                          refine zg_iinc X 1 (fun v153 => [(5, .int v153), (4, .int v152), (3, .int v139), (7, .int v133), (6, .int v103), (0, .ref a0), (1, .ref p1), (2, .int p2)]) 4 dX8_scan_174 rfl (by decide) (by decide) (by omega) (by omega) (fun _ => rfl) (fun v153 ev153 hv153 => ?_)
                          replace E := zLet_s (zinc ev153 (by decide)) E
                          refine zg_goto X 13 dX8_scan_177 (by decide) ?_
                          refine zg_sub [0, 1, 2, 5, 6, 7] rfl ?_
                          exact ihLp10 _ v153 v152 v139 hI hS E  (by omega) (by omega) 
                        · skip
                          replace E := zIf_t c151 E
                          refine zg_iconst X 1 dX8_scan_167 (by decide) (fun v154 _ hv154 => ?_)
                          replace E := zLet_s (zcst hv154 (by decide)) E
                          refine zg_goto X 172 dX8_scan_168 (by decide) ?_
                          refine zg_istore X [(4, .int v154), (3, .int v139), (7, .int v133), (6, .int v103), (5, .int x7), (0, .ref a0), (1, .ref p1), (2, .int p2)] dX8_scan_172 (by decide) rfl ?_
                          refine zg_iinc X 1 (fun v155 => [(5, .int v155), (4, .int v154), (3, .int v139), (7, .int v133), (6, .int v103), (0, .ref a0), (1, .ref p1), (2, .int p2)]) 4 dX8_scan_174 rfl (by decide) (by decide) (by omega) (by omega) (fun _ => rfl) (fun v155 ev155 hv155 => ?_)
                          replace E := zLet_s (zinc ev155 (by decide)) E
                          refine zg_goto X 13 dX8_scan_177 (by decide) ?_
                          refine zg_sub [0, 1, 2, 5, 6, 7] rfl ?_
                          exact ihLp10 _ v155 v154 v139 hI hS E  (by omega) (by omega) 
                    · skip
                      replace E := zIf_t c134 E
                      refine zg_bipush X 34 dX8_scan_126 (by decide) (fun v156 _ hv156 => ?_)
                      replace E := zLet_s (zcst hv156 (by decide)) E
                      refine zg_goto X 136 dX8_scan_128 (by decide) ?_
                      refine zg_lconst X dX8_scan_136 (fun v157 ev157 => ?_)
                      replace E := zLet_s ev157 E
                      refine zg_iload_n X 2 rfl dX8_scan_137 ?_
                      refine zg_cVv (As := [.int v156, .long v157, .int v14]) (st := []) X ha0 rfl (by decide) rfl (t_X8_add l d L kd κ b _ hI a0 ha0 v156 v157 v14 ) mk_X8_49 mc_X8_add mz_X8 mi_X8_add ml_X8_add (na := 3) ⟨md_X8.1, md_X8.2, by decide +kernel⟩ rfl ⟨by decide, by decide⟩ (Nat.le_of_ble_eq_true rfl) dX8_scan_138 (fun s158 hq => ?_)
                      obtain ⟨hF, hS2, hI⟩ := hq
                      replace E := zLet_s hF E
                      have hS := hS.tr hS2 rfl rfl
                      refine zg_iinc X 1 (fun v159 => [(3, .int v159), (7, .int v133), (6, .int v103), (5, .int x7), (4, .int x8), (0, .ref a0), (1, .ref p1), (2, .int p2)]) 2 dX8_scan_141 rfl (by decide) (by decide) (by omega) (by omega) (fun _ => rfl) (fun v159 ev159 hv159 => ?_)
                      replace E := zLet_s (zinc ev159 (by decide)) E
                      refine zg_aload_n X 5 rfl dX8_scan_144 ?_
                      refine fg_X8_23 X hI ha0 dX8_scan_145 (fun v160 ev160 hv160 => ?_)
                      replace E := zLet_s ev160 E
                      refine zg_if_le X 171 dX8_scan_148 (by decide) (fun c161 => ?_) (fun c161 => ?_)
                      · skip
                        replace E := zIf_f (Int.not_lt.mpr c161) E
                        refine zg_iconst X 0 dX8_scan_171 (by decide) (fun v162 _ hv162 => ?_)
                        replace E := zLet_s (zcst hv162 (by decide)) E
                        refine zg_istore X [(4, .int v162), (3, .int v159), (7, .int v133), (6, .int v103), (5, .int x7), (0, .ref a0), (1, .ref p1), (2, .int p2)] dX8_scan_172 (by decide) rfl ?_
                        refine zg_iinc X 1 (fun v163 => [(5, .int v163), (4, .int v162), (3, .int v159), (7, .int v133), (6, .int v103), (0, .ref a0), (1, .ref p1), (2, .int p2)]) 4 dX8_scan_174 rfl (by decide) (by decide) (by omega) (by omega) (fun _ => rfl) (fun v163 ev163 hv163 => ?_)
                        replace E := zLet_s (zinc ev163 (by decide)) E
                        refine zg_goto X 13 dX8_scan_177 (by decide) ?_
                        refine zg_sub [0, 1, 2, 5, 6, 7] rfl ?_
                        exact ihLp10 _ v163 v162 v159 hI hS E  (by omega) (by omega) 
                      · skip
                        replace E := zIf_t c161 E
                        refine zg_aload_n X 5 rfl dX8_scan_151 ?_
                        refine fg_X8_13 X hI ha0 dX8_scan_152 (fun v164 ev164 hv164 => ?_)
                        replace E := zLet_s (zgr ev164) E
                        refine zg_aload_n X 5 rfl dX8_scan_155 ?_
                        refine fg_X8_23 X hI ha0 dX8_scan_156 (fun v165 ev165 hv165 => ?_)
                        replace E := zLet_s ev165 E
                        have mv165 : v165.toInt = v160.toInt := by rw [ev165, ← ev160]
                        refine zg_iconst X 1 dX8_scan_159 (by decide) (fun v166 _ hv166 => ?_)
                        replace E := zLet_s (zcst hv166 (by decide)) E
                        refine zg_isub X dX8_scan_160 (by omega) (by omega) (fun v167 ev167 hv167 => ?_)
                        replace E := zLet_s ev167 E
                        refine ag_41 X hI hv164 (by omega) (by omega) dX8_scan_161 (fun v168 ev168 _ => ?_)
                        replace E := zLet_s ev168 E
                        refine zg_bipush X 33 dX8_scan_162 (by decide) (fun v169 _ hv169 => ?_)
                        replace E := zLet_s (zcst hv169 (by decide)) E
                        have zv168_z170 := zb_rng v168
                        refine zg_icmp_ge X 171 dX8_scan_164 (by decide) (fun c171 => ?_) (fun c171 => ?_)
                        · skip
                          replace E := zIf_f (Int.not_lt.mpr c171) E
                          refine zg_iconst X 0 dX8_scan_171 (by decide) (fun v172 _ hv172 => ?_)
                          replace E := zLet_s (zcst hv172 (by decide)) E
                          refine zg_istore X [(4, .int v172), (3, .int v159), (7, .int v133), (6, .int v103), (5, .int x7), (0, .ref a0), (1, .ref p1), (2, .int p2)] dX8_scan_172 (by decide) rfl ?_
                          refine zg_iinc X 1 (fun v173 => [(5, .int v173), (4, .int v172), (3, .int v159), (7, .int v133), (6, .int v103), (0, .ref a0), (1, .ref p1), (2, .int p2)]) 4 dX8_scan_174 rfl (by decide) (by decide) (by omega) (by omega) (fun _ => rfl) (fun v173 ev173 hv173 => ?_)
                          replace E := zLet_s (zinc ev173 (by decide)) E
                          refine zg_goto X 13 dX8_scan_177 (by decide) ?_
                          refine zg_sub [0, 1, 2, 5, 6, 7] rfl ?_
                          exact ihLp10 _ v173 v172 v159 hI hS E  (by omega) (by omega) 
                        · skip
                          replace E := zIf_t c171 E
                          refine zg_iconst X 1 dX8_scan_167 (by decide) (fun v174 _ hv174 => ?_)
                          replace E := zLet_s (zcst hv174 (by decide)) E
                          refine zg_goto X 172 dX8_scan_168 (by decide) ?_
                          refine zg_istore X [(4, .int v174), (3, .int v159), (7, .int v133), (6, .int v103), (5, .int x7), (0, .ref a0), (1, .ref p1), (2, .int p2)] dX8_scan_172 (by decide) rfl ?_
                          refine zg_iinc X 1 (fun v175 => [(5, .int v175), (4, .int v174), (3, .int v159), (7, .int v133), (6, .int v103), (0, .ref a0), (1, .ref p1), (2, .int p2)]) 4 dX8_scan_174 rfl (by decide) (by decide) (by omega) (by omega) (fun _ => rfl) (fun v175 ev175 hv175 => ?_)
                          replace E := zLet_s (zinc ev175 (by decide)) E
                          refine zg_goto X 13 dX8_scan_177 (by decide) ?_
                          refine zg_sub [0, 1, 2, 5, 6, 7] rfl ?_
                          exact ihLp10 _ v175 v174 v159 hI hS E  (by omega) (by omega) 
                · skip
                  replace E := zIf_f c108 E
                  refine zg_aload_n X 4 rfl dX8_scan_90 ?_
                  refine zg_aload_n X 5 rfl dX8_scan_91 ?_
                  refine zg_iload_n X 6 rfl dX8_scan_92 ?_
                  refine zg_iload_n X 1 rfl dX8_scan_93 ?_
                  refine zg_cVi (As := [.ref p1, .int p2, .int v14]) (st := []) X ha0 rfl (by decide) rfl (t_X8_addDigits l d L kd κ b _ hI a0 ha0 p1 hp1 p2 v14 (by omega) (by omega)) mk_X8_63 mc_X8_addDigits mz_X8 mi_X8_addDigits ml_X8_addDigits (na := 3) ⟨md_X8.1, md_X8.2, by decide +kernel⟩ rfl ⟨by decide, by decide⟩ (Nat.le_of_ble_eq_true rfl) dX8_scan_94 (fun v176 s177 hq => ?_)
                  obtain ⟨hF, hS2, hI⟩ := hq
                  replace E := zLet2_s hF E
                  have hS := hS.tr hS2 rfl rfl
                  obtain ⟨hv176, hI⟩ := hI
                  refine zg_istore_n X [(3, .int v176), (6, .int v103), (5, .int x7), (4, .int x8), (0, .ref a0), (1, .ref p1), (2, .int p2)] dX8_scan_97 (by decide) rfl ?_
                  refine zg_goto X 144 dX8_scan_98 (by decide) ?_
                  refine zg_aload_n X 4 rfl dX8_scan_144 ?_
                  refine fg_X8_23 X hI ha0 dX8_scan_145 (fun v178 ev178 hv178 => ?_)
                  replace E := zLet_s ev178 E
                  refine zg_if_le X 171 dX8_scan_148 (by decide) (fun c179 => ?_) (fun c179 => ?_)
                  · skip
                    replace E := zIf_f (Int.not_lt.mpr c179) E
                    refine zg_iconst X 0 dX8_scan_171 (by decide) (fun v180 _ hv180 => ?_)
                    replace E := zLet_s (zcst hv180 (by decide)) E
                    refine zg_istore X [(4, .int v180), (3, .int v176), (6, .int v103), (5, .int x7), (0, .ref a0), (1, .ref p1), (2, .int p2)] dX8_scan_172 (by decide) rfl ?_
                    refine zg_iinc X 1 (fun v181 => [(5, .int v181), (4, .int v180), (3, .int v176), (6, .int v103), (0, .ref a0), (1, .ref p1), (2, .int p2)]) 3 dX8_scan_174 rfl (by decide) (by decide) (by omega) (by omega) (fun _ => rfl) (fun v181 ev181 hv181 => ?_)
                    replace E := zLet_s (zinc ev181 (by decide)) E
                    refine zg_goto X 13 dX8_scan_177 (by decide) ?_
                    refine zg_sub [0, 1, 2, 4, 5, 6] rfl ?_
                    exact ihLp10 _ v181 v180 v176 hI hS E  (by omega) (by omega) 
                  · skip
                    replace E := zIf_t c179 E
                    refine zg_aload_n X 4 rfl dX8_scan_151 ?_
                    refine fg_X8_13 X hI ha0 dX8_scan_152 (fun v182 ev182 hv182 => ?_)
                    replace E := zLet_s (zgr ev182) E
                    refine zg_aload_n X 4 rfl dX8_scan_155 ?_
                    refine fg_X8_23 X hI ha0 dX8_scan_156 (fun v183 ev183 hv183 => ?_)
                    replace E := zLet_s ev183 E
                    have mv183 : v183.toInt = v178.toInt := by rw [ev183, ← ev178]
                    refine zg_iconst X 1 dX8_scan_159 (by decide) (fun v184 _ hv184 => ?_)
                    replace E := zLet_s (zcst hv184 (by decide)) E
                    refine zg_isub X dX8_scan_160 (by omega) (by omega) (fun v185 ev185 hv185 => ?_)
                    replace E := zLet_s ev185 E
                    refine ag_41 X hI hv182 (by omega) (by omega) dX8_scan_161 (fun v186 ev186 _ => ?_)
                    replace E := zLet_s ev186 E
                    refine zg_bipush X 33 dX8_scan_162 (by decide) (fun v187 _ hv187 => ?_)
                    replace E := zLet_s (zcst hv187 (by decide)) E
                    have zv186_z188 := zb_rng v186
                    refine zg_icmp_ge X 171 dX8_scan_164 (by decide) (fun c189 => ?_) (fun c189 => ?_)
                    · skip
                      replace E := zIf_f (Int.not_lt.mpr c189) E
                      refine zg_iconst X 0 dX8_scan_171 (by decide) (fun v190 _ hv190 => ?_)
                      replace E := zLet_s (zcst hv190 (by decide)) E
                      refine zg_istore X [(4, .int v190), (3, .int v176), (6, .int v103), (5, .int x7), (0, .ref a0), (1, .ref p1), (2, .int p2)] dX8_scan_172 (by decide) rfl ?_
                      refine zg_iinc X 1 (fun v191 => [(5, .int v191), (4, .int v190), (3, .int v176), (6, .int v103), (0, .ref a0), (1, .ref p1), (2, .int p2)]) 3 dX8_scan_174 rfl (by decide) (by decide) (by omega) (by omega) (fun _ => rfl) (fun v191 ev191 hv191 => ?_)
                      replace E := zLet_s (zinc ev191 (by decide)) E
                      refine zg_goto X 13 dX8_scan_177 (by decide) ?_
                      refine zg_sub [0, 1, 2, 4, 5, 6] rfl ?_
                      exact ihLp10 _ v191 v190 v176 hI hS E  (by omega) (by omega) 
                    · skip
                      replace E := zIf_t c189 E
                      refine zg_iconst X 1 dX8_scan_167 (by decide) (fun v192 _ hv192 => ?_)
                      replace E := zLet_s (zcst hv192 (by decide)) E
                      refine zg_goto X 172 dX8_scan_168 (by decide) ?_
                      refine zg_istore X [(4, .int v192), (3, .int v176), (6, .int v103), (5, .int x7), (0, .ref a0), (1, .ref p1), (2, .int p2)] dX8_scan_172 (by decide) rfl ?_
                      refine zg_iinc X 1 (fun v193 => [(5, .int v193), (4, .int v192), (3, .int v176), (6, .int v103), (0, .ref a0), (1, .ref p1), (2, .int p2)]) 3 dX8_scan_174 rfl (by decide) (by decide) (by omega) (by omega) (fun _ => rfl) (fun v193 ev193 hv193 => ?_)
                      replace E := zLet_s (zinc ev193 (by decide)) E
                      refine zg_goto X 13 dX8_scan_177 (by decide) ?_
                      refine zg_sub [0, 1, 2, 4, 5, 6] rfl ?_
                      exact ihLp10 _ v193 v192 v176 hI hS E  (by omega) (by omega) 
              · skip
                replace E := zIf_f c106 E
                refine zg_aload_n X 4 rfl dX8_scan_71 ?_
                refine zg_aload_n X 5 rfl dX8_scan_72 ?_
                refine zg_iload_n X 6 rfl dX8_scan_73 ?_
                refine zg_iload_n X 1 rfl dX8_scan_74 ?_
                refine zg_cVi (As := [.ref p1, .int p2, .int v14]) (st := []) X ha0 rfl (by decide) rfl (t_X8_addLetters l d L kd κ b _ hI a0 ha0 p1 hp1 p2 v14 (by omega) (by omega)) mk_X8_57 mc_X8_addLetters mz_X8 mi_X8_addLetters ml_X8_addLetters (na := 3) ⟨md_X8.1, md_X8.2, by decide +kernel⟩ rfl ⟨by decide, by decide⟩ (Nat.le_of_ble_eq_true rfl) dX8_scan_75 (fun v194 s195 hq => ?_)
                obtain ⟨hF, hS2, hI⟩ := hq
                replace E := zLet2_s hF E
                have hS := hS.tr hS2 rfl rfl
                obtain ⟨hv194, hI⟩ := hI
                refine zg_istore_n X [(3, .int v194), (6, .int v103), (5, .int x7), (4, .int x8), (0, .ref a0), (1, .ref p1), (2, .int p2)] dX8_scan_78 (by decide) rfl ?_
                refine zg_goto X 144 dX8_scan_79 (by decide) ?_
                refine zg_aload_n X 4 rfl dX8_scan_144 ?_
                refine fg_X8_23 X hI ha0 dX8_scan_145 (fun v196 ev196 hv196 => ?_)
                replace E := zLet_s ev196 E
                refine zg_if_le X 171 dX8_scan_148 (by decide) (fun c197 => ?_) (fun c197 => ?_)
                · skip
                  replace E := zIf_f (Int.not_lt.mpr c197) E
                  refine zg_iconst X 0 dX8_scan_171 (by decide) (fun v198 _ hv198 => ?_)
                  replace E := zLet_s (zcst hv198 (by decide)) E
                  refine zg_istore X [(4, .int v198), (3, .int v194), (6, .int v103), (5, .int x7), (0, .ref a0), (1, .ref p1), (2, .int p2)] dX8_scan_172 (by decide) rfl ?_
                  refine zg_iinc X 1 (fun v199 => [(5, .int v199), (4, .int v198), (3, .int v194), (6, .int v103), (0, .ref a0), (1, .ref p1), (2, .int p2)]) 3 dX8_scan_174 rfl (by decide) (by decide) (by omega) (by omega) (fun _ => rfl) (fun v199 ev199 hv199 => ?_)
                  replace E := zLet_s (zinc ev199 (by decide)) E
                  refine zg_goto X 13 dX8_scan_177 (by decide) ?_
                  refine zg_sub [0, 1, 2, 4, 5, 6] rfl ?_
                  exact ihLp10 _ v199 v198 v194 hI hS E  (by omega) (by omega) 
                · skip
                  replace E := zIf_t c197 E
                  refine zg_aload_n X 4 rfl dX8_scan_151 ?_
                  refine fg_X8_13 X hI ha0 dX8_scan_152 (fun v200 ev200 hv200 => ?_)
                  replace E := zLet_s (zgr ev200) E
                  refine zg_aload_n X 4 rfl dX8_scan_155 ?_
                  refine fg_X8_23 X hI ha0 dX8_scan_156 (fun v201 ev201 hv201 => ?_)
                  replace E := zLet_s ev201 E
                  have mv201 : v201.toInt = v196.toInt := by rw [ev201, ← ev196]
                  refine zg_iconst X 1 dX8_scan_159 (by decide) (fun v202 _ hv202 => ?_)
                  replace E := zLet_s (zcst hv202 (by decide)) E
                  refine zg_isub X dX8_scan_160 (by omega) (by omega) (fun v203 ev203 hv203 => ?_)
                  replace E := zLet_s ev203 E
                  refine ag_41 X hI hv200 (by omega) (by omega) dX8_scan_161 (fun v204 ev204 _ => ?_)
                  replace E := zLet_s ev204 E
                  refine zg_bipush X 33 dX8_scan_162 (by decide) (fun v205 _ hv205 => ?_)
                  replace E := zLet_s (zcst hv205 (by decide)) E
                  have zv204_z206 := zb_rng v204
                  refine zg_icmp_ge X 171 dX8_scan_164 (by decide) (fun c207 => ?_) (fun c207 => ?_)
                  · skip
                    replace E := zIf_f (Int.not_lt.mpr c207) E
                    refine zg_iconst X 0 dX8_scan_171 (by decide) (fun v208 _ hv208 => ?_)
                    replace E := zLet_s (zcst hv208 (by decide)) E
                    refine zg_istore X [(4, .int v208), (3, .int v194), (6, .int v103), (5, .int x7), (0, .ref a0), (1, .ref p1), (2, .int p2)] dX8_scan_172 (by decide) rfl ?_
                    refine zg_iinc X 1 (fun v209 => [(5, .int v209), (4, .int v208), (3, .int v194), (6, .int v103), (0, .ref a0), (1, .ref p1), (2, .int p2)]) 3 dX8_scan_174 rfl (by decide) (by decide) (by omega) (by omega) (fun _ => rfl) (fun v209 ev209 hv209 => ?_)
                    replace E := zLet_s (zinc ev209 (by decide)) E
                    refine zg_goto X 13 dX8_scan_177 (by decide) ?_
                    refine zg_sub [0, 1, 2, 4, 5, 6] rfl ?_
                    exact ihLp10 _ v209 v208 v194 hI hS E  (by omega) (by omega) 
                  · skip
                    replace E := zIf_t c207 E
                    refine zg_iconst X 1 dX8_scan_167 (by decide) (fun v210 _ hv210 => ?_)
                    replace E := zLet_s (zcst hv210 (by decide)) E
                    refine zg_goto X 172 dX8_scan_168 (by decide) ?_
                    refine zg_istore X [(4, .int v210), (3, .int v194), (6, .int v103), (5, .int x7), (0, .ref a0), (1, .ref p1), (2, .int p2)] dX8_scan_172 (by decide) rfl ?_
                    refine zg_iinc X 1 (fun v211 => [(5, .int v211), (4, .int v210), (3, .int v194), (6, .int v103), (0, .ref a0), (1, .ref p1), (2, .int p2)]) 3 dX8_scan_174 rfl (by decide) (by decide) (by omega) (by omega) (fun _ => rfl) (fun v211 ev211 hv211 => ?_)
                    replace E := zLet_s (zinc ev211 (by decide)) E
                    refine zg_goto X 13 dX8_scan_177 (by decide) ?_
                    refine zg_sub [0, 1, 2, 4, 5, 6] rfl ?_
                    exact ihLp10 _ v211 v210 v194 hI hS E  (by omega) (by omega) 
            · skip
              replace E := zIf_f (Int.not_lt.mpr c104) E
              refine zg_aload_n X 4 rfl dX8_scan_52 ?_
              refine zg_bipush X 33 dX8_scan_53 (by decide) (fun v212 _ hv212 => ?_)
              replace E := zLet_s (zcst hv212 (by decide)) E
              refine zg_lconst X dX8_scan_55 (fun v213 ev213 => ?_)
              replace E := zLet_s ev213 E
              refine zg_iload_n X 6 rfl dX8_scan_56 ?_
              refine zg_cVv (As := [.int v212, .long v213, .int p2]) (st := []) X ha0 rfl (by decide) rfl (t_X8_add l d L kd κ b _ hI a0 ha0 v212 v213 p2 ) mk_X8_49 mc_X8_add mz_X8 mi_X8_add ml_X8_add (na := 3) ⟨md_X8.1, md_X8.2, by decide +kernel⟩ rfl ⟨by decide, by decide⟩ (Nat.le_of_ble_eq_true rfl) dX8_scan_57 (fun s214 hq => ?_)
              obtain ⟨hF, hS2, hI⟩ := hq
              replace E := zLet_s hF E
              have hS := hS.tr hS2 rfl rfl
              refine zg_goto X 144 dX8_scan_60 (by decide) ?_
              refine zg_aload_n X 4 rfl dX8_scan_144 ?_
              refine fg_X8_23 X hI ha0 dX8_scan_145 (fun v215 ev215 hv215 => ?_)
              replace E := zLet_s ev215 E
              refine zg_if_le X 171 dX8_scan_148 (by decide) (fun c216 => ?_) (fun c216 => ?_)
              · skip
                replace E := zIf_f (Int.not_lt.mpr c216) E
                refine zg_iconst X 0 dX8_scan_171 (by decide) (fun v217 _ hv217 => ?_)
                replace E := zLet_s (zcst hv217 (by decide)) E
                refine zg_istore X [(4, .int v217), (6, .int v103), (3, .int v14), (5, .int x7), (0, .ref a0), (1, .ref p1), (2, .int p2)] dX8_scan_172 (by decide) rfl ?_
                refine zg_iinc X 1 (fun v218 => [(5, .int v218), (4, .int v217), (6, .int v103), (3, .int v14), (0, .ref a0), (1, .ref p1), (2, .int p2)]) 3 dX8_scan_174 rfl (by decide) (by decide) (by omega) (by omega) (fun _ => rfl) (fun v218 ev218 hv218 => ?_)
                replace E := zLet_s (zinc ev218 (by decide)) E
                refine zg_goto X 13 dX8_scan_177 (by decide) ?_
                refine zg_sub [0, 1, 3, 4, 5, 6] rfl ?_
                exact ihLp10 _ v218 v217 v14 hI hS E  (by omega) (by omega) 
              · skip
                replace E := zIf_t c216 E
                refine zg_aload_n X 4 rfl dX8_scan_151 ?_
                refine fg_X8_13 X hI ha0 dX8_scan_152 (fun v219 ev219 hv219 => ?_)
                replace E := zLet_s (zgr ev219) E
                refine zg_aload_n X 4 rfl dX8_scan_155 ?_
                refine fg_X8_23 X hI ha0 dX8_scan_156 (fun v220 ev220 hv220 => ?_)
                replace E := zLet_s ev220 E
                have mv220 : v220.toInt = v215.toInt := by rw [ev220, ← ev215]
                refine zg_iconst X 1 dX8_scan_159 (by decide) (fun v221 _ hv221 => ?_)
                replace E := zLet_s (zcst hv221 (by decide)) E
                refine zg_isub X dX8_scan_160 (by omega) (by omega) (fun v222 ev222 hv222 => ?_)
                replace E := zLet_s ev222 E
                refine ag_41 X hI hv219 (by omega) (by omega) dX8_scan_161 (fun v223 ev223 _ => ?_)
                replace E := zLet_s ev223 E
                refine zg_bipush X 33 dX8_scan_162 (by decide) (fun v224 _ hv224 => ?_)
                replace E := zLet_s (zcst hv224 (by decide)) E
                have zv223_z225 := zb_rng v223
                refine zg_icmp_ge X 171 dX8_scan_164 (by decide) (fun c226 => ?_) (fun c226 => ?_)
                · skip
                  replace E := zIf_f (Int.not_lt.mpr c226) E
                  refine zg_iconst X 0 dX8_scan_171 (by decide) (fun v227 _ hv227 => ?_)
                  replace E := zLet_s (zcst hv227 (by decide)) E
                  refine zg_istore X [(4, .int v227), (6, .int v103), (3, .int v14), (5, .int x7), (0, .ref a0), (1, .ref p1), (2, .int p2)] dX8_scan_172 (by decide) rfl ?_
                  refine zg_iinc X 1 (fun v228 => [(5, .int v228), (4, .int v227), (6, .int v103), (3, .int v14), (0, .ref a0), (1, .ref p1), (2, .int p2)]) 3 dX8_scan_174 rfl (by decide) (by decide) (by omega) (by omega) (fun _ => rfl) (fun v228 ev228 hv228 => ?_)
                  replace E := zLet_s (zinc ev228 (by decide)) E
                  refine zg_goto X 13 dX8_scan_177 (by decide) ?_
                  refine zg_sub [0, 1, 3, 4, 5, 6] rfl ?_
                  exact ihLp10 _ v228 v227 v14 hI hS E  (by omega) (by omega) 
                · skip
                  replace E := zIf_t c226 E
                  refine zg_iconst X 1 dX8_scan_167 (by decide) (fun v229 _ hv229 => ?_)
                  replace E := zLet_s (zcst hv229 (by decide)) E
                  refine zg_goto X 172 dX8_scan_168 (by decide) ?_
                  refine zg_istore X [(4, .int v229), (6, .int v103), (3, .int v14), (5, .int x7), (0, .ref a0), (1, .ref p1), (2, .int p2)] dX8_scan_172 (by decide) rfl ?_
                  refine zg_iinc X 1 (fun v230 => [(5, .int v230), (4, .int v229), (6, .int v103), (3, .int v14), (0, .ref a0), (1, .ref p1), (2, .int p2)]) 3 dX8_scan_174 rfl (by decide) (by decide) (by omega) (by omega) (fun _ => rfl) (fun v230 ev230 hv230 => ?_)
                  replace E := zLet_s (zinc ev230 (by decide)) E
                  refine zg_goto X 13 dX8_scan_177 (by decide) ?_
                  refine zg_sub [0, 1, 3, 4, 5, 6] rfl ?_
                  exact ihLp10 _ v230 v229 v14 hI hS E  (by omega) (by omega) 
  refine zg_sub [0, 1, 2, 3, 4, 5] rfl ?_
  exact Lp10 10000 _ v6 v5 v4 hI hS E  (by omega) (by omega) 
set_option maxHeartbeats 4000000 in
set_option maxRecDepth 100000 in
theorem t_X3_goTo (l : Launch) (d : zD2) (L : List Nat) (kd : Nat → Nat) (κ : Int) (b : Nat) (σ : zS) (hI : zI κ b L kd σ) (a0 : Nat) (ha0 : zT L kd a0 3) (p1 : Int32) : zMv l yX3_goTo (Cond.code yX3_goTo cX3_goTo 3 none :: zWL) 0 [.ref a0, .int p1] d L kd σ (fun σ2 => σ2 = F_X3_goTo a0 p1 σ ∧ zSm [3] [] L kd σ σ2 ∧ (zI κ b L kd σ2)) := by
  refine zMv.of (own := RX3) (by decide +kernel) rfl rfl (Nat.le_of_ble_eq_true rfl) ?_
  intro p e s m args below meth c A Q X ret
  refine zg_lv (lv2 := [(0, .ref a0), (1, .int p1)]) rfl ?_
  obtain ⟨R, hR⟩ : ∃ R, R = F_X3_goTo a0 p1 σ := ⟨_, rfl⟩
  have E := hR
  unfold F_X3_goTo at E
  have hS : zSm [3] [] L kd σ σ := zSm.rf
  refine zg_iload_n X 1 rfl dX3_goTo_0 ?_
  refine zg_if_lt X 19 dX3_goTo_1 (by decide) (fun c1 => ?_) (fun c1 => ?_)
  · skip
    replace E := zIf_t c1 E
    refine zg_iconst X 0 dX3_goTo_19 (by decide) (fun v2 _ hv2 => ?_)
    replace E := zLet_s (zcst hv2 (by decide)) E
    refine zg_istore_n X [(2, .int v2), (0, .ref a0), (1, .int p1)] dX3_goTo_20 (by decide) rfl ?_
    refine zg_aload_n X 1 rfl dX3_goTo_21 ?_
    refine zg_iload_n X 2 rfl dX3_goTo_22 ?_
    refine fp_X3_22 X hI ha0 (zb_rng _) dX3_goTo_23 (fun s3 es3 hI => ?_)
    replace E := zLet_s es3 E
    have hS := hS.i ha0 es3 rfl
    refine zg_aload_n X 1 rfl dX3_goTo_26 ?_
    refine zg_iload_n X 0 rfl dX3_goTo_27 ?_
    refine zg_if_eq X 43 dX3_goTo_28 (by decide) (fun c4 => ?_) (fun c4 => ?_)
    · skip
      replace E := zIf_t c4 E
      refine zg_bipush X 34 dX3_goTo_43 (by decide) (fun v5 _ hv5 => ?_)
      replace E := zLet_s (zcst hv5 (by decide)) E
      refine fp_X3_26 X hI ha0 (zb_rng _) dX3_goTo_45 (fun s6 es6 hI => ?_)
      replace E := zLet_s es6 E
      have hS := hS.i ha0 es6 rfl
      refine zg_aload_n X 1 rfl dX3_goTo_48 ?_
      refine zg_iload_n X 0 rfl dX3_goTo_49 ?_
      refine zg_if_eq X 65 dX3_goTo_50 (by decide) (fun c7 => ?_) (fun c7 => ?_)
      · skip
        replace E := zIf_t c7 E
        refine zg_lconst X dX3_goTo_65 (fun v8 ev8 => ?_)
        replace E := zLet_s ev8 E
        refine fp_X3_29 X hI ha0 dX3_goTo_66 (fun s9 es9 hI => ?_)
        replace E := zLet_s es9 E
        have hS := hS.l ha0 es9 rfl
        refine zg_aload_n X 1 rfl dX3_goTo_69 ?_
        refine zg_iload_n X 0 rfl dX3_goTo_70 ?_
        refine zg_if_eq X 86 dX3_goTo_71 (by decide) (fun c10 => ?_) (fun c10 => ?_)
        · skip
          replace E := zIf_t c10 E
          refine zg_iconst X (-1) dX3_goTo_86 (by decide) (fun v11 _ hv11 => ?_)
          replace E := zLet_s (zcst hv11 (by decide)) E
          refine fp_X3_33 X hI ha0 (zb_rng _) dX3_goTo_87 (fun s12 es12 hI => ?_)
          replace E := zLet_s es12 E
          have hS := hS.i ha0 es12 rfl
          exact ret _ _ _ dX3_goTo_90 ⟨E.symm.trans hR, hS, hI⟩
        · omega
      · omega
    · omega
  · skip
    replace E := zIf_f (Int.not_lt.mpr c1) E
    refine zg_iload_n X 1 rfl dX3_goTo_4 ?_
    refine zg_aload_n X 0 rfl dX3_goTo_5 ?_
    refine fg_X3_12 X hI ha0 dX3_goTo_6 (fun v13 ev13 hv13 => ?_)
    replace E := zLet_s (zgr ev13) E
    refine fg_X3_162 X hI hv13 dX3_goTo_9 (fun v14 ev14 hv14 => ?_)
    replace E := zLet_s ev14 E
    have zp1_z15 := zb_rng p1
    refine zg_icmp_ge X 19 dX3_goTo_12 (by decide) (fun c16 => ?_) (fun c16 => ?_)
    · skip
      replace E := zIf_f (Int.not_lt.mpr c16) E
      refine zg_iconst X 0 dX3_goTo_19 (by decide) (fun v17 _ hv17 => ?_)
      replace E := zLet_s (zcst hv17 (by decide)) E
      refine zg_istore_n X [(2, .int v17), (0, .ref a0), (1, .int p1)] dX3_goTo_20 (by decide) rfl ?_
      refine zg_aload_n X 1 rfl dX3_goTo_21 ?_
      refine zg_iload_n X 2 rfl dX3_goTo_22 ?_
      refine fp_X3_22 X hI ha0 (zb_rng _) dX3_goTo_23 (fun s18 es18 hI => ?_)
      replace E := zLet_s es18 E
      have hS := hS.i ha0 es18 rfl
      refine zg_aload_n X 1 rfl dX3_goTo_26 ?_
      refine zg_iload_n X 0 rfl dX3_goTo_27 ?_
      refine zg_if_eq X 43 dX3_goTo_28 (by decide) (fun c19 => ?_) (fun c19 => ?_)
      · skip
        replace E := zIf_t c19 E
        refine zg_bipush X 34 dX3_goTo_43 (by decide) (fun v20 _ hv20 => ?_)
        replace E := zLet_s (zcst hv20 (by decide)) E
        refine fp_X3_26 X hI ha0 (zb_rng _) dX3_goTo_45 (fun s21 es21 hI => ?_)
        replace E := zLet_s es21 E
        have hS := hS.i ha0 es21 rfl
        refine zg_aload_n X 1 rfl dX3_goTo_48 ?_
        refine zg_iload_n X 0 rfl dX3_goTo_49 ?_
        refine zg_if_eq X 65 dX3_goTo_50 (by decide) (fun c22 => ?_) (fun c22 => ?_)
        · skip
          replace E := zIf_t c22 E
          refine zg_lconst X dX3_goTo_65 (fun v23 ev23 => ?_)
          replace E := zLet_s ev23 E
          refine fp_X3_29 X hI ha0 dX3_goTo_66 (fun s24 es24 hI => ?_)
          replace E := zLet_s es24 E
          have hS := hS.l ha0 es24 rfl
          refine zg_aload_n X 1 rfl dX3_goTo_69 ?_
          refine zg_iload_n X 0 rfl dX3_goTo_70 ?_
          refine zg_if_eq X 86 dX3_goTo_71 (by decide) (fun c25 => ?_) (fun c25 => ?_)
          · skip
            replace E := zIf_t c25 E
            refine zg_iconst X (-1) dX3_goTo_86 (by decide) (fun v26 _ hv26 => ?_)
            replace E := zLet_s (zcst hv26 (by decide)) E
            refine fp_X3_33 X hI ha0 (zb_rng _) dX3_goTo_87 (fun s27 es27 hI => ?_)
            replace E := zLet_s es27 E
            have hS := hS.i ha0 es27 rfl
            exact ret _ _ _ dX3_goTo_90 ⟨E.symm.trans hR, hS, hI⟩
          · omega
        · omega
      · omega
    · skip
      replace E := zIf_t c16 E
      refine zg_iconst X 1 dX3_goTo_15 (by decide) (fun v28 _ hv28 => ?_)
      replace E := zLet_s (zcst hv28 (by decide)) E
      refine zg_goto X 20 dX3_goTo_16 (by decide) ?_
      refine zg_istore_n X [(2, .int v28), (0, .ref a0), (1, .int p1)] dX3_goTo_20 (by decide) rfl ?_
      refine zg_aload_n X 1 rfl dX3_goTo_21 ?_
      refine zg_iload_n X 2 rfl dX3_goTo_22 ?_
      refine fp_X3_22 X hI ha0 (zb_rng _) dX3_goTo_23 (fun s29 es29 hI => ?_)
      replace E := zLet_s es29 E
      have hS := hS.i ha0 es29 rfl
      refine zg_aload_n X 1 rfl dX3_goTo_26 ?_
      refine zg_iload_n X 0 rfl dX3_goTo_27 ?_
      refine zg_if_eq X 43 dX3_goTo_28 (by decide) (fun c30 => ?_) (fun c30 => ?_)
      · omega
      · skip
        replace E := zIf_f c30 E
        refine zg_aload_n X 1 rfl dX3_goTo_31 ?_
        refine fg_X3_12 X hI ha0 dX3_goTo_32 (fun v31 ev31 hv31 => ?_)
        replace E := zLet_s (zgr ev31) E
        refine fg_X3_163 X hI hv31 dX3_goTo_35 (fun v32 ev32 hv32 => ?_)
        replace E := zLet_s (zgr ev32) E
        refine zg_iload_n X 2 rfl dX3_goTo_38 ?_
        refine ag_41 X hI hv32 (by omega) (by omega) dX3_goTo_39 (fun v33 ev33 _ => ?_)
        replace E := zLet_s ev33 E
        refine zg_goto X 45 dX3_goTo_40 (by decide) ?_
        refine fp_X3_26 X hI ha0 (zb_rng _) dX3_goTo_45 (fun s34 es34 hI => ?_)
        replace E := zLet_s es34 E
        have hS := hS.i ha0 es34 rfl
        refine zg_aload_n X 1 rfl dX3_goTo_48 ?_
        refine zg_iload_n X 0 rfl dX3_goTo_49 ?_
        refine zg_if_eq X 65 dX3_goTo_50 (by decide) (fun c35 => ?_) (fun c35 => ?_)
        · omega
        · skip
          replace E := zIf_f c35 E
          refine zg_aload_n X 1 rfl dX3_goTo_53 ?_
          refine fg_X3_12 X hI ha0 dX3_goTo_54 (fun v36 ev36 hv36 => ?_)
          replace E := zLet_s (zgr ev36) E
          refine fg_X3_166 X hI hv36 dX3_goTo_57 (fun v37 ev37 hv37 => ?_)
          replace E := zLet_s (zgr ev37) E
          refine zg_iload_n X 2 rfl dX3_goTo_60 ?_
          refine ag_42 X hv37 (by omega) (by omega) dX3_goTo_61 (fun v38 ev38 => ?_)
          replace E := zLet_s ev38 E
          refine zg_goto X 66 dX3_goTo_62 (by decide) ?_
          refine fp_X3_29 X hI ha0 dX3_goTo_66 (fun s39 es39 hI => ?_)
          replace E := zLet_s es39 E
          have hS := hS.l ha0 es39 rfl
          refine zg_aload_n X 1 rfl dX3_goTo_69 ?_
          refine zg_iload_n X 0 rfl dX3_goTo_70 ?_
          refine zg_if_eq X 86 dX3_goTo_71 (by decide) (fun c40 => ?_) (fun c40 => ?_)
          · omega
          · skip
            replace E := zIf_f c40 E
            refine zg_aload_n X 1 rfl dX3_goTo_74 ?_
            refine fg_X3_12 X hI ha0 dX3_goTo_75 (fun v41 ev41 hv41 => ?_)
            replace E := zLet_s (zgr ev41) E
            refine fg_X3_169 X hI hv41 dX3_goTo_78 (fun v42 ev42 hv42 => ?_)
            replace E := zLet_s (zgr ev42) E
            refine zg_iload_n X 2 rfl dX3_goTo_81 ?_
            refine ag_43 X hI hv42 (by omega) (by omega) dX3_goTo_82 (fun v43 ev43 _ => ?_)
            replace E := zLet_s ev43 E
            refine zg_goto X 87 dX3_goTo_83 (by decide) ?_
            refine fp_X3_33 X hI ha0 (zb_rng _) dX3_goTo_87 (fun s44 es44 hI => ?_)
            replace E := zLet_s es44 E
            have hS := hS.i ha0 es44 rfl
            exact ret _ _ _ dX3_goTo_90 ⟨E.symm.trans hR, hS, hI⟩
set_option maxHeartbeats 4000000 in
set_option maxRecDepth 100000 in
theorem t_X3_fail (l : Launch) (d : zD2) (L : List Nat) (kd : Nat → Nat) (κ : Int) (b : Nat) (σ : zS) (hI : zI κ b L kd σ) (a0 : Nat) (ha0 : zT L kd a0 3) (p1 : Int32) : zMv l yX3_fail (Cond.code yX3_fail cX3_fail 2 none :: zWL) 0 [.ref a0, .int p1] d L kd σ (fun σ2 => σ2 = F_X3_fail a0 p1 σ ∧ zSm [3] [] L kd σ σ2 ∧ (zI κ b L kd σ2)) := by
  refine zMv.of (own := RX3) (by decide +kernel) rfl rfl (Nat.le_of_ble_eq_true rfl) ?_
  intro p e s m args below meth c A Q X ret
  refine zg_lv (lv2 := [(0, .ref a0), (1, .int p1)]) rfl ?_
  obtain ⟨R, hR⟩ : ∃ R, R = F_X3_fail a0 p1 σ := ⟨_, rfl⟩
  have E := hR
  unfold F_X3_fail at E
  have hS : zSm [3] [] L kd σ σ := zSm.rf
  refine zg_aload_n X 0 rfl dX3_fail_0 ?_
  refine fg_X3_43 X hI ha0 dX3_fail_1 (fun v1 ev1 _ => ?_)
  replace E := zLet_s ev1 E
  refine zg_if_ne X 26 dX3_fail_4 (by decide) (fun c2 => ?_) (fun c2 => ?_)
  · skip
    replace E := zIf_f c2 E
    exact ret _ _ _ dX3_fail_26 ⟨E.symm.trans hR, hS, hI⟩
  · skip
    replace E := zIf_t c2 E
    refine zg_aload_n X 0 rfl dX3_fail_7 ?_
    refine zg_iload_n X 1 rfl dX3_fail_8 ?_
    refine fp_X3_43 X hI ha0 (zb_rng _) dX3_fail_9 (fun s3 es3 hI => ?_)
    replace E := zLet_s es3 E
    have hS := hS.i ha0 es3 rfl
    refine zg_aload_n X 0 rfl dX3_fail_12 ?_
    refine zg_aload_n X 0 rfl dX3_fail_13 ?_
    refine fg_X3_33 X hI ha0 dX3_fail_14 (fun v4 ev4 _ => ?_)
    replace E := zLet_s ev4 E
    refine fp_X3_46 X hI ha0 (zb_rng _) dX3_fail_17 (fun s5 es5 hI => ?_)
    replace E := zLet_s es5 E
    have hS := hS.i ha0 es5 rfl
    refine zg_aload_n X 0 rfl dX3_fail_20 ?_
    refine zg_bipush X 34 dX3_fail_21 (by decide) (fun v6 _ hv6 => ?_)
    replace E := zLet_s (zcst hv6 (by decide)) E
    refine fp_X3_26 X hI ha0 (zb_rng _) dX3_fail_23 (fun s7 es7 hI => ?_)
    replace E := zLet_s es7 E
    have hS := hS.i ha0 es7 rfl
    exact ret _ _ _ dX3_fail_26 ⟨E.symm.trans hR, hS, hI⟩
set_option maxHeartbeats 4000000 in
set_option maxRecDepth 100000 in
theorem t_X3_failLate (l : Launch) (d : zD2) (L : List Nat) (kd : Nat → Nat) (κ : Int) (b : Nat) (σ : zS) (hI : zI κ b L kd σ) (a0 : Nat) (ha0 : zT L kd a0 3) (p1 : Int32) : zMv l yX3_failLate (Cond.code yX3_failLate cX3_failLate 2 none :: zWL) 0 [.ref a0, .int p1] d L kd σ (fun σ2 => σ2 = F_X3_failLate a0 p1 σ ∧ zSm [3] [] L kd σ σ2 ∧ (zI κ b L kd σ2)) := by
  refine zMv.of (own := RX3) (by decide +kernel) rfl rfl (Nat.le_of_ble_eq_true rfl) ?_
  intro p e s m args below meth c A Q X ret
  refine zg_lv (lv2 := [(0, .ref a0), (1, .int p1)]) rfl ?_
  obtain ⟨R, hR⟩ : ∃ R, R = F_X3_failLate a0 p1 σ := ⟨_, rfl⟩
  have E := hR
  unfold F_X3_failLate at E
  have hS : zSm [3] [] L kd σ σ := zSm.rf
  refine zg_aload_n X 0 rfl dX3_failLate_0 ?_
  refine fg_X3_49 X hI ha0 dX3_failLate_1 (fun v1 ev1 _ => ?_)
  replace E := zLet_s ev1 E
  refine zg_if_ne X 20 dX3_failLate_4 (by decide) (fun c2 => ?_) (fun c2 => ?_)
  · skip
    replace E := zIf_f c2 E
    exact ret _ _ _ dX3_failLate_20 ⟨E.symm.trans hR, hS, hI⟩
  · skip
    replace E := zIf_t c2 E
    refine zg_aload_n X 0 rfl dX3_failLate_7 ?_
    refine zg_iload_n X 1 rfl dX3_failLate_8 ?_
    refine fp_X3_49 X hI ha0 (zb_rng _) dX3_failLate_9 (fun s3 es3 hI => ?_)
    replace E := zLet_s es3 E
    have hS := hS.i ha0 es3 rfl
    refine zg_aload_n X 0 rfl dX3_failLate_12 ?_
    refine zg_aload_n X 0 rfl dX3_failLate_13 ?_
    refine fg_X3_33 X hI ha0 dX3_failLate_14 (fun v4 ev4 _ => ?_)
    replace E := zLet_s ev4 E
    refine fp_X3_52 X hI ha0 (zb_rng _) dX3_failLate_17 (fun s5 es5 hI => ?_)
    replace E := zLet_s es5 E
    have hS := hS.i ha0 es5 rfl
    exact ret _ _ _ dX3_failLate_20 ⟨E.symm.trans hR, hS, hI⟩
set_option maxHeartbeats 4000000 in
set_option maxRecDepth 100000 in
theorem t_X3_take (l : Launch) (d : zD2) (L : List Nat) (kd : Nat → Nat) (κ : Int) (b : Nat) (σ : zS) (hI : zI κ b L kd σ) (a0 : Nat) (ha0 : zT L kd a0 3) (p1 : Int32) : zMv l yX3_take (Cond.code yX3_take cX3_take 2 none :: zWL) 1 [.ref a0, .int p1] d L kd σ (fun σ2 => σ2 = F_X3_take a0 p1 σ ∧ zSm [3] [] L kd σ σ2 ∧ (zI κ b L kd σ2)) := by
  refine zMv.of (own := RX3) (by decide +kernel) rfl rfl (Nat.le_of_ble_eq_true rfl) ?_
  intro p e s m args below meth c A Q X ret
  refine zg_lv (lv2 := [(0, .ref a0), (1, .int p1)]) rfl ?_
  obtain ⟨R, hR⟩ : ∃ R, R = F_X3_take a0 p1 σ := ⟨_, rfl⟩
  have E := hR
  unfold F_X3_take at E
  have hS : zSm [3] [] L kd σ σ := zSm.rf
  refine zg_aload_n X 0 rfl dX3_take_0 ?_
  refine fg_X3_26 X hI ha0 dX3_take_1 (fun v1 ev1 _ => ?_)
  replace E := zLet_s ev1 E
  refine zg_iload_n X 1 rfl dX3_take_4 ?_
  refine zg_icmp_eq X 16 dX3_take_5 (by decide) (fun c2 => ?_) (fun c2 => ?_)
  · skip
    replace E := zIf_t c2 E
    refine zg_aload_n X 0 rfl dX3_take_16 ?_
    refine fg_X3_22 X hI ha0 dX3_take_17 (fun v3 ev3 _ => ?_)
    replace E := zLet_s ev3 E
    refine zg_sipush X 400 dX3_take_20 (by decide) (fun v4 _ hv4 => ?_)
    replace E := zLet_s (zcst hv4 (by decide)) E
    have zv3_z5 := zb_rng v3
    refine zg_icmp_lt X 34 dX3_take_23 (by decide) (fun c6 => ?_) (fun c6 => ?_)
    · skip
      replace E := zIf_t c6 E
      refine zg_aload_n X 0 rfl dX3_take_34 ?_
      refine zg_aload_n X 0 rfl dX3_take_35 ?_
      refine fg_X3_22 X hI ha0 dX3_take_36 (fun v7 ev7 _ => ?_)
      replace E := zLet_s ev7 E
      have mv7 : v7.toInt = v3.toInt := by rw [ev7, ← ev3]
      refine zg_iconst X 1 dX3_take_39 (by decide) (fun v8 _ hv8 => ?_)
      replace E := zLet_s (zcst hv8 (by decide)) E
      refine zg_iadd X dX3_take_40 (by omega) (by omega) (fun v9 ev9 hv9 => ?_)
      replace E := zLet_s ev9 E
      refine zg_cVv (As := [.int v9]) (st := []) X ha0 rfl (by decide) rfl (t_X3_goTo l d L kd κ b _ hI a0 ha0 v9 ) mk_X3_64 mc_X3_goTo mz_X3 mi_X3_goTo ml_X3_goTo (na := 1) ⟨md_X3.1, md_X3.2, by decide +kernel⟩ rfl ⟨by decide, by decide⟩ (Nat.le_of_ble_eq_true rfl) dX3_take_41 (fun s10 hq => ?_)
      obtain ⟨hF, hS2, hI⟩ := hq
      replace E := zLet_s hF E
      have hS := hS.tr hS2 rfl rfl
      exact ret _ _ _ dX3_take_44 ⟨E.symm.trans hR, hS, hI⟩
    · skip
      replace E := zIf_f (Int.not_lt.mpr c6) E
      refine zg_aload_n X 0 rfl dX3_take_26 ?_
      refine zg_iconst X 2 dX3_take_27 (by decide) (fun v11 _ hv11 => ?_)
      replace E := zLet_s (zcst hv11 (by decide)) E
      refine zg_cVv (As := [.int v11]) (st := []) X ha0 rfl (by decide) rfl (t_X3_fail l d L kd κ b _ hI a0 ha0 v11 ) mk_X3_106 mc_X3_fail mz_X3 mi_X3_fail ml_X3_fail (na := 1) ⟨md_X3.1, md_X3.2, by decide +kernel⟩ rfl ⟨by decide, by decide⟩ (Nat.le_of_ble_eq_true rfl) dX3_take_28 (fun s12 hq => ?_)
      obtain ⟨hF, hS2, hI⟩ := hq
      replace E := zLet_s hF E
      have hS := hS.tr hS2 rfl rfl
      refine zg_goto X 44 dX3_take_31 (by decide) ?_
      exact ret _ _ _ dX3_take_44 ⟨E.symm.trans hR, hS, hI⟩
  · skip
    replace E := zIf_f c2 E
    refine zg_aload_n X 0 rfl dX3_take_8 ?_
    refine zg_iconst X 1 dX3_take_9 (by decide) (fun v13 _ hv13 => ?_)
    replace E := zLet_s (zcst hv13 (by decide)) E
    refine zg_cVv (As := [.int v13]) (st := []) X ha0 rfl (by decide) rfl (t_X3_fail l d L kd κ b _ hI a0 ha0 v13 ) mk_X3_106 mc_X3_fail mz_X3 mi_X3_fail ml_X3_fail (na := 1) ⟨md_X3.1, md_X3.2, by decide +kernel⟩ rfl ⟨by decide, by decide⟩ (Nat.le_of_ble_eq_true rfl) dX3_take_10 (fun s14 hq => ?_)
    obtain ⟨hF, hS2, hI⟩ := hq
    replace E := zLet_s hF E
    have hS := hS.tr hS2 rfl rfl
    refine zg_goto X 44 dX3_take_13 (by decide) ?_
    exact ret _ _ _ dX3_take_44 ⟨E.symm.trans hR, hS, hI⟩
set_option maxHeartbeats 4000000 in
set_option maxRecDepth 100000 in
theorem t_X3_placeNamed (l : Launch) (d : zD2) (L : List Nat) (kd : Nat → Nat) (κ : Int) (σ : zS) (hI : zI κ 2 L kd σ) (a0 : Nat) (ha0 : zT L kd a0 3) (p1 : Int64) : zMi l yX3_placeNamed (Cond.code yX3_placeNamed cX3_placeNamed 4 (some .int) :: zWL) 0 [.ref a0, .long p1] d L kd σ (fun v σ2 => (v, σ2) = F_X3_placeNamed a0 p1 σ ∧ zSm [] [] L kd σ σ2 ∧ (((-1) ≤ v.toInt ∧ v.toInt ≤ 11) ∧ zI κ 2 L kd σ2)) := by
  refine zMi.of (own := RX3) (by decide +kernel) rfl rfl (Nat.le_of_ble_eq_true rfl) ?_
  intro p e s m args below meth c A Q X ret
  refine zg_lv (lv2 := [(0, .ref a0), (1, .long p1)]) rfl ?_
  obtain ⟨R, hR⟩ : ∃ R, R = F_X3_placeNamed a0 p1 σ := ⟨_, rfl⟩
  have E := hR
  unfold F_X3_placeNamed at E
  have hS : zSm [] [] L kd σ σ := zSm.rf
  refine zg_aload_n X 0 rfl dX3_placeNamed_0 ?_
  refine fg_X3_36 X hI ha0 dX3_placeNamed_1 (fun v1 ev1 hv1 => ?_)
  replace E := zLet_s ev1 E
  refine zg_if_eq X 11 dX3_placeNamed_4 (by decide) (fun c2 => ?_) (fun c2 => ?_)
  · skip
    replace E := zIf_t c2 E
    refine zg_iconst X 1 dX3_placeNamed_11 (by decide) (fun v3 _ hv3 => ?_)
    replace E := zLet_s (zcst hv3 (by decide)) E
    refine zg_istore_n X [(3, .int v3), (0, .ref a0), (1, .long p1)] dX3_placeNamed_12 (by decide) rfl ?_
    have Lp5 : ∀ (nLp5 : Nat) (τ5 : zS) (x4 : Int32), zI κ 2 L kd τ5 → zSm [] [] L kd σ τ5 → R = F_X3_placeNamed_13 a0 p1  nLp5 x4 τ5 → 1 ≤ x4.toInt ∧ x4.toInt ≤ 12 → (12) - x4.toInt + 1 < (nLp5 : Int) → zG d L kd A 4 p l e (k2_rm 0 (100 * 0)) s m args below meth c Q τ5 13 [(3, .int x4), (0, .ref a0), (1, .long p1)] [] := by
      intro nLp5
      induction nLp5 with
      | zero => intro τ5 x4 hI hS E  hxLp5 hm ; exact absurd hm (by omega)
      | succ nLp5 ihLp5 =>
        intro τ5 x4 hI hS E  hxLp5 hmLp5 
        rw [F_X3_placeNamed_13] at E
        refine zg_iload_n X 0 rfl dX3_placeNamed_13 ?_
        refine zg_aload_n X 1 rfl dX3_placeNamed_14 ?_
        refine fg_X3_40 X hI ha0 dX3_placeNamed_15 (fun v6 ev6 hv6 => ?_)
        replace E := zLet_s ev6 E
        refine zg_icmp_gt X 49 dX3_placeNamed_18 (by decide) (fun c7 => ?_) (fun c7 => ?_)
        · skip
          replace E := zIf_t c7 E
          refine zg_iconst X (-1) dX3_placeNamed_49 (by decide) (fun v8 _ hv8 => ?_)
          replace E := zLet_s (zcst hv8 (by decide)) E
          exact ret _ _ _ _ dX3_placeNamed_50 rfl ⟨E.symm.trans hR, hS, ⟨⟨by omega, by omega⟩, hI⟩⟩
        · skip
          replace E := zIf_f (Int.not_lt.mpr c7) E
          refine zg_iload_n X 0 rfl dX3_placeNamed_21 ?_
          refine zg_bipush X 12 dX3_placeNamed_22 (by decide) (fun v9 _ hv9 => ?_)
          replace E := zLet_s (zcst hv9 (by decide)) E
          refine zg_icmp_ge X 49 dX3_placeNamed_24 (by decide) (fun c10 => ?_) (fun c10 => ?_)
          · omega
          · skip
            replace E := zIf_t c10 E
            refine zg_aload_n X 1 rfl dX3_placeNamed_27 ?_
            refine fg_X3_18 X hI ha0 dX3_placeNamed_28 (fun v11 ev11 hv11 => ?_)
            replace E := zLet_s (zgr ev11) E
            refine fg_X3_113 X hI hv11 dX3_placeNamed_31 (fun v12 ev12 hv12 => ?_)
            replace E := zLet_s (zgr ev12) E
            refine zg_iload_n X 0 rfl dX3_placeNamed_34 ?_
            refine ag_44 X hv12 (by omega) (by omega) dX3_placeNamed_35 (fun v13 ev13 => ?_)
            replace E := zLet_s ev13 E
            refine zg_lload_n X 2 rfl dX3_placeNamed_36 ?_
            refine zg_lcmp X dX3_placeNamed_37 (fun v14 ev14 => ?_)
            replace E := zLet_s ev14 E
            refine zg_if_ne X 43 dX3_placeNamed_38 (by decide) (fun c15 => ?_) (fun c15 => ?_)
            · skip
              replace E := zIf_f c15 E
              refine zg_iinc X 1 (fun v16 => [(3, .int v16), (0, .ref a0), (1, .long p1)]) 0 dX3_placeNamed_43 rfl (by decide) (by decide) (by omega) (by omega) (fun _ => rfl) (fun v16 ev16 hv16 => ?_)
              replace E := zLet_s (zinc ev16 (by decide)) E
              refine zg_goto X 13 dX3_placeNamed_46 (by decide) ?_
              refine zg_sub [0, 1, 2] rfl ?_
              exact ihLp5 _ v16 hI hS E  (by omega) (by omega) 
            · skip
              replace E := zIf_t c15 E
              refine zg_iload_n X 0 rfl dX3_placeNamed_41 ?_
              exact ret _ _ _ _ dX3_placeNamed_42 rfl ⟨E.symm.trans hR, hS, ⟨⟨by omega, by omega⟩, hI⟩⟩
    refine zg_sub [0, 1, 2] rfl ?_
    exact Lp5 10000 _ v3 hI hS E  (by omega) (by omega) 
  · skip
    replace E := zIf_f c2 E
    refine zg_iconst X 0 dX3_placeNamed_7 (by decide) (fun v17 _ hv17 => ?_)
    replace E := zLet_s (zcst hv17 (by decide)) E
    refine zg_goto X 12 dX3_placeNamed_8 (by decide) ?_
    refine zg_istore_n X [(3, .int v17), (0, .ref a0), (1, .long p1)] dX3_placeNamed_12 (by decide) rfl ?_
    have Lp19 : ∀ (nLp19 : Nat) (τ19 : zS) (x18 : Int32), zI κ 2 L kd τ19 → zSm [] [] L kd σ τ19 → R = F_X3_placeNamed_13_1 a0 p1  nLp19 x18 τ19 → 0 ≤ x18.toInt ∧ x18.toInt ≤ 12 → (12) - x18.toInt + 1 < (nLp19 : Int) → zG d L kd A 4 p l e (k2_rm 0 (100 * 0)) s m args below meth c Q τ19 13 [(3, .int x18), (0, .ref a0), (1, .long p1)] [] := by
      intro nLp19
      induction nLp19 with
      | zero => intro τ19 x18 hI hS E  hxLp19 hm ; exact absurd hm (by omega)
      | succ nLp19 ihLp19 =>
        intro τ19 x18 hI hS E  hxLp19 hmLp19 
        rw [F_X3_placeNamed_13_1] at E
        refine zg_iload_n X 0 rfl dX3_placeNamed_13 ?_
        refine zg_aload_n X 1 rfl dX3_placeNamed_14 ?_
        refine fg_X3_40 X hI ha0 dX3_placeNamed_15 (fun v20 ev20 hv20 => ?_)
        replace E := zLet_s ev20 E
        refine zg_icmp_gt X 49 dX3_placeNamed_18 (by decide) (fun c21 => ?_) (fun c21 => ?_)
        · skip
          replace E := zIf_t c21 E
          refine zg_iconst X (-1) dX3_placeNamed_49 (by decide) (fun v22 _ hv22 => ?_)
          replace E := zLet_s (zcst hv22 (by decide)) E
          exact ret _ _ _ _ dX3_placeNamed_50 rfl ⟨E.symm.trans hR, hS, ⟨⟨by omega, by omega⟩, hI⟩⟩
        · skip
          replace E := zIf_f (Int.not_lt.mpr c21) E
          refine zg_iload_n X 0 rfl dX3_placeNamed_21 ?_
          refine zg_bipush X 12 dX3_placeNamed_22 (by decide) (fun v23 _ hv23 => ?_)
          replace E := zLet_s (zcst hv23 (by decide)) E
          refine zg_icmp_ge X 49 dX3_placeNamed_24 (by decide) (fun c24 => ?_) (fun c24 => ?_)
          · omega
          · skip
            replace E := zIf_t c24 E
            refine zg_aload_n X 1 rfl dX3_placeNamed_27 ?_
            refine fg_X3_18 X hI ha0 dX3_placeNamed_28 (fun v25 ev25 hv25 => ?_)
            replace E := zLet_s (zgr ev25) E
            refine fg_X3_113 X hI hv25 dX3_placeNamed_31 (fun v26 ev26 hv26 => ?_)
            replace E := zLet_s (zgr ev26) E
            refine zg_iload_n X 0 rfl dX3_placeNamed_34 ?_
            refine ag_44 X hv26 (by omega) (by omega) dX3_placeNamed_35 (fun v27 ev27 => ?_)
            replace E := zLet_s ev27 E
            refine zg_lload_n X 2 rfl dX3_placeNamed_36 ?_
            refine zg_lcmp X dX3_placeNamed_37 (fun v28 ev28 => ?_)
            replace E := zLet_s ev28 E
            refine zg_if_ne X 43 dX3_placeNamed_38 (by decide) (fun c29 => ?_) (fun c29 => ?_)
            · skip
              replace E := zIf_f c29 E
              refine zg_iinc X 1 (fun v30 => [(3, .int v30), (0, .ref a0), (1, .long p1)]) 0 dX3_placeNamed_43 rfl (by decide) (by decide) (by omega) (by omega) (fun _ => rfl) (fun v30 ev30 hv30 => ?_)
              replace E := zLet_s (zinc ev30 (by decide)) E
              refine zg_goto X 13 dX3_placeNamed_46 (by decide) ?_
              refine zg_sub [0, 1, 2] rfl ?_
              exact ihLp19 _ v30 hI hS E  (by omega) (by omega) 
            · skip
              replace E := zIf_t c29 E
              refine zg_iload_n X 0 rfl dX3_placeNamed_41 ?_
              exact ret _ _ _ _ dX3_placeNamed_42 rfl ⟨E.symm.trans hR, hS, ⟨⟨by omega, by omega⟩, hI⟩⟩
    refine zg_sub [0, 1, 2] rfl ?_
    exact Lp19 10000 _ v17 hI hS E  (by omega) (by omega) 
set_option maxHeartbeats 4000000 in
set_option maxRecDepth 100000 in
theorem t_X3_newName (l : Launch) (d : zD2) (L : List Nat) (kd : Nat → Nat) (κ : Int) (σ : zS) (hI : zI κ 2 L kd σ) (a0 : Nat) (ha0 : zT L kd a0 3) : zMl l yX3_newName (Cond.code yX3_newName cX3_newName 3 (some .long) :: zWL) 2 [.ref a0] d L kd σ (fun v σ2 => (v, σ2) = F_X3_newName a0 σ ∧ zSm [3] [] L kd σ σ2 ∧ (zI κ 2 L kd σ2)) := by
  refine zMl.of (own := RX3) (by decide +kernel) rfl rfl (Nat.le_of_ble_eq_true rfl) ?_
  intro p e s m args below meth c A Q X ret
  refine zg_lv (lv2 := [(0, .ref a0)]) rfl ?_
  obtain ⟨R, hR⟩ : ∃ R, R = F_X3_newName a0 σ := ⟨_, rfl⟩
  have E := hR
  unfold F_X3_newName at E
  have hS : zSm [3] [] L kd σ σ := zSm.rf
  refine zg_aload_n X 0 rfl dX3_newName_0 ?_
  refine fg_X3_29 X ha0 dX3_newName_1 (fun v1 ev1 => ?_)
  replace E := zLet_s ev1 E
  refine zg_lstore_n X [(1, .long v1), (0, .ref a0)] dX3_newName_4 (by decide) rfl ?_
  refine zg_aload_n X 1 rfl dX3_newName_5 ?_
  refine fg_X3_26 X hI ha0 dX3_newName_6 (fun v2 ev2 _ => ?_)
  replace E := zLet_s ev2 E
  refine zg_bipush X 22 dX3_newName_9 (by decide) (fun v3 _ hv3 => ?_)
  replace E := zLet_s (zcst hv3 (by decide)) E
  refine zg_icmp_ne X 28 dX3_newName_11 (by decide) (fun c4 => ?_) (fun c4 => ?_)
  · skip
    replace E := zIf_f c4 E
    refine zg_aload_n X 1 rfl dX3_newName_28 ?_
    refine zg_bipush X 22 dX3_newName_29 (by decide) (fun v5 _ hv5 => ?_)
    replace E := zLet_s (zcst hv5 (by decide)) E
    refine zg_cVv (As := [.int v5]) (st := []) X ha0 rfl (by decide) rfl (t_X3_take l d L kd κ 2 _ hI a0 ha0 v5 ) mk_X3_87 mc_X3_take mz_X3 mi_X3_take ml_X3_take (na := 1) ⟨md_X3.1, md_X3.2, by decide +kernel⟩ rfl ⟨by decide, by decide⟩ (Nat.le_of_ble_eq_true rfl) dX3_newName_31 (fun s6 hq => ?_)
    obtain ⟨hF, hS2, hI⟩ := hq
    replace E := zLet_s hF E
    have hS := hS.tr hS2 rfl rfl
    refine zg_lload_n X 0 rfl dX3_newName_34 ?_
    exact ret _ _ _ _ dX3_newName_35 ⟨E.symm.trans hR, hS, hI⟩
  · skip
    replace E := zIf_t c4 E
    refine zg_aload_n X 1 rfl dX3_newName_14 ?_
    refine zg_lload_n X 0 rfl dX3_newName_15 ?_
    refine zg_cVi (As := [.long v1]) (st := []) X ha0 rfl (by decide) rfl (t_X3_placeNamed l d L kd κ _ hI a0 ha0 v1 ) mk_X3_125 mc_X3_placeNamed mz_X3 mi_X3_placeNamed ml_X3_placeNamed (na := 1) ⟨md_X3.1, md_X3.2, by decide +kernel⟩ rfl ⟨by decide, by decide⟩ (Nat.le_of_ble_eq_true rfl) dX3_newName_16 (fun v7 s8 hq => ?_)
    obtain ⟨hF, hS2, hI⟩ := hq
    replace E := zLet2_s hF E
    have hS := hS.tr hS2 rfl rfl
    obtain ⟨hv7, hI⟩ := hI
    refine zg_iconst X (-1) dX3_newName_19 (by decide) (fun v9 _ hv9 => ?_)
    replace E := zLet_s (zcst hv9 (by decide)) E
    refine zg_icmp_eq X 28 dX3_newName_20 (by decide) (fun c10 => ?_) (fun c10 => ?_)
    · skip
      replace E := zIf_t c10 E
      refine zg_aload_n X 1 rfl dX3_newName_28 ?_
      refine zg_bipush X 22 dX3_newName_29 (by decide) (fun v11 _ hv11 => ?_)
      replace E := zLet_s (zcst hv11 (by decide)) E
      refine zg_cVv (As := [.int v11]) (st := []) X ha0 rfl (by decide) rfl (t_X3_take l d L kd κ 2 _ hI a0 ha0 v11 ) mk_X3_87 mc_X3_take mz_X3 mi_X3_take ml_X3_take (na := 1) ⟨md_X3.1, md_X3.2, by decide +kernel⟩ rfl ⟨by decide, by decide⟩ (Nat.le_of_ble_eq_true rfl) dX3_newName_31 (fun s12 hq => ?_)
      obtain ⟨hF, hS2, hI⟩ := hq
      replace E := zLet_s hF E
      have hS := hS.tr hS2 rfl rfl
      refine zg_lload_n X 0 rfl dX3_newName_34 ?_
      exact ret _ _ _ _ dX3_newName_35 ⟨E.symm.trans hR, hS, hI⟩
    · skip
      replace E := zIf_f c10 E
      refine zg_aload_n X 1 rfl dX3_newName_23 ?_
      refine zg_iconst X 3 dX3_newName_24 (by decide) (fun v13 _ hv13 => ?_)
      replace E := zLet_s (zcst hv13 (by decide)) E
      refine zg_cVv (As := [.int v13]) (st := []) X ha0 rfl (by decide) rfl (t_X3_failLate l d L kd κ 2 _ hI a0 ha0 v13 ) mk_X3_129 mc_X3_failLate mz_X3 mi_X3_failLate ml_X3_failLate (na := 1) ⟨md_X3.1, md_X3.2, by decide +kernel⟩ rfl ⟨by decide, by decide⟩ (Nat.le_of_ble_eq_true rfl) dX3_newName_25 (fun s14 hq => ?_)
      obtain ⟨hF, hS2, hI⟩ := hq
      replace E := zLet_s hF E
      have hS := hS.tr hS2 rfl rfl
      refine zg_aload_n X 1 rfl dX3_newName_28 ?_
      refine zg_bipush X 22 dX3_newName_29 (by decide) (fun v15 _ hv15 => ?_)
      replace E := zLet_s (zcst hv15 (by decide)) E
      refine zg_cVv (As := [.int v15]) (st := []) X ha0 rfl (by decide) rfl (t_X3_take l d L kd κ 2 _ hI a0 ha0 v15 ) mk_X3_87 mc_X3_take mz_X3 mi_X3_take ml_X3_take (na := 1) ⟨md_X3.1, md_X3.2, by decide +kernel⟩ rfl ⟨by decide, by decide⟩ (Nat.le_of_ble_eq_true rfl) dX3_newName_31 (fun s16 hq => ?_)
      obtain ⟨hF, hS2, hI⟩ := hq
      replace E := zLet_s hF E
      have hS := hS.tr hS2 rfl rfl
      refine zg_lload_n X 0 rfl dX3_newName_34 ?_
      exact ret _ _ _ _ dX3_newName_35 ⟨E.symm.trans hR, hS, hI⟩
set_option maxHeartbeats 4000000 in
set_option maxRecDepth 100000 in
theorem t_X3_knownName (l : Launch) (d : zD2) (L : List Nat) (kd : Nat → Nat) (κ : Int) (σ : zS) (hI : zI κ 2 L kd σ) (a0 : Nat) (ha0 : zT L kd a0 3) : zMi l yX3_knownName (Cond.code yX3_knownName cX3_knownName 2 (some .int) :: zWL) 2 [.ref a0] d L kd σ (fun v σ2 => (v, σ2) = F_X3_knownName a0 σ ∧ zSm [3] [] L kd σ σ2 ∧ ((0 ≤ v.toInt ∧ v.toInt ≤ 11) ∧ zI κ 2 L kd σ2)) := by
  refine zMi.of (own := RX3) (by decide +kernel) rfl rfl (Nat.le_of_ble_eq_true rfl) ?_
  intro p e s m args below meth c A Q X ret
  refine zg_lv (lv2 := [(0, .ref a0)]) rfl ?_
  obtain ⟨R, hR⟩ : ∃ R, R = F_X3_knownName a0 σ := ⟨_, rfl⟩
  have E := hR
  unfold F_X3_knownName at E
  have hS : zSm [3] [] L kd σ σ := zSm.rf
  refine zg_aload_n X 0 rfl dX3_knownName_0 ?_
  refine zg_aload_n X 0 rfl dX3_knownName_1 ?_
  refine fg_X3_29 X ha0 dX3_knownName_2 (fun v1 ev1 => ?_)
  replace E := zLet_s ev1 E
  refine zg_cVi (As := [.long v1]) (st := []) X ha0 rfl (by decide) rfl (t_X3_placeNamed l d L kd κ _ hI a0 ha0 v1 ) mk_X3_125 mc_X3_placeNamed mz_X3 mi_X3_placeNamed ml_X3_placeNamed (na := 1) ⟨md_X3.1, md_X3.2, by decide +kernel⟩ rfl ⟨by decide, by decide⟩ (Nat.le_of_ble_eq_true rfl) dX3_knownName_5 (fun v2 s3 hq => ?_)
  obtain ⟨hF, hS2, hI⟩ := hq
  replace E := zLet2_s hF E
  have hS := hS.tr hS2 rfl rfl
  obtain ⟨hv2, hI⟩ := hI
  refine zg_istore_n X [(1, .int v2), (0, .ref a0)] dX3_knownName_8 (by decide) rfl ?_
  refine zg_aload_n X 1 rfl dX3_knownName_9 ?_
  refine fg_X3_26 X hI ha0 dX3_knownName_10 (fun v4 ev4 _ => ?_)
  replace E := zLet_s ev4 E
  refine zg_bipush X 22 dX3_knownName_13 (by decide) (fun v5 _ hv5 => ?_)
  replace E := zLet_s (zcst hv5 (by decide)) E
  refine zg_icmp_ne X 28 dX3_knownName_15 (by decide) (fun c6 => ?_) (fun c6 => ?_)
  · skip
    replace E := zIf_f c6 E
    refine zg_aload_n X 1 rfl dX3_knownName_28 ?_
    refine zg_bipush X 22 dX3_knownName_29 (by decide) (fun v7 _ hv7 => ?_)
    replace E := zLet_s (zcst hv7 (by decide)) E
    refine zg_cVv (As := [.int v7]) (st := []) X ha0 rfl (by decide) rfl (t_X3_take l d L kd κ 2 _ hI a0 ha0 v7 ) mk_X3_87 mc_X3_take mz_X3 mi_X3_take ml_X3_take (na := 1) ⟨md_X3.1, md_X3.2, by decide +kernel⟩ rfl ⟨by decide, by decide⟩ (Nat.le_of_ble_eq_true rfl) dX3_knownName_31 (fun s8 hq => ?_)
    obtain ⟨hF, hS2, hI⟩ := hq
    replace E := zLet_s hF E
    have hS := hS.tr hS2 rfl rfl
    refine zg_iconst X 0 dX3_knownName_34 (by decide) (fun v9 _ hv9 => ?_)
    replace E := zLet_s (zcst hv9 (by decide)) E
    refine zg_iload_n X 0 rfl dX3_knownName_35 ?_
    refine zg_max X wj_X3_132 ⟨by decide, Nat.le_of_ble_eq_true rfl⟩ dX3_knownName_36 (fun v10 hv10 => ?_)
    replace E := zLet_s (zmax_e hv10) E
    exact ret _ _ _ _ dX3_knownName_39 rfl ⟨E.symm.trans hR, hS, ⟨⟨by omega, by omega⟩, hI⟩⟩
  · skip
    replace E := zIf_t c6 E
    refine zg_iload_n X 0 rfl dX3_knownName_18 ?_
    refine zg_iconst X (-1) dX3_knownName_19 (by decide) (fun v11 _ hv11 => ?_)
    replace E := zLet_s (zcst hv11 (by decide)) E
    refine zg_icmp_ne X 28 dX3_knownName_20 (by decide) (fun c12 => ?_) (fun c12 => ?_)
    · skip
      replace E := zIf_f c12 E
      refine zg_aload_n X 1 rfl dX3_knownName_28 ?_
      refine zg_bipush X 22 dX3_knownName_29 (by decide) (fun v13 _ hv13 => ?_)
      replace E := zLet_s (zcst hv13 (by decide)) E
      refine zg_cVv (As := [.int v13]) (st := []) X ha0 rfl (by decide) rfl (t_X3_take l d L kd κ 2 _ hI a0 ha0 v13 ) mk_X3_87 mc_X3_take mz_X3 mi_X3_take ml_X3_take (na := 1) ⟨md_X3.1, md_X3.2, by decide +kernel⟩ rfl ⟨by decide, by decide⟩ (Nat.le_of_ble_eq_true rfl) dX3_knownName_31 (fun s14 hq => ?_)
      obtain ⟨hF, hS2, hI⟩ := hq
      replace E := zLet_s hF E
      have hS := hS.tr hS2 rfl rfl
      refine zg_iconst X 0 dX3_knownName_34 (by decide) (fun v15 _ hv15 => ?_)
      replace E := zLet_s (zcst hv15 (by decide)) E
      refine zg_iload_n X 0 rfl dX3_knownName_35 ?_
      refine zg_max X wj_X3_132 ⟨by decide, Nat.le_of_ble_eq_true rfl⟩ dX3_knownName_36 (fun v16 hv16 => ?_)
      replace E := zLet_s (zmax_e hv16) E
      exact ret _ _ _ _ dX3_knownName_39 rfl ⟨E.symm.trans hR, hS, ⟨⟨by omega, by omega⟩, hI⟩⟩
    · skip
      replace E := zIf_t c12 E
      refine zg_aload_n X 1 rfl dX3_knownName_23 ?_
      refine zg_iconst X 4 dX3_knownName_24 (by decide) (fun v17 _ hv17 => ?_)
      replace E := zLet_s (zcst hv17 (by decide)) E
      refine zg_cVv (As := [.int v17]) (st := []) X ha0 rfl (by decide) rfl (t_X3_failLate l d L kd κ 2 _ hI a0 ha0 v17 ) mk_X3_129 mc_X3_failLate mz_X3 mi_X3_failLate ml_X3_failLate (na := 1) ⟨md_X3.1, md_X3.2, by decide +kernel⟩ rfl ⟨by decide, by decide⟩ (Nat.le_of_ble_eq_true rfl) dX3_knownName_25 (fun s18 hq => ?_)
      obtain ⟨hF, hS2, hI⟩ := hq
      replace E := zLet_s hF E
      have hS := hS.tr hS2 rfl rfl
      refine zg_aload_n X 1 rfl dX3_knownName_28 ?_
      refine zg_bipush X 22 dX3_knownName_29 (by decide) (fun v19 _ hv19 => ?_)
      replace E := zLet_s (zcst hv19 (by decide)) E
      refine zg_cVv (As := [.int v19]) (st := []) X ha0 rfl (by decide) rfl (t_X3_take l d L kd κ 2 _ hI a0 ha0 v19 ) mk_X3_87 mc_X3_take mz_X3 mi_X3_take ml_X3_take (na := 1) ⟨md_X3.1, md_X3.2, by decide +kernel⟩ rfl ⟨by decide, by decide⟩ (Nat.le_of_ble_eq_true rfl) dX3_knownName_31 (fun s20 hq => ?_)
      obtain ⟨hF, hS2, hI⟩ := hq
      replace E := zLet_s hF E
      have hS := hS.tr hS2 rfl rfl
      refine zg_iconst X 0 dX3_knownName_34 (by decide) (fun v21 _ hv21 => ?_)
      replace E := zLet_s (zcst hv21 (by decide)) E
      refine zg_iload_n X 0 rfl dX3_knownName_35 ?_
      refine zg_max X wj_X3_132 ⟨by decide, Nat.le_of_ble_eq_true rfl⟩ dX3_knownName_36 (fun v22 hv22 => ?_)
      replace E := zLet_s (zmax_e hv22) E
      exact ret _ _ _ _ dX3_knownName_39 rfl ⟨E.symm.trans hR, hS, ⟨⟨by omega, by omega⟩, hI⟩⟩
set_option maxHeartbeats 4000000 in
set_option maxRecDepth 100000 in
theorem t_X3_number (l : Launch) (d : zD2) (L : List Nat) (kd : Nat → Nat) (κ : Int) (b : Nat) (σ : zS) (hI : zI κ b L kd σ) (a0 : Nat) (ha0 : zT L kd a0 3) (p1 : Int32) (p2 : Int32) : zMi l yX3_number (Cond.code yX3_number cX3_number 4 (some .int) :: zWL) 2 [.ref a0, .int p1, .int p2] d L kd σ (fun v σ2 => (v, σ2) = F_X3_number a0 p1 p2 σ ∧ zSm [3] [] L kd σ σ2 ∧ (zI κ b L kd σ2)) := by
  refine zMi.of (own := RX3) (by decide +kernel) rfl rfl (Nat.le_of_ble_eq_true rfl) ?_
  intro p e s m args below meth c A Q X ret
  refine zg_lv (lv2 := [(0, .ref a0), (1, .int p1), (2, .int p2)]) rfl ?_
  obtain ⟨R, hR⟩ : ∃ R, R = F_X3_number a0 p1 p2 σ := ⟨_, rfl⟩
  have E := hR
  unfold F_X3_number at E
  have hS : zSm [3] [] L kd σ σ := zSm.rf
  refine zg_aload_n X 0 rfl dX3_number_0 ?_
  refine fg_X3_29 X ha0 dX3_number_1 (fun v1 ev1 => ?_)
  replace E := zLet_s ev1 E
  refine zg_l2i X dX3_number_4 (fun v2 ev2 => ?_)
  replace E := zLet_s ev2 E
  refine zg_istore_n X [(3, .int v2), (0, .ref a0), (1, .int p1), (2, .int p2)] dX3_number_5 (by decide) rfl ?_
  refine zg_aload_n X 1 rfl dX3_number_6 ?_
  refine fg_X3_26 X hI ha0 dX3_number_7 (fun v3 ev3 _ => ?_)
  replace E := zLet_s ev3 E
  refine zg_bipush X 23 dX3_number_10 (by decide) (fun v4 _ hv4 => ?_)
  replace E := zLet_s (zcst hv4 (by decide)) E
  refine zg_icmp_ne X 29 dX3_number_12 (by decide) (fun c5 => ?_) (fun c5 => ?_)
  · skip
    replace E := zIf_f c5 E
    refine zg_aload_n X 1 rfl dX3_number_29 ?_
    refine zg_bipush X 23 dX3_number_30 (by decide) (fun v6 _ hv6 => ?_)
    replace E := zLet_s (zcst hv6 (by decide)) E
    refine zg_cVv (As := [.int v6]) (st := []) X ha0 rfl (by decide) rfl (t_X3_take l d L kd κ b _ hI a0 ha0 v6 ) mk_X3_87 mc_X3_take mz_X3 mi_X3_take ml_X3_take (na := 1) ⟨md_X3.1, md_X3.2, by decide +kernel⟩ rfl ⟨by decide, by decide⟩ (Nat.le_of_ble_eq_true rfl) dX3_number_32 (fun s7 hq => ?_)
    obtain ⟨hF, hS2, hI⟩ := hq
    replace E := zLet_s hF E
    have hS := hS.tr hS2 rfl rfl
    refine zg_iload_n X 0 rfl dX3_number_35 ?_
    exact ret _ _ _ _ dX3_number_36 rfl ⟨E.symm.trans hR, hS, hI⟩
  · skip
    replace E := zIf_t c5 E
    refine zg_iload_n X 0 rfl dX3_number_15 ?_
    refine zg_iload_n X 2 rfl dX3_number_16 ?_
    refine zg_iload_n X 3 rfl dX3_number_17 ?_
    refine zg_cSNi (As := [.int v2, .int p1, .int p2]) (st := []) X (t_X10_isWithin l d L kd _ v2 p1 p2 ) mk_X3_80 mc_X10_isWithin mz_X10 ms_X10_isWithin (na := 3) ⟨md_X10.1, md_X10.2, by decide +kernel⟩ rfl ⟨by decide, by decide⟩ (Nat.le_of_ble_eq_true rfl) dX3_number_18 (fun v8 σ2 hq => ?_)
    obtain ⟨⟨hF, hv8⟩, rfl⟩ := hq
    replace E := zLet_s hF E
    refine zg_if_ne X 29 dX3_number_21 (by decide) (fun c9 => ?_) (fun c9 => ?_)
    · skip
      replace E := zIf_f c9 E
      refine zg_aload_n X 1 rfl dX3_number_29 ?_
      refine zg_bipush X 23 dX3_number_30 (by decide) (fun v10 _ hv10 => ?_)
      replace E := zLet_s (zcst hv10 (by decide)) E
      refine zg_cVv (As := [.int v10]) (st := []) X ha0 rfl (by decide) rfl (t_X3_take l d L kd κ b _ hI a0 ha0 v10 ) mk_X3_87 mc_X3_take mz_X3 mi_X3_take ml_X3_take (na := 1) ⟨md_X3.1, md_X3.2, by decide +kernel⟩ rfl ⟨by decide, by decide⟩ (Nat.le_of_ble_eq_true rfl) dX3_number_32 (fun s11 hq => ?_)
      obtain ⟨hF, hS2, hI⟩ := hq
      replace E := zLet_s hF E
      have hS := hS.tr hS2 rfl rfl
      refine zg_iload_n X 0 rfl dX3_number_35 ?_
      exact ret _ _ _ _ dX3_number_36 rfl ⟨E.symm.trans hR, hS, hI⟩
    · skip
      replace E := zIf_t c9 E
      refine zg_aload_n X 1 rfl dX3_number_24 ?_
      refine zg_iconst X 5 dX3_number_25 (by decide) (fun v12 _ hv12 => ?_)
      replace E := zLet_s (zcst hv12 (by decide)) E
      refine zg_cVv (As := [.int v12]) (st := []) X ha0 rfl (by decide) rfl (t_X3_failLate l d L kd κ b _ hI a0 ha0 v12 ) mk_X3_129 mc_X3_failLate mz_X3 mi_X3_failLate ml_X3_failLate (na := 1) ⟨md_X3.1, md_X3.2, by decide +kernel⟩ rfl ⟨by decide, by decide⟩ (Nat.le_of_ble_eq_true rfl) dX3_number_26 (fun s13 hq => ?_)
      obtain ⟨hF, hS2, hI⟩ := hq
      replace E := zLet_s hF E
      have hS := hS.tr hS2 rfl rfl
      refine zg_aload_n X 1 rfl dX3_number_29 ?_
      refine zg_bipush X 23 dX3_number_30 (by decide) (fun v14 _ hv14 => ?_)
      replace E := zLet_s (zcst hv14 (by decide)) E
      refine zg_cVv (As := [.int v14]) (st := []) X ha0 rfl (by decide) rfl (t_X3_take l d L kd κ b _ hI a0 ha0 v14 ) mk_X3_87 mc_X3_take mz_X3 mi_X3_take ml_X3_take (na := 1) ⟨md_X3.1, md_X3.2, by decide +kernel⟩ rfl ⟨by decide, by decide⟩ (Nat.le_of_ble_eq_true rfl) dX3_number_32 (fun s15 hq => ?_)
      obtain ⟨hF, hS2, hI⟩ := hq
      replace E := zLet_s hF E
      have hS := hS.tr hS2 rfl rfl
      refine zg_iload_n X 0 rfl dX3_number_35 ?_
      exact ret _ _ _ _ dX3_number_36 rfl ⟨E.symm.trans hR, hS, hI⟩
set_option maxHeartbeats 4000000 in
set_option maxRecDepth 100000 in
theorem t_X3_mouth (l : Launch) (d : zD2) (L : List Nat) (kd : Nat → Nat) (κ : Int) (σ : zS) (hI : zI κ 2 L kd σ) (a0 : Nat) (ha0 : zT L kd a0 3) : zMv l yX3_mouth (Cond.code yX3_mouth cX3_mouth 3 none :: zWL) 3 [.ref a0] d L kd σ (fun σ2 => σ2 = F_X3_mouth a0 σ ∧ zSm [3, 44, 45, 46, 47, 48] [] L kd σ σ2 ∧ (zI κ 2 L kd σ2)) := by
  refine zMv.of (own := RX3) (by decide +kernel) rfl rfl (Nat.le_of_ble_eq_true rfl) ?_
  intro p e s m args below meth c A Q X ret
  refine zg_lv (lv2 := [(0, .ref a0)]) rfl ?_
  obtain ⟨R, hR⟩ : ∃ R, R = F_X3_mouth a0 σ := ⟨_, rfl⟩
  have E := hR
  unfold F_X3_mouth at E
  have hS : zSm [3, 44, 45, 46, 47, 48] [] L kd σ σ := zSm.rf
  refine zg_aload_n X 0 rfl dX3_mouth_0 ?_
  refine fg_X3_36 X hI ha0 dX3_mouth_1 (fun v1 ev1 hv1 => ?_)
  replace E := zLet_s ev1 E
  refine zg_if_eq X 12 dX3_mouth_4 (by decide) (fun c2 => ?_) (fun c2 => ?_)
  · skip
    replace E := zIf_t c2 E
    refine zg_aload_n X 0 rfl dX3_mouth_12 ?_
    refine zg_iconst X 0 dX3_mouth_13 (by decide) (fun v3 _ hv3 => ?_)
    replace E := zLet_s (zcst hv3 (by decide)) E
    refine zg_cVv (As := [.int v3]) (st := []) X ha0 rfl (by decide) rfl (t_X3_take l d L kd κ 2 _ hI a0 ha0 v3 ) mk_X3_87 mc_X3_take mz_X3 mi_X3_take ml_X3_take (na := 1) ⟨md_X3.1, md_X3.2, by decide +kernel⟩ rfl ⟨by decide, by decide⟩ (Nat.le_of_ble_eq_true rfl) dX3_mouth_14 (fun s4 hq => ?_)
    obtain ⟨hF, hS2, hI⟩ := hq
    replace E := zLet_s hF E
    have hS := hS.tr hS2 rfl rfl
    refine zg_aload_n X 0 rfl dX3_mouth_17 ?_
    refine zg_cVl (As := []) (st := []) X ha0 rfl (by decide) rfl (t_X3_newName l d L kd κ _ hI a0 ha0 ) mk_X3_109 mc_X3_newName mz_X3 mi_X3_newName ml_X3_newName (na := 0) ⟨md_X3.1, md_X3.2, by decide +kernel⟩ rfl ⟨by decide, by decide⟩ (Nat.le_of_ble_eq_true rfl) dX3_mouth_18 (fun v5 s6 hq => ?_)
    obtain ⟨hF, hS2, hI⟩ := hq
    replace E := zLet2_s hF E
    have hS := hS.tr hS2 rfl rfl
    refine zg_lstore_n X [(1, .long v5), (0, .ref a0)] dX3_mouth_21 (by decide) rfl ?_
    refine zg_aload_n X 1 rfl dX3_mouth_22 ?_
    refine fg_X3_43 X hI ha0 dX3_mouth_23 (fun v7 ev7 _ => ?_)
    replace E := zLet_s ev7 E
    refine zg_if_ne X 56 dX3_mouth_26 (by decide) (fun c8 => ?_) (fun c8 => ?_)
    · skip
      replace E := zIf_f c8 E
      exact ret _ _ _ dX3_mouth_56 ⟨E.symm.trans hR, hS, hI⟩
    · skip
      replace E := zIf_t c8 E
      refine zg_aload_n X 1 rfl dX3_mouth_29 ?_
      refine zg_iconst X 1 dX3_mouth_30 (by decide) (fun v9 _ hv9 => ?_)
      replace E := zLet_s (zcst hv9 (by decide)) E
      refine fp_X3_36 X hI ha0 ⟨by omega, by omega⟩ dX3_mouth_31 (fun s10 es10 hI => ?_)
      replace E := zLet_s es10 E
      have hS := hS.i ha0 es10 rfl
      refine zg_aload_n X 1 rfl dX3_mouth_34 ?_
      refine fg_X3_18 X hI ha0 dX3_mouth_35 (fun v11 ev11 hv11 => ?_)
      replace E := zLet_s (zgr ev11) E
      refine fg_X3_113 X hI hv11 dX3_mouth_38 (fun v12 ev12 hv12 => ?_)
      replace E := zLet_s (zgr ev12) E
      refine zg_iconst X 0 dX3_mouth_41 (by decide) (fun v13 _ hv13 => ?_)
      replace E := zLet_s (zcst hv13 (by decide)) E
      refine zg_lload_n X 0 rfl dX3_mouth_42 ?_
      refine as_44 X hI hv12 (by omega) (by omega) dX3_mouth_43 (fun s14 es14 hI => ?_)
      replace E := zLet_s es14 E
      have hS := hS.l hv12 es14 rfl
      refine zg_aload_n X 1 rfl dX3_mouth_44 ?_
      refine fg_X3_18 X hI ha0 dX3_mouth_45 (fun v15 ev15 hv15 => ?_)
      replace E := zLet_s (zgr ev15) E
      refine zg_iconst X 0 dX3_mouth_48 (by decide) (fun v16 _ hv16 => ?_)
      replace E := zLet_s (zcst hv16 (by decide)) E
      refine zg_iconst X 0 dX3_mouth_49 (by decide) (fun v17 _ hv17 => ?_)
      replace E := zLet_s (zcst hv17 (by decide)) E
      refine zg_iconst X 0 dX3_mouth_50 (by decide) (fun v18 _ hv18 => ?_)
      replace E := zLet_s (zcst hv18 (by decide)) E
      refine zg_iconst X 0 dX3_mouth_51 (by decide) (fun v19 _ hv19 => ?_)
      replace E := zLet_s (zcst hv19 (by decide)) E
      refine zg_iconst X 0 dX3_mouth_52 (by decide) (fun v20 _ hv20 => ?_)
      replace E := zLet_s (zcst hv20 (by decide)) E
      refine zg_cVv (As := [.int v16, .int v17, .int v18, .int v19, .int v20]) (st := []) X hv15 rfl (by decide) rfl (t_X9_setPlace l d L kd κ 2 _ hI v15 hv15 v16 v17 v18 v19 v20 (by omega)) mk_X3_117 mc_X9_setPlace mz_X9 mi_X9_setPlace ml_X9_setPlace (na := 5) ⟨md_X9.1, md_X9.2, by decide +kernel⟩ rfl ⟨by decide, by decide⟩ (Nat.le_of_ble_eq_true rfl) dX3_mouth_53 (fun s21 hq => ?_)
      obtain ⟨hF, hS2, hI⟩ := hq
      replace E := zLet_s hF E
      have hS := hS.tr hS2 rfl rfl
      exact ret _ _ _ dX3_mouth_56 ⟨E.symm.trans hR, hS, hI⟩
  · skip
    replace E := zIf_f c2 E
    refine zg_aload_n X 0 rfl dX3_mouth_7 ?_
    refine zg_iconst X 2 dX3_mouth_8 (by decide) (fun v22 _ hv22 => ?_)
    replace E := zLet_s (zcst hv22 (by decide)) E
    refine zg_cVv (As := [.int v22]) (st := []) X ha0 rfl (by decide) rfl (t_X3_fail l d L kd κ 2 _ hI a0 ha0 v22 ) mk_X3_106 mc_X3_fail mz_X3 mi_X3_fail ml_X3_fail (na := 1) ⟨md_X3.1, md_X3.2, by decide +kernel⟩ rfl ⟨by decide, by decide⟩ (Nat.le_of_ble_eq_true rfl) dX3_mouth_9 (fun s23 hq => ?_)
    obtain ⟨hF, hS2, hI⟩ := hq
    replace E := zLet_s hF E
    have hS := hS.tr hS2 rfl rfl
    refine zg_aload_n X 0 rfl dX3_mouth_12 ?_
    refine zg_iconst X 0 dX3_mouth_13 (by decide) (fun v24 _ hv24 => ?_)
    replace E := zLet_s (zcst hv24 (by decide)) E
    refine zg_cVv (As := [.int v24]) (st := []) X ha0 rfl (by decide) rfl (t_X3_take l d L kd κ 2 _ hI a0 ha0 v24 ) mk_X3_87 mc_X3_take mz_X3 mi_X3_take ml_X3_take (na := 1) ⟨md_X3.1, md_X3.2, by decide +kernel⟩ rfl ⟨by decide, by decide⟩ (Nat.le_of_ble_eq_true rfl) dX3_mouth_14 (fun s25 hq => ?_)
    obtain ⟨hF, hS2, hI⟩ := hq
    replace E := zLet_s hF E
    have hS := hS.tr hS2 rfl rfl
    refine zg_aload_n X 0 rfl dX3_mouth_17 ?_
    refine zg_cVl (As := []) (st := []) X ha0 rfl (by decide) rfl (t_X3_newName l d L kd κ _ hI a0 ha0 ) mk_X3_109 mc_X3_newName mz_X3 mi_X3_newName ml_X3_newName (na := 0) ⟨md_X3.1, md_X3.2, by decide +kernel⟩ rfl ⟨by decide, by decide⟩ (Nat.le_of_ble_eq_true rfl) dX3_mouth_18 (fun v26 s27 hq => ?_)
    obtain ⟨hF, hS2, hI⟩ := hq
    replace E := zLet2_s hF E
    have hS := hS.tr hS2 rfl rfl
    refine zg_lstore_n X [(1, .long v26), (0, .ref a0)] dX3_mouth_21 (by decide) rfl ?_
    refine zg_aload_n X 1 rfl dX3_mouth_22 ?_
    refine fg_X3_43 X hI ha0 dX3_mouth_23 (fun v28 ev28 _ => ?_)
    replace E := zLet_s ev28 E
    refine zg_if_ne X 56 dX3_mouth_26 (by decide) (fun c29 => ?_) (fun c29 => ?_)
    · skip
      replace E := zIf_f c29 E
      exact ret _ _ _ dX3_mouth_56 ⟨E.symm.trans hR, hS, hI⟩
    · skip
      replace E := zIf_t c29 E
      refine zg_aload_n X 1 rfl dX3_mouth_29 ?_
      refine zg_iconst X 1 dX3_mouth_30 (by decide) (fun v30 _ hv30 => ?_)
      replace E := zLet_s (zcst hv30 (by decide)) E
      refine fp_X3_36 X hI ha0 ⟨by omega, by omega⟩ dX3_mouth_31 (fun s31 es31 hI => ?_)
      replace E := zLet_s es31 E
      have hS := hS.i ha0 es31 rfl
      refine zg_aload_n X 1 rfl dX3_mouth_34 ?_
      refine fg_X3_18 X hI ha0 dX3_mouth_35 (fun v32 ev32 hv32 => ?_)
      replace E := zLet_s (zgr ev32) E
      refine fg_X3_113 X hI hv32 dX3_mouth_38 (fun v33 ev33 hv33 => ?_)
      replace E := zLet_s (zgr ev33) E
      refine zg_iconst X 0 dX3_mouth_41 (by decide) (fun v34 _ hv34 => ?_)
      replace E := zLet_s (zcst hv34 (by decide)) E
      refine zg_lload_n X 0 rfl dX3_mouth_42 ?_
      refine as_44 X hI hv33 (by omega) (by omega) dX3_mouth_43 (fun s35 es35 hI => ?_)
      replace E := zLet_s es35 E
      have hS := hS.l hv33 es35 rfl
      refine zg_aload_n X 1 rfl dX3_mouth_44 ?_
      refine fg_X3_18 X hI ha0 dX3_mouth_45 (fun v36 ev36 hv36 => ?_)
      replace E := zLet_s (zgr ev36) E
      refine zg_iconst X 0 dX3_mouth_48 (by decide) (fun v37 _ hv37 => ?_)
      replace E := zLet_s (zcst hv37 (by decide)) E
      refine zg_iconst X 0 dX3_mouth_49 (by decide) (fun v38 _ hv38 => ?_)
      replace E := zLet_s (zcst hv38 (by decide)) E
      refine zg_iconst X 0 dX3_mouth_50 (by decide) (fun v39 _ hv39 => ?_)
      replace E := zLet_s (zcst hv39 (by decide)) E
      refine zg_iconst X 0 dX3_mouth_51 (by decide) (fun v40 _ hv40 => ?_)
      replace E := zLet_s (zcst hv40 (by decide)) E
      refine zg_iconst X 0 dX3_mouth_52 (by decide) (fun v41 _ hv41 => ?_)
      replace E := zLet_s (zcst hv41 (by decide)) E
      refine zg_cVv (As := [.int v37, .int v38, .int v39, .int v40, .int v41]) (st := []) X hv36 rfl (by decide) rfl (t_X9_setPlace l d L kd κ 2 _ hI v36 hv36 v37 v38 v39 v40 v41 (by omega)) mk_X3_117 mc_X9_setPlace mz_X9 mi_X9_setPlace ml_X9_setPlace (na := 5) ⟨md_X9.1, md_X9.2, by decide +kernel⟩ rfl ⟨by decide, by decide⟩ (Nat.le_of_ble_eq_true rfl) dX3_mouth_53 (fun s42 hq => ?_)
      obtain ⟨hF, hS2, hI⟩ := hq
      replace E := zLet_s hF E
      have hS := hS.tr hS2 rfl rfl
      exact ret _ _ _ dX3_mouth_56 ⟨E.symm.trans hR, hS, hI⟩
set_option maxHeartbeats 4000000 in
set_option maxRecDepth 100000 in
theorem t_X3_newPlace (l : Launch) (d : zD2) (L : List Nat) (kd : Nat → Nat) (κ : Int) (σ : zS) (hI : zI κ 2 L kd σ) (a0 : Nat) (ha0 : zT L kd a0 3) : zMv l yX3_newPlace (Cond.code yX3_newPlace cX3_newPlace 7 none :: zWL) 3 [.ref a0] d L kd σ (fun σ2 => σ2 = F_X3_newPlace a0 σ ∧ zSm [3, 44, 45, 46, 47, 48] [] L kd σ σ2 ∧ (zI κ 2 L kd σ2)) := by
  refine zMv.of (own := RX3) (by decide +kernel) rfl rfl (Nat.le_of_ble_eq_true rfl) ?_
  intro p e s m args below meth c A Q X ret
  refine zg_lv (lv2 := [(0, .ref a0)]) rfl ?_
  obtain ⟨R, hR⟩ : ∃ R, R = F_X3_newPlace a0 σ := ⟨_, rfl⟩
  have E := hR
  unfold F_X3_newPlace at E
  have hS : zSm [3, 44, 45, 46, 47, 48] [] L kd σ σ := zSm.rf
  refine zg_aload_n X 0 rfl dX3_newPlace_0 ?_
  refine fg_X3_40 X hI ha0 dX3_newPlace_1 (fun v1 ev1 hv1 => ?_)
  replace E := zLet_s ev1 E
  refine zg_bipush X 11 dX3_newPlace_4 (by decide) (fun v2 _ hv2 => ?_)
  replace E := zLet_s (zcst hv2 (by decide)) E
  refine zg_icmp_lt X 14 dX3_newPlace_6 (by decide) (fun c3 => ?_) (fun c3 => ?_)
  · skip
    replace E := zIf_t c3 E
    refine zg_aload_n X 0 rfl dX3_newPlace_14 ?_
    refine zg_iconst X 1 dX3_newPlace_15 (by decide) (fun v4 _ hv4 => ?_)
    replace E := zLet_s (zcst hv4 (by decide)) E
    refine zg_cVv (As := [.int v4]) (st := []) X ha0 rfl (by decide) rfl (t_X3_take l d L kd κ 2 _ hI a0 ha0 v4 ) mk_X3_87 mc_X3_take mz_X3 mi_X3_take ml_X3_take (na := 1) ⟨md_X3.1, md_X3.2, by decide +kernel⟩ rfl ⟨by decide, by decide⟩ (Nat.le_of_ble_eq_true rfl) dX3_newPlace_16 (fun s5 hq => ?_)
    obtain ⟨hF, hS2, hI⟩ := hq
    replace E := zLet_s hF E
    have hS := hS.tr hS2 rfl rfl
    refine zg_aload_n X 0 rfl dX3_newPlace_19 ?_
    refine zg_cVl (As := []) (st := []) X ha0 rfl (by decide) rfl (t_X3_newName l d L kd κ _ hI a0 ha0 ) mk_X3_109 mc_X3_newName mz_X3 mi_X3_newName ml_X3_newName (na := 0) ⟨md_X3.1, md_X3.2, by decide +kernel⟩ rfl ⟨by decide, by decide⟩ (Nat.le_of_ble_eq_true rfl) dX3_newPlace_20 (fun v6 s7 hq => ?_)
    obtain ⟨hF, hS2, hI⟩ := hq
    replace E := zLet2_s hF E
    have hS := hS.tr hS2 rfl rfl
    refine zg_lstore_n X [(1, .long v6), (0, .ref a0)] dX3_newPlace_23 (by decide) rfl ?_
    refine zg_aload_n X 1 rfl dX3_newPlace_24 ?_
    refine zg_cVi (As := []) (st := []) X ha0 rfl (by decide) rfl (t_X3_knownName l d L kd κ _ hI a0 ha0 ) mk_X3_121 mc_X3_knownName mz_X3 mi_X3_knownName ml_X3_knownName (na := 0) ⟨md_X3.1, md_X3.2, by decide +kernel⟩ rfl ⟨by decide, by decide⟩ (Nat.le_of_ble_eq_true rfl) dX3_newPlace_25 (fun v8 s9 hq => ?_)
    obtain ⟨hF, hS2, hI⟩ := hq
    replace E := zLet2_s hF E
    have hS := hS.tr hS2 rfl rfl
    obtain ⟨hv8, hI⟩ := hI
    refine zg_istore_n X [(3, .int v8), (1, .long v6), (0, .ref a0)] dX3_newPlace_28 (by decide) rfl ?_
    refine zg_aload_n X 2 rfl dX3_newPlace_29 ?_
    refine zg_iconst X 1 dX3_newPlace_30 (by decide) (fun v10 _ hv10 => ?_)
    replace E := zLet_s (zcst hv10 (by decide)) E
    refine zg_bipush X 99 dX3_newPlace_31 (by decide) (fun v11 _ hv11 => ?_)
    replace E := zLet_s (zcst hv11 (by decide)) E
    refine zg_cVi (As := [.int v10, .int v11]) (st := []) X ha0 rfl (by decide) rfl (t_X3_number l d L kd κ 2 _ hI a0 ha0 v10 v11 ) mk_X3_90 mc_X3_number mz_X3 mi_X3_number ml_X3_number (na := 2) ⟨md_X3.1, md_X3.2, by decide +kernel⟩ rfl ⟨by decide, by decide⟩ (Nat.le_of_ble_eq_true rfl) dX3_newPlace_33 (fun v12 s13 hq => ?_)
    obtain ⟨hF, hS2, hI⟩ := hq
    replace E := zLet2_s hF E
    have hS := hS.tr hS2 rfl rfl
    refine zg_istore X [(4, .int v12), (3, .int v8), (1, .long v6), (0, .ref a0)] dX3_newPlace_36 (by decide) rfl ?_
    refine zg_aload_n X 3 rfl dX3_newPlace_38 ?_
    refine zg_iconst X 0 dX3_newPlace_39 (by decide) (fun v14 _ hv14 => ?_)
    replace E := zLet_s (zcst hv14 (by decide)) E
    refine zg_bipush X 99 dX3_newPlace_40 (by decide) (fun v15 _ hv15 => ?_)
    replace E := zLet_s (zcst hv15 (by decide)) E
    refine zg_cVi (As := [.int v14, .int v15]) (st := []) X ha0 rfl (by decide) rfl (t_X3_number l d L kd κ 2 _ hI a0 ha0 v14 v15 ) mk_X3_90 mc_X3_number mz_X3 mi_X3_number ml_X3_number (na := 2) ⟨md_X3.1, md_X3.2, by decide +kernel⟩ rfl ⟨by decide, by decide⟩ (Nat.le_of_ble_eq_true rfl) dX3_newPlace_42 (fun v16 s17 hq => ?_)
    obtain ⟨hF, hS2, hI⟩ := hq
    replace E := zLet2_s hF E
    have hS := hS.tr hS2 rfl rfl
    refine zg_istore X [(5, .int v16), (4, .int v12), (3, .int v8), (1, .long v6), (0, .ref a0)] dX3_newPlace_45 (by decide) rfl ?_
    refine zg_aload_n X 4 rfl dX3_newPlace_47 ?_
    refine zg_iconst X 0 dX3_newPlace_48 (by decide) (fun v18 _ hv18 => ?_)
    replace E := zLet_s (zcst hv18 (by decide)) E
    refine zg_bipush X 99 dX3_newPlace_49 (by decide) (fun v19 _ hv19 => ?_)
    replace E := zLet_s (zcst hv19 (by decide)) E
    refine zg_cVi (As := [.int v18, .int v19]) (st := []) X ha0 rfl (by decide) rfl (t_X3_number l d L kd κ 2 _ hI a0 ha0 v18 v19 ) mk_X3_90 mc_X3_number mz_X3 mi_X3_number ml_X3_number (na := 2) ⟨md_X3.1, md_X3.2, by decide +kernel⟩ rfl ⟨by decide, by decide⟩ (Nat.le_of_ble_eq_true rfl) dX3_newPlace_51 (fun v20 s21 hq => ?_)
    obtain ⟨hF, hS2, hI⟩ := hq
    replace E := zLet2_s hF E
    have hS := hS.tr hS2 rfl rfl
    refine zg_istore X [(6, .int v20), (5, .int v16), (4, .int v12), (3, .int v8), (1, .long v6), (0, .ref a0)] dX3_newPlace_54 (by decide) rfl ?_
    refine zg_aload_n X 5 rfl dX3_newPlace_56 ?_
    refine fg_X3_43 X hI ha0 dX3_newPlace_57 (fun v22 ev22 _ => ?_)
    replace E := zLet_s ev22 E
    refine zg_if_ne X 113 dX3_newPlace_60 (by decide) (fun c23 => ?_) (fun c23 => ?_)
    · skip
      replace E := zIf_f c23 E
      exact ret _ _ _ dX3_newPlace_113 ⟨E.symm.trans hR, hS, hI⟩
    · skip
      replace E := zIf_t c23 E
      refine zg_aload_n X 5 rfl dX3_newPlace_63 ?_
      refine fg_X3_40 X hI ha0 dX3_newPlace_64 (fun v24 ev24 hv24 => ?_)
      replace E := zLet_s ev24 E
      refine zg_bipush X 11 dX3_newPlace_67 (by decide) (fun v25 _ hv25 => ?_)
      replace E := zLet_s (zcst hv25 (by decide)) E
      refine zg_icmp_ge X 113 dX3_newPlace_69 (by decide) (fun c26 => ?_) (fun c26 => ?_)
      · skip
        replace E := zIf_f (Int.not_lt.mpr c26) E
        exact ret _ _ _ dX3_newPlace_113 ⟨E.symm.trans hR, hS, hI⟩
      · skip
        replace E := zIf_t c26 E
        refine zg_aload_n X 5 rfl dX3_newPlace_72 ?_
        refine zg_dup X dX3_newPlace_73 rfl ?_
        refine fg_X3_40 X hI ha0 dX3_newPlace_74 (fun v27 ev27 hv27 => ?_)
        replace E := zLet_s ev27 E
        have mv27 : v27.toInt = v24.toInt := by rw [ev27, ← ev24]
        refine zg_iconst X 1 dX3_newPlace_77 (by decide) (fun v28 _ hv28 => ?_)
        replace E := zLet_s (zcst hv28 (by decide)) E
        refine zg_iadd X dX3_newPlace_78 (by omega) (by omega) (fun v29 ev29 hv29 => ?_)
        replace E := zLet_s ev29 E
        refine fp_X3_40 X hI ha0 ⟨by omega, by omega⟩ dX3_newPlace_79 (fun s30 es30 hI => ?_)
        replace E := zLet_s es30 E
        have hS := hS.i ha0 es30 rfl
        have e32 : v29 = s30.1 a0 7 := by rw [es30]; exact zm_s
        refine zg_aload_n X 5 rfl dX3_newPlace_82 ?_
        refine fg_X3_18 X hI ha0 dX3_newPlace_83 (fun v33 ev33 hv33 => ?_)
        replace E := zLet_s (zgr ev33) E
        refine fg_X3_113 X hI hv33 dX3_newPlace_86 (fun v34 ev34 hv34 => ?_)
        replace E := zLet_s (zgr ev34) E
        refine zg_aload_n X 5 rfl dX3_newPlace_89 ?_
        refine fg_X3_40 X hI ha0 dX3_newPlace_90 (fun v35 ev35 hv35 => ?_)
        replace E := zLet_s ev35 E
        have mv35 : v35.toInt = v29.toInt := by rw [ev35, ← e32]
        refine zg_lload_n X 4 rfl dX3_newPlace_93 ?_
        refine as_44 X hI hv34 (by omega) (by omega) dX3_newPlace_94 (fun s36 es36 hI => ?_)
        replace E := zLet_s es36 E
        have hS := hS.l hv34 es36 rfl
        have e37 : v35 = s36.1 a0 7 := by rw [es36]; exact ev35
        refine zg_aload_n X 5 rfl dX3_newPlace_95 ?_
        refine fg_X3_18 X hI ha0 dX3_newPlace_96 (fun v38 ev38 hv38 => ?_)
        replace E := zLet_s (zgr ev38) E
        refine zg_aload_n X 5 rfl dX3_newPlace_99 ?_
        refine fg_X3_40 X hI ha0 dX3_newPlace_100 (fun v39 ev39 hv39 => ?_)
        replace E := zLet_s ev39 E
        have mv39 : v39.toInt = v35.toInt := by rw [ev39, ← e37]
        refine zg_iload_n X 3 rfl dX3_newPlace_103 ?_
        refine zg_iload X 2 rfl dX3_newPlace_104 ?_
        refine zg_iload X 1 rfl dX3_newPlace_106 ?_
        refine zg_iload X 0 rfl dX3_newPlace_108 ?_
        refine zg_cVv (As := [.int v39, .int v8, .int v12, .int v16, .int v20]) (st := []) X hv38 rfl (by decide) rfl (t_X9_setPlace l d L kd κ 2 _ hI v38 hv38 v39 v8 v12 v16 v20 (by omega)) mk_X3_117 mc_X9_setPlace mz_X9 mi_X9_setPlace ml_X9_setPlace (na := 5) ⟨md_X9.1, md_X9.2, by decide +kernel⟩ rfl ⟨by decide, by decide⟩ (Nat.le_of_ble_eq_true rfl) dX3_newPlace_110 (fun s40 hq => ?_)
        obtain ⟨hF, hS2, hI⟩ := hq
        replace E := zLet_s hF E
        have hS := hS.tr hS2 rfl rfl
        exact ret _ _ _ dX3_newPlace_113 ⟨E.symm.trans hR, hS, hI⟩
  · skip
    replace E := zIf_f (Int.not_lt.mpr c3) E
    refine zg_aload_n X 0 rfl dX3_newPlace_9 ?_
    refine zg_iconst X 2 dX3_newPlace_10 (by decide) (fun v41 _ hv41 => ?_)
    replace E := zLet_s (zcst hv41 (by decide)) E
    refine zg_cVv (As := [.int v41]) (st := []) X ha0 rfl (by decide) rfl (t_X3_fail l d L kd κ 2 _ hI a0 ha0 v41 ) mk_X3_106 mc_X3_fail mz_X3 mi_X3_fail ml_X3_fail (na := 1) ⟨md_X3.1, md_X3.2, by decide +kernel⟩ rfl ⟨by decide, by decide⟩ (Nat.le_of_ble_eq_true rfl) dX3_newPlace_11 (fun s42 hq => ?_)
    obtain ⟨hF, hS2, hI⟩ := hq
    replace E := zLet_s hF E
    have hS := hS.tr hS2 rfl rfl
    refine zg_aload_n X 0 rfl dX3_newPlace_14 ?_
    refine zg_iconst X 1 dX3_newPlace_15 (by decide) (fun v43 _ hv43 => ?_)
    replace E := zLet_s (zcst hv43 (by decide)) E
    refine zg_cVv (As := [.int v43]) (st := []) X ha0 rfl (by decide) rfl (t_X3_take l d L kd κ 2 _ hI a0 ha0 v43 ) mk_X3_87 mc_X3_take mz_X3 mi_X3_take ml_X3_take (na := 1) ⟨md_X3.1, md_X3.2, by decide +kernel⟩ rfl ⟨by decide, by decide⟩ (Nat.le_of_ble_eq_true rfl) dX3_newPlace_16 (fun s44 hq => ?_)
    obtain ⟨hF, hS2, hI⟩ := hq
    replace E := zLet_s hF E
    have hS := hS.tr hS2 rfl rfl
    refine zg_aload_n X 0 rfl dX3_newPlace_19 ?_
    refine zg_cVl (As := []) (st := []) X ha0 rfl (by decide) rfl (t_X3_newName l d L kd κ _ hI a0 ha0 ) mk_X3_109 mc_X3_newName mz_X3 mi_X3_newName ml_X3_newName (na := 0) ⟨md_X3.1, md_X3.2, by decide +kernel⟩ rfl ⟨by decide, by decide⟩ (Nat.le_of_ble_eq_true rfl) dX3_newPlace_20 (fun v45 s46 hq => ?_)
    obtain ⟨hF, hS2, hI⟩ := hq
    replace E := zLet2_s hF E
    have hS := hS.tr hS2 rfl rfl
    refine zg_lstore_n X [(1, .long v45), (0, .ref a0)] dX3_newPlace_23 (by decide) rfl ?_
    refine zg_aload_n X 1 rfl dX3_newPlace_24 ?_
    refine zg_cVi (As := []) (st := []) X ha0 rfl (by decide) rfl (t_X3_knownName l d L kd κ _ hI a0 ha0 ) mk_X3_121 mc_X3_knownName mz_X3 mi_X3_knownName ml_X3_knownName (na := 0) ⟨md_X3.1, md_X3.2, by decide +kernel⟩ rfl ⟨by decide, by decide⟩ (Nat.le_of_ble_eq_true rfl) dX3_newPlace_25 (fun v47 s48 hq => ?_)
    obtain ⟨hF, hS2, hI⟩ := hq
    replace E := zLet2_s hF E
    have hS := hS.tr hS2 rfl rfl
    obtain ⟨hv47, hI⟩ := hI
    refine zg_istore_n X [(3, .int v47), (1, .long v45), (0, .ref a0)] dX3_newPlace_28 (by decide) rfl ?_
    refine zg_aload_n X 2 rfl dX3_newPlace_29 ?_
    refine zg_iconst X 1 dX3_newPlace_30 (by decide) (fun v49 _ hv49 => ?_)
    replace E := zLet_s (zcst hv49 (by decide)) E
    refine zg_bipush X 99 dX3_newPlace_31 (by decide) (fun v50 _ hv50 => ?_)
    replace E := zLet_s (zcst hv50 (by decide)) E
    refine zg_cVi (As := [.int v49, .int v50]) (st := []) X ha0 rfl (by decide) rfl (t_X3_number l d L kd κ 2 _ hI a0 ha0 v49 v50 ) mk_X3_90 mc_X3_number mz_X3 mi_X3_number ml_X3_number (na := 2) ⟨md_X3.1, md_X3.2, by decide +kernel⟩ rfl ⟨by decide, by decide⟩ (Nat.le_of_ble_eq_true rfl) dX3_newPlace_33 (fun v51 s52 hq => ?_)
    obtain ⟨hF, hS2, hI⟩ := hq
    replace E := zLet2_s hF E
    have hS := hS.tr hS2 rfl rfl
    refine zg_istore X [(4, .int v51), (3, .int v47), (1, .long v45), (0, .ref a0)] dX3_newPlace_36 (by decide) rfl ?_
    refine zg_aload_n X 3 rfl dX3_newPlace_38 ?_
    refine zg_iconst X 0 dX3_newPlace_39 (by decide) (fun v53 _ hv53 => ?_)
    replace E := zLet_s (zcst hv53 (by decide)) E
    refine zg_bipush X 99 dX3_newPlace_40 (by decide) (fun v54 _ hv54 => ?_)
    replace E := zLet_s (zcst hv54 (by decide)) E
    refine zg_cVi (As := [.int v53, .int v54]) (st := []) X ha0 rfl (by decide) rfl (t_X3_number l d L kd κ 2 _ hI a0 ha0 v53 v54 ) mk_X3_90 mc_X3_number mz_X3 mi_X3_number ml_X3_number (na := 2) ⟨md_X3.1, md_X3.2, by decide +kernel⟩ rfl ⟨by decide, by decide⟩ (Nat.le_of_ble_eq_true rfl) dX3_newPlace_42 (fun v55 s56 hq => ?_)
    obtain ⟨hF, hS2, hI⟩ := hq
    replace E := zLet2_s hF E
    have hS := hS.tr hS2 rfl rfl
    refine zg_istore X [(5, .int v55), (4, .int v51), (3, .int v47), (1, .long v45), (0, .ref a0)] dX3_newPlace_45 (by decide) rfl ?_
    refine zg_aload_n X 4 rfl dX3_newPlace_47 ?_
    refine zg_iconst X 0 dX3_newPlace_48 (by decide) (fun v57 _ hv57 => ?_)
    replace E := zLet_s (zcst hv57 (by decide)) E
    refine zg_bipush X 99 dX3_newPlace_49 (by decide) (fun v58 _ hv58 => ?_)
    replace E := zLet_s (zcst hv58 (by decide)) E
    refine zg_cVi (As := [.int v57, .int v58]) (st := []) X ha0 rfl (by decide) rfl (t_X3_number l d L kd κ 2 _ hI a0 ha0 v57 v58 ) mk_X3_90 mc_X3_number mz_X3 mi_X3_number ml_X3_number (na := 2) ⟨md_X3.1, md_X3.2, by decide +kernel⟩ rfl ⟨by decide, by decide⟩ (Nat.le_of_ble_eq_true rfl) dX3_newPlace_51 (fun v59 s60 hq => ?_)
    obtain ⟨hF, hS2, hI⟩ := hq
    replace E := zLet2_s hF E
    have hS := hS.tr hS2 rfl rfl
    refine zg_istore X [(6, .int v59), (5, .int v55), (4, .int v51), (3, .int v47), (1, .long v45), (0, .ref a0)] dX3_newPlace_54 (by decide) rfl ?_
    refine zg_aload_n X 5 rfl dX3_newPlace_56 ?_
    refine fg_X3_43 X hI ha0 dX3_newPlace_57 (fun v61 ev61 _ => ?_)
    replace E := zLet_s ev61 E
    refine zg_if_ne X 113 dX3_newPlace_60 (by decide) (fun c62 => ?_) (fun c62 => ?_)
    · skip
      replace E := zIf_f c62 E
      exact ret _ _ _ dX3_newPlace_113 ⟨E.symm.trans hR, hS, hI⟩
    · skip
      replace E := zIf_t c62 E
      refine zg_aload_n X 5 rfl dX3_newPlace_63 ?_
      refine fg_X3_40 X hI ha0 dX3_newPlace_64 (fun v63 ev63 hv63 => ?_)
      replace E := zLet_s ev63 E
      refine zg_bipush X 11 dX3_newPlace_67 (by decide) (fun v64 _ hv64 => ?_)
      replace E := zLet_s (zcst hv64 (by decide)) E
      refine zg_icmp_ge X 113 dX3_newPlace_69 (by decide) (fun c65 => ?_) (fun c65 => ?_)
      · skip
        replace E := zIf_f (Int.not_lt.mpr c65) E
        exact ret _ _ _ dX3_newPlace_113 ⟨E.symm.trans hR, hS, hI⟩
      · skip
        replace E := zIf_t c65 E
        refine zg_aload_n X 5 rfl dX3_newPlace_72 ?_
        refine zg_dup X dX3_newPlace_73 rfl ?_
        refine fg_X3_40 X hI ha0 dX3_newPlace_74 (fun v66 ev66 hv66 => ?_)
        replace E := zLet_s ev66 E
        have mv66 : v66.toInt = v63.toInt := by rw [ev66, ← ev63]
        refine zg_iconst X 1 dX3_newPlace_77 (by decide) (fun v67 _ hv67 => ?_)
        replace E := zLet_s (zcst hv67 (by decide)) E
        refine zg_iadd X dX3_newPlace_78 (by omega) (by omega) (fun v68 ev68 hv68 => ?_)
        replace E := zLet_s ev68 E
        refine fp_X3_40 X hI ha0 ⟨by omega, by omega⟩ dX3_newPlace_79 (fun s69 es69 hI => ?_)
        replace E := zLet_s es69 E
        have hS := hS.i ha0 es69 rfl
        have e71 : v68 = s69.1 a0 7 := by rw [es69]; exact zm_s
        refine zg_aload_n X 5 rfl dX3_newPlace_82 ?_
        refine fg_X3_18 X hI ha0 dX3_newPlace_83 (fun v72 ev72 hv72 => ?_)
        replace E := zLet_s (zgr ev72) E
        refine fg_X3_113 X hI hv72 dX3_newPlace_86 (fun v73 ev73 hv73 => ?_)
        replace E := zLet_s (zgr ev73) E
        refine zg_aload_n X 5 rfl dX3_newPlace_89 ?_
        refine fg_X3_40 X hI ha0 dX3_newPlace_90 (fun v74 ev74 hv74 => ?_)
        replace E := zLet_s ev74 E
        have mv74 : v74.toInt = v68.toInt := by rw [ev74, ← e71]
        refine zg_lload_n X 4 rfl dX3_newPlace_93 ?_
        refine as_44 X hI hv73 (by omega) (by omega) dX3_newPlace_94 (fun s75 es75 hI => ?_)
        replace E := zLet_s es75 E
        have hS := hS.l hv73 es75 rfl
        have e76 : v74 = s75.1 a0 7 := by rw [es75]; exact ev74
        refine zg_aload_n X 5 rfl dX3_newPlace_95 ?_
        refine fg_X3_18 X hI ha0 dX3_newPlace_96 (fun v77 ev77 hv77 => ?_)
        replace E := zLet_s (zgr ev77) E
        refine zg_aload_n X 5 rfl dX3_newPlace_99 ?_
        refine fg_X3_40 X hI ha0 dX3_newPlace_100 (fun v78 ev78 hv78 => ?_)
        replace E := zLet_s ev78 E
        have mv78 : v78.toInt = v74.toInt := by rw [ev78, ← e76]
        refine zg_iload_n X 3 rfl dX3_newPlace_103 ?_
        refine zg_iload X 2 rfl dX3_newPlace_104 ?_
        refine zg_iload X 1 rfl dX3_newPlace_106 ?_
        refine zg_iload X 0 rfl dX3_newPlace_108 ?_
        refine zg_cVv (As := [.int v78, .int v47, .int v51, .int v55, .int v59]) (st := []) X hv77 rfl (by decide) rfl (t_X9_setPlace l d L kd κ 2 _ hI v77 hv77 v78 v47 v51 v55 v59 (by omega)) mk_X3_117 mc_X9_setPlace mz_X9 mi_X9_setPlace ml_X9_setPlace (na := 5) ⟨md_X9.1, md_X9.2, by decide +kernel⟩ rfl ⟨by decide, by decide⟩ (Nat.le_of_ble_eq_true rfl) dX3_newPlace_110 (fun s79 hq => ?_)
        obtain ⟨hF, hS2, hI⟩ := hq
        replace E := zLet_s hF E
        have hS := hS.tr hS2 rfl rfl
        exact ret _ _ _ dX3_newPlace_113 ⟨E.symm.trans hR, hS, hI⟩
set_option maxHeartbeats 4000000 in
set_option maxRecDepth 100000 in
theorem t_X3_unit_o6 (l : Launch) (d : zD2) (L : List Nat) (kd : Nat → Nat) (κ : Int) (σ : zS) (hI : zI κ 2 L kd σ) (a0 : Nat) (ha0 : zT L kd a0 3) (p1 : Int32) (hq0 : p1.toInt = 6) : zMv l yX3_unit (Cond.code yX3_unit cX3_unit 2 none :: zWL) 2 [.ref a0, .int p1] d L kd σ (fun σ2 => σ2 = F_X3_unit_o6 a0 p1 σ ∧ zSm [3, 9, 49, 50] [] L kd σ σ2 ∧ (zI κ 2 L kd σ2)) := by
  refine zMv.of (own := RX3) (by decide +kernel) rfl rfl (Nat.le_of_ble_eq_true rfl) ?_
  intro p e s m args below meth c A Q X ret
  refine zg_lv (lv2 := [(0, .ref a0), (1, .int p1)]) rfl ?_
  obtain ⟨R, hR⟩ : ∃ R, R = F_X3_unit_o6 a0 p1 σ := ⟨_, rfl⟩
  have E := hR
  unfold F_X3_unit_o6 at E
  have hS : zSm [3, 9, 49, 50] [] L kd σ σ := zSm.rf
  refine zg_aload_n X 0 rfl dX3_unit_0 ?_
  refine fg_X3_26 X hI ha0 dX3_unit_1 (fun v1 ev1 _ => ?_)
  replace E := zLet_s ev1 E
  refine zg_bipush X 23 dX3_unit_4 (by decide) (fun v2 _ hv2 => ?_)
  replace E := zLet_s (zcst hv2 (by decide)) E
  refine zg_icmp_ne X 33 dX3_unit_6 (by decide) (fun c3 => ?_) (fun c3 => ?_)
  · skip
    replace E := zIf_f c3 E
    refine zg_aload_n X 0 rfl dX3_unit_33 ?_
    refine fg_X3_26 X hI ha0 dX3_unit_34 (fun v4 ev4 _ => ?_)
    replace E := zLet_s ev4 E
    have mv4 : v4.toInt = v1.toInt := by rw [ev4, ← ev1]
    refine zg_bipush X 13 dX3_unit_37 (by decide) (fun v5 _ hv5 => ?_)
    replace E := zLet_s (zcst hv5 (by decide)) E
    have zv4_z6 := zb_rng v4
    refine zg_icmp_lt X 77 dX3_unit_39 (by decide) (fun c7 => ?_) (fun c7 => ?_)
    · skip
      replace E := zIf_t c7 E
      refine zg_aload_n X 0 rfl dX3_unit_77 ?_
      refine fg_X3_26 X hI ha0 dX3_unit_78 (fun v8 ev8 _ => ?_)
      replace E := zLet_s ev8 E
      have mv8 : v8.toInt = v4.toInt := by rw [ev8, ← ev4]
      refine zg_bipush X 31 dX3_unit_81 (by decide) (fun v9 _ hv9 => ?_)
      replace E := zLet_s (zcst hv9 (by decide)) E
      refine zg_icmp_ne X 116 dX3_unit_83 (by decide) (fun c10 => ?_) (fun c10 => ?_)
      · skip
        replace E := zIf_f c10 E
        refine zg_aload_n X 0 rfl dX3_unit_116 ?_
        refine zg_aload_n X 0 rfl dX3_unit_117 ?_
        refine fg_X3_26 X hI ha0 dX3_unit_118 (fun v11 ev11 _ => ?_)
        replace E := zLet_s ev11 E
        have mv11 : v11.toInt = v8.toInt := by rw [ev11, ← ev8]
        refine zg_bipush X 31 dX3_unit_121 (by decide) (fun v12 _ hv12 => ?_)
        replace E := zLet_s (zcst hv12 (by decide)) E
        refine zg_icmp_ne X 130 dX3_unit_123 (by decide) (fun c13 => ?_) (fun c13 => ?_)
        · skip
          replace E := zIf_f c13 E
          refine zg_iconst X 1 dX3_unit_130 (by decide) (fun v14 _ hv14 => ?_)
          replace E := zLet_s (zcst hv14 (by decide)) E
          refine zg_cVv (As := [.int v14]) (st := []) X ha0 rfl (by decide) rfl (t_X3_fail l d L kd κ 2 _ hI a0 ha0 v14 ) mk_X3_106 mc_X3_fail mz_X3 mi_X3_fail ml_X3_fail (na := 1) ⟨md_X3.1, md_X3.2, by decide +kernel⟩ rfl ⟨by decide, by decide⟩ (Nat.le_of_ble_eq_true rfl) dX3_unit_131 (fun s15 hq => ?_)
          obtain ⟨hF, hS2, hI⟩ := hq
          replace E := zLet_s hF E
          have hS := hS.tr hS2 rfl rfl
          exact ret _ _ _ dX3_unit_134 ⟨E.symm.trans hR, hS, hI⟩
        · omega
      · omega
    · skip
      replace E := zIf_f (Int.not_lt.mpr c7) E
      refine zg_aload_n X 0 rfl dX3_unit_42 ?_
      refine fg_X3_26 X hI ha0 dX3_unit_43 (fun v16 ev16 _ => ?_)
      replace E := zLet_s ev16 E
      have mv16 : v16.toInt = v4.toInt := by rw [ev16, ← ev4]
      refine zg_bipush X 22 dX3_unit_46 (by decide) (fun v17 _ hv17 => ?_)
      replace E := zLet_s (zcst hv17 (by decide)) E
      have zv16_z18 := zb_rng v16
      refine zg_icmp_ge X 77 dX3_unit_48 (by decide) (fun c19 => ?_) (fun c19 => ?_)
      · skip
        replace E := zIf_f (Int.not_lt.mpr c19) E
        refine zg_aload_n X 0 rfl dX3_unit_77 ?_
        refine fg_X3_26 X hI ha0 dX3_unit_78 (fun v20 ev20 _ => ?_)
        replace E := zLet_s ev20 E
        have mv20 : v20.toInt = v16.toInt := by rw [ev20, ← ev16]
        refine zg_bipush X 31 dX3_unit_81 (by decide) (fun v21 _ hv21 => ?_)
        replace E := zLet_s (zcst hv21 (by decide)) E
        refine zg_icmp_ne X 116 dX3_unit_83 (by decide) (fun c22 => ?_) (fun c22 => ?_)
        · skip
          replace E := zIf_f c22 E
          refine zg_aload_n X 0 rfl dX3_unit_116 ?_
          refine zg_aload_n X 0 rfl dX3_unit_117 ?_
          refine fg_X3_26 X hI ha0 dX3_unit_118 (fun v23 ev23 _ => ?_)
          replace E := zLet_s ev23 E
          have mv23 : v23.toInt = v20.toInt := by rw [ev23, ← ev20]
          refine zg_bipush X 31 dX3_unit_121 (by decide) (fun v24 _ hv24 => ?_)
          replace E := zLet_s (zcst hv24 (by decide)) E
          refine zg_icmp_ne X 130 dX3_unit_123 (by decide) (fun c25 => ?_) (fun c25 => ?_)
          · skip
            replace E := zIf_f c25 E
            refine zg_iconst X 1 dX3_unit_130 (by decide) (fun v26 _ hv26 => ?_)
            replace E := zLet_s (zcst hv26 (by decide)) E
            refine zg_cVv (As := [.int v26]) (st := []) X ha0 rfl (by decide) rfl (t_X3_fail l d L kd κ 2 _ hI a0 ha0 v26 ) mk_X3_106 mc_X3_fail mz_X3 mi_X3_fail ml_X3_fail (na := 1) ⟨md_X3.1, md_X3.2, by decide +kernel⟩ rfl ⟨by decide, by decide⟩ (Nat.le_of_ble_eq_true rfl) dX3_unit_131 (fun s27 hq => ?_)
            obtain ⟨hF, hS2, hI⟩ := hq
            replace E := zLet_s hF E
            have hS := hS.tr hS2 rfl rfl
            exact ret _ _ _ dX3_unit_134 ⟨E.symm.trans hR, hS, hI⟩
          · skip
            replace E := zIf_t c25 E
            refine zg_iconst X 2 dX3_unit_126 (by decide) (fun v28 _ hv28 => ?_)
            replace E := zLet_s (zcst hv28 (by decide)) E
            refine zg_goto X 131 dX3_unit_127 (by decide) ?_
            refine zg_cVv (As := [.int v28]) (st := []) X ha0 rfl (by decide) rfl (t_X3_fail l d L kd κ 2 _ hI a0 ha0 v28 ) mk_X3_106 mc_X3_fail mz_X3 mi_X3_fail ml_X3_fail (na := 1) ⟨md_X3.1, md_X3.2, by decide +kernel⟩ rfl ⟨by decide, by decide⟩ (Nat.le_of_ble_eq_true rfl) dX3_unit_131 (fun s29 hq => ?_)
            obtain ⟨hF, hS2, hI⟩ := hq
            replace E := zLet_s hF E
            have hS := hS.tr hS2 rfl rfl
            exact ret _ _ _ dX3_unit_134 ⟨E.symm.trans hR, hS, hI⟩
        · skip
          replace E := zIf_t c22 E
          refine zg_iload_n X 1 rfl dX3_unit_86 ?_
          refine zg_bipush X 6 dX3_unit_87 (by decide) (fun v30 _ hv30 => ?_)
          replace E := zLet_s (zcst hv30 (by decide)) E
          refine zg_icmp_ge X 116 dX3_unit_89 (by decide) (fun c31 => ?_) (fun c31 => ?_)
          · skip
            replace E := zIf_f (Int.not_lt.mpr c31) E
            refine zg_aload_n X 0 rfl dX3_unit_116 ?_
            refine zg_aload_n X 0 rfl dX3_unit_117 ?_
            refine fg_X3_26 X hI ha0 dX3_unit_118 (fun v32 ev32 _ => ?_)
            replace E := zLet_s ev32 E
            have mv32 : v32.toInt = v20.toInt := by rw [ev32, ← ev20]
            refine zg_bipush X 31 dX3_unit_121 (by decide) (fun v33 _ hv33 => ?_)
            replace E := zLet_s (zcst hv33 (by decide)) E
            refine zg_icmp_ne X 130 dX3_unit_123 (by decide) (fun c34 => ?_) (fun c34 => ?_)
            · omega
            · skip
              replace E := zIf_t c34 E
              refine zg_iconst X 2 dX3_unit_126 (by decide) (fun v35 _ hv35 => ?_)
              replace E := zLet_s (zcst hv35 (by decide)) E
              refine zg_goto X 131 dX3_unit_127 (by decide) ?_
              refine zg_cVv (As := [.int v35]) (st := []) X ha0 rfl (by decide) rfl (t_X3_fail l d L kd κ 2 _ hI a0 ha0 v35 ) mk_X3_106 mc_X3_fail mz_X3 mi_X3_fail ml_X3_fail (na := 1) ⟨md_X3.1, md_X3.2, by decide +kernel⟩ rfl ⟨by decide, by decide⟩ (Nat.le_of_ble_eq_true rfl) dX3_unit_131 (fun s36 hq => ?_)
              obtain ⟨hF, hS2, hI⟩ := hq
              replace E := zLet_s hF E
              have hS := hS.tr hS2 rfl rfl
              exact ret _ _ _ dX3_unit_134 ⟨E.symm.trans hR, hS, hI⟩
          · omega
      · skip
        replace E := zIf_t c19 E
        refine zg_aload_n X 0 rfl dX3_unit_51 ?_
        refine fg_X3_18 X hI ha0 dX3_unit_52 (fun v37 ev37 hv37 => ?_)
        replace E := zLet_s (zgr ev37) E
        refine zg_iconst X 1 dX3_unit_55 (by decide) (fun v38 _ hv38 => ?_)
        replace E := zLet_s (zcst hv38 (by decide)) E
        refine zg_aload_n X 0 rfl dX3_unit_56 ?_
        refine fg_X3_26 X hI ha0 dX3_unit_57 (fun v39 ev39 _ => ?_)
        replace E := zLet_s ev39 E
        have mv39 : v39.toInt = v16.toInt := by rw [ev39, ← ev16]
        refine zg_bipush X 13 dX3_unit_60 (by decide) (fun v40 _ hv40 => ?_)
        replace E := zLet_s (zcst hv40 (by decide)) E
        refine zg_isub X dX3_unit_62 (by omega) (by omega) (fun v41 ev41 hv41 => ?_)
        replace E := zLet_s ev41 E
        refine zg_cVv (As := [.int v38, .int v41]) (st := []) X hv37 rfl (by decide) rfl (t_X9_addStep l d L kd κ 2 _ hI v37 hv37 v38 v41 ) mk_X3_145 mc_X9_addStep mz_X9 mi_X9_addStep ml_X9_addStep (na := 2) ⟨md_X9.1, md_X9.2, by decide +kernel⟩ rfl ⟨by decide, by decide⟩ (Nat.le_of_ble_eq_true rfl) dX3_unit_63 (fun s42 hq => ?_)
        obtain ⟨hF, hS2, hI⟩ := hq
        replace E := zLet_s hF E
        have hS := hS.tr hS2 rfl rfl
        refine zg_aload_n X 0 rfl dX3_unit_66 ?_
        refine zg_aload_n X 0 rfl dX3_unit_67 ?_
        refine fg_X3_26 X hI ha0 dX3_unit_68 (fun v43 ev43 _ => ?_)
        replace E := zLet_s ev43 E
        refine zg_cVv (As := [.int v43]) (st := []) X ha0 rfl (by decide) rfl (t_X3_take l d L kd κ 2 _ hI a0 ha0 v43 ) mk_X3_87 mc_X3_take mz_X3 mi_X3_take ml_X3_take (na := 1) ⟨md_X3.1, md_X3.2, by decide +kernel⟩ rfl ⟨by decide, by decide⟩ (Nat.le_of_ble_eq_true rfl) dX3_unit_71 (fun s44 hq => ?_)
        obtain ⟨hF, hS2, hI⟩ := hq
        replace E := zLet_s hF E
        have hS := hS.tr hS2 rfl rfl
        refine zg_goto X 134 dX3_unit_74 (by decide) ?_
        exact ret _ _ _ dX3_unit_134 ⟨E.symm.trans hR, hS, hI⟩
  · skip
    replace E := zIf_t c3 E
    refine zg_aload_n X 0 rfl dX3_unit_9 ?_
    refine fg_X3_18 X hI ha0 dX3_unit_10 (fun v45 ev45 hv45 => ?_)
    replace E := zLet_s (zgr ev45) E
    refine zg_iconst X 0 dX3_unit_13 (by decide) (fun v46 _ hv46 => ?_)
    replace E := zLet_s (zcst hv46 (by decide)) E
    refine zg_aload_n X 0 rfl dX3_unit_14 ?_
    refine fg_X3_29 X ha0 dX3_unit_15 (fun v47 ev47 => ?_)
    replace E := zLet_s ev47 E
    refine zg_l2i X dX3_unit_18 (fun v48 ev48 => ?_)
    replace E := zLet_s ev48 E
    refine zg_cVv (As := [.int v46, .int v48]) (st := []) X hv45 rfl (by decide) rfl (t_X9_addStep l d L kd κ 2 _ hI v45 hv45 v46 v48 ) mk_X3_145 mc_X9_addStep mz_X9 mi_X9_addStep ml_X9_addStep (na := 2) ⟨md_X9.1, md_X9.2, by decide +kernel⟩ rfl ⟨by decide, by decide⟩ (Nat.le_of_ble_eq_true rfl) dX3_unit_19 (fun s49 hq => ?_)
    obtain ⟨hF, hS2, hI⟩ := hq
    replace E := zLet_s hF E
    have hS := hS.tr hS2 rfl rfl
    refine zg_aload_n X 0 rfl dX3_unit_22 ?_
    refine zg_aload_n X 0 rfl dX3_unit_23 ?_
    refine fg_X3_26 X hI ha0 dX3_unit_24 (fun v50 ev50 _ => ?_)
    replace E := zLet_s ev50 E
    refine zg_cVv (As := [.int v50]) (st := []) X ha0 rfl (by decide) rfl (t_X3_take l d L kd κ 2 _ hI a0 ha0 v50 ) mk_X3_87 mc_X3_take mz_X3 mi_X3_take ml_X3_take (na := 1) ⟨md_X3.1, md_X3.2, by decide +kernel⟩ rfl ⟨by decide, by decide⟩ (Nat.le_of_ble_eq_true rfl) dX3_unit_27 (fun s51 hq => ?_)
    obtain ⟨hF, hS2, hI⟩ := hq
    replace E := zLet_s hF E
    have hS := hS.tr hS2 rfl rfl
    refine zg_goto X 134 dX3_unit_30 (by decide) ?_
    exact ret _ _ _ dX3_unit_134 ⟨E.symm.trans hR, hS, hI⟩
set_option maxHeartbeats 4000000 in
set_option maxRecDepth 100000 in
theorem t_X3_product_o6 (l : Launch) (d : zD2) (L : List Nat) (kd : Nat → Nat) (κ : Int) (σ : zS) (hI : zI κ 2 L kd σ) (a0 : Nat) (ha0 : zT L kd a0 3) (p1 : Int32) (hq0 : p1.toInt = 6) : zMv l yX3_product (Cond.code yX3_product cX3_product 4 none :: zWL) 3 [.ref a0, .int p1] d L kd σ (fun σ2 => σ2 = F_X3_product_o6 a0 p1 σ ∧ zSm [3, 9, 49, 50] [] L kd σ σ2 ∧ (zI κ 2 L kd σ2)) := by
  refine zMv.of (own := RX3) (by decide +kernel) rfl rfl (Nat.le_of_ble_eq_true rfl) ?_
  intro p e s m args below meth c A Q X ret
  refine zg_lv (lv2 := [(0, .ref a0), (1, .int p1)]) rfl ?_
  obtain ⟨R, hR⟩ : ∃ R, R = F_X3_product_o6 a0 p1 σ := ⟨_, rfl⟩
  have E := hR
  unfold F_X3_product_o6 at E
  have hS : zSm [3, 9, 49, 50] [] L kd σ σ := zSm.rf
  refine zg_aload_n X 0 rfl dX3_product_0 ?_
  refine zg_iload_n X 1 rfl dX3_product_1 ?_
  refine zg_cVv (As := [.int p1]) (st := []) X ha0 rfl (by decide) rfl (t_X3_unit_o6 l d L kd κ _ hI a0 ha0 p1 (by omega)) mk_X3_159 mc_X3_unit mz_X3 mi_X3_unit ml_X3_unit (na := 1) ⟨md_X3.1, md_X3.2, by decide +kernel⟩ rfl ⟨by decide, by decide⟩ (Nat.le_of_ble_eq_true rfl) dX3_product_2 (fun s1 hq => ?_)
  obtain ⟨hF, hS2, hI⟩ := hq
  replace E := zLet_s hF E
  have hS := hS.tr hS2 rfl rfl
  refine zg_iconst X 0 dX3_product_5 (by decide) (fun v2 _ hv2 => ?_)
  replace E := zLet_s (zcst hv2 (by decide)) E
  refine zg_istore_n X [(2, .int v2), (0, .ref a0), (1, .int p1)] dX3_product_6 (by decide) rfl ?_
  have Lp4 : ∀ (nLp4 : Nat) (τ4 : zS) (x3 : Int32), zI κ 2 L kd τ4 → zSm [3, 9, 49, 50] [] L kd σ τ4 → R = F_X3_product_o6_7 a0 p1  nLp4 x3 τ4 → 0 ≤ x3.toInt ∧ x3.toInt ≤ 401 → (401) - x3.toInt + 1 < (nLp4 : Int) → zG d L kd A 4 p l e (k2_rm 3 (100 * 3)) s m args below meth c Q τ4 7 [(2, .int x3), (0, .ref a0), (1, .int p1)] [] := by
    intro nLp4
    induction nLp4 with
    | zero => intro τ4 x3 hI hS E  hxLp4 hm ; exact absurd hm (by omega)
    | succ nLp4 ihLp4 =>
      intro τ4 x3 hI hS E  hxLp4 hmLp4 
      rw [F_X3_product_o6_7] at E
      refine zg_iload_n X 0 rfl dX3_product_7 ?_
      refine zg_sipush X 400 dX3_product_8 (by decide) (fun v5 _ hv5 => ?_)
      replace E := zLet_s (zcst hv5 (by decide)) E
      refine zg_icmp_gt X 68 dX3_product_11 (by decide) (fun c6 => ?_) (fun c6 => ?_)
      · skip
        replace E := zIf_t c6 E
        exact ret _ _ _ dX3_product_68 ⟨E.symm.trans hR, hS, hI⟩
      · skip
        replace E := zIf_f (Int.not_lt.mpr c6) E
        refine zg_aload_n X 1 rfl dX3_product_14 ?_
        refine fg_X3_26 X hI ha0 dX3_product_15 (fun v7 ev7 _ => ?_)
        replace E := zLet_s ev7 E
        refine zg_bipush X 28 dX3_product_18 (by decide) (fun v8 _ hv8 => ?_)
        replace E := zLet_s (zcst hv8 (by decide)) E
        refine zg_bipush X 29 dX3_product_20 (by decide) (fun v9 _ hv9 => ?_)
        replace E := zLet_s (zcst hv9 (by decide)) E
        refine zg_cSNi (As := [.int v7, .int v8, .int v9]) (st := []) X (t_X10_isWithin l d L kd _ v7 v8 v9 ) mk_X3_80 mc_X10_isWithin mz_X10 ms_X10_isWithin (na := 3) ⟨md_X10.1, md_X10.2, by decide +kernel⟩ rfl ⟨by decide, by decide⟩ (Nat.le_of_ble_eq_true rfl) dX3_product_22 (fun v10 σ2 hq => ?_)
        obtain ⟨⟨hF, hv10⟩, rfl⟩ := hq
        replace E := zLet_s hF E
        refine zg_if_eq X 68 dX3_product_25 (by decide) (fun c11 => ?_) (fun c11 => ?_)
        · skip
          replace E := zIf_t c11 E
          exact ret _ _ _ dX3_product_68 ⟨E.symm.trans hR, hS, hI⟩
        · skip
          replace E := zIf_f c11 E
          refine zg_aload_n X 1 rfl dX3_product_28 ?_
          refine fg_X3_26 X hI ha0 dX3_product_29 (fun v12 ev12 _ => ?_)
          replace E := zLet_s ev12 E
          have mv12 : v12.toInt = v7.toInt := by rw [ev12, ← ev7]
          refine zg_istore_n X [(3, .int v12), (2, .int x3), (0, .ref a0), (1, .int p1)] dX3_product_32 (by decide) rfl ?_
          refine zg_aload_n X 2 rfl dX3_product_33 ?_
          refine zg_iload_n X 0 rfl dX3_product_34 ?_
          refine zg_cVv (As := [.int v12]) (st := []) X ha0 rfl (by decide) rfl (t_X3_take l d L kd κ 2 _ hI a0 ha0 v12 ) mk_X3_87 mc_X3_take mz_X3 mi_X3_take ml_X3_take (na := 1) ⟨md_X3.1, md_X3.2, by decide +kernel⟩ rfl ⟨by decide, by decide⟩ (Nat.le_of_ble_eq_true rfl) dX3_product_35 (fun s13 hq => ?_)
          obtain ⟨hF, hS2, hI⟩ := hq
          replace E := zLet_s hF E
          have hS := hS.tr hS2 rfl rfl
          refine zg_aload_n X 2 rfl dX3_product_38 ?_
          refine zg_iload_n X 3 rfl dX3_product_39 ?_
          refine zg_cVv (As := [.int p1]) (st := []) X ha0 rfl (by decide) rfl (t_X3_unit_o6 l d L kd κ _ hI a0 ha0 p1 (by omega)) mk_X3_159 mc_X3_unit mz_X3 mi_X3_unit ml_X3_unit (na := 1) ⟨md_X3.1, md_X3.2, by decide +kernel⟩ rfl ⟨by decide, by decide⟩ (Nat.le_of_ble_eq_true rfl) dX3_product_40 (fun s14 hq => ?_)
          obtain ⟨hF, hS2, hI⟩ := hq
          replace E := zLet_s hF E
          have hS := hS.tr hS2 rfl rfl
          refine zg_aload_n X 2 rfl dX3_product_43 ?_
          refine fg_X3_18 X hI ha0 dX3_product_44 (fun v15 ev15 hv15 => ?_)
          replace E := zLet_s (zgr ev15) E
          refine zg_iload_n X 0 rfl dX3_product_47 ?_
          refine zg_bipush X 28 dX3_product_48 (by decide) (fun v16 _ hv16 => ?_)
          replace E := zLet_s (zcst hv16 (by decide)) E
          refine zg_icmp_ne X 57 dX3_product_50 (by decide) (fun c17 => ?_) (fun c17 => ?_)
          · skip
            replace E := zIf_f c17 E
            refine zg_iconst X 5 dX3_product_57 (by decide) (fun v18 _ hv18 => ?_)
            replace E := zLet_s (zcst hv18 (by decide)) E
            refine zg_iconst X 0 dX3_product_58 (by decide) (fun v19 _ hv19 => ?_)
            replace E := zLet_s (zcst hv19 (by decide)) E
            refine zg_cVv (As := [.int v18, .int v19]) (st := []) X hv15 rfl (by decide) rfl (t_X9_addStep l d L kd κ 2 _ hI v15 hv15 v18 v19 ) mk_X3_145 mc_X9_addStep mz_X9 mi_X9_addStep ml_X9_addStep (na := 2) ⟨md_X9.1, md_X9.2, by decide +kernel⟩ rfl ⟨by decide, by decide⟩ (Nat.le_of_ble_eq_true rfl) dX3_product_59 (fun s20 hq => ?_)
            obtain ⟨hF, hS2, hI⟩ := hq
            replace E := zLet_s hF E
            have hS := hS.tr hS2 rfl rfl
            refine zg_iinc X 1 (fun v21 => [(2, .int v21), (3, .int v12), (0, .ref a0), (1, .int p1)]) 1 dX3_product_62 rfl (by decide) (by decide) (by omega) (by omega) (fun _ => rfl) (fun v21 ev21 hv21 => ?_)
            replace E := zLet_s (zinc ev21 (by decide)) E
            refine zg_goto X 7 dX3_product_65 (by decide) ?_
            refine zg_sub [0, 2, 3] rfl ?_
            exact ihLp4 _ v21 hI hS E  (by omega) (by omega) 
          · skip
            replace E := zIf_t c17 E
            refine zg_iconst X 4 dX3_product_53 (by decide) (fun v22 _ hv22 => ?_)
            replace E := zLet_s (zcst hv22 (by decide)) E
            refine zg_goto X 58 dX3_product_54 (by decide) ?_
            refine zg_iconst X 0 dX3_product_58 (by decide) (fun v23 _ hv23 => ?_)
            replace E := zLet_s (zcst hv23 (by decide)) E
            refine zg_cVv (As := [.int v22, .int v23]) (st := []) X hv15 rfl (by decide) rfl (t_X9_addStep l d L kd κ 2 _ hI v15 hv15 v22 v23 ) mk_X3_145 mc_X9_addStep mz_X9 mi_X9_addStep ml_X9_addStep (na := 2) ⟨md_X9.1, md_X9.2, by decide +kernel⟩ rfl ⟨by decide, by decide⟩ (Nat.le_of_ble_eq_true rfl) dX3_product_59 (fun s24 hq => ?_)
            obtain ⟨hF, hS2, hI⟩ := hq
            replace E := zLet_s hF E
            have hS := hS.tr hS2 rfl rfl
            refine zg_iinc X 1 (fun v25 => [(2, .int v25), (3, .int v12), (0, .ref a0), (1, .int p1)]) 1 dX3_product_62 rfl (by decide) (by decide) (by omega) (by omega) (fun _ => rfl) (fun v25 ev25 hv25 => ?_)
            replace E := zLet_s (zinc ev25 (by decide)) E
            refine zg_goto X 7 dX3_product_65 (by decide) ?_
            refine zg_sub [0, 2, 3] rfl ?_
            exact ihLp4 _ v25 hI hS E  (by omega) (by omega) 
  refine zg_sub [0, 1, 2] rfl ?_
  exact Lp4 10000 _ v2 hI hS E  (by omega) (by omega) 
set_option maxHeartbeats 4000000 in
set_option maxRecDepth 100000 in
theorem t_X3_sum_o6 (l : Launch) (d : zD2) (L : List Nat) (kd : Nat → Nat) (κ : Int) (σ : zS) (hI : zI κ 2 L kd σ) (a0 : Nat) (ha0 : zT L kd a0 3) (p1 : Int32) (hq0 : p1.toInt = 6) : zMv l yX3_sum (Cond.code yX3_sum cX3_sum 4 none :: zWL) 4 [.ref a0, .int p1] d L kd σ (fun σ2 => σ2 = F_X3_sum_o6 a0 p1 σ ∧ zSm [3, 9, 49, 50] [] L kd σ σ2 ∧ (zI κ 2 L kd σ2)) := by
  refine zMv.of (own := RX3) (by decide +kernel) rfl rfl (Nat.le_of_ble_eq_true rfl) ?_
  intro p e s m args below meth c A Q X ret
  refine zg_lv (lv2 := [(0, .ref a0), (1, .int p1)]) rfl ?_
  obtain ⟨R, hR⟩ : ∃ R, R = F_X3_sum_o6 a0 p1 σ := ⟨_, rfl⟩
  have E := hR
  unfold F_X3_sum_o6 at E
  have hS : zSm [3, 9, 49, 50] [] L kd σ σ := zSm.rf
  refine zg_aload_n X 0 rfl dX3_sum_0 ?_
  refine zg_iload_n X 1 rfl dX3_sum_1 ?_
  refine zg_cVv (As := [.int p1]) (st := []) X ha0 rfl (by decide) rfl (t_X3_product_o6 l d L kd κ _ hI a0 ha0 p1 (by omega)) mk_X3_156 mc_X3_product mz_X3 mi_X3_product ml_X3_product (na := 1) ⟨md_X3.1, md_X3.2, by decide +kernel⟩ rfl ⟨by decide, by decide⟩ (Nat.le_of_ble_eq_true rfl) dX3_sum_2 (fun s1 hq => ?_)
  obtain ⟨hF, hS2, hI⟩ := hq
  replace E := zLet_s hF E
  have hS := hS.tr hS2 rfl rfl
  refine zg_iconst X 0 dX3_sum_5 (by decide) (fun v2 _ hv2 => ?_)
  replace E := zLet_s (zcst hv2 (by decide)) E
  refine zg_istore_n X [(2, .int v2), (0, .ref a0), (1, .int p1)] dX3_sum_6 (by decide) rfl ?_
  have Lp4 : ∀ (nLp4 : Nat) (τ4 : zS) (x3 : Int32), zI κ 2 L kd τ4 → zSm [3, 9, 49, 50] [] L kd σ τ4 → R = F_X3_sum_o6_7 a0 p1  nLp4 x3 τ4 → 0 ≤ x3.toInt ∧ x3.toInt ≤ 401 → (401) - x3.toInt + 1 < (nLp4 : Int) → zG d L kd A 4 p l e (k2_rm 4 (100 * 4)) s m args below meth c Q τ4 7 [(2, .int x3), (0, .ref a0), (1, .int p1)] [] := by
    intro nLp4
    induction nLp4 with
    | zero => intro τ4 x3 hI hS E  hxLp4 hm ; exact absurd hm (by omega)
    | succ nLp4 ihLp4 =>
      intro τ4 x3 hI hS E  hxLp4 hmLp4 
      rw [F_X3_sum_o6_7] at E
      refine zg_iload_n X 0 rfl dX3_sum_7 ?_
      refine zg_sipush X 400 dX3_sum_8 (by decide) (fun v5 _ hv5 => ?_)
      replace E := zLet_s (zcst hv5 (by decide)) E
      refine zg_icmp_gt X 68 dX3_sum_11 (by decide) (fun c6 => ?_) (fun c6 => ?_)
      · skip
        replace E := zIf_t c6 E
        exact ret _ _ _ dX3_sum_68 ⟨E.symm.trans hR, hS, hI⟩
      · skip
        replace E := zIf_f (Int.not_lt.mpr c6) E
        refine zg_aload_n X 1 rfl dX3_sum_14 ?_
        refine fg_X3_26 X hI ha0 dX3_sum_15 (fun v7 ev7 _ => ?_)
        replace E := zLet_s ev7 E
        refine zg_bipush X 26 dX3_sum_18 (by decide) (fun v8 _ hv8 => ?_)
        replace E := zLet_s (zcst hv8 (by decide)) E
        refine zg_bipush X 27 dX3_sum_20 (by decide) (fun v9 _ hv9 => ?_)
        replace E := zLet_s (zcst hv9 (by decide)) E
        refine zg_cSNi (As := [.int v7, .int v8, .int v9]) (st := []) X (t_X10_isWithin l d L kd _ v7 v8 v9 ) mk_X3_80 mc_X10_isWithin mz_X10 ms_X10_isWithin (na := 3) ⟨md_X10.1, md_X10.2, by decide +kernel⟩ rfl ⟨by decide, by decide⟩ (Nat.le_of_ble_eq_true rfl) dX3_sum_22 (fun v10 σ2 hq => ?_)
        obtain ⟨⟨hF, hv10⟩, rfl⟩ := hq
        replace E := zLet_s hF E
        refine zg_if_eq X 68 dX3_sum_25 (by decide) (fun c11 => ?_) (fun c11 => ?_)
        · skip
          replace E := zIf_t c11 E
          exact ret _ _ _ dX3_sum_68 ⟨E.symm.trans hR, hS, hI⟩
        · skip
          replace E := zIf_f c11 E
          refine zg_aload_n X 1 rfl dX3_sum_28 ?_
          refine fg_X3_26 X hI ha0 dX3_sum_29 (fun v12 ev12 _ => ?_)
          replace E := zLet_s ev12 E
          have mv12 : v12.toInt = v7.toInt := by rw [ev12, ← ev7]
          refine zg_istore_n X [(3, .int v12), (2, .int x3), (0, .ref a0), (1, .int p1)] dX3_sum_32 (by decide) rfl ?_
          refine zg_aload_n X 2 rfl dX3_sum_33 ?_
          refine zg_iload_n X 0 rfl dX3_sum_34 ?_
          refine zg_cVv (As := [.int v12]) (st := []) X ha0 rfl (by decide) rfl (t_X3_take l d L kd κ 2 _ hI a0 ha0 v12 ) mk_X3_87 mc_X3_take mz_X3 mi_X3_take ml_X3_take (na := 1) ⟨md_X3.1, md_X3.2, by decide +kernel⟩ rfl ⟨by decide, by decide⟩ (Nat.le_of_ble_eq_true rfl) dX3_sum_35 (fun s13 hq => ?_)
          obtain ⟨hF, hS2, hI⟩ := hq
          replace E := zLet_s hF E
          have hS := hS.tr hS2 rfl rfl
          refine zg_aload_n X 2 rfl dX3_sum_38 ?_
          refine zg_iload_n X 3 rfl dX3_sum_39 ?_
          refine zg_cVv (As := [.int p1]) (st := []) X ha0 rfl (by decide) rfl (t_X3_product_o6 l d L kd κ _ hI a0 ha0 p1 (by omega)) mk_X3_156 mc_X3_product mz_X3 mi_X3_product ml_X3_product (na := 1) ⟨md_X3.1, md_X3.2, by decide +kernel⟩ rfl ⟨by decide, by decide⟩ (Nat.le_of_ble_eq_true rfl) dX3_sum_40 (fun s14 hq => ?_)
          obtain ⟨hF, hS2, hI⟩ := hq
          replace E := zLet_s hF E
          have hS := hS.tr hS2 rfl rfl
          refine zg_aload_n X 2 rfl dX3_sum_43 ?_
          refine fg_X3_18 X hI ha0 dX3_sum_44 (fun v15 ev15 hv15 => ?_)
          replace E := zLet_s (zgr ev15) E
          refine zg_iload_n X 0 rfl dX3_sum_47 ?_
          refine zg_bipush X 26 dX3_sum_48 (by decide) (fun v16 _ hv16 => ?_)
          replace E := zLet_s (zcst hv16 (by decide)) E
          refine zg_icmp_ne X 57 dX3_sum_50 (by decide) (fun c17 => ?_) (fun c17 => ?_)
          · skip
            replace E := zIf_f c17 E
            refine zg_iconst X 3 dX3_sum_57 (by decide) (fun v18 _ hv18 => ?_)
            replace E := zLet_s (zcst hv18 (by decide)) E
            refine zg_iconst X 0 dX3_sum_58 (by decide) (fun v19 _ hv19 => ?_)
            replace E := zLet_s (zcst hv19 (by decide)) E
            refine zg_cVv (As := [.int v18, .int v19]) (st := []) X hv15 rfl (by decide) rfl (t_X9_addStep l d L kd κ 2 _ hI v15 hv15 v18 v19 ) mk_X3_145 mc_X9_addStep mz_X9 mi_X9_addStep ml_X9_addStep (na := 2) ⟨md_X9.1, md_X9.2, by decide +kernel⟩ rfl ⟨by decide, by decide⟩ (Nat.le_of_ble_eq_true rfl) dX3_sum_59 (fun s20 hq => ?_)
            obtain ⟨hF, hS2, hI⟩ := hq
            replace E := zLet_s hF E
            have hS := hS.tr hS2 rfl rfl
            refine zg_iinc X 1 (fun v21 => [(2, .int v21), (3, .int v12), (0, .ref a0), (1, .int p1)]) 1 dX3_sum_62 rfl (by decide) (by decide) (by omega) (by omega) (fun _ => rfl) (fun v21 ev21 hv21 => ?_)
            replace E := zLet_s (zinc ev21 (by decide)) E
            refine zg_goto X 7 dX3_sum_65 (by decide) ?_
            refine zg_sub [0, 2, 3] rfl ?_
            exact ihLp4 _ v21 hI hS E  (by omega) (by omega) 
          · skip
            replace E := zIf_t c17 E
            refine zg_iconst X 2 dX3_sum_53 (by decide) (fun v22 _ hv22 => ?_)
            replace E := zLet_s (zcst hv22 (by decide)) E
            refine zg_goto X 58 dX3_sum_54 (by decide) ?_
            refine zg_iconst X 0 dX3_sum_58 (by decide) (fun v23 _ hv23 => ?_)
            replace E := zLet_s (zcst hv23 (by decide)) E
            refine zg_cVv (As := [.int v22, .int v23]) (st := []) X hv15 rfl (by decide) rfl (t_X9_addStep l d L kd κ 2 _ hI v15 hv15 v22 v23 ) mk_X3_145 mc_X9_addStep mz_X9 mi_X9_addStep ml_X9_addStep (na := 2) ⟨md_X9.1, md_X9.2, by decide +kernel⟩ rfl ⟨by decide, by decide⟩ (Nat.le_of_ble_eq_true rfl) dX3_sum_59 (fun s24 hq => ?_)
            obtain ⟨hF, hS2, hI⟩ := hq
            replace E := zLet_s hF E
            have hS := hS.tr hS2 rfl rfl
            refine zg_iinc X 1 (fun v25 => [(2, .int v25), (3, .int v12), (0, .ref a0), (1, .int p1)]) 1 dX3_sum_62 rfl (by decide) (by decide) (by omega) (by omega) (fun _ => rfl) (fun v25 ev25 hv25 => ?_)
            replace E := zLet_s (zinc ev25 (by decide)) E
            refine zg_goto X 7 dX3_sum_65 (by decide) ?_
            refine zg_sub [0, 2, 3] rfl ?_
            exact ihLp4 _ v25 hI hS E  (by omega) (by omega) 
  refine zg_sub [0, 1, 2] rfl ?_
  exact Lp4 10000 _ v2 hI hS E  (by omega) (by omega) 
set_option maxHeartbeats 4000000 in
set_option maxRecDepth 100000 in
theorem t_X3_unit_o5 (l : Launch) (d : zD2) (L : List Nat) (kd : Nat → Nat) (κ : Int) (σ : zS) (hI : zI κ 2 L kd σ) (a0 : Nat) (ha0 : zT L kd a0 3) (p1 : Int32) (hq0 : p1.toInt = 5) : zMv l yX3_unit (Cond.code yX3_unit cX3_unit 2 none :: zWL) 5 [.ref a0, .int p1] d L kd σ (fun σ2 => σ2 = F_X3_unit_o5 a0 p1 σ ∧ zSm [3, 9, 49, 50] [] L kd σ σ2 ∧ (zI κ 2 L kd σ2)) := by
  refine zMv.of (own := RX3) (by decide +kernel) rfl rfl (Nat.le_of_ble_eq_true rfl) ?_
  intro p e s m args below meth c A Q X ret
  refine zg_lv (lv2 := [(0, .ref a0), (1, .int p1)]) rfl ?_
  obtain ⟨R, hR⟩ : ∃ R, R = F_X3_unit_o5 a0 p1 σ := ⟨_, rfl⟩
  have E := hR
  unfold F_X3_unit_o5 at E
  have hS : zSm [3, 9, 49, 50] [] L kd σ σ := zSm.rf
  refine zg_aload_n X 0 rfl dX3_unit_0 ?_
  refine fg_X3_26 X hI ha0 dX3_unit_1 (fun v1 ev1 _ => ?_)
  replace E := zLet_s ev1 E
  refine zg_bipush X 23 dX3_unit_4 (by decide) (fun v2 _ hv2 => ?_)
  replace E := zLet_s (zcst hv2 (by decide)) E
  refine zg_icmp_ne X 33 dX3_unit_6 (by decide) (fun c3 => ?_) (fun c3 => ?_)
  · skip
    replace E := zIf_f c3 E
    refine zg_aload_n X 0 rfl dX3_unit_33 ?_
    refine fg_X3_26 X hI ha0 dX3_unit_34 (fun v4 ev4 _ => ?_)
    replace E := zLet_s ev4 E
    have mv4 : v4.toInt = v1.toInt := by rw [ev4, ← ev1]
    refine zg_bipush X 13 dX3_unit_37 (by decide) (fun v5 _ hv5 => ?_)
    replace E := zLet_s (zcst hv5 (by decide)) E
    have zv4_z6 := zb_rng v4
    refine zg_icmp_lt X 77 dX3_unit_39 (by decide) (fun c7 => ?_) (fun c7 => ?_)
    · skip
      replace E := zIf_t c7 E
      refine zg_aload_n X 0 rfl dX3_unit_77 ?_
      refine fg_X3_26 X hI ha0 dX3_unit_78 (fun v8 ev8 _ => ?_)
      replace E := zLet_s ev8 E
      have mv8 : v8.toInt = v4.toInt := by rw [ev8, ← ev4]
      refine zg_bipush X 31 dX3_unit_81 (by decide) (fun v9 _ hv9 => ?_)
      replace E := zLet_s (zcst hv9 (by decide)) E
      refine zg_icmp_ne X 116 dX3_unit_83 (by decide) (fun c10 => ?_) (fun c10 => ?_)
      · skip
        replace E := zIf_f c10 E
        refine zg_aload_n X 0 rfl dX3_unit_116 ?_
        refine zg_aload_n X 0 rfl dX3_unit_117 ?_
        refine fg_X3_26 X hI ha0 dX3_unit_118 (fun v11 ev11 _ => ?_)
        replace E := zLet_s ev11 E
        have mv11 : v11.toInt = v8.toInt := by rw [ev11, ← ev8]
        refine zg_bipush X 31 dX3_unit_121 (by decide) (fun v12 _ hv12 => ?_)
        replace E := zLet_s (zcst hv12 (by decide)) E
        refine zg_icmp_ne X 130 dX3_unit_123 (by decide) (fun c13 => ?_) (fun c13 => ?_)
        · skip
          replace E := zIf_f c13 E
          refine zg_iconst X 1 dX3_unit_130 (by decide) (fun v14 _ hv14 => ?_)
          replace E := zLet_s (zcst hv14 (by decide)) E
          refine zg_cVv (As := [.int v14]) (st := []) X ha0 rfl (by decide) rfl (t_X3_fail l d L kd κ 2 _ hI a0 ha0 v14 ) mk_X3_106 mc_X3_fail mz_X3 mi_X3_fail ml_X3_fail (na := 1) ⟨md_X3.1, md_X3.2, by decide +kernel⟩ rfl ⟨by decide, by decide⟩ (Nat.le_of_ble_eq_true rfl) dX3_unit_131 (fun s15 hq => ?_)
          obtain ⟨hF, hS2, hI⟩ := hq
          replace E := zLet_s hF E
          have hS := hS.tr hS2 rfl rfl
          exact ret _ _ _ dX3_unit_134 ⟨E.symm.trans hR, hS, hI⟩
        · omega
      · omega
    · skip
      replace E := zIf_f (Int.not_lt.mpr c7) E
      refine zg_aload_n X 0 rfl dX3_unit_42 ?_
      refine fg_X3_26 X hI ha0 dX3_unit_43 (fun v16 ev16 _ => ?_)
      replace E := zLet_s ev16 E
      have mv16 : v16.toInt = v4.toInt := by rw [ev16, ← ev4]
      refine zg_bipush X 22 dX3_unit_46 (by decide) (fun v17 _ hv17 => ?_)
      replace E := zLet_s (zcst hv17 (by decide)) E
      have zv16_z18 := zb_rng v16
      refine zg_icmp_ge X 77 dX3_unit_48 (by decide) (fun c19 => ?_) (fun c19 => ?_)
      · skip
        replace E := zIf_f (Int.not_lt.mpr c19) E
        refine zg_aload_n X 0 rfl dX3_unit_77 ?_
        refine fg_X3_26 X hI ha0 dX3_unit_78 (fun v20 ev20 _ => ?_)
        replace E := zLet_s ev20 E
        have mv20 : v20.toInt = v16.toInt := by rw [ev20, ← ev16]
        refine zg_bipush X 31 dX3_unit_81 (by decide) (fun v21 _ hv21 => ?_)
        replace E := zLet_s (zcst hv21 (by decide)) E
        refine zg_icmp_ne X 116 dX3_unit_83 (by decide) (fun c22 => ?_) (fun c22 => ?_)
        · skip
          replace E := zIf_f c22 E
          refine zg_aload_n X 0 rfl dX3_unit_116 ?_
          refine zg_aload_n X 0 rfl dX3_unit_117 ?_
          refine fg_X3_26 X hI ha0 dX3_unit_118 (fun v23 ev23 _ => ?_)
          replace E := zLet_s ev23 E
          have mv23 : v23.toInt = v20.toInt := by rw [ev23, ← ev20]
          refine zg_bipush X 31 dX3_unit_121 (by decide) (fun v24 _ hv24 => ?_)
          replace E := zLet_s (zcst hv24 (by decide)) E
          refine zg_icmp_ne X 130 dX3_unit_123 (by decide) (fun c25 => ?_) (fun c25 => ?_)
          · skip
            replace E := zIf_f c25 E
            refine zg_iconst X 1 dX3_unit_130 (by decide) (fun v26 _ hv26 => ?_)
            replace E := zLet_s (zcst hv26 (by decide)) E
            refine zg_cVv (As := [.int v26]) (st := []) X ha0 rfl (by decide) rfl (t_X3_fail l d L kd κ 2 _ hI a0 ha0 v26 ) mk_X3_106 mc_X3_fail mz_X3 mi_X3_fail ml_X3_fail (na := 1) ⟨md_X3.1, md_X3.2, by decide +kernel⟩ rfl ⟨by decide, by decide⟩ (Nat.le_of_ble_eq_true rfl) dX3_unit_131 (fun s27 hq => ?_)
            obtain ⟨hF, hS2, hI⟩ := hq
            replace E := zLet_s hF E
            have hS := hS.tr hS2 rfl rfl
            exact ret _ _ _ dX3_unit_134 ⟨E.symm.trans hR, hS, hI⟩
          · skip
            replace E := zIf_t c25 E
            refine zg_iconst X 2 dX3_unit_126 (by decide) (fun v28 _ hv28 => ?_)
            replace E := zLet_s (zcst hv28 (by decide)) E
            refine zg_goto X 131 dX3_unit_127 (by decide) ?_
            refine zg_cVv (As := [.int v28]) (st := []) X ha0 rfl (by decide) rfl (t_X3_fail l d L kd κ 2 _ hI a0 ha0 v28 ) mk_X3_106 mc_X3_fail mz_X3 mi_X3_fail ml_X3_fail (na := 1) ⟨md_X3.1, md_X3.2, by decide +kernel⟩ rfl ⟨by decide, by decide⟩ (Nat.le_of_ble_eq_true rfl) dX3_unit_131 (fun s29 hq => ?_)
            obtain ⟨hF, hS2, hI⟩ := hq
            replace E := zLet_s hF E
            have hS := hS.tr hS2 rfl rfl
            exact ret _ _ _ dX3_unit_134 ⟨E.symm.trans hR, hS, hI⟩
        · skip
          replace E := zIf_t c22 E
          refine zg_iload_n X 1 rfl dX3_unit_86 ?_
          refine zg_bipush X 6 dX3_unit_87 (by decide) (fun v30 _ hv30 => ?_)
          replace E := zLet_s (zcst hv30 (by decide)) E
          refine zg_icmp_ge X 116 dX3_unit_89 (by decide) (fun c31 => ?_) (fun c31 => ?_)
          · omega
          · skip
            replace E := zIf_t c31 E
            refine zg_aload_n X 0 rfl dX3_unit_92 ?_
            refine zg_aload_n X 0 rfl dX3_unit_93 ?_
            refine fg_X3_26 X hI ha0 dX3_unit_94 (fun v32 ev32 _ => ?_)
            replace E := zLet_s ev32 E
            have mv32 : v32.toInt = v20.toInt := by rw [ev32, ← ev20]
            refine zg_cVv (As := [.int v32]) (st := []) X ha0 rfl (by decide) rfl (t_X3_take l d L kd κ 2 _ hI a0 ha0 v32 ) mk_X3_87 mc_X3_take mz_X3 mi_X3_take ml_X3_take (na := 1) ⟨md_X3.1, md_X3.2, by decide +kernel⟩ rfl ⟨by decide, by decide⟩ (Nat.le_of_ble_eq_true rfl) dX3_unit_97 (fun s33 hq => ?_)
            obtain ⟨hF, hS2, hI⟩ := hq
            replace E := zLet_s hF E
            have hS := hS.tr hS2 rfl rfl
            refine zg_aload_n X 0 rfl dX3_unit_100 ?_
            refine zg_iload_n X 1 rfl dX3_unit_101 ?_
            refine zg_iconst X 1 dX3_unit_102 (by decide) (fun v34 _ hv34 => ?_)
            replace E := zLet_s (zcst hv34 (by decide)) E
            refine zg_iadd X dX3_unit_103 (by omega) (by omega) (fun v35 ev35 hv35 => ?_)
            replace E := zLet_s ev35 E
            refine zg_cVv (As := [.int v35]) (st := []) X ha0 rfl (by decide) rfl (t_X3_sum_o6 l d L kd κ _ hI a0 ha0 v35 (by omega)) mk_X3_140 mc_X3_sum mz_X3 mi_X3_sum ml_X3_sum (na := 1) ⟨md_X3.1, md_X3.2, by decide +kernel⟩ rfl ⟨by decide, by decide⟩ (Nat.le_of_ble_eq_true rfl) dX3_unit_104 (fun s36 hq => ?_)
            obtain ⟨hF, hS2, hI⟩ := hq
            replace E := zLet_s hF E
            have hS := hS.tr hS2 rfl rfl
            refine zg_aload_n X 0 rfl dX3_unit_107 ?_
            refine zg_bipush X 32 dX3_unit_108 (by decide) (fun v37 _ hv37 => ?_)
            replace E := zLet_s (zcst hv37 (by decide)) E
            refine zg_cVv (As := [.int v37]) (st := []) X ha0 rfl (by decide) rfl (t_X3_take l d L kd κ 2 _ hI a0 ha0 v37 ) mk_X3_87 mc_X3_take mz_X3 mi_X3_take ml_X3_take (na := 1) ⟨md_X3.1, md_X3.2, by decide +kernel⟩ rfl ⟨by decide, by decide⟩ (Nat.le_of_ble_eq_true rfl) dX3_unit_110 (fun s38 hq => ?_)
            obtain ⟨hF, hS2, hI⟩ := hq
            replace E := zLet_s hF E
            have hS := hS.tr hS2 rfl rfl
            refine zg_goto X 134 dX3_unit_113 (by decide) ?_
            exact ret _ _ _ dX3_unit_134 ⟨E.symm.trans hR, hS, hI⟩
      · skip
        replace E := zIf_t c19 E
        refine zg_aload_n X 0 rfl dX3_unit_51 ?_
        refine fg_X3_18 X hI ha0 dX3_unit_52 (fun v39 ev39 hv39 => ?_)
        replace E := zLet_s (zgr ev39) E
        refine zg_iconst X 1 dX3_unit_55 (by decide) (fun v40 _ hv40 => ?_)
        replace E := zLet_s (zcst hv40 (by decide)) E
        refine zg_aload_n X 0 rfl dX3_unit_56 ?_
        refine fg_X3_26 X hI ha0 dX3_unit_57 (fun v41 ev41 _ => ?_)
        replace E := zLet_s ev41 E
        have mv41 : v41.toInt = v16.toInt := by rw [ev41, ← ev16]
        refine zg_bipush X 13 dX3_unit_60 (by decide) (fun v42 _ hv42 => ?_)
        replace E := zLet_s (zcst hv42 (by decide)) E
        refine zg_isub X dX3_unit_62 (by omega) (by omega) (fun v43 ev43 hv43 => ?_)
        replace E := zLet_s ev43 E
        refine zg_cVv (As := [.int v40, .int v43]) (st := []) X hv39 rfl (by decide) rfl (t_X9_addStep l d L kd κ 2 _ hI v39 hv39 v40 v43 ) mk_X3_145 mc_X9_addStep mz_X9 mi_X9_addStep ml_X9_addStep (na := 2) ⟨md_X9.1, md_X9.2, by decide +kernel⟩ rfl ⟨by decide, by decide⟩ (Nat.le_of_ble_eq_true rfl) dX3_unit_63 (fun s44 hq => ?_)
        obtain ⟨hF, hS2, hI⟩ := hq
        replace E := zLet_s hF E
        have hS := hS.tr hS2 rfl rfl
        refine zg_aload_n X 0 rfl dX3_unit_66 ?_
        refine zg_aload_n X 0 rfl dX3_unit_67 ?_
        refine fg_X3_26 X hI ha0 dX3_unit_68 (fun v45 ev45 _ => ?_)
        replace E := zLet_s ev45 E
        refine zg_cVv (As := [.int v45]) (st := []) X ha0 rfl (by decide) rfl (t_X3_take l d L kd κ 2 _ hI a0 ha0 v45 ) mk_X3_87 mc_X3_take mz_X3 mi_X3_take ml_X3_take (na := 1) ⟨md_X3.1, md_X3.2, by decide +kernel⟩ rfl ⟨by decide, by decide⟩ (Nat.le_of_ble_eq_true rfl) dX3_unit_71 (fun s46 hq => ?_)
        obtain ⟨hF, hS2, hI⟩ := hq
        replace E := zLet_s hF E
        have hS := hS.tr hS2 rfl rfl
        refine zg_goto X 134 dX3_unit_74 (by decide) ?_
        exact ret _ _ _ dX3_unit_134 ⟨E.symm.trans hR, hS, hI⟩
  · skip
    replace E := zIf_t c3 E
    refine zg_aload_n X 0 rfl dX3_unit_9 ?_
    refine fg_X3_18 X hI ha0 dX3_unit_10 (fun v47 ev47 hv47 => ?_)
    replace E := zLet_s (zgr ev47) E
    refine zg_iconst X 0 dX3_unit_13 (by decide) (fun v48 _ hv48 => ?_)
    replace E := zLet_s (zcst hv48 (by decide)) E
    refine zg_aload_n X 0 rfl dX3_unit_14 ?_
    refine fg_X3_29 X ha0 dX3_unit_15 (fun v49 ev49 => ?_)
    replace E := zLet_s ev49 E
    refine zg_l2i X dX3_unit_18 (fun v50 ev50 => ?_)
    replace E := zLet_s ev50 E
    refine zg_cVv (As := [.int v48, .int v50]) (st := []) X hv47 rfl (by decide) rfl (t_X9_addStep l d L kd κ 2 _ hI v47 hv47 v48 v50 ) mk_X3_145 mc_X9_addStep mz_X9 mi_X9_addStep ml_X9_addStep (na := 2) ⟨md_X9.1, md_X9.2, by decide +kernel⟩ rfl ⟨by decide, by decide⟩ (Nat.le_of_ble_eq_true rfl) dX3_unit_19 (fun s51 hq => ?_)
    obtain ⟨hF, hS2, hI⟩ := hq
    replace E := zLet_s hF E
    have hS := hS.tr hS2 rfl rfl
    refine zg_aload_n X 0 rfl dX3_unit_22 ?_
    refine zg_aload_n X 0 rfl dX3_unit_23 ?_
    refine fg_X3_26 X hI ha0 dX3_unit_24 (fun v52 ev52 _ => ?_)
    replace E := zLet_s ev52 E
    refine zg_cVv (As := [.int v52]) (st := []) X ha0 rfl (by decide) rfl (t_X3_take l d L kd κ 2 _ hI a0 ha0 v52 ) mk_X3_87 mc_X3_take mz_X3 mi_X3_take ml_X3_take (na := 1) ⟨md_X3.1, md_X3.2, by decide +kernel⟩ rfl ⟨by decide, by decide⟩ (Nat.le_of_ble_eq_true rfl) dX3_unit_27 (fun s53 hq => ?_)
    obtain ⟨hF, hS2, hI⟩ := hq
    replace E := zLet_s hF E
    have hS := hS.tr hS2 rfl rfl
    refine zg_goto X 134 dX3_unit_30 (by decide) ?_
    exact ret _ _ _ dX3_unit_134 ⟨E.symm.trans hR, hS, hI⟩
set_option maxHeartbeats 4000000 in
set_option maxRecDepth 100000 in
theorem t_X3_product_o5 (l : Launch) (d : zD2) (L : List Nat) (kd : Nat → Nat) (κ : Int) (σ : zS) (hI : zI κ 2 L kd σ) (a0 : Nat) (ha0 : zT L kd a0 3) (p1 : Int32) (hq0 : p1.toInt = 5) : zMv l yX3_product (Cond.code yX3_product cX3_product 4 none :: zWL) 6 [.ref a0, .int p1] d L kd σ (fun σ2 => σ2 = F_X3_product_o5 a0 p1 σ ∧ zSm [3, 9, 49, 50] [] L kd σ σ2 ∧ (zI κ 2 L kd σ2)) := by
  refine zMv.of (own := RX3) (by decide +kernel) rfl rfl (Nat.le_of_ble_eq_true rfl) ?_
  intro p e s m args below meth c A Q X ret
  refine zg_lv (lv2 := [(0, .ref a0), (1, .int p1)]) rfl ?_
  obtain ⟨R, hR⟩ : ∃ R, R = F_X3_product_o5 a0 p1 σ := ⟨_, rfl⟩
  have E := hR
  unfold F_X3_product_o5 at E
  have hS : zSm [3, 9, 49, 50] [] L kd σ σ := zSm.rf
  refine zg_aload_n X 0 rfl dX3_product_0 ?_
  refine zg_iload_n X 1 rfl dX3_product_1 ?_
  refine zg_cVv (As := [.int p1]) (st := []) X ha0 rfl (by decide) rfl (t_X3_unit_o5 l d L kd κ _ hI a0 ha0 p1 (by omega)) mk_X3_159 mc_X3_unit mz_X3 mi_X3_unit ml_X3_unit (na := 1) ⟨md_X3.1, md_X3.2, by decide +kernel⟩ rfl ⟨by decide, by decide⟩ (Nat.le_of_ble_eq_true rfl) dX3_product_2 (fun s1 hq => ?_)
  obtain ⟨hF, hS2, hI⟩ := hq
  replace E := zLet_s hF E
  have hS := hS.tr hS2 rfl rfl
  refine zg_iconst X 0 dX3_product_5 (by decide) (fun v2 _ hv2 => ?_)
  replace E := zLet_s (zcst hv2 (by decide)) E
  refine zg_istore_n X [(2, .int v2), (0, .ref a0), (1, .int p1)] dX3_product_6 (by decide) rfl ?_
  have Lp4 : ∀ (nLp4 : Nat) (τ4 : zS) (x3 : Int32), zI κ 2 L kd τ4 → zSm [3, 9, 49, 50] [] L kd σ τ4 → R = F_X3_product_o5_7 a0 p1  nLp4 x3 τ4 → 0 ≤ x3.toInt ∧ x3.toInt ≤ 401 → (401) - x3.toInt + 1 < (nLp4 : Int) → zG d L kd A 4 p l e (k2_rm 6 (100 * 6)) s m args below meth c Q τ4 7 [(2, .int x3), (0, .ref a0), (1, .int p1)] [] := by
    intro nLp4
    induction nLp4 with
    | zero => intro τ4 x3 hI hS E  hxLp4 hm ; exact absurd hm (by omega)
    | succ nLp4 ihLp4 =>
      intro τ4 x3 hI hS E  hxLp4 hmLp4 
      rw [F_X3_product_o5_7] at E
      refine zg_iload_n X 0 rfl dX3_product_7 ?_
      refine zg_sipush X 400 dX3_product_8 (by decide) (fun v5 _ hv5 => ?_)
      replace E := zLet_s (zcst hv5 (by decide)) E
      refine zg_icmp_gt X 68 dX3_product_11 (by decide) (fun c6 => ?_) (fun c6 => ?_)
      · skip
        replace E := zIf_t c6 E
        exact ret _ _ _ dX3_product_68 ⟨E.symm.trans hR, hS, hI⟩
      · skip
        replace E := zIf_f (Int.not_lt.mpr c6) E
        refine zg_aload_n X 1 rfl dX3_product_14 ?_
        refine fg_X3_26 X hI ha0 dX3_product_15 (fun v7 ev7 _ => ?_)
        replace E := zLet_s ev7 E
        refine zg_bipush X 28 dX3_product_18 (by decide) (fun v8 _ hv8 => ?_)
        replace E := zLet_s (zcst hv8 (by decide)) E
        refine zg_bipush X 29 dX3_product_20 (by decide) (fun v9 _ hv9 => ?_)
        replace E := zLet_s (zcst hv9 (by decide)) E
        refine zg_cSNi (As := [.int v7, .int v8, .int v9]) (st := []) X (t_X10_isWithin l d L kd _ v7 v8 v9 ) mk_X3_80 mc_X10_isWithin mz_X10 ms_X10_isWithin (na := 3) ⟨md_X10.1, md_X10.2, by decide +kernel⟩ rfl ⟨by decide, by decide⟩ (Nat.le_of_ble_eq_true rfl) dX3_product_22 (fun v10 σ2 hq => ?_)
        obtain ⟨⟨hF, hv10⟩, rfl⟩ := hq
        replace E := zLet_s hF E
        refine zg_if_eq X 68 dX3_product_25 (by decide) (fun c11 => ?_) (fun c11 => ?_)
        · skip
          replace E := zIf_t c11 E
          exact ret _ _ _ dX3_product_68 ⟨E.symm.trans hR, hS, hI⟩
        · skip
          replace E := zIf_f c11 E
          refine zg_aload_n X 1 rfl dX3_product_28 ?_
          refine fg_X3_26 X hI ha0 dX3_product_29 (fun v12 ev12 _ => ?_)
          replace E := zLet_s ev12 E
          have mv12 : v12.toInt = v7.toInt := by rw [ev12, ← ev7]
          refine zg_istore_n X [(3, .int v12), (2, .int x3), (0, .ref a0), (1, .int p1)] dX3_product_32 (by decide) rfl ?_
          refine zg_aload_n X 2 rfl dX3_product_33 ?_
          refine zg_iload_n X 0 rfl dX3_product_34 ?_
          refine zg_cVv (As := [.int v12]) (st := []) X ha0 rfl (by decide) rfl (t_X3_take l d L kd κ 2 _ hI a0 ha0 v12 ) mk_X3_87 mc_X3_take mz_X3 mi_X3_take ml_X3_take (na := 1) ⟨md_X3.1, md_X3.2, by decide +kernel⟩ rfl ⟨by decide, by decide⟩ (Nat.le_of_ble_eq_true rfl) dX3_product_35 (fun s13 hq => ?_)
          obtain ⟨hF, hS2, hI⟩ := hq
          replace E := zLet_s hF E
          have hS := hS.tr hS2 rfl rfl
          refine zg_aload_n X 2 rfl dX3_product_38 ?_
          refine zg_iload_n X 3 rfl dX3_product_39 ?_
          refine zg_cVv (As := [.int p1]) (st := []) X ha0 rfl (by decide) rfl (t_X3_unit_o5 l d L kd κ _ hI a0 ha0 p1 (by omega)) mk_X3_159 mc_X3_unit mz_X3 mi_X3_unit ml_X3_unit (na := 1) ⟨md_X3.1, md_X3.2, by decide +kernel⟩ rfl ⟨by decide, by decide⟩ (Nat.le_of_ble_eq_true rfl) dX3_product_40 (fun s14 hq => ?_)
          obtain ⟨hF, hS2, hI⟩ := hq
          replace E := zLet_s hF E
          have hS := hS.tr hS2 rfl rfl
          refine zg_aload_n X 2 rfl dX3_product_43 ?_
          refine fg_X3_18 X hI ha0 dX3_product_44 (fun v15 ev15 hv15 => ?_)
          replace E := zLet_s (zgr ev15) E
          refine zg_iload_n X 0 rfl dX3_product_47 ?_
          refine zg_bipush X 28 dX3_product_48 (by decide) (fun v16 _ hv16 => ?_)
          replace E := zLet_s (zcst hv16 (by decide)) E
          refine zg_icmp_ne X 57 dX3_product_50 (by decide) (fun c17 => ?_) (fun c17 => ?_)
          · skip
            replace E := zIf_f c17 E
            refine zg_iconst X 5 dX3_product_57 (by decide) (fun v18 _ hv18 => ?_)
            replace E := zLet_s (zcst hv18 (by decide)) E
            refine zg_iconst X 0 dX3_product_58 (by decide) (fun v19 _ hv19 => ?_)
            replace E := zLet_s (zcst hv19 (by decide)) E
            refine zg_cVv (As := [.int v18, .int v19]) (st := []) X hv15 rfl (by decide) rfl (t_X9_addStep l d L kd κ 2 _ hI v15 hv15 v18 v19 ) mk_X3_145 mc_X9_addStep mz_X9 mi_X9_addStep ml_X9_addStep (na := 2) ⟨md_X9.1, md_X9.2, by decide +kernel⟩ rfl ⟨by decide, by decide⟩ (Nat.le_of_ble_eq_true rfl) dX3_product_59 (fun s20 hq => ?_)
            obtain ⟨hF, hS2, hI⟩ := hq
            replace E := zLet_s hF E
            have hS := hS.tr hS2 rfl rfl
            refine zg_iinc X 1 (fun v21 => [(2, .int v21), (3, .int v12), (0, .ref a0), (1, .int p1)]) 1 dX3_product_62 rfl (by decide) (by decide) (by omega) (by omega) (fun _ => rfl) (fun v21 ev21 hv21 => ?_)
            replace E := zLet_s (zinc ev21 (by decide)) E
            refine zg_goto X 7 dX3_product_65 (by decide) ?_
            refine zg_sub [0, 2, 3] rfl ?_
            exact ihLp4 _ v21 hI hS E  (by omega) (by omega) 
          · skip
            replace E := zIf_t c17 E
            refine zg_iconst X 4 dX3_product_53 (by decide) (fun v22 _ hv22 => ?_)
            replace E := zLet_s (zcst hv22 (by decide)) E
            refine zg_goto X 58 dX3_product_54 (by decide) ?_
            refine zg_iconst X 0 dX3_product_58 (by decide) (fun v23 _ hv23 => ?_)
            replace E := zLet_s (zcst hv23 (by decide)) E
            refine zg_cVv (As := [.int v22, .int v23]) (st := []) X hv15 rfl (by decide) rfl (t_X9_addStep l d L kd κ 2 _ hI v15 hv15 v22 v23 ) mk_X3_145 mc_X9_addStep mz_X9 mi_X9_addStep ml_X9_addStep (na := 2) ⟨md_X9.1, md_X9.2, by decide +kernel⟩ rfl ⟨by decide, by decide⟩ (Nat.le_of_ble_eq_true rfl) dX3_product_59 (fun s24 hq => ?_)
            obtain ⟨hF, hS2, hI⟩ := hq
            replace E := zLet_s hF E
            have hS := hS.tr hS2 rfl rfl
            refine zg_iinc X 1 (fun v25 => [(2, .int v25), (3, .int v12), (0, .ref a0), (1, .int p1)]) 1 dX3_product_62 rfl (by decide) (by decide) (by omega) (by omega) (fun _ => rfl) (fun v25 ev25 hv25 => ?_)
            replace E := zLet_s (zinc ev25 (by decide)) E
            refine zg_goto X 7 dX3_product_65 (by decide) ?_
            refine zg_sub [0, 2, 3] rfl ?_
            exact ihLp4 _ v25 hI hS E  (by omega) (by omega) 
  refine zg_sub [0, 1, 2] rfl ?_
  exact Lp4 10000 _ v2 hI hS E  (by omega) (by omega) 
set_option maxHeartbeats 4000000 in
set_option maxRecDepth 100000 in
theorem t_X3_sum_o5 (l : Launch) (d : zD2) (L : List Nat) (kd : Nat → Nat) (κ : Int) (σ : zS) (hI : zI κ 2 L kd σ) (a0 : Nat) (ha0 : zT L kd a0 3) (p1 : Int32) (hq0 : p1.toInt = 5) : zMv l yX3_sum (Cond.code yX3_sum cX3_sum 4 none :: zWL) 7 [.ref a0, .int p1] d L kd σ (fun σ2 => σ2 = F_X3_sum_o5 a0 p1 σ ∧ zSm [3, 9, 49, 50] [] L kd σ σ2 ∧ (zI κ 2 L kd σ2)) := by
  refine zMv.of (own := RX3) (by decide +kernel) rfl rfl (Nat.le_of_ble_eq_true rfl) ?_
  intro p e s m args below meth c A Q X ret
  refine zg_lv (lv2 := [(0, .ref a0), (1, .int p1)]) rfl ?_
  obtain ⟨R, hR⟩ : ∃ R, R = F_X3_sum_o5 a0 p1 σ := ⟨_, rfl⟩
  have E := hR
  unfold F_X3_sum_o5 at E
  have hS : zSm [3, 9, 49, 50] [] L kd σ σ := zSm.rf
  refine zg_aload_n X 0 rfl dX3_sum_0 ?_
  refine zg_iload_n X 1 rfl dX3_sum_1 ?_
  refine zg_cVv (As := [.int p1]) (st := []) X ha0 rfl (by decide) rfl (t_X3_product_o5 l d L kd κ _ hI a0 ha0 p1 (by omega)) mk_X3_156 mc_X3_product mz_X3 mi_X3_product ml_X3_product (na := 1) ⟨md_X3.1, md_X3.2, by decide +kernel⟩ rfl ⟨by decide, by decide⟩ (Nat.le_of_ble_eq_true rfl) dX3_sum_2 (fun s1 hq => ?_)
  obtain ⟨hF, hS2, hI⟩ := hq
  replace E := zLet_s hF E
  have hS := hS.tr hS2 rfl rfl
  refine zg_iconst X 0 dX3_sum_5 (by decide) (fun v2 _ hv2 => ?_)
  replace E := zLet_s (zcst hv2 (by decide)) E
  refine zg_istore_n X [(2, .int v2), (0, .ref a0), (1, .int p1)] dX3_sum_6 (by decide) rfl ?_
  have Lp4 : ∀ (nLp4 : Nat) (τ4 : zS) (x3 : Int32), zI κ 2 L kd τ4 → zSm [3, 9, 49, 50] [] L kd σ τ4 → R = F_X3_sum_o5_7 a0 p1  nLp4 x3 τ4 → 0 ≤ x3.toInt ∧ x3.toInt ≤ 401 → (401) - x3.toInt + 1 < (nLp4 : Int) → zG d L kd A 4 p l e (k2_rm 7 (100 * 7)) s m args below meth c Q τ4 7 [(2, .int x3), (0, .ref a0), (1, .int p1)] [] := by
    intro nLp4
    induction nLp4 with
    | zero => intro τ4 x3 hI hS E  hxLp4 hm ; exact absurd hm (by omega)
    | succ nLp4 ihLp4 =>
      intro τ4 x3 hI hS E  hxLp4 hmLp4 
      rw [F_X3_sum_o5_7] at E
      refine zg_iload_n X 0 rfl dX3_sum_7 ?_
      refine zg_sipush X 400 dX3_sum_8 (by decide) (fun v5 _ hv5 => ?_)
      replace E := zLet_s (zcst hv5 (by decide)) E
      refine zg_icmp_gt X 68 dX3_sum_11 (by decide) (fun c6 => ?_) (fun c6 => ?_)
      · skip
        replace E := zIf_t c6 E
        exact ret _ _ _ dX3_sum_68 ⟨E.symm.trans hR, hS, hI⟩
      · skip
        replace E := zIf_f (Int.not_lt.mpr c6) E
        refine zg_aload_n X 1 rfl dX3_sum_14 ?_
        refine fg_X3_26 X hI ha0 dX3_sum_15 (fun v7 ev7 _ => ?_)
        replace E := zLet_s ev7 E
        refine zg_bipush X 26 dX3_sum_18 (by decide) (fun v8 _ hv8 => ?_)
        replace E := zLet_s (zcst hv8 (by decide)) E
        refine zg_bipush X 27 dX3_sum_20 (by decide) (fun v9 _ hv9 => ?_)
        replace E := zLet_s (zcst hv9 (by decide)) E
        refine zg_cSNi (As := [.int v7, .int v8, .int v9]) (st := []) X (t_X10_isWithin l d L kd _ v7 v8 v9 ) mk_X3_80 mc_X10_isWithin mz_X10 ms_X10_isWithin (na := 3) ⟨md_X10.1, md_X10.2, by decide +kernel⟩ rfl ⟨by decide, by decide⟩ (Nat.le_of_ble_eq_true rfl) dX3_sum_22 (fun v10 σ2 hq => ?_)
        obtain ⟨⟨hF, hv10⟩, rfl⟩ := hq
        replace E := zLet_s hF E
        refine zg_if_eq X 68 dX3_sum_25 (by decide) (fun c11 => ?_) (fun c11 => ?_)
        · skip
          replace E := zIf_t c11 E
          exact ret _ _ _ dX3_sum_68 ⟨E.symm.trans hR, hS, hI⟩
        · skip
          replace E := zIf_f c11 E
          refine zg_aload_n X 1 rfl dX3_sum_28 ?_
          refine fg_X3_26 X hI ha0 dX3_sum_29 (fun v12 ev12 _ => ?_)
          replace E := zLet_s ev12 E
          have mv12 : v12.toInt = v7.toInt := by rw [ev12, ← ev7]
          refine zg_istore_n X [(3, .int v12), (2, .int x3), (0, .ref a0), (1, .int p1)] dX3_sum_32 (by decide) rfl ?_
          refine zg_aload_n X 2 rfl dX3_sum_33 ?_
          refine zg_iload_n X 0 rfl dX3_sum_34 ?_
          refine zg_cVv (As := [.int v12]) (st := []) X ha0 rfl (by decide) rfl (t_X3_take l d L kd κ 2 _ hI a0 ha0 v12 ) mk_X3_87 mc_X3_take mz_X3 mi_X3_take ml_X3_take (na := 1) ⟨md_X3.1, md_X3.2, by decide +kernel⟩ rfl ⟨by decide, by decide⟩ (Nat.le_of_ble_eq_true rfl) dX3_sum_35 (fun s13 hq => ?_)
          obtain ⟨hF, hS2, hI⟩ := hq
          replace E := zLet_s hF E
          have hS := hS.tr hS2 rfl rfl
          refine zg_aload_n X 2 rfl dX3_sum_38 ?_
          refine zg_iload_n X 3 rfl dX3_sum_39 ?_
          refine zg_cVv (As := [.int p1]) (st := []) X ha0 rfl (by decide) rfl (t_X3_product_o5 l d L kd κ _ hI a0 ha0 p1 (by omega)) mk_X3_156 mc_X3_product mz_X3 mi_X3_product ml_X3_product (na := 1) ⟨md_X3.1, md_X3.2, by decide +kernel⟩ rfl ⟨by decide, by decide⟩ (Nat.le_of_ble_eq_true rfl) dX3_sum_40 (fun s14 hq => ?_)
          obtain ⟨hF, hS2, hI⟩ := hq
          replace E := zLet_s hF E
          have hS := hS.tr hS2 rfl rfl
          refine zg_aload_n X 2 rfl dX3_sum_43 ?_
          refine fg_X3_18 X hI ha0 dX3_sum_44 (fun v15 ev15 hv15 => ?_)
          replace E := zLet_s (zgr ev15) E
          refine zg_iload_n X 0 rfl dX3_sum_47 ?_
          refine zg_bipush X 26 dX3_sum_48 (by decide) (fun v16 _ hv16 => ?_)
          replace E := zLet_s (zcst hv16 (by decide)) E
          refine zg_icmp_ne X 57 dX3_sum_50 (by decide) (fun c17 => ?_) (fun c17 => ?_)
          · skip
            replace E := zIf_f c17 E
            refine zg_iconst X 3 dX3_sum_57 (by decide) (fun v18 _ hv18 => ?_)
            replace E := zLet_s (zcst hv18 (by decide)) E
            refine zg_iconst X 0 dX3_sum_58 (by decide) (fun v19 _ hv19 => ?_)
            replace E := zLet_s (zcst hv19 (by decide)) E
            refine zg_cVv (As := [.int v18, .int v19]) (st := []) X hv15 rfl (by decide) rfl (t_X9_addStep l d L kd κ 2 _ hI v15 hv15 v18 v19 ) mk_X3_145 mc_X9_addStep mz_X9 mi_X9_addStep ml_X9_addStep (na := 2) ⟨md_X9.1, md_X9.2, by decide +kernel⟩ rfl ⟨by decide, by decide⟩ (Nat.le_of_ble_eq_true rfl) dX3_sum_59 (fun s20 hq => ?_)
            obtain ⟨hF, hS2, hI⟩ := hq
            replace E := zLet_s hF E
            have hS := hS.tr hS2 rfl rfl
            refine zg_iinc X 1 (fun v21 => [(2, .int v21), (3, .int v12), (0, .ref a0), (1, .int p1)]) 1 dX3_sum_62 rfl (by decide) (by decide) (by omega) (by omega) (fun _ => rfl) (fun v21 ev21 hv21 => ?_)
            replace E := zLet_s (zinc ev21 (by decide)) E
            refine zg_goto X 7 dX3_sum_65 (by decide) ?_
            refine zg_sub [0, 2, 3] rfl ?_
            exact ihLp4 _ v21 hI hS E  (by omega) (by omega) 
          · skip
            replace E := zIf_t c17 E
            refine zg_iconst X 2 dX3_sum_53 (by decide) (fun v22 _ hv22 => ?_)
            replace E := zLet_s (zcst hv22 (by decide)) E
            refine zg_goto X 58 dX3_sum_54 (by decide) ?_
            refine zg_iconst X 0 dX3_sum_58 (by decide) (fun v23 _ hv23 => ?_)
            replace E := zLet_s (zcst hv23 (by decide)) E
            refine zg_cVv (As := [.int v22, .int v23]) (st := []) X hv15 rfl (by decide) rfl (t_X9_addStep l d L kd κ 2 _ hI v15 hv15 v22 v23 ) mk_X3_145 mc_X9_addStep mz_X9 mi_X9_addStep ml_X9_addStep (na := 2) ⟨md_X9.1, md_X9.2, by decide +kernel⟩ rfl ⟨by decide, by decide⟩ (Nat.le_of_ble_eq_true rfl) dX3_sum_59 (fun s24 hq => ?_)
            obtain ⟨hF, hS2, hI⟩ := hq
            replace E := zLet_s hF E
            have hS := hS.tr hS2 rfl rfl
            refine zg_iinc X 1 (fun v25 => [(2, .int v25), (3, .int v12), (0, .ref a0), (1, .int p1)]) 1 dX3_sum_62 rfl (by decide) (by decide) (by omega) (by omega) (fun _ => rfl) (fun v25 ev25 hv25 => ?_)
            replace E := zLet_s (zinc ev25 (by decide)) E
            refine zg_goto X 7 dX3_sum_65 (by decide) ?_
            refine zg_sub [0, 2, 3] rfl ?_
            exact ihLp4 _ v25 hI hS E  (by omega) (by omega) 
  refine zg_sub [0, 1, 2] rfl ?_
  exact Lp4 10000 _ v2 hI hS E  (by omega) (by omega) 
set_option maxHeartbeats 4000000 in
set_option maxRecDepth 100000 in
theorem t_X3_unit_o4 (l : Launch) (d : zD2) (L : List Nat) (kd : Nat → Nat) (κ : Int) (σ : zS) (hI : zI κ 2 L kd σ) (a0 : Nat) (ha0 : zT L kd a0 3) (p1 : Int32) (hq0 : p1.toInt = 4) : zMv l yX3_unit (Cond.code yX3_unit cX3_unit 2 none :: zWL) 8 [.ref a0, .int p1] d L kd σ (fun σ2 => σ2 = F_X3_unit_o4 a0 p1 σ ∧ zSm [3, 9, 49, 50] [] L kd σ σ2 ∧ (zI κ 2 L kd σ2)) := by
  refine zMv.of (own := RX3) (by decide +kernel) rfl rfl (Nat.le_of_ble_eq_true rfl) ?_
  intro p e s m args below meth c A Q X ret
  refine zg_lv (lv2 := [(0, .ref a0), (1, .int p1)]) rfl ?_
  obtain ⟨R, hR⟩ : ∃ R, R = F_X3_unit_o4 a0 p1 σ := ⟨_, rfl⟩
  have E := hR
  unfold F_X3_unit_o4 at E
  have hS : zSm [3, 9, 49, 50] [] L kd σ σ := zSm.rf
  refine zg_aload_n X 0 rfl dX3_unit_0 ?_
  refine fg_X3_26 X hI ha0 dX3_unit_1 (fun v1 ev1 _ => ?_)
  replace E := zLet_s ev1 E
  refine zg_bipush X 23 dX3_unit_4 (by decide) (fun v2 _ hv2 => ?_)
  replace E := zLet_s (zcst hv2 (by decide)) E
  refine zg_icmp_ne X 33 dX3_unit_6 (by decide) (fun c3 => ?_) (fun c3 => ?_)
  · skip
    replace E := zIf_f c3 E
    refine zg_aload_n X 0 rfl dX3_unit_33 ?_
    refine fg_X3_26 X hI ha0 dX3_unit_34 (fun v4 ev4 _ => ?_)
    replace E := zLet_s ev4 E
    have mv4 : v4.toInt = v1.toInt := by rw [ev4, ← ev1]
    refine zg_bipush X 13 dX3_unit_37 (by decide) (fun v5 _ hv5 => ?_)
    replace E := zLet_s (zcst hv5 (by decide)) E
    have zv4_z6 := zb_rng v4
    refine zg_icmp_lt X 77 dX3_unit_39 (by decide) (fun c7 => ?_) (fun c7 => ?_)
    · skip
      replace E := zIf_t c7 E
      refine zg_aload_n X 0 rfl dX3_unit_77 ?_
      refine fg_X3_26 X hI ha0 dX3_unit_78 (fun v8 ev8 _ => ?_)
      replace E := zLet_s ev8 E
      have mv8 : v8.toInt = v4.toInt := by rw [ev8, ← ev4]
      refine zg_bipush X 31 dX3_unit_81 (by decide) (fun v9 _ hv9 => ?_)
      replace E := zLet_s (zcst hv9 (by decide)) E
      refine zg_icmp_ne X 116 dX3_unit_83 (by decide) (fun c10 => ?_) (fun c10 => ?_)
      · skip
        replace E := zIf_f c10 E
        refine zg_aload_n X 0 rfl dX3_unit_116 ?_
        refine zg_aload_n X 0 rfl dX3_unit_117 ?_
        refine fg_X3_26 X hI ha0 dX3_unit_118 (fun v11 ev11 _ => ?_)
        replace E := zLet_s ev11 E
        have mv11 : v11.toInt = v8.toInt := by rw [ev11, ← ev8]
        refine zg_bipush X 31 dX3_unit_121 (by decide) (fun v12 _ hv12 => ?_)
        replace E := zLet_s (zcst hv12 (by decide)) E
        refine zg_icmp_ne X 130 dX3_unit_123 (by decide) (fun c13 => ?_) (fun c13 => ?_)
        · skip
          replace E := zIf_f c13 E
          refine zg_iconst X 1 dX3_unit_130 (by decide) (fun v14 _ hv14 => ?_)
          replace E := zLet_s (zcst hv14 (by decide)) E
          refine zg_cVv (As := [.int v14]) (st := []) X ha0 rfl (by decide) rfl (t_X3_fail l d L kd κ 2 _ hI a0 ha0 v14 ) mk_X3_106 mc_X3_fail mz_X3 mi_X3_fail ml_X3_fail (na := 1) ⟨md_X3.1, md_X3.2, by decide +kernel⟩ rfl ⟨by decide, by decide⟩ (Nat.le_of_ble_eq_true rfl) dX3_unit_131 (fun s15 hq => ?_)
          obtain ⟨hF, hS2, hI⟩ := hq
          replace E := zLet_s hF E
          have hS := hS.tr hS2 rfl rfl
          exact ret _ _ _ dX3_unit_134 ⟨E.symm.trans hR, hS, hI⟩
        · omega
      · omega
    · skip
      replace E := zIf_f (Int.not_lt.mpr c7) E
      refine zg_aload_n X 0 rfl dX3_unit_42 ?_
      refine fg_X3_26 X hI ha0 dX3_unit_43 (fun v16 ev16 _ => ?_)
      replace E := zLet_s ev16 E
      have mv16 : v16.toInt = v4.toInt := by rw [ev16, ← ev4]
      refine zg_bipush X 22 dX3_unit_46 (by decide) (fun v17 _ hv17 => ?_)
      replace E := zLet_s (zcst hv17 (by decide)) E
      have zv16_z18 := zb_rng v16
      refine zg_icmp_ge X 77 dX3_unit_48 (by decide) (fun c19 => ?_) (fun c19 => ?_)
      · skip
        replace E := zIf_f (Int.not_lt.mpr c19) E
        refine zg_aload_n X 0 rfl dX3_unit_77 ?_
        refine fg_X3_26 X hI ha0 dX3_unit_78 (fun v20 ev20 _ => ?_)
        replace E := zLet_s ev20 E
        have mv20 : v20.toInt = v16.toInt := by rw [ev20, ← ev16]
        refine zg_bipush X 31 dX3_unit_81 (by decide) (fun v21 _ hv21 => ?_)
        replace E := zLet_s (zcst hv21 (by decide)) E
        refine zg_icmp_ne X 116 dX3_unit_83 (by decide) (fun c22 => ?_) (fun c22 => ?_)
        · skip
          replace E := zIf_f c22 E
          refine zg_aload_n X 0 rfl dX3_unit_116 ?_
          refine zg_aload_n X 0 rfl dX3_unit_117 ?_
          refine fg_X3_26 X hI ha0 dX3_unit_118 (fun v23 ev23 _ => ?_)
          replace E := zLet_s ev23 E
          have mv23 : v23.toInt = v20.toInt := by rw [ev23, ← ev20]
          refine zg_bipush X 31 dX3_unit_121 (by decide) (fun v24 _ hv24 => ?_)
          replace E := zLet_s (zcst hv24 (by decide)) E
          refine zg_icmp_ne X 130 dX3_unit_123 (by decide) (fun c25 => ?_) (fun c25 => ?_)
          · skip
            replace E := zIf_f c25 E
            refine zg_iconst X 1 dX3_unit_130 (by decide) (fun v26 _ hv26 => ?_)
            replace E := zLet_s (zcst hv26 (by decide)) E
            refine zg_cVv (As := [.int v26]) (st := []) X ha0 rfl (by decide) rfl (t_X3_fail l d L kd κ 2 _ hI a0 ha0 v26 ) mk_X3_106 mc_X3_fail mz_X3 mi_X3_fail ml_X3_fail (na := 1) ⟨md_X3.1, md_X3.2, by decide +kernel⟩ rfl ⟨by decide, by decide⟩ (Nat.le_of_ble_eq_true rfl) dX3_unit_131 (fun s27 hq => ?_)
            obtain ⟨hF, hS2, hI⟩ := hq
            replace E := zLet_s hF E
            have hS := hS.tr hS2 rfl rfl
            exact ret _ _ _ dX3_unit_134 ⟨E.symm.trans hR, hS, hI⟩
          · skip
            replace E := zIf_t c25 E
            refine zg_iconst X 2 dX3_unit_126 (by decide) (fun v28 _ hv28 => ?_)
            replace E := zLet_s (zcst hv28 (by decide)) E
            refine zg_goto X 131 dX3_unit_127 (by decide) ?_
            refine zg_cVv (As := [.int v28]) (st := []) X ha0 rfl (by decide) rfl (t_X3_fail l d L kd κ 2 _ hI a0 ha0 v28 ) mk_X3_106 mc_X3_fail mz_X3 mi_X3_fail ml_X3_fail (na := 1) ⟨md_X3.1, md_X3.2, by decide +kernel⟩ rfl ⟨by decide, by decide⟩ (Nat.le_of_ble_eq_true rfl) dX3_unit_131 (fun s29 hq => ?_)
            obtain ⟨hF, hS2, hI⟩ := hq
            replace E := zLet_s hF E
            have hS := hS.tr hS2 rfl rfl
            exact ret _ _ _ dX3_unit_134 ⟨E.symm.trans hR, hS, hI⟩
        · skip
          replace E := zIf_t c22 E
          refine zg_iload_n X 1 rfl dX3_unit_86 ?_
          refine zg_bipush X 6 dX3_unit_87 (by decide) (fun v30 _ hv30 => ?_)
          replace E := zLet_s (zcst hv30 (by decide)) E
          refine zg_icmp_ge X 116 dX3_unit_89 (by decide) (fun c31 => ?_) (fun c31 => ?_)
          · omega
          · skip
            replace E := zIf_t c31 E
            refine zg_aload_n X 0 rfl dX3_unit_92 ?_
            refine zg_aload_n X 0 rfl dX3_unit_93 ?_
            refine fg_X3_26 X hI ha0 dX3_unit_94 (fun v32 ev32 _ => ?_)
            replace E := zLet_s ev32 E
            have mv32 : v32.toInt = v20.toInt := by rw [ev32, ← ev20]
            refine zg_cVv (As := [.int v32]) (st := []) X ha0 rfl (by decide) rfl (t_X3_take l d L kd κ 2 _ hI a0 ha0 v32 ) mk_X3_87 mc_X3_take mz_X3 mi_X3_take ml_X3_take (na := 1) ⟨md_X3.1, md_X3.2, by decide +kernel⟩ rfl ⟨by decide, by decide⟩ (Nat.le_of_ble_eq_true rfl) dX3_unit_97 (fun s33 hq => ?_)
            obtain ⟨hF, hS2, hI⟩ := hq
            replace E := zLet_s hF E
            have hS := hS.tr hS2 rfl rfl
            refine zg_aload_n X 0 rfl dX3_unit_100 ?_
            refine zg_iload_n X 1 rfl dX3_unit_101 ?_
            refine zg_iconst X 1 dX3_unit_102 (by decide) (fun v34 _ hv34 => ?_)
            replace E := zLet_s (zcst hv34 (by decide)) E
            refine zg_iadd X dX3_unit_103 (by omega) (by omega) (fun v35 ev35 hv35 => ?_)
            replace E := zLet_s ev35 E
            refine zg_cVv (As := [.int v35]) (st := []) X ha0 rfl (by decide) rfl (t_X3_sum_o5 l d L kd κ _ hI a0 ha0 v35 (by omega)) mk_X3_140 mc_X3_sum mz_X3 mi_X3_sum ml_X3_sum (na := 1) ⟨md_X3.1, md_X3.2, by decide +kernel⟩ rfl ⟨by decide, by decide⟩ (Nat.le_of_ble_eq_true rfl) dX3_unit_104 (fun s36 hq => ?_)
            obtain ⟨hF, hS2, hI⟩ := hq
            replace E := zLet_s hF E
            have hS := hS.tr hS2 rfl rfl
            refine zg_aload_n X 0 rfl dX3_unit_107 ?_
            refine zg_bipush X 32 dX3_unit_108 (by decide) (fun v37 _ hv37 => ?_)
            replace E := zLet_s (zcst hv37 (by decide)) E
            refine zg_cVv (As := [.int v37]) (st := []) X ha0 rfl (by decide) rfl (t_X3_take l d L kd κ 2 _ hI a0 ha0 v37 ) mk_X3_87 mc_X3_take mz_X3 mi_X3_take ml_X3_take (na := 1) ⟨md_X3.1, md_X3.2, by decide +kernel⟩ rfl ⟨by decide, by decide⟩ (Nat.le_of_ble_eq_true rfl) dX3_unit_110 (fun s38 hq => ?_)
            obtain ⟨hF, hS2, hI⟩ := hq
            replace E := zLet_s hF E
            have hS := hS.tr hS2 rfl rfl
            refine zg_goto X 134 dX3_unit_113 (by decide) ?_
            exact ret _ _ _ dX3_unit_134 ⟨E.symm.trans hR, hS, hI⟩
      · skip
        replace E := zIf_t c19 E
        refine zg_aload_n X 0 rfl dX3_unit_51 ?_
        refine fg_X3_18 X hI ha0 dX3_unit_52 (fun v39 ev39 hv39 => ?_)
        replace E := zLet_s (zgr ev39) E
        refine zg_iconst X 1 dX3_unit_55 (by decide) (fun v40 _ hv40 => ?_)
        replace E := zLet_s (zcst hv40 (by decide)) E
        refine zg_aload_n X 0 rfl dX3_unit_56 ?_
        refine fg_X3_26 X hI ha0 dX3_unit_57 (fun v41 ev41 _ => ?_)
        replace E := zLet_s ev41 E
        have mv41 : v41.toInt = v16.toInt := by rw [ev41, ← ev16]
        refine zg_bipush X 13 dX3_unit_60 (by decide) (fun v42 _ hv42 => ?_)
        replace E := zLet_s (zcst hv42 (by decide)) E
        refine zg_isub X dX3_unit_62 (by omega) (by omega) (fun v43 ev43 hv43 => ?_)
        replace E := zLet_s ev43 E
        refine zg_cVv (As := [.int v40, .int v43]) (st := []) X hv39 rfl (by decide) rfl (t_X9_addStep l d L kd κ 2 _ hI v39 hv39 v40 v43 ) mk_X3_145 mc_X9_addStep mz_X9 mi_X9_addStep ml_X9_addStep (na := 2) ⟨md_X9.1, md_X9.2, by decide +kernel⟩ rfl ⟨by decide, by decide⟩ (Nat.le_of_ble_eq_true rfl) dX3_unit_63 (fun s44 hq => ?_)
        obtain ⟨hF, hS2, hI⟩ := hq
        replace E := zLet_s hF E
        have hS := hS.tr hS2 rfl rfl
        refine zg_aload_n X 0 rfl dX3_unit_66 ?_
        refine zg_aload_n X 0 rfl dX3_unit_67 ?_
        refine fg_X3_26 X hI ha0 dX3_unit_68 (fun v45 ev45 _ => ?_)
        replace E := zLet_s ev45 E
        refine zg_cVv (As := [.int v45]) (st := []) X ha0 rfl (by decide) rfl (t_X3_take l d L kd κ 2 _ hI a0 ha0 v45 ) mk_X3_87 mc_X3_take mz_X3 mi_X3_take ml_X3_take (na := 1) ⟨md_X3.1, md_X3.2, by decide +kernel⟩ rfl ⟨by decide, by decide⟩ (Nat.le_of_ble_eq_true rfl) dX3_unit_71 (fun s46 hq => ?_)
        obtain ⟨hF, hS2, hI⟩ := hq
        replace E := zLet_s hF E
        have hS := hS.tr hS2 rfl rfl
        refine zg_goto X 134 dX3_unit_74 (by decide) ?_
        exact ret _ _ _ dX3_unit_134 ⟨E.symm.trans hR, hS, hI⟩
  · skip
    replace E := zIf_t c3 E
    refine zg_aload_n X 0 rfl dX3_unit_9 ?_
    refine fg_X3_18 X hI ha0 dX3_unit_10 (fun v47 ev47 hv47 => ?_)
    replace E := zLet_s (zgr ev47) E
    refine zg_iconst X 0 dX3_unit_13 (by decide) (fun v48 _ hv48 => ?_)
    replace E := zLet_s (zcst hv48 (by decide)) E
    refine zg_aload_n X 0 rfl dX3_unit_14 ?_
    refine fg_X3_29 X ha0 dX3_unit_15 (fun v49 ev49 => ?_)
    replace E := zLet_s ev49 E
    refine zg_l2i X dX3_unit_18 (fun v50 ev50 => ?_)
    replace E := zLet_s ev50 E
    refine zg_cVv (As := [.int v48, .int v50]) (st := []) X hv47 rfl (by decide) rfl (t_X9_addStep l d L kd κ 2 _ hI v47 hv47 v48 v50 ) mk_X3_145 mc_X9_addStep mz_X9 mi_X9_addStep ml_X9_addStep (na := 2) ⟨md_X9.1, md_X9.2, by decide +kernel⟩ rfl ⟨by decide, by decide⟩ (Nat.le_of_ble_eq_true rfl) dX3_unit_19 (fun s51 hq => ?_)
    obtain ⟨hF, hS2, hI⟩ := hq
    replace E := zLet_s hF E
    have hS := hS.tr hS2 rfl rfl
    refine zg_aload_n X 0 rfl dX3_unit_22 ?_
    refine zg_aload_n X 0 rfl dX3_unit_23 ?_
    refine fg_X3_26 X hI ha0 dX3_unit_24 (fun v52 ev52 _ => ?_)
    replace E := zLet_s ev52 E
    refine zg_cVv (As := [.int v52]) (st := []) X ha0 rfl (by decide) rfl (t_X3_take l d L kd κ 2 _ hI a0 ha0 v52 ) mk_X3_87 mc_X3_take mz_X3 mi_X3_take ml_X3_take (na := 1) ⟨md_X3.1, md_X3.2, by decide +kernel⟩ rfl ⟨by decide, by decide⟩ (Nat.le_of_ble_eq_true rfl) dX3_unit_27 (fun s53 hq => ?_)
    obtain ⟨hF, hS2, hI⟩ := hq
    replace E := zLet_s hF E
    have hS := hS.tr hS2 rfl rfl
    refine zg_goto X 134 dX3_unit_30 (by decide) ?_
    exact ret _ _ _ dX3_unit_134 ⟨E.symm.trans hR, hS, hI⟩
set_option maxHeartbeats 4000000 in
set_option maxRecDepth 100000 in
theorem t_X3_product_o4 (l : Launch) (d : zD2) (L : List Nat) (kd : Nat → Nat) (κ : Int) (σ : zS) (hI : zI κ 2 L kd σ) (a0 : Nat) (ha0 : zT L kd a0 3) (p1 : Int32) (hq0 : p1.toInt = 4) : zMv l yX3_product (Cond.code yX3_product cX3_product 4 none :: zWL) 9 [.ref a0, .int p1] d L kd σ (fun σ2 => σ2 = F_X3_product_o4 a0 p1 σ ∧ zSm [3, 9, 49, 50] [] L kd σ σ2 ∧ (zI κ 2 L kd σ2)) := by
  refine zMv.of (own := RX3) (by decide +kernel) rfl rfl (Nat.le_of_ble_eq_true rfl) ?_
  intro p e s m args below meth c A Q X ret
  refine zg_lv (lv2 := [(0, .ref a0), (1, .int p1)]) rfl ?_
  obtain ⟨R, hR⟩ : ∃ R, R = F_X3_product_o4 a0 p1 σ := ⟨_, rfl⟩
  have E := hR
  unfold F_X3_product_o4 at E
  have hS : zSm [3, 9, 49, 50] [] L kd σ σ := zSm.rf
  refine zg_aload_n X 0 rfl dX3_product_0 ?_
  refine zg_iload_n X 1 rfl dX3_product_1 ?_
  refine zg_cVv (As := [.int p1]) (st := []) X ha0 rfl (by decide) rfl (t_X3_unit_o4 l d L kd κ _ hI a0 ha0 p1 (by omega)) mk_X3_159 mc_X3_unit mz_X3 mi_X3_unit ml_X3_unit (na := 1) ⟨md_X3.1, md_X3.2, by decide +kernel⟩ rfl ⟨by decide, by decide⟩ (Nat.le_of_ble_eq_true rfl) dX3_product_2 (fun s1 hq => ?_)
  obtain ⟨hF, hS2, hI⟩ := hq
  replace E := zLet_s hF E
  have hS := hS.tr hS2 rfl rfl
  refine zg_iconst X 0 dX3_product_5 (by decide) (fun v2 _ hv2 => ?_)
  replace E := zLet_s (zcst hv2 (by decide)) E
  refine zg_istore_n X [(2, .int v2), (0, .ref a0), (1, .int p1)] dX3_product_6 (by decide) rfl ?_
  have Lp4 : ∀ (nLp4 : Nat) (τ4 : zS) (x3 : Int32), zI κ 2 L kd τ4 → zSm [3, 9, 49, 50] [] L kd σ τ4 → R = F_X3_product_o4_7 a0 p1  nLp4 x3 τ4 → 0 ≤ x3.toInt ∧ x3.toInt ≤ 401 → (401) - x3.toInt + 1 < (nLp4 : Int) → zG d L kd A 4 p l e (k2_rm 9 (100 * 9)) s m args below meth c Q τ4 7 [(2, .int x3), (0, .ref a0), (1, .int p1)] [] := by
    intro nLp4
    induction nLp4 with
    | zero => intro τ4 x3 hI hS E  hxLp4 hm ; exact absurd hm (by omega)
    | succ nLp4 ihLp4 =>
      intro τ4 x3 hI hS E  hxLp4 hmLp4 
      rw [F_X3_product_o4_7] at E
      refine zg_iload_n X 0 rfl dX3_product_7 ?_
      refine zg_sipush X 400 dX3_product_8 (by decide) (fun v5 _ hv5 => ?_)
      replace E := zLet_s (zcst hv5 (by decide)) E
      refine zg_icmp_gt X 68 dX3_product_11 (by decide) (fun c6 => ?_) (fun c6 => ?_)
      · skip
        replace E := zIf_t c6 E
        exact ret _ _ _ dX3_product_68 ⟨E.symm.trans hR, hS, hI⟩
      · skip
        replace E := zIf_f (Int.not_lt.mpr c6) E
        refine zg_aload_n X 1 rfl dX3_product_14 ?_
        refine fg_X3_26 X hI ha0 dX3_product_15 (fun v7 ev7 _ => ?_)
        replace E := zLet_s ev7 E
        refine zg_bipush X 28 dX3_product_18 (by decide) (fun v8 _ hv8 => ?_)
        replace E := zLet_s (zcst hv8 (by decide)) E
        refine zg_bipush X 29 dX3_product_20 (by decide) (fun v9 _ hv9 => ?_)
        replace E := zLet_s (zcst hv9 (by decide)) E
        refine zg_cSNi (As := [.int v7, .int v8, .int v9]) (st := []) X (t_X10_isWithin l d L kd _ v7 v8 v9 ) mk_X3_80 mc_X10_isWithin mz_X10 ms_X10_isWithin (na := 3) ⟨md_X10.1, md_X10.2, by decide +kernel⟩ rfl ⟨by decide, by decide⟩ (Nat.le_of_ble_eq_true rfl) dX3_product_22 (fun v10 σ2 hq => ?_)
        obtain ⟨⟨hF, hv10⟩, rfl⟩ := hq
        replace E := zLet_s hF E
        refine zg_if_eq X 68 dX3_product_25 (by decide) (fun c11 => ?_) (fun c11 => ?_)
        · skip
          replace E := zIf_t c11 E
          exact ret _ _ _ dX3_product_68 ⟨E.symm.trans hR, hS, hI⟩
        · skip
          replace E := zIf_f c11 E
          refine zg_aload_n X 1 rfl dX3_product_28 ?_
          refine fg_X3_26 X hI ha0 dX3_product_29 (fun v12 ev12 _ => ?_)
          replace E := zLet_s ev12 E
          have mv12 : v12.toInt = v7.toInt := by rw [ev12, ← ev7]
          refine zg_istore_n X [(3, .int v12), (2, .int x3), (0, .ref a0), (1, .int p1)] dX3_product_32 (by decide) rfl ?_
          refine zg_aload_n X 2 rfl dX3_product_33 ?_
          refine zg_iload_n X 0 rfl dX3_product_34 ?_
          refine zg_cVv (As := [.int v12]) (st := []) X ha0 rfl (by decide) rfl (t_X3_take l d L kd κ 2 _ hI a0 ha0 v12 ) mk_X3_87 mc_X3_take mz_X3 mi_X3_take ml_X3_take (na := 1) ⟨md_X3.1, md_X3.2, by decide +kernel⟩ rfl ⟨by decide, by decide⟩ (Nat.le_of_ble_eq_true rfl) dX3_product_35 (fun s13 hq => ?_)
          obtain ⟨hF, hS2, hI⟩ := hq
          replace E := zLet_s hF E
          have hS := hS.tr hS2 rfl rfl
          refine zg_aload_n X 2 rfl dX3_product_38 ?_
          refine zg_iload_n X 3 rfl dX3_product_39 ?_
          refine zg_cVv (As := [.int p1]) (st := []) X ha0 rfl (by decide) rfl (t_X3_unit_o4 l d L kd κ _ hI a0 ha0 p1 (by omega)) mk_X3_159 mc_X3_unit mz_X3 mi_X3_unit ml_X3_unit (na := 1) ⟨md_X3.1, md_X3.2, by decide +kernel⟩ rfl ⟨by decide, by decide⟩ (Nat.le_of_ble_eq_true rfl) dX3_product_40 (fun s14 hq => ?_)
          obtain ⟨hF, hS2, hI⟩ := hq
          replace E := zLet_s hF E
          have hS := hS.tr hS2 rfl rfl
          refine zg_aload_n X 2 rfl dX3_product_43 ?_
          refine fg_X3_18 X hI ha0 dX3_product_44 (fun v15 ev15 hv15 => ?_)
          replace E := zLet_s (zgr ev15) E
          refine zg_iload_n X 0 rfl dX3_product_47 ?_
          refine zg_bipush X 28 dX3_product_48 (by decide) (fun v16 _ hv16 => ?_)
          replace E := zLet_s (zcst hv16 (by decide)) E
          refine zg_icmp_ne X 57 dX3_product_50 (by decide) (fun c17 => ?_) (fun c17 => ?_)
          · skip
            replace E := zIf_f c17 E
            refine zg_iconst X 5 dX3_product_57 (by decide) (fun v18 _ hv18 => ?_)
            replace E := zLet_s (zcst hv18 (by decide)) E
            refine zg_iconst X 0 dX3_product_58 (by decide) (fun v19 _ hv19 => ?_)
            replace E := zLet_s (zcst hv19 (by decide)) E
            refine zg_cVv (As := [.int v18, .int v19]) (st := []) X hv15 rfl (by decide) rfl (t_X9_addStep l d L kd κ 2 _ hI v15 hv15 v18 v19 ) mk_X3_145 mc_X9_addStep mz_X9 mi_X9_addStep ml_X9_addStep (na := 2) ⟨md_X9.1, md_X9.2, by decide +kernel⟩ rfl ⟨by decide, by decide⟩ (Nat.le_of_ble_eq_true rfl) dX3_product_59 (fun s20 hq => ?_)
            obtain ⟨hF, hS2, hI⟩ := hq
            replace E := zLet_s hF E
            have hS := hS.tr hS2 rfl rfl
            refine zg_iinc X 1 (fun v21 => [(2, .int v21), (3, .int v12), (0, .ref a0), (1, .int p1)]) 1 dX3_product_62 rfl (by decide) (by decide) (by omega) (by omega) (fun _ => rfl) (fun v21 ev21 hv21 => ?_)
            replace E := zLet_s (zinc ev21 (by decide)) E
            refine zg_goto X 7 dX3_product_65 (by decide) ?_
            refine zg_sub [0, 2, 3] rfl ?_
            exact ihLp4 _ v21 hI hS E  (by omega) (by omega) 
          · skip
            replace E := zIf_t c17 E
            refine zg_iconst X 4 dX3_product_53 (by decide) (fun v22 _ hv22 => ?_)
            replace E := zLet_s (zcst hv22 (by decide)) E
            refine zg_goto X 58 dX3_product_54 (by decide) ?_
            refine zg_iconst X 0 dX3_product_58 (by decide) (fun v23 _ hv23 => ?_)
            replace E := zLet_s (zcst hv23 (by decide)) E
            refine zg_cVv (As := [.int v22, .int v23]) (st := []) X hv15 rfl (by decide) rfl (t_X9_addStep l d L kd κ 2 _ hI v15 hv15 v22 v23 ) mk_X3_145 mc_X9_addStep mz_X9 mi_X9_addStep ml_X9_addStep (na := 2) ⟨md_X9.1, md_X9.2, by decide +kernel⟩ rfl ⟨by decide, by decide⟩ (Nat.le_of_ble_eq_true rfl) dX3_product_59 (fun s24 hq => ?_)
            obtain ⟨hF, hS2, hI⟩ := hq
            replace E := zLet_s hF E
            have hS := hS.tr hS2 rfl rfl
            refine zg_iinc X 1 (fun v25 => [(2, .int v25), (3, .int v12), (0, .ref a0), (1, .int p1)]) 1 dX3_product_62 rfl (by decide) (by decide) (by omega) (by omega) (fun _ => rfl) (fun v25 ev25 hv25 => ?_)
            replace E := zLet_s (zinc ev25 (by decide)) E
            refine zg_goto X 7 dX3_product_65 (by decide) ?_
            refine zg_sub [0, 2, 3] rfl ?_
            exact ihLp4 _ v25 hI hS E  (by omega) (by omega) 
  refine zg_sub [0, 1, 2] rfl ?_
  exact Lp4 10000 _ v2 hI hS E  (by omega) (by omega) 
set_option maxHeartbeats 4000000 in
set_option maxRecDepth 100000 in
theorem t_X3_sum_o4 (l : Launch) (d : zD2) (L : List Nat) (kd : Nat → Nat) (κ : Int) (σ : zS) (hI : zI κ 2 L kd σ) (a0 : Nat) (ha0 : zT L kd a0 3) (p1 : Int32) (hq0 : p1.toInt = 4) : zMv l yX3_sum (Cond.code yX3_sum cX3_sum 4 none :: zWL) 10 [.ref a0, .int p1] d L kd σ (fun σ2 => σ2 = F_X3_sum_o4 a0 p1 σ ∧ zSm [3, 9, 49, 50] [] L kd σ σ2 ∧ (zI κ 2 L kd σ2)) := by
  refine zMv.of (own := RX3) (by decide +kernel) rfl rfl (Nat.le_of_ble_eq_true rfl) ?_
  intro p e s m args below meth c A Q X ret
  refine zg_lv (lv2 := [(0, .ref a0), (1, .int p1)]) rfl ?_
  obtain ⟨R, hR⟩ : ∃ R, R = F_X3_sum_o4 a0 p1 σ := ⟨_, rfl⟩
  have E := hR
  unfold F_X3_sum_o4 at E
  have hS : zSm [3, 9, 49, 50] [] L kd σ σ := zSm.rf
  refine zg_aload_n X 0 rfl dX3_sum_0 ?_
  refine zg_iload_n X 1 rfl dX3_sum_1 ?_
  refine zg_cVv (As := [.int p1]) (st := []) X ha0 rfl (by decide) rfl (t_X3_product_o4 l d L kd κ _ hI a0 ha0 p1 (by omega)) mk_X3_156 mc_X3_product mz_X3 mi_X3_product ml_X3_product (na := 1) ⟨md_X3.1, md_X3.2, by decide +kernel⟩ rfl ⟨by decide, by decide⟩ (Nat.le_of_ble_eq_true rfl) dX3_sum_2 (fun s1 hq => ?_)
  obtain ⟨hF, hS2, hI⟩ := hq
  replace E := zLet_s hF E
  have hS := hS.tr hS2 rfl rfl
  refine zg_iconst X 0 dX3_sum_5 (by decide) (fun v2 _ hv2 => ?_)
  replace E := zLet_s (zcst hv2 (by decide)) E
  refine zg_istore_n X [(2, .int v2), (0, .ref a0), (1, .int p1)] dX3_sum_6 (by decide) rfl ?_
  have Lp4 : ∀ (nLp4 : Nat) (τ4 : zS) (x3 : Int32), zI κ 2 L kd τ4 → zSm [3, 9, 49, 50] [] L kd σ τ4 → R = F_X3_sum_o4_7 a0 p1  nLp4 x3 τ4 → 0 ≤ x3.toInt ∧ x3.toInt ≤ 401 → (401) - x3.toInt + 1 < (nLp4 : Int) → zG d L kd A 4 p l e (k2_rm 10 (100 * 10)) s m args below meth c Q τ4 7 [(2, .int x3), (0, .ref a0), (1, .int p1)] [] := by
    intro nLp4
    induction nLp4 with
    | zero => intro τ4 x3 hI hS E  hxLp4 hm ; exact absurd hm (by omega)
    | succ nLp4 ihLp4 =>
      intro τ4 x3 hI hS E  hxLp4 hmLp4 
      rw [F_X3_sum_o4_7] at E
      refine zg_iload_n X 0 rfl dX3_sum_7 ?_
      refine zg_sipush X 400 dX3_sum_8 (by decide) (fun v5 _ hv5 => ?_)
      replace E := zLet_s (zcst hv5 (by decide)) E
      refine zg_icmp_gt X 68 dX3_sum_11 (by decide) (fun c6 => ?_) (fun c6 => ?_)
      · skip
        replace E := zIf_t c6 E
        exact ret _ _ _ dX3_sum_68 ⟨E.symm.trans hR, hS, hI⟩
      · skip
        replace E := zIf_f (Int.not_lt.mpr c6) E
        refine zg_aload_n X 1 rfl dX3_sum_14 ?_
        refine fg_X3_26 X hI ha0 dX3_sum_15 (fun v7 ev7 _ => ?_)
        replace E := zLet_s ev7 E
        refine zg_bipush X 26 dX3_sum_18 (by decide) (fun v8 _ hv8 => ?_)
        replace E := zLet_s (zcst hv8 (by decide)) E
        refine zg_bipush X 27 dX3_sum_20 (by decide) (fun v9 _ hv9 => ?_)
        replace E := zLet_s (zcst hv9 (by decide)) E
        refine zg_cSNi (As := [.int v7, .int v8, .int v9]) (st := []) X (t_X10_isWithin l d L kd _ v7 v8 v9 ) mk_X3_80 mc_X10_isWithin mz_X10 ms_X10_isWithin (na := 3) ⟨md_X10.1, md_X10.2, by decide +kernel⟩ rfl ⟨by decide, by decide⟩ (Nat.le_of_ble_eq_true rfl) dX3_sum_22 (fun v10 σ2 hq => ?_)
        obtain ⟨⟨hF, hv10⟩, rfl⟩ := hq
        replace E := zLet_s hF E
        refine zg_if_eq X 68 dX3_sum_25 (by decide) (fun c11 => ?_) (fun c11 => ?_)
        · skip
          replace E := zIf_t c11 E
          exact ret _ _ _ dX3_sum_68 ⟨E.symm.trans hR, hS, hI⟩
        · skip
          replace E := zIf_f c11 E
          refine zg_aload_n X 1 rfl dX3_sum_28 ?_
          refine fg_X3_26 X hI ha0 dX3_sum_29 (fun v12 ev12 _ => ?_)
          replace E := zLet_s ev12 E
          have mv12 : v12.toInt = v7.toInt := by rw [ev12, ← ev7]
          refine zg_istore_n X [(3, .int v12), (2, .int x3), (0, .ref a0), (1, .int p1)] dX3_sum_32 (by decide) rfl ?_
          refine zg_aload_n X 2 rfl dX3_sum_33 ?_
          refine zg_iload_n X 0 rfl dX3_sum_34 ?_
          refine zg_cVv (As := [.int v12]) (st := []) X ha0 rfl (by decide) rfl (t_X3_take l d L kd κ 2 _ hI a0 ha0 v12 ) mk_X3_87 mc_X3_take mz_X3 mi_X3_take ml_X3_take (na := 1) ⟨md_X3.1, md_X3.2, by decide +kernel⟩ rfl ⟨by decide, by decide⟩ (Nat.le_of_ble_eq_true rfl) dX3_sum_35 (fun s13 hq => ?_)
          obtain ⟨hF, hS2, hI⟩ := hq
          replace E := zLet_s hF E
          have hS := hS.tr hS2 rfl rfl
          refine zg_aload_n X 2 rfl dX3_sum_38 ?_
          refine zg_iload_n X 3 rfl dX3_sum_39 ?_
          refine zg_cVv (As := [.int p1]) (st := []) X ha0 rfl (by decide) rfl (t_X3_product_o4 l d L kd κ _ hI a0 ha0 p1 (by omega)) mk_X3_156 mc_X3_product mz_X3 mi_X3_product ml_X3_product (na := 1) ⟨md_X3.1, md_X3.2, by decide +kernel⟩ rfl ⟨by decide, by decide⟩ (Nat.le_of_ble_eq_true rfl) dX3_sum_40 (fun s14 hq => ?_)
          obtain ⟨hF, hS2, hI⟩ := hq
          replace E := zLet_s hF E
          have hS := hS.tr hS2 rfl rfl
          refine zg_aload_n X 2 rfl dX3_sum_43 ?_
          refine fg_X3_18 X hI ha0 dX3_sum_44 (fun v15 ev15 hv15 => ?_)
          replace E := zLet_s (zgr ev15) E
          refine zg_iload_n X 0 rfl dX3_sum_47 ?_
          refine zg_bipush X 26 dX3_sum_48 (by decide) (fun v16 _ hv16 => ?_)
          replace E := zLet_s (zcst hv16 (by decide)) E
          refine zg_icmp_ne X 57 dX3_sum_50 (by decide) (fun c17 => ?_) (fun c17 => ?_)
          · skip
            replace E := zIf_f c17 E
            refine zg_iconst X 3 dX3_sum_57 (by decide) (fun v18 _ hv18 => ?_)
            replace E := zLet_s (zcst hv18 (by decide)) E
            refine zg_iconst X 0 dX3_sum_58 (by decide) (fun v19 _ hv19 => ?_)
            replace E := zLet_s (zcst hv19 (by decide)) E
            refine zg_cVv (As := [.int v18, .int v19]) (st := []) X hv15 rfl (by decide) rfl (t_X9_addStep l d L kd κ 2 _ hI v15 hv15 v18 v19 ) mk_X3_145 mc_X9_addStep mz_X9 mi_X9_addStep ml_X9_addStep (na := 2) ⟨md_X9.1, md_X9.2, by decide +kernel⟩ rfl ⟨by decide, by decide⟩ (Nat.le_of_ble_eq_true rfl) dX3_sum_59 (fun s20 hq => ?_)
            obtain ⟨hF, hS2, hI⟩ := hq
            replace E := zLet_s hF E
            have hS := hS.tr hS2 rfl rfl
            refine zg_iinc X 1 (fun v21 => [(2, .int v21), (3, .int v12), (0, .ref a0), (1, .int p1)]) 1 dX3_sum_62 rfl (by decide) (by decide) (by omega) (by omega) (fun _ => rfl) (fun v21 ev21 hv21 => ?_)
            replace E := zLet_s (zinc ev21 (by decide)) E
            refine zg_goto X 7 dX3_sum_65 (by decide) ?_
            refine zg_sub [0, 2, 3] rfl ?_
            exact ihLp4 _ v21 hI hS E  (by omega) (by omega) 
          · skip
            replace E := zIf_t c17 E
            refine zg_iconst X 2 dX3_sum_53 (by decide) (fun v22 _ hv22 => ?_)
            replace E := zLet_s (zcst hv22 (by decide)) E
            refine zg_goto X 58 dX3_sum_54 (by decide) ?_
            refine zg_iconst X 0 dX3_sum_58 (by decide) (fun v23 _ hv23 => ?_)
            replace E := zLet_s (zcst hv23 (by decide)) E
            refine zg_cVv (As := [.int v22, .int v23]) (st := []) X hv15 rfl (by decide) rfl (t_X9_addStep l d L kd κ 2 _ hI v15 hv15 v22 v23 ) mk_X3_145 mc_X9_addStep mz_X9 mi_X9_addStep ml_X9_addStep (na := 2) ⟨md_X9.1, md_X9.2, by decide +kernel⟩ rfl ⟨by decide, by decide⟩ (Nat.le_of_ble_eq_true rfl) dX3_sum_59 (fun s24 hq => ?_)
            obtain ⟨hF, hS2, hI⟩ := hq
            replace E := zLet_s hF E
            have hS := hS.tr hS2 rfl rfl
            refine zg_iinc X 1 (fun v25 => [(2, .int v25), (3, .int v12), (0, .ref a0), (1, .int p1)]) 1 dX3_sum_62 rfl (by decide) (by decide) (by omega) (by omega) (fun _ => rfl) (fun v25 ev25 hv25 => ?_)
            replace E := zLet_s (zinc ev25 (by decide)) E
            refine zg_goto X 7 dX3_sum_65 (by decide) ?_
            refine zg_sub [0, 2, 3] rfl ?_
            exact ihLp4 _ v25 hI hS E  (by omega) (by omega) 
  refine zg_sub [0, 1, 2] rfl ?_
  exact Lp4 10000 _ v2 hI hS E  (by omega) (by omega) 
set_option maxHeartbeats 4000000 in
set_option maxRecDepth 100000 in
theorem t_X3_unit_o3 (l : Launch) (d : zD2) (L : List Nat) (kd : Nat → Nat) (κ : Int) (σ : zS) (hI : zI κ 2 L kd σ) (a0 : Nat) (ha0 : zT L kd a0 3) (p1 : Int32) (hq0 : p1.toInt = 3) : zMv l yX3_unit (Cond.code yX3_unit cX3_unit 2 none :: zWL) 11 [.ref a0, .int p1] d L kd σ (fun σ2 => σ2 = F_X3_unit_o3 a0 p1 σ ∧ zSm [3, 9, 49, 50] [] L kd σ σ2 ∧ (zI κ 2 L kd σ2)) := by
  refine zMv.of (own := RX3) (by decide +kernel) rfl rfl (Nat.le_of_ble_eq_true rfl) ?_
  intro p e s m args below meth c A Q X ret
  refine zg_lv (lv2 := [(0, .ref a0), (1, .int p1)]) rfl ?_
  obtain ⟨R, hR⟩ : ∃ R, R = F_X3_unit_o3 a0 p1 σ := ⟨_, rfl⟩
  have E := hR
  unfold F_X3_unit_o3 at E
  have hS : zSm [3, 9, 49, 50] [] L kd σ σ := zSm.rf
  refine zg_aload_n X 0 rfl dX3_unit_0 ?_
  refine fg_X3_26 X hI ha0 dX3_unit_1 (fun v1 ev1 _ => ?_)
  replace E := zLet_s ev1 E
  refine zg_bipush X 23 dX3_unit_4 (by decide) (fun v2 _ hv2 => ?_)
  replace E := zLet_s (zcst hv2 (by decide)) E
  refine zg_icmp_ne X 33 dX3_unit_6 (by decide) (fun c3 => ?_) (fun c3 => ?_)
  · skip
    replace E := zIf_f c3 E
    refine zg_aload_n X 0 rfl dX3_unit_33 ?_
    refine fg_X3_26 X hI ha0 dX3_unit_34 (fun v4 ev4 _ => ?_)
    replace E := zLet_s ev4 E
    have mv4 : v4.toInt = v1.toInt := by rw [ev4, ← ev1]
    refine zg_bipush X 13 dX3_unit_37 (by decide) (fun v5 _ hv5 => ?_)
    replace E := zLet_s (zcst hv5 (by decide)) E
    have zv4_z6 := zb_rng v4
    refine zg_icmp_lt X 77 dX3_unit_39 (by decide) (fun c7 => ?_) (fun c7 => ?_)
    · skip
      replace E := zIf_t c7 E
      refine zg_aload_n X 0 rfl dX3_unit_77 ?_
      refine fg_X3_26 X hI ha0 dX3_unit_78 (fun v8 ev8 _ => ?_)
      replace E := zLet_s ev8 E
      have mv8 : v8.toInt = v4.toInt := by rw [ev8, ← ev4]
      refine zg_bipush X 31 dX3_unit_81 (by decide) (fun v9 _ hv9 => ?_)
      replace E := zLet_s (zcst hv9 (by decide)) E
      refine zg_icmp_ne X 116 dX3_unit_83 (by decide) (fun c10 => ?_) (fun c10 => ?_)
      · skip
        replace E := zIf_f c10 E
        refine zg_aload_n X 0 rfl dX3_unit_116 ?_
        refine zg_aload_n X 0 rfl dX3_unit_117 ?_
        refine fg_X3_26 X hI ha0 dX3_unit_118 (fun v11 ev11 _ => ?_)
        replace E := zLet_s ev11 E
        have mv11 : v11.toInt = v8.toInt := by rw [ev11, ← ev8]
        refine zg_bipush X 31 dX3_unit_121 (by decide) (fun v12 _ hv12 => ?_)
        replace E := zLet_s (zcst hv12 (by decide)) E
        refine zg_icmp_ne X 130 dX3_unit_123 (by decide) (fun c13 => ?_) (fun c13 => ?_)
        · skip
          replace E := zIf_f c13 E
          refine zg_iconst X 1 dX3_unit_130 (by decide) (fun v14 _ hv14 => ?_)
          replace E := zLet_s (zcst hv14 (by decide)) E
          refine zg_cVv (As := [.int v14]) (st := []) X ha0 rfl (by decide) rfl (t_X3_fail l d L kd κ 2 _ hI a0 ha0 v14 ) mk_X3_106 mc_X3_fail mz_X3 mi_X3_fail ml_X3_fail (na := 1) ⟨md_X3.1, md_X3.2, by decide +kernel⟩ rfl ⟨by decide, by decide⟩ (Nat.le_of_ble_eq_true rfl) dX3_unit_131 (fun s15 hq => ?_)
          obtain ⟨hF, hS2, hI⟩ := hq
          replace E := zLet_s hF E
          have hS := hS.tr hS2 rfl rfl
          exact ret _ _ _ dX3_unit_134 ⟨E.symm.trans hR, hS, hI⟩
        · omega
      · omega
    · skip
      replace E := zIf_f (Int.not_lt.mpr c7) E
      refine zg_aload_n X 0 rfl dX3_unit_42 ?_
      refine fg_X3_26 X hI ha0 dX3_unit_43 (fun v16 ev16 _ => ?_)
      replace E := zLet_s ev16 E
      have mv16 : v16.toInt = v4.toInt := by rw [ev16, ← ev4]
      refine zg_bipush X 22 dX3_unit_46 (by decide) (fun v17 _ hv17 => ?_)
      replace E := zLet_s (zcst hv17 (by decide)) E
      have zv16_z18 := zb_rng v16
      refine zg_icmp_ge X 77 dX3_unit_48 (by decide) (fun c19 => ?_) (fun c19 => ?_)
      · skip
        replace E := zIf_f (Int.not_lt.mpr c19) E
        refine zg_aload_n X 0 rfl dX3_unit_77 ?_
        refine fg_X3_26 X hI ha0 dX3_unit_78 (fun v20 ev20 _ => ?_)
        replace E := zLet_s ev20 E
        have mv20 : v20.toInt = v16.toInt := by rw [ev20, ← ev16]
        refine zg_bipush X 31 dX3_unit_81 (by decide) (fun v21 _ hv21 => ?_)
        replace E := zLet_s (zcst hv21 (by decide)) E
        refine zg_icmp_ne X 116 dX3_unit_83 (by decide) (fun c22 => ?_) (fun c22 => ?_)
        · skip
          replace E := zIf_f c22 E
          refine zg_aload_n X 0 rfl dX3_unit_116 ?_
          refine zg_aload_n X 0 rfl dX3_unit_117 ?_
          refine fg_X3_26 X hI ha0 dX3_unit_118 (fun v23 ev23 _ => ?_)
          replace E := zLet_s ev23 E
          have mv23 : v23.toInt = v20.toInt := by rw [ev23, ← ev20]
          refine zg_bipush X 31 dX3_unit_121 (by decide) (fun v24 _ hv24 => ?_)
          replace E := zLet_s (zcst hv24 (by decide)) E
          refine zg_icmp_ne X 130 dX3_unit_123 (by decide) (fun c25 => ?_) (fun c25 => ?_)
          · skip
            replace E := zIf_f c25 E
            refine zg_iconst X 1 dX3_unit_130 (by decide) (fun v26 _ hv26 => ?_)
            replace E := zLet_s (zcst hv26 (by decide)) E
            refine zg_cVv (As := [.int v26]) (st := []) X ha0 rfl (by decide) rfl (t_X3_fail l d L kd κ 2 _ hI a0 ha0 v26 ) mk_X3_106 mc_X3_fail mz_X3 mi_X3_fail ml_X3_fail (na := 1) ⟨md_X3.1, md_X3.2, by decide +kernel⟩ rfl ⟨by decide, by decide⟩ (Nat.le_of_ble_eq_true rfl) dX3_unit_131 (fun s27 hq => ?_)
            obtain ⟨hF, hS2, hI⟩ := hq
            replace E := zLet_s hF E
            have hS := hS.tr hS2 rfl rfl
            exact ret _ _ _ dX3_unit_134 ⟨E.symm.trans hR, hS, hI⟩
          · skip
            replace E := zIf_t c25 E
            refine zg_iconst X 2 dX3_unit_126 (by decide) (fun v28 _ hv28 => ?_)
            replace E := zLet_s (zcst hv28 (by decide)) E
            refine zg_goto X 131 dX3_unit_127 (by decide) ?_
            refine zg_cVv (As := [.int v28]) (st := []) X ha0 rfl (by decide) rfl (t_X3_fail l d L kd κ 2 _ hI a0 ha0 v28 ) mk_X3_106 mc_X3_fail mz_X3 mi_X3_fail ml_X3_fail (na := 1) ⟨md_X3.1, md_X3.2, by decide +kernel⟩ rfl ⟨by decide, by decide⟩ (Nat.le_of_ble_eq_true rfl) dX3_unit_131 (fun s29 hq => ?_)
            obtain ⟨hF, hS2, hI⟩ := hq
            replace E := zLet_s hF E
            have hS := hS.tr hS2 rfl rfl
            exact ret _ _ _ dX3_unit_134 ⟨E.symm.trans hR, hS, hI⟩
        · skip
          replace E := zIf_t c22 E
          refine zg_iload_n X 1 rfl dX3_unit_86 ?_
          refine zg_bipush X 6 dX3_unit_87 (by decide) (fun v30 _ hv30 => ?_)
          replace E := zLet_s (zcst hv30 (by decide)) E
          refine zg_icmp_ge X 116 dX3_unit_89 (by decide) (fun c31 => ?_) (fun c31 => ?_)
          · omega
          · skip
            replace E := zIf_t c31 E
            refine zg_aload_n X 0 rfl dX3_unit_92 ?_
            refine zg_aload_n X 0 rfl dX3_unit_93 ?_
            refine fg_X3_26 X hI ha0 dX3_unit_94 (fun v32 ev32 _ => ?_)
            replace E := zLet_s ev32 E
            have mv32 : v32.toInt = v20.toInt := by rw [ev32, ← ev20]
            refine zg_cVv (As := [.int v32]) (st := []) X ha0 rfl (by decide) rfl (t_X3_take l d L kd κ 2 _ hI a0 ha0 v32 ) mk_X3_87 mc_X3_take mz_X3 mi_X3_take ml_X3_take (na := 1) ⟨md_X3.1, md_X3.2, by decide +kernel⟩ rfl ⟨by decide, by decide⟩ (Nat.le_of_ble_eq_true rfl) dX3_unit_97 (fun s33 hq => ?_)
            obtain ⟨hF, hS2, hI⟩ := hq
            replace E := zLet_s hF E
            have hS := hS.tr hS2 rfl rfl
            refine zg_aload_n X 0 rfl dX3_unit_100 ?_
            refine zg_iload_n X 1 rfl dX3_unit_101 ?_
            refine zg_iconst X 1 dX3_unit_102 (by decide) (fun v34 _ hv34 => ?_)
            replace E := zLet_s (zcst hv34 (by decide)) E
            refine zg_iadd X dX3_unit_103 (by omega) (by omega) (fun v35 ev35 hv35 => ?_)
            replace E := zLet_s ev35 E
            refine zg_cVv (As := [.int v35]) (st := []) X ha0 rfl (by decide) rfl (t_X3_sum_o4 l d L kd κ _ hI a0 ha0 v35 (by omega)) mk_X3_140 mc_X3_sum mz_X3 mi_X3_sum ml_X3_sum (na := 1) ⟨md_X3.1, md_X3.2, by decide +kernel⟩ rfl ⟨by decide, by decide⟩ (Nat.le_of_ble_eq_true rfl) dX3_unit_104 (fun s36 hq => ?_)
            obtain ⟨hF, hS2, hI⟩ := hq
            replace E := zLet_s hF E
            have hS := hS.tr hS2 rfl rfl
            refine zg_aload_n X 0 rfl dX3_unit_107 ?_
            refine zg_bipush X 32 dX3_unit_108 (by decide) (fun v37 _ hv37 => ?_)
            replace E := zLet_s (zcst hv37 (by decide)) E
            refine zg_cVv (As := [.int v37]) (st := []) X ha0 rfl (by decide) rfl (t_X3_take l d L kd κ 2 _ hI a0 ha0 v37 ) mk_X3_87 mc_X3_take mz_X3 mi_X3_take ml_X3_take (na := 1) ⟨md_X3.1, md_X3.2, by decide +kernel⟩ rfl ⟨by decide, by decide⟩ (Nat.le_of_ble_eq_true rfl) dX3_unit_110 (fun s38 hq => ?_)
            obtain ⟨hF, hS2, hI⟩ := hq
            replace E := zLet_s hF E
            have hS := hS.tr hS2 rfl rfl
            refine zg_goto X 134 dX3_unit_113 (by decide) ?_
            exact ret _ _ _ dX3_unit_134 ⟨E.symm.trans hR, hS, hI⟩
      · skip
        replace E := zIf_t c19 E
        refine zg_aload_n X 0 rfl dX3_unit_51 ?_
        refine fg_X3_18 X hI ha0 dX3_unit_52 (fun v39 ev39 hv39 => ?_)
        replace E := zLet_s (zgr ev39) E
        refine zg_iconst X 1 dX3_unit_55 (by decide) (fun v40 _ hv40 => ?_)
        replace E := zLet_s (zcst hv40 (by decide)) E
        refine zg_aload_n X 0 rfl dX3_unit_56 ?_
        refine fg_X3_26 X hI ha0 dX3_unit_57 (fun v41 ev41 _ => ?_)
        replace E := zLet_s ev41 E
        have mv41 : v41.toInt = v16.toInt := by rw [ev41, ← ev16]
        refine zg_bipush X 13 dX3_unit_60 (by decide) (fun v42 _ hv42 => ?_)
        replace E := zLet_s (zcst hv42 (by decide)) E
        refine zg_isub X dX3_unit_62 (by omega) (by omega) (fun v43 ev43 hv43 => ?_)
        replace E := zLet_s ev43 E
        refine zg_cVv (As := [.int v40, .int v43]) (st := []) X hv39 rfl (by decide) rfl (t_X9_addStep l d L kd κ 2 _ hI v39 hv39 v40 v43 ) mk_X3_145 mc_X9_addStep mz_X9 mi_X9_addStep ml_X9_addStep (na := 2) ⟨md_X9.1, md_X9.2, by decide +kernel⟩ rfl ⟨by decide, by decide⟩ (Nat.le_of_ble_eq_true rfl) dX3_unit_63 (fun s44 hq => ?_)
        obtain ⟨hF, hS2, hI⟩ := hq
        replace E := zLet_s hF E
        have hS := hS.tr hS2 rfl rfl
        refine zg_aload_n X 0 rfl dX3_unit_66 ?_
        refine zg_aload_n X 0 rfl dX3_unit_67 ?_
        refine fg_X3_26 X hI ha0 dX3_unit_68 (fun v45 ev45 _ => ?_)
        replace E := zLet_s ev45 E
        refine zg_cVv (As := [.int v45]) (st := []) X ha0 rfl (by decide) rfl (t_X3_take l d L kd κ 2 _ hI a0 ha0 v45 ) mk_X3_87 mc_X3_take mz_X3 mi_X3_take ml_X3_take (na := 1) ⟨md_X3.1, md_X3.2, by decide +kernel⟩ rfl ⟨by decide, by decide⟩ (Nat.le_of_ble_eq_true rfl) dX3_unit_71 (fun s46 hq => ?_)
        obtain ⟨hF, hS2, hI⟩ := hq
        replace E := zLet_s hF E
        have hS := hS.tr hS2 rfl rfl
        refine zg_goto X 134 dX3_unit_74 (by decide) ?_
        exact ret _ _ _ dX3_unit_134 ⟨E.symm.trans hR, hS, hI⟩
  · skip
    replace E := zIf_t c3 E
    refine zg_aload_n X 0 rfl dX3_unit_9 ?_
    refine fg_X3_18 X hI ha0 dX3_unit_10 (fun v47 ev47 hv47 => ?_)
    replace E := zLet_s (zgr ev47) E
    refine zg_iconst X 0 dX3_unit_13 (by decide) (fun v48 _ hv48 => ?_)
    replace E := zLet_s (zcst hv48 (by decide)) E
    refine zg_aload_n X 0 rfl dX3_unit_14 ?_
    refine fg_X3_29 X ha0 dX3_unit_15 (fun v49 ev49 => ?_)
    replace E := zLet_s ev49 E
    refine zg_l2i X dX3_unit_18 (fun v50 ev50 => ?_)
    replace E := zLet_s ev50 E
    refine zg_cVv (As := [.int v48, .int v50]) (st := []) X hv47 rfl (by decide) rfl (t_X9_addStep l d L kd κ 2 _ hI v47 hv47 v48 v50 ) mk_X3_145 mc_X9_addStep mz_X9 mi_X9_addStep ml_X9_addStep (na := 2) ⟨md_X9.1, md_X9.2, by decide +kernel⟩ rfl ⟨by decide, by decide⟩ (Nat.le_of_ble_eq_true rfl) dX3_unit_19 (fun s51 hq => ?_)
    obtain ⟨hF, hS2, hI⟩ := hq
    replace E := zLet_s hF E
    have hS := hS.tr hS2 rfl rfl
    refine zg_aload_n X 0 rfl dX3_unit_22 ?_
    refine zg_aload_n X 0 rfl dX3_unit_23 ?_
    refine fg_X3_26 X hI ha0 dX3_unit_24 (fun v52 ev52 _ => ?_)
    replace E := zLet_s ev52 E
    refine zg_cVv (As := [.int v52]) (st := []) X ha0 rfl (by decide) rfl (t_X3_take l d L kd κ 2 _ hI a0 ha0 v52 ) mk_X3_87 mc_X3_take mz_X3 mi_X3_take ml_X3_take (na := 1) ⟨md_X3.1, md_X3.2, by decide +kernel⟩ rfl ⟨by decide, by decide⟩ (Nat.le_of_ble_eq_true rfl) dX3_unit_27 (fun s53 hq => ?_)
    obtain ⟨hF, hS2, hI⟩ := hq
    replace E := zLet_s hF E
    have hS := hS.tr hS2 rfl rfl
    refine zg_goto X 134 dX3_unit_30 (by decide) ?_
    exact ret _ _ _ dX3_unit_134 ⟨E.symm.trans hR, hS, hI⟩
set_option maxHeartbeats 4000000 in
set_option maxRecDepth 100000 in
theorem t_X3_product_o3 (l : Launch) (d : zD2) (L : List Nat) (kd : Nat → Nat) (κ : Int) (σ : zS) (hI : zI κ 2 L kd σ) (a0 : Nat) (ha0 : zT L kd a0 3) (p1 : Int32) (hq0 : p1.toInt = 3) : zMv l yX3_product (Cond.code yX3_product cX3_product 4 none :: zWL) 12 [.ref a0, .int p1] d L kd σ (fun σ2 => σ2 = F_X3_product_o3 a0 p1 σ ∧ zSm [3, 9, 49, 50] [] L kd σ σ2 ∧ (zI κ 2 L kd σ2)) := by
  refine zMv.of (own := RX3) (by decide +kernel) rfl rfl (Nat.le_of_ble_eq_true rfl) ?_
  intro p e s m args below meth c A Q X ret
  refine zg_lv (lv2 := [(0, .ref a0), (1, .int p1)]) rfl ?_
  obtain ⟨R, hR⟩ : ∃ R, R = F_X3_product_o3 a0 p1 σ := ⟨_, rfl⟩
  have E := hR
  unfold F_X3_product_o3 at E
  have hS : zSm [3, 9, 49, 50] [] L kd σ σ := zSm.rf
  refine zg_aload_n X 0 rfl dX3_product_0 ?_
  refine zg_iload_n X 1 rfl dX3_product_1 ?_
  refine zg_cVv (As := [.int p1]) (st := []) X ha0 rfl (by decide) rfl (t_X3_unit_o3 l d L kd κ _ hI a0 ha0 p1 (by omega)) mk_X3_159 mc_X3_unit mz_X3 mi_X3_unit ml_X3_unit (na := 1) ⟨md_X3.1, md_X3.2, by decide +kernel⟩ rfl ⟨by decide, by decide⟩ (Nat.le_of_ble_eq_true rfl) dX3_product_2 (fun s1 hq => ?_)
  obtain ⟨hF, hS2, hI⟩ := hq
  replace E := zLet_s hF E
  have hS := hS.tr hS2 rfl rfl
  refine zg_iconst X 0 dX3_product_5 (by decide) (fun v2 _ hv2 => ?_)
  replace E := zLet_s (zcst hv2 (by decide)) E
  refine zg_istore_n X [(2, .int v2), (0, .ref a0), (1, .int p1)] dX3_product_6 (by decide) rfl ?_
  have Lp4 : ∀ (nLp4 : Nat) (τ4 : zS) (x3 : Int32), zI κ 2 L kd τ4 → zSm [3, 9, 49, 50] [] L kd σ τ4 → R = F_X3_product_o3_7 a0 p1  nLp4 x3 τ4 → 0 ≤ x3.toInt ∧ x3.toInt ≤ 401 → (401) - x3.toInt + 1 < (nLp4 : Int) → zG d L kd A 4 p l e (k2_rm 12 (100 * 12)) s m args below meth c Q τ4 7 [(2, .int x3), (0, .ref a0), (1, .int p1)] [] := by
    intro nLp4
    induction nLp4 with
    | zero => intro τ4 x3 hI hS E  hxLp4 hm ; exact absurd hm (by omega)
    | succ nLp4 ihLp4 =>
      intro τ4 x3 hI hS E  hxLp4 hmLp4 
      rw [F_X3_product_o3_7] at E
      refine zg_iload_n X 0 rfl dX3_product_7 ?_
      refine zg_sipush X 400 dX3_product_8 (by decide) (fun v5 _ hv5 => ?_)
      replace E := zLet_s (zcst hv5 (by decide)) E
      refine zg_icmp_gt X 68 dX3_product_11 (by decide) (fun c6 => ?_) (fun c6 => ?_)
      · skip
        replace E := zIf_t c6 E
        exact ret _ _ _ dX3_product_68 ⟨E.symm.trans hR, hS, hI⟩
      · skip
        replace E := zIf_f (Int.not_lt.mpr c6) E
        refine zg_aload_n X 1 rfl dX3_product_14 ?_
        refine fg_X3_26 X hI ha0 dX3_product_15 (fun v7 ev7 _ => ?_)
        replace E := zLet_s ev7 E
        refine zg_bipush X 28 dX3_product_18 (by decide) (fun v8 _ hv8 => ?_)
        replace E := zLet_s (zcst hv8 (by decide)) E
        refine zg_bipush X 29 dX3_product_20 (by decide) (fun v9 _ hv9 => ?_)
        replace E := zLet_s (zcst hv9 (by decide)) E
        refine zg_cSNi (As := [.int v7, .int v8, .int v9]) (st := []) X (t_X10_isWithin l d L kd _ v7 v8 v9 ) mk_X3_80 mc_X10_isWithin mz_X10 ms_X10_isWithin (na := 3) ⟨md_X10.1, md_X10.2, by decide +kernel⟩ rfl ⟨by decide, by decide⟩ (Nat.le_of_ble_eq_true rfl) dX3_product_22 (fun v10 σ2 hq => ?_)
        obtain ⟨⟨hF, hv10⟩, rfl⟩ := hq
        replace E := zLet_s hF E
        refine zg_if_eq X 68 dX3_product_25 (by decide) (fun c11 => ?_) (fun c11 => ?_)
        · skip
          replace E := zIf_t c11 E
          exact ret _ _ _ dX3_product_68 ⟨E.symm.trans hR, hS, hI⟩
        · skip
          replace E := zIf_f c11 E
          refine zg_aload_n X 1 rfl dX3_product_28 ?_
          refine fg_X3_26 X hI ha0 dX3_product_29 (fun v12 ev12 _ => ?_)
          replace E := zLet_s ev12 E
          have mv12 : v12.toInt = v7.toInt := by rw [ev12, ← ev7]
          refine zg_istore_n X [(3, .int v12), (2, .int x3), (0, .ref a0), (1, .int p1)] dX3_product_32 (by decide) rfl ?_
          refine zg_aload_n X 2 rfl dX3_product_33 ?_
          refine zg_iload_n X 0 rfl dX3_product_34 ?_
          refine zg_cVv (As := [.int v12]) (st := []) X ha0 rfl (by decide) rfl (t_X3_take l d L kd κ 2 _ hI a0 ha0 v12 ) mk_X3_87 mc_X3_take mz_X3 mi_X3_take ml_X3_take (na := 1) ⟨md_X3.1, md_X3.2, by decide +kernel⟩ rfl ⟨by decide, by decide⟩ (Nat.le_of_ble_eq_true rfl) dX3_product_35 (fun s13 hq => ?_)
          obtain ⟨hF, hS2, hI⟩ := hq
          replace E := zLet_s hF E
          have hS := hS.tr hS2 rfl rfl
          refine zg_aload_n X 2 rfl dX3_product_38 ?_
          refine zg_iload_n X 3 rfl dX3_product_39 ?_
          refine zg_cVv (As := [.int p1]) (st := []) X ha0 rfl (by decide) rfl (t_X3_unit_o3 l d L kd κ _ hI a0 ha0 p1 (by omega)) mk_X3_159 mc_X3_unit mz_X3 mi_X3_unit ml_X3_unit (na := 1) ⟨md_X3.1, md_X3.2, by decide +kernel⟩ rfl ⟨by decide, by decide⟩ (Nat.le_of_ble_eq_true rfl) dX3_product_40 (fun s14 hq => ?_)
          obtain ⟨hF, hS2, hI⟩ := hq
          replace E := zLet_s hF E
          have hS := hS.tr hS2 rfl rfl
          refine zg_aload_n X 2 rfl dX3_product_43 ?_
          refine fg_X3_18 X hI ha0 dX3_product_44 (fun v15 ev15 hv15 => ?_)
          replace E := zLet_s (zgr ev15) E
          refine zg_iload_n X 0 rfl dX3_product_47 ?_
          refine zg_bipush X 28 dX3_product_48 (by decide) (fun v16 _ hv16 => ?_)
          replace E := zLet_s (zcst hv16 (by decide)) E
          refine zg_icmp_ne X 57 dX3_product_50 (by decide) (fun c17 => ?_) (fun c17 => ?_)
          · skip
            replace E := zIf_f c17 E
            refine zg_iconst X 5 dX3_product_57 (by decide) (fun v18 _ hv18 => ?_)
            replace E := zLet_s (zcst hv18 (by decide)) E
            refine zg_iconst X 0 dX3_product_58 (by decide) (fun v19 _ hv19 => ?_)
            replace E := zLet_s (zcst hv19 (by decide)) E
            refine zg_cVv (As := [.int v18, .int v19]) (st := []) X hv15 rfl (by decide) rfl (t_X9_addStep l d L kd κ 2 _ hI v15 hv15 v18 v19 ) mk_X3_145 mc_X9_addStep mz_X9 mi_X9_addStep ml_X9_addStep (na := 2) ⟨md_X9.1, md_X9.2, by decide +kernel⟩ rfl ⟨by decide, by decide⟩ (Nat.le_of_ble_eq_true rfl) dX3_product_59 (fun s20 hq => ?_)
            obtain ⟨hF, hS2, hI⟩ := hq
            replace E := zLet_s hF E
            have hS := hS.tr hS2 rfl rfl
            refine zg_iinc X 1 (fun v21 => [(2, .int v21), (3, .int v12), (0, .ref a0), (1, .int p1)]) 1 dX3_product_62 rfl (by decide) (by decide) (by omega) (by omega) (fun _ => rfl) (fun v21 ev21 hv21 => ?_)
            replace E := zLet_s (zinc ev21 (by decide)) E
            refine zg_goto X 7 dX3_product_65 (by decide) ?_
            refine zg_sub [0, 2, 3] rfl ?_
            exact ihLp4 _ v21 hI hS E  (by omega) (by omega) 
          · skip
            replace E := zIf_t c17 E
            refine zg_iconst X 4 dX3_product_53 (by decide) (fun v22 _ hv22 => ?_)
            replace E := zLet_s (zcst hv22 (by decide)) E
            refine zg_goto X 58 dX3_product_54 (by decide) ?_
            refine zg_iconst X 0 dX3_product_58 (by decide) (fun v23 _ hv23 => ?_)
            replace E := zLet_s (zcst hv23 (by decide)) E
            refine zg_cVv (As := [.int v22, .int v23]) (st := []) X hv15 rfl (by decide) rfl (t_X9_addStep l d L kd κ 2 _ hI v15 hv15 v22 v23 ) mk_X3_145 mc_X9_addStep mz_X9 mi_X9_addStep ml_X9_addStep (na := 2) ⟨md_X9.1, md_X9.2, by decide +kernel⟩ rfl ⟨by decide, by decide⟩ (Nat.le_of_ble_eq_true rfl) dX3_product_59 (fun s24 hq => ?_)
            obtain ⟨hF, hS2, hI⟩ := hq
            replace E := zLet_s hF E
            have hS := hS.tr hS2 rfl rfl
            refine zg_iinc X 1 (fun v25 => [(2, .int v25), (3, .int v12), (0, .ref a0), (1, .int p1)]) 1 dX3_product_62 rfl (by decide) (by decide) (by omega) (by omega) (fun _ => rfl) (fun v25 ev25 hv25 => ?_)
            replace E := zLet_s (zinc ev25 (by decide)) E
            refine zg_goto X 7 dX3_product_65 (by decide) ?_
            refine zg_sub [0, 2, 3] rfl ?_
            exact ihLp4 _ v25 hI hS E  (by omega) (by omega) 
  refine zg_sub [0, 1, 2] rfl ?_
  exact Lp4 10000 _ v2 hI hS E  (by omega) (by omega) 
set_option maxHeartbeats 4000000 in
set_option maxRecDepth 100000 in
theorem t_X3_sum_o3 (l : Launch) (d : zD2) (L : List Nat) (kd : Nat → Nat) (κ : Int) (σ : zS) (hI : zI κ 2 L kd σ) (a0 : Nat) (ha0 : zT L kd a0 3) (p1 : Int32) (hq0 : p1.toInt = 3) : zMv l yX3_sum (Cond.code yX3_sum cX3_sum 4 none :: zWL) 13 [.ref a0, .int p1] d L kd σ (fun σ2 => σ2 = F_X3_sum_o3 a0 p1 σ ∧ zSm [3, 9, 49, 50] [] L kd σ σ2 ∧ (zI κ 2 L kd σ2)) := by
  refine zMv.of (own := RX3) (by decide +kernel) rfl rfl (Nat.le_of_ble_eq_true rfl) ?_
  intro p e s m args below meth c A Q X ret
  refine zg_lv (lv2 := [(0, .ref a0), (1, .int p1)]) rfl ?_
  obtain ⟨R, hR⟩ : ∃ R, R = F_X3_sum_o3 a0 p1 σ := ⟨_, rfl⟩
  have E := hR
  unfold F_X3_sum_o3 at E
  have hS : zSm [3, 9, 49, 50] [] L kd σ σ := zSm.rf
  refine zg_aload_n X 0 rfl dX3_sum_0 ?_
  refine zg_iload_n X 1 rfl dX3_sum_1 ?_
  refine zg_cVv (As := [.int p1]) (st := []) X ha0 rfl (by decide) rfl (t_X3_product_o3 l d L kd κ _ hI a0 ha0 p1 (by omega)) mk_X3_156 mc_X3_product mz_X3 mi_X3_product ml_X3_product (na := 1) ⟨md_X3.1, md_X3.2, by decide +kernel⟩ rfl ⟨by decide, by decide⟩ (Nat.le_of_ble_eq_true rfl) dX3_sum_2 (fun s1 hq => ?_)
  obtain ⟨hF, hS2, hI⟩ := hq
  replace E := zLet_s hF E
  have hS := hS.tr hS2 rfl rfl
  refine zg_iconst X 0 dX3_sum_5 (by decide) (fun v2 _ hv2 => ?_)
  replace E := zLet_s (zcst hv2 (by decide)) E
  refine zg_istore_n X [(2, .int v2), (0, .ref a0), (1, .int p1)] dX3_sum_6 (by decide) rfl ?_
  have Lp4 : ∀ (nLp4 : Nat) (τ4 : zS) (x3 : Int32), zI κ 2 L kd τ4 → zSm [3, 9, 49, 50] [] L kd σ τ4 → R = F_X3_sum_o3_7 a0 p1  nLp4 x3 τ4 → 0 ≤ x3.toInt ∧ x3.toInt ≤ 401 → (401) - x3.toInt + 1 < (nLp4 : Int) → zG d L kd A 4 p l e (k2_rm 13 (100 * 13)) s m args below meth c Q τ4 7 [(2, .int x3), (0, .ref a0), (1, .int p1)] [] := by
    intro nLp4
    induction nLp4 with
    | zero => intro τ4 x3 hI hS E  hxLp4 hm ; exact absurd hm (by omega)
    | succ nLp4 ihLp4 =>
      intro τ4 x3 hI hS E  hxLp4 hmLp4 
      rw [F_X3_sum_o3_7] at E
      refine zg_iload_n X 0 rfl dX3_sum_7 ?_
      refine zg_sipush X 400 dX3_sum_8 (by decide) (fun v5 _ hv5 => ?_)
      replace E := zLet_s (zcst hv5 (by decide)) E
      refine zg_icmp_gt X 68 dX3_sum_11 (by decide) (fun c6 => ?_) (fun c6 => ?_)
      · skip
        replace E := zIf_t c6 E
        exact ret _ _ _ dX3_sum_68 ⟨E.symm.trans hR, hS, hI⟩
      · skip
        replace E := zIf_f (Int.not_lt.mpr c6) E
        refine zg_aload_n X 1 rfl dX3_sum_14 ?_
        refine fg_X3_26 X hI ha0 dX3_sum_15 (fun v7 ev7 _ => ?_)
        replace E := zLet_s ev7 E
        refine zg_bipush X 26 dX3_sum_18 (by decide) (fun v8 _ hv8 => ?_)
        replace E := zLet_s (zcst hv8 (by decide)) E
        refine zg_bipush X 27 dX3_sum_20 (by decide) (fun v9 _ hv9 => ?_)
        replace E := zLet_s (zcst hv9 (by decide)) E
        refine zg_cSNi (As := [.int v7, .int v8, .int v9]) (st := []) X (t_X10_isWithin l d L kd _ v7 v8 v9 ) mk_X3_80 mc_X10_isWithin mz_X10 ms_X10_isWithin (na := 3) ⟨md_X10.1, md_X10.2, by decide +kernel⟩ rfl ⟨by decide, by decide⟩ (Nat.le_of_ble_eq_true rfl) dX3_sum_22 (fun v10 σ2 hq => ?_)
        obtain ⟨⟨hF, hv10⟩, rfl⟩ := hq
        replace E := zLet_s hF E
        refine zg_if_eq X 68 dX3_sum_25 (by decide) (fun c11 => ?_) (fun c11 => ?_)
        · skip
          replace E := zIf_t c11 E
          exact ret _ _ _ dX3_sum_68 ⟨E.symm.trans hR, hS, hI⟩
        · skip
          replace E := zIf_f c11 E
          refine zg_aload_n X 1 rfl dX3_sum_28 ?_
          refine fg_X3_26 X hI ha0 dX3_sum_29 (fun v12 ev12 _ => ?_)
          replace E := zLet_s ev12 E
          have mv12 : v12.toInt = v7.toInt := by rw [ev12, ← ev7]
          refine zg_istore_n X [(3, .int v12), (2, .int x3), (0, .ref a0), (1, .int p1)] dX3_sum_32 (by decide) rfl ?_
          refine zg_aload_n X 2 rfl dX3_sum_33 ?_
          refine zg_iload_n X 0 rfl dX3_sum_34 ?_
          refine zg_cVv (As := [.int v12]) (st := []) X ha0 rfl (by decide) rfl (t_X3_take l d L kd κ 2 _ hI a0 ha0 v12 ) mk_X3_87 mc_X3_take mz_X3 mi_X3_take ml_X3_take (na := 1) ⟨md_X3.1, md_X3.2, by decide +kernel⟩ rfl ⟨by decide, by decide⟩ (Nat.le_of_ble_eq_true rfl) dX3_sum_35 (fun s13 hq => ?_)
          obtain ⟨hF, hS2, hI⟩ := hq
          replace E := zLet_s hF E
          have hS := hS.tr hS2 rfl rfl
          refine zg_aload_n X 2 rfl dX3_sum_38 ?_
          refine zg_iload_n X 3 rfl dX3_sum_39 ?_
          refine zg_cVv (As := [.int p1]) (st := []) X ha0 rfl (by decide) rfl (t_X3_product_o3 l d L kd κ _ hI a0 ha0 p1 (by omega)) mk_X3_156 mc_X3_product mz_X3 mi_X3_product ml_X3_product (na := 1) ⟨md_X3.1, md_X3.2, by decide +kernel⟩ rfl ⟨by decide, by decide⟩ (Nat.le_of_ble_eq_true rfl) dX3_sum_40 (fun s14 hq => ?_)
          obtain ⟨hF, hS2, hI⟩ := hq
          replace E := zLet_s hF E
          have hS := hS.tr hS2 rfl rfl
          refine zg_aload_n X 2 rfl dX3_sum_43 ?_
          refine fg_X3_18 X hI ha0 dX3_sum_44 (fun v15 ev15 hv15 => ?_)
          replace E := zLet_s (zgr ev15) E
          refine zg_iload_n X 0 rfl dX3_sum_47 ?_
          refine zg_bipush X 26 dX3_sum_48 (by decide) (fun v16 _ hv16 => ?_)
          replace E := zLet_s (zcst hv16 (by decide)) E
          refine zg_icmp_ne X 57 dX3_sum_50 (by decide) (fun c17 => ?_) (fun c17 => ?_)
          · skip
            replace E := zIf_f c17 E
            refine zg_iconst X 3 dX3_sum_57 (by decide) (fun v18 _ hv18 => ?_)
            replace E := zLet_s (zcst hv18 (by decide)) E
            refine zg_iconst X 0 dX3_sum_58 (by decide) (fun v19 _ hv19 => ?_)
            replace E := zLet_s (zcst hv19 (by decide)) E
            refine zg_cVv (As := [.int v18, .int v19]) (st := []) X hv15 rfl (by decide) rfl (t_X9_addStep l d L kd κ 2 _ hI v15 hv15 v18 v19 ) mk_X3_145 mc_X9_addStep mz_X9 mi_X9_addStep ml_X9_addStep (na := 2) ⟨md_X9.1, md_X9.2, by decide +kernel⟩ rfl ⟨by decide, by decide⟩ (Nat.le_of_ble_eq_true rfl) dX3_sum_59 (fun s20 hq => ?_)
            obtain ⟨hF, hS2, hI⟩ := hq
            replace E := zLet_s hF E
            have hS := hS.tr hS2 rfl rfl
            refine zg_iinc X 1 (fun v21 => [(2, .int v21), (3, .int v12), (0, .ref a0), (1, .int p1)]) 1 dX3_sum_62 rfl (by decide) (by decide) (by omega) (by omega) (fun _ => rfl) (fun v21 ev21 hv21 => ?_)
            replace E := zLet_s (zinc ev21 (by decide)) E
            refine zg_goto X 7 dX3_sum_65 (by decide) ?_
            refine zg_sub [0, 2, 3] rfl ?_
            exact ihLp4 _ v21 hI hS E  (by omega) (by omega) 
          · skip
            replace E := zIf_t c17 E
            refine zg_iconst X 2 dX3_sum_53 (by decide) (fun v22 _ hv22 => ?_)
            replace E := zLet_s (zcst hv22 (by decide)) E
            refine zg_goto X 58 dX3_sum_54 (by decide) ?_
            refine zg_iconst X 0 dX3_sum_58 (by decide) (fun v23 _ hv23 => ?_)
            replace E := zLet_s (zcst hv23 (by decide)) E
            refine zg_cVv (As := [.int v22, .int v23]) (st := []) X hv15 rfl (by decide) rfl (t_X9_addStep l d L kd κ 2 _ hI v15 hv15 v22 v23 ) mk_X3_145 mc_X9_addStep mz_X9 mi_X9_addStep ml_X9_addStep (na := 2) ⟨md_X9.1, md_X9.2, by decide +kernel⟩ rfl ⟨by decide, by decide⟩ (Nat.le_of_ble_eq_true rfl) dX3_sum_59 (fun s24 hq => ?_)
            obtain ⟨hF, hS2, hI⟩ := hq
            replace E := zLet_s hF E
            have hS := hS.tr hS2 rfl rfl
            refine zg_iinc X 1 (fun v25 => [(2, .int v25), (3, .int v12), (0, .ref a0), (1, .int p1)]) 1 dX3_sum_62 rfl (by decide) (by decide) (by omega) (by omega) (fun _ => rfl) (fun v25 ev25 hv25 => ?_)
            replace E := zLet_s (zinc ev25 (by decide)) E
            refine zg_goto X 7 dX3_sum_65 (by decide) ?_
            refine zg_sub [0, 2, 3] rfl ?_
            exact ihLp4 _ v25 hI hS E  (by omega) (by omega) 
  refine zg_sub [0, 1, 2] rfl ?_
  exact Lp4 10000 _ v2 hI hS E  (by omega) (by omega) 
set_option maxHeartbeats 4000000 in
set_option maxRecDepth 100000 in
theorem t_X3_unit_o2 (l : Launch) (d : zD2) (L : List Nat) (kd : Nat → Nat) (κ : Int) (σ : zS) (hI : zI κ 2 L kd σ) (a0 : Nat) (ha0 : zT L kd a0 3) (p1 : Int32) (hq0 : p1.toInt = 2) : zMv l yX3_unit (Cond.code yX3_unit cX3_unit 2 none :: zWL) 14 [.ref a0, .int p1] d L kd σ (fun σ2 => σ2 = F_X3_unit_o2 a0 p1 σ ∧ zSm [3, 9, 49, 50] [] L kd σ σ2 ∧ (zI κ 2 L kd σ2)) := by
  refine zMv.of (own := RX3) (by decide +kernel) rfl rfl (Nat.le_of_ble_eq_true rfl) ?_
  intro p e s m args below meth c A Q X ret
  refine zg_lv (lv2 := [(0, .ref a0), (1, .int p1)]) rfl ?_
  obtain ⟨R, hR⟩ : ∃ R, R = F_X3_unit_o2 a0 p1 σ := ⟨_, rfl⟩
  have E := hR
  unfold F_X3_unit_o2 at E
  have hS : zSm [3, 9, 49, 50] [] L kd σ σ := zSm.rf
  refine zg_aload_n X 0 rfl dX3_unit_0 ?_
  refine fg_X3_26 X hI ha0 dX3_unit_1 (fun v1 ev1 _ => ?_)
  replace E := zLet_s ev1 E
  refine zg_bipush X 23 dX3_unit_4 (by decide) (fun v2 _ hv2 => ?_)
  replace E := zLet_s (zcst hv2 (by decide)) E
  refine zg_icmp_ne X 33 dX3_unit_6 (by decide) (fun c3 => ?_) (fun c3 => ?_)
  · skip
    replace E := zIf_f c3 E
    refine zg_aload_n X 0 rfl dX3_unit_33 ?_
    refine fg_X3_26 X hI ha0 dX3_unit_34 (fun v4 ev4 _ => ?_)
    replace E := zLet_s ev4 E
    have mv4 : v4.toInt = v1.toInt := by rw [ev4, ← ev1]
    refine zg_bipush X 13 dX3_unit_37 (by decide) (fun v5 _ hv5 => ?_)
    replace E := zLet_s (zcst hv5 (by decide)) E
    have zv4_z6 := zb_rng v4
    refine zg_icmp_lt X 77 dX3_unit_39 (by decide) (fun c7 => ?_) (fun c7 => ?_)
    · skip
      replace E := zIf_t c7 E
      refine zg_aload_n X 0 rfl dX3_unit_77 ?_
      refine fg_X3_26 X hI ha0 dX3_unit_78 (fun v8 ev8 _ => ?_)
      replace E := zLet_s ev8 E
      have mv8 : v8.toInt = v4.toInt := by rw [ev8, ← ev4]
      refine zg_bipush X 31 dX3_unit_81 (by decide) (fun v9 _ hv9 => ?_)
      replace E := zLet_s (zcst hv9 (by decide)) E
      refine zg_icmp_ne X 116 dX3_unit_83 (by decide) (fun c10 => ?_) (fun c10 => ?_)
      · skip
        replace E := zIf_f c10 E
        refine zg_aload_n X 0 rfl dX3_unit_116 ?_
        refine zg_aload_n X 0 rfl dX3_unit_117 ?_
        refine fg_X3_26 X hI ha0 dX3_unit_118 (fun v11 ev11 _ => ?_)
        replace E := zLet_s ev11 E
        have mv11 : v11.toInt = v8.toInt := by rw [ev11, ← ev8]
        refine zg_bipush X 31 dX3_unit_121 (by decide) (fun v12 _ hv12 => ?_)
        replace E := zLet_s (zcst hv12 (by decide)) E
        refine zg_icmp_ne X 130 dX3_unit_123 (by decide) (fun c13 => ?_) (fun c13 => ?_)
        · skip
          replace E := zIf_f c13 E
          refine zg_iconst X 1 dX3_unit_130 (by decide) (fun v14 _ hv14 => ?_)
          replace E := zLet_s (zcst hv14 (by decide)) E
          refine zg_cVv (As := [.int v14]) (st := []) X ha0 rfl (by decide) rfl (t_X3_fail l d L kd κ 2 _ hI a0 ha0 v14 ) mk_X3_106 mc_X3_fail mz_X3 mi_X3_fail ml_X3_fail (na := 1) ⟨md_X3.1, md_X3.2, by decide +kernel⟩ rfl ⟨by decide, by decide⟩ (Nat.le_of_ble_eq_true rfl) dX3_unit_131 (fun s15 hq => ?_)
          obtain ⟨hF, hS2, hI⟩ := hq
          replace E := zLet_s hF E
          have hS := hS.tr hS2 rfl rfl
          exact ret _ _ _ dX3_unit_134 ⟨E.symm.trans hR, hS, hI⟩
        · omega
      · omega
    · skip
      replace E := zIf_f (Int.not_lt.mpr c7) E
      refine zg_aload_n X 0 rfl dX3_unit_42 ?_
      refine fg_X3_26 X hI ha0 dX3_unit_43 (fun v16 ev16 _ => ?_)
      replace E := zLet_s ev16 E
      have mv16 : v16.toInt = v4.toInt := by rw [ev16, ← ev4]
      refine zg_bipush X 22 dX3_unit_46 (by decide) (fun v17 _ hv17 => ?_)
      replace E := zLet_s (zcst hv17 (by decide)) E
      have zv16_z18 := zb_rng v16
      refine zg_icmp_ge X 77 dX3_unit_48 (by decide) (fun c19 => ?_) (fun c19 => ?_)
      · skip
        replace E := zIf_f (Int.not_lt.mpr c19) E
        refine zg_aload_n X 0 rfl dX3_unit_77 ?_
        refine fg_X3_26 X hI ha0 dX3_unit_78 (fun v20 ev20 _ => ?_)
        replace E := zLet_s ev20 E
        have mv20 : v20.toInt = v16.toInt := by rw [ev20, ← ev16]
        refine zg_bipush X 31 dX3_unit_81 (by decide) (fun v21 _ hv21 => ?_)
        replace E := zLet_s (zcst hv21 (by decide)) E
        refine zg_icmp_ne X 116 dX3_unit_83 (by decide) (fun c22 => ?_) (fun c22 => ?_)
        · skip
          replace E := zIf_f c22 E
          refine zg_aload_n X 0 rfl dX3_unit_116 ?_
          refine zg_aload_n X 0 rfl dX3_unit_117 ?_
          refine fg_X3_26 X hI ha0 dX3_unit_118 (fun v23 ev23 _ => ?_)
          replace E := zLet_s ev23 E
          have mv23 : v23.toInt = v20.toInt := by rw [ev23, ← ev20]
          refine zg_bipush X 31 dX3_unit_121 (by decide) (fun v24 _ hv24 => ?_)
          replace E := zLet_s (zcst hv24 (by decide)) E
          refine zg_icmp_ne X 130 dX3_unit_123 (by decide) (fun c25 => ?_) (fun c25 => ?_)
          · skip
            replace E := zIf_f c25 E
            refine zg_iconst X 1 dX3_unit_130 (by decide) (fun v26 _ hv26 => ?_)
            replace E := zLet_s (zcst hv26 (by decide)) E
            refine zg_cVv (As := [.int v26]) (st := []) X ha0 rfl (by decide) rfl (t_X3_fail l d L kd κ 2 _ hI a0 ha0 v26 ) mk_X3_106 mc_X3_fail mz_X3 mi_X3_fail ml_X3_fail (na := 1) ⟨md_X3.1, md_X3.2, by decide +kernel⟩ rfl ⟨by decide, by decide⟩ (Nat.le_of_ble_eq_true rfl) dX3_unit_131 (fun s27 hq => ?_)
            obtain ⟨hF, hS2, hI⟩ := hq
            replace E := zLet_s hF E
            have hS := hS.tr hS2 rfl rfl
            exact ret _ _ _ dX3_unit_134 ⟨E.symm.trans hR, hS, hI⟩
          · skip
            replace E := zIf_t c25 E
            refine zg_iconst X 2 dX3_unit_126 (by decide) (fun v28 _ hv28 => ?_)
            replace E := zLet_s (zcst hv28 (by decide)) E
            refine zg_goto X 131 dX3_unit_127 (by decide) ?_
            refine zg_cVv (As := [.int v28]) (st := []) X ha0 rfl (by decide) rfl (t_X3_fail l d L kd κ 2 _ hI a0 ha0 v28 ) mk_X3_106 mc_X3_fail mz_X3 mi_X3_fail ml_X3_fail (na := 1) ⟨md_X3.1, md_X3.2, by decide +kernel⟩ rfl ⟨by decide, by decide⟩ (Nat.le_of_ble_eq_true rfl) dX3_unit_131 (fun s29 hq => ?_)
            obtain ⟨hF, hS2, hI⟩ := hq
            replace E := zLet_s hF E
            have hS := hS.tr hS2 rfl rfl
            exact ret _ _ _ dX3_unit_134 ⟨E.symm.trans hR, hS, hI⟩
        · skip
          replace E := zIf_t c22 E
          refine zg_iload_n X 1 rfl dX3_unit_86 ?_
          refine zg_bipush X 6 dX3_unit_87 (by decide) (fun v30 _ hv30 => ?_)
          replace E := zLet_s (zcst hv30 (by decide)) E
          refine zg_icmp_ge X 116 dX3_unit_89 (by decide) (fun c31 => ?_) (fun c31 => ?_)
          · omega
          · skip
            replace E := zIf_t c31 E
            refine zg_aload_n X 0 rfl dX3_unit_92 ?_
            refine zg_aload_n X 0 rfl dX3_unit_93 ?_
            refine fg_X3_26 X hI ha0 dX3_unit_94 (fun v32 ev32 _ => ?_)
            replace E := zLet_s ev32 E
            have mv32 : v32.toInt = v20.toInt := by rw [ev32, ← ev20]
            refine zg_cVv (As := [.int v32]) (st := []) X ha0 rfl (by decide) rfl (t_X3_take l d L kd κ 2 _ hI a0 ha0 v32 ) mk_X3_87 mc_X3_take mz_X3 mi_X3_take ml_X3_take (na := 1) ⟨md_X3.1, md_X3.2, by decide +kernel⟩ rfl ⟨by decide, by decide⟩ (Nat.le_of_ble_eq_true rfl) dX3_unit_97 (fun s33 hq => ?_)
            obtain ⟨hF, hS2, hI⟩ := hq
            replace E := zLet_s hF E
            have hS := hS.tr hS2 rfl rfl
            refine zg_aload_n X 0 rfl dX3_unit_100 ?_
            refine zg_iload_n X 1 rfl dX3_unit_101 ?_
            refine zg_iconst X 1 dX3_unit_102 (by decide) (fun v34 _ hv34 => ?_)
            replace E := zLet_s (zcst hv34 (by decide)) E
            refine zg_iadd X dX3_unit_103 (by omega) (by omega) (fun v35 ev35 hv35 => ?_)
            replace E := zLet_s ev35 E
            refine zg_cVv (As := [.int v35]) (st := []) X ha0 rfl (by decide) rfl (t_X3_sum_o3 l d L kd κ _ hI a0 ha0 v35 (by omega)) mk_X3_140 mc_X3_sum mz_X3 mi_X3_sum ml_X3_sum (na := 1) ⟨md_X3.1, md_X3.2, by decide +kernel⟩ rfl ⟨by decide, by decide⟩ (Nat.le_of_ble_eq_true rfl) dX3_unit_104 (fun s36 hq => ?_)
            obtain ⟨hF, hS2, hI⟩ := hq
            replace E := zLet_s hF E
            have hS := hS.tr hS2 rfl rfl
            refine zg_aload_n X 0 rfl dX3_unit_107 ?_
            refine zg_bipush X 32 dX3_unit_108 (by decide) (fun v37 _ hv37 => ?_)
            replace E := zLet_s (zcst hv37 (by decide)) E
            refine zg_cVv (As := [.int v37]) (st := []) X ha0 rfl (by decide) rfl (t_X3_take l d L kd κ 2 _ hI a0 ha0 v37 ) mk_X3_87 mc_X3_take mz_X3 mi_X3_take ml_X3_take (na := 1) ⟨md_X3.1, md_X3.2, by decide +kernel⟩ rfl ⟨by decide, by decide⟩ (Nat.le_of_ble_eq_true rfl) dX3_unit_110 (fun s38 hq => ?_)
            obtain ⟨hF, hS2, hI⟩ := hq
            replace E := zLet_s hF E
            have hS := hS.tr hS2 rfl rfl
            refine zg_goto X 134 dX3_unit_113 (by decide) ?_
            exact ret _ _ _ dX3_unit_134 ⟨E.symm.trans hR, hS, hI⟩
      · skip
        replace E := zIf_t c19 E
        refine zg_aload_n X 0 rfl dX3_unit_51 ?_
        refine fg_X3_18 X hI ha0 dX3_unit_52 (fun v39 ev39 hv39 => ?_)
        replace E := zLet_s (zgr ev39) E
        refine zg_iconst X 1 dX3_unit_55 (by decide) (fun v40 _ hv40 => ?_)
        replace E := zLet_s (zcst hv40 (by decide)) E
        refine zg_aload_n X 0 rfl dX3_unit_56 ?_
        refine fg_X3_26 X hI ha0 dX3_unit_57 (fun v41 ev41 _ => ?_)
        replace E := zLet_s ev41 E
        have mv41 : v41.toInt = v16.toInt := by rw [ev41, ← ev16]
        refine zg_bipush X 13 dX3_unit_60 (by decide) (fun v42 _ hv42 => ?_)
        replace E := zLet_s (zcst hv42 (by decide)) E
        refine zg_isub X dX3_unit_62 (by omega) (by omega) (fun v43 ev43 hv43 => ?_)
        replace E := zLet_s ev43 E
        refine zg_cVv (As := [.int v40, .int v43]) (st := []) X hv39 rfl (by decide) rfl (t_X9_addStep l d L kd κ 2 _ hI v39 hv39 v40 v43 ) mk_X3_145 mc_X9_addStep mz_X9 mi_X9_addStep ml_X9_addStep (na := 2) ⟨md_X9.1, md_X9.2, by decide +kernel⟩ rfl ⟨by decide, by decide⟩ (Nat.le_of_ble_eq_true rfl) dX3_unit_63 (fun s44 hq => ?_)
        obtain ⟨hF, hS2, hI⟩ := hq
        replace E := zLet_s hF E
        have hS := hS.tr hS2 rfl rfl
        refine zg_aload_n X 0 rfl dX3_unit_66 ?_
        refine zg_aload_n X 0 rfl dX3_unit_67 ?_
        refine fg_X3_26 X hI ha0 dX3_unit_68 (fun v45 ev45 _ => ?_)
        replace E := zLet_s ev45 E
        refine zg_cVv (As := [.int v45]) (st := []) X ha0 rfl (by decide) rfl (t_X3_take l d L kd κ 2 _ hI a0 ha0 v45 ) mk_X3_87 mc_X3_take mz_X3 mi_X3_take ml_X3_take (na := 1) ⟨md_X3.1, md_X3.2, by decide +kernel⟩ rfl ⟨by decide, by decide⟩ (Nat.le_of_ble_eq_true rfl) dX3_unit_71 (fun s46 hq => ?_)
        obtain ⟨hF, hS2, hI⟩ := hq
        replace E := zLet_s hF E
        have hS := hS.tr hS2 rfl rfl
        refine zg_goto X 134 dX3_unit_74 (by decide) ?_
        exact ret _ _ _ dX3_unit_134 ⟨E.symm.trans hR, hS, hI⟩
  · skip
    replace E := zIf_t c3 E
    refine zg_aload_n X 0 rfl dX3_unit_9 ?_
    refine fg_X3_18 X hI ha0 dX3_unit_10 (fun v47 ev47 hv47 => ?_)
    replace E := zLet_s (zgr ev47) E
    refine zg_iconst X 0 dX3_unit_13 (by decide) (fun v48 _ hv48 => ?_)
    replace E := zLet_s (zcst hv48 (by decide)) E
    refine zg_aload_n X 0 rfl dX3_unit_14 ?_
    refine fg_X3_29 X ha0 dX3_unit_15 (fun v49 ev49 => ?_)
    replace E := zLet_s ev49 E
    refine zg_l2i X dX3_unit_18 (fun v50 ev50 => ?_)
    replace E := zLet_s ev50 E
    refine zg_cVv (As := [.int v48, .int v50]) (st := []) X hv47 rfl (by decide) rfl (t_X9_addStep l d L kd κ 2 _ hI v47 hv47 v48 v50 ) mk_X3_145 mc_X9_addStep mz_X9 mi_X9_addStep ml_X9_addStep (na := 2) ⟨md_X9.1, md_X9.2, by decide +kernel⟩ rfl ⟨by decide, by decide⟩ (Nat.le_of_ble_eq_true rfl) dX3_unit_19 (fun s51 hq => ?_)
    obtain ⟨hF, hS2, hI⟩ := hq
    replace E := zLet_s hF E
    have hS := hS.tr hS2 rfl rfl
    refine zg_aload_n X 0 rfl dX3_unit_22 ?_
    refine zg_aload_n X 0 rfl dX3_unit_23 ?_
    refine fg_X3_26 X hI ha0 dX3_unit_24 (fun v52 ev52 _ => ?_)
    replace E := zLet_s ev52 E
    refine zg_cVv (As := [.int v52]) (st := []) X ha0 rfl (by decide) rfl (t_X3_take l d L kd κ 2 _ hI a0 ha0 v52 ) mk_X3_87 mc_X3_take mz_X3 mi_X3_take ml_X3_take (na := 1) ⟨md_X3.1, md_X3.2, by decide +kernel⟩ rfl ⟨by decide, by decide⟩ (Nat.le_of_ble_eq_true rfl) dX3_unit_27 (fun s53 hq => ?_)
    obtain ⟨hF, hS2, hI⟩ := hq
    replace E := zLet_s hF E
    have hS := hS.tr hS2 rfl rfl
    refine zg_goto X 134 dX3_unit_30 (by decide) ?_
    exact ret _ _ _ dX3_unit_134 ⟨E.symm.trans hR, hS, hI⟩
set_option maxHeartbeats 4000000 in
set_option maxRecDepth 100000 in
theorem t_X3_product_o2 (l : Launch) (d : zD2) (L : List Nat) (kd : Nat → Nat) (κ : Int) (σ : zS) (hI : zI κ 2 L kd σ) (a0 : Nat) (ha0 : zT L kd a0 3) (p1 : Int32) (hq0 : p1.toInt = 2) : zMv l yX3_product (Cond.code yX3_product cX3_product 4 none :: zWL) 15 [.ref a0, .int p1] d L kd σ (fun σ2 => σ2 = F_X3_product_o2 a0 p1 σ ∧ zSm [3, 9, 49, 50] [] L kd σ σ2 ∧ (zI κ 2 L kd σ2)) := by
  refine zMv.of (own := RX3) (by decide +kernel) rfl rfl (Nat.le_of_ble_eq_true rfl) ?_
  intro p e s m args below meth c A Q X ret
  refine zg_lv (lv2 := [(0, .ref a0), (1, .int p1)]) rfl ?_
  obtain ⟨R, hR⟩ : ∃ R, R = F_X3_product_o2 a0 p1 σ := ⟨_, rfl⟩
  have E := hR
  unfold F_X3_product_o2 at E
  have hS : zSm [3, 9, 49, 50] [] L kd σ σ := zSm.rf
  refine zg_aload_n X 0 rfl dX3_product_0 ?_
  refine zg_iload_n X 1 rfl dX3_product_1 ?_
  refine zg_cVv (As := [.int p1]) (st := []) X ha0 rfl (by decide) rfl (t_X3_unit_o2 l d L kd κ _ hI a0 ha0 p1 (by omega)) mk_X3_159 mc_X3_unit mz_X3 mi_X3_unit ml_X3_unit (na := 1) ⟨md_X3.1, md_X3.2, by decide +kernel⟩ rfl ⟨by decide, by decide⟩ (Nat.le_of_ble_eq_true rfl) dX3_product_2 (fun s1 hq => ?_)
  obtain ⟨hF, hS2, hI⟩ := hq
  replace E := zLet_s hF E
  have hS := hS.tr hS2 rfl rfl
  refine zg_iconst X 0 dX3_product_5 (by decide) (fun v2 _ hv2 => ?_)
  replace E := zLet_s (zcst hv2 (by decide)) E
  refine zg_istore_n X [(2, .int v2), (0, .ref a0), (1, .int p1)] dX3_product_6 (by decide) rfl ?_
  have Lp4 : ∀ (nLp4 : Nat) (τ4 : zS) (x3 : Int32), zI κ 2 L kd τ4 → zSm [3, 9, 49, 50] [] L kd σ τ4 → R = F_X3_product_o2_7 a0 p1  nLp4 x3 τ4 → 0 ≤ x3.toInt ∧ x3.toInt ≤ 401 → (401) - x3.toInt + 1 < (nLp4 : Int) → zG d L kd A 4 p l e (k2_rm 15 (100 * 15)) s m args below meth c Q τ4 7 [(2, .int x3), (0, .ref a0), (1, .int p1)] [] := by
    intro nLp4
    induction nLp4 with
    | zero => intro τ4 x3 hI hS E  hxLp4 hm ; exact absurd hm (by omega)
    | succ nLp4 ihLp4 =>
      intro τ4 x3 hI hS E  hxLp4 hmLp4 
      rw [F_X3_product_o2_7] at E
      refine zg_iload_n X 0 rfl dX3_product_7 ?_
      refine zg_sipush X 400 dX3_product_8 (by decide) (fun v5 _ hv5 => ?_)
      replace E := zLet_s (zcst hv5 (by decide)) E
      refine zg_icmp_gt X 68 dX3_product_11 (by decide) (fun c6 => ?_) (fun c6 => ?_)
      · skip
        replace E := zIf_t c6 E
        exact ret _ _ _ dX3_product_68 ⟨E.symm.trans hR, hS, hI⟩
      · skip
        replace E := zIf_f (Int.not_lt.mpr c6) E
        refine zg_aload_n X 1 rfl dX3_product_14 ?_
        refine fg_X3_26 X hI ha0 dX3_product_15 (fun v7 ev7 _ => ?_)
        replace E := zLet_s ev7 E
        refine zg_bipush X 28 dX3_product_18 (by decide) (fun v8 _ hv8 => ?_)
        replace E := zLet_s (zcst hv8 (by decide)) E
        refine zg_bipush X 29 dX3_product_20 (by decide) (fun v9 _ hv9 => ?_)
        replace E := zLet_s (zcst hv9 (by decide)) E
        refine zg_cSNi (As := [.int v7, .int v8, .int v9]) (st := []) X (t_X10_isWithin l d L kd _ v7 v8 v9 ) mk_X3_80 mc_X10_isWithin mz_X10 ms_X10_isWithin (na := 3) ⟨md_X10.1, md_X10.2, by decide +kernel⟩ rfl ⟨by decide, by decide⟩ (Nat.le_of_ble_eq_true rfl) dX3_product_22 (fun v10 σ2 hq => ?_)
        obtain ⟨⟨hF, hv10⟩, rfl⟩ := hq
        replace E := zLet_s hF E
        refine zg_if_eq X 68 dX3_product_25 (by decide) (fun c11 => ?_) (fun c11 => ?_)
        · skip
          replace E := zIf_t c11 E
          exact ret _ _ _ dX3_product_68 ⟨E.symm.trans hR, hS, hI⟩
        · skip
          replace E := zIf_f c11 E
          refine zg_aload_n X 1 rfl dX3_product_28 ?_
          refine fg_X3_26 X hI ha0 dX3_product_29 (fun v12 ev12 _ => ?_)
          replace E := zLet_s ev12 E
          have mv12 : v12.toInt = v7.toInt := by rw [ev12, ← ev7]
          refine zg_istore_n X [(3, .int v12), (2, .int x3), (0, .ref a0), (1, .int p1)] dX3_product_32 (by decide) rfl ?_
          refine zg_aload_n X 2 rfl dX3_product_33 ?_
          refine zg_iload_n X 0 rfl dX3_product_34 ?_
          refine zg_cVv (As := [.int v12]) (st := []) X ha0 rfl (by decide) rfl (t_X3_take l d L kd κ 2 _ hI a0 ha0 v12 ) mk_X3_87 mc_X3_take mz_X3 mi_X3_take ml_X3_take (na := 1) ⟨md_X3.1, md_X3.2, by decide +kernel⟩ rfl ⟨by decide, by decide⟩ (Nat.le_of_ble_eq_true rfl) dX3_product_35 (fun s13 hq => ?_)
          obtain ⟨hF, hS2, hI⟩ := hq
          replace E := zLet_s hF E
          have hS := hS.tr hS2 rfl rfl
          refine zg_aload_n X 2 rfl dX3_product_38 ?_
          refine zg_iload_n X 3 rfl dX3_product_39 ?_
          refine zg_cVv (As := [.int p1]) (st := []) X ha0 rfl (by decide) rfl (t_X3_unit_o2 l d L kd κ _ hI a0 ha0 p1 (by omega)) mk_X3_159 mc_X3_unit mz_X3 mi_X3_unit ml_X3_unit (na := 1) ⟨md_X3.1, md_X3.2, by decide +kernel⟩ rfl ⟨by decide, by decide⟩ (Nat.le_of_ble_eq_true rfl) dX3_product_40 (fun s14 hq => ?_)
          obtain ⟨hF, hS2, hI⟩ := hq
          replace E := zLet_s hF E
          have hS := hS.tr hS2 rfl rfl
          refine zg_aload_n X 2 rfl dX3_product_43 ?_
          refine fg_X3_18 X hI ha0 dX3_product_44 (fun v15 ev15 hv15 => ?_)
          replace E := zLet_s (zgr ev15) E
          refine zg_iload_n X 0 rfl dX3_product_47 ?_
          refine zg_bipush X 28 dX3_product_48 (by decide) (fun v16 _ hv16 => ?_)
          replace E := zLet_s (zcst hv16 (by decide)) E
          refine zg_icmp_ne X 57 dX3_product_50 (by decide) (fun c17 => ?_) (fun c17 => ?_)
          · skip
            replace E := zIf_f c17 E
            refine zg_iconst X 5 dX3_product_57 (by decide) (fun v18 _ hv18 => ?_)
            replace E := zLet_s (zcst hv18 (by decide)) E
            refine zg_iconst X 0 dX3_product_58 (by decide) (fun v19 _ hv19 => ?_)
            replace E := zLet_s (zcst hv19 (by decide)) E
            refine zg_cVv (As := [.int v18, .int v19]) (st := []) X hv15 rfl (by decide) rfl (t_X9_addStep l d L kd κ 2 _ hI v15 hv15 v18 v19 ) mk_X3_145 mc_X9_addStep mz_X9 mi_X9_addStep ml_X9_addStep (na := 2) ⟨md_X9.1, md_X9.2, by decide +kernel⟩ rfl ⟨by decide, by decide⟩ (Nat.le_of_ble_eq_true rfl) dX3_product_59 (fun s20 hq => ?_)
            obtain ⟨hF, hS2, hI⟩ := hq
            replace E := zLet_s hF E
            have hS := hS.tr hS2 rfl rfl
            refine zg_iinc X 1 (fun v21 => [(2, .int v21), (3, .int v12), (0, .ref a0), (1, .int p1)]) 1 dX3_product_62 rfl (by decide) (by decide) (by omega) (by omega) (fun _ => rfl) (fun v21 ev21 hv21 => ?_)
            replace E := zLet_s (zinc ev21 (by decide)) E
            refine zg_goto X 7 dX3_product_65 (by decide) ?_
            refine zg_sub [0, 2, 3] rfl ?_
            exact ihLp4 _ v21 hI hS E  (by omega) (by omega) 
          · skip
            replace E := zIf_t c17 E
            refine zg_iconst X 4 dX3_product_53 (by decide) (fun v22 _ hv22 => ?_)
            replace E := zLet_s (zcst hv22 (by decide)) E
            refine zg_goto X 58 dX3_product_54 (by decide) ?_
            refine zg_iconst X 0 dX3_product_58 (by decide) (fun v23 _ hv23 => ?_)
            replace E := zLet_s (zcst hv23 (by decide)) E
            refine zg_cVv (As := [.int v22, .int v23]) (st := []) X hv15 rfl (by decide) rfl (t_X9_addStep l d L kd κ 2 _ hI v15 hv15 v22 v23 ) mk_X3_145 mc_X9_addStep mz_X9 mi_X9_addStep ml_X9_addStep (na := 2) ⟨md_X9.1, md_X9.2, by decide +kernel⟩ rfl ⟨by decide, by decide⟩ (Nat.le_of_ble_eq_true rfl) dX3_product_59 (fun s24 hq => ?_)
            obtain ⟨hF, hS2, hI⟩ := hq
            replace E := zLet_s hF E
            have hS := hS.tr hS2 rfl rfl
            refine zg_iinc X 1 (fun v25 => [(2, .int v25), (3, .int v12), (0, .ref a0), (1, .int p1)]) 1 dX3_product_62 rfl (by decide) (by decide) (by omega) (by omega) (fun _ => rfl) (fun v25 ev25 hv25 => ?_)
            replace E := zLet_s (zinc ev25 (by decide)) E
            refine zg_goto X 7 dX3_product_65 (by decide) ?_
            refine zg_sub [0, 2, 3] rfl ?_
            exact ihLp4 _ v25 hI hS E  (by omega) (by omega) 
  refine zg_sub [0, 1, 2] rfl ?_
  exact Lp4 10000 _ v2 hI hS E  (by omega) (by omega) 
set_option maxHeartbeats 4000000 in
set_option maxRecDepth 100000 in
theorem t_X3_sum_o2 (l : Launch) (d : zD2) (L : List Nat) (kd : Nat → Nat) (κ : Int) (σ : zS) (hI : zI κ 2 L kd σ) (a0 : Nat) (ha0 : zT L kd a0 3) (p1 : Int32) (hq0 : p1.toInt = 2) : zMv l yX3_sum (Cond.code yX3_sum cX3_sum 4 none :: zWL) 16 [.ref a0, .int p1] d L kd σ (fun σ2 => σ2 = F_X3_sum_o2 a0 p1 σ ∧ zSm [3, 9, 49, 50] [] L kd σ σ2 ∧ (zI κ 2 L kd σ2)) := by
  refine zMv.of (own := RX3) (by decide +kernel) rfl rfl (Nat.le_of_ble_eq_true rfl) ?_
  intro p e s m args below meth c A Q X ret
  refine zg_lv (lv2 := [(0, .ref a0), (1, .int p1)]) rfl ?_
  obtain ⟨R, hR⟩ : ∃ R, R = F_X3_sum_o2 a0 p1 σ := ⟨_, rfl⟩
  have E := hR
  unfold F_X3_sum_o2 at E
  have hS : zSm [3, 9, 49, 50] [] L kd σ σ := zSm.rf
  refine zg_aload_n X 0 rfl dX3_sum_0 ?_
  refine zg_iload_n X 1 rfl dX3_sum_1 ?_
  refine zg_cVv (As := [.int p1]) (st := []) X ha0 rfl (by decide) rfl (t_X3_product_o2 l d L kd κ _ hI a0 ha0 p1 (by omega)) mk_X3_156 mc_X3_product mz_X3 mi_X3_product ml_X3_product (na := 1) ⟨md_X3.1, md_X3.2, by decide +kernel⟩ rfl ⟨by decide, by decide⟩ (Nat.le_of_ble_eq_true rfl) dX3_sum_2 (fun s1 hq => ?_)
  obtain ⟨hF, hS2, hI⟩ := hq
  replace E := zLet_s hF E
  have hS := hS.tr hS2 rfl rfl
  refine zg_iconst X 0 dX3_sum_5 (by decide) (fun v2 _ hv2 => ?_)
  replace E := zLet_s (zcst hv2 (by decide)) E
  refine zg_istore_n X [(2, .int v2), (0, .ref a0), (1, .int p1)] dX3_sum_6 (by decide) rfl ?_
  have Lp4 : ∀ (nLp4 : Nat) (τ4 : zS) (x3 : Int32), zI κ 2 L kd τ4 → zSm [3, 9, 49, 50] [] L kd σ τ4 → R = F_X3_sum_o2_7 a0 p1  nLp4 x3 τ4 → 0 ≤ x3.toInt ∧ x3.toInt ≤ 401 → (401) - x3.toInt + 1 < (nLp4 : Int) → zG d L kd A 4 p l e (k2_rm 16 (100 * 16)) s m args below meth c Q τ4 7 [(2, .int x3), (0, .ref a0), (1, .int p1)] [] := by
    intro nLp4
    induction nLp4 with
    | zero => intro τ4 x3 hI hS E  hxLp4 hm ; exact absurd hm (by omega)
    | succ nLp4 ihLp4 =>
      intro τ4 x3 hI hS E  hxLp4 hmLp4 
      rw [F_X3_sum_o2_7] at E
      refine zg_iload_n X 0 rfl dX3_sum_7 ?_
      refine zg_sipush X 400 dX3_sum_8 (by decide) (fun v5 _ hv5 => ?_)
      replace E := zLet_s (zcst hv5 (by decide)) E
      refine zg_icmp_gt X 68 dX3_sum_11 (by decide) (fun c6 => ?_) (fun c6 => ?_)
      · skip
        replace E := zIf_t c6 E
        exact ret _ _ _ dX3_sum_68 ⟨E.symm.trans hR, hS, hI⟩
      · skip
        replace E := zIf_f (Int.not_lt.mpr c6) E
        refine zg_aload_n X 1 rfl dX3_sum_14 ?_
        refine fg_X3_26 X hI ha0 dX3_sum_15 (fun v7 ev7 _ => ?_)
        replace E := zLet_s ev7 E
        refine zg_bipush X 26 dX3_sum_18 (by decide) (fun v8 _ hv8 => ?_)
        replace E := zLet_s (zcst hv8 (by decide)) E
        refine zg_bipush X 27 dX3_sum_20 (by decide) (fun v9 _ hv9 => ?_)
        replace E := zLet_s (zcst hv9 (by decide)) E
        refine zg_cSNi (As := [.int v7, .int v8, .int v9]) (st := []) X (t_X10_isWithin l d L kd _ v7 v8 v9 ) mk_X3_80 mc_X10_isWithin mz_X10 ms_X10_isWithin (na := 3) ⟨md_X10.1, md_X10.2, by decide +kernel⟩ rfl ⟨by decide, by decide⟩ (Nat.le_of_ble_eq_true rfl) dX3_sum_22 (fun v10 σ2 hq => ?_)
        obtain ⟨⟨hF, hv10⟩, rfl⟩ := hq
        replace E := zLet_s hF E
        refine zg_if_eq X 68 dX3_sum_25 (by decide) (fun c11 => ?_) (fun c11 => ?_)
        · skip
          replace E := zIf_t c11 E
          exact ret _ _ _ dX3_sum_68 ⟨E.symm.trans hR, hS, hI⟩
        · skip
          replace E := zIf_f c11 E
          refine zg_aload_n X 1 rfl dX3_sum_28 ?_
          refine fg_X3_26 X hI ha0 dX3_sum_29 (fun v12 ev12 _ => ?_)
          replace E := zLet_s ev12 E
          have mv12 : v12.toInt = v7.toInt := by rw [ev12, ← ev7]
          refine zg_istore_n X [(3, .int v12), (2, .int x3), (0, .ref a0), (1, .int p1)] dX3_sum_32 (by decide) rfl ?_
          refine zg_aload_n X 2 rfl dX3_sum_33 ?_
          refine zg_iload_n X 0 rfl dX3_sum_34 ?_
          refine zg_cVv (As := [.int v12]) (st := []) X ha0 rfl (by decide) rfl (t_X3_take l d L kd κ 2 _ hI a0 ha0 v12 ) mk_X3_87 mc_X3_take mz_X3 mi_X3_take ml_X3_take (na := 1) ⟨md_X3.1, md_X3.2, by decide +kernel⟩ rfl ⟨by decide, by decide⟩ (Nat.le_of_ble_eq_true rfl) dX3_sum_35 (fun s13 hq => ?_)
          obtain ⟨hF, hS2, hI⟩ := hq
          replace E := zLet_s hF E
          have hS := hS.tr hS2 rfl rfl
          refine zg_aload_n X 2 rfl dX3_sum_38 ?_
          refine zg_iload_n X 3 rfl dX3_sum_39 ?_
          refine zg_cVv (As := [.int p1]) (st := []) X ha0 rfl (by decide) rfl (t_X3_product_o2 l d L kd κ _ hI a0 ha0 p1 (by omega)) mk_X3_156 mc_X3_product mz_X3 mi_X3_product ml_X3_product (na := 1) ⟨md_X3.1, md_X3.2, by decide +kernel⟩ rfl ⟨by decide, by decide⟩ (Nat.le_of_ble_eq_true rfl) dX3_sum_40 (fun s14 hq => ?_)
          obtain ⟨hF, hS2, hI⟩ := hq
          replace E := zLet_s hF E
          have hS := hS.tr hS2 rfl rfl
          refine zg_aload_n X 2 rfl dX3_sum_43 ?_
          refine fg_X3_18 X hI ha0 dX3_sum_44 (fun v15 ev15 hv15 => ?_)
          replace E := zLet_s (zgr ev15) E
          refine zg_iload_n X 0 rfl dX3_sum_47 ?_
          refine zg_bipush X 26 dX3_sum_48 (by decide) (fun v16 _ hv16 => ?_)
          replace E := zLet_s (zcst hv16 (by decide)) E
          refine zg_icmp_ne X 57 dX3_sum_50 (by decide) (fun c17 => ?_) (fun c17 => ?_)
          · skip
            replace E := zIf_f c17 E
            refine zg_iconst X 3 dX3_sum_57 (by decide) (fun v18 _ hv18 => ?_)
            replace E := zLet_s (zcst hv18 (by decide)) E
            refine zg_iconst X 0 dX3_sum_58 (by decide) (fun v19 _ hv19 => ?_)
            replace E := zLet_s (zcst hv19 (by decide)) E
            refine zg_cVv (As := [.int v18, .int v19]) (st := []) X hv15 rfl (by decide) rfl (t_X9_addStep l d L kd κ 2 _ hI v15 hv15 v18 v19 ) mk_X3_145 mc_X9_addStep mz_X9 mi_X9_addStep ml_X9_addStep (na := 2) ⟨md_X9.1, md_X9.2, by decide +kernel⟩ rfl ⟨by decide, by decide⟩ (Nat.le_of_ble_eq_true rfl) dX3_sum_59 (fun s20 hq => ?_)
            obtain ⟨hF, hS2, hI⟩ := hq
            replace E := zLet_s hF E
            have hS := hS.tr hS2 rfl rfl
            refine zg_iinc X 1 (fun v21 => [(2, .int v21), (3, .int v12), (0, .ref a0), (1, .int p1)]) 1 dX3_sum_62 rfl (by decide) (by decide) (by omega) (by omega) (fun _ => rfl) (fun v21 ev21 hv21 => ?_)
            replace E := zLet_s (zinc ev21 (by decide)) E
            refine zg_goto X 7 dX3_sum_65 (by decide) ?_
            refine zg_sub [0, 2, 3] rfl ?_
            exact ihLp4 _ v21 hI hS E  (by omega) (by omega) 
          · skip
            replace E := zIf_t c17 E
            refine zg_iconst X 2 dX3_sum_53 (by decide) (fun v22 _ hv22 => ?_)
            replace E := zLet_s (zcst hv22 (by decide)) E
            refine zg_goto X 58 dX3_sum_54 (by decide) ?_
            refine zg_iconst X 0 dX3_sum_58 (by decide) (fun v23 _ hv23 => ?_)
            replace E := zLet_s (zcst hv23 (by decide)) E
            refine zg_cVv (As := [.int v22, .int v23]) (st := []) X hv15 rfl (by decide) rfl (t_X9_addStep l d L kd κ 2 _ hI v15 hv15 v22 v23 ) mk_X3_145 mc_X9_addStep mz_X9 mi_X9_addStep ml_X9_addStep (na := 2) ⟨md_X9.1, md_X9.2, by decide +kernel⟩ rfl ⟨by decide, by decide⟩ (Nat.le_of_ble_eq_true rfl) dX3_sum_59 (fun s24 hq => ?_)
            obtain ⟨hF, hS2, hI⟩ := hq
            replace E := zLet_s hF E
            have hS := hS.tr hS2 rfl rfl
            refine zg_iinc X 1 (fun v25 => [(2, .int v25), (3, .int v12), (0, .ref a0), (1, .int p1)]) 1 dX3_sum_62 rfl (by decide) (by decide) (by omega) (by omega) (fun _ => rfl) (fun v25 ev25 hv25 => ?_)
            replace E := zLet_s (zinc ev25 (by decide)) E
            refine zg_goto X 7 dX3_sum_65 (by decide) ?_
            refine zg_sub [0, 2, 3] rfl ?_
            exact ihLp4 _ v25 hI hS E  (by omega) (by omega) 
  refine zg_sub [0, 1, 2] rfl ?_
  exact Lp4 10000 _ v2 hI hS E  (by omega) (by omega) 
set_option maxHeartbeats 4000000 in
set_option maxRecDepth 100000 in
theorem t_X3_unit_o1 (l : Launch) (d : zD2) (L : List Nat) (kd : Nat → Nat) (κ : Int) (σ : zS) (hI : zI κ 2 L kd σ) (a0 : Nat) (ha0 : zT L kd a0 3) (p1 : Int32) (hq0 : p1.toInt = 1) : zMv l yX3_unit (Cond.code yX3_unit cX3_unit 2 none :: zWL) 17 [.ref a0, .int p1] d L kd σ (fun σ2 => σ2 = F_X3_unit_o1 a0 p1 σ ∧ zSm [3, 9, 49, 50] [] L kd σ σ2 ∧ (zI κ 2 L kd σ2)) := by
  refine zMv.of (own := RX3) (by decide +kernel) rfl rfl (Nat.le_of_ble_eq_true rfl) ?_
  intro p e s m args below meth c A Q X ret
  refine zg_lv (lv2 := [(0, .ref a0), (1, .int p1)]) rfl ?_
  obtain ⟨R, hR⟩ : ∃ R, R = F_X3_unit_o1 a0 p1 σ := ⟨_, rfl⟩
  have E := hR
  unfold F_X3_unit_o1 at E
  have hS : zSm [3, 9, 49, 50] [] L kd σ σ := zSm.rf
  refine zg_aload_n X 0 rfl dX3_unit_0 ?_
  refine fg_X3_26 X hI ha0 dX3_unit_1 (fun v1 ev1 _ => ?_)
  replace E := zLet_s ev1 E
  refine zg_bipush X 23 dX3_unit_4 (by decide) (fun v2 _ hv2 => ?_)
  replace E := zLet_s (zcst hv2 (by decide)) E
  refine zg_icmp_ne X 33 dX3_unit_6 (by decide) (fun c3 => ?_) (fun c3 => ?_)
  · skip
    replace E := zIf_f c3 E
    refine zg_aload_n X 0 rfl dX3_unit_33 ?_
    refine fg_X3_26 X hI ha0 dX3_unit_34 (fun v4 ev4 _ => ?_)
    replace E := zLet_s ev4 E
    have mv4 : v4.toInt = v1.toInt := by rw [ev4, ← ev1]
    refine zg_bipush X 13 dX3_unit_37 (by decide) (fun v5 _ hv5 => ?_)
    replace E := zLet_s (zcst hv5 (by decide)) E
    have zv4_z6 := zb_rng v4
    refine zg_icmp_lt X 77 dX3_unit_39 (by decide) (fun c7 => ?_) (fun c7 => ?_)
    · skip
      replace E := zIf_t c7 E
      refine zg_aload_n X 0 rfl dX3_unit_77 ?_
      refine fg_X3_26 X hI ha0 dX3_unit_78 (fun v8 ev8 _ => ?_)
      replace E := zLet_s ev8 E
      have mv8 : v8.toInt = v4.toInt := by rw [ev8, ← ev4]
      refine zg_bipush X 31 dX3_unit_81 (by decide) (fun v9 _ hv9 => ?_)
      replace E := zLet_s (zcst hv9 (by decide)) E
      refine zg_icmp_ne X 116 dX3_unit_83 (by decide) (fun c10 => ?_) (fun c10 => ?_)
      · skip
        replace E := zIf_f c10 E
        refine zg_aload_n X 0 rfl dX3_unit_116 ?_
        refine zg_aload_n X 0 rfl dX3_unit_117 ?_
        refine fg_X3_26 X hI ha0 dX3_unit_118 (fun v11 ev11 _ => ?_)
        replace E := zLet_s ev11 E
        have mv11 : v11.toInt = v8.toInt := by rw [ev11, ← ev8]
        refine zg_bipush X 31 dX3_unit_121 (by decide) (fun v12 _ hv12 => ?_)
        replace E := zLet_s (zcst hv12 (by decide)) E
        refine zg_icmp_ne X 130 dX3_unit_123 (by decide) (fun c13 => ?_) (fun c13 => ?_)
        · skip
          replace E := zIf_f c13 E
          refine zg_iconst X 1 dX3_unit_130 (by decide) (fun v14 _ hv14 => ?_)
          replace E := zLet_s (zcst hv14 (by decide)) E
          refine zg_cVv (As := [.int v14]) (st := []) X ha0 rfl (by decide) rfl (t_X3_fail l d L kd κ 2 _ hI a0 ha0 v14 ) mk_X3_106 mc_X3_fail mz_X3 mi_X3_fail ml_X3_fail (na := 1) ⟨md_X3.1, md_X3.2, by decide +kernel⟩ rfl ⟨by decide, by decide⟩ (Nat.le_of_ble_eq_true rfl) dX3_unit_131 (fun s15 hq => ?_)
          obtain ⟨hF, hS2, hI⟩ := hq
          replace E := zLet_s hF E
          have hS := hS.tr hS2 rfl rfl
          exact ret _ _ _ dX3_unit_134 ⟨E.symm.trans hR, hS, hI⟩
        · omega
      · omega
    · skip
      replace E := zIf_f (Int.not_lt.mpr c7) E
      refine zg_aload_n X 0 rfl dX3_unit_42 ?_
      refine fg_X3_26 X hI ha0 dX3_unit_43 (fun v16 ev16 _ => ?_)
      replace E := zLet_s ev16 E
      have mv16 : v16.toInt = v4.toInt := by rw [ev16, ← ev4]
      refine zg_bipush X 22 dX3_unit_46 (by decide) (fun v17 _ hv17 => ?_)
      replace E := zLet_s (zcst hv17 (by decide)) E
      have zv16_z18 := zb_rng v16
      refine zg_icmp_ge X 77 dX3_unit_48 (by decide) (fun c19 => ?_) (fun c19 => ?_)
      · skip
        replace E := zIf_f (Int.not_lt.mpr c19) E
        refine zg_aload_n X 0 rfl dX3_unit_77 ?_
        refine fg_X3_26 X hI ha0 dX3_unit_78 (fun v20 ev20 _ => ?_)
        replace E := zLet_s ev20 E
        have mv20 : v20.toInt = v16.toInt := by rw [ev20, ← ev16]
        refine zg_bipush X 31 dX3_unit_81 (by decide) (fun v21 _ hv21 => ?_)
        replace E := zLet_s (zcst hv21 (by decide)) E
        refine zg_icmp_ne X 116 dX3_unit_83 (by decide) (fun c22 => ?_) (fun c22 => ?_)
        · skip
          replace E := zIf_f c22 E
          refine zg_aload_n X 0 rfl dX3_unit_116 ?_
          refine zg_aload_n X 0 rfl dX3_unit_117 ?_
          refine fg_X3_26 X hI ha0 dX3_unit_118 (fun v23 ev23 _ => ?_)
          replace E := zLet_s ev23 E
          have mv23 : v23.toInt = v20.toInt := by rw [ev23, ← ev20]
          refine zg_bipush X 31 dX3_unit_121 (by decide) (fun v24 _ hv24 => ?_)
          replace E := zLet_s (zcst hv24 (by decide)) E
          refine zg_icmp_ne X 130 dX3_unit_123 (by decide) (fun c25 => ?_) (fun c25 => ?_)
          · skip
            replace E := zIf_f c25 E
            refine zg_iconst X 1 dX3_unit_130 (by decide) (fun v26 _ hv26 => ?_)
            replace E := zLet_s (zcst hv26 (by decide)) E
            refine zg_cVv (As := [.int v26]) (st := []) X ha0 rfl (by decide) rfl (t_X3_fail l d L kd κ 2 _ hI a0 ha0 v26 ) mk_X3_106 mc_X3_fail mz_X3 mi_X3_fail ml_X3_fail (na := 1) ⟨md_X3.1, md_X3.2, by decide +kernel⟩ rfl ⟨by decide, by decide⟩ (Nat.le_of_ble_eq_true rfl) dX3_unit_131 (fun s27 hq => ?_)
            obtain ⟨hF, hS2, hI⟩ := hq
            replace E := zLet_s hF E
            have hS := hS.tr hS2 rfl rfl
            exact ret _ _ _ dX3_unit_134 ⟨E.symm.trans hR, hS, hI⟩
          · skip
            replace E := zIf_t c25 E
            refine zg_iconst X 2 dX3_unit_126 (by decide) (fun v28 _ hv28 => ?_)
            replace E := zLet_s (zcst hv28 (by decide)) E
            refine zg_goto X 131 dX3_unit_127 (by decide) ?_
            refine zg_cVv (As := [.int v28]) (st := []) X ha0 rfl (by decide) rfl (t_X3_fail l d L kd κ 2 _ hI a0 ha0 v28 ) mk_X3_106 mc_X3_fail mz_X3 mi_X3_fail ml_X3_fail (na := 1) ⟨md_X3.1, md_X3.2, by decide +kernel⟩ rfl ⟨by decide, by decide⟩ (Nat.le_of_ble_eq_true rfl) dX3_unit_131 (fun s29 hq => ?_)
            obtain ⟨hF, hS2, hI⟩ := hq
            replace E := zLet_s hF E
            have hS := hS.tr hS2 rfl rfl
            exact ret _ _ _ dX3_unit_134 ⟨E.symm.trans hR, hS, hI⟩
        · skip
          replace E := zIf_t c22 E
          refine zg_iload_n X 1 rfl dX3_unit_86 ?_
          refine zg_bipush X 6 dX3_unit_87 (by decide) (fun v30 _ hv30 => ?_)
          replace E := zLet_s (zcst hv30 (by decide)) E
          refine zg_icmp_ge X 116 dX3_unit_89 (by decide) (fun c31 => ?_) (fun c31 => ?_)
          · omega
          · skip
            replace E := zIf_t c31 E
            refine zg_aload_n X 0 rfl dX3_unit_92 ?_
            refine zg_aload_n X 0 rfl dX3_unit_93 ?_
            refine fg_X3_26 X hI ha0 dX3_unit_94 (fun v32 ev32 _ => ?_)
            replace E := zLet_s ev32 E
            have mv32 : v32.toInt = v20.toInt := by rw [ev32, ← ev20]
            refine zg_cVv (As := [.int v32]) (st := []) X ha0 rfl (by decide) rfl (t_X3_take l d L kd κ 2 _ hI a0 ha0 v32 ) mk_X3_87 mc_X3_take mz_X3 mi_X3_take ml_X3_take (na := 1) ⟨md_X3.1, md_X3.2, by decide +kernel⟩ rfl ⟨by decide, by decide⟩ (Nat.le_of_ble_eq_true rfl) dX3_unit_97 (fun s33 hq => ?_)
            obtain ⟨hF, hS2, hI⟩ := hq
            replace E := zLet_s hF E
            have hS := hS.tr hS2 rfl rfl
            refine zg_aload_n X 0 rfl dX3_unit_100 ?_
            refine zg_iload_n X 1 rfl dX3_unit_101 ?_
            refine zg_iconst X 1 dX3_unit_102 (by decide) (fun v34 _ hv34 => ?_)
            replace E := zLet_s (zcst hv34 (by decide)) E
            refine zg_iadd X dX3_unit_103 (by omega) (by omega) (fun v35 ev35 hv35 => ?_)
            replace E := zLet_s ev35 E
            refine zg_cVv (As := [.int v35]) (st := []) X ha0 rfl (by decide) rfl (t_X3_sum_o2 l d L kd κ _ hI a0 ha0 v35 (by omega)) mk_X3_140 mc_X3_sum mz_X3 mi_X3_sum ml_X3_sum (na := 1) ⟨md_X3.1, md_X3.2, by decide +kernel⟩ rfl ⟨by decide, by decide⟩ (Nat.le_of_ble_eq_true rfl) dX3_unit_104 (fun s36 hq => ?_)
            obtain ⟨hF, hS2, hI⟩ := hq
            replace E := zLet_s hF E
            have hS := hS.tr hS2 rfl rfl
            refine zg_aload_n X 0 rfl dX3_unit_107 ?_
            refine zg_bipush X 32 dX3_unit_108 (by decide) (fun v37 _ hv37 => ?_)
            replace E := zLet_s (zcst hv37 (by decide)) E
            refine zg_cVv (As := [.int v37]) (st := []) X ha0 rfl (by decide) rfl (t_X3_take l d L kd κ 2 _ hI a0 ha0 v37 ) mk_X3_87 mc_X3_take mz_X3 mi_X3_take ml_X3_take (na := 1) ⟨md_X3.1, md_X3.2, by decide +kernel⟩ rfl ⟨by decide, by decide⟩ (Nat.le_of_ble_eq_true rfl) dX3_unit_110 (fun s38 hq => ?_)
            obtain ⟨hF, hS2, hI⟩ := hq
            replace E := zLet_s hF E
            have hS := hS.tr hS2 rfl rfl
            refine zg_goto X 134 dX3_unit_113 (by decide) ?_
            exact ret _ _ _ dX3_unit_134 ⟨E.symm.trans hR, hS, hI⟩
      · skip
        replace E := zIf_t c19 E
        refine zg_aload_n X 0 rfl dX3_unit_51 ?_
        refine fg_X3_18 X hI ha0 dX3_unit_52 (fun v39 ev39 hv39 => ?_)
        replace E := zLet_s (zgr ev39) E
        refine zg_iconst X 1 dX3_unit_55 (by decide) (fun v40 _ hv40 => ?_)
        replace E := zLet_s (zcst hv40 (by decide)) E
        refine zg_aload_n X 0 rfl dX3_unit_56 ?_
        refine fg_X3_26 X hI ha0 dX3_unit_57 (fun v41 ev41 _ => ?_)
        replace E := zLet_s ev41 E
        have mv41 : v41.toInt = v16.toInt := by rw [ev41, ← ev16]
        refine zg_bipush X 13 dX3_unit_60 (by decide) (fun v42 _ hv42 => ?_)
        replace E := zLet_s (zcst hv42 (by decide)) E
        refine zg_isub X dX3_unit_62 (by omega) (by omega) (fun v43 ev43 hv43 => ?_)
        replace E := zLet_s ev43 E
        refine zg_cVv (As := [.int v40, .int v43]) (st := []) X hv39 rfl (by decide) rfl (t_X9_addStep l d L kd κ 2 _ hI v39 hv39 v40 v43 ) mk_X3_145 mc_X9_addStep mz_X9 mi_X9_addStep ml_X9_addStep (na := 2) ⟨md_X9.1, md_X9.2, by decide +kernel⟩ rfl ⟨by decide, by decide⟩ (Nat.le_of_ble_eq_true rfl) dX3_unit_63 (fun s44 hq => ?_)
        obtain ⟨hF, hS2, hI⟩ := hq
        replace E := zLet_s hF E
        have hS := hS.tr hS2 rfl rfl
        refine zg_aload_n X 0 rfl dX3_unit_66 ?_
        refine zg_aload_n X 0 rfl dX3_unit_67 ?_
        refine fg_X3_26 X hI ha0 dX3_unit_68 (fun v45 ev45 _ => ?_)
        replace E := zLet_s ev45 E
        refine zg_cVv (As := [.int v45]) (st := []) X ha0 rfl (by decide) rfl (t_X3_take l d L kd κ 2 _ hI a0 ha0 v45 ) mk_X3_87 mc_X3_take mz_X3 mi_X3_take ml_X3_take (na := 1) ⟨md_X3.1, md_X3.2, by decide +kernel⟩ rfl ⟨by decide, by decide⟩ (Nat.le_of_ble_eq_true rfl) dX3_unit_71 (fun s46 hq => ?_)
        obtain ⟨hF, hS2, hI⟩ := hq
        replace E := zLet_s hF E
        have hS := hS.tr hS2 rfl rfl
        refine zg_goto X 134 dX3_unit_74 (by decide) ?_
        exact ret _ _ _ dX3_unit_134 ⟨E.symm.trans hR, hS, hI⟩
  · skip
    replace E := zIf_t c3 E
    refine zg_aload_n X 0 rfl dX3_unit_9 ?_
    refine fg_X3_18 X hI ha0 dX3_unit_10 (fun v47 ev47 hv47 => ?_)
    replace E := zLet_s (zgr ev47) E
    refine zg_iconst X 0 dX3_unit_13 (by decide) (fun v48 _ hv48 => ?_)
    replace E := zLet_s (zcst hv48 (by decide)) E
    refine zg_aload_n X 0 rfl dX3_unit_14 ?_
    refine fg_X3_29 X ha0 dX3_unit_15 (fun v49 ev49 => ?_)
    replace E := zLet_s ev49 E
    refine zg_l2i X dX3_unit_18 (fun v50 ev50 => ?_)
    replace E := zLet_s ev50 E
    refine zg_cVv (As := [.int v48, .int v50]) (st := []) X hv47 rfl (by decide) rfl (t_X9_addStep l d L kd κ 2 _ hI v47 hv47 v48 v50 ) mk_X3_145 mc_X9_addStep mz_X9 mi_X9_addStep ml_X9_addStep (na := 2) ⟨md_X9.1, md_X9.2, by decide +kernel⟩ rfl ⟨by decide, by decide⟩ (Nat.le_of_ble_eq_true rfl) dX3_unit_19 (fun s51 hq => ?_)
    obtain ⟨hF, hS2, hI⟩ := hq
    replace E := zLet_s hF E
    have hS := hS.tr hS2 rfl rfl
    refine zg_aload_n X 0 rfl dX3_unit_22 ?_
    refine zg_aload_n X 0 rfl dX3_unit_23 ?_
    refine fg_X3_26 X hI ha0 dX3_unit_24 (fun v52 ev52 _ => ?_)
    replace E := zLet_s ev52 E
    refine zg_cVv (As := [.int v52]) (st := []) X ha0 rfl (by decide) rfl (t_X3_take l d L kd κ 2 _ hI a0 ha0 v52 ) mk_X3_87 mc_X3_take mz_X3 mi_X3_take ml_X3_take (na := 1) ⟨md_X3.1, md_X3.2, by decide +kernel⟩ rfl ⟨by decide, by decide⟩ (Nat.le_of_ble_eq_true rfl) dX3_unit_27 (fun s53 hq => ?_)
    obtain ⟨hF, hS2, hI⟩ := hq
    replace E := zLet_s hF E
    have hS := hS.tr hS2 rfl rfl
    refine zg_goto X 134 dX3_unit_30 (by decide) ?_
    exact ret _ _ _ dX3_unit_134 ⟨E.symm.trans hR, hS, hI⟩
set_option maxHeartbeats 4000000 in
set_option maxRecDepth 100000 in
theorem t_X3_product_o1 (l : Launch) (d : zD2) (L : List Nat) (kd : Nat → Nat) (κ : Int) (σ : zS) (hI : zI κ 2 L kd σ) (a0 : Nat) (ha0 : zT L kd a0 3) (p1 : Int32) (hq0 : p1.toInt = 1) : zMv l yX3_product (Cond.code yX3_product cX3_product 4 none :: zWL) 18 [.ref a0, .int p1] d L kd σ (fun σ2 => σ2 = F_X3_product_o1 a0 p1 σ ∧ zSm [3, 9, 49, 50] [] L kd σ σ2 ∧ (zI κ 2 L kd σ2)) := by
  refine zMv.of (own := RX3) (by decide +kernel) rfl rfl (Nat.le_of_ble_eq_true rfl) ?_
  intro p e s m args below meth c A Q X ret
  refine zg_lv (lv2 := [(0, .ref a0), (1, .int p1)]) rfl ?_
  obtain ⟨R, hR⟩ : ∃ R, R = F_X3_product_o1 a0 p1 σ := ⟨_, rfl⟩
  have E := hR
  unfold F_X3_product_o1 at E
  have hS : zSm [3, 9, 49, 50] [] L kd σ σ := zSm.rf
  refine zg_aload_n X 0 rfl dX3_product_0 ?_
  refine zg_iload_n X 1 rfl dX3_product_1 ?_
  refine zg_cVv (As := [.int p1]) (st := []) X ha0 rfl (by decide) rfl (t_X3_unit_o1 l d L kd κ _ hI a0 ha0 p1 (by omega)) mk_X3_159 mc_X3_unit mz_X3 mi_X3_unit ml_X3_unit (na := 1) ⟨md_X3.1, md_X3.2, by decide +kernel⟩ rfl ⟨by decide, by decide⟩ (Nat.le_of_ble_eq_true rfl) dX3_product_2 (fun s1 hq => ?_)
  obtain ⟨hF, hS2, hI⟩ := hq
  replace E := zLet_s hF E
  have hS := hS.tr hS2 rfl rfl
  refine zg_iconst X 0 dX3_product_5 (by decide) (fun v2 _ hv2 => ?_)
  replace E := zLet_s (zcst hv2 (by decide)) E
  refine zg_istore_n X [(2, .int v2), (0, .ref a0), (1, .int p1)] dX3_product_6 (by decide) rfl ?_
  have Lp4 : ∀ (nLp4 : Nat) (τ4 : zS) (x3 : Int32), zI κ 2 L kd τ4 → zSm [3, 9, 49, 50] [] L kd σ τ4 → R = F_X3_product_o1_7 a0 p1  nLp4 x3 τ4 → 0 ≤ x3.toInt ∧ x3.toInt ≤ 401 → (401) - x3.toInt + 1 < (nLp4 : Int) → zG d L kd A 4 p l e (k2_rm 18 (100 * 18)) s m args below meth c Q τ4 7 [(2, .int x3), (0, .ref a0), (1, .int p1)] [] := by
    intro nLp4
    induction nLp4 with
    | zero => intro τ4 x3 hI hS E  hxLp4 hm ; exact absurd hm (by omega)
    | succ nLp4 ihLp4 =>
      intro τ4 x3 hI hS E  hxLp4 hmLp4 
      rw [F_X3_product_o1_7] at E
      refine zg_iload_n X 0 rfl dX3_product_7 ?_
      refine zg_sipush X 400 dX3_product_8 (by decide) (fun v5 _ hv5 => ?_)
      replace E := zLet_s (zcst hv5 (by decide)) E
      refine zg_icmp_gt X 68 dX3_product_11 (by decide) (fun c6 => ?_) (fun c6 => ?_)
      · skip
        replace E := zIf_t c6 E
        exact ret _ _ _ dX3_product_68 ⟨E.symm.trans hR, hS, hI⟩
      · skip
        replace E := zIf_f (Int.not_lt.mpr c6) E
        refine zg_aload_n X 1 rfl dX3_product_14 ?_
        refine fg_X3_26 X hI ha0 dX3_product_15 (fun v7 ev7 _ => ?_)
        replace E := zLet_s ev7 E
        refine zg_bipush X 28 dX3_product_18 (by decide) (fun v8 _ hv8 => ?_)
        replace E := zLet_s (zcst hv8 (by decide)) E
        refine zg_bipush X 29 dX3_product_20 (by decide) (fun v9 _ hv9 => ?_)
        replace E := zLet_s (zcst hv9 (by decide)) E
        refine zg_cSNi (As := [.int v7, .int v8, .int v9]) (st := []) X (t_X10_isWithin l d L kd _ v7 v8 v9 ) mk_X3_80 mc_X10_isWithin mz_X10 ms_X10_isWithin (na := 3) ⟨md_X10.1, md_X10.2, by decide +kernel⟩ rfl ⟨by decide, by decide⟩ (Nat.le_of_ble_eq_true rfl) dX3_product_22 (fun v10 σ2 hq => ?_)
        obtain ⟨⟨hF, hv10⟩, rfl⟩ := hq
        replace E := zLet_s hF E
        refine zg_if_eq X 68 dX3_product_25 (by decide) (fun c11 => ?_) (fun c11 => ?_)
        · skip
          replace E := zIf_t c11 E
          exact ret _ _ _ dX3_product_68 ⟨E.symm.trans hR, hS, hI⟩
        · skip
          replace E := zIf_f c11 E
          refine zg_aload_n X 1 rfl dX3_product_28 ?_
          refine fg_X3_26 X hI ha0 dX3_product_29 (fun v12 ev12 _ => ?_)
          replace E := zLet_s ev12 E
          have mv12 : v12.toInt = v7.toInt := by rw [ev12, ← ev7]
          refine zg_istore_n X [(3, .int v12), (2, .int x3), (0, .ref a0), (1, .int p1)] dX3_product_32 (by decide) rfl ?_
          refine zg_aload_n X 2 rfl dX3_product_33 ?_
          refine zg_iload_n X 0 rfl dX3_product_34 ?_
          refine zg_cVv (As := [.int v12]) (st := []) X ha0 rfl (by decide) rfl (t_X3_take l d L kd κ 2 _ hI a0 ha0 v12 ) mk_X3_87 mc_X3_take mz_X3 mi_X3_take ml_X3_take (na := 1) ⟨md_X3.1, md_X3.2, by decide +kernel⟩ rfl ⟨by decide, by decide⟩ (Nat.le_of_ble_eq_true rfl) dX3_product_35 (fun s13 hq => ?_)
          obtain ⟨hF, hS2, hI⟩ := hq
          replace E := zLet_s hF E
          have hS := hS.tr hS2 rfl rfl
          refine zg_aload_n X 2 rfl dX3_product_38 ?_
          refine zg_iload_n X 3 rfl dX3_product_39 ?_
          refine zg_cVv (As := [.int p1]) (st := []) X ha0 rfl (by decide) rfl (t_X3_unit_o1 l d L kd κ _ hI a0 ha0 p1 (by omega)) mk_X3_159 mc_X3_unit mz_X3 mi_X3_unit ml_X3_unit (na := 1) ⟨md_X3.1, md_X3.2, by decide +kernel⟩ rfl ⟨by decide, by decide⟩ (Nat.le_of_ble_eq_true rfl) dX3_product_40 (fun s14 hq => ?_)
          obtain ⟨hF, hS2, hI⟩ := hq
          replace E := zLet_s hF E
          have hS := hS.tr hS2 rfl rfl
          refine zg_aload_n X 2 rfl dX3_product_43 ?_
          refine fg_X3_18 X hI ha0 dX3_product_44 (fun v15 ev15 hv15 => ?_)
          replace E := zLet_s (zgr ev15) E
          refine zg_iload_n X 0 rfl dX3_product_47 ?_
          refine zg_bipush X 28 dX3_product_48 (by decide) (fun v16 _ hv16 => ?_)
          replace E := zLet_s (zcst hv16 (by decide)) E
          refine zg_icmp_ne X 57 dX3_product_50 (by decide) (fun c17 => ?_) (fun c17 => ?_)
          · skip
            replace E := zIf_f c17 E
            refine zg_iconst X 5 dX3_product_57 (by decide) (fun v18 _ hv18 => ?_)
            replace E := zLet_s (zcst hv18 (by decide)) E
            refine zg_iconst X 0 dX3_product_58 (by decide) (fun v19 _ hv19 => ?_)
            replace E := zLet_s (zcst hv19 (by decide)) E
            refine zg_cVv (As := [.int v18, .int v19]) (st := []) X hv15 rfl (by decide) rfl (t_X9_addStep l d L kd κ 2 _ hI v15 hv15 v18 v19 ) mk_X3_145 mc_X9_addStep mz_X9 mi_X9_addStep ml_X9_addStep (na := 2) ⟨md_X9.1, md_X9.2, by decide +kernel⟩ rfl ⟨by decide, by decide⟩ (Nat.le_of_ble_eq_true rfl) dX3_product_59 (fun s20 hq => ?_)
            obtain ⟨hF, hS2, hI⟩ := hq
            replace E := zLet_s hF E
            have hS := hS.tr hS2 rfl rfl
            refine zg_iinc X 1 (fun v21 => [(2, .int v21), (3, .int v12), (0, .ref a0), (1, .int p1)]) 1 dX3_product_62 rfl (by decide) (by decide) (by omega) (by omega) (fun _ => rfl) (fun v21 ev21 hv21 => ?_)
            replace E := zLet_s (zinc ev21 (by decide)) E
            refine zg_goto X 7 dX3_product_65 (by decide) ?_
            refine zg_sub [0, 2, 3] rfl ?_
            exact ihLp4 _ v21 hI hS E  (by omega) (by omega) 
          · skip
            replace E := zIf_t c17 E
            refine zg_iconst X 4 dX3_product_53 (by decide) (fun v22 _ hv22 => ?_)
            replace E := zLet_s (zcst hv22 (by decide)) E
            refine zg_goto X 58 dX3_product_54 (by decide) ?_
            refine zg_iconst X 0 dX3_product_58 (by decide) (fun v23 _ hv23 => ?_)
            replace E := zLet_s (zcst hv23 (by decide)) E
            refine zg_cVv (As := [.int v22, .int v23]) (st := []) X hv15 rfl (by decide) rfl (t_X9_addStep l d L kd κ 2 _ hI v15 hv15 v22 v23 ) mk_X3_145 mc_X9_addStep mz_X9 mi_X9_addStep ml_X9_addStep (na := 2) ⟨md_X9.1, md_X9.2, by decide +kernel⟩ rfl ⟨by decide, by decide⟩ (Nat.le_of_ble_eq_true rfl) dX3_product_59 (fun s24 hq => ?_)
            obtain ⟨hF, hS2, hI⟩ := hq
            replace E := zLet_s hF E
            have hS := hS.tr hS2 rfl rfl
            refine zg_iinc X 1 (fun v25 => [(2, .int v25), (3, .int v12), (0, .ref a0), (1, .int p1)]) 1 dX3_product_62 rfl (by decide) (by decide) (by omega) (by omega) (fun _ => rfl) (fun v25 ev25 hv25 => ?_)
            replace E := zLet_s (zinc ev25 (by decide)) E
            refine zg_goto X 7 dX3_product_65 (by decide) ?_
            refine zg_sub [0, 2, 3] rfl ?_
            exact ihLp4 _ v25 hI hS E  (by omega) (by omega) 
  refine zg_sub [0, 1, 2] rfl ?_
  exact Lp4 10000 _ v2 hI hS E  (by omega) (by omega) 
set_option maxHeartbeats 4000000 in
set_option maxRecDepth 100000 in
theorem t_X3_sum_o1 (l : Launch) (d : zD2) (L : List Nat) (kd : Nat → Nat) (κ : Int) (σ : zS) (hI : zI κ 2 L kd σ) (a0 : Nat) (ha0 : zT L kd a0 3) (p1 : Int32) (hq0 : p1.toInt = 1) : zMv l yX3_sum (Cond.code yX3_sum cX3_sum 4 none :: zWL) 19 [.ref a0, .int p1] d L kd σ (fun σ2 => σ2 = F_X3_sum_o1 a0 p1 σ ∧ zSm [3, 9, 49, 50] [] L kd σ σ2 ∧ (zI κ 2 L kd σ2)) := by
  refine zMv.of (own := RX3) (by decide +kernel) rfl rfl (Nat.le_of_ble_eq_true rfl) ?_
  intro p e s m args below meth c A Q X ret
  refine zg_lv (lv2 := [(0, .ref a0), (1, .int p1)]) rfl ?_
  obtain ⟨R, hR⟩ : ∃ R, R = F_X3_sum_o1 a0 p1 σ := ⟨_, rfl⟩
  have E := hR
  unfold F_X3_sum_o1 at E
  have hS : zSm [3, 9, 49, 50] [] L kd σ σ := zSm.rf
  refine zg_aload_n X 0 rfl dX3_sum_0 ?_
  refine zg_iload_n X 1 rfl dX3_sum_1 ?_
  refine zg_cVv (As := [.int p1]) (st := []) X ha0 rfl (by decide) rfl (t_X3_product_o1 l d L kd κ _ hI a0 ha0 p1 (by omega)) mk_X3_156 mc_X3_product mz_X3 mi_X3_product ml_X3_product (na := 1) ⟨md_X3.1, md_X3.2, by decide +kernel⟩ rfl ⟨by decide, by decide⟩ (Nat.le_of_ble_eq_true rfl) dX3_sum_2 (fun s1 hq => ?_)
  obtain ⟨hF, hS2, hI⟩ := hq
  replace E := zLet_s hF E
  have hS := hS.tr hS2 rfl rfl
  refine zg_iconst X 0 dX3_sum_5 (by decide) (fun v2 _ hv2 => ?_)
  replace E := zLet_s (zcst hv2 (by decide)) E
  refine zg_istore_n X [(2, .int v2), (0, .ref a0), (1, .int p1)] dX3_sum_6 (by decide) rfl ?_
  have Lp4 : ∀ (nLp4 : Nat) (τ4 : zS) (x3 : Int32), zI κ 2 L kd τ4 → zSm [3, 9, 49, 50] [] L kd σ τ4 → R = F_X3_sum_o1_7 a0 p1  nLp4 x3 τ4 → 0 ≤ x3.toInt ∧ x3.toInt ≤ 401 → (401) - x3.toInt + 1 < (nLp4 : Int) → zG d L kd A 4 p l e (k2_rm 19 (100 * 19)) s m args below meth c Q τ4 7 [(2, .int x3), (0, .ref a0), (1, .int p1)] [] := by
    intro nLp4
    induction nLp4 with
    | zero => intro τ4 x3 hI hS E  hxLp4 hm ; exact absurd hm (by omega)
    | succ nLp4 ihLp4 =>
      intro τ4 x3 hI hS E  hxLp4 hmLp4 
      rw [F_X3_sum_o1_7] at E
      refine zg_iload_n X 0 rfl dX3_sum_7 ?_
      refine zg_sipush X 400 dX3_sum_8 (by decide) (fun v5 _ hv5 => ?_)
      replace E := zLet_s (zcst hv5 (by decide)) E
      refine zg_icmp_gt X 68 dX3_sum_11 (by decide) (fun c6 => ?_) (fun c6 => ?_)
      · skip
        replace E := zIf_t c6 E
        exact ret _ _ _ dX3_sum_68 ⟨E.symm.trans hR, hS, hI⟩
      · skip
        replace E := zIf_f (Int.not_lt.mpr c6) E
        refine zg_aload_n X 1 rfl dX3_sum_14 ?_
        refine fg_X3_26 X hI ha0 dX3_sum_15 (fun v7 ev7 _ => ?_)
        replace E := zLet_s ev7 E
        refine zg_bipush X 26 dX3_sum_18 (by decide) (fun v8 _ hv8 => ?_)
        replace E := zLet_s (zcst hv8 (by decide)) E
        refine zg_bipush X 27 dX3_sum_20 (by decide) (fun v9 _ hv9 => ?_)
        replace E := zLet_s (zcst hv9 (by decide)) E
        refine zg_cSNi (As := [.int v7, .int v8, .int v9]) (st := []) X (t_X10_isWithin l d L kd _ v7 v8 v9 ) mk_X3_80 mc_X10_isWithin mz_X10 ms_X10_isWithin (na := 3) ⟨md_X10.1, md_X10.2, by decide +kernel⟩ rfl ⟨by decide, by decide⟩ (Nat.le_of_ble_eq_true rfl) dX3_sum_22 (fun v10 σ2 hq => ?_)
        obtain ⟨⟨hF, hv10⟩, rfl⟩ := hq
        replace E := zLet_s hF E
        refine zg_if_eq X 68 dX3_sum_25 (by decide) (fun c11 => ?_) (fun c11 => ?_)
        · skip
          replace E := zIf_t c11 E
          exact ret _ _ _ dX3_sum_68 ⟨E.symm.trans hR, hS, hI⟩
        · skip
          replace E := zIf_f c11 E
          refine zg_aload_n X 1 rfl dX3_sum_28 ?_
          refine fg_X3_26 X hI ha0 dX3_sum_29 (fun v12 ev12 _ => ?_)
          replace E := zLet_s ev12 E
          have mv12 : v12.toInt = v7.toInt := by rw [ev12, ← ev7]
          refine zg_istore_n X [(3, .int v12), (2, .int x3), (0, .ref a0), (1, .int p1)] dX3_sum_32 (by decide) rfl ?_
          refine zg_aload_n X 2 rfl dX3_sum_33 ?_
          refine zg_iload_n X 0 rfl dX3_sum_34 ?_
          refine zg_cVv (As := [.int v12]) (st := []) X ha0 rfl (by decide) rfl (t_X3_take l d L kd κ 2 _ hI a0 ha0 v12 ) mk_X3_87 mc_X3_take mz_X3 mi_X3_take ml_X3_take (na := 1) ⟨md_X3.1, md_X3.2, by decide +kernel⟩ rfl ⟨by decide, by decide⟩ (Nat.le_of_ble_eq_true rfl) dX3_sum_35 (fun s13 hq => ?_)
          obtain ⟨hF, hS2, hI⟩ := hq
          replace E := zLet_s hF E
          have hS := hS.tr hS2 rfl rfl
          refine zg_aload_n X 2 rfl dX3_sum_38 ?_
          refine zg_iload_n X 3 rfl dX3_sum_39 ?_
          refine zg_cVv (As := [.int p1]) (st := []) X ha0 rfl (by decide) rfl (t_X3_product_o1 l d L kd κ _ hI a0 ha0 p1 (by omega)) mk_X3_156 mc_X3_product mz_X3 mi_X3_product ml_X3_product (na := 1) ⟨md_X3.1, md_X3.2, by decide +kernel⟩ rfl ⟨by decide, by decide⟩ (Nat.le_of_ble_eq_true rfl) dX3_sum_40 (fun s14 hq => ?_)
          obtain ⟨hF, hS2, hI⟩ := hq
          replace E := zLet_s hF E
          have hS := hS.tr hS2 rfl rfl
          refine zg_aload_n X 2 rfl dX3_sum_43 ?_
          refine fg_X3_18 X hI ha0 dX3_sum_44 (fun v15 ev15 hv15 => ?_)
          replace E := zLet_s (zgr ev15) E
          refine zg_iload_n X 0 rfl dX3_sum_47 ?_
          refine zg_bipush X 26 dX3_sum_48 (by decide) (fun v16 _ hv16 => ?_)
          replace E := zLet_s (zcst hv16 (by decide)) E
          refine zg_icmp_ne X 57 dX3_sum_50 (by decide) (fun c17 => ?_) (fun c17 => ?_)
          · skip
            replace E := zIf_f c17 E
            refine zg_iconst X 3 dX3_sum_57 (by decide) (fun v18 _ hv18 => ?_)
            replace E := zLet_s (zcst hv18 (by decide)) E
            refine zg_iconst X 0 dX3_sum_58 (by decide) (fun v19 _ hv19 => ?_)
            replace E := zLet_s (zcst hv19 (by decide)) E
            refine zg_cVv (As := [.int v18, .int v19]) (st := []) X hv15 rfl (by decide) rfl (t_X9_addStep l d L kd κ 2 _ hI v15 hv15 v18 v19 ) mk_X3_145 mc_X9_addStep mz_X9 mi_X9_addStep ml_X9_addStep (na := 2) ⟨md_X9.1, md_X9.2, by decide +kernel⟩ rfl ⟨by decide, by decide⟩ (Nat.le_of_ble_eq_true rfl) dX3_sum_59 (fun s20 hq => ?_)
            obtain ⟨hF, hS2, hI⟩ := hq
            replace E := zLet_s hF E
            have hS := hS.tr hS2 rfl rfl
            refine zg_iinc X 1 (fun v21 => [(2, .int v21), (3, .int v12), (0, .ref a0), (1, .int p1)]) 1 dX3_sum_62 rfl (by decide) (by decide) (by omega) (by omega) (fun _ => rfl) (fun v21 ev21 hv21 => ?_)
            replace E := zLet_s (zinc ev21 (by decide)) E
            refine zg_goto X 7 dX3_sum_65 (by decide) ?_
            refine zg_sub [0, 2, 3] rfl ?_
            exact ihLp4 _ v21 hI hS E  (by omega) (by omega) 
          · skip
            replace E := zIf_t c17 E
            refine zg_iconst X 2 dX3_sum_53 (by decide) (fun v22 _ hv22 => ?_)
            replace E := zLet_s (zcst hv22 (by decide)) E
            refine zg_goto X 58 dX3_sum_54 (by decide) ?_
            refine zg_iconst X 0 dX3_sum_58 (by decide) (fun v23 _ hv23 => ?_)
            replace E := zLet_s (zcst hv23 (by decide)) E
            refine zg_cVv (As := [.int v22, .int v23]) (st := []) X hv15 rfl (by decide) rfl (t_X9_addStep l d L kd κ 2 _ hI v15 hv15 v22 v23 ) mk_X3_145 mc_X9_addStep mz_X9 mi_X9_addStep ml_X9_addStep (na := 2) ⟨md_X9.1, md_X9.2, by decide +kernel⟩ rfl ⟨by decide, by decide⟩ (Nat.le_of_ble_eq_true rfl) dX3_sum_59 (fun s24 hq => ?_)
            obtain ⟨hF, hS2, hI⟩ := hq
            replace E := zLet_s hF E
            have hS := hS.tr hS2 rfl rfl
            refine zg_iinc X 1 (fun v25 => [(2, .int v25), (3, .int v12), (0, .ref a0), (1, .int p1)]) 1 dX3_sum_62 rfl (by decide) (by decide) (by omega) (by omega) (fun _ => rfl) (fun v25 ev25 hv25 => ?_)
            replace E := zLet_s (zinc ev25 (by decide)) E
            refine zg_goto X 7 dX3_sum_65 (by decide) ?_
            refine zg_sub [0, 2, 3] rfl ?_
            exact ihLp4 _ v25 hI hS E  (by omega) (by omega) 
  refine zg_sub [0, 1, 2] rfl ?_
  exact Lp4 10000 _ v2 hI hS E  (by omega) (by omega) 
set_option maxHeartbeats 4000000 in
set_option maxRecDepth 100000 in
theorem t_X3_unit_o0 (l : Launch) (d : zD2) (L : List Nat) (kd : Nat → Nat) (κ : Int) (σ : zS) (hI : zI κ 2 L kd σ) (a0 : Nat) (ha0 : zT L kd a0 3) (p1 : Int32) (hq0 : p1.toInt = 0) : zMv l yX3_unit (Cond.code yX3_unit cX3_unit 2 none :: zWL) 20 [.ref a0, .int p1] d L kd σ (fun σ2 => σ2 = F_X3_unit_o0 a0 p1 σ ∧ zSm [3, 9, 49, 50] [] L kd σ σ2 ∧ (zI κ 2 L kd σ2)) := by
  refine zMv.of (own := RX3) (by decide +kernel) rfl rfl (Nat.le_of_ble_eq_true rfl) ?_
  intro p e s m args below meth c A Q X ret
  refine zg_lv (lv2 := [(0, .ref a0), (1, .int p1)]) rfl ?_
  obtain ⟨R, hR⟩ : ∃ R, R = F_X3_unit_o0 a0 p1 σ := ⟨_, rfl⟩
  have E := hR
  unfold F_X3_unit_o0 at E
  have hS : zSm [3, 9, 49, 50] [] L kd σ σ := zSm.rf
  refine zg_aload_n X 0 rfl dX3_unit_0 ?_
  refine fg_X3_26 X hI ha0 dX3_unit_1 (fun v1 ev1 _ => ?_)
  replace E := zLet_s ev1 E
  refine zg_bipush X 23 dX3_unit_4 (by decide) (fun v2 _ hv2 => ?_)
  replace E := zLet_s (zcst hv2 (by decide)) E
  refine zg_icmp_ne X 33 dX3_unit_6 (by decide) (fun c3 => ?_) (fun c3 => ?_)
  · skip
    replace E := zIf_f c3 E
    refine zg_aload_n X 0 rfl dX3_unit_33 ?_
    refine fg_X3_26 X hI ha0 dX3_unit_34 (fun v4 ev4 _ => ?_)
    replace E := zLet_s ev4 E
    have mv4 : v4.toInt = v1.toInt := by rw [ev4, ← ev1]
    refine zg_bipush X 13 dX3_unit_37 (by decide) (fun v5 _ hv5 => ?_)
    replace E := zLet_s (zcst hv5 (by decide)) E
    have zv4_z6 := zb_rng v4
    refine zg_icmp_lt X 77 dX3_unit_39 (by decide) (fun c7 => ?_) (fun c7 => ?_)
    · skip
      replace E := zIf_t c7 E
      refine zg_aload_n X 0 rfl dX3_unit_77 ?_
      refine fg_X3_26 X hI ha0 dX3_unit_78 (fun v8 ev8 _ => ?_)
      replace E := zLet_s ev8 E
      have mv8 : v8.toInt = v4.toInt := by rw [ev8, ← ev4]
      refine zg_bipush X 31 dX3_unit_81 (by decide) (fun v9 _ hv9 => ?_)
      replace E := zLet_s (zcst hv9 (by decide)) E
      refine zg_icmp_ne X 116 dX3_unit_83 (by decide) (fun c10 => ?_) (fun c10 => ?_)
      · skip
        replace E := zIf_f c10 E
        refine zg_aload_n X 0 rfl dX3_unit_116 ?_
        refine zg_aload_n X 0 rfl dX3_unit_117 ?_
        refine fg_X3_26 X hI ha0 dX3_unit_118 (fun v11 ev11 _ => ?_)
        replace E := zLet_s ev11 E
        have mv11 : v11.toInt = v8.toInt := by rw [ev11, ← ev8]
        refine zg_bipush X 31 dX3_unit_121 (by decide) (fun v12 _ hv12 => ?_)
        replace E := zLet_s (zcst hv12 (by decide)) E
        refine zg_icmp_ne X 130 dX3_unit_123 (by decide) (fun c13 => ?_) (fun c13 => ?_)
        · skip
          replace E := zIf_f c13 E
          refine zg_iconst X 1 dX3_unit_130 (by decide) (fun v14 _ hv14 => ?_)
          replace E := zLet_s (zcst hv14 (by decide)) E
          refine zg_cVv (As := [.int v14]) (st := []) X ha0 rfl (by decide) rfl (t_X3_fail l d L kd κ 2 _ hI a0 ha0 v14 ) mk_X3_106 mc_X3_fail mz_X3 mi_X3_fail ml_X3_fail (na := 1) ⟨md_X3.1, md_X3.2, by decide +kernel⟩ rfl ⟨by decide, by decide⟩ (Nat.le_of_ble_eq_true rfl) dX3_unit_131 (fun s15 hq => ?_)
          obtain ⟨hF, hS2, hI⟩ := hq
          replace E := zLet_s hF E
          have hS := hS.tr hS2 rfl rfl
          exact ret _ _ _ dX3_unit_134 ⟨E.symm.trans hR, hS, hI⟩
        · omega
      · omega
    · skip
      replace E := zIf_f (Int.not_lt.mpr c7) E
      refine zg_aload_n X 0 rfl dX3_unit_42 ?_
      refine fg_X3_26 X hI ha0 dX3_unit_43 (fun v16 ev16 _ => ?_)
      replace E := zLet_s ev16 E
      have mv16 : v16.toInt = v4.toInt := by rw [ev16, ← ev4]
      refine zg_bipush X 22 dX3_unit_46 (by decide) (fun v17 _ hv17 => ?_)
      replace E := zLet_s (zcst hv17 (by decide)) E
      have zv16_z18 := zb_rng v16
      refine zg_icmp_ge X 77 dX3_unit_48 (by decide) (fun c19 => ?_) (fun c19 => ?_)
      · skip
        replace E := zIf_f (Int.not_lt.mpr c19) E
        refine zg_aload_n X 0 rfl dX3_unit_77 ?_
        refine fg_X3_26 X hI ha0 dX3_unit_78 (fun v20 ev20 _ => ?_)
        replace E := zLet_s ev20 E
        have mv20 : v20.toInt = v16.toInt := by rw [ev20, ← ev16]
        refine zg_bipush X 31 dX3_unit_81 (by decide) (fun v21 _ hv21 => ?_)
        replace E := zLet_s (zcst hv21 (by decide)) E
        refine zg_icmp_ne X 116 dX3_unit_83 (by decide) (fun c22 => ?_) (fun c22 => ?_)
        · skip
          replace E := zIf_f c22 E
          refine zg_aload_n X 0 rfl dX3_unit_116 ?_
          refine zg_aload_n X 0 rfl dX3_unit_117 ?_
          refine fg_X3_26 X hI ha0 dX3_unit_118 (fun v23 ev23 _ => ?_)
          replace E := zLet_s ev23 E
          have mv23 : v23.toInt = v20.toInt := by rw [ev23, ← ev20]
          refine zg_bipush X 31 dX3_unit_121 (by decide) (fun v24 _ hv24 => ?_)
          replace E := zLet_s (zcst hv24 (by decide)) E
          refine zg_icmp_ne X 130 dX3_unit_123 (by decide) (fun c25 => ?_) (fun c25 => ?_)
          · skip
            replace E := zIf_f c25 E
            refine zg_iconst X 1 dX3_unit_130 (by decide) (fun v26 _ hv26 => ?_)
            replace E := zLet_s (zcst hv26 (by decide)) E
            refine zg_cVv (As := [.int v26]) (st := []) X ha0 rfl (by decide) rfl (t_X3_fail l d L kd κ 2 _ hI a0 ha0 v26 ) mk_X3_106 mc_X3_fail mz_X3 mi_X3_fail ml_X3_fail (na := 1) ⟨md_X3.1, md_X3.2, by decide +kernel⟩ rfl ⟨by decide, by decide⟩ (Nat.le_of_ble_eq_true rfl) dX3_unit_131 (fun s27 hq => ?_)
            obtain ⟨hF, hS2, hI⟩ := hq
            replace E := zLet_s hF E
            have hS := hS.tr hS2 rfl rfl
            exact ret _ _ _ dX3_unit_134 ⟨E.symm.trans hR, hS, hI⟩
          · skip
            replace E := zIf_t c25 E
            refine zg_iconst X 2 dX3_unit_126 (by decide) (fun v28 _ hv28 => ?_)
            replace E := zLet_s (zcst hv28 (by decide)) E
            refine zg_goto X 131 dX3_unit_127 (by decide) ?_
            refine zg_cVv (As := [.int v28]) (st := []) X ha0 rfl (by decide) rfl (t_X3_fail l d L kd κ 2 _ hI a0 ha0 v28 ) mk_X3_106 mc_X3_fail mz_X3 mi_X3_fail ml_X3_fail (na := 1) ⟨md_X3.1, md_X3.2, by decide +kernel⟩ rfl ⟨by decide, by decide⟩ (Nat.le_of_ble_eq_true rfl) dX3_unit_131 (fun s29 hq => ?_)
            obtain ⟨hF, hS2, hI⟩ := hq
            replace E := zLet_s hF E
            have hS := hS.tr hS2 rfl rfl
            exact ret _ _ _ dX3_unit_134 ⟨E.symm.trans hR, hS, hI⟩
        · skip
          replace E := zIf_t c22 E
          refine zg_iload_n X 1 rfl dX3_unit_86 ?_
          refine zg_bipush X 6 dX3_unit_87 (by decide) (fun v30 _ hv30 => ?_)
          replace E := zLet_s (zcst hv30 (by decide)) E
          refine zg_icmp_ge X 116 dX3_unit_89 (by decide) (fun c31 => ?_) (fun c31 => ?_)
          · omega
          · skip
            replace E := zIf_t c31 E
            refine zg_aload_n X 0 rfl dX3_unit_92 ?_
            refine zg_aload_n X 0 rfl dX3_unit_93 ?_
            refine fg_X3_26 X hI ha0 dX3_unit_94 (fun v32 ev32 _ => ?_)
            replace E := zLet_s ev32 E
            have mv32 : v32.toInt = v20.toInt := by rw [ev32, ← ev20]
            refine zg_cVv (As := [.int v32]) (st := []) X ha0 rfl (by decide) rfl (t_X3_take l d L kd κ 2 _ hI a0 ha0 v32 ) mk_X3_87 mc_X3_take mz_X3 mi_X3_take ml_X3_take (na := 1) ⟨md_X3.1, md_X3.2, by decide +kernel⟩ rfl ⟨by decide, by decide⟩ (Nat.le_of_ble_eq_true rfl) dX3_unit_97 (fun s33 hq => ?_)
            obtain ⟨hF, hS2, hI⟩ := hq
            replace E := zLet_s hF E
            have hS := hS.tr hS2 rfl rfl
            refine zg_aload_n X 0 rfl dX3_unit_100 ?_
            refine zg_iload_n X 1 rfl dX3_unit_101 ?_
            refine zg_iconst X 1 dX3_unit_102 (by decide) (fun v34 _ hv34 => ?_)
            replace E := zLet_s (zcst hv34 (by decide)) E
            refine zg_iadd X dX3_unit_103 (by omega) (by omega) (fun v35 ev35 hv35 => ?_)
            replace E := zLet_s ev35 E
            refine zg_cVv (As := [.int v35]) (st := []) X ha0 rfl (by decide) rfl (t_X3_sum_o1 l d L kd κ _ hI a0 ha0 v35 (by omega)) mk_X3_140 mc_X3_sum mz_X3 mi_X3_sum ml_X3_sum (na := 1) ⟨md_X3.1, md_X3.2, by decide +kernel⟩ rfl ⟨by decide, by decide⟩ (Nat.le_of_ble_eq_true rfl) dX3_unit_104 (fun s36 hq => ?_)
            obtain ⟨hF, hS2, hI⟩ := hq
            replace E := zLet_s hF E
            have hS := hS.tr hS2 rfl rfl
            refine zg_aload_n X 0 rfl dX3_unit_107 ?_
            refine zg_bipush X 32 dX3_unit_108 (by decide) (fun v37 _ hv37 => ?_)
            replace E := zLet_s (zcst hv37 (by decide)) E
            refine zg_cVv (As := [.int v37]) (st := []) X ha0 rfl (by decide) rfl (t_X3_take l d L kd κ 2 _ hI a0 ha0 v37 ) mk_X3_87 mc_X3_take mz_X3 mi_X3_take ml_X3_take (na := 1) ⟨md_X3.1, md_X3.2, by decide +kernel⟩ rfl ⟨by decide, by decide⟩ (Nat.le_of_ble_eq_true rfl) dX3_unit_110 (fun s38 hq => ?_)
            obtain ⟨hF, hS2, hI⟩ := hq
            replace E := zLet_s hF E
            have hS := hS.tr hS2 rfl rfl
            refine zg_goto X 134 dX3_unit_113 (by decide) ?_
            exact ret _ _ _ dX3_unit_134 ⟨E.symm.trans hR, hS, hI⟩
      · skip
        replace E := zIf_t c19 E
        refine zg_aload_n X 0 rfl dX3_unit_51 ?_
        refine fg_X3_18 X hI ha0 dX3_unit_52 (fun v39 ev39 hv39 => ?_)
        replace E := zLet_s (zgr ev39) E
        refine zg_iconst X 1 dX3_unit_55 (by decide) (fun v40 _ hv40 => ?_)
        replace E := zLet_s (zcst hv40 (by decide)) E
        refine zg_aload_n X 0 rfl dX3_unit_56 ?_
        refine fg_X3_26 X hI ha0 dX3_unit_57 (fun v41 ev41 _ => ?_)
        replace E := zLet_s ev41 E
        have mv41 : v41.toInt = v16.toInt := by rw [ev41, ← ev16]
        refine zg_bipush X 13 dX3_unit_60 (by decide) (fun v42 _ hv42 => ?_)
        replace E := zLet_s (zcst hv42 (by decide)) E
        refine zg_isub X dX3_unit_62 (by omega) (by omega) (fun v43 ev43 hv43 => ?_)
        replace E := zLet_s ev43 E
        refine zg_cVv (As := [.int v40, .int v43]) (st := []) X hv39 rfl (by decide) rfl (t_X9_addStep l d L kd κ 2 _ hI v39 hv39 v40 v43 ) mk_X3_145 mc_X9_addStep mz_X9 mi_X9_addStep ml_X9_addStep (na := 2) ⟨md_X9.1, md_X9.2, by decide +kernel⟩ rfl ⟨by decide, by decide⟩ (Nat.le_of_ble_eq_true rfl) dX3_unit_63 (fun s44 hq => ?_)
        obtain ⟨hF, hS2, hI⟩ := hq
        replace E := zLet_s hF E
        have hS := hS.tr hS2 rfl rfl
        refine zg_aload_n X 0 rfl dX3_unit_66 ?_
        refine zg_aload_n X 0 rfl dX3_unit_67 ?_
        refine fg_X3_26 X hI ha0 dX3_unit_68 (fun v45 ev45 _ => ?_)
        replace E := zLet_s ev45 E
        refine zg_cVv (As := [.int v45]) (st := []) X ha0 rfl (by decide) rfl (t_X3_take l d L kd κ 2 _ hI a0 ha0 v45 ) mk_X3_87 mc_X3_take mz_X3 mi_X3_take ml_X3_take (na := 1) ⟨md_X3.1, md_X3.2, by decide +kernel⟩ rfl ⟨by decide, by decide⟩ (Nat.le_of_ble_eq_true rfl) dX3_unit_71 (fun s46 hq => ?_)
        obtain ⟨hF, hS2, hI⟩ := hq
        replace E := zLet_s hF E
        have hS := hS.tr hS2 rfl rfl
        refine zg_goto X 134 dX3_unit_74 (by decide) ?_
        exact ret _ _ _ dX3_unit_134 ⟨E.symm.trans hR, hS, hI⟩
  · skip
    replace E := zIf_t c3 E
    refine zg_aload_n X 0 rfl dX3_unit_9 ?_
    refine fg_X3_18 X hI ha0 dX3_unit_10 (fun v47 ev47 hv47 => ?_)
    replace E := zLet_s (zgr ev47) E
    refine zg_iconst X 0 dX3_unit_13 (by decide) (fun v48 _ hv48 => ?_)
    replace E := zLet_s (zcst hv48 (by decide)) E
    refine zg_aload_n X 0 rfl dX3_unit_14 ?_
    refine fg_X3_29 X ha0 dX3_unit_15 (fun v49 ev49 => ?_)
    replace E := zLet_s ev49 E
    refine zg_l2i X dX3_unit_18 (fun v50 ev50 => ?_)
    replace E := zLet_s ev50 E
    refine zg_cVv (As := [.int v48, .int v50]) (st := []) X hv47 rfl (by decide) rfl (t_X9_addStep l d L kd κ 2 _ hI v47 hv47 v48 v50 ) mk_X3_145 mc_X9_addStep mz_X9 mi_X9_addStep ml_X9_addStep (na := 2) ⟨md_X9.1, md_X9.2, by decide +kernel⟩ rfl ⟨by decide, by decide⟩ (Nat.le_of_ble_eq_true rfl) dX3_unit_19 (fun s51 hq => ?_)
    obtain ⟨hF, hS2, hI⟩ := hq
    replace E := zLet_s hF E
    have hS := hS.tr hS2 rfl rfl
    refine zg_aload_n X 0 rfl dX3_unit_22 ?_
    refine zg_aload_n X 0 rfl dX3_unit_23 ?_
    refine fg_X3_26 X hI ha0 dX3_unit_24 (fun v52 ev52 _ => ?_)
    replace E := zLet_s ev52 E
    refine zg_cVv (As := [.int v52]) (st := []) X ha0 rfl (by decide) rfl (t_X3_take l d L kd κ 2 _ hI a0 ha0 v52 ) mk_X3_87 mc_X3_take mz_X3 mi_X3_take ml_X3_take (na := 1) ⟨md_X3.1, md_X3.2, by decide +kernel⟩ rfl ⟨by decide, by decide⟩ (Nat.le_of_ble_eq_true rfl) dX3_unit_27 (fun s53 hq => ?_)
    obtain ⟨hF, hS2, hI⟩ := hq
    replace E := zLet_s hF E
    have hS := hS.tr hS2 rfl rfl
    refine zg_goto X 134 dX3_unit_30 (by decide) ?_
    exact ret _ _ _ dX3_unit_134 ⟨E.symm.trans hR, hS, hI⟩
set_option maxHeartbeats 4000000 in
set_option maxRecDepth 100000 in
theorem t_X3_product_o0 (l : Launch) (d : zD2) (L : List Nat) (kd : Nat → Nat) (κ : Int) (σ : zS) (hI : zI κ 2 L kd σ) (a0 : Nat) (ha0 : zT L kd a0 3) (p1 : Int32) (hq0 : p1.toInt = 0) : zMv l yX3_product (Cond.code yX3_product cX3_product 4 none :: zWL) 21 [.ref a0, .int p1] d L kd σ (fun σ2 => σ2 = F_X3_product_o0 a0 p1 σ ∧ zSm [3, 9, 49, 50] [] L kd σ σ2 ∧ (zI κ 2 L kd σ2)) := by
  refine zMv.of (own := RX3) (by decide +kernel) rfl rfl (Nat.le_of_ble_eq_true rfl) ?_
  intro p e s m args below meth c A Q X ret
  refine zg_lv (lv2 := [(0, .ref a0), (1, .int p1)]) rfl ?_
  obtain ⟨R, hR⟩ : ∃ R, R = F_X3_product_o0 a0 p1 σ := ⟨_, rfl⟩
  have E := hR
  unfold F_X3_product_o0 at E
  have hS : zSm [3, 9, 49, 50] [] L kd σ σ := zSm.rf
  refine zg_aload_n X 0 rfl dX3_product_0 ?_
  refine zg_iload_n X 1 rfl dX3_product_1 ?_
  refine zg_cVv (As := [.int p1]) (st := []) X ha0 rfl (by decide) rfl (t_X3_unit_o0 l d L kd κ _ hI a0 ha0 p1 (by omega)) mk_X3_159 mc_X3_unit mz_X3 mi_X3_unit ml_X3_unit (na := 1) ⟨md_X3.1, md_X3.2, by decide +kernel⟩ rfl ⟨by decide, by decide⟩ (Nat.le_of_ble_eq_true rfl) dX3_product_2 (fun s1 hq => ?_)
  obtain ⟨hF, hS2, hI⟩ := hq
  replace E := zLet_s hF E
  have hS := hS.tr hS2 rfl rfl
  refine zg_iconst X 0 dX3_product_5 (by decide) (fun v2 _ hv2 => ?_)
  replace E := zLet_s (zcst hv2 (by decide)) E
  refine zg_istore_n X [(2, .int v2), (0, .ref a0), (1, .int p1)] dX3_product_6 (by decide) rfl ?_
  have Lp4 : ∀ (nLp4 : Nat) (τ4 : zS) (x3 : Int32), zI κ 2 L kd τ4 → zSm [3, 9, 49, 50] [] L kd σ τ4 → R = F_X3_product_o0_7 a0 p1  nLp4 x3 τ4 → 0 ≤ x3.toInt ∧ x3.toInt ≤ 401 → (401) - x3.toInt + 1 < (nLp4 : Int) → zG d L kd A 4 p l e (k2_rm 21 (100 * 21)) s m args below meth c Q τ4 7 [(2, .int x3), (0, .ref a0), (1, .int p1)] [] := by
    intro nLp4
    induction nLp4 with
    | zero => intro τ4 x3 hI hS E  hxLp4 hm ; exact absurd hm (by omega)
    | succ nLp4 ihLp4 =>
      intro τ4 x3 hI hS E  hxLp4 hmLp4 
      rw [F_X3_product_o0_7] at E
      refine zg_iload_n X 0 rfl dX3_product_7 ?_
      refine zg_sipush X 400 dX3_product_8 (by decide) (fun v5 _ hv5 => ?_)
      replace E := zLet_s (zcst hv5 (by decide)) E
      refine zg_icmp_gt X 68 dX3_product_11 (by decide) (fun c6 => ?_) (fun c6 => ?_)
      · skip
        replace E := zIf_t c6 E
        exact ret _ _ _ dX3_product_68 ⟨E.symm.trans hR, hS, hI⟩
      · skip
        replace E := zIf_f (Int.not_lt.mpr c6) E
        refine zg_aload_n X 1 rfl dX3_product_14 ?_
        refine fg_X3_26 X hI ha0 dX3_product_15 (fun v7 ev7 _ => ?_)
        replace E := zLet_s ev7 E
        refine zg_bipush X 28 dX3_product_18 (by decide) (fun v8 _ hv8 => ?_)
        replace E := zLet_s (zcst hv8 (by decide)) E
        refine zg_bipush X 29 dX3_product_20 (by decide) (fun v9 _ hv9 => ?_)
        replace E := zLet_s (zcst hv9 (by decide)) E
        refine zg_cSNi (As := [.int v7, .int v8, .int v9]) (st := []) X (t_X10_isWithin l d L kd _ v7 v8 v9 ) mk_X3_80 mc_X10_isWithin mz_X10 ms_X10_isWithin (na := 3) ⟨md_X10.1, md_X10.2, by decide +kernel⟩ rfl ⟨by decide, by decide⟩ (Nat.le_of_ble_eq_true rfl) dX3_product_22 (fun v10 σ2 hq => ?_)
        obtain ⟨⟨hF, hv10⟩, rfl⟩ := hq
        replace E := zLet_s hF E
        refine zg_if_eq X 68 dX3_product_25 (by decide) (fun c11 => ?_) (fun c11 => ?_)
        · skip
          replace E := zIf_t c11 E
          exact ret _ _ _ dX3_product_68 ⟨E.symm.trans hR, hS, hI⟩
        · skip
          replace E := zIf_f c11 E
          refine zg_aload_n X 1 rfl dX3_product_28 ?_
          refine fg_X3_26 X hI ha0 dX3_product_29 (fun v12 ev12 _ => ?_)
          replace E := zLet_s ev12 E
          have mv12 : v12.toInt = v7.toInt := by rw [ev12, ← ev7]
          refine zg_istore_n X [(3, .int v12), (2, .int x3), (0, .ref a0), (1, .int p1)] dX3_product_32 (by decide) rfl ?_
          refine zg_aload_n X 2 rfl dX3_product_33 ?_
          refine zg_iload_n X 0 rfl dX3_product_34 ?_
          refine zg_cVv (As := [.int v12]) (st := []) X ha0 rfl (by decide) rfl (t_X3_take l d L kd κ 2 _ hI a0 ha0 v12 ) mk_X3_87 mc_X3_take mz_X3 mi_X3_take ml_X3_take (na := 1) ⟨md_X3.1, md_X3.2, by decide +kernel⟩ rfl ⟨by decide, by decide⟩ (Nat.le_of_ble_eq_true rfl) dX3_product_35 (fun s13 hq => ?_)
          obtain ⟨hF, hS2, hI⟩ := hq
          replace E := zLet_s hF E
          have hS := hS.tr hS2 rfl rfl
          refine zg_aload_n X 2 rfl dX3_product_38 ?_
          refine zg_iload_n X 3 rfl dX3_product_39 ?_
          refine zg_cVv (As := [.int p1]) (st := []) X ha0 rfl (by decide) rfl (t_X3_unit_o0 l d L kd κ _ hI a0 ha0 p1 (by omega)) mk_X3_159 mc_X3_unit mz_X3 mi_X3_unit ml_X3_unit (na := 1) ⟨md_X3.1, md_X3.2, by decide +kernel⟩ rfl ⟨by decide, by decide⟩ (Nat.le_of_ble_eq_true rfl) dX3_product_40 (fun s14 hq => ?_)
          obtain ⟨hF, hS2, hI⟩ := hq
          replace E := zLet_s hF E
          have hS := hS.tr hS2 rfl rfl
          refine zg_aload_n X 2 rfl dX3_product_43 ?_
          refine fg_X3_18 X hI ha0 dX3_product_44 (fun v15 ev15 hv15 => ?_)
          replace E := zLet_s (zgr ev15) E
          refine zg_iload_n X 0 rfl dX3_product_47 ?_
          refine zg_bipush X 28 dX3_product_48 (by decide) (fun v16 _ hv16 => ?_)
          replace E := zLet_s (zcst hv16 (by decide)) E
          refine zg_icmp_ne X 57 dX3_product_50 (by decide) (fun c17 => ?_) (fun c17 => ?_)
          · skip
            replace E := zIf_f c17 E
            refine zg_iconst X 5 dX3_product_57 (by decide) (fun v18 _ hv18 => ?_)
            replace E := zLet_s (zcst hv18 (by decide)) E
            refine zg_iconst X 0 dX3_product_58 (by decide) (fun v19 _ hv19 => ?_)
            replace E := zLet_s (zcst hv19 (by decide)) E
            refine zg_cVv (As := [.int v18, .int v19]) (st := []) X hv15 rfl (by decide) rfl (t_X9_addStep l d L kd κ 2 _ hI v15 hv15 v18 v19 ) mk_X3_145 mc_X9_addStep mz_X9 mi_X9_addStep ml_X9_addStep (na := 2) ⟨md_X9.1, md_X9.2, by decide +kernel⟩ rfl ⟨by decide, by decide⟩ (Nat.le_of_ble_eq_true rfl) dX3_product_59 (fun s20 hq => ?_)
            obtain ⟨hF, hS2, hI⟩ := hq
            replace E := zLet_s hF E
            have hS := hS.tr hS2 rfl rfl
            refine zg_iinc X 1 (fun v21 => [(2, .int v21), (3, .int v12), (0, .ref a0), (1, .int p1)]) 1 dX3_product_62 rfl (by decide) (by decide) (by omega) (by omega) (fun _ => rfl) (fun v21 ev21 hv21 => ?_)
            replace E := zLet_s (zinc ev21 (by decide)) E
            refine zg_goto X 7 dX3_product_65 (by decide) ?_
            refine zg_sub [0, 2, 3] rfl ?_
            exact ihLp4 _ v21 hI hS E  (by omega) (by omega) 
          · skip
            replace E := zIf_t c17 E
            refine zg_iconst X 4 dX3_product_53 (by decide) (fun v22 _ hv22 => ?_)
            replace E := zLet_s (zcst hv22 (by decide)) E
            refine zg_goto X 58 dX3_product_54 (by decide) ?_
            refine zg_iconst X 0 dX3_product_58 (by decide) (fun v23 _ hv23 => ?_)
            replace E := zLet_s (zcst hv23 (by decide)) E
            refine zg_cVv (As := [.int v22, .int v23]) (st := []) X hv15 rfl (by decide) rfl (t_X9_addStep l d L kd κ 2 _ hI v15 hv15 v22 v23 ) mk_X3_145 mc_X9_addStep mz_X9 mi_X9_addStep ml_X9_addStep (na := 2) ⟨md_X9.1, md_X9.2, by decide +kernel⟩ rfl ⟨by decide, by decide⟩ (Nat.le_of_ble_eq_true rfl) dX3_product_59 (fun s24 hq => ?_)
            obtain ⟨hF, hS2, hI⟩ := hq
            replace E := zLet_s hF E
            have hS := hS.tr hS2 rfl rfl
            refine zg_iinc X 1 (fun v25 => [(2, .int v25), (3, .int v12), (0, .ref a0), (1, .int p1)]) 1 dX3_product_62 rfl (by decide) (by decide) (by omega) (by omega) (fun _ => rfl) (fun v25 ev25 hv25 => ?_)
            replace E := zLet_s (zinc ev25 (by decide)) E
            refine zg_goto X 7 dX3_product_65 (by decide) ?_
            refine zg_sub [0, 2, 3] rfl ?_
            exact ihLp4 _ v25 hI hS E  (by omega) (by omega) 
  refine zg_sub [0, 1, 2] rfl ?_
  exact Lp4 10000 _ v2 hI hS E  (by omega) (by omega) 
set_option maxHeartbeats 4000000 in
set_option maxRecDepth 100000 in
theorem t_X3_sum_o0 (l : Launch) (d : zD2) (L : List Nat) (kd : Nat → Nat) (κ : Int) (σ : zS) (hI : zI κ 2 L kd σ) (a0 : Nat) (ha0 : zT L kd a0 3) (p1 : Int32) (hq0 : p1.toInt = 0) : zMv l yX3_sum (Cond.code yX3_sum cX3_sum 4 none :: zWL) 22 [.ref a0, .int p1] d L kd σ (fun σ2 => σ2 = F_X3_sum_o0 a0 p1 σ ∧ zSm [3, 9, 49, 50] [] L kd σ σ2 ∧ (zI κ 2 L kd σ2)) := by
  refine zMv.of (own := RX3) (by decide +kernel) rfl rfl (Nat.le_of_ble_eq_true rfl) ?_
  intro p e s m args below meth c A Q X ret
  refine zg_lv (lv2 := [(0, .ref a0), (1, .int p1)]) rfl ?_
  obtain ⟨R, hR⟩ : ∃ R, R = F_X3_sum_o0 a0 p1 σ := ⟨_, rfl⟩
  have E := hR
  unfold F_X3_sum_o0 at E
  have hS : zSm [3, 9, 49, 50] [] L kd σ σ := zSm.rf
  refine zg_aload_n X 0 rfl dX3_sum_0 ?_
  refine zg_iload_n X 1 rfl dX3_sum_1 ?_
  refine zg_cVv (As := [.int p1]) (st := []) X ha0 rfl (by decide) rfl (t_X3_product_o0 l d L kd κ _ hI a0 ha0 p1 (by omega)) mk_X3_156 mc_X3_product mz_X3 mi_X3_product ml_X3_product (na := 1) ⟨md_X3.1, md_X3.2, by decide +kernel⟩ rfl ⟨by decide, by decide⟩ (Nat.le_of_ble_eq_true rfl) dX3_sum_2 (fun s1 hq => ?_)
  obtain ⟨hF, hS2, hI⟩ := hq
  replace E := zLet_s hF E
  have hS := hS.tr hS2 rfl rfl
  refine zg_iconst X 0 dX3_sum_5 (by decide) (fun v2 _ hv2 => ?_)
  replace E := zLet_s (zcst hv2 (by decide)) E
  refine zg_istore_n X [(2, .int v2), (0, .ref a0), (1, .int p1)] dX3_sum_6 (by decide) rfl ?_
  have Lp4 : ∀ (nLp4 : Nat) (τ4 : zS) (x3 : Int32), zI κ 2 L kd τ4 → zSm [3, 9, 49, 50] [] L kd σ τ4 → R = F_X3_sum_o0_7 a0 p1  nLp4 x3 τ4 → 0 ≤ x3.toInt ∧ x3.toInt ≤ 401 → (401) - x3.toInt + 1 < (nLp4 : Int) → zG d L kd A 4 p l e (k2_rm 22 (100 * 22)) s m args below meth c Q τ4 7 [(2, .int x3), (0, .ref a0), (1, .int p1)] [] := by
    intro nLp4
    induction nLp4 with
    | zero => intro τ4 x3 hI hS E  hxLp4 hm ; exact absurd hm (by omega)
    | succ nLp4 ihLp4 =>
      intro τ4 x3 hI hS E  hxLp4 hmLp4 
      rw [F_X3_sum_o0_7] at E
      refine zg_iload_n X 0 rfl dX3_sum_7 ?_
      refine zg_sipush X 400 dX3_sum_8 (by decide) (fun v5 _ hv5 => ?_)
      replace E := zLet_s (zcst hv5 (by decide)) E
      refine zg_icmp_gt X 68 dX3_sum_11 (by decide) (fun c6 => ?_) (fun c6 => ?_)
      · skip
        replace E := zIf_t c6 E
        exact ret _ _ _ dX3_sum_68 ⟨E.symm.trans hR, hS, hI⟩
      · skip
        replace E := zIf_f (Int.not_lt.mpr c6) E
        refine zg_aload_n X 1 rfl dX3_sum_14 ?_
        refine fg_X3_26 X hI ha0 dX3_sum_15 (fun v7 ev7 _ => ?_)
        replace E := zLet_s ev7 E
        refine zg_bipush X 26 dX3_sum_18 (by decide) (fun v8 _ hv8 => ?_)
        replace E := zLet_s (zcst hv8 (by decide)) E
        refine zg_bipush X 27 dX3_sum_20 (by decide) (fun v9 _ hv9 => ?_)
        replace E := zLet_s (zcst hv9 (by decide)) E
        refine zg_cSNi (As := [.int v7, .int v8, .int v9]) (st := []) X (t_X10_isWithin l d L kd _ v7 v8 v9 ) mk_X3_80 mc_X10_isWithin mz_X10 ms_X10_isWithin (na := 3) ⟨md_X10.1, md_X10.2, by decide +kernel⟩ rfl ⟨by decide, by decide⟩ (Nat.le_of_ble_eq_true rfl) dX3_sum_22 (fun v10 σ2 hq => ?_)
        obtain ⟨⟨hF, hv10⟩, rfl⟩ := hq
        replace E := zLet_s hF E
        refine zg_if_eq X 68 dX3_sum_25 (by decide) (fun c11 => ?_) (fun c11 => ?_)
        · skip
          replace E := zIf_t c11 E
          exact ret _ _ _ dX3_sum_68 ⟨E.symm.trans hR, hS, hI⟩
        · skip
          replace E := zIf_f c11 E
          refine zg_aload_n X 1 rfl dX3_sum_28 ?_
          refine fg_X3_26 X hI ha0 dX3_sum_29 (fun v12 ev12 _ => ?_)
          replace E := zLet_s ev12 E
          have mv12 : v12.toInt = v7.toInt := by rw [ev12, ← ev7]
          refine zg_istore_n X [(3, .int v12), (2, .int x3), (0, .ref a0), (1, .int p1)] dX3_sum_32 (by decide) rfl ?_
          refine zg_aload_n X 2 rfl dX3_sum_33 ?_
          refine zg_iload_n X 0 rfl dX3_sum_34 ?_
          refine zg_cVv (As := [.int v12]) (st := []) X ha0 rfl (by decide) rfl (t_X3_take l d L kd κ 2 _ hI a0 ha0 v12 ) mk_X3_87 mc_X3_take mz_X3 mi_X3_take ml_X3_take (na := 1) ⟨md_X3.1, md_X3.2, by decide +kernel⟩ rfl ⟨by decide, by decide⟩ (Nat.le_of_ble_eq_true rfl) dX3_sum_35 (fun s13 hq => ?_)
          obtain ⟨hF, hS2, hI⟩ := hq
          replace E := zLet_s hF E
          have hS := hS.tr hS2 rfl rfl
          refine zg_aload_n X 2 rfl dX3_sum_38 ?_
          refine zg_iload_n X 3 rfl dX3_sum_39 ?_
          refine zg_cVv (As := [.int p1]) (st := []) X ha0 rfl (by decide) rfl (t_X3_product_o0 l d L kd κ _ hI a0 ha0 p1 (by omega)) mk_X3_156 mc_X3_product mz_X3 mi_X3_product ml_X3_product (na := 1) ⟨md_X3.1, md_X3.2, by decide +kernel⟩ rfl ⟨by decide, by decide⟩ (Nat.le_of_ble_eq_true rfl) dX3_sum_40 (fun s14 hq => ?_)
          obtain ⟨hF, hS2, hI⟩ := hq
          replace E := zLet_s hF E
          have hS := hS.tr hS2 rfl rfl
          refine zg_aload_n X 2 rfl dX3_sum_43 ?_
          refine fg_X3_18 X hI ha0 dX3_sum_44 (fun v15 ev15 hv15 => ?_)
          replace E := zLet_s (zgr ev15) E
          refine zg_iload_n X 0 rfl dX3_sum_47 ?_
          refine zg_bipush X 26 dX3_sum_48 (by decide) (fun v16 _ hv16 => ?_)
          replace E := zLet_s (zcst hv16 (by decide)) E
          refine zg_icmp_ne X 57 dX3_sum_50 (by decide) (fun c17 => ?_) (fun c17 => ?_)
          · skip
            replace E := zIf_f c17 E
            refine zg_iconst X 3 dX3_sum_57 (by decide) (fun v18 _ hv18 => ?_)
            replace E := zLet_s (zcst hv18 (by decide)) E
            refine zg_iconst X 0 dX3_sum_58 (by decide) (fun v19 _ hv19 => ?_)
            replace E := zLet_s (zcst hv19 (by decide)) E
            refine zg_cVv (As := [.int v18, .int v19]) (st := []) X hv15 rfl (by decide) rfl (t_X9_addStep l d L kd κ 2 _ hI v15 hv15 v18 v19 ) mk_X3_145 mc_X9_addStep mz_X9 mi_X9_addStep ml_X9_addStep (na := 2) ⟨md_X9.1, md_X9.2, by decide +kernel⟩ rfl ⟨by decide, by decide⟩ (Nat.le_of_ble_eq_true rfl) dX3_sum_59 (fun s20 hq => ?_)
            obtain ⟨hF, hS2, hI⟩ := hq
            replace E := zLet_s hF E
            have hS := hS.tr hS2 rfl rfl
            refine zg_iinc X 1 (fun v21 => [(2, .int v21), (3, .int v12), (0, .ref a0), (1, .int p1)]) 1 dX3_sum_62 rfl (by decide) (by decide) (by omega) (by omega) (fun _ => rfl) (fun v21 ev21 hv21 => ?_)
            replace E := zLet_s (zinc ev21 (by decide)) E
            refine zg_goto X 7 dX3_sum_65 (by decide) ?_
            refine zg_sub [0, 2, 3] rfl ?_
            exact ihLp4 _ v21 hI hS E  (by omega) (by omega) 
          · skip
            replace E := zIf_t c17 E
            refine zg_iconst X 2 dX3_sum_53 (by decide) (fun v22 _ hv22 => ?_)
            replace E := zLet_s (zcst hv22 (by decide)) E
            refine zg_goto X 58 dX3_sum_54 (by decide) ?_
            refine zg_iconst X 0 dX3_sum_58 (by decide) (fun v23 _ hv23 => ?_)
            replace E := zLet_s (zcst hv23 (by decide)) E
            refine zg_cVv (As := [.int v22, .int v23]) (st := []) X hv15 rfl (by decide) rfl (t_X9_addStep l d L kd κ 2 _ hI v15 hv15 v22 v23 ) mk_X3_145 mc_X9_addStep mz_X9 mi_X9_addStep ml_X9_addStep (na := 2) ⟨md_X9.1, md_X9.2, by decide +kernel⟩ rfl ⟨by decide, by decide⟩ (Nat.le_of_ble_eq_true rfl) dX3_sum_59 (fun s24 hq => ?_)
            obtain ⟨hF, hS2, hI⟩ := hq
            replace E := zLet_s hF E
            have hS := hS.tr hS2 rfl rfl
            refine zg_iinc X 1 (fun v25 => [(2, .int v25), (3, .int v12), (0, .ref a0), (1, .int p1)]) 1 dX3_sum_62 rfl (by decide) (by decide) (by omega) (by omega) (fun _ => rfl) (fun v25 ev25 hv25 => ?_)
            replace E := zLet_s (zinc ev25 (by decide)) E
            refine zg_goto X 7 dX3_sum_65 (by decide) ?_
            refine zg_sub [0, 2, 3] rfl ?_
            exact ihLp4 _ v25 hI hS E  (by omega) (by omega) 
  refine zg_sub [0, 1, 2] rfl ?_
  exact Lp4 10000 _ v2 hI hS E  (by omega) (by omega) 
set_option maxHeartbeats 4000000 in
set_option maxRecDepth 100000 in
theorem t_X3_law (l : Launch) (d : zD2) (L : List Nat) (kd : Nat → Nat) (κ : Int) (σ : zS) (hI : zI κ 2 L kd σ) (a0 : Nat) (ha0 : zT L kd a0 3) (p1 : Int32) (hq0 : 0 ≤ p1.toInt ∧ p1.toInt ≤ 4) : zMv l yX3_law (Cond.code yX3_law cX3_law 5 none :: zWL) 23 [.ref a0, .int p1] d L kd σ (fun σ2 => σ2 = F_X3_law a0 p1 σ ∧ zSm [3, 9, 49, 50, 51] [] L kd σ σ2 ∧ (zI κ 2 L kd σ2)) := by
  refine zMv.of (own := RX3) (by decide +kernel) rfl rfl (Nat.le_of_ble_eq_true rfl) ?_
  intro p e s m args below meth c A Q X ret
  refine zg_lv (lv2 := [(0, .ref a0), (1, .int p1)]) rfl ?_
  obtain ⟨R, hR⟩ : ∃ R, R = F_X3_law a0 p1 σ := ⟨_, rfl⟩
  have E := hR
  unfold F_X3_law at E
  have hS : zSm [3, 9, 49, 50, 51] [] L kd σ σ := zSm.rf
  refine zg_aload_n X 0 rfl dX3_law_0 ?_
  refine zg_iconst X 2 dX3_law_1 (by decide) (fun v1 _ hv1 => ?_)
  replace E := zLet_s (zcst hv1 (by decide)) E
  refine zg_iload_n X 1 rfl dX3_law_2 ?_
  refine zg_iadd X dX3_law_3 (by omega) (by omega) (fun v2 ev2 hv2 => ?_)
  replace E := zLet_s ev2 E
  refine zg_cVv (As := [.int v2]) (st := []) X ha0 rfl (by decide) rfl (t_X3_take l d L kd κ 2 _ hI a0 ha0 v2 ) mk_X3_87 mc_X3_take mz_X3 mi_X3_take ml_X3_take (na := 1) ⟨md_X3.1, md_X3.2, by decide +kernel⟩ rfl ⟨by decide, by decide⟩ (Nat.le_of_ble_eq_true rfl) dX3_law_4 (fun s3 hq => ?_)
  obtain ⟨hF, hS2, hI⟩ := hq
  replace E := zLet_s hF E
  have hS := hS.tr hS2 rfl rfl
  refine zg_aload_n X 0 rfl dX3_law_7 ?_
  refine zg_bipush X 25 dX3_law_8 (by decide) (fun v4 _ hv4 => ?_)
  replace E := zLet_s (zcst hv4 (by decide)) E
  refine zg_cVv (As := [.int v4]) (st := []) X ha0 rfl (by decide) rfl (t_X3_take l d L kd κ 2 _ hI a0 ha0 v4 ) mk_X3_87 mc_X3_take mz_X3 mi_X3_take ml_X3_take (na := 1) ⟨md_X3.1, md_X3.2, by decide +kernel⟩ rfl ⟨by decide, by decide⟩ (Nat.le_of_ble_eq_true rfl) dX3_law_10 (fun s5 hq => ?_)
  obtain ⟨hF, hS2, hI⟩ := hq
  replace E := zLet_s hF E
  have hS := hS.tr hS2 rfl rfl
  refine zg_aload_n X 0 rfl dX3_law_13 ?_
  refine fg_X3_18 X hI ha0 dX3_law_14 (fun v6 ev6 hv6 => ?_)
  replace E := zLet_s (zgr ev6) E
  refine fg_X3_137 X hI hv6 dX3_law_17 (fun v7 ev7 hv7 => ?_)
  replace E := zLet_s ev7 E
  refine zg_istore_n X [(2, .int v7), (0, .ref a0), (1, .int p1)] dX3_law_20 (by decide) rfl ?_
  refine zg_iconst X 0 dX3_law_21 (by decide) (fun v8 _ hv8 => ?_)
  replace E := zLet_s (zcst hv8 (by decide)) E
  refine zg_istore_n X [(3, .int v8), (2, .int v7), (0, .ref a0), (1, .int p1)] dX3_law_22 (by decide) rfl ?_
  have Lp10 : ∀ (nLp10 : Nat) (τ10 : zS) (x9 : Int32), zI κ 2 L kd τ10 → zSm [3, 9, 49, 50, 51] [] L kd σ τ10 → R = F_X3_law_23 v7 a0 p1  nLp10 x9 τ10 → 0 ≤ x9.toInt ∧ x9.toInt ≤ 5 → (5) - x9.toInt + 1 < (nLp10 : Int) → zG d L kd A 5 p l e (k2_rm 23 (100 * 23)) s m args below meth c Q τ10 23 [(3, .int x9), (2, .int v7), (0, .ref a0), (1, .int p1)] [] := by
    intro nLp10
    induction nLp10 with
    | zero => intro τ10 x9 hI hS E  hxLp10 hm ; exact absurd hm (by omega)
    | succ nLp10 ihLp10 =>
      intro τ10 x9 hI hS E  hxLp10 hmLp10 
      rw [F_X3_law_23] at E
      refine zg_iload_n X 0 rfl dX3_law_23 ?_
      refine zg_iconst X 4 dX3_law_24 (by decide) (fun v11 _ hv11 => ?_)
      replace E := zLet_s (zcst hv11 (by decide)) E
      refine zg_icmp_gt X 137 dX3_law_25 (by decide) (fun c12 => ?_) (fun c12 => ?_)
      · skip
        replace E := zIf_t c12 E
        refine zg_aload_n X 2 rfl dX3_law_137 ?_
        refine zg_iconst X 0 dX3_law_138 (by decide) (fun v13 _ hv13 => ?_)
        replace E := zLet_s (zcst hv13 (by decide)) E
        refine zg_cVv (As := [.int v13]) (st := []) X ha0 rfl (by decide) rfl (t_X3_sum_o0 l d L kd κ _ hI a0 ha0 v13 (by omega)) mk_X3_140 mc_X3_sum mz_X3 mi_X3_sum ml_X3_sum (na := 1) ⟨md_X3.1, md_X3.2, by decide +kernel⟩ rfl ⟨by decide, by decide⟩ (Nat.le_of_ble_eq_true rfl) dX3_law_139 (fun s14 hq => ?_)
        obtain ⟨hF, hS2, hI⟩ := hq
        replace E := zLet_s hF E
        have hS := hS.tr hS2 rfl rfl
        refine zg_aload_n X 2 rfl dX3_law_142 ?_
        refine fg_X3_18 X hI ha0 dX3_law_143 (fun v15 ev15 hv15 => ?_)
        replace E := zLet_s (zgr ev15) E
        refine zg_bipush X 7 dX3_law_146 (by decide) (fun v16 _ hv16 => ?_)
        replace E := zLet_s (zcst hv16 (by decide)) E
        refine zg_iconst X 0 dX3_law_148 (by decide) (fun v17 _ hv17 => ?_)
        replace E := zLet_s (zcst hv17 (by decide)) E
        refine zg_cVv (As := [.int v16, .int v17]) (st := []) X hv15 rfl (by decide) rfl (t_X9_addStep l d L kd κ 2 _ hI v15 hv15 v16 v17 ) mk_X3_145 mc_X9_addStep mz_X9 mi_X9_addStep ml_X9_addStep (na := 2) ⟨md_X9.1, md_X9.2, by decide +kernel⟩ rfl ⟨by decide, by decide⟩ (Nat.le_of_ble_eq_true rfl) dX3_law_149 (fun s18 hq => ?_)
        obtain ⟨hF, hS2, hI⟩ := hq
        replace E := zLet_s hF E
        have hS := hS.tr hS2 rfl rfl
        refine zg_aload_n X 2 rfl dX3_law_152 ?_
        refine fg_X3_18 X hI ha0 dX3_law_153 (fun v19 ev19 hv19 => ?_)
        replace E := zLet_s (zgr ev19) E
        refine fg_X3_152 X hI hv19 dX3_law_156 (fun v20 ev20 hv20 => ?_)
        replace E := zLet_s (zgr ev20) E
        refine zg_iload_n X 3 rfl dX3_law_159 ?_
        refine zg_iload_n X 1 rfl dX3_law_160 ?_
        refine as_51 X hI hv20 (by omega) (by omega) dX3_law_161 (fun s21 es21 hI => ?_)
        replace E := zLet_s es21 E
        have hS := hS.i hv20 es21 rfl
        exact ret _ _ _ dX3_law_162 ⟨E.symm.trans hR, hS, hI⟩
      · skip
        replace E := zIf_f (Int.not_lt.mpr c12) E
        refine zg_aload_n X 2 rfl dX3_law_28 ?_
        refine fg_X3_26 X hI ha0 dX3_law_29 (fun v22 ev22 _ => ?_)
        replace E := zLet_s ev22 E
        refine zg_bipush X 10 dX3_law_32 (by decide) (fun v23 _ hv23 => ?_)
        replace E := zLet_s (zcst hv23 (by decide)) E
        refine zg_icmp_ne X 137 dX3_law_34 (by decide) (fun c24 => ?_) (fun c24 => ?_)
        · skip
          replace E := zIf_f c24 E
          refine zg_aload_n X 2 rfl dX3_law_137 ?_
          refine zg_iconst X 0 dX3_law_138 (by decide) (fun v25 _ hv25 => ?_)
          replace E := zLet_s (zcst hv25 (by decide)) E
          refine zg_cVv (As := [.int v25]) (st := []) X ha0 rfl (by decide) rfl (t_X3_sum_o0 l d L kd κ _ hI a0 ha0 v25 (by omega)) mk_X3_140 mc_X3_sum mz_X3 mi_X3_sum ml_X3_sum (na := 1) ⟨md_X3.1, md_X3.2, by decide +kernel⟩ rfl ⟨by decide, by decide⟩ (Nat.le_of_ble_eq_true rfl) dX3_law_139 (fun s26 hq => ?_)
          obtain ⟨hF, hS2, hI⟩ := hq
          replace E := zLet_s hF E
          have hS := hS.tr hS2 rfl rfl
          refine zg_aload_n X 2 rfl dX3_law_142 ?_
          refine fg_X3_18 X hI ha0 dX3_law_143 (fun v27 ev27 hv27 => ?_)
          replace E := zLet_s (zgr ev27) E
          refine zg_bipush X 7 dX3_law_146 (by decide) (fun v28 _ hv28 => ?_)
          replace E := zLet_s (zcst hv28 (by decide)) E
          refine zg_iconst X 0 dX3_law_148 (by decide) (fun v29 _ hv29 => ?_)
          replace E := zLet_s (zcst hv29 (by decide)) E
          refine zg_cVv (As := [.int v28, .int v29]) (st := []) X hv27 rfl (by decide) rfl (t_X9_addStep l d L kd κ 2 _ hI v27 hv27 v28 v29 ) mk_X3_145 mc_X9_addStep mz_X9 mi_X9_addStep ml_X9_addStep (na := 2) ⟨md_X9.1, md_X9.2, by decide +kernel⟩ rfl ⟨by decide, by decide⟩ (Nat.le_of_ble_eq_true rfl) dX3_law_149 (fun s30 hq => ?_)
          obtain ⟨hF, hS2, hI⟩ := hq
          replace E := zLet_s hF E
          have hS := hS.tr hS2 rfl rfl
          refine zg_aload_n X 2 rfl dX3_law_152 ?_
          refine fg_X3_18 X hI ha0 dX3_law_153 (fun v31 ev31 hv31 => ?_)
          replace E := zLet_s (zgr ev31) E
          refine fg_X3_152 X hI hv31 dX3_law_156 (fun v32 ev32 hv32 => ?_)
          replace E := zLet_s (zgr ev32) E
          refine zg_iload_n X 3 rfl dX3_law_159 ?_
          refine zg_iload_n X 1 rfl dX3_law_160 ?_
          refine as_51 X hI hv32 (by omega) (by omega) dX3_law_161 (fun s33 es33 hI => ?_)
          replace E := zLet_s es33 E
          have hS := hS.i hv32 es33 rfl
          exact ret _ _ _ dX3_law_162 ⟨E.symm.trans hR, hS, hI⟩
        · skip
          replace E := zIf_t c24 E
          refine zg_iload_n X 0 rfl dX3_law_37 ?_
          refine zg_iconst X 4 dX3_law_38 (by decide) (fun v34 _ hv34 => ?_)
          replace E := zLet_s (zcst hv34 (by decide)) E
          refine zg_icmp_ne X 47 dX3_law_39 (by decide) (fun c35 => ?_) (fun c35 => ?_)
          · skip
            replace E := zIf_f c35 E
            refine zg_aload_n X 2 rfl dX3_law_47 ?_
            refine zg_bipush X 10 dX3_law_48 (by decide) (fun v36 _ hv36 => ?_)
            replace E := zLet_s (zcst hv36 (by decide)) E
            refine zg_cVv (As := [.int v36]) (st := []) X ha0 rfl (by decide) rfl (t_X3_take l d L kd κ 2 _ hI a0 ha0 v36 ) mk_X3_87 mc_X3_take mz_X3 mi_X3_take ml_X3_take (na := 1) ⟨md_X3.1, md_X3.2, by decide +kernel⟩ rfl ⟨by decide, by decide⟩ (Nat.le_of_ble_eq_true rfl) dX3_law_50 (fun s37 hq => ?_)
            obtain ⟨hF, hS2, hI⟩ := hq
            replace E := zLet_s hF E
            have hS := hS.tr hS2 rfl rfl
            refine zg_aload_n X 2 rfl dX3_law_53 ?_
            refine zg_iconst X 0 dX3_law_54 (by decide) (fun v38 _ hv38 => ?_)
            replace E := zLet_s (zcst hv38 (by decide)) E
            refine zg_cVv (As := [.int v38]) (st := []) X ha0 rfl (by decide) rfl (t_X3_sum_o0 l d L kd κ _ hI a0 ha0 v38 (by omega)) mk_X3_140 mc_X3_sum mz_X3 mi_X3_sum ml_X3_sum (na := 1) ⟨md_X3.1, md_X3.2, by decide +kernel⟩ rfl ⟨by decide, by decide⟩ (Nat.le_of_ble_eq_true rfl) dX3_law_55 (fun s39 hq => ?_)
            obtain ⟨hF, hS2, hI⟩ := hq
            replace E := zLet_s hF E
            have hS := hS.tr hS2 rfl rfl
            refine zg_aload_n X 2 rfl dX3_law_58 ?_
            refine zg_bipush X 30 dX3_law_59 (by decide) (fun v40 _ hv40 => ?_)
            replace E := zLet_s (zcst hv40 (by decide)) E
            refine zg_cVv (As := [.int v40]) (st := []) X ha0 rfl (by decide) rfl (t_X3_take l d L kd κ 2 _ hI a0 ha0 v40 ) mk_X3_87 mc_X3_take mz_X3 mi_X3_take ml_X3_take (na := 1) ⟨md_X3.1, md_X3.2, by decide +kernel⟩ rfl ⟨by decide, by decide⟩ (Nat.le_of_ble_eq_true rfl) dX3_law_61 (fun s41 hq => ?_)
            obtain ⟨hF, hS2, hI⟩ := hq
            replace E := zLet_s hF E
            have hS := hS.tr hS2 rfl rfl
            refine zg_aload_n X 2 rfl dX3_law_64 ?_
            refine zg_iconst X 0 dX3_law_65 (by decide) (fun v42 _ hv42 => ?_)
            replace E := zLet_s (zcst hv42 (by decide)) E
            refine zg_cVv (As := [.int v42]) (st := []) X ha0 rfl (by decide) rfl (t_X3_sum_o0 l d L kd κ _ hI a0 ha0 v42 (by omega)) mk_X3_140 mc_X3_sum mz_X3 mi_X3_sum ml_X3_sum (na := 1) ⟨md_X3.1, md_X3.2, by decide +kernel⟩ rfl ⟨by decide, by decide⟩ (Nat.le_of_ble_eq_true rfl) dX3_law_66 (fun s43 hq => ?_)
            obtain ⟨hF, hS2, hI⟩ := hq
            replace E := zLet_s hF E
            have hS := hS.tr hS2 rfl rfl
            refine zg_aload_n X 2 rfl dX3_law_69 ?_
            refine zg_bipush X 11 dX3_law_70 (by decide) (fun v44 _ hv44 => ?_)
            replace E := zLet_s (zcst hv44 (by decide)) E
            refine zg_cVv (As := [.int v44]) (st := []) X ha0 rfl (by decide) rfl (t_X3_take l d L kd κ 2 _ hI a0 ha0 v44 ) mk_X3_87 mc_X3_take mz_X3 mi_X3_take ml_X3_take (na := 1) ⟨md_X3.1, md_X3.2, by decide +kernel⟩ rfl ⟨by decide, by decide⟩ (Nat.le_of_ble_eq_true rfl) dX3_law_72 (fun s45 hq => ?_)
            obtain ⟨hF, hS2, hI⟩ := hq
            replace E := zLet_s hF E
            have hS := hS.tr hS2 rfl rfl
            refine zg_aload_n X 2 rfl dX3_law_75 ?_
            refine fg_X3_18 X hI ha0 dX3_law_76 (fun v46 ev46 hv46 => ?_)
            replace E := zLet_s (zgr ev46) E
            refine fg_X3_137 X hI hv46 dX3_law_79 (fun v47 ev47 hv47 => ?_)
            replace E := zLet_s ev47 E
            refine zg_istore X [(4, .int v47), (3, .int x9), (2, .int v7), (0, .ref a0), (1, .int p1)] dX3_law_82 (by decide) rfl ?_
            refine zg_aload_n X 3 rfl dX3_law_84 ?_
            refine fg_X3_18 X hI ha0 dX3_law_85 (fun v48 ev48 hv48 => ?_)
            replace E := zLet_s (zgr ev48) E
            refine zg_bipush X 6 dX3_law_88 (by decide) (fun v49 _ hv49 => ?_)
            replace E := zLet_s (zcst hv49 (by decide)) E
            refine zg_iconst X 0 dX3_law_90 (by decide) (fun v50 _ hv50 => ?_)
            replace E := zLet_s (zcst hv50 (by decide)) E
            refine zg_cVv (As := [.int v49, .int v50]) (st := []) X hv48 rfl (by decide) rfl (t_X9_addStep l d L kd κ 2 _ hI v48 hv48 v49 v50 ) mk_X3_145 mc_X9_addStep mz_X9 mi_X9_addStep ml_X9_addStep (na := 2) ⟨md_X9.1, md_X9.2, by decide +kernel⟩ rfl ⟨by decide, by decide⟩ (Nat.le_of_ble_eq_true rfl) dX3_law_91 (fun s51 hq => ?_)
            obtain ⟨hF, hS2, hI⟩ := hq
            replace E := zLet_s hF E
            have hS := hS.tr hS2 rfl rfl
            refine zg_aload_n X 3 rfl dX3_law_94 ?_
            refine zg_iconst X 0 dX3_law_95 (by decide) (fun v52 _ hv52 => ?_)
            replace E := zLet_s (zcst hv52 (by decide)) E
            refine zg_cVv (As := [.int v52]) (st := []) X ha0 rfl (by decide) rfl (t_X3_sum_o0 l d L kd κ _ hI a0 ha0 v52 (by omega)) mk_X3_140 mc_X3_sum mz_X3 mi_X3_sum ml_X3_sum (na := 1) ⟨md_X3.1, md_X3.2, by decide +kernel⟩ rfl ⟨by decide, by decide⟩ (Nat.le_of_ble_eq_true rfl) dX3_law_96 (fun s53 hq => ?_)
            obtain ⟨hF, hS2, hI⟩ := hq
            replace E := zLet_s hF E
            have hS := hS.tr hS2 rfl rfl
            refine zg_aload_n X 3 rfl dX3_law_99 ?_
            refine zg_bipush X 12 dX3_law_100 (by decide) (fun v54 _ hv54 => ?_)
            replace E := zLet_s (zcst hv54 (by decide)) E
            refine zg_cVv (As := [.int v54]) (st := []) X ha0 rfl (by decide) rfl (t_X3_take l d L kd κ 2 _ hI a0 ha0 v54 ) mk_X3_87 mc_X3_take mz_X3 mi_X3_take ml_X3_take (na := 1) ⟨md_X3.1, md_X3.2, by decide +kernel⟩ rfl ⟨by decide, by decide⟩ (Nat.le_of_ble_eq_true rfl) dX3_law_102 (fun s55 hq => ?_)
            obtain ⟨hF, hS2, hI⟩ := hq
            replace E := zLet_s hF E
            have hS := hS.tr hS2 rfl rfl
            refine zg_aload_n X 3 rfl dX3_law_105 ?_
            refine fg_X3_18 X hI ha0 dX3_law_106 (fun v56 ev56 hv56 => ?_)
            replace E := zLet_s (zgr ev56) E
            refine zg_bipush X 7 dX3_law_109 (by decide) (fun v57 _ hv57 => ?_)
            replace E := zLet_s (zcst hv57 (by decide)) E
            refine zg_iconst X 0 dX3_law_111 (by decide) (fun v58 _ hv58 => ?_)
            replace E := zLet_s (zcst hv58 (by decide)) E
            refine zg_cVv (As := [.int v57, .int v58]) (st := []) X hv56 rfl (by decide) rfl (t_X9_addStep l d L kd κ 2 _ hI v56 hv56 v57 v58 ) mk_X3_145 mc_X9_addStep mz_X9 mi_X9_addStep ml_X9_addStep (na := 2) ⟨md_X9.1, md_X9.2, by decide +kernel⟩ rfl ⟨by decide, by decide⟩ (Nat.le_of_ble_eq_true rfl) dX3_law_112 (fun s59 hq => ?_)
            obtain ⟨hF, hS2, hI⟩ := hq
            replace E := zLet_s hF E
            have hS := hS.tr hS2 rfl rfl
            refine zg_aload_n X 3 rfl dX3_law_115 ?_
            refine fg_X3_18 X hI ha0 dX3_law_116 (fun v60 ev60 hv60 => ?_)
            replace E := zLet_s (zgr ev60) E
            refine zg_iload X 0 rfl dX3_law_119 ?_
            refine zg_aload_n X 3 rfl dX3_law_121 ?_
            refine fg_X3_18 X hI ha0 dX3_law_122 (fun v61 ev61 hv61 => ?_)
            replace E := zLet_s (zgr ev61) E
            refine fg_X3_137 X hI hv61 dX3_law_125 (fun v62 ev62 hv62 => ?_)
            replace E := zLet_s ev62 E
            refine zg_cVv (As := [.int v47, .int v62]) (st := []) X hv60 rfl (by decide) rfl (t_X9_setValue l d L kd κ 2 _ hI v60 hv60 v47 v62 ) mk_X3_149 mc_X9_setValue mz_X9 mi_X9_setValue ml_X9_setValue (na := 2) ⟨md_X9.1, md_X9.2, by decide +kernel⟩ rfl ⟨by decide, by decide⟩ (Nat.le_of_ble_eq_true rfl) dX3_law_128 (fun s63 hq => ?_)
            obtain ⟨hF, hS2, hI⟩ := hq
            replace E := zLet_s hF E
            have hS := hS.tr hS2 rfl rfl
            refine zg_iinc X 1 (fun v64 => [(3, .int v64), (4, .int v47), (2, .int v7), (0, .ref a0), (1, .int p1)]) 1 dX3_law_131 rfl (by decide) (by decide) (by omega) (by omega) (fun _ => rfl) (fun v64 ev64 hv64 => ?_)
            replace E := zLet_s (zinc ev64 (by decide)) E
            refine zg_goto X 23 dX3_law_134 (by decide) ?_
            refine zg_sub [0, 2, 3, 4] rfl ?_
            exact ihLp10 _ v64 hI hS E  (by omega) (by omega) 
          · skip
            replace E := zIf_t c35 E
            refine zg_aload_n X 2 rfl dX3_law_42 ?_
            refine zg_iconst X 2 dX3_law_43 (by decide) (fun v65 _ hv65 => ?_)
            replace E := zLet_s (zcst hv65 (by decide)) E
            refine zg_cVv (As := [.int v65]) (st := []) X ha0 rfl (by decide) rfl (t_X3_fail l d L kd κ 2 _ hI a0 ha0 v65 ) mk_X3_106 mc_X3_fail mz_X3 mi_X3_fail ml_X3_fail (na := 1) ⟨md_X3.1, md_X3.2, by decide +kernel⟩ rfl ⟨by decide, by decide⟩ (Nat.le_of_ble_eq_true rfl) dX3_law_44 (fun s66 hq => ?_)
            obtain ⟨hF, hS2, hI⟩ := hq
            replace E := zLet_s hF E
            have hS := hS.tr hS2 rfl rfl
            refine zg_aload_n X 2 rfl dX3_law_47 ?_
            refine zg_bipush X 10 dX3_law_48 (by decide) (fun v67 _ hv67 => ?_)
            replace E := zLet_s (zcst hv67 (by decide)) E
            refine zg_cVv (As := [.int v67]) (st := []) X ha0 rfl (by decide) rfl (t_X3_take l d L kd κ 2 _ hI a0 ha0 v67 ) mk_X3_87 mc_X3_take mz_X3 mi_X3_take ml_X3_take (na := 1) ⟨md_X3.1, md_X3.2, by decide +kernel⟩ rfl ⟨by decide, by decide⟩ (Nat.le_of_ble_eq_true rfl) dX3_law_50 (fun s68 hq => ?_)
            obtain ⟨hF, hS2, hI⟩ := hq
            replace E := zLet_s hF E
            have hS := hS.tr hS2 rfl rfl
            refine zg_aload_n X 2 rfl dX3_law_53 ?_
            refine zg_iconst X 0 dX3_law_54 (by decide) (fun v69 _ hv69 => ?_)
            replace E := zLet_s (zcst hv69 (by decide)) E
            refine zg_cVv (As := [.int v69]) (st := []) X ha0 rfl (by decide) rfl (t_X3_sum_o0 l d L kd κ _ hI a0 ha0 v69 (by omega)) mk_X3_140 mc_X3_sum mz_X3 mi_X3_sum ml_X3_sum (na := 1) ⟨md_X3.1, md_X3.2, by decide +kernel⟩ rfl ⟨by decide, by decide⟩ (Nat.le_of_ble_eq_true rfl) dX3_law_55 (fun s70 hq => ?_)
            obtain ⟨hF, hS2, hI⟩ := hq
            replace E := zLet_s hF E
            have hS := hS.tr hS2 rfl rfl
            refine zg_aload_n X 2 rfl dX3_law_58 ?_
            refine zg_bipush X 30 dX3_law_59 (by decide) (fun v71 _ hv71 => ?_)
            replace E := zLet_s (zcst hv71 (by decide)) E
            refine zg_cVv (As := [.int v71]) (st := []) X ha0 rfl (by decide) rfl (t_X3_take l d L kd κ 2 _ hI a0 ha0 v71 ) mk_X3_87 mc_X3_take mz_X3 mi_X3_take ml_X3_take (na := 1) ⟨md_X3.1, md_X3.2, by decide +kernel⟩ rfl ⟨by decide, by decide⟩ (Nat.le_of_ble_eq_true rfl) dX3_law_61 (fun s72 hq => ?_)
            obtain ⟨hF, hS2, hI⟩ := hq
            replace E := zLet_s hF E
            have hS := hS.tr hS2 rfl rfl
            refine zg_aload_n X 2 rfl dX3_law_64 ?_
            refine zg_iconst X 0 dX3_law_65 (by decide) (fun v73 _ hv73 => ?_)
            replace E := zLet_s (zcst hv73 (by decide)) E
            refine zg_cVv (As := [.int v73]) (st := []) X ha0 rfl (by decide) rfl (t_X3_sum_o0 l d L kd κ _ hI a0 ha0 v73 (by omega)) mk_X3_140 mc_X3_sum mz_X3 mi_X3_sum ml_X3_sum (na := 1) ⟨md_X3.1, md_X3.2, by decide +kernel⟩ rfl ⟨by decide, by decide⟩ (Nat.le_of_ble_eq_true rfl) dX3_law_66 (fun s74 hq => ?_)
            obtain ⟨hF, hS2, hI⟩ := hq
            replace E := zLet_s hF E
            have hS := hS.tr hS2 rfl rfl
            refine zg_aload_n X 2 rfl dX3_law_69 ?_
            refine zg_bipush X 11 dX3_law_70 (by decide) (fun v75 _ hv75 => ?_)
            replace E := zLet_s (zcst hv75 (by decide)) E
            refine zg_cVv (As := [.int v75]) (st := []) X ha0 rfl (by decide) rfl (t_X3_take l d L kd κ 2 _ hI a0 ha0 v75 ) mk_X3_87 mc_X3_take mz_X3 mi_X3_take ml_X3_take (na := 1) ⟨md_X3.1, md_X3.2, by decide +kernel⟩ rfl ⟨by decide, by decide⟩ (Nat.le_of_ble_eq_true rfl) dX3_law_72 (fun s76 hq => ?_)
            obtain ⟨hF, hS2, hI⟩ := hq
            replace E := zLet_s hF E
            have hS := hS.tr hS2 rfl rfl
            refine zg_aload_n X 2 rfl dX3_law_75 ?_
            refine fg_X3_18 X hI ha0 dX3_law_76 (fun v77 ev77 hv77 => ?_)
            replace E := zLet_s (zgr ev77) E
            refine fg_X3_137 X hI hv77 dX3_law_79 (fun v78 ev78 hv78 => ?_)
            replace E := zLet_s ev78 E
            refine zg_istore X [(4, .int v78), (3, .int x9), (2, .int v7), (0, .ref a0), (1, .int p1)] dX3_law_82 (by decide) rfl ?_
            refine zg_aload_n X 3 rfl dX3_law_84 ?_
            refine fg_X3_18 X hI ha0 dX3_law_85 (fun v79 ev79 hv79 => ?_)
            replace E := zLet_s (zgr ev79) E
            refine zg_bipush X 6 dX3_law_88 (by decide) (fun v80 _ hv80 => ?_)
            replace E := zLet_s (zcst hv80 (by decide)) E
            refine zg_iconst X 0 dX3_law_90 (by decide) (fun v81 _ hv81 => ?_)
            replace E := zLet_s (zcst hv81 (by decide)) E
            refine zg_cVv (As := [.int v80, .int v81]) (st := []) X hv79 rfl (by decide) rfl (t_X9_addStep l d L kd κ 2 _ hI v79 hv79 v80 v81 ) mk_X3_145 mc_X9_addStep mz_X9 mi_X9_addStep ml_X9_addStep (na := 2) ⟨md_X9.1, md_X9.2, by decide +kernel⟩ rfl ⟨by decide, by decide⟩ (Nat.le_of_ble_eq_true rfl) dX3_law_91 (fun s82 hq => ?_)
            obtain ⟨hF, hS2, hI⟩ := hq
            replace E := zLet_s hF E
            have hS := hS.tr hS2 rfl rfl
            refine zg_aload_n X 3 rfl dX3_law_94 ?_
            refine zg_iconst X 0 dX3_law_95 (by decide) (fun v83 _ hv83 => ?_)
            replace E := zLet_s (zcst hv83 (by decide)) E
            refine zg_cVv (As := [.int v83]) (st := []) X ha0 rfl (by decide) rfl (t_X3_sum_o0 l d L kd κ _ hI a0 ha0 v83 (by omega)) mk_X3_140 mc_X3_sum mz_X3 mi_X3_sum ml_X3_sum (na := 1) ⟨md_X3.1, md_X3.2, by decide +kernel⟩ rfl ⟨by decide, by decide⟩ (Nat.le_of_ble_eq_true rfl) dX3_law_96 (fun s84 hq => ?_)
            obtain ⟨hF, hS2, hI⟩ := hq
            replace E := zLet_s hF E
            have hS := hS.tr hS2 rfl rfl
            refine zg_aload_n X 3 rfl dX3_law_99 ?_
            refine zg_bipush X 12 dX3_law_100 (by decide) (fun v85 _ hv85 => ?_)
            replace E := zLet_s (zcst hv85 (by decide)) E
            refine zg_cVv (As := [.int v85]) (st := []) X ha0 rfl (by decide) rfl (t_X3_take l d L kd κ 2 _ hI a0 ha0 v85 ) mk_X3_87 mc_X3_take mz_X3 mi_X3_take ml_X3_take (na := 1) ⟨md_X3.1, md_X3.2, by decide +kernel⟩ rfl ⟨by decide, by decide⟩ (Nat.le_of_ble_eq_true rfl) dX3_law_102 (fun s86 hq => ?_)
            obtain ⟨hF, hS2, hI⟩ := hq
            replace E := zLet_s hF E
            have hS := hS.tr hS2 rfl rfl
            refine zg_aload_n X 3 rfl dX3_law_105 ?_
            refine fg_X3_18 X hI ha0 dX3_law_106 (fun v87 ev87 hv87 => ?_)
            replace E := zLet_s (zgr ev87) E
            refine zg_bipush X 7 dX3_law_109 (by decide) (fun v88 _ hv88 => ?_)
            replace E := zLet_s (zcst hv88 (by decide)) E
            refine zg_iconst X 0 dX3_law_111 (by decide) (fun v89 _ hv89 => ?_)
            replace E := zLet_s (zcst hv89 (by decide)) E
            refine zg_cVv (As := [.int v88, .int v89]) (st := []) X hv87 rfl (by decide) rfl (t_X9_addStep l d L kd κ 2 _ hI v87 hv87 v88 v89 ) mk_X3_145 mc_X9_addStep mz_X9 mi_X9_addStep ml_X9_addStep (na := 2) ⟨md_X9.1, md_X9.2, by decide +kernel⟩ rfl ⟨by decide, by decide⟩ (Nat.le_of_ble_eq_true rfl) dX3_law_112 (fun s90 hq => ?_)
            obtain ⟨hF, hS2, hI⟩ := hq
            replace E := zLet_s hF E
            have hS := hS.tr hS2 rfl rfl
            refine zg_aload_n X 3 rfl dX3_law_115 ?_
            refine fg_X3_18 X hI ha0 dX3_law_116 (fun v91 ev91 hv91 => ?_)
            replace E := zLet_s (zgr ev91) E
            refine zg_iload X 0 rfl dX3_law_119 ?_
            refine zg_aload_n X 3 rfl dX3_law_121 ?_
            refine fg_X3_18 X hI ha0 dX3_law_122 (fun v92 ev92 hv92 => ?_)
            replace E := zLet_s (zgr ev92) E
            refine fg_X3_137 X hI hv92 dX3_law_125 (fun v93 ev93 hv93 => ?_)
            replace E := zLet_s ev93 E
            refine zg_cVv (As := [.int v78, .int v93]) (st := []) X hv91 rfl (by decide) rfl (t_X9_setValue l d L kd κ 2 _ hI v91 hv91 v78 v93 ) mk_X3_149 mc_X9_setValue mz_X9 mi_X9_setValue ml_X9_setValue (na := 2) ⟨md_X9.1, md_X9.2, by decide +kernel⟩ rfl ⟨by decide, by decide⟩ (Nat.le_of_ble_eq_true rfl) dX3_law_128 (fun s94 hq => ?_)
            obtain ⟨hF, hS2, hI⟩ := hq
            replace E := zLet_s hF E
            have hS := hS.tr hS2 rfl rfl
            refine zg_iinc X 1 (fun v95 => [(3, .int v95), (4, .int v78), (2, .int v7), (0, .ref a0), (1, .int p1)]) 1 dX3_law_131 rfl (by decide) (by decide) (by omega) (by omega) (fun _ => rfl) (fun v95 ev95 hv95 => ?_)
            replace E := zLet_s (zinc ev95 (by decide)) E
            refine zg_goto X 23 dX3_law_134 (by decide) ?_
            refine zg_sub [0, 2, 3, 4] rfl ?_
            exact ihLp10 _ v95 hI hS E  (by omega) (by omega) 
  refine zg_sub [0, 1, 2, 3] rfl ?_
  exact Lp10 10000 _ v8 hI hS E  (by omega) (by omega) 
set_option maxHeartbeats 4000000 in
set_option maxRecDepth 100000 in
theorem t_X3_telling (l : Launch) (d : zD2) (L : List Nat) (kd : Nat → Nat) (κ : Int) (σ : zS) (hI : zI κ 2 L kd σ) (a0 : Nat) (ha0 : zT L kd a0 3) : zMv l yX3_telling (Cond.code yX3_telling cX3_telling 1 none :: zWL) 24 [.ref a0] d L kd σ (fun σ2 => σ2 = F_X3_telling a0 σ ∧ zSm [3, 9, 44, 45, 46, 47, 48, 49, 50, 51] [] L kd σ σ2 ∧ (zI κ 2 L kd σ2)) := by
  refine zMv.of (own := RX3) (by decide +kernel) rfl rfl (Nat.le_of_ble_eq_true rfl) ?_
  intro p e s m args below meth c A Q X ret
  refine zg_lv (lv2 := [(0, .ref a0)]) rfl ?_
  obtain ⟨R, hR⟩ : ∃ R, R = F_X3_telling a0 σ := ⟨_, rfl⟩
  have E := hR
  unfold F_X3_telling at E
  have hS : zSm [3, 9, 44, 45, 46, 47, 48, 49, 50, 51] [] L kd σ σ := zSm.rf
  refine zg_aload_n X 0 rfl dX3_telling_0 ?_
  refine fg_X3_26 X hI ha0 dX3_telling_1 (fun v1 ev1 _ => ?_)
  replace E := zLet_s ev1 E
  refine zg_if_ne X 14 dX3_telling_4 (by decide) (fun c2 => ?_) (fun c2 => ?_)
  · skip
    replace E := zIf_f c2 E
    refine zg_aload_n X 0 rfl dX3_telling_14 ?_
    refine fg_X3_26 X hI ha0 dX3_telling_15 (fun v3 ev3 _ => ?_)
    replace E := zLet_s ev3 E
    have mv3 : v3.toInt = v1.toInt := by rw [ev3, ← ev1]
    refine zg_iconst X 1 dX3_telling_18 (by decide) (fun v4 _ hv4 => ?_)
    replace E := zLet_s (zcst hv4 (by decide)) E
    refine zg_icmp_ne X 29 dX3_telling_19 (by decide) (fun c5 => ?_) (fun c5 => ?_)
    · skip
      replace E := zIf_f c5 E
      refine zg_aload_n X 0 rfl dX3_telling_29 ?_
      refine fg_X3_26 X hI ha0 dX3_telling_30 (fun v6 ev6 _ => ?_)
      replace E := zLet_s ev6 E
      have mv6 : v6.toInt = v3.toInt := by rw [ev6, ← ev3]
      refine zg_iconst X 2 dX3_telling_33 (by decide) (fun v7 _ hv7 => ?_)
      replace E := zLet_s (zcst hv7 (by decide)) E
      refine zg_bipush X 6 dX3_telling_34 (by decide) (fun v8 _ hv8 => ?_)
      replace E := zLet_s (zcst hv8 (by decide)) E
      refine zg_cSNi (As := [.int v6, .int v7, .int v8]) (st := []) X (t_X10_isWithin l d L kd _ v6 v7 v8 ) mk_X3_80 mc_X10_isWithin mz_X10 ms_X10_isWithin (na := 3) ⟨md_X10.1, md_X10.2, by decide +kernel⟩ rfl ⟨by decide, by decide⟩ (Nat.le_of_ble_eq_true rfl) dX3_telling_36 (fun v9 σ2 hq => ?_)
      obtain ⟨⟨hF, hv9⟩, rfl⟩ := hq
      replace E := zLet_s hF E
      refine zg_if_eq X 55 dX3_telling_39 (by decide) (fun c10 => ?_) (fun c10 => ?_)
      · skip
        replace E := zIf_t c10 E
        refine zg_aload_n X 0 rfl dX3_telling_55 ?_
        refine fg_X3_26 X hI ha0 dX3_telling_56 (fun v11 ev11 _ => ?_)
        replace E := zLet_s ev11 E
        have mv11 : v11.toInt = v6.toInt := by rw [ev11, ← ev6]
        refine zg_bipush X 7 dX3_telling_59 (by decide) (fun v12 _ hv12 => ?_)
        replace E := zLet_s (zcst hv12 (by decide)) E
        refine zg_icmp_ne X 103 dX3_telling_61 (by decide) (fun c13 => ?_) (fun c13 => ?_)
        · skip
          replace E := zIf_f c13 E
          refine zg_aload_n X 0 rfl dX3_telling_103 ?_
          refine fg_X3_26 X hI ha0 dX3_telling_104 (fun v14 ev14 _ => ?_)
          replace E := zLet_s ev14 E
          have mv14 : v14.toInt = v11.toInt := by rw [ev14, ← ev11]
          refine zg_bipush X 8 dX3_telling_107 (by decide) (fun v15 _ hv15 => ?_)
          replace E := zLet_s (zcst hv15 (by decide)) E
          refine zg_icmp_ne X 137 dX3_telling_109 (by decide) (fun c16 => ?_) (fun c16 => ?_)
          · skip
            replace E := zIf_f c16 E
            refine zg_aload_n X 0 rfl dX3_telling_137 ?_
            refine fg_X3_26 X hI ha0 dX3_telling_138 (fun v17 ev17 _ => ?_)
            replace E := zLet_s ev17 E
            have mv17 : v17.toInt = v14.toInt := by rw [ev17, ← ev14]
            refine zg_bipush X 9 dX3_telling_141 (by decide) (fun v18 _ hv18 => ?_)
            replace E := zLet_s (zcst hv18 (by decide)) E
            refine zg_icmp_ne X 172 dX3_telling_143 (by decide) (fun c19 => ?_) (fun c19 => ?_)
            · skip
              replace E := zIf_f c19 E
              refine zg_aload_n X 0 rfl dX3_telling_172 ?_
              refine zg_iconst X 1 dX3_telling_173 (by decide) (fun v20 _ hv20 => ?_)
              replace E := zLet_s (zcst hv20 (by decide)) E
              refine zg_cVv (As := [.int v20]) (st := []) X ha0 rfl (by decide) rfl (t_X3_fail l d L kd κ 2 _ hI a0 ha0 v20 ) mk_X3_106 mc_X3_fail mz_X3 mi_X3_fail ml_X3_fail (na := 1) ⟨md_X3.1, md_X3.2, by decide +kernel⟩ rfl ⟨by decide, by decide⟩ (Nat.le_of_ble_eq_true rfl) dX3_telling_174 (fun s21 hq => ?_)
              obtain ⟨hF, hS2, hI⟩ := hq
              replace E := zLet_s hF E
              have hS := hS.tr hS2 rfl rfl
              refine zg_aload_n X 0 rfl dX3_telling_177 ?_
              refine zg_bipush X 24 dX3_telling_178 (by decide) (fun v22 _ hv22 => ?_)
              replace E := zLet_s (zcst hv22 (by decide)) E
              refine zg_cVv (As := [.int v22]) (st := []) X ha0 rfl (by decide) rfl (t_X3_take l d L kd κ 2 _ hI a0 ha0 v22 ) mk_X3_87 mc_X3_take mz_X3 mi_X3_take ml_X3_take (na := 1) ⟨md_X3.1, md_X3.2, by decide +kernel⟩ rfl ⟨by decide, by decide⟩ (Nat.le_of_ble_eq_true rfl) dX3_telling_180 (fun s23 hq => ?_)
              obtain ⟨hF, hS2, hI⟩ := hq
              replace E := zLet_s hF E
              have hS := hS.tr hS2 rfl rfl
              exact ret _ _ _ dX3_telling_183 ⟨E.symm.trans hR, hS, hI⟩
            · skip
              replace E := zIf_t c19 E
              refine zg_aload_n X 0 rfl dX3_telling_146 ?_
              refine zg_aload_n X 0 rfl dX3_telling_147 ?_
              refine fg_X3_26 X hI ha0 dX3_telling_148 (fun v24 ev24 _ => ?_)
              replace E := zLet_s ev24 E
              have mv24 : v24.toInt = v17.toInt := by rw [ev24, ← ev17]
              refine zg_cVv (As := [.int v24]) (st := []) X ha0 rfl (by decide) rfl (t_X3_take l d L kd κ 2 _ hI a0 ha0 v24 ) mk_X3_87 mc_X3_take mz_X3 mi_X3_take ml_X3_take (na := 1) ⟨md_X3.1, md_X3.2, by decide +kernel⟩ rfl ⟨by decide, by decide⟩ (Nat.le_of_ble_eq_true rfl) dX3_telling_151 (fun s25 hq => ?_)
              obtain ⟨hF, hS2, hI⟩ := hq
              replace E := zLet_s hF E
              have hS := hS.tr hS2 rfl rfl
              refine zg_aload_n X 0 rfl dX3_telling_154 ?_
              refine fg_X3_18 X hI ha0 dX3_telling_155 (fun v26 ev26 hv26 => ?_)
              replace E := zLet_s (zgr ev26) E
              refine zg_aload_n X 0 rfl dX3_telling_158 ?_
              refine zg_iconst X 0 dX3_telling_159 (by decide) (fun v27 _ hv27 => ?_)
              replace E := zLet_s (zcst hv27 (by decide)) E
              refine zg_sipush X 9999 dX3_telling_160 (by decide) (fun v28 _ hv28 => ?_)
              replace E := zLet_s (zcst hv28 (by decide)) E
              refine zg_cVi (As := [.int v27, .int v28]) (st := [.ref v26]) X ha0 rfl (by decide) rfl (t_X3_number l d L kd κ 2 _ hI a0 ha0 v27 v28 ) mk_X3_90 mc_X3_number mz_X3 mi_X3_number ml_X3_number (na := 2) ⟨md_X3.1, md_X3.2, by decide +kernel⟩ rfl ⟨by decide, by decide⟩ (Nat.le_of_ble_eq_true rfl) dX3_telling_163 (fun v29 s30 hq => ?_)
              obtain ⟨hF, hS2, hI⟩ := hq
              replace E := zLet2_s hF E
              have hS := hS.tr hS2 rfl rfl
              refine fp_X3_103 X hI hv26 (zb_rng _) dX3_telling_166 (fun s31 es31 hI => ?_)
              replace E := zLet_s es31 E
              have hS := hS.i hv26 es31 rfl
              refine zg_goto X 177 dX3_telling_169 (by decide) ?_
              refine zg_aload_n X 0 rfl dX3_telling_177 ?_
              refine zg_bipush X 24 dX3_telling_178 (by decide) (fun v32 _ hv32 => ?_)
              replace E := zLet_s (zcst hv32 (by decide)) E
              refine zg_cVv (As := [.int v32]) (st := []) X ha0 rfl (by decide) rfl (t_X3_take l d L kd κ 2 _ hI a0 ha0 v32 ) mk_X3_87 mc_X3_take mz_X3 mi_X3_take ml_X3_take (na := 1) ⟨md_X3.1, md_X3.2, by decide +kernel⟩ rfl ⟨by decide, by decide⟩ (Nat.le_of_ble_eq_true rfl) dX3_telling_180 (fun s33 hq => ?_)
              obtain ⟨hF, hS2, hI⟩ := hq
              replace E := zLet_s hF E
              have hS := hS.tr hS2 rfl rfl
              exact ret _ _ _ dX3_telling_183 ⟨E.symm.trans hR, hS, hI⟩
          · skip
            replace E := zIf_t c16 E
            refine zg_aload_n X 0 rfl dX3_telling_112 ?_
            refine zg_aload_n X 0 rfl dX3_telling_113 ?_
            refine fg_X3_26 X hI ha0 dX3_telling_114 (fun v34 ev34 _ => ?_)
            replace E := zLet_s ev34 E
            have mv34 : v34.toInt = v14.toInt := by rw [ev34, ← ev14]
            refine zg_cVv (As := [.int v34]) (st := []) X ha0 rfl (by decide) rfl (t_X3_take l d L kd κ 2 _ hI a0 ha0 v34 ) mk_X3_87 mc_X3_take mz_X3 mi_X3_take ml_X3_take (na := 1) ⟨md_X3.1, md_X3.2, by decide +kernel⟩ rfl ⟨by decide, by decide⟩ (Nat.le_of_ble_eq_true rfl) dX3_telling_117 (fun s35 hq => ?_)
            obtain ⟨hF, hS2, hI⟩ := hq
            replace E := zLet_s hF E
            have hS := hS.tr hS2 rfl rfl
            refine zg_aload_n X 0 rfl dX3_telling_120 ?_
            refine fg_X3_18 X hI ha0 dX3_telling_121 (fun v36 ev36 hv36 => ?_)
            replace E := zLet_s (zgr ev36) E
            refine zg_aload_n X 0 rfl dX3_telling_124 ?_
            refine zg_iconst X 0 dX3_telling_125 (by decide) (fun v37 _ hv37 => ?_)
            replace E := zLet_s (zcst hv37 (by decide)) E
            refine zg_bipush X 99 dX3_telling_126 (by decide) (fun v38 _ hv38 => ?_)
            replace E := zLet_s (zcst hv38 (by decide)) E
            refine zg_cVi (As := [.int v37, .int v38]) (st := [.ref v36]) X ha0 rfl (by decide) rfl (t_X3_number l d L kd κ 2 _ hI a0 ha0 v37 v38 ) mk_X3_90 mc_X3_number mz_X3 mi_X3_number ml_X3_number (na := 2) ⟨md_X3.1, md_X3.2, by decide +kernel⟩ rfl ⟨by decide, by decide⟩ (Nat.le_of_ble_eq_true rfl) dX3_telling_128 (fun v39 s40 hq => ?_)
            obtain ⟨hF, hS2, hI⟩ := hq
            replace E := zLet2_s hF E
            have hS := hS.tr hS2 rfl rfl
            refine fp_X3_100 X hI hv36 (zb_rng _) dX3_telling_131 (fun s41 es41 hI => ?_)
            replace E := zLet_s es41 E
            have hS := hS.i hv36 es41 rfl
            refine zg_goto X 177 dX3_telling_134 (by decide) ?_
            refine zg_aload_n X 0 rfl dX3_telling_177 ?_
            refine zg_bipush X 24 dX3_telling_178 (by decide) (fun v42 _ hv42 => ?_)
            replace E := zLet_s (zcst hv42 (by decide)) E
            refine zg_cVv (As := [.int v42]) (st := []) X ha0 rfl (by decide) rfl (t_X3_take l d L kd κ 2 _ hI a0 ha0 v42 ) mk_X3_87 mc_X3_take mz_X3 mi_X3_take ml_X3_take (na := 1) ⟨md_X3.1, md_X3.2, by decide +kernel⟩ rfl ⟨by decide, by decide⟩ (Nat.le_of_ble_eq_true rfl) dX3_telling_180 (fun s43 hq => ?_)
            obtain ⟨hF, hS2, hI⟩ := hq
            replace E := zLet_s hF E
            have hS := hS.tr hS2 rfl rfl
            exact ret _ _ _ dX3_telling_183 ⟨E.symm.trans hR, hS, hI⟩
        · skip
          replace E := zIf_t c13 E
          refine zg_aload_n X 0 rfl dX3_telling_64 ?_
          refine zg_aload_n X 0 rfl dX3_telling_65 ?_
          refine fg_X3_26 X hI ha0 dX3_telling_66 (fun v44 ev44 _ => ?_)
          replace E := zLet_s ev44 E
          have mv44 : v44.toInt = v11.toInt := by rw [ev44, ← ev11]
          refine zg_cVv (As := [.int v44]) (st := []) X ha0 rfl (by decide) rfl (t_X3_take l d L kd κ 2 _ hI a0 ha0 v44 ) mk_X3_87 mc_X3_take mz_X3 mi_X3_take ml_X3_take (na := 1) ⟨md_X3.1, md_X3.2, by decide +kernel⟩ rfl ⟨by decide, by decide⟩ (Nat.le_of_ble_eq_true rfl) dX3_telling_69 (fun s45 hq => ?_)
          obtain ⟨hF, hS2, hI⟩ := hq
          replace E := zLet_s hF E
          have hS := hS.tr hS2 rfl rfl
          refine zg_aload_n X 0 rfl dX3_telling_72 ?_
          refine fg_X3_18 X hI ha0 dX3_telling_73 (fun v46 ev46 hv46 => ?_)
          replace E := zLet_s (zgr ev46) E
          refine zg_aload_n X 0 rfl dX3_telling_76 ?_
          refine zg_iconst X 0 dX3_telling_77 (by decide) (fun v47 _ hv47 => ?_)
          replace E := zLet_s (zcst hv47 (by decide)) E
          refine zg_bipush X 100 dX3_telling_78 (by decide) (fun v48 _ hv48 => ?_)
          replace E := zLet_s (zcst hv48 (by decide)) E
          refine zg_cVi (As := [.int v47, .int v48]) (st := [.ref v46]) X ha0 rfl (by decide) rfl (t_X3_number l d L kd κ 2 _ hI a0 ha0 v47 v48 ) mk_X3_90 mc_X3_number mz_X3 mi_X3_number ml_X3_number (na := 2) ⟨md_X3.1, md_X3.2, by decide +kernel⟩ rfl ⟨by decide, by decide⟩ (Nat.le_of_ble_eq_true rfl) dX3_telling_80 (fun v49 s50 hq => ?_)
          obtain ⟨hF, hS2, hI⟩ := hq
          replace E := zLet2_s hF E
          have hS := hS.tr hS2 rfl rfl
          refine fp_X3_94 X hI hv46 (zb_rng _) dX3_telling_83 (fun s51 es51 hI => ?_)
          replace E := zLet_s es51 E
          have hS := hS.i hv46 es51 rfl
          refine zg_aload_n X 0 rfl dX3_telling_86 ?_
          refine fg_X3_18 X hI ha0 dX3_telling_87 (fun v52 ev52 hv52 => ?_)
          replace E := zLet_s (zgr ev52) E
          refine zg_aload_n X 0 rfl dX3_telling_90 ?_
          refine zg_iconst X 0 dX3_telling_91 (by decide) (fun v53 _ hv53 => ?_)
          replace E := zLet_s (zcst hv53 (by decide)) E
          refine zg_bipush X 99 dX3_telling_92 (by decide) (fun v54 _ hv54 => ?_)
          replace E := zLet_s (zcst hv54 (by decide)) E
          refine zg_cVi (As := [.int v53, .int v54]) (st := [.ref v52]) X ha0 rfl (by decide) rfl (t_X3_number l d L kd κ 2 _ hI a0 ha0 v53 v54 ) mk_X3_90 mc_X3_number mz_X3 mi_X3_number ml_X3_number (na := 2) ⟨md_X3.1, md_X3.2, by decide +kernel⟩ rfl ⟨by decide, by decide⟩ (Nat.le_of_ble_eq_true rfl) dX3_telling_94 (fun v55 s56 hq => ?_)
          obtain ⟨hF, hS2, hI⟩ := hq
          replace E := zLet2_s hF E
          have hS := hS.tr hS2 rfl rfl
          refine fp_X3_97 X hI hv52 (zb_rng _) dX3_telling_97 (fun s57 es57 hI => ?_)
          replace E := zLet_s es57 E
          have hS := hS.i hv52 es57 rfl
          refine zg_goto X 177 dX3_telling_100 (by decide) ?_
          refine zg_aload_n X 0 rfl dX3_telling_177 ?_
          refine zg_bipush X 24 dX3_telling_178 (by decide) (fun v58 _ hv58 => ?_)
          replace E := zLet_s (zcst hv58 (by decide)) E
          refine zg_cVv (As := [.int v58]) (st := []) X ha0 rfl (by decide) rfl (t_X3_take l d L kd κ 2 _ hI a0 ha0 v58 ) mk_X3_87 mc_X3_take mz_X3 mi_X3_take ml_X3_take (na := 1) ⟨md_X3.1, md_X3.2, by decide +kernel⟩ rfl ⟨by decide, by decide⟩ (Nat.le_of_ble_eq_true rfl) dX3_telling_180 (fun s59 hq => ?_)
          obtain ⟨hF, hS2, hI⟩ := hq
          replace E := zLet_s hF E
          have hS := hS.tr hS2 rfl rfl
          exact ret _ _ _ dX3_telling_183 ⟨E.symm.trans hR, hS, hI⟩
      · skip
        replace E := zIf_f c10 E
        refine zg_aload_n X 0 rfl dX3_telling_42 ?_
        refine zg_aload_n X 0 rfl dX3_telling_43 ?_
        refine fg_X3_26 X hI ha0 dX3_telling_44 (fun v60 ev60 _ => ?_)
        replace E := zLet_s ev60 E
        have mv60 : v60.toInt = v6.toInt := by rw [ev60, ← ev6]
        refine zg_iconst X 2 dX3_telling_47 (by decide) (fun v61 _ hv61 => ?_)
        replace E := zLet_s (zcst hv61 (by decide)) E
        refine zg_isub X dX3_telling_48 (by omega) (by omega) (fun v62 ev62 hv62 => ?_)
        replace E := zLet_s ev62 E
        refine zg_cVv (As := [.int v62]) (st := []) X ha0 rfl (by decide) rfl (t_X3_law l d L kd κ _ hI a0 ha0 v62 (by omega)) mk_X3_84 mc_X3_law mz_X3 mi_X3_law ml_X3_law (na := 1) ⟨md_X3.1, md_X3.2, by decide +kernel⟩ rfl ⟨by decide, by decide⟩ (Nat.le_of_ble_eq_true rfl) dX3_telling_49 (fun s63 hq => ?_)
        obtain ⟨hF, hS2, hI⟩ := hq
        replace E := zLet_s hF E
        have hS := hS.tr hS2 rfl rfl
        refine zg_goto X 177 dX3_telling_52 (by decide) ?_
        refine zg_aload_n X 0 rfl dX3_telling_177 ?_
        refine zg_bipush X 24 dX3_telling_178 (by decide) (fun v64 _ hv64 => ?_)
        replace E := zLet_s (zcst hv64 (by decide)) E
        refine zg_cVv (As := [.int v64]) (st := []) X ha0 rfl (by decide) rfl (t_X3_take l d L kd κ 2 _ hI a0 ha0 v64 ) mk_X3_87 mc_X3_take mz_X3 mi_X3_take ml_X3_take (na := 1) ⟨md_X3.1, md_X3.2, by decide +kernel⟩ rfl ⟨by decide, by decide⟩ (Nat.le_of_ble_eq_true rfl) dX3_telling_180 (fun s65 hq => ?_)
        obtain ⟨hF, hS2, hI⟩ := hq
        replace E := zLet_s hF E
        have hS := hS.tr hS2 rfl rfl
        exact ret _ _ _ dX3_telling_183 ⟨E.symm.trans hR, hS, hI⟩
    · skip
      replace E := zIf_t c5 E
      refine zg_aload_n X 0 rfl dX3_telling_22 ?_
      refine zg_cVv (As := []) (st := []) X ha0 rfl (by decide) rfl (t_X3_newPlace l d L kd κ _ hI a0 ha0 ) mk_X3_77 mc_X3_newPlace mz_X3 mi_X3_newPlace ml_X3_newPlace (na := 0) ⟨md_X3.1, md_X3.2, by decide +kernel⟩ rfl ⟨by decide, by decide⟩ (Nat.le_of_ble_eq_true rfl) dX3_telling_23 (fun s66 hq => ?_)
      obtain ⟨hF, hS2, hI⟩ := hq
      replace E := zLet_s hF E
      have hS := hS.tr hS2 rfl rfl
      refine zg_goto X 177 dX3_telling_26 (by decide) ?_
      refine zg_aload_n X 0 rfl dX3_telling_177 ?_
      refine zg_bipush X 24 dX3_telling_178 (by decide) (fun v67 _ hv67 => ?_)
      replace E := zLet_s (zcst hv67 (by decide)) E
      refine zg_cVv (As := [.int v67]) (st := []) X ha0 rfl (by decide) rfl (t_X3_take l d L kd κ 2 _ hI a0 ha0 v67 ) mk_X3_87 mc_X3_take mz_X3 mi_X3_take ml_X3_take (na := 1) ⟨md_X3.1, md_X3.2, by decide +kernel⟩ rfl ⟨by decide, by decide⟩ (Nat.le_of_ble_eq_true rfl) dX3_telling_180 (fun s68 hq => ?_)
      obtain ⟨hF, hS2, hI⟩ := hq
      replace E := zLet_s hF E
      have hS := hS.tr hS2 rfl rfl
      exact ret _ _ _ dX3_telling_183 ⟨E.symm.trans hR, hS, hI⟩
  · skip
    replace E := zIf_t c2 E
    refine zg_aload_n X 0 rfl dX3_telling_7 ?_
    refine zg_cVv (As := []) (st := []) X ha0 rfl (by decide) rfl (t_X3_mouth l d L kd κ _ hI a0 ha0 ) mk_X3_74 mc_X3_mouth mz_X3 mi_X3_mouth ml_X3_mouth (na := 0) ⟨md_X3.1, md_X3.2, by decide +kernel⟩ rfl ⟨by decide, by decide⟩ (Nat.le_of_ble_eq_true rfl) dX3_telling_8 (fun s69 hq => ?_)
    obtain ⟨hF, hS2, hI⟩ := hq
    replace E := zLet_s hF E
    have hS := hS.tr hS2 rfl rfl
    refine zg_goto X 177 dX3_telling_11 (by decide) ?_
    refine zg_aload_n X 0 rfl dX3_telling_177 ?_
    refine zg_bipush X 24 dX3_telling_178 (by decide) (fun v70 _ hv70 => ?_)
    replace E := zLet_s (zcst hv70 (by decide)) E
    refine zg_cVv (As := [.int v70]) (st := []) X ha0 rfl (by decide) rfl (t_X3_take l d L kd κ 2 _ hI a0 ha0 v70 ) mk_X3_87 mc_X3_take mz_X3 mi_X3_take ml_X3_take (na := 1) ⟨md_X3.1, md_X3.2, by decide +kernel⟩ rfl ⟨by decide, by decide⟩ (Nat.le_of_ble_eq_true rfl) dX3_telling_180 (fun s71 hq => ?_)
    obtain ⟨hF, hS2, hI⟩ := hq
    replace E := zLet_s hF E
    have hS := hS.tr hS2 rfl rfl
    exact ret _ _ _ dX3_telling_183 ⟨E.symm.trans hR, hS, hI⟩
set_option maxHeartbeats 4000000 in
set_option maxRecDepth 100000 in
theorem t_X3_parse (l : Launch) (d : zD2) (L : List Nat) (kd : Nat → Nat) (κ : Int) (b : Nat) (σ : zS) (hI : zI κ b L kd σ) (a0 : Nat) (ha0 : zT L kd a0 3) (p1 : Nat) (hp1 : zT L kd p1 39) (p2 : Int32) (p3 : Nat) (hp3 : zT L kd p3 9) (hq0 : p2.toInt ≤ 2000) : zMi l yX3_parse (Cond.code yX3_parse cX3_parse 5 (some .int) :: zWL) 25 [.ref a0, .ref p1, .int p2, .ref p3] d L kd σ (fun v σ2 => (v, σ2) = F_X3_parse a0 p1 p2 p3 σ ∧ zSm [3, 8, 9, 41, 42, 43, 44, 45, 46, 47, 48, 49, 50, 51] [3] L kd σ σ2 ∧ (zI κ 2 L kd σ2)) := by
  refine zMi.of (own := RX3) (by decide +kernel) rfl rfl (Nat.le_of_ble_eq_true rfl) ?_
  intro p e s m args below meth c A Q X ret
  refine zg_lv (lv2 := [(0, .ref a0), (1, .ref p1), (2, .int p2), (3, .ref p3)]) rfl ?_
  obtain ⟨R, hR⟩ : ∃ R, R = F_X3_parse a0 p1 p2 p3 σ := ⟨_, rfl⟩
  have E := hR
  unfold F_X3_parse at E
  have hS : zSm [3, 8, 9, 41, 42, 43, 44, 45, 46, 47, 48, 49, 50, 51] [3] L kd σ σ := zSm.rf
  refine zg_aload_n X 0 rfl dX3_parse_0 ?_
  refine fg_X3_12 X hI ha0 dX3_parse_1 (fun v1 ev1 hv1 => ?_)
  replace E := zLet_s (zgr ev1) E
  refine zg_aload_n X 1 rfl dX3_parse_4 ?_
  refine zg_iload_n X 2 rfl dX3_parse_5 ?_
  refine zg_cVv (As := [.ref p1, .int p2]) (st := []) X hv1 rfl (by decide) rfl (t_X8_scan l d L kd κ b _ hI v1 hv1 p1 hp1 p2 (by omega)) mk_X3_55 mc_X8_scan mz_X8 mi_X8_scan ml_X8_scan (na := 2) ⟨md_X8.1, md_X8.2, by decide +kernel⟩ rfl ⟨by decide, by decide⟩ (Nat.le_of_ble_eq_true rfl) dX3_parse_6 (fun s2 hq => ?_)
  obtain ⟨hF, hS2, hI⟩ := hq
  replace E := zLet_s hF E
  have hS := hS.tr hS2 rfl rfl
  refine zg_aload_n X 0 rfl dX3_parse_9 ?_
  refine zg_aload_n X 3 rfl dX3_parse_10 ?_
  have hI0 := zi_weak hI
  refine fp_X3_18 X hI0 ha0 hp3 dX3_parse_11 (fun s3 es3 hI => ?_)
  replace E := zLet_s es3 E
  have hS := hS.r ha0 es3 rfl
  have hI := zi_parser hI ha0 hp3 (by rw [es3]; exact zu_s _ _ _ _)
  refine zg_aload_n X 0 rfl dX3_parse_14 ?_
  refine fg_X3_18 X hI ha0 dX3_parse_15 (fun v4 ev4 hv4 => ?_)
  replace E := zLet_s (zgr ev4) E
  refine zg_cVv (As := []) (st := []) X hv4 rfl (by decide) rfl (t_X9_clear l d L kd κ 2 _ hI v4 hv4 ) mk_X3_59 mc_X9_clear mz_X9 mi_X9_clear ml_X9_clear (na := 0) ⟨md_X9.1, md_X9.2, by decide +kernel⟩ rfl ⟨by decide, by decide⟩ (Nat.le_of_ble_eq_true rfl) dX3_parse_18 (fun s5 hq => ?_)
  obtain ⟨hF, hS2, hI⟩ := hq
  replace E := zLet_s hF E
  have hS := hS.tr hS2 rfl rfl
  refine zg_aload_n X 0 rfl dX3_parse_21 ?_
  refine zg_iconst X 0 dX3_parse_22 (by decide) (fun v6 _ hv6 => ?_)
  replace E := zLet_s (zcst hv6 (by decide)) E
  refine fp_X3_36 X hI ha0 ⟨by omega, by omega⟩ dX3_parse_23 (fun s7 es7 hI => ?_)
  replace E := zLet_s es7 E
  have hS := hS.i ha0 es7 rfl
  refine zg_aload_n X 0 rfl dX3_parse_26 ?_
  refine zg_iconst X 0 dX3_parse_27 (by decide) (fun v8 _ hv8 => ?_)
  replace E := zLet_s (zcst hv8 (by decide)) E
  refine fp_X3_40 X hI ha0 ⟨by omega, by omega⟩ dX3_parse_28 (fun s9 es9 hI => ?_)
  replace E := zLet_s es9 E
  have hS := hS.i ha0 es9 rfl
  refine zg_aload_n X 0 rfl dX3_parse_31 ?_
  refine zg_iconst X 0 dX3_parse_32 (by decide) (fun v10 _ hv10 => ?_)
  replace E := zLet_s (zcst hv10 (by decide)) E
  refine fp_X3_43 X hI ha0 (zb_rng _) dX3_parse_33 (fun s11 es11 hI => ?_)
  replace E := zLet_s es11 E
  have hS := hS.i ha0 es11 rfl
  have e12 : v10 = s11.1 a0 8 := by rw [es11]; exact zm_s
  refine zg_aload_n X 0 rfl dX3_parse_36 ?_
  refine zg_iconst X (-1) dX3_parse_37 (by decide) (fun v13 _ hv13 => ?_)
  replace E := zLet_s (zcst hv13 (by decide)) E
  refine fp_X3_46 X hI ha0 (zb_rng _) dX3_parse_38 (fun s14 es14 hI => ?_)
  replace E := zLet_s es14 E
  have hS := hS.i ha0 es14 rfl
  have e15 : v10 = s14.1 a0 8 := by rw [es14]; exact zm_j (by decide) e12
  refine zg_aload_n X 0 rfl dX3_parse_41 ?_
  refine zg_iconst X 0 dX3_parse_42 (by decide) (fun v16 _ hv16 => ?_)
  replace E := zLet_s (zcst hv16 (by decide)) E
  refine fp_X3_49 X hI ha0 (zb_rng _) dX3_parse_43 (fun s17 es17 hI => ?_)
  replace E := zLet_s es17 E
  have hS := hS.i ha0 es17 rfl
  have e18 : v10 = s17.1 a0 8 := by rw [es17]; exact zm_j (by decide) e15
  refine zg_aload_n X 0 rfl dX3_parse_46 ?_
  refine zg_iconst X (-1) dX3_parse_47 (by decide) (fun v19 _ hv19 => ?_)
  replace E := zLet_s (zcst hv19 (by decide)) E
  refine fp_X3_52 X hI ha0 (zb_rng _) dX3_parse_48 (fun s20 es20 hI => ?_)
  replace E := zLet_s es20 E
  have hS := hS.i ha0 es20 rfl
  have e21 : v10 = s20.1 a0 8 := by rw [es20]; exact zm_j (by decide) e18
  refine zg_aload_n X 0 rfl dX3_parse_51 ?_
  refine zg_iconst X 0 dX3_parse_52 (by decide) (fun v22 _ hv22 => ?_)
  replace E := zLet_s (zcst hv22 (by decide)) E
  refine zg_cVv (As := [.int v22]) (st := []) X ha0 rfl (by decide) rfl (t_X3_goTo l d L kd κ 2 _ hI a0 ha0 v22 ) mk_X3_64 mc_X3_goTo mz_X3 mi_X3_goTo ml_X3_goTo (na := 1) ⟨md_X3.1, md_X3.2, by decide +kernel⟩ rfl ⟨by decide, by decide⟩ (Nat.le_of_ble_eq_true rfl) dX3_parse_53 (fun s23 hq => ?_)
  obtain ⟨hF, hS2, hI⟩ := hq
  replace E := zLet_s hF E
  have hS := hS.tr hS2 rfl rfl
  refine zg_iconst X 0 dX3_parse_56 (by decide) (fun v24 _ hv24 => ?_)
  replace E := zLet_s (zcst hv24 (by decide)) E
  refine zg_istore X [(4, .int v24), (0, .ref a0), (1, .ref p1), (2, .int p2), (3, .ref p3)] dX3_parse_57 (by decide) rfl ?_
  have Lp26 : ∀ (nLp26 : Nat) (τ26 : zS) (x25 : Int32), zI κ 2 L kd τ26 → zSm [3, 8, 9, 41, 42, 43, 44, 45, 46, 47, 48, 49, 50, 51] [3] L kd σ τ26 → R = F_X3_parse_59 a0 p1 p2 p3  nLp26 x25 τ26 → 0 ≤ x25.toInt ∧ x25.toInt ≤ 401 → (401) - x25.toInt + 1 < (nLp26 : Int) → zG d L kd A 5 p l e (k2_rm 25 (100 * 25)) s m args below meth c Q τ26 59 [(4, .int x25), (0, .ref a0), (1, .ref p1), (2, .int p2), (3, .ref p3)] [] := by
    intro nLp26
    induction nLp26 with
    | zero => intro τ26 x25 hI hS E  hxLp26 hm ; exact absurd hm (by omega)
    | succ nLp26 ihLp26 =>
      intro τ26 x25 hI hS E  hxLp26 hmLp26 
      rw [F_X3_parse_59] at E
      refine zg_iload X 0 rfl dX3_parse_59 ?_
      refine zg_sipush X 400 dX3_parse_61 (by decide) (fun v27 _ hv27 => ?_)
      replace E := zLet_s (zcst hv27 (by decide)) E
      refine zg_icmp_gt X 93 dX3_parse_64 (by decide) (fun c28 => ?_) (fun c28 => ?_)
      · skip
        replace E := zIf_t c28 E
        refine zg_aload_n X 1 rfl dX3_parse_93 ?_
        refine fg_X3_43 X hI ha0 dX3_parse_94 (fun v29 ev29 _ => ?_)
        replace E := zLet_s ev29 E
        refine zg_if_ne X 116 dX3_parse_97 (by decide) (fun c30 => ?_) (fun c30 => ?_)
        · skip
          replace E := zIf_f c30 E
          refine zg_aload_n X 1 rfl dX3_parse_116 ?_
          refine fg_X3_18 X hI ha0 dX3_parse_117 (fun v31 ev31 hv31 => ?_)
          replace E := zLet_s (zgr ev31) E
          refine zg_aload_n X 1 rfl dX3_parse_120 ?_
          refine fg_X3_36 X hI ha0 dX3_parse_121 (fun v32 ev32 hv32 => ?_)
          replace E := zLet_s ev32 E
          refine zg_if_eq X 136 dX3_parse_124 (by decide) (fun c33 => ?_) (fun c33 => ?_)
          · skip
            replace E := zIf_t c33 E
            refine zg_iconst X 0 dX3_parse_136 (by decide) (fun v34 _ hv34 => ?_)
            replace E := zLet_s (zcst hv34 (by decide)) E
            refine fp_X3_71 X hI hv31 ⟨by omega, by omega⟩ dX3_parse_137 (fun s35 es35 hI => ?_)
            replace E := zLet_s es35 E
            have hS := hS.i hv31 es35 rfl
            have e36 : v29 = s35.1 a0 8 := by rw [es35]; exact zm_k hv31 ha0 (by decide) ev29
            refine zg_aload_n X 1 rfl dX3_parse_140 ?_
            refine fg_X3_43 X hI ha0 dX3_parse_141 (fun v37 ev37 _ => ?_)
            replace E := zLet_s ev37 E
            have mv37 : v37.toInt = v29.toInt := by rw [ev37, ← e36]
            exact ret _ _ _ _ dX3_parse_144 rfl ⟨E.symm.trans hR, hS, hI⟩
          · skip
            replace E := zIf_f c33 E
            refine zg_iconst X 1 dX3_parse_127 (by decide) (fun v38 _ hv38 => ?_)
            replace E := zLet_s (zcst hv38 (by decide)) E
            refine zg_aload_n X 1 rfl dX3_parse_128 ?_
            refine fg_X3_40 X hI ha0 dX3_parse_129 (fun v39 ev39 hv39 => ?_)
            replace E := zLet_s ev39 E
            refine zg_iadd X dX3_parse_132 (by omega) (by omega) (fun v40 ev40 hv40 => ?_)
            replace E := zLet_s ev40 E
            refine zg_goto X 137 dX3_parse_133 (by decide) ?_
            refine fp_X3_71 X hI hv31 ⟨by omega, by omega⟩ dX3_parse_137 (fun s41 es41 hI => ?_)
            replace E := zLet_s es41 E
            have hS := hS.i hv31 es41 rfl
            have e42 : v29 = s41.1 a0 8 := by rw [es41]; exact zm_k hv31 ha0 (by decide) ev29
            refine zg_aload_n X 1 rfl dX3_parse_140 ?_
            refine fg_X3_43 X hI ha0 dX3_parse_141 (fun v43 ev43 _ => ?_)
            replace E := zLet_s ev43 E
            have mv43 : v43.toInt = v29.toInt := by rw [ev43, ← e42]
            exact ret _ _ _ _ dX3_parse_144 rfl ⟨E.symm.trans hR, hS, hI⟩
        · skip
          replace E := zIf_t c30 E
          refine zg_aload_n X 1 rfl dX3_parse_100 ?_
          refine zg_aload_n X 1 rfl dX3_parse_101 ?_
          refine fg_X3_49 X hI ha0 dX3_parse_102 (fun v44 ev44 _ => ?_)
          replace E := zLet_s ev44 E
          refine fp_X3_43 X hI ha0 (zb_rng _) dX3_parse_105 (fun s45 es45 hI => ?_)
          replace E := zLet_s es45 E
          have hS := hS.i ha0 es45 rfl
          have e47 : v44 = s45.1 a0 8 := by rw [es45]; exact zm_s
          refine zg_aload_n X 1 rfl dX3_parse_108 ?_
          refine zg_aload_n X 1 rfl dX3_parse_109 ?_
          refine fg_X3_52 X hI ha0 dX3_parse_110 (fun v48 ev48 _ => ?_)
          replace E := zLet_s ev48 E
          refine fp_X3_46 X hI ha0 (zb_rng _) dX3_parse_113 (fun s49 es49 hI => ?_)
          replace E := zLet_s es49 E
          have hS := hS.i ha0 es49 rfl
          have e50 : v44 = s49.1 a0 8 := by rw [es49]; exact zm_j (by decide) e47
          refine zg_aload_n X 1 rfl dX3_parse_116 ?_
          refine fg_X3_18 X hI ha0 dX3_parse_117 (fun v51 ev51 hv51 => ?_)
          replace E := zLet_s (zgr ev51) E
          refine zg_aload_n X 1 rfl dX3_parse_120 ?_
          refine fg_X3_36 X hI ha0 dX3_parse_121 (fun v52 ev52 hv52 => ?_)
          replace E := zLet_s ev52 E
          refine zg_if_eq X 136 dX3_parse_124 (by decide) (fun c53 => ?_) (fun c53 => ?_)
          · skip
            replace E := zIf_t c53 E
            refine zg_iconst X 0 dX3_parse_136 (by decide) (fun v54 _ hv54 => ?_)
            replace E := zLet_s (zcst hv54 (by decide)) E
            refine fp_X3_71 X hI hv51 ⟨by omega, by omega⟩ dX3_parse_137 (fun s55 es55 hI => ?_)
            replace E := zLet_s es55 E
            have hS := hS.i hv51 es55 rfl
            have e56 : v44 = s55.1 a0 8 := by rw [es55]; exact zm_k hv51 ha0 (by decide) e50
            refine zg_aload_n X 1 rfl dX3_parse_140 ?_
            refine fg_X3_43 X hI ha0 dX3_parse_141 (fun v57 ev57 _ => ?_)
            replace E := zLet_s ev57 E
            have mv57 : v57.toInt = v44.toInt := by rw [ev57, ← e56]
            exact ret _ _ _ _ dX3_parse_144 rfl ⟨E.symm.trans hR, hS, hI⟩
          · skip
            replace E := zIf_f c53 E
            refine zg_iconst X 1 dX3_parse_127 (by decide) (fun v58 _ hv58 => ?_)
            replace E := zLet_s (zcst hv58 (by decide)) E
            refine zg_aload_n X 1 rfl dX3_parse_128 ?_
            refine fg_X3_40 X hI ha0 dX3_parse_129 (fun v59 ev59 hv59 => ?_)
            replace E := zLet_s ev59 E
            refine zg_iadd X dX3_parse_132 (by omega) (by omega) (fun v60 ev60 hv60 => ?_)
            replace E := zLet_s ev60 E
            refine zg_goto X 137 dX3_parse_133 (by decide) ?_
            refine fp_X3_71 X hI hv51 ⟨by omega, by omega⟩ dX3_parse_137 (fun s61 es61 hI => ?_)
            replace E := zLet_s es61 E
            have hS := hS.i hv51 es61 rfl
            have e62 : v44 = s61.1 a0 8 := by rw [es61]; exact zm_k hv51 ha0 (by decide) e50
            refine zg_aload_n X 1 rfl dX3_parse_140 ?_
            refine fg_X3_43 X hI ha0 dX3_parse_141 (fun v63 ev63 _ => ?_)
            replace E := zLet_s ev63 E
            have mv63 : v63.toInt = v44.toInt := by rw [ev63, ← e62]
            exact ret _ _ _ _ dX3_parse_144 rfl ⟨E.symm.trans hR, hS, hI⟩
      · skip
        replace E := zIf_f (Int.not_lt.mpr c28) E
        refine zg_aload_n X 1 rfl dX3_parse_67 ?_
        refine fg_X3_43 X hI ha0 dX3_parse_68 (fun v64 ev64 _ => ?_)
        replace E := zLet_s ev64 E
        refine zg_if_ne X 93 dX3_parse_71 (by decide) (fun c65 => ?_) (fun c65 => ?_)
        · skip
          replace E := zIf_f c65 E
          refine zg_aload_n X 1 rfl dX3_parse_93 ?_
          refine fg_X3_43 X hI ha0 dX3_parse_94 (fun v66 ev66 _ => ?_)
          replace E := zLet_s ev66 E
          have mv66 : v66.toInt = v64.toInt := by rw [ev66, ← ev64]
          refine zg_if_ne X 116 dX3_parse_97 (by decide) (fun c67 => ?_) (fun c67 => ?_)
          · skip
            replace E := zIf_f c67 E
            refine zg_aload_n X 1 rfl dX3_parse_116 ?_
            refine fg_X3_18 X hI ha0 dX3_parse_117 (fun v68 ev68 hv68 => ?_)
            replace E := zLet_s (zgr ev68) E
            refine zg_aload_n X 1 rfl dX3_parse_120 ?_
            refine fg_X3_36 X hI ha0 dX3_parse_121 (fun v69 ev69 hv69 => ?_)
            replace E := zLet_s ev69 E
            refine zg_if_eq X 136 dX3_parse_124 (by decide) (fun c70 => ?_) (fun c70 => ?_)
            · skip
              replace E := zIf_t c70 E
              refine zg_iconst X 0 dX3_parse_136 (by decide) (fun v71 _ hv71 => ?_)
              replace E := zLet_s (zcst hv71 (by decide)) E
              refine fp_X3_71 X hI hv68 ⟨by omega, by omega⟩ dX3_parse_137 (fun s72 es72 hI => ?_)
              replace E := zLet_s es72 E
              have hS := hS.i hv68 es72 rfl
              have e73 : v66 = s72.1 a0 8 := by rw [es72]; exact zm_k hv68 ha0 (by decide) ev66
              refine zg_aload_n X 1 rfl dX3_parse_140 ?_
              refine fg_X3_43 X hI ha0 dX3_parse_141 (fun v74 ev74 _ => ?_)
              replace E := zLet_s ev74 E
              have mv74 : v74.toInt = v66.toInt := by rw [ev74, ← e73]
              exact ret _ _ _ _ dX3_parse_144 rfl ⟨E.symm.trans hR, hS, hI⟩
            · skip
              replace E := zIf_f c70 E
              refine zg_iconst X 1 dX3_parse_127 (by decide) (fun v75 _ hv75 => ?_)
              replace E := zLet_s (zcst hv75 (by decide)) E
              refine zg_aload_n X 1 rfl dX3_parse_128 ?_
              refine fg_X3_40 X hI ha0 dX3_parse_129 (fun v76 ev76 hv76 => ?_)
              replace E := zLet_s ev76 E
              refine zg_iadd X dX3_parse_132 (by omega) (by omega) (fun v77 ev77 hv77 => ?_)
              replace E := zLet_s ev77 E
              refine zg_goto X 137 dX3_parse_133 (by decide) ?_
              refine fp_X3_71 X hI hv68 ⟨by omega, by omega⟩ dX3_parse_137 (fun s78 es78 hI => ?_)
              replace E := zLet_s es78 E
              have hS := hS.i hv68 es78 rfl
              have e79 : v66 = s78.1 a0 8 := by rw [es78]; exact zm_k hv68 ha0 (by decide) ev66
              refine zg_aload_n X 1 rfl dX3_parse_140 ?_
              refine fg_X3_43 X hI ha0 dX3_parse_141 (fun v80 ev80 _ => ?_)
              replace E := zLet_s ev80 E
              have mv80 : v80.toInt = v66.toInt := by rw [ev80, ← e79]
              exact ret _ _ _ _ dX3_parse_144 rfl ⟨E.symm.trans hR, hS, hI⟩
          · skip
            replace E := zIf_t c67 E
            refine zg_aload_n X 1 rfl dX3_parse_100 ?_
            refine zg_aload_n X 1 rfl dX3_parse_101 ?_
            refine fg_X3_49 X hI ha0 dX3_parse_102 (fun v81 ev81 _ => ?_)
            replace E := zLet_s ev81 E
            refine fp_X3_43 X hI ha0 (zb_rng _) dX3_parse_105 (fun s82 es82 hI => ?_)
            replace E := zLet_s es82 E
            have hS := hS.i ha0 es82 rfl
            have e84 : v81 = s82.1 a0 8 := by rw [es82]; exact zm_s
            refine zg_aload_n X 1 rfl dX3_parse_108 ?_
            refine zg_aload_n X 1 rfl dX3_parse_109 ?_
            refine fg_X3_52 X hI ha0 dX3_parse_110 (fun v85 ev85 _ => ?_)
            replace E := zLet_s ev85 E
            refine fp_X3_46 X hI ha0 (zb_rng _) dX3_parse_113 (fun s86 es86 hI => ?_)
            replace E := zLet_s es86 E
            have hS := hS.i ha0 es86 rfl
            have e87 : v81 = s86.1 a0 8 := by rw [es86]; exact zm_j (by decide) e84
            refine zg_aload_n X 1 rfl dX3_parse_116 ?_
            refine fg_X3_18 X hI ha0 dX3_parse_117 (fun v88 ev88 hv88 => ?_)
            replace E := zLet_s (zgr ev88) E
            refine zg_aload_n X 1 rfl dX3_parse_120 ?_
            refine fg_X3_36 X hI ha0 dX3_parse_121 (fun v89 ev89 hv89 => ?_)
            replace E := zLet_s ev89 E
            refine zg_if_eq X 136 dX3_parse_124 (by decide) (fun c90 => ?_) (fun c90 => ?_)
            · skip
              replace E := zIf_t c90 E
              refine zg_iconst X 0 dX3_parse_136 (by decide) (fun v91 _ hv91 => ?_)
              replace E := zLet_s (zcst hv91 (by decide)) E
              refine fp_X3_71 X hI hv88 ⟨by omega, by omega⟩ dX3_parse_137 (fun s92 es92 hI => ?_)
              replace E := zLet_s es92 E
              have hS := hS.i hv88 es92 rfl
              have e93 : v81 = s92.1 a0 8 := by rw [es92]; exact zm_k hv88 ha0 (by decide) e87
              refine zg_aload_n X 1 rfl dX3_parse_140 ?_
              refine fg_X3_43 X hI ha0 dX3_parse_141 (fun v94 ev94 _ => ?_)
              replace E := zLet_s ev94 E
              have mv94 : v94.toInt = v81.toInt := by rw [ev94, ← e93]
              exact ret _ _ _ _ dX3_parse_144 rfl ⟨E.symm.trans hR, hS, hI⟩
            · skip
              replace E := zIf_f c90 E
              refine zg_iconst X 1 dX3_parse_127 (by decide) (fun v95 _ hv95 => ?_)
              replace E := zLet_s (zcst hv95 (by decide)) E
              refine zg_aload_n X 1 rfl dX3_parse_128 ?_
              refine fg_X3_40 X hI ha0 dX3_parse_129 (fun v96 ev96 hv96 => ?_)
              replace E := zLet_s ev96 E
              refine zg_iadd X dX3_parse_132 (by omega) (by omega) (fun v97 ev97 hv97 => ?_)
              replace E := zLet_s ev97 E
              refine zg_goto X 137 dX3_parse_133 (by decide) ?_
              refine fp_X3_71 X hI hv88 ⟨by omega, by omega⟩ dX3_parse_137 (fun s98 es98 hI => ?_)
              replace E := zLet_s es98 E
              have hS := hS.i hv88 es98 rfl
              have e99 : v81 = s98.1 a0 8 := by rw [es98]; exact zm_k hv88 ha0 (by decide) e87
              refine zg_aload_n X 1 rfl dX3_parse_140 ?_
              refine fg_X3_43 X hI ha0 dX3_parse_141 (fun v100 ev100 _ => ?_)
              replace E := zLet_s ev100 E
              have mv100 : v100.toInt = v81.toInt := by rw [ev100, ← e99]
              exact ret _ _ _ _ dX3_parse_144 rfl ⟨E.symm.trans hR, hS, hI⟩
        · skip
          replace E := zIf_t c65 E
          refine zg_aload_n X 1 rfl dX3_parse_74 ?_
          refine fg_X3_26 X hI ha0 dX3_parse_75 (fun v101 ev101 _ => ?_)
          replace E := zLet_s ev101 E
          refine zg_bipush X 33 dX3_parse_78 (by decide) (fun v102 _ hv102 => ?_)
          replace E := zLet_s (zcst hv102 (by decide)) E
          refine zg_icmp_eq X 93 dX3_parse_80 (by decide) (fun c103 => ?_) (fun c103 => ?_)
          · skip
            replace E := zIf_t c103 E
            refine zg_aload_n X 1 rfl dX3_parse_93 ?_
            refine fg_X3_43 X hI ha0 dX3_parse_94 (fun v104 ev104 _ => ?_)
            replace E := zLet_s ev104 E
            have mv104 : v104.toInt = v64.toInt := by rw [ev104, ← ev64]
            refine zg_if_ne X 116 dX3_parse_97 (by decide) (fun c105 => ?_) (fun c105 => ?_)
            · omega
            · skip
              replace E := zIf_t c105 E
              refine zg_aload_n X 1 rfl dX3_parse_100 ?_
              refine zg_aload_n X 1 rfl dX3_parse_101 ?_
              refine fg_X3_49 X hI ha0 dX3_parse_102 (fun v106 ev106 _ => ?_)
              replace E := zLet_s ev106 E
              refine fp_X3_43 X hI ha0 (zb_rng _) dX3_parse_105 (fun s107 es107 hI => ?_)
              replace E := zLet_s es107 E
              have hS := hS.i ha0 es107 rfl
              have e109 : v106 = s107.1 a0 8 := by rw [es107]; exact zm_s
              refine zg_aload_n X 1 rfl dX3_parse_108 ?_
              refine zg_aload_n X 1 rfl dX3_parse_109 ?_
              refine fg_X3_52 X hI ha0 dX3_parse_110 (fun v110 ev110 _ => ?_)
              replace E := zLet_s ev110 E
              refine fp_X3_46 X hI ha0 (zb_rng _) dX3_parse_113 (fun s111 es111 hI => ?_)
              replace E := zLet_s es111 E
              have hS := hS.i ha0 es111 rfl
              have e112 : v106 = s111.1 a0 8 := by rw [es111]; exact zm_j (by decide) e109
              refine zg_aload_n X 1 rfl dX3_parse_116 ?_
              refine fg_X3_18 X hI ha0 dX3_parse_117 (fun v113 ev113 hv113 => ?_)
              replace E := zLet_s (zgr ev113) E
              refine zg_aload_n X 1 rfl dX3_parse_120 ?_
              refine fg_X3_36 X hI ha0 dX3_parse_121 (fun v114 ev114 hv114 => ?_)
              replace E := zLet_s ev114 E
              refine zg_if_eq X 136 dX3_parse_124 (by decide) (fun c115 => ?_) (fun c115 => ?_)
              · skip
                replace E := zIf_t c115 E
                refine zg_iconst X 0 dX3_parse_136 (by decide) (fun v116 _ hv116 => ?_)
                replace E := zLet_s (zcst hv116 (by decide)) E
                refine fp_X3_71 X hI hv113 ⟨by omega, by omega⟩ dX3_parse_137 (fun s117 es117 hI => ?_)
                replace E := zLet_s es117 E
                have hS := hS.i hv113 es117 rfl
                have e118 : v106 = s117.1 a0 8 := by rw [es117]; exact zm_k hv113 ha0 (by decide) e112
                refine zg_aload_n X 1 rfl dX3_parse_140 ?_
                refine fg_X3_43 X hI ha0 dX3_parse_141 (fun v119 ev119 _ => ?_)
                replace E := zLet_s ev119 E
                have mv119 : v119.toInt = v106.toInt := by rw [ev119, ← e118]
                exact ret _ _ _ _ dX3_parse_144 rfl ⟨E.symm.trans hR, hS, hI⟩
              · skip
                replace E := zIf_f c115 E
                refine zg_iconst X 1 dX3_parse_127 (by decide) (fun v120 _ hv120 => ?_)
                replace E := zLet_s (zcst hv120 (by decide)) E
                refine zg_aload_n X 1 rfl dX3_parse_128 ?_
                refine fg_X3_40 X hI ha0 dX3_parse_129 (fun v121 ev121 hv121 => ?_)
                replace E := zLet_s ev121 E
                refine zg_iadd X dX3_parse_132 (by omega) (by omega) (fun v122 ev122 hv122 => ?_)
                replace E := zLet_s ev122 E
                refine zg_goto X 137 dX3_parse_133 (by decide) ?_
                refine fp_X3_71 X hI hv113 ⟨by omega, by omega⟩ dX3_parse_137 (fun s123 es123 hI => ?_)
                replace E := zLet_s es123 E
                have hS := hS.i hv113 es123 rfl
                have e124 : v106 = s123.1 a0 8 := by rw [es123]; exact zm_k hv113 ha0 (by decide) e112
                refine zg_aload_n X 1 rfl dX3_parse_140 ?_
                refine fg_X3_43 X hI ha0 dX3_parse_141 (fun v125 ev125 _ => ?_)
                replace E := zLet_s ev125 E
                have mv125 : v125.toInt = v106.toInt := by rw [ev125, ← e124]
                exact ret _ _ _ _ dX3_parse_144 rfl ⟨E.symm.trans hR, hS, hI⟩
          · skip
            replace E := zIf_f c103 E
            refine zg_aload_n X 1 rfl dX3_parse_83 ?_
            refine zg_cVv (As := []) (st := []) X ha0 rfl (by decide) rfl (t_X3_telling l d L kd κ _ hI a0 ha0 ) mk_X3_68 mc_X3_telling mz_X3 mi_X3_telling ml_X3_telling (na := 0) ⟨md_X3.1, md_X3.2, by decide +kernel⟩ rfl ⟨by decide, by decide⟩ (Nat.le_of_ble_eq_true rfl) dX3_parse_84 (fun s126 hq => ?_)
            obtain ⟨hF, hS2, hI⟩ := hq
            replace E := zLet_s hF E
            have hS := hS.tr hS2 rfl rfl
            refine zg_iinc X 1 (fun v127 => [(4, .int v127), (0, .ref a0), (1, .ref p1), (2, .int p2), (3, .ref p3)]) 0 dX3_parse_87 rfl (by decide) (by decide) (by omega) (by omega) (fun _ => rfl) (fun v127 ev127 hv127 => ?_)
            replace E := zLet_s (zinc ev127 (by decide)) E
            refine zg_goto X 59 dX3_parse_90 (by decide) ?_
            refine zg_sub [0, 1, 2, 3, 4] rfl ?_
            exact ihLp26 _ v127 hI hS E  (by omega) (by omega) 
  refine zg_sub [0, 1, 2, 3, 4] rfl ?_
  exact Lp26 10000 _ v24 hI hS E  (by omega) (by omega) 
set_option maxHeartbeats 4000000 in
set_option maxRecDepth 100000 in
theorem t_X10_read (l : Launch) (d : zD2) (L : List Nat) (kd : Nat → Nat) (κ : Int) (σ : zS) (hI : zI κ 0 L kd σ) (a0 : Nat) (ha0 : zT L kd a0 10) : zMi l yX10_read (Cond.code yX10_read cX10_read 3 (some .int) :: zWL) 26 [.ref a0] d L kd σ (fun v σ2 => (v, σ2) = F_X10_read a0 σ ∧ zSm [1, 2, 3, 4, 7, 8, 9, 10, 22, 23, 24, 41, 42, 43, 44, 45, 46, 47, 48, 49, 50, 51] [3, 10] L kd σ σ2 ∧ (zI 0 0 L kd σ2)) := by
  refine zMi.of (own := RX10) (by decide +kernel) rfl rfl (Nat.le_of_ble_eq_true rfl) ?_
  intro p e s m args below meth c A Q X ret
  refine zg_lv (lv2 := [(0, .ref a0)]) rfl ?_
  obtain ⟨R, hR⟩ : ∃ R, R = F_X10_read a0 σ := ⟨_, rfl⟩
  have E := hR
  unfold F_X10_read at E
  have hS : zSm [1, 2, 3, 4, 7, 8, 9, 10, 22, 23, 24, 41, 42, 43, 44, 45, 46, 47, 48, 49, 50, 51] [3, 10] L kd σ σ := zSm.rf
  refine zg_aload_n X 0 rfl dX10_read_0 ?_
  refine fg_X10_19 X hI ha0 dX10_read_1 (fun v1 ev1 hv1 => ?_)
  replace E := zLet_s (zgr ev1) E
  refine zg_aload_n X 0 rfl dX10_read_4 ?_
  refine fg_X10_10 X hI ha0 dX10_read_5 (fun v2 ev2 hv2 => ?_)
  replace E := zLet_s (zgr ev2) E
  refine fg_X10_91 X hI hv2 dX10_read_8 (fun v3 ev3 hv3 => ?_)
  replace E := zLet_s (zgr ev3) E
  refine zg_aload_n X 0 rfl dX10_read_11 ?_
  refine fg_X10_10 X hI ha0 dX10_read_12 (fun v4 ev4 hv4 => ?_)
  replace E := zLet_s (zgr ev4) E
  refine fg_X10_84 X hI hv4 dX10_read_15 (fun v5 ev5 hv5 => ?_)
  replace E := zLet_s ev5 E
  have hkv5 := hI.2.2.1
  refine zg_aload_n X 0 rfl dX10_read_18 ?_
  refine fg_X10_74 X hI ha0 dX10_read_19 (fun v6 ev6 hv6 => ?_)
  replace E := zLet_s (zgr ev6) E
  refine zg_cVi (As := [.ref v3, .int v5, .ref v6]) (st := []) X hv1 rfl (by decide) rfl (t_X3_parse l d L kd κ 0 _ hI v1 hv1 v3 hv3 v5 v6 hv6 (by omega)) mk_X10_95 mc_X3_parse mz_X3 mi_X3_parse ml_X3_parse (na := 3) ⟨md_X3.1, md_X3.2, by decide +kernel⟩ rfl ⟨by decide, by decide⟩ (Nat.le_of_ble_eq_true rfl) dX10_read_22 (fun v7 s8 hq => ?_)
  obtain ⟨hF, hS2, hI⟩ := hq
  replace E := zLet2_s hF E
  have hS := hS.tr hS2 rfl rfl
  refine zg_istore_n X [(1, .int v7), (0, .ref a0)] dX10_read_25 (by decide) rfl ?_
  refine zg_aload_n X 1 rfl dX10_read_26 ?_
  refine zg_aload_n X 1 rfl dX10_read_27 ?_
  refine fg_X10_19 X hI ha0 dX10_read_28 (fun v9 ev9 hv9 => ?_)
  replace E := zLet_s (zgr ev9) E
  refine fg_X10_99 X hI hv9 dX10_read_31 (fun v10 ev10 _ => ?_)
  replace E := zLet_s ev10 E
  refine fp_X10_81 X hI ha0 (zb_rng _) dX10_read_34 (fun s11 es11 hI => ?_)
  replace E := zLet_s es11 E
  have hS := hS.i ha0 es11 rfl
  refine zg_aload_n X 1 rfl dX10_read_37 ?_
  refine fg_X10_10 X hI ha0 dX10_read_38 (fun v12 ev12 hv12 => ?_)
  replace E := zLet_s (zgr ev12) E
  refine zg_iconst X 0 dX10_read_41 (by decide) (fun v13 _ hv13 => ?_)
  replace E := zLet_s (zcst hv13 (by decide)) E
  refine fq_X10_84 X hv12 dX10_read_42 (fun s14 es14 => ?_)
  replace E := zLet_s es14 E
  have hS := hS.i hv12 es14 rfl
  have hI : zI v13.toInt 2 L kd s14 := by rw [es14]; exact zi_tape hI hv12 (by omega) (by omega)
  refine zg_iload_n X 0 rfl dX10_read_45 ?_
  refine zg_if_ne X 71 dX10_read_46 (by decide) (fun c15 => ?_) (fun c15 => ?_)
  · skip
    replace E := zIf_f c15 E
    refine zg_iload_n X 0 rfl dX10_read_71 ?_
    exact ret _ _ _ _ dX10_read_72 rfl ⟨E.symm.trans hR, hS, (zi_eq (by omega) (zi_weak hI))⟩
  · skip
    replace E := zIf_t c15 E
    refine zg_aload_n X 1 rfl dX10_read_49 ?_
    refine fg_X10_74 X hI ha0 dX10_read_50 (fun v16 ev16 hv16 => ?_)
    replace E := zLet_s (zgr ev16) E
    refine zg_astore_n X [(2, .ref v16), (1, .int v7), (0, .ref a0)] dX10_read_53 (by decide) rfl ?_
    refine zg_aload_n X 2 rfl dX10_read_54 ?_
    refine zg_aload_n X 2 rfl dX10_read_55 ?_
    refine fg_X10_70 X hI ha0 dX10_read_56 (fun v17 ev17 hv17 => ?_)
    replace E := zLet_s (zgr ev17) E
    refine fp_X10_74 X hI ha0 hv17 dX10_read_59 (fun s18 es18 hI => ?_)
    replace E := zLet_s es18 E
    have hS := hS.r ha0 es18 rfl
    refine zg_aload_n X 2 rfl dX10_read_62 ?_
    refine zg_aload_n X 0 rfl dX10_read_63 ?_
    refine fp_X10_70 X hI ha0 hv16 dX10_read_64 (fun s19 es19 hI => ?_)
    replace E := zLet_s es19 E
    have hS := hS.r ha0 es19 rfl
    refine zg_aload_n X 2 rfl dX10_read_67 ?_
    refine zg_cVv (As := []) (st := []) X ha0 rfl (by decide) rfl (t_X10_beginAnew l d L kd v13.toInt 2 _ hI a0 ha0 ) mk_X10_100 mc_X10_beginAnew mz_X10 mi_X10_beginAnew ml_X10_beginAnew (na := 0) ⟨md_X10.1, md_X10.2, by decide +kernel⟩ rfl ⟨by decide, by decide⟩ (Nat.le_of_ble_eq_true rfl) dX10_read_68 (fun s20 hq => ?_)
    obtain ⟨hF, hS2, hI⟩ := hq
    replace E := zLet_s hF E
    have hS := hS.tr hS2 rfl rfl
    refine zg_iload_n X 1 rfl dX10_read_71 ?_
    exact ret _ _ _ _ dX10_read_72 rfl ⟨E.symm.trans hR, hS, (zi_eq (by omega) (zi_weak hI))⟩
