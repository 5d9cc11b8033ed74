set_option maxHeartbeats 4000000 in
set_option maxRecDepth 100000 in
theorem t_X11_in (l : Launch) (d : zD2) (L : List Nat) (kd : Nat → Nat) (σ : zS) (p1 : Int32) (p2 : Int32) (p3 : Int32) : zMi l yX11_in (Cond.code yX11_in cX11_in 3 (some .boolean) :: zWL) 0 [.int p1, .int p2, .int p3] d L kd σ (fun v σ2 => (v = F_X11_in p1 p2 p3 ∧ (((v.toInt = 1 ∧ p2.toInt ≤ p1.toInt ∧ p1.toInt ≤ p3.toInt) ∨ (v.toInt = 0 ∧ (p1.toInt < p2.toInt ∨ p3.toInt < p1.toInt))))) ∧ σ = σ2) := by
  refine zMi.of (own := RX11) (by decide +kernel) rfl rfl (Nat.le_of_ble_eq_true rfl) ?_
  intro p e s m args below meth c A Q X ret
  refine zg_lv (lv2 := [(0, .int p1), (1, .int p2), (2, .int p3)]) rfl ?_
  obtain ⟨R, hR⟩ : ∃ R, R = F_X11_in p1 p2 p3 := ⟨_, rfl⟩
  have E := hR
  unfold F_X11_in at E
  refine zg_iload_n X 0 rfl dX11_in_0 ?_
  refine zg_iload_n X 1 rfl dX11_in_1 ?_
  have zp1_z1 := zb_rng p1
  have zp2_z2 := zb_rng p2
  refine zg_icmp_lt X 14 dX11_in_2 (by decide) (fun c3 => ?_) (fun c3 => ?_)
  · skip
    replace E := zIf_t c3 E
    refine zg_iconst X 0 dX11_in_14 (by decide) (fun v4 _ hv4 => ?_)
    replace E := zLet_s (zcst hv4 (by decide)) E
    exact ret _ _ _ _ dX11_in_15 (zb_bool ⟨by omega, by omega⟩) ⟨⟨E.symm.trans hR, by omega⟩, rfl⟩
  · skip
    replace E := zIf_f (Int.not_lt.mpr c3) E
    refine zg_iload_n X 0 rfl dX11_in_5 ?_
    refine zg_iload_n X 2 rfl dX11_in_6 ?_
    have zp1_z5 := zb_rng p1
    have zp3_z6 := zb_rng p3
    refine zg_icmp_gt X 14 dX11_in_7 (by decide) (fun c7 => ?_) (fun c7 => ?_)
    · skip
      replace E := zIf_t c7 E
      refine zg_iconst X 0 dX11_in_14 (by decide) (fun v8 _ hv8 => ?_)
      replace E := zLet_s (zcst hv8 (by decide)) E
      exact ret _ _ _ _ dX11_in_15 (zb_bool ⟨by omega, by omega⟩) ⟨⟨E.symm.trans hR, by omega⟩, rfl⟩
    · skip
      replace E := zIf_f (Int.not_lt.mpr c7) E
      refine zg_iconst X 1 dX11_in_10 (by decide) (fun v9 _ hv9 => ?_)
      replace E := zLet_s (zcst hv9 (by decide)) E
      refine zg_goto X 15 dX11_in_11 (by decide) ?_
      exact ret _ _ _ _ dX11_in_15 (zb_bool ⟨by omega, by omega⟩) ⟨⟨E.symm.trans hR, by omega⟩, rfl⟩
set_option maxHeartbeats 4000000 in
set_option maxRecDepth 100000 in
theorem t_X11_within (l : Launch) (d : zD2) (L : List Nat) (kd : Nat → Nat) (σ : zS) (p1 : Int32) (p2 : Int32) (p3 : Int32) : zMi l yX11_within (Cond.code yX11_within cX11_within 3 (some .int) :: zWL) 0 [.int p1, .int p2, .int p3] d L kd σ (fun v σ2 => (v = F_X11_within p1 p2 p3 ∧ (((p2.toInt ≤ p3.toInt → p2.toInt ≤ v.toInt ∧ v.toInt ≤ p3.toInt)))) ∧ σ = σ2) := by
  refine zMi.of (own := RX11) (by decide +kernel) rfl rfl (Nat.le_of_ble_eq_true rfl) ?_
  intro p e s m args below meth c A Q X ret
  refine zg_lv (lv2 := [(0, .int p1), (1, .int p2), (2, .int p3)]) rfl ?_
  obtain ⟨R, hR⟩ : ∃ R, R = F_X11_within p1 p2 p3 := ⟨_, rfl⟩
  have E := hR
  unfold F_X11_within at E
  refine zg_iload_n X 0 rfl dX11_within_0 ?_
  refine zg_iload_n X 1 rfl dX11_within_1 ?_
  have zp1_z1 := zb_rng p1
  have zp2_z2 := zb_rng p2
  refine zg_icmp_ge X 9 dX11_within_2 (by decide) (fun c3 => ?_) (fun c3 => ?_)
  · skip
    replace E := zIf_f (Int.not_lt.mpr c3) E
    refine zg_iload_n X 0 rfl dX11_within_9 ?_
    refine zg_iload_n X 2 rfl dX11_within_10 ?_
    have zp1_z4 := zb_rng p1
    have zp3_z5 := zb_rng p3
    refine zg_icmp_le X 18 dX11_within_11 (by decide) (fun c6 => ?_) (fun c6 => ?_)
    · skip
      replace E := zIf_f (Int.not_lt.mpr c6) E
      refine zg_iload_n X 0 rfl dX11_within_18 ?_
      exact ret _ _ _ _ dX11_within_19 rfl ⟨⟨E.symm.trans hR, by omega⟩, rfl⟩
    · skip
      replace E := zIf_t c6 E
      refine zg_iload_n X 2 rfl dX11_within_14 ?_
      refine zg_goto X 19 dX11_within_15 (by decide) ?_
      exact ret _ _ _ _ dX11_within_19 rfl ⟨⟨E.symm.trans hR, by omega⟩, rfl⟩
  · skip
    replace E := zIf_t c3 E
    refine zg_iload_n X 1 rfl dX11_within_5 ?_
    refine zg_goto X 19 dX11_within_6 (by decide) ?_
    exact ret _ _ _ _ dX11_within_19 rfl ⟨⟨E.symm.trans hR, by omega⟩, rfl⟩
set_option maxHeartbeats 4000000 in
set_option maxRecDepth 100000 in
theorem t_X11_bits (l : Launch) (d : zD2) (L : List Nat) (kd : Nat → Nat) (σ : zS) (p1 : Int32) : zMi l yX11_bits (Cond.code yX11_bits cX11_bits 3 (some .int) :: zWL) 0 [.int p1] d L kd σ (fun v σ2 => (v = F_X11_bits p1 ∧ (True)) ∧ σ = σ2) := by
  refine zMi.of (own := RX11) (by decide +kernel) rfl rfl (Nat.le_of_ble_eq_true rfl) ?_
  intro p e s m args below meth c A Q X ret
  refine zg_lv (lv2 := [(0, .int p1)]) rfl ?_
  obtain ⟨R, hR⟩ : ∃ R, R = F_X11_bits p1 := ⟨_, rfl⟩
  have E := hR
  unfold F_X11_bits at E
  refine zg_iconst X 0 dX11_bits_0 (by decide) (fun v1 _ hv1 => ?_)
  replace E := zLet_s (zcst hv1 (by decide)) E
  refine zg_istore_n X [(1, .int v1), (0, .int p1)] dX11_bits_1 (by decide) rfl ?_
  refine zg_iconst X 0 dX11_bits_2 (by decide) (fun v2 _ hv2 => ?_)
  replace E := zLet_s (zcst hv2 (by decide)) E
  refine zg_istore_n X [(2, .int v2), (1, .int v1), (0, .int p1)] dX11_bits_3 (by decide) rfl ?_
  have Lp5 : ∀ (nLp5 : Nat) (x3 : Int32) (x4 : Int32), R = F_X11_bits_4 p1  nLp5 x3 x4 → 0 ≤ x3.toInt ∧ x3.toInt ≤ 12 → (12) - x3.toInt + 1 < (nLp5 : Int) → zG d L kd A 3 p l e (k2_rm 0 (100 * 0)) s m args below meth c Q σ 4 [(2, .int x3), (1, .int x4), (0, .int p1)] [] := by
    intro nLp5
    induction nLp5 with
    | zero => intro x3 x4  E  hxLp5 hm ; exact absurd hm (by omega)
    | succ nLp5 ihLp5 =>
      intro x3 x4  E  hxLp5 hmLp5 
      rw [F_X11_bits_4] at E
      refine zg_iload_n X 0 rfl dX11_bits_4 ?_
      refine zg_bipush X 12 dX11_bits_5 (by decide) (fun v6 _ hv6 => ?_)
      replace E := zLet_s (zcst hv6 (by decide)) E
      refine zg_icmp_ge X 24 dX11_bits_7 (by decide) (fun c7 => ?_) (fun c7 => ?_)
      · skip
        replace E := zIf_f (Int.not_lt.mpr c7) E
        refine zg_iload_n X 1 rfl dX11_bits_24 ?_
        exact ret _ _ _ _ dX11_bits_25 rfl ⟨⟨E.symm.trans hR, trivial⟩, rfl⟩
      · skip
        replace E := zIf_t c7 E
        refine zg_iload_n X 1 rfl dX11_bits_10 ?_
        refine zg_iload_n X 2 rfl dX11_bits_11 ?_
        refine zg_iload_n X 0 rfl dX11_bits_12 ?_
        refine zg_ishrW X dX11_bits_13 (fun v8 ev8 => ?_)
        replace E := zLet_s ev8 E
        refine zg_iconst X 1 dX11_bits_14 (by decide) (fun v9 _ hv9 => ?_)
        replace E := zLet_s (zcst hv9 (by decide)) E
        refine zg_iandW X dX11_bits_15 (fun v10 ev10 => ?_)
        replace E := zLet_s ev10 E
        refine zg_iaddW X dX11_bits_16 (fun v11 ev11 => ?_)
        replace E := zLet_s ev11 E
        refine zg_istore_n X [(1, .int v11), (2, .int x3), (0, .int p1)] dX11_bits_17 (by decide) rfl ?_
        refine zg_iinc X 1 (fun v12 => [(2, .int v12), (1, .int v11), (0, .int p1)]) 1 dX11_bits_18 rfl (by decide) (by decide) (by omega) (by omega) (fun _ => rfl) (fun v12 ev12 hv12 => ?_)
        replace E := zLet_s (zinc ev12 (by decide)) E
        refine zg_goto X 4 dX11_bits_21 (by decide) ?_
        refine zg_sub [0, 1, 2] rfl ?_
        exact ihLp5 v12 v11   E  (by omega) (by omega) 
  refine zg_sub [0, 1, 2] rfl ?_
  exact Lp5 10000 v2 v1   E  (by omega) (by omega) 
set_option maxHeartbeats 4000000 in
set_option maxRecDepth 100000 in
theorem t_X11_isDigit (l : Launch) (d : zD2) (L : List Nat) (kd : Nat → Nat) (σ : zS) (p1 : Int32) : zMi l yX11_isDigit (Cond.code yX11_isDigit cX11_isDigit 1 (some .boolean) :: zWL) 0 [.int p1] d L kd σ (fun v σ2 => (v = F_X11_isDigit p1 ∧ (((v.toInt = 1 ∧ 48 ≤ p1.toInt) ∨ v.toInt = 0))) ∧ σ = σ2) := by
  refine zMi.of (own := RX11) (by decide +kernel) rfl rfl (Nat.le_of_ble_eq_true rfl) ?_
  intro p e s m args below meth c A Q X ret
  refine zg_lv (lv2 := [(0, .int p1)]) rfl ?_
  obtain ⟨R, hR⟩ : ∃ R, R = F_X11_isDigit p1 := ⟨_, rfl⟩
  have E := hR
  unfold F_X11_isDigit at E
  refine zg_iload_n X 0 rfl dX11_isDigit_0 ?_
  refine zg_bipush X 48 dX11_isDigit_1 (by decide) (fun v1 _ hv1 => ?_)
  replace E := zLet_s (zcst hv1 (by decide)) E
  have zp1_z2 := zb_rng p1
  refine zg_icmp_lt X 16 dX11_isDigit_3 (by decide) (fun c3 => ?_) (fun c3 => ?_)
  · skip
    replace E := zIf_t c3 E
    refine zg_iconst X 0 dX11_isDigit_16 (by decide) (fun v4 _ hv4 => ?_)
    replace E := zLet_s (zcst hv4 (by decide)) E
    exact ret _ _ _ _ dX11_isDigit_17 (zb_bool ⟨by omega, by omega⟩) ⟨⟨E.symm.trans hR, by omega⟩, rfl⟩
  · skip
    replace E := zIf_f (Int.not_lt.mpr c3) E
    refine zg_iload_n X 0 rfl dX11_isDigit_6 ?_
    refine zg_bipush X 57 dX11_isDigit_7 (by decide) (fun v5 _ hv5 => ?_)
    replace E := zLet_s (zcst hv5 (by decide)) E
    have zp1_z6 := zb_rng p1
    refine zg_icmp_gt X 16 dX11_isDigit_9 (by decide) (fun c7 => ?_) (fun c7 => ?_)
    · skip
      replace E := zIf_t c7 E
      refine zg_iconst X 0 dX11_isDigit_16 (by decide) (fun v8 _ hv8 => ?_)
      replace E := zLet_s (zcst hv8 (by decide)) E
      exact ret _ _ _ _ dX11_isDigit_17 (zb_bool ⟨by omega, by omega⟩) ⟨⟨E.symm.trans hR, by omega⟩, rfl⟩
    · skip
      replace E := zIf_f (Int.not_lt.mpr c7) E
      refine zg_iconst X 1 dX11_isDigit_12 (by decide) (fun v9 _ hv9 => ?_)
      replace E := zLet_s (zcst hv9 (by decide)) E
      refine zg_goto X 17 dX11_isDigit_13 (by decide) ?_
      exact ret _ _ _ _ dX11_isDigit_17 (zb_bool ⟨by omega, by omega⟩) ⟨⟨E.symm.trans hR, by omega⟩, rfl⟩
set_option maxHeartbeats 4000000 in
set_option maxRecDepth 100000 in
theorem t_X11_isLetter (l : Launch) (d : zD2) (L : List Nat) (kd : Nat → Nat) (σ : zS) (p1 : Int32) : zMi l yX11_isLetter (Cond.code yX11_isLetter cX11_isLetter 1 (some .boolean) :: zWL) 0 [.int p1] d L kd σ (fun v σ2 => (v = F_X11_isLetter p1 ∧ (((v.toInt = 1 ∧ 97 ≤ p1.toInt) ∨ v.toInt = 0))) ∧ σ = σ2) := by
  refine zMi.of (own := RX11) (by decide +kernel) rfl rfl (Nat.le_of_ble_eq_true rfl) ?_
  intro p e s m args below meth c A Q X ret
  refine zg_lv (lv2 := [(0, .int p1)]) rfl ?_
  obtain ⟨R, hR⟩ : ∃ R, R = F_X11_isLetter p1 := ⟨_, rfl⟩
  have E := hR
  unfold F_X11_isLetter at E
  refine zg_iload_n X 0 rfl dX11_isLetter_0 ?_
  refine zg_bipush X 97 dX11_isLetter_1 (by decide) (fun v1 _ hv1 => ?_)
  replace E := zLet_s (zcst hv1 (by decide)) E
  have zp1_z2 := zb_rng p1
  refine zg_icmp_lt X 16 dX11_isLetter_3 (by decide) (fun c3 => ?_) (fun c3 => ?_)
  · skip
    replace E := zIf_t c3 E
    refine zg_iconst X 0 dX11_isLetter_16 (by decide) (fun v4 _ hv4 => ?_)
    replace E := zLet_s (zcst hv4 (by decide)) E
    exact ret _ _ _ _ dX11_isLetter_17 (zb_bool ⟨by omega, by omega⟩) ⟨⟨E.symm.trans hR, by omega⟩, rfl⟩
  · skip
    replace E := zIf_f (Int.not_lt.mpr c3) E
    refine zg_iload_n X 0 rfl dX11_isLetter_6 ?_
    refine zg_bipush X 122 dX11_isLetter_7 (by decide) (fun v5 _ hv5 => ?_)
    replace E := zLet_s (zcst hv5 (by decide)) E
    have zp1_z6 := zb_rng p1
    refine zg_icmp_gt X 16 dX11_isLetter_9 (by decide) (fun c7 => ?_) (fun c7 => ?_)
    · skip
      replace E := zIf_t c7 E
      refine zg_iconst X 0 dX11_isLetter_16 (by decide) (fun v8 _ hv8 => ?_)
      replace E := zLet_s (zcst hv8 (by decide)) E
      exact ret _ _ _ _ dX11_isLetter_17 (zb_bool ⟨by omega, by omega⟩) ⟨⟨E.symm.trans hR, by omega⟩, rfl⟩
    · skip
      replace E := zIf_f (Int.not_lt.mpr c7) E
      refine zg_iconst X 1 dX11_isLetter_12 (by decide) (fun v9 _ hv9 => ?_)
      replace E := zLet_s (zcst hv9 (by decide)) E
      refine zg_goto X 17 dX11_isLetter_13 (by decide) ?_
      exact ret _ _ _ _ dX11_isLetter_17 (zb_bool ⟨by omega, by omega⟩) ⟨⟨E.symm.trans hR, by omega⟩, rfl⟩
set_option maxHeartbeats 4000000 in
set_option maxRecDepth 100000 in
theorem t_X11_appends (l : Launch) (d : zD2) (L : List Nat) (kd : Nat → Nat) (σ : zS) (p1 : Int64) (p2 : Int32) : zMl l yX11_appends (Cond.code yX11_appends cX11_appends 3 (some .long) :: zWL) 0 [.long p1, .int p2] d L kd σ (fun v σ2 => (v = F_X11_appends p1 p2 ∧ (True)) ∧ σ = σ2) := by
  refine zMl.of (own := RX11) (by decide +kernel) rfl rfl (Nat.le_of_ble_eq_true rfl) ?_
  intro p e s m args below meth c A Q X ret
  refine zg_lv (lv2 := [(0, .long p1), (2, .int p2)]) rfl ?_
  obtain ⟨R, hR⟩ : ∃ R, R = F_X11_appends p1 p2 := ⟨_, rfl⟩
  have E := hR
  unfold F_X11_appends at E
  refine zg_iload_n X 1 rfl dX11_appends_0 ?_
  refine zg_if_ne X 8 dX11_appends_1 (by decide) (fun c1 => ?_) (fun c1 => ?_)
  · skip
    replace E := zIf_f c1 E
    refine zg_ldc2 X wk_X11_178 dX11_appends_8 (fun v2 ev2 => ?_)
    replace E := zLet_s ev2 E
    refine zg_lload_n X 0 rfl dX11_appends_11 ?_
    refine zg_lmul X dX11_appends_12 (fun v3 ev3 => ?_)
    replace E := zLet_s ev3 E
    refine zg_iload_n X 1 rfl dX11_appends_13 ?_
    refine zg_bipush X 97 dX11_appends_14 (by decide) (fun v4 _ hv4 => ?_)
    replace E := zLet_s (zcst hv4 (by decide)) E
    refine zg_isubW X dX11_appends_16 (fun v5 ev5 => ?_)
    replace E := zLet_s ev5 E
    refine zg_iconst X 1 dX11_appends_17 (by decide) (fun v6 _ hv6 => ?_)
    replace E := zLet_s (zcst hv6 (by decide)) E
    refine zg_iaddW X dX11_appends_18 (fun v7 ev7 => ?_)
    replace E := zLet_s ev7 E
    refine zg_i2l X dX11_appends_19 (fun v8 ev8 => ?_)
    replace E := zLet_s ev8 E
    refine zg_ladd X dX11_appends_20 (fun v9 ev9 => ?_)
    replace E := zLet_s ev9 E
    exact ret _ _ _ _ dX11_appends_21 ⟨⟨E.symm.trans hR, trivial⟩, rfl⟩
  · skip
    replace E := zIf_t c1 E
    refine zg_lload_n X 0 rfl dX11_appends_4 ?_
    refine zg_goto X 21 dX11_appends_5 (by decide) ?_
    exact ret _ _ _ _ dX11_appends_21 ⟨⟨E.symm.trans hR, trivial⟩, rfl⟩
set_option maxHeartbeats 4000000 in
set_option maxRecDepth 100000 in
theorem t_X11_word (l : Launch) (d : zD2) (L : List Nat) (kd : Nat → Nat) (σ : zS) (p1 : Int32) (p2 : Int32) (p3 : Int32) (p4 : Int32) (p5 : Int32) (p6 : Int32) (p7 : Int32) : zMl l yX11_word (Cond.code yX11_word cX11_word 7 (some .long) :: zWL) 1 [.int p1, .int p2, .int p3, .int p4, .int p5, .int p6, .int p7] d L kd σ (fun v σ2 => (v = F_X11_word p1 p2 p3 p4 p5 p6 p7 ∧ (True)) ∧ σ = σ2) := by
  refine zMl.of (own := RX11) (by decide +kernel) rfl rfl (Nat.le_of_ble_eq_true rfl) ?_
  intro p e s m args below meth c A Q X ret
  refine zg_lv (lv2 := [(0, .int p1), (1, .int p2), (2, .int p3), (3, .int p4), (4, .int p5), (5, .int p6), (6, .int p7)]) rfl ?_
  obtain ⟨R, hR⟩ : ∃ R, R = F_X11_word p1 p2 p3 p4 p5 p6 p7 := ⟨_, rfl⟩
  have E := hR
  unfold F_X11_word at E
  refine zg_lconst X dX11_word_0 (fun v1 ev1 => ?_)
  replace E := zLet_s ev1 E
  refine zg_iload_n X 0 rfl dX11_word_1 ?_
  refine zg_cSl (As := [.long v1, .int p1]) (st := []) X (t_X11_appends l d L kd _ v1 p1 ) mk_X11_180 mc_X11_appends mz_X11 ms_X11_appends (na := 2) ⟨md_X11.1, md_X11.2, by decide +kernel⟩ rfl ⟨by decide, by decide⟩ (Nat.le_of_ble_eq_true rfl) dX11_word_2 (fun v2 σ2 hq => ?_)
  obtain ⟨⟨hF, hv2⟩, rfl⟩ := hq
  replace E := zLet_s hF E
  refine zg_iload_n X 1 rfl dX11_word_5 ?_
  refine zg_cSl (As := [.long v2, .int p2]) (st := []) X (t_X11_appends l d L kd _ v2 p2 ) mk_X11_180 mc_X11_appends mz_X11 ms_X11_appends (na := 2) ⟨md_X11.1, md_X11.2, by decide +kernel⟩ rfl ⟨by decide, by decide⟩ (Nat.le_of_ble_eq_true rfl) dX11_word_6 (fun v3 σ2 hq => ?_)
  obtain ⟨⟨hF, hv3⟩, rfl⟩ := hq
  replace E := zLet_s hF E
  refine zg_iload_n X 2 rfl dX11_word_9 ?_
  refine zg_cSl (As := [.long v3, .int p3]) (st := []) X (t_X11_appends l d L kd _ v3 p3 ) mk_X11_180 mc_X11_appends mz_X11 ms_X11_appends (na := 2) ⟨md_X11.1, md_X11.2, by decide +kernel⟩ rfl ⟨by decide, by decide⟩ (Nat.le_of_ble_eq_true rfl) dX11_word_10 (fun v4 σ2 hq => ?_)
  obtain ⟨⟨hF, hv4⟩, rfl⟩ := hq
  replace E := zLet_s hF E
  refine zg_iload_n X 3 rfl dX11_word_13 ?_
  refine zg_cSl (As := [.long v4, .int p4]) (st := []) X (t_X11_appends l d L kd _ v4 p4 ) mk_X11_180 mc_X11_appends mz_X11 ms_X11_appends (na := 2) ⟨md_X11.1, md_X11.2, by decide +kernel⟩ rfl ⟨by decide, by decide⟩ (Nat.le_of_ble_eq_true rfl) dX11_word_14 (fun v5 σ2 hq => ?_)
  obtain ⟨⟨hF, hv5⟩, rfl⟩ := hq
  replace E := zLet_s hF E
  refine zg_iload X 4 rfl dX11_word_17 ?_
  refine zg_cSl (As := [.long v5, .int p5]) (st := []) X (t_X11_appends l d L kd _ v5 p5 ) mk_X11_180 mc_X11_appends mz_X11 ms_X11_appends (na := 2) ⟨md_X11.1, md_X11.2, by decide +kernel⟩ rfl ⟨by decide, by decide⟩ (Nat.le_of_ble_eq_true rfl) dX11_word_19 (fun v6 σ2 hq => ?_)
  obtain ⟨⟨hF, hv6⟩, rfl⟩ := hq
  replace E := zLet_s hF E
  refine zg_iload X 5 rfl dX11_word_22 ?_
  refine zg_cSl (As := [.long v6, .int p6]) (st := []) X (t_X11_appends l d L kd _ v6 p6 ) mk_X11_180 mc_X11_appends mz_X11 ms_X11_appends (na := 2) ⟨md_X11.1, md_X11.2, by decide +kernel⟩ rfl ⟨by decide, by decide⟩ (Nat.le_of_ble_eq_true rfl) dX11_word_24 (fun v7 σ2 hq => ?_)
  obtain ⟨⟨hF, hv7⟩, rfl⟩ := hq
  replace E := zLet_s hF E
  refine zg_iload X 6 rfl dX11_word_27 ?_
  refine zg_cSl (As := [.long v7, .int p7]) (st := []) X (t_X11_appends l d L kd _ v7 p7 ) mk_X11_180 mc_X11_appends mz_X11 ms_X11_appends (na := 2) ⟨md_X11.1, md_X11.2, by decide +kernel⟩ rfl ⟨by decide, by decide⟩ (Nat.le_of_ble_eq_true rfl) dX11_word_29 (fun v8 σ2 hq => ?_)
  obtain ⟨⟨hF, hv8⟩, rfl⟩ := hq
  replace E := zLet_s hF E
  exact ret _ _ _ _ dX11_word_32 ⟨⟨E.symm.trans hR, trivial⟩, rfl⟩
set_option maxHeartbeats 4000000 in
set_option maxRecDepth 100000 in
theorem t_X11_isLaw (l : Launch) (d : zD2) (L : List Nat) (kd : Nat → Nat) (σ : zS) (p1 : Int32) : zMi l yX11_isLaw (Cond.code yX11_isLaw cX11_isLaw 1 (some .boolean) :: zWL) 1 [.int p1] d L kd σ (fun v σ2 => (v = F_X11_isLaw p1 ∧ (((v.toInt = 1 ∧ 0 ≤ p1.toInt ∧ p1.toInt ≤ 2) ∨ v.toInt = 0))) ∧ σ = σ2) := by
  refine zMi.of (own := RX11) (by decide +kernel) rfl rfl (Nat.le_of_ble_eq_true rfl) ?_
  intro p e s m args below meth c A Q X ret
  refine zg_lv (lv2 := [(0, .int p1)]) rfl ?_
  obtain ⟨R, hR⟩ : ∃ R, R = F_X11_isLaw p1 := ⟨_, rfl⟩
  have E := hR
  unfold F_X11_isLaw at E
  refine zg_iload_n X 0 rfl dX11_isLaw_0 ?_
  refine zg_iconst X 0 dX11_isLaw_1 (by decide) (fun v1 _ hv1 => ?_)
  replace E := zLet_s (zcst hv1 (by decide)) E
  refine zg_iconst X 2 dX11_isLaw_2 (by decide) (fun v2 _ hv2 => ?_)
  replace E := zLet_s (zcst hv2 (by decide)) E
  refine zg_cSi (As := [.int p1, .int v1, .int v2]) (st := []) X (t_X11_in l d L kd _ p1 v1 v2 ) mk_X11_316 mc_X11_in mz_X11 ms_X11_in (na := 3) ⟨md_X11.1, md_X11.2, by decide +kernel⟩ rfl ⟨by decide, by decide⟩ (Nat.le_of_ble_eq_true rfl) dX11_isLaw_3 (fun v3 σ2 hq => ?_)
  obtain ⟨⟨hF, hv3⟩, rfl⟩ := hq
  replace E := zLet_s hF E
  exact ret _ _ _ _ dX11_isLaw_6 (zb_bool ⟨by omega, by omega⟩) ⟨⟨E.symm.trans hR, by omega⟩, rfl⟩
set_option maxHeartbeats 4000000 in
set_option maxRecDepth 100000 in
theorem t_X11_isLong (l : Launch) (d : zD2) (L : List Nat) (kd : Nat → Nat) (σ : zS) (p1 : Int32) : zMi l yX11_isLong (Cond.code yX11_isLong cX11_isLong 1 (some .boolean) :: zWL) 1 [.int p1] d L kd σ (fun v σ2 => (v = F_X11_isLong p1 ∧ (((v.toInt = 1 ∧ 0 ≤ p1.toInt ∧ p1.toInt ≤ 60) ∨ v.toInt = 0))) ∧ σ = σ2) := by
  refine zMi.of (own := RX11) (by decide +kernel) rfl rfl (Nat.le_of_ble_eq_true rfl) ?_
  intro p e s m args below meth c A Q X ret
  refine zg_lv (lv2 := [(0, .int p1)]) rfl ?_
  obtain ⟨R, hR⟩ : ∃ R, R = F_X11_isLong p1 := ⟨_, rfl⟩
  have E := hR
  unfold F_X11_isLong at E
  refine zg_iload_n X 0 rfl dX11_isLong_0 ?_
  refine zg_iconst X 0 dX11_isLong_1 (by decide) (fun v1 _ hv1 => ?_)
  replace E := zLet_s (zcst hv1 (by decide)) E
  refine zg_bipush X 60 dX11_isLong_2 (by decide) (fun v2 _ hv2 => ?_)
  replace E := zLet_s (zcst hv2 (by decide)) E
  refine zg_cSi (As := [.int p1, .int v1, .int v2]) (st := []) X (t_X11_in l d L kd _ p1 v1 v2 ) mk_X11_316 mc_X11_in mz_X11 ms_X11_in (na := 3) ⟨md_X11.1, md_X11.2, by decide +kernel⟩ rfl ⟨by decide, by decide⟩ (Nat.le_of_ble_eq_true rfl) dX11_isLong_4 (fun v3 σ2 hq => ?_)
  obtain ⟨⟨hF, hv3⟩, rfl⟩ := hq
  replace E := zLet_s hF E
  exact ret _ _ _ _ dX11_isLong_7 (zb_bool ⟨by omega, by omega⟩) ⟨⟨E.symm.trans hR, by omega⟩, rfl⟩
set_option maxHeartbeats 4000000 in
set_option maxRecDepth 100000 in
theorem t_X11_isSome (l : Launch) (d : zD2) (L : List Nat) (kd : Nat → Nat) (σ : zS) (p1 : Int32) : zMi l yX11_isSome (Cond.code yX11_isSome cX11_isSome 1 (some .boolean) :: zWL) 1 [.int p1] d L kd σ (fun v σ2 => (v = F_X11_isSome p1 ∧ (((v.toInt = 1 ∧ 1 ≤ p1.toInt ∧ p1.toInt ≤ 24) ∨ v.toInt = 0))) ∧ σ = σ2) := by
  refine zMi.of (own := RX11) (by decide +kernel) rfl rfl (Nat.le_of_ble_eq_true rfl) ?_
  intro p e s m args below meth c A Q X ret
  refine zg_lv (lv2 := [(0, .int p1)]) rfl ?_
  obtain ⟨R, hR⟩ : ∃ R, R = F_X11_isSome p1 := ⟨_, rfl⟩
  have E := hR
  unfold F_X11_isSome at E
  refine zg_iload_n X 0 rfl dX11_isSome_0 ?_
  refine zg_iconst X 1 dX11_isSome_1 (by decide) (fun v1 _ hv1 => ?_)
  replace E := zLet_s (zcst hv1 (by decide)) E
  refine zg_bipush X 24 dX11_isSome_2 (by decide) (fun v2 _ hv2 => ?_)
  replace E := zLet_s (zcst hv2 (by decide)) E
  refine zg_cSi (As := [.int p1, .int v1, .int v2]) (st := []) X (t_X11_in l d L kd _ p1 v1 v2 ) mk_X11_316 mc_X11_in mz_X11 ms_X11_in (na := 3) ⟨md_X11.1, md_X11.2, by decide +kernel⟩ rfl ⟨by decide, by decide⟩ (Nat.le_of_ble_eq_true rfl) dX11_isSome_4 (fun v3 σ2 hq => ?_)
  obtain ⟨⟨hF, hv3⟩, rfl⟩ := hq
  replace E := zLet_s hF E
  exact ret _ _ _ _ dX11_isSome_7 (zb_bool ⟨by omega, by omega⟩) ⟨⟨E.symm.trans hR, by omega⟩, rfl⟩
set_option maxHeartbeats 4000000 in
set_option maxRecDepth 100000 in
theorem t_X11_ithOf (l : Launch) (d : zD2) (L : List Nat) (kd : Nat → Nat) (σ : zS) (p1 : Int32) (p2 : Int32) : zMi l yX11_ithOf (Cond.code yX11_ithOf cX11_ithOf 4 (some .int) :: zWL) 0 [.int p1, .int p2] d L kd σ (fun v σ2 => (v = F_X11_ithOf p1 p2 ∧ (True)) ∧ σ = σ2) := by
  refine zMi.of (own := RX11) (by decide +kernel) rfl rfl (Nat.le_of_ble_eq_true rfl) ?_
  intro p e s m args below meth c A Q X ret
  refine zg_lv (lv2 := [(0, .int p1), (1, .int p2)]) rfl ?_
  obtain ⟨R, hR⟩ : ∃ R, R = F_X11_ithOf p1 p2 := ⟨_, rfl⟩
  have E := hR
  unfold F_X11_ithOf at E
  refine zg_iconst X 0 dX11_ithOf_0 (by decide) (fun v1 _ hv1 => ?_)
  replace E := zLet_s (zcst hv1 (by decide)) E
  refine zg_istore_n X [(2, .int v1), (0, .int p1), (1, .int p2)] dX11_ithOf_1 (by decide) rfl ?_
  refine zg_iconst X 0 dX11_ithOf_2 (by decide) (fun v2 _ hv2 => ?_)
  replace E := zLet_s (zcst hv2 (by decide)) E
  refine zg_istore_n X [(3, .int v2), (2, .int v1), (0, .int p1), (1, .int p2)] dX11_ithOf_3 (by decide) rfl ?_
  have Lp5 : ∀ (nLp5 : Nat) (x3 : Int32) (x4 : Int32), R = F_X11_ithOf_4 p1 p2  nLp5 x3 x4 → 0 ≤ x4.toInt ∧ x4.toInt ≤ 12 ∧ 0 ≤ x3.toInt ∧ x3.toInt ≤ 12 ∧ x4.toInt ≤ x3.toInt → (12) - x3.toInt + 1 < (nLp5 : Int) → zG d L kd A 4 p l e (k2_rm 0 (100 * 0)) s m args below meth c Q σ 4 [(3, .int x3), (2, .int x4), (0, .int p1), (1, .int p2)] [] := by
    intro nLp5
    induction nLp5 with
    | zero => intro x3 x4  E  hxLp5 hm ; exact absurd hm (by omega)
    | succ nLp5 ihLp5 =>
      intro x3 x4  E  hxLp5 hmLp5 
      rw [F_X11_ithOf_4] at E
      refine zg_iload_n X 0 rfl dX11_ithOf_4 ?_
      refine zg_bipush X 12 dX11_ithOf_5 (by decide) (fun v6 _ hv6 => ?_)
      replace E := zLet_s (zcst hv6 (by decide)) E
      refine zg_icmp_ge X 37 dX11_ithOf_7 (by decide) (fun c7 => ?_) (fun c7 => ?_)
      · skip
        replace E := zIf_f (Int.not_lt.mpr c7) E
        refine zg_iconst X (-1) dX11_ithOf_37 (by decide) (fun v8 _ hv8 => ?_)
        replace E := zLet_s (zcst hv8 (by decide)) E
        exact ret _ _ _ _ dX11_ithOf_38 rfl ⟨⟨E.symm.trans hR, trivial⟩, rfl⟩
      · skip
        replace E := zIf_t c7 E
        refine zg_iload_n X 2 rfl dX11_ithOf_10 ?_
        refine zg_iload_n X 0 rfl dX11_ithOf_11 ?_
        refine zg_ishrW X dX11_ithOf_12 (fun v9 ev9 => ?_)
        replace E := zLet_s ev9 E
        refine zg_iconst X 1 dX11_ithOf_13 (by decide) (fun v10 _ hv10 => ?_)
        replace E := zLet_s (zcst hv10 (by decide)) E
        refine zg_iandW X dX11_ithOf_14 (fun v11 ev11 => ?_)
        replace E := zLet_s ev11 E
        refine zg_if_ne X 21 dX11_ithOf_15 (by decide) (fun c12 => ?_) (fun c12 => ?_)
        · skip
          replace E := zIf_f c12 E
          refine zg_iload_n X 1 rfl dX11_ithOf_21 ?_
          refine zg_iload_n X 3 rfl dX11_ithOf_22 ?_
          refine zg_icmp_ne X 28 dX11_ithOf_23 (by decide) (fun c13 => ?_) (fun c13 => ?_)
          · skip
            replace E := zIf_f c13 E
            refine zg_iinc X 1 (fun v14 => [(2, .int v14), (3, .int x3), (0, .int p1), (1, .int p2)]) 1 dX11_ithOf_28 rfl (by decide) (by decide) (by omega) (by omega) (fun _ => rfl) (fun v14 ev14 hv14 => ?_)
            replace E := zLet_s (zinc ev14 (by decide)) E
            refine zg_iinc X 1 (fun v15 => [(3, .int v15), (2, .int v14), (0, .int p1), (1, .int p2)]) 1 dX11_ithOf_31 rfl (by decide) (by decide) (by omega) (by omega) (fun _ => rfl) (fun v15 ev15 hv15 => ?_)
            replace E := zLet_s (zinc ev15 (by decide)) E
            refine zg_goto X 4 dX11_ithOf_34 (by decide) ?_
            refine zg_sub [0, 1, 2, 3] rfl ?_
            exact ihLp5 v15 v14   E  (by omega) (by omega) 
          · skip
            replace E := zIf_t c13 E
            refine zg_iload_n X 0 rfl dX11_ithOf_26 ?_
            exact ret _ _ _ _ dX11_ithOf_27 rfl ⟨⟨E.symm.trans hR, trivial⟩, rfl⟩
        · skip
          replace E := zIf_t c12 E
          refine zg_goto X 31 dX11_ithOf_18 (by decide) ?_
          refine zg_iinc X 1 (fun v16 => [(3, .int v16), (2, .int x4), (0, .int p1), (1, .int p2)]) 0 dX11_ithOf_31 rfl (by decide) (by decide) (by omega) (by omega) (fun _ => rfl) (fun v16 ev16 hv16 => ?_)
          replace E := zLet_s (zinc ev16 (by decide)) E
          refine zg_goto X 4 dX11_ithOf_34 (by decide) ?_
          refine zg_sub [0, 1, 2, 3] rfl ?_
          exact ihLp5 v16 x4   E  (by omega) (by omega) 
  refine zg_sub [0, 1, 2, 3] rfl ?_
  exact Lp5 10000 v2 v1   E  (by omega) (by omega) 
set_option maxHeartbeats 4000000 in
set_option maxRecDepth 100000 in
theorem t_X11_isEarlier (l : Launch) (d : zD2) (L : List Nat) (kd : Nat → Nat) (σ : zS) (p1 : Int32) (p2 : Int32) : zMi l yX11_isEarlier (Cond.code yX11_isEarlier cX11_isEarlier 3 (some .boolean) :: zWL) 1 [.int p1, .int p2] d L kd σ (fun v σ2 => (v = F_X11_isEarlier p1 p2 ∧ ((0 ≤ v.toInt ∧ v.toInt ≤ 1))) ∧ σ = σ2) := by
  refine zMi.of (own := RX11) (by decide +kernel) rfl rfl (Nat.le_of_ble_eq_true rfl) ?_
  intro p e s m args below meth c A Q X ret
  refine zg_lv (lv2 := [(0, .int p1), (1, .int p2)]) rfl ?_
  obtain ⟨R, hR⟩ : ∃ R, R = F_X11_isEarlier p1 p2 := ⟨_, rfl⟩
  have E := hR
  unfold F_X11_isEarlier at E
  refine zg_iconst X 0 dX11_isEarlier_0 (by decide) (fun v1 _ hv1 => ?_)
  replace E := zLet_s (zcst hv1 (by decide)) E
  refine zg_istore_n X [(2, .int v1), (0, .int p1), (1, .int p2)] dX11_isEarlier_1 (by decide) rfl ?_
  have Lp3 : ∀ (nLp3 : Nat) (x2 : Int32), R = F_X11_isEarlier_2 p1 p2  nLp3 x2 → 0 ≤ x2.toInt ∧ x2.toInt ≤ 3 → (3) - x2.toInt + 1 < (nLp3 : Int) → zG d L kd A 3 p l e (k2_rm 1 (100 * 1)) s m args below meth c Q σ 2 [(2, .int x2), (0, .int p1), (1, .int p2)] [] := by
    intro nLp3
    induction nLp3 with
    | zero => intro x2  E  hxLp3 hm ; exact absurd hm (by omega)
    | succ nLp3 ihLp3 =>
      intro x2  E  hxLp3 hmLp3 
      rw [F_X11_isEarlier_2] at E
      refine zg_iload_n X 0 rfl dX11_isEarlier_2 ?_
      refine zg_iconst X 3 dX11_isEarlier_3 (by decide) (fun v4 _ hv4 => ?_)
      replace E := zLet_s (zcst hv4 (by decide)) E
      refine zg_icmp_ge X 45 dX11_isEarlier_4 (by decide) (fun c5 => ?_) (fun c5 => ?_)
      · skip
        replace E := zIf_f (Int.not_lt.mpr c5) E
        refine zg_iconst X 0 dX11_isEarlier_45 (by decide) (fun v6 _ hv6 => ?_)
        replace E := zLet_s (zcst hv6 (by decide)) E
        exact ret _ _ _ _ dX11_isEarlier_46 (zb_bool ⟨by omega, by omega⟩) ⟨⟨E.symm.trans hR, ⟨by omega, by omega⟩⟩, rfl⟩
      · skip
        replace E := zIf_t c5 E
        refine zg_iload_n X 1 rfl dX11_isEarlier_7 ?_
        refine zg_iload_n X 0 rfl dX11_isEarlier_8 ?_
        refine zg_cSi (As := [.int p1, .int x2]) (st := []) X (t_X11_ithOf l d L kd _ p1 x2 ) mk_X11_420 mc_X11_ithOf mz_X11 ms_X11_ithOf (na := 2) ⟨md_X11.1, md_X11.2, by decide +kernel⟩ rfl ⟨by decide, by decide⟩ (Nat.le_of_ble_eq_true rfl) dX11_isEarlier_9 (fun v7 σ2 hq => ?_)
        obtain ⟨⟨hF, hv7⟩, rfl⟩ := hq
        replace E := zLet_s hF E
        refine zg_iload_n X 2 rfl dX11_isEarlier_12 ?_
        refine zg_iload_n X 0 rfl dX11_isEarlier_13 ?_
        refine zg_cSi (As := [.int p2, .int x2]) (st := [.int v7]) X (t_X11_ithOf l d L kd _ p2 x2 ) mk_X11_420 mc_X11_ithOf mz_X11 ms_X11_ithOf (na := 2) ⟨md_X11.1, md_X11.2, by decide +kernel⟩ rfl ⟨by decide, by decide⟩ (Nat.le_of_ble_eq_true rfl) dX11_isEarlier_14 (fun v8 σ2 hq => ?_)
        obtain ⟨⟨hF, hv8⟩, rfl⟩ := hq
        replace E := zLet_s hF E
        refine zg_icmp_eq X 39 dX11_isEarlier_17 (by decide) (fun c9 => ?_) (fun c9 => ?_)
        · skip
          replace E := zIf_t c9 E
          refine zg_iinc X 1 (fun v10 => [(2, .int v10), (0, .int p1), (1, .int p2)]) 0 dX11_isEarlier_39 rfl (by decide) (by decide) (by omega) (by omega) (fun _ => rfl) (fun v10 ev10 hv10 => ?_)
          replace E := zLet_s (zinc ev10 (by decide)) E
          refine zg_goto X 2 dX11_isEarlier_42 (by decide) ?_
          refine zg_sub [0, 1, 2] rfl ?_
          exact ihLp3 v10   E  (by omega) (by omega) 
        · skip
          replace E := zIf_f c9 E
          refine zg_iload_n X 1 rfl dX11_isEarlier_20 ?_
          refine zg_iload_n X 0 rfl dX11_isEarlier_21 ?_
          refine zg_cSi (As := [.int p1, .int x2]) (st := []) X (t_X11_ithOf l d L kd _ p1 x2 ) mk_X11_420 mc_X11_ithOf mz_X11 ms_X11_ithOf (na := 2) ⟨md_X11.1, md_X11.2, by decide +kernel⟩ rfl ⟨by decide, by decide⟩ (Nat.le_of_ble_eq_true rfl) dX11_isEarlier_22 (fun v11 σ2 hq => ?_)
          obtain ⟨⟨hF, hv11⟩, rfl⟩ := hq
          replace E := zLet_s hF E
          refine zg_iload_n X 2 rfl dX11_isEarlier_25 ?_
          refine zg_iload_n X 0 rfl dX11_isEarlier_26 ?_
          refine zg_cSi (As := [.int p2, .int x2]) (st := [.int v11]) X (t_X11_ithOf l d L kd _ p2 x2 ) mk_X11_420 mc_X11_ithOf mz_X11 ms_X11_ithOf (na := 2) ⟨md_X11.1, md_X11.2, by decide +kernel⟩ rfl ⟨by decide, by decide⟩ (Nat.le_of_ble_eq_true rfl) dX11_isEarlier_27 (fun v12 σ2 hq => ?_)
          obtain ⟨⟨hF, hv12⟩, rfl⟩ := hq
          replace E := zLet_s hF E
          have zv11_z13 := zb_rng v11
          have zv12_z14 := zb_rng v12
          refine zg_icmp_ge X 37 dX11_isEarlier_30 (by decide) (fun c15 => ?_) (fun c15 => ?_)
          · skip
            replace E := zIf_f (Int.not_lt.mpr c15) E
            refine zg_iconst X 0 dX11_isEarlier_37 (by decide) (fun v16 _ hv16 => ?_)
            replace E := zLet_s (zcst hv16 (by decide)) E
            exact ret _ _ _ _ dX11_isEarlier_38 (zb_bool ⟨by omega, by omega⟩) ⟨⟨E.symm.trans hR, ⟨by omega, by omega⟩⟩, rfl⟩
          · skip
            replace E := zIf_t c15 E
            refine zg_iconst X 1 dX11_isEarlier_33 (by decide) (fun v17 _ hv17 => ?_)
            replace E := zLet_s (zcst hv17 (by decide)) E
            refine zg_goto X 38 dX11_isEarlier_34 (by decide) ?_
            exact ret _ _ _ _ dX11_isEarlier_38 (zb_bool ⟨by omega, by omega⟩) ⟨⟨E.symm.trans hR, ⟨by omega, by omega⟩⟩, rfl⟩
  refine zg_sub [0, 1, 2] rfl ?_
  exact Lp3 10000 v1   E  (by omega) (by omega) 
set_option maxHeartbeats 4000000 in
set_option maxRecDepth 100000 in
theorem t_X11_mixed (l : Launch) (d : zD2) (L : List Nat) (kd : Nat → Nat) (σ : zS) (p1 : Int32) (p2 : Int32) : zMi l yX11_mixed (Cond.code yX11_mixed cX11_mixed 3 (some .int) :: zWL) 0 [.int p1, .int p2] d L kd σ (fun v σ2 => (v = F_X11_mixed p1 p2 ∧ (True)) ∧ σ = σ2) := by
  refine zMi.of (own := RX11) (by decide +kernel) rfl rfl (Nat.le_of_ble_eq_true rfl) ?_
  intro p e s m args below meth c A Q X ret
  refine zg_lv (lv2 := [(0, .int p1), (1, .int p2)]) rfl ?_
  obtain ⟨R, hR⟩ : ∃ R, R = F_X11_mixed p1 p2 := ⟨_, rfl⟩
  have E := hR
  unfold F_X11_mixed at E
  refine zg_iload_n X 0 rfl dX11_mixed_0 ?_
  refine zg_iload_n X 1 rfl dX11_mixed_1 ?_
  refine zg_ixorW X dX11_mixed_2 (fun v1 ev1 => ?_)
  replace E := zLet_s ev1 E
  refine zg_ldcwE X wk_X11_335 dX11_mixed_3 (fun v2 ev2 => ?_)
  replace E := zLet_s ev2 E
  refine zg_imulW X dX11_mixed_6 (fun v3 ev3 => ?_)
  replace E := zLet_s ev3 E
  refine zg_sipush X 12345 dX11_mixed_7 (by decide) (fun v4 _ hv4 => ?_)
  replace E := zLet_s (zcst hv4 (by decide)) E
  refine zg_iaddW X dX11_mixed_10 (fun v5 ev5 => ?_)
  replace E := zLet_s ev5 E
  refine zg_istore_n X [(2, .int v5), (0, .int p1), (1, .int p2)] dX11_mixed_11 (by decide) rfl ?_
  refine zg_iload_n X 0 rfl dX11_mixed_12 ?_
  refine zg_iload_n X 0 rfl dX11_mixed_13 ?_
  refine zg_bipush X 15 dX11_mixed_14 (by decide) (fun v6 _ hv6 => ?_)
  replace E := zLet_s (zcst hv6 (by decide)) E
  refine zg_iushrW X dX11_mixed_16 (fun v7 ev7 => ?_)
  replace E := zLet_s ev7 E
  refine zg_ixorW X dX11_mixed_17 (fun v8 ev8 => ?_)
  replace E := zLet_s ev8 E
  exact ret _ _ _ _ dX11_mixed_18 rfl ⟨⟨E.symm.trans hR, trivial⟩, rfl⟩
set_option maxHeartbeats 4000000 in
set_option maxRecDepth 100000 in
theorem t_X11_many (l : Launch) (d : zD2) (L : List Nat) (kd : Nat → Nat) (κ : Int) (σ : zS) (hI : zJ κ L kd σ) (a0 : Nat) (ha0 : zT L kd a0 11) : zMi l yX11_many (Cond.code yX11_many cX11_many 1 (some .int) :: zWL) 0 [.ref a0] d L kd σ (fun v σ2 => (v = F_X11_many a0 σ ∧ (((0 ≤ v.toInt ∧ v.toInt ≤ 12)) ∧ (v.toInt = zM a0 σ))) ∧ σ = σ2) := by
  refine zMi.of (own := RX11) (by decide +kernel) rfl rfl (Nat.le_of_ble_eq_true rfl) ?_
  intro p e s m args below meth c A Q X ret
  refine zg_lv (lv2 := [(0, .ref a0)]) rfl ?_
  obtain ⟨R, hR⟩ : ∃ R, R = F_X11_many a0 σ := ⟨_, rfl⟩
  have E := hR
  unfold F_X11_many at E
  refine zg_aload_n X 0 rfl dX11_many_0 ?_
  refine fg_X11_43 X hI ha0 dX11_many_1 (fun v1 ev1 hv1 => ?_)
  replace E := zLet_s (zgr ev1) E
  refine zg_aload_n X 0 rfl dX11_many_4 ?_
  refine fg_X11_236 X hI ha0 dX11_many_5 (fun v2 ev2 hv2 => ?_)
  replace E := zLet_s ev2 E
  have kv2 : (σ.1 a0 18).toInt = v2.toInt := by rw [ev2]
  refine ag_121 X hI hv1 (by omega) (by omega) dX11_many_8 (fun v3 ev3 hv3 => ?_)
  replace E := zLet_s ev3 E
  have qv3 := zp_ld ev1 ev3
  rw [← kv2] at qv3
  exact ret _ _ _ _ dX11_many_9 rfl ⟨⟨E.symm.trans hR, ⟨⟨by omega, by omega⟩, (by unfold zM; exact qv3)⟩⟩, rfl⟩
set_option maxHeartbeats 4000000 in
set_option maxRecDepth 100000 in
theorem t_X11_isPlace (l : Launch) (d : zD2) (L : List Nat) (kd : Nat → Nat) (κ : Int) (σ : zS) (hI : zJ κ L kd σ) (a0 : Nat) (ha0 : zT L kd a0 11) (p1 : Int32) : zMi l yX11_isPlace (Cond.code yX11_isPlace cX11_isPlace 2 (some .boolean) :: zWL) 1 [.ref a0, .int p1] d L kd σ (fun v σ2 => (v = F_X11_isPlace a0 p1 σ ∧ (((0 ≤ v.toInt ∧ v.toInt ≤ 1)) ∧ (((v.toInt = 1 ∧ 0 ≤ p1.toInt ∧ p1.toInt < zM a0 σ) ∨ (v.toInt = 0 ∧ (p1.toInt < 0 ∨ zM a0 σ ≤ p1.toInt)))))) ∧ σ = σ2) := by
  refine zMi.of (own := RX11) (by decide +kernel) rfl rfl (Nat.le_of_ble_eq_true rfl) ?_
  intro p e s m args below meth c A Q X ret
  refine zg_lv (lv2 := [(0, .ref a0), (1, .int p1)]) rfl ?_
  obtain ⟨R, hR⟩ : ∃ R, R = F_X11_isPlace a0 p1 σ := ⟨_, rfl⟩
  have E := hR
  unfold F_X11_isPlace at E
  refine zg_iload_n X 1 rfl dX11_isPlace_0 ?_
  refine zg_iconst X 0 dX11_isPlace_1 (by decide) (fun v1 _ hv1 => ?_)
  replace E := zLet_s (zcst hv1 (by decide)) E
  refine zg_aload_n X 0 rfl dX11_isPlace_2 ?_
  refine zg_cVi (As := []) (st := [.int v1, .int p1]) X ha0 rfl (by decide) rfl (t_X11_many l d L kd κ _ hI a0 ha0   ) mk_X11_313 mc_X11_many mz_X11 mi_X11_many ml_X11_many (na := 0) ⟨md_X11.1, md_X11.2, by decide +kernel⟩ rfl ⟨by decide, by decide⟩ (Nat.le_of_ble_eq_true rfl) dX11_isPlace_3 (fun v3 t2 hq => ?_)
  obtain ⟨⟨hF, ⟨ht2_res, ht2_fact0⟩⟩, rfl⟩ := hq
  replace E := zLet_s hF E
  refine zg_iconst X 1 dX11_isPlace_6 (by decide) (fun v4 _ hv4 => ?_)
  replace E := zLet_s (zcst hv4 (by decide)) E
  refine zg_isub X dX11_isPlace_7 (by omega) (by omega) (fun v5 ev5 hv5 => ?_)
  replace E := zLet_s ev5 E
  refine zg_cSi (As := [.int p1, .int v1, .int v5]) (st := []) X (t_X11_in l d L kd _ p1 v1 v5 ) mk_X11_316 mc_X11_in mz_X11 ms_X11_in (na := 3) ⟨md_X11.1, md_X11.2, by decide +kernel⟩ rfl ⟨by decide, by decide⟩ (Nat.le_of_ble_eq_true rfl) dX11_isPlace_8 (fun v6 σ2 hq => ?_)
  obtain ⟨⟨hF, hv6⟩, rfl⟩ := hq
  replace E := zLet_s hF E
  exact ret _ _ _ _ dX11_isPlace_11 (zb_bool ⟨by omega, by omega⟩) ⟨⟨E.symm.trans hR, ⟨⟨by omega, by omega⟩, (by omega)⟩⟩, rfl⟩
set_option maxHeartbeats 4000000 in
set_option maxRecDepth 100000 in
theorem t_X11_isBeside (l : Launch) (d : zD2) (L : List Nat) (kd : Nat → Nat) (κ : Int) (σ : zS) (hI : zJ κ L kd σ) (a0 : Nat) (ha0 : zT L kd a0 11) (p1 : Int32) : zMi l yX11_isBeside (Cond.code yX11_isBeside cX11_isBeside 2 (some .boolean) :: zWL) 1 [.ref a0, .int p1] d L kd σ (fun v σ2 => (v = F_X11_isBeside a0 p1 σ ∧ (((0 ≤ v.toInt ∧ v.toInt ≤ 1)) ∧ (((v.toInt = 1 ∧ 1 ≤ p1.toInt ∧ p1.toInt < zM a0 σ) ∨ (v.toInt = 0 ∧ (p1.toInt < 1 ∨ zM a0 σ ≤ p1.toInt)))))) ∧ σ = σ2) := by
  refine zMi.of (own := RX11) (by decide +kernel) rfl rfl (Nat.le_of_ble_eq_true rfl) ?_
  intro p e s m args below meth c A Q X ret
  refine zg_lv (lv2 := [(0, .ref a0), (1, .int p1)]) rfl ?_
  obtain ⟨R, hR⟩ : ∃ R, R = F_X11_isBeside a0 p1 σ := ⟨_, rfl⟩
  have E := hR
  unfold F_X11_isBeside at E
  refine zg_iload_n X 1 rfl dX11_isBeside_0 ?_
  refine zg_iconst X 1 dX11_isBeside_1 (by decide) (fun v1 _ hv1 => ?_)
  replace E := zLet_s (zcst hv1 (by decide)) E
  refine zg_aload_n X 0 rfl dX11_isBeside_2 ?_
  refine zg_cVi (As := []) (st := [.int v1, .int p1]) X ha0 rfl (by decide) rfl (t_X11_many l d L kd κ _ hI a0 ha0   ) mk_X11_313 mc_X11_many mz_X11 mi_X11_many ml_X11_many (na := 0) ⟨md_X11.1, md_X11.2, by decide +kernel⟩ rfl ⟨by decide, by decide⟩ (Nat.le_of_ble_eq_true rfl) dX11_isBeside_3 (fun v3 t2 hq => ?_)
  obtain ⟨⟨hF, ⟨ht2_res, ht2_fact0⟩⟩, rfl⟩ := hq
  replace E := zLet_s hF E
  refine zg_iconst X 1 dX11_isBeside_6 (by decide) (fun v4 _ hv4 => ?_)
  replace E := zLet_s (zcst hv4 (by decide)) E
  refine zg_isub X dX11_isBeside_7 (by omega) (by omega) (fun v5 ev5 hv5 => ?_)
  replace E := zLet_s ev5 E
  refine zg_cSi (As := [.int p1, .int v1, .int v5]) (st := []) X (t_X11_in l d L kd _ p1 v1 v5 ) mk_X11_316 mc_X11_in mz_X11 ms_X11_in (na := 3) ⟨md_X11.1, md_X11.2, by decide +kernel⟩ rfl ⟨by decide, by decide⟩ (Nat.le_of_ble_eq_true rfl) dX11_isBeside_8 (fun v6 σ2 hq => ?_)
  obtain ⟨⟨hF, hv6⟩, rfl⟩ := hq
  replace E := zLet_s hF E
  exact ret _ _ _ _ dX11_isBeside_11 (zb_bool ⟨by omega, by omega⟩) ⟨⟨E.symm.trans hR, ⟨⟨by omega, by omega⟩, (by omega)⟩⟩, rfl⟩
set_option maxHeartbeats 4000000 in
set_option maxRecDepth 100000 in
theorem t_X11_byteAt (l : Launch) (d : zD2) (L : List Nat) (kd : Nat → Nat) (κ : Int) (σ : zS) (hI : zJ κ L kd σ) (a0 : Nat) (ha0 : zT L kd a0 11) (p1 : Int32) (hq0 : 0 ≤ p1.toInt) : zMi l yX11_byteAt (Cond.code yX11_byteAt cX11_byteAt 2 (some .int) :: zWL) 0 [.ref a0, .int p1] d L kd σ (fun v σ2 => (v = F_X11_byteAt a0 p1 σ ∧ ((v.toInt = 0 ∨ p1.toInt < (σ.1 a0 4).toInt))) ∧ σ = σ2) := by
  refine zMi.of (own := RX11) (by decide +kernel) rfl rfl (Nat.le_of_ble_eq_true rfl) ?_
  intro p e s m args below meth c A Q X ret
  refine zg_lv (lv2 := [(0, .ref a0), (1, .int p1)]) rfl ?_
  obtain ⟨R, hR⟩ : ∃ R, R = F_X11_byteAt a0 p1 σ := ⟨_, rfl⟩
  have E := hR
  unfold F_X11_byteAt at E
  refine zg_iload_n X 1 rfl dX11_byteAt_0 ?_
  refine zg_aload_n X 0 rfl dX11_byteAt_1 ?_
  refine fg_X11_175 X hI ha0 dX11_byteAt_2 (fun v1 ev1 hv1 => ?_)
  replace E := zLet_s ev1 E
  have kv1 : (σ.1 a0 4).toInt = v1.toInt := by rw [ev1]
  have zp1_z2 := zb_rng p1
  refine zg_icmp_ge X 21 dX11_byteAt_5 (by decide) (fun c3 => ?_) (fun c3 => ?_)
  · skip
    replace E := zIf_f (Int.not_lt.mpr c3) E
    refine zg_iconst X 0 dX11_byteAt_21 (by decide) (fun v4 _ hv4 => ?_)
    replace E := zLet_s (zcst hv4 (by decide)) E
    exact ret _ _ _ _ dX11_byteAt_22 rfl ⟨⟨E.symm.trans hR, (by omega)⟩, rfl⟩
  · skip
    replace E := zIf_t c3 E
    refine zg_aload_n X 0 rfl dX11_byteAt_8 ?_
    refine fg_X11_17 X hI ha0 dX11_byteAt_9 (fun v5 ev5 hv5 => ?_)
    replace E := zLet_s (zgr ev5) E
    refine zg_iload_n X 1 rfl dX11_byteAt_12 ?_
    refine ag_103 X hI hv5 (by omega) (by omega) dX11_byteAt_13 (fun v6 ev6 hv6 => ?_)
    replace E := zLet_s ev6 E
    refine zg_sipush X 255 dX11_byteAt_14 (by decide) (fun v7 _ hv7 => ?_)
    replace E := zLet_s (zcst hv7 (by decide)) E
    refine zg_iandW X dX11_byteAt_17 (fun v8 ev8 => ?_)
    replace E := zLet_s ev8 E
    refine zg_goto X 22 dX11_byteAt_18 (by decide) ?_
    exact ret _ _ _ _ dX11_byteAt_22 rfl ⟨⟨E.symm.trans hR, (by omega)⟩, rfl⟩
set_option maxHeartbeats 4000000 in
set_option maxRecDepth 100000 in
theorem t_X11_place (l : Launch) (d : zD2) (L : List Nat) (kd : Nat → Nat) (κ : Int) (σ : zS) (hI : zJ κ L kd σ) (a0 : Nat) (ha0 : zT L kd a0 11) : zMi l yX11_place (Cond.code yX11_place cX11_place 1 (some .int) :: zWL) 0 [.ref a0] d L kd σ (fun v σ2 => v = F_X11_place a0 σ ∧ σ = σ2) := by
  refine zMi.of (own := RX11) (by decide +kernel) rfl rfl (Nat.le_of_ble_eq_true rfl) ?_
  intro p e s m args below meth c A Q X ret
  refine zg_lv (lv2 := [(0, .ref a0)]) rfl ?_
  obtain ⟨R, hR⟩ : ∃ R, R = F_X11_place a0 σ := ⟨_, rfl⟩
  have E := hR
  unfold F_X11_place at E
  refine zg_aload_n X 0 rfl dX11_place_0 ?_
  refine fg_X11_37 X hI ha0 dX11_place_1 (fun v1 ev1 _ => ?_)
  replace E := zLet_s ev1 E
  exact ret _ _ _ _ dX11_place_4 rfl ⟨E.symm.trans hR, rfl⟩
set_option maxHeartbeats 4000000 in
set_option maxRecDepth 100000 in
theorem t_X11_fail (l : Launch) (d : zD2) (L : List Nat) (kd : Nat → Nat) (κ : Int) (σ : zS) (hI : zJ κ L kd σ) (a0 : Nat) (ha0 : zT L kd a0 11) (p1 : Int32) (hq0 : 1 ≤ p1.toInt) : zMv l yX11_fail (Cond.code yX11_fail cX11_fail 2 none :: zWL) 0 [.ref a0, .int p1] d L kd σ (fun σ2 => σ2 = F_X11_fail a0 p1 σ ∧ ((0 < (σ2.1 a0 13).toInt) ∧ zJ κ L kd σ2 ∧ zSame a0 [13, 14] [] L kd σ σ2)) := by
  refine zMv.of (own := RX11) (by decide +kernel) rfl rfl (Nat.le_of_ble_eq_true rfl) ?_
  intro p e s m args below meth c A Q X ret
  have hS : zSame a0 [13, 14] [] L kd σ σ := zSame.rf
  refine zg_lv (lv2 := [(0, .ref a0), (1, .int p1)]) rfl ?_
  obtain ⟨R, hR⟩ : ∃ R, R = F_X11_fail a0 p1 σ := ⟨_, rfl⟩
  have E := hR
  unfold F_X11_fail at E
  refine zg_aload_n X 0 rfl dX11_fail_0 ?_
  refine fg_X11_206 X hI ha0 dX11_fail_1 (fun v1 ev1 hv1 => ?_)
  replace E := zLet_s ev1 E
  have kv1 : (σ.1 a0 13).toInt = v1.toInt := by rw [ev1]
  refine zg_if_le X 8 dX11_fail_4 (by decide) (fun c2 => ?_) (fun c2 => ?_)
  · skip
    replace E := zIf_f (Int.not_lt.mpr c2) E
    refine zg_aload_n X 0 rfl dX11_fail_8 ?_
    refine zg_iload_n X 1 rfl dX11_fail_9 ?_
    have zzz3 := zb_rng p1
    refine fp_X11_206 X hI ha0 ⟨by omega, by omega⟩ dX11_fail_10 (fun s4 es4 hI => ?_)
    replace E := zLet_s es4 E
    have g5 := (zSame.rf (o := a0) (Wf := [13]) (Wa := []) (L := L) (kd := kd) (σ := σ)).f ha0 es4 rfl
    have hS := hS.tr g5 (by decide) (by decide)
    have fs4_13 : (s4.1 a0 13).toInt = p1.toInt := by rw [es4]; exact congrArg _ (zu_s _ _ _ _)
    have e6 : p1 = s4.1 a0 13 := by rw [es4]; exact zm_s
    refine zg_aload_n X 0 rfl dX11_fail_13 ?_
    refine zg_aload_n X 0 rfl dX11_fail_14 ?_
    refine fg_X11_24 X hI ha0 dX11_fail_15 (fun v7 ev7 hv7 => ?_)
    replace E := zLet_s (zgr ev7) E
    refine zg_aload_n X 0 rfl dX11_fail_18 ?_
    refine fg_X11_209 X hI ha0 dX11_fail_19 (fun v8 ev8 hv8 => ?_)
    replace E := zLet_s ev8 E
    refine ag_106 X hI hv7 (by omega) (by omega) dX11_fail_22 (fun v9 ev9 _ => ?_)
    replace E := zLet_s ev9 E
    refine fp_X11_212 X hI ha0 (zb_rng _) dX11_fail_23 (fun s10 es10 hI => ?_)
    replace E := zLet_s es10 E
    have g11 := (zSame.rf (o := a0) (Wf := [14]) (Wa := []) (L := L) (kd := kd) (σ := s4)).f ha0 es10 rfl
    have fs10_13 : (s10.1 a0 13).toInt = (s4.1 a0 13).toInt := by rw [g11.2.1 13 (by decide)]
    have hS := hS.tr g11 (by decide) (by decide)
    have e12 := g11.v e6 (by decide)
    have e13 := g11.v ev8 (by decide)
    have fs10_14 : (s10.1 a0 14).toInt = v9.toInt := by rw [es10]; exact congrArg _ (zu_s _ _ _ _)
    have e14 : v9 = s10.1 a0 14 := by rw [es10]; exact zm_s
    exact ret _ _ _ dX11_fail_26 ⟨E.symm.trans hR, ⟨(by omega), hI, hS⟩⟩
  · skip
    replace E := zIf_t c2 E
    exact ret _ _ _ dX11_fail_7 ⟨E.symm.trans hR, ⟨(by omega), hI, hS⟩⟩
set_option maxHeartbeats 4000000 in
set_option maxRecDepth 100000 in
theorem t_X11_is (l : Launch) (d : zD2) (L : List Nat) (kd : Nat → Nat) (κ : Int) (σ : zS) (hI : zJ κ L kd σ) (a0 : Nat) (ha0 : zT L kd a0 11) (p1 : Int32) : zMi l yX11_is (Cond.code yX11_is cX11_is 2 (some .boolean) :: zWL) 0 [.ref a0, .int p1] d L kd σ (fun v σ2 => (v = F_X11_is a0 p1 σ ∧ (((0 ≤ v.toInt ∧ v.toInt ≤ 1)) ∧ (((v.toInt = 1 ∧ (σ.1 a0 13).toInt = 0 ∧ zp a0 σ 5 (σ.1 a0 11).toInt = p1.toInt) ∨ (v.toInt = 0 ∧ (1 ≤ (σ.1 a0 13).toInt ∨ zp a0 σ 5 (σ.1 a0 11).toInt ≠ p1.toInt)))))) ∧ σ = σ2) := by
  refine zMi.of (own := RX11) (by decide +kernel) rfl rfl (Nat.le_of_ble_eq_true rfl) ?_
  intro p e s m args below meth c A Q X ret
  refine zg_lv (lv2 := [(0, .ref a0), (1, .int p1)]) rfl ?_
  obtain ⟨R, hR⟩ : ∃ R, R = F_X11_is a0 p1 σ := ⟨_, rfl⟩
  have E := hR
  unfold F_X11_is at E
  refine zg_aload_n X 0 rfl dX11_is_0 ?_
  refine fg_X11_206 X hI ha0 dX11_is_1 (fun v1 ev1 hv1 => ?_)
  replace E := zLet_s ev1 E
  have kv1 : (σ.1 a0 13).toInt = v1.toInt := by rw [ev1]
  refine zg_if_ne X 24 dX11_is_4 (by decide) (fun c2 => ?_) (fun c2 => ?_)
  · skip
    replace E := zIf_f c2 E
    refine zg_iconst X 0 dX11_is_24 (by decide) (fun v3 _ hv3 => ?_)
    replace E := zLet_s (zcst hv3 (by decide)) E
    exact ret _ _ _ _ dX11_is_25 (zb_bool ⟨by omega, by omega⟩) ⟨⟨E.symm.trans hR, ⟨⟨by omega, by omega⟩, (by omega)⟩⟩, rfl⟩
  · skip
    replace E := zIf_t c2 E
    refine zg_aload_n X 0 rfl dX11_is_7 ?_
    refine fg_X11_20 X hI ha0 dX11_is_8 (fun v4 ev4 hv4 => ?_)
    replace E := zLet_s (zgr ev4) E
    refine zg_aload_n X 0 rfl dX11_is_11 ?_
    refine fg_X11_209 X hI ha0 dX11_is_12 (fun v5 ev5 hv5 => ?_)
    replace E := zLet_s ev5 E
    have kv5 : (σ.1 a0 11).toInt = v5.toInt := by rw [ev5]
    refine ag_105 X hI hv4 (by omega) (by omega) dX11_is_15 (fun v6 ev6 _ => ?_)
    replace E := zLet_s ev6 E
    have qv6 := zp_ld ev4 ev6
    rw [← kv5] at qv6
    refine zg_iload_n X 1 rfl dX11_is_16 ?_
    refine zg_icmp_ne X 24 dX11_is_17 (by decide) (fun c7 => ?_) (fun c7 => ?_)
    · skip
      replace E := zIf_f c7 E
      refine zg_iconst X 0 dX11_is_24 (by decide) (fun v8 _ hv8 => ?_)
      replace E := zLet_s (zcst hv8 (by decide)) E
      exact ret _ _ _ _ dX11_is_25 (zb_bool ⟨by omega, by omega⟩) ⟨⟨E.symm.trans hR, ⟨⟨by omega, by omega⟩, (by omega)⟩⟩, rfl⟩
    · skip
      replace E := zIf_t c7 E
      refine zg_iconst X 1 dX11_is_20 (by decide) (fun v9 _ hv9 => ?_)
      replace E := zLet_s (zcst hv9 (by decide)) E
      refine zg_goto X 25 dX11_is_21 (by decide) ?_
      exact ret _ _ _ _ dX11_is_25 (zb_bool ⟨by omega, by omega⟩) ⟨⟨E.symm.trans hR, ⟨⟨by omega, by omega⟩, (by omega)⟩⟩, rfl⟩
set_option maxHeartbeats 4000000 in
set_option maxRecDepth 100000 in
theorem t_X11_goesOn (l : Launch) (d : zD2) (L : List Nat) (kd : Nat → Nat) (κ : Int) (σ : zS) (hI : zJ κ L kd σ) (a0 : Nat) (ha0 : zT L kd a0 11) : zMv l yX11_goesOn (Cond.code yX11_goesOn cX11_goesOn 1 none :: zWL) 1 [.ref a0] d L kd σ (fun σ2 => σ2 = F_X11_goesOn a0 σ ∧ (((((σ.1 a0 11).toInt = 400 ∧ 0 < (σ2.1 a0 13).toInt ∧ (σ2.1 a0 11).toInt = (σ.1 a0 11).toInt) ∨ ((σ.1 a0 11).toInt < 400 ∧ (σ2.1 a0 11).toInt = (σ.1 a0 11).toInt + 1 ∧ (σ2.1 a0 13).toInt = (σ.1 a0 13).toInt))) ∧ zJ κ L kd σ2 ∧ zSame a0 [11, 13, 14] [] L kd σ σ2)) := by
  refine zMv.of (own := RX11) (by decide +kernel) rfl rfl (Nat.le_of_ble_eq_true rfl) ?_
  intro p e s m args below meth c A Q X ret
  have hS : zSame a0 [11, 13, 14] [] L kd σ σ := zSame.rf
  refine zg_lv (lv2 := [(0, .ref a0)]) rfl ?_
  obtain ⟨R, hR⟩ : ∃ R, R = F_X11_goesOn a0 σ := ⟨_, rfl⟩
  have E := hR
  unfold F_X11_goesOn at E
  refine zg_aload_n X 0 rfl dX11_goesOn_0 ?_
  refine fg_X11_209 X hI ha0 dX11_goesOn_1 (fun v1 ev1 hv1 => ?_)
  replace E := zLet_s ev1 E
  have kv1 : (σ.1 a0 11).toInt = v1.toInt := by rw [ev1]
  refine zg_sipush X 400 dX11_goesOn_4 (by decide) (fun v2 _ hv2 => ?_)
  replace E := zLet_s (zcst hv2 (by decide)) E
  refine zg_icmp_ne X 18 dX11_goesOn_7 (by decide) (fun c3 => ?_) (fun c3 => ?_)
  · skip
    replace E := zIf_f c3 E
    refine zg_aload_n X 0 rfl dX11_goesOn_18 ?_
    refine zg_dup X dX11_goesOn_19 rfl ?_
    refine fg_X11_209 X hI ha0 dX11_goesOn_20 (fun v4 ev4 hv4 => ?_)
    replace E := zLet_s ev4 E
    have kv4 : (σ.1 a0 11).toInt = v4.toInt := by rw [ev4]
    have mv4 : v4.toInt = v1.toInt := by rw [ev4, ← ev1]
    refine zg_iconst X 1 dX11_goesOn_23 (by decide) (fun v5 _ hv5 => ?_)
    replace E := zLet_s (zcst hv5 (by decide)) E
    refine zg_iadd X dX11_goesOn_24 (by omega) (by omega) (fun v6 ev6 hv6 => ?_)
    replace E := zLet_s ev6 E
    refine fp_X11_209 X hI ha0 ⟨by omega, by omega⟩ dX11_goesOn_25 (fun s7 es7 hI => ?_)
    replace E := zLet_s es7 E
    have g8 := (zSame.rf (o := a0) (Wf := [11]) (Wa := []) (L := L) (kd := kd) (σ := σ)).f ha0 es7 rfl
    have fs7_13 : (s7.1 a0 13).toInt = (σ.1 a0 13).toInt := by rw [g8.2.1 13 (by decide)]
    have hS := hS.tr g8 (by decide) (by decide)
    have fs7_11 : (s7.1 a0 11).toInt = v6.toInt := by rw [es7]; exact congrArg _ (zu_s _ _ _ _)
    have e9 : v6 = s7.1 a0 11 := by rw [es7]; exact zm_s
    exact ret _ _ _ dX11_goesOn_28 ⟨E.symm.trans hR, ⟨(by omega), hI, hS⟩⟩
  · skip
    replace E := zIf_t c3 E
    refine zg_aload_n X 0 rfl dX11_goesOn_10 ?_
    refine zg_iconst X 2 dX11_goesOn_11 (by decide) (fun v10 _ hv10 => ?_)
    replace E := zLet_s (zcst hv10 (by decide)) E
    refine zg_cVv (As := [.int v10]) (st := []) X ha0 rfl (by decide) rfl (t_X11_fail l d L kd κ _ hI a0 ha0 v10  (by omega)) mk_X11_221 mc_X11_fail mz_X11 mi_X11_fail ml_X11_fail (na := 1) ⟨md_X11.1, md_X11.2, by decide +kernel⟩ rfl ⟨by decide, by decide⟩ (Nat.le_of_ble_eq_true rfl) dX11_goesOn_12 (fun t11 hq => ?_)
    obtain ⟨hF, ht11_fact0, hI, g12⟩ := hq
    replace E := zLet_s hF E
    have ft11_11 : (t11.1 a0 11).toInt = (σ.1 a0 11).toInt := by rw [g12.2.1 11 (by decide)]
    have hS := hS.tr g12 (by decide) (by decide)
    have e13 := g12.v ev1 (by decide)
    refine zg_goto X 28 dX11_goesOn_15 (by decide) ?_
    exact ret _ _ _ dX11_goesOn_28 ⟨E.symm.trans hR, ⟨(by omega), hI, hS⟩⟩
set_option maxHeartbeats 4000000 in
set_option maxRecDepth 100000 in
theorem t_X11_must (l : Launch) (d : zD2) (L : List Nat) (kd : Nat → Nat) (κ : Int) (σ : zS) (hI : zJ κ L kd σ) (a0 : Nat) (ha0 : zT L kd a0 11) (p1 : Int32) : zMv l yX11_must (Cond.code yX11_must cX11_must 2 none :: zWL) 2 [.ref a0, .int p1] d L kd σ (fun σ2 => σ2 = F_X11_must a0 p1 σ ∧ ((((0 < (σ2.1 a0 13).toInt ∧ (σ.1 a0 11).toInt ≤ (σ2.1 a0 11).toInt ∧ (σ2.1 a0 11).toInt ≤ (σ.1 a0 11).toInt + 1) ∨ ((σ.1 a0 13).toInt = 0 ∧ (σ2.1 a0 13).toInt = 0 ∧ (σ2.1 a0 11).toInt = (σ.1 a0 11).toInt + 1))) ∧ zJ κ L kd σ2 ∧ zSame a0 [11, 13, 14] [] L kd σ σ2)) := by
  refine zMv.of (own := RX11) (by decide +kernel) rfl rfl (Nat.le_of_ble_eq_true rfl) ?_
  intro p e s m args below meth c A Q X ret
  have hS : zSame a0 [11, 13, 14] [] L kd σ σ := zSame.rf
  refine zg_lv (lv2 := [(0, .ref a0), (1, .int p1)]) rfl ?_
  obtain ⟨R, hR⟩ : ∃ R, R = F_X11_must a0 p1 σ := ⟨_, rfl⟩
  have E := hR
  unfold F_X11_must at E
  refine zg_aload_n X 0 rfl dX11_must_0 ?_
  refine zg_iload_n X 1 rfl dX11_must_1 ?_
  refine zg_cVi (As := [.int p1]) (st := []) X ha0 rfl (by decide) rfl (t_X11_is l d L kd κ _ hI a0 ha0 p1  ) mk_X11_224 mc_X11_is mz_X11 mi_X11_is ml_X11_is (na := 1) ⟨md_X11.1, md_X11.2, by decide +kernel⟩ rfl ⟨by decide, by decide⟩ (Nat.le_of_ble_eq_true rfl) dX11_must_2 (fun v2 t1 hq => ?_)
  obtain ⟨⟨hF, ⟨ht1_res, ht1_fact0⟩⟩, rfl⟩ := hq
  replace E := zLet_s hF E
  refine zg_if_eq X 15 dX11_must_5 (by decide) (fun c3 => ?_) (fun c3 => ?_)
  · skip
    replace E := zIf_t c3 E
    refine zg_aload_n X 0 rfl dX11_must_15 ?_
    refine zg_iconst X 1 dX11_must_16 (by decide) (fun v4 _ hv4 => ?_)
    replace E := zLet_s (zcst hv4 (by decide)) E
    refine zg_cVv (As := [.int v4]) (st := []) X ha0 rfl (by decide) rfl (t_X11_fail l d L kd κ _ hI a0 ha0 v4  (by omega)) mk_X11_221 mc_X11_fail mz_X11 mi_X11_fail ml_X11_fail (na := 1) ⟨md_X11.1, md_X11.2, by decide +kernel⟩ rfl ⟨by decide, by decide⟩ (Nat.le_of_ble_eq_true rfl) dX11_must_17 (fun t5 hq => ?_)
    obtain ⟨hF, ht5_fact0, hI, g6⟩ := hq
    replace E := zLet_s hF E
    have ft5_11 : (t5.1 a0 11).toInt = (σ.1 a0 11).toInt := by rw [g6.2.1 11 (by decide)]
    have hS := hS.tr g6 (by decide) (by decide)
    exact ret _ _ _ dX11_must_20 ⟨E.symm.trans hR, ⟨(by omega), hI, hS⟩⟩
  · skip
    replace E := zIf_f c3 E
    refine zg_aload_n X 0 rfl dX11_must_8 ?_
    refine zg_cVv (As := []) (st := []) X ha0 rfl (by decide) rfl (t_X11_goesOn l d L kd κ _ hI a0 ha0   ) mk_X11_227 mc_X11_goesOn mz_X11 mi_X11_goesOn ml_X11_goesOn (na := 0) ⟨md_X11.1, md_X11.2, by decide +kernel⟩ rfl ⟨by decide, by decide⟩ (Nat.le_of_ble_eq_true rfl) dX11_must_9 (fun t7 hq => ?_)
    obtain ⟨hF, ht7_fact0, hI, g8⟩ := hq
    replace E := zLet_s hF E
    have hS := hS.tr g8 (by decide) (by decide)
    refine zg_goto X 20 dX11_must_12 (by decide) ?_
    exact ret _ _ _ dX11_must_20 ⟨E.symm.trans hR, ⟨(by omega), hI, hS⟩⟩
set_option maxHeartbeats 4000000 in
set_option maxRecDepth 100000 in
theorem t_X11_wrong (l : Launch) (d : zD2) (L : List Nat) (kd : Nat → Nat) (κ : Int) (σ : zS) (hI : zJ κ L kd σ) (a0 : Nat) (ha0 : zT L kd a0 11) (p1 : Int32) (p2 : Int32) (hq0 : 1 ≤ p1.toInt) (hq1 : 0 ≤ p2.toInt ∧ p2.toInt ≤ 402) : zMv l yX11_wrong (Cond.code yX11_wrong cX11_wrong 4 none :: zWL) 0 [.ref a0, .int p1, .int p2] d L kd σ (fun σ2 => σ2 = F_X11_wrong a0 p1 p2 σ ∧ ((((0 < (σ.1 a0 13).toInt ∨ (σ.1 a0 15).toInt < 0 ∨ 1 ≤ (σ2.1 a0 15).toInt)) ∧ (((1 ≤ (σ.1 a0 15).toInt → 1 ≤ (σ2.1 a0 15).toInt) ∧ (0 ≤ (σ.1 a0 15).toInt → 0 ≤ (σ2.1 a0 15).toInt)))) ∧ zJ κ L kd σ2 ∧ zSame a0 [15, 16] [] L kd σ σ2)) := by
  refine zMv.of (own := RX11) (by decide +kernel) rfl rfl (Nat.le_of_ble_eq_true rfl) ?_
  intro p e s m args below meth c A Q X ret
  have hS : zSame a0 [15, 16] [] L kd σ σ := zSame.rf
  refine zg_lv (lv2 := [(0, .ref a0), (1, .int p1), (2, .int p2)]) rfl ?_
  obtain ⟨R, hR⟩ : ∃ R, R = F_X11_wrong a0 p1 p2 σ := ⟨_, rfl⟩
  have E := hR
  unfold F_X11_wrong at E
  refine zg_aload_n X 0 rfl dX11_wrong_0 ?_
  refine fg_X11_24 X hI ha0 dX11_wrong_1 (fun v1 ev1 hv1 => ?_)
  replace E := zLet_s (zgr ev1) E
  refine zg_iload_n X 2 rfl dX11_wrong_4 ?_
  refine ag_106 X hI hv1 (by omega) (by omega) dX11_wrong_5 (fun v2 ev2 _ => ?_)
  replace E := zLet_s ev2 E
  refine zg_istore_n X [(3, .int v2), (0, .ref a0), (1, .int p1), (2, .int p2)] dX11_wrong_6 (by decide) rfl ?_
  refine zg_aload_n X 1 rfl dX11_wrong_7 ?_
  refine fg_X11_206 X hI ha0 dX11_wrong_8 (fun v3 ev3 hv3 => ?_)
  replace E := zLet_s ev3 E
  have kv3 : (σ.1 a0 13).toInt = v3.toInt := by rw [ev3]
  refine zg_if_gt X 45 dX11_wrong_11 (by decide) (fun c4 => ?_) (fun c4 => ?_)
  · skip
    replace E := zIf_t c4 E
    exact ret _ _ _ dX11_wrong_45 ⟨E.symm.trans hR, ⟨⟨(by omega), (by omega)⟩, hI, hS⟩⟩
  · skip
    replace E := zIf_f (Int.not_lt.mpr c4) E
    refine zg_aload_n X 1 rfl dX11_wrong_14 ?_
    refine fg_X11_215 X hI ha0 dX11_wrong_15 (fun v5 ev5 _ => ?_)
    replace E := zLet_s ev5 E
    have kv5 : (σ.1 a0 15).toInt = v5.toInt := by rw [ev5]
    refine zg_if_eq X 46 dX11_wrong_18 (by decide) (fun c6 => ?_) (fun c6 => ?_)
    · skip
      replace E := zIf_t c6 E
      refine zg_aload_n X 1 rfl dX11_wrong_46 ?_
      refine zg_iload_n X 2 rfl dX11_wrong_47 ?_
      refine fp_X11_215 X hI ha0 (zb_rng _) dX11_wrong_48 (fun s7 es7 hI => ?_)
      replace E := zLet_s es7 E
      have g8 := (zSame.rf (o := a0) (Wf := [15]) (Wa := []) (L := L) (kd := kd) (σ := σ)).f ha0 es7 rfl
      have fs7_13 : (s7.1 a0 13).toInt = (σ.1 a0 13).toInt := by rw [g8.2.1 13 (by decide)]
      have hS := hS.tr g8 (by decide) (by decide)
      have e9 := g8.v ev3 (by decide)
      have fs7_15 : (s7.1 a0 15).toInt = p1.toInt := by rw [es7]; exact congrArg _ (zu_s _ _ _ _)
      have e10 : p1 = s7.1 a0 15 := by rw [es7]; exact zm_s
      refine zg_aload_n X 1 rfl dX11_wrong_51 ?_
      refine zg_iload_n X 0 rfl dX11_wrong_52 ?_
      refine fp_X11_218 X hI ha0 (zb_rng _) dX11_wrong_53 (fun s11 es11 hI => ?_)
      replace E := zLet_s es11 E
      have g12 := (zSame.rf (o := a0) (Wf := [16]) (Wa := []) (L := L) (kd := kd) (σ := s7)).f ha0 es11 rfl
      have fs11_13 : (s11.1 a0 13).toInt = (s7.1 a0 13).toInt := by rw [g12.2.1 13 (by decide)]
      have fs11_15 : (s11.1 a0 15).toInt = (s7.1 a0 15).toInt := by rw [g12.2.1 15 (by decide)]
      have hS := hS.tr g12 (by decide) (by decide)
      have e13 := g12.v e9 (by decide)
      have e14 := g12.v e10 (by decide)
      have fs11_16 : (s11.1 a0 16).toInt = v2.toInt := by rw [es11]; exact congrArg _ (zu_s _ _ _ _)
      have e15 : v2 = s11.1 a0 16 := by rw [es11]; exact zm_s
      exact ret _ _ _ dX11_wrong_56 ⟨E.symm.trans hR, ⟨⟨(by omega), (by omega)⟩, hI, hS⟩⟩
    · skip
      replace E := zIf_f c6 E
      refine zg_iload_n X 0 rfl dX11_wrong_21 ?_
      refine zg_aload_n X 1 rfl dX11_wrong_22 ?_
      refine fg_X11_218 X hI ha0 dX11_wrong_23 (fun v16 ev16 _ => ?_)
      replace E := zLet_s ev16 E
      have zv2_z17 := zb_rng v2
      have zv16_z18 := zb_rng v16
      refine zg_icmp_gt X 45 dX11_wrong_26 (by decide) (fun c19 => ?_) (fun c19 => ?_)
      · skip
        replace E := zIf_t c19 E
        exact ret _ _ _ dX11_wrong_45 ⟨E.symm.trans hR, ⟨⟨(by omega), (by omega)⟩, hI, hS⟩⟩
      · skip
        replace E := zIf_f (Int.not_lt.mpr c19) E
        refine zg_iload_n X 0 rfl dX11_wrong_29 ?_
        refine zg_aload_n X 1 rfl dX11_wrong_30 ?_
        refine fg_X11_218 X hI ha0 dX11_wrong_31 (fun v20 ev20 _ => ?_)
        replace E := zLet_s ev20 E
        have mv20 : v20.toInt = v16.toInt := by rw [ev20, ← ev16]
        refine zg_icmp_ne X 46 dX11_wrong_34 (by decide) (fun c21 => ?_) (fun c21 => ?_)
        · skip
          replace E := zIf_f c21 E
          refine zg_aload_n X 1 rfl dX11_wrong_46 ?_
          refine zg_iload_n X 2 rfl dX11_wrong_47 ?_
          refine fp_X11_215 X hI ha0 (zb_rng _) dX11_wrong_48 (fun s22 es22 hI => ?_)
          replace E := zLet_s es22 E
          have g23 := (zSame.rf (o := a0) (Wf := [15]) (Wa := []) (L := L) (kd := kd) (σ := σ)).f ha0 es22 rfl
          have fs22_13 : (s22.1 a0 13).toInt = (σ.1 a0 13).toInt := by rw [g23.2.1 13 (by decide)]
          have hS := hS.tr g23 (by decide) (by decide)
          have e24 := g23.v ev3 (by decide)
          have e25 := g23.v ev20 (by decide)
          have fs22_15 : (s22.1 a0 15).toInt = p1.toInt := by rw [es22]; exact congrArg _ (zu_s _ _ _ _)
          have e26 : p1 = s22.1 a0 15 := by rw [es22]; exact zm_s
          refine zg_aload_n X 1 rfl dX11_wrong_51 ?_
          refine zg_iload_n X 0 rfl dX11_wrong_52 ?_
          refine fp_X11_218 X hI ha0 (zb_rng _) dX11_wrong_53 (fun s27 es27 hI => ?_)
          replace E := zLet_s es27 E
          have g28 := (zSame.rf (o := a0) (Wf := [16]) (Wa := []) (L := L) (kd := kd) (σ := s22)).f ha0 es27 rfl
          have fs27_13 : (s27.1 a0 13).toInt = (s22.1 a0 13).toInt := by rw [g28.2.1 13 (by decide)]
          have fs27_15 : (s27.1 a0 15).toInt = (s22.1 a0 15).toInt := by rw [g28.2.1 15 (by decide)]
          have hS := hS.tr g28 (by decide) (by decide)
          have e29 := g28.v e24 (by decide)
          have e30 := g28.v e26 (by decide)
          have fs27_16 : (s27.1 a0 16).toInt = v2.toInt := by rw [es27]; exact congrArg _ (zu_s _ _ _ _)
          have e31 : v2 = s27.1 a0 16 := by rw [es27]; exact zm_s
          exact ret _ _ _ dX11_wrong_56 ⟨E.symm.trans hR, ⟨⟨(by omega), (by omega)⟩, hI, hS⟩⟩
        · skip
          replace E := zIf_t c21 E
          refine zg_iload_n X 2 rfl dX11_wrong_37 ?_
          refine zg_aload_n X 1 rfl dX11_wrong_38 ?_
          refine fg_X11_215 X hI ha0 dX11_wrong_39 (fun v32 ev32 _ => ?_)
          replace E := zLet_s ev32 E
          have kv32 : (σ.1 a0 15).toInt = v32.toInt := by rw [ev32]
          have mv32 : v32.toInt = v5.toInt := by rw [ev32, ← ev5]
          have zp1_z33 := zb_rng p1
          have zv32_z34 := zb_rng v32
          refine zg_icmp_lt X 46 dX11_wrong_42 (by decide) (fun c35 => ?_) (fun c35 => ?_)
          · skip
            replace E := zIf_t c35 E
            refine zg_aload_n X 1 rfl dX11_wrong_46 ?_
            refine zg_iload_n X 2 rfl dX11_wrong_47 ?_
            refine fp_X11_215 X hI ha0 (zb_rng _) dX11_wrong_48 (fun s36 es36 hI => ?_)
            replace E := zLet_s es36 E
            have g37 := (zSame.rf (o := a0) (Wf := [15]) (Wa := []) (L := L) (kd := kd) (σ := σ)).f ha0 es36 rfl
            have fs36_13 : (s36.1 a0 13).toInt = (σ.1 a0 13).toInt := by rw [g37.2.1 13 (by decide)]
            have hS := hS.tr g37 (by decide) (by decide)
            have e38 := g37.v ev3 (by decide)
            have e39 := g37.v ev20 (by decide)
            have fs36_15 : (s36.1 a0 15).toInt = p1.toInt := by rw [es36]; exact congrArg _ (zu_s _ _ _ _)
            have e40 : p1 = s36.1 a0 15 := by rw [es36]; exact zm_s
            refine zg_aload_n X 1 rfl dX11_wrong_51 ?_
            refine zg_iload_n X 0 rfl dX11_wrong_52 ?_
            refine fp_X11_218 X hI ha0 (zb_rng _) dX11_wrong_53 (fun s41 es41 hI => ?_)
            replace E := zLet_s es41 E
            have g42 := (zSame.rf (o := a0) (Wf := [16]) (Wa := []) (L := L) (kd := kd) (σ := s36)).f ha0 es41 rfl
            have fs41_13 : (s41.1 a0 13).toInt = (s36.1 a0 13).toInt := by rw [g42.2.1 13 (by decide)]
            have fs41_15 : (s41.1 a0 15).toInt = (s36.1 a0 15).toInt := by rw [g42.2.1 15 (by decide)]
            have hS := hS.tr g42 (by decide) (by decide)
            have e43 := g42.v e38 (by decide)
            have e44 := g42.v e40 (by decide)
            have fs41_16 : (s41.1 a0 16).toInt = v2.toInt := by rw [es41]; exact congrArg _ (zu_s _ _ _ _)
            have e45 : v2 = s41.1 a0 16 := by rw [es41]; exact zm_s
            exact ret _ _ _ dX11_wrong_56 ⟨E.symm.trans hR, ⟨⟨(by omega), (by omega)⟩, hI, hS⟩⟩
          · skip
            replace E := zIf_f (Int.not_lt.mpr c35) E
            exact ret _ _ _ dX11_wrong_45 ⟨E.symm.trans hR, ⟨⟨(by omega), (by omega)⟩, hI, hS⟩⟩
set_option maxHeartbeats 4000000 in
set_option maxRecDepth 100000 in
theorem t_X11_keepsRow (l : Launch) (d : zD2) (L : List Nat) (kd : Nat → Nat) (κ : Int) (σ : zS) (hI : zJ κ L kd σ) (a0 : Nat) (ha0 : zT L kd a0 11) : zMv l yX11_keepsRow (Cond.code yX11_keepsRow cX11_keepsRow 2 none :: zWL) 0 [.ref a0] d L kd σ (fun σ2 => σ2 = F_X11_keepsRow a0 σ ∧ ((∀ j : Int, 0 ≤ j → j < 50 → zp a0 σ2 48 j = zp a0 σ2 49 j) ∧ zJ κ L kd σ2 ∧ zSame a0 [] [148] L kd σ σ2)) := by
  refine zMv.of (own := RX11) (by decide +kernel) rfl rfl (Nat.le_of_ble_eq_true rfl) ?_
  intro p e s m args below meth c A Q X ret
  have hS : zSame a0 [] [148] L kd σ σ := zSame.rf
  refine zg_lv (lv2 := [(0, .ref a0)]) rfl ?_
  obtain ⟨R, hR⟩ : ∃ R, R = F_X11_keepsRow a0 σ := ⟨_, rfl⟩
  have E := hR
  unfold F_X11_keepsRow at E
  refine zg_iconst X 0 dX11_keepsRow_0 (by decide) (fun v1 _ hv1 => ?_)
  replace E := zLet_s (zcst hv1 (by decide)) E
  refine zg_istore_n X [(1, .int v1), (0, .ref a0)] dX11_keepsRow_1 (by decide) rfl ?_
  have Lp3 : ∀ (nLp3 : Nat) (τ3 : zS) (x2 : Int32), zJ κ L kd τ3 → zSame a0 [] [148] L kd σ τ3 → zp a0 τ3 49 = zp a0 σ 49 → R = F_X11_keepsRow_2 a0  nLp3 x2 τ3 → 0 ≤ x2.toInt ∧ x2.toInt ≤ 50 → (50) - x2.toInt + 1 < (nLp3 : Int) → (∀ j : Int, 0 ≤ j → j < x2.toInt → zp a0 τ3 48 j = zp a0 σ 49 j) → zG d L kd A 2 p l e (k2_rm 0 (100 * 0)) s m args below meth c Q τ3 2 [(1, .int x2), (0, .ref a0)] [] := by
    intro nLp3
    induction nLp3 with
    | zero => intro τ3 x2 hI hS A49_Lp3 E  hxLp3 hm _ ; exact absurd hm (by omega)
    | succ nLp3 ihLp3 =>
      intro τ3 x2 hI hS A49_Lp3 E  hxLp3 hmLp3 hc
      rw [F_X11_keepsRow_2] at E
      refine zg_iload_n X 0 rfl dX11_keepsRow_2 ?_
      refine zg_bipush X 50 dX11_keepsRow_3 (by decide) (fun v4 _ hv4 => ?_)
      replace E := zLet_s (zcst hv4 (by decide)) E
      refine zg_icmp_ge X 26 dX11_keepsRow_5 (by decide) (fun c5 => ?_) (fun c5 => ?_)
      · skip
        replace E := zIf_f (Int.not_lt.mpr c5) E
        exact ret _ _ _ dX11_keepsRow_26 ⟨E.symm.trans hR, ⟨(fun j h0 h1 => by rw [A49_Lp3]; exact hc j h0 (by omega)), hI, hS⟩⟩
      · skip
        replace E := zIf_t c5 E
        refine zg_aload_n X 1 rfl dX11_keepsRow_8 ?_
        refine fg_X11_107 X hI ha0 dX11_keepsRow_9 (fun v6 ev6 hv6 => ?_)
        replace E := zLet_s (zgr ev6) E
        refine zg_iload_n X 0 rfl dX11_keepsRow_12 ?_
        refine zg_aload_n X 1 rfl dX11_keepsRow_13 ?_
        refine fg_X11_110 X hI ha0 dX11_keepsRow_14 (fun v7 ev7 hv7 => ?_)
        replace E := zLet_s (zgr ev7) E
        refine zg_iload_n X 0 rfl dX11_keepsRow_17 ?_
        refine ag_149 X hI hv7 (by omega) (by omega) dX11_keepsRow_18 (fun v8 ev8 _ => ?_)
        replace E := zLet_s ev8 E
        have qv8 := zp_ld ev7 ev8
        rw [A49_Lp3] at qv8
        refine as_148 X hI hv6 (by omega) (by omega) dX11_keepsRow_19 (fun s9 es9 hI => ?_)
        replace E := zLet_s es9 E
        have g10 := (zSame.rf (o := a0) (Wf := []) (Wa := [148]) (L := L) (kd := kd) (σ := τ3)).a ha0 hv6 es9 rfl (by decide)
        have rs9 := zp_st (σ := τ3) (σ2 := s9) (i := x2) (x := v8) ev6 es9 (by omega)
        have ws9 := rs9
        have hS := hS.tr g10 (by decide) (by decide)
        have us9_49 := zp_same hI ha0 g10 49 rfl (by decide) (by decide)
        have as9_49 := us9_49.trans A49_Lp3
        refine zg_iinc X 1 (fun v11 => [(1, .int v11), (0, .ref a0)]) 0 dX11_keepsRow_20 rfl (by decide) (by decide) (by omega) (by omega) (fun _ => rfl) (fun v11 ev11 hv11 => ?_)
        replace E := zLet_s (zinc ev11 (by decide)) E
        refine zg_goto X 2 dX11_keepsRow_23 (by decide) ?_
        refine zg_sub [0, 1] rfl ?_
        exact ihLp3 _ v11 hI hS as9_49 E  (by omega) (by omega) (fun j h0 h1 => by rw [ws9 j h0]; split <;> rename_i hj <;> first | (rw [hj]; exact qv8) | exact hc j h0 (by omega))
  refine zg_sub [0, 1] rfl ?_
  exact Lp3 10000 _ v1 hI hS rfl E  (by omega) (by omega) (fun j h0 h1 => absurd h1 (by omega))
set_option maxHeartbeats 4000000 in
set_option maxRecDepth 100000 in
theorem t_X11_dammedBits (l : Launch) (d : zD2) (L : List Nat) (kd : Nat → Nat) (κ : Int) (σ : zS) (hI : zJ κ L kd σ) (a0 : Nat) (ha0 : zT L kd a0 11) : zMi l yX11_dammedBits (Cond.code yX11_dammedBits cX11_dammedBits 3 (some .int) :: zWL) 1 [.ref a0] d L kd σ (fun v σ2 => v = F_X11_dammedBits a0 σ ∧ σ = σ2) := by
  refine zMi.of (own := RX11) (by decide +kernel) rfl rfl (Nat.le_of_ble_eq_true rfl) ?_
  intro p e s m args below meth c A Q X ret
  refine zg_lv (lv2 := [(0, .ref a0)]) rfl ?_
  obtain ⟨R, hR⟩ : ∃ R, R = F_X11_dammedBits a0 σ := ⟨_, rfl⟩
  have E := hR
  unfold F_X11_dammedBits at E
  refine zg_iconst X 0 dX11_dammedBits_0 (by decide) (fun v1 _ hv1 => ?_)
  replace E := zLet_s (zcst hv1 (by decide)) E
  refine zg_istore_n X [(1, .int v1), (0, .ref a0)] dX11_dammedBits_1 (by decide) rfl ?_
  refine zg_iconst X 1 dX11_dammedBits_2 (by decide) (fun v2 _ hv2 => ?_)
  replace E := zLet_s (zcst hv2 (by decide)) E
  refine zg_istore_n X [(2, .int v2), (1, .int v1), (0, .ref a0)] dX11_dammedBits_3 (by decide) rfl ?_
  have Lp5 : ∀ (nLp5 : Nat) (x3 : Int32) (x4 : Int32), R = F_X11_dammedBits_4 a0 σ  nLp5 x3 x4 → 1 ≤ x3.toInt ∧ x3.toInt ≤ 12 → (12) - x3.toInt + 1 < (nLp5 : Int) → zG d L kd A 3 p l e (k2_rm 1 (100 * 1)) s m args below meth c Q σ 4 [(2, .int x3), (1, .int x4), (0, .ref a0)] [] := by
    intro nLp5
    induction nLp5 with
    | zero => intro x3 x4  E  hxLp5 hm ; exact absurd hm (by omega)
    | succ nLp5 ihLp5 =>
      intro x3 x4  E  hxLp5 hmLp5 
      rw [F_X11_dammedBits_4] at E
      refine zg_iload_n X 0 rfl dX11_dammedBits_4 ?_
      refine zg_aload_n X 2 rfl dX11_dammedBits_5 ?_
      refine zg_cVi (As := []) (st := [.int x3]) X ha0 rfl (by decide) rfl (t_X11_many l d L kd κ _ hI a0 ha0   ) mk_X11_313 mc_X11_many mz_X11 mi_X11_many ml_X11_many (na := 0) ⟨md_X11.1, md_X11.2, by decide +kernel⟩ rfl ⟨by decide, by decide⟩ (Nat.le_of_ble_eq_true rfl) dX11_dammedBits_6 (fun v7 t6 hq => ?_)
      obtain ⟨⟨hF, ⟨ht6_res, ht6_fact0⟩⟩, rfl⟩ := hq
      replace E := zLet_s hF E
      refine zg_icmp_ge X 32 dX11_dammedBits_9 (by decide) (fun c8 => ?_) (fun c8 => ?_)
      · skip
        replace E := zIf_f (Int.not_lt.mpr c8) E
        refine zg_iload_n X 1 rfl dX11_dammedBits_32 ?_
        exact ret _ _ _ _ dX11_dammedBits_33 rfl ⟨E.symm.trans hR, rfl⟩
      · skip
        replace E := zIf_t c8 E
        refine zg_iload_n X 1 rfl dX11_dammedBits_12 ?_
        refine zg_aload_n X 2 rfl dX11_dammedBits_13 ?_
        refine fg_X11_107 X hI ha0 dX11_dammedBits_14 (fun v9 ev9 hv9 => ?_)
        replace E := zLet_s (zgr ev9) E
        refine zg_bipush X 12 dX11_dammedBits_17 (by decide) (fun v10 _ hv10 => ?_)
        replace E := zLet_s (zcst hv10 (by decide)) E
        refine zg_iload_n X 0 rfl dX11_dammedBits_19 ?_
        refine zg_iadd X dX11_dammedBits_20 (by omega) (by omega) (fun v11 ev11 hv11 => ?_)
        replace E := zLet_s ev11 E
        refine ag_148 X hI hv9 (by omega) (by omega) dX11_dammedBits_21 (fun v12 ev12 _ => ?_)
        replace E := zLet_s ev12 E
        refine zg_iload_n X 0 rfl dX11_dammedBits_22 ?_
        refine zg_ishlW X dX11_dammedBits_23 (fun v13 ev13 => ?_)
        replace E := zLet_s ev13 E
        refine zg_iorW X dX11_dammedBits_24 (fun v14 ev14 => ?_)
        replace E := zLet_s ev14 E
        refine zg_istore_n X [(1, .int v14), (2, .int x3), (0, .ref a0)] dX11_dammedBits_25 (by decide) rfl ?_
        refine zg_iinc X 1 (fun v15 => [(2, .int v15), (1, .int v14), (0, .ref a0)]) 1 dX11_dammedBits_26 rfl (by decide) (by decide) (by omega) (by omega) (fun _ => rfl) (fun v15 ev15 hv15 => ?_)
        replace E := zLet_s (zinc ev15 (by decide)) E
        refine zg_goto X 4 dX11_dammedBits_29 (by decide) ?_
        refine zg_sub [0, 1, 2] rfl ?_
        exact ihLp5 v15 v14   E  (by omega) (by omega) 
  refine zg_sub [0, 1, 2] rfl ?_
  exact Lp5 10000 v2 v1   E  (by omega) (by omega) 
set_option maxHeartbeats 4000000 in
set_option maxRecDepth 100000 in
theorem t_X11_put (l : Launch) (d : zD2) (L : List Nat) (kd : Nat → Nat) (κ : Int) (σ : zS) (hI : zJ κ L kd σ) (a0 : Nat) (ha0 : zT L kd a0 11) (p1 : Int32) (hq0 : κ ≤ 1996) : zMv l yX11_put (Cond.code yX11_put cX11_put 3 none :: zWL) 0 [.ref a0, .int p1] d L kd σ (fun σ2 => σ2 = F_X11_put a0 p1 σ ∧ (zJ (κ + 4) L kd σ2 ∧ zSame a0 [2] [101] L kd σ σ2)) := by
  refine zMv.of (own := RX11) (by decide +kernel) rfl rfl (Nat.le_of_ble_eq_true rfl) ?_
  intro p e s m args below meth c A Q X ret
  have hS : zSame a0 [2] [101] L kd σ σ := zSame.rf
  refine zg_lv (lv2 := [(0, .ref a0), (1, .int p1)]) rfl ?_
  obtain ⟨R, hR⟩ : ∃ R, R = F_X11_put a0 p1 σ := ⟨_, rfl⟩
  have E := hR
  unfold F_X11_put at E
  refine zg_bipush X 24 dX11_put_0 (by decide) (fun v1 _ hv1 => ?_)
  replace E := zLet_s (zcst hv1 (by decide)) E
  refine zg_istore_n X [(2, .int v1), (0, .ref a0), (1, .int p1)] dX11_put_2 (by decide) rfl ?_
  refine zg_iload_n X 0 rfl dX11_put_3 ?_
  refine zg_if_lt X 36 dX11_put_4 (by decide) (fun c2 => ?_) (fun c2 => ?_)
  · omega
  · skip
    replace E := zIf_f (Int.not_lt.mpr c2) E
    refine zg_aload_n X 1 rfl dX11_put_7 ?_
    refine fg_X11_13 X hI ha0 dX11_put_8 (fun v3 ev3 hv3 => ?_)
    replace E := zLet_s (zgr ev3) E
    refine zg_aload_n X 1 rfl dX11_put_11 ?_
    refine fg_X11_169 X hI ha0 dX11_put_12 (fun v4 ev4 hv4 => ?_)
    replace E := zLet_s ev4 E
    have hkv4 := hI.2.2.1
    have kv4 : (σ.1 a0 2).toInt = v4.toInt := by rw [ev4]
    refine zg_iload_n X 2 rfl dX11_put_15 ?_
    refine zg_iload_n X 0 rfl dX11_put_16 ?_
    refine zg_ishrW X dX11_put_17 (fun v5 ev5 => ?_)
    replace E := zLet_s ev5 E
    refine zg_i2b X dX11_put_18 (fun v6 ev6 => ?_)
    replace E := zLet_s ev6 E
    refine as_101 X hI hv3 (by omega) (by omega) dX11_put_19 (fun s7 es7 hI => ?_)
    replace E := zLet_s es7 E
    have g8 := (zSame.rf (o := a0) (Wf := []) (Wa := [101]) (L := L) (kd := kd) (σ := σ)).a ha0 hv3 es7 rfl (by decide)
    have fs7_2 : (s7.1 a0 2).toInt = (σ.1 a0 2).toInt := by rw [g8.2.1 2 (by decide)]
    have hS := hS.tr g8 (by decide) (by decide)
    have e9 := g8.v ev4 (by decide)
    refine zg_aload_n X 1 rfl dX11_put_20 ?_
    refine zg_dup X dX11_put_21 rfl ?_
    refine fg_X11_169 X hI ha0 dX11_put_22 (fun v10 ev10 hv10 => ?_)
    replace E := zLet_s ev10 E
    have hkv10 := hI.2.2.1
    have kv10 : (s7.1 a0 2).toInt = v10.toInt := by rw [ev10]
    have mv10 : v10.toInt = v4.toInt := by rw [ev10, ← e9]
    refine zg_iconst X 1 dX11_put_25 (by decide) (fun v11 _ hv11 => ?_)
    replace E := zLet_s (zcst hv11 (by decide)) E
    refine zg_iadd X dX11_put_26 (by omega) (by omega) (fun v12 ev12 hv12 => ?_)
    replace E := zLet_s ev12 E
    refine fq_X11_169 X ha0 dX11_put_27 (fun s13 es13 => ?_)
    replace E := zLet_s es13 E
    have hI : zJ v12.toInt L kd s13 := by rw [es13]; exact zj_taped hI ha0 (by omega) (by omega)
    have g14 := (zSame.rf (o := a0) (Wf := [2]) (Wa := []) (L := L) (kd := kd) (σ := s7)).f ha0 es13 rfl
    have hS := hS.tr g14 (by decide) (by decide)
    have fs13_2 : (s13.1 a0 2).toInt = v12.toInt := by rw [es13]; exact congrArg _ (zu_s _ _ _ _)
    have e15 : v12 = s13.1 a0 2 := by rw [es13]; exact zm_s
    refine zg_iinc X (-8) (fun v16 => [(2, .int v16), (0, .ref a0), (1, .int p1)]) 0 dX11_put_30 rfl (by decide) (by decide) (by omega) (by omega) (fun _ => rfl) (fun v16 ev16 hv16 => ?_)
    replace E := zLet_s (zinc ev16 (by decide)) E
    refine zg_goto X 3 dX11_put_33 (by decide) ?_
    refine zg_iload_n X 0 rfl dX11_put_3 ?_
    refine zg_if_lt X 36 dX11_put_4 (by decide) (fun c17 => ?_) (fun c17 => ?_)
    · omega
    · skip
      replace E := zIf_f (Int.not_lt.mpr c17) E
      refine zg_aload_n X 1 rfl dX11_put_7 ?_
      refine fg_X11_13 X hI ha0 dX11_put_8 (fun v18 ev18 hv18 => ?_)
      replace E := zLet_s (zgr ev18) E
      refine zg_aload_n X 1 rfl dX11_put_11 ?_
      refine fg_X11_169 X hI ha0 dX11_put_12 (fun v19 ev19 hv19 => ?_)
      replace E := zLet_s ev19 E
      have hkv19 := hI.2.2.1
      have kv19 : (s13.1 a0 2).toInt = v19.toInt := by rw [ev19]
      have mv19 : v19.toInt = v12.toInt := by rw [ev19, ← e15]
      refine zg_iload_n X 2 rfl dX11_put_15 ?_
      refine zg_iload_n X 0 rfl dX11_put_16 ?_
      refine zg_ishrW X dX11_put_17 (fun v20 ev20 => ?_)
      replace E := zLet_s ev20 E
      refine zg_i2b X dX11_put_18 (fun v21 ev21 => ?_)
      replace E := zLet_s ev21 E
      refine as_101 X hI hv18 (by omega) (by omega) dX11_put_19 (fun s22 es22 hI => ?_)
      replace E := zLet_s es22 E
      have g23 := (zSame.rf (o := a0) (Wf := []) (Wa := [101]) (L := L) (kd := kd) (σ := s13)).a ha0 hv18 es22 rfl (by decide)
      have fs22_2 : (s22.1 a0 2).toInt = (s13.1 a0 2).toInt := by rw [g23.2.1 2 (by decide)]
      have hS := hS.tr g23 (by decide) (by decide)
      have e24 := g23.v ev19 (by decide)
      refine zg_aload_n X 1 rfl dX11_put_20 ?_
      refine zg_dup X dX11_put_21 rfl ?_
      refine fg_X11_169 X hI ha0 dX11_put_22 (fun v25 ev25 hv25 => ?_)
      replace E := zLet_s ev25 E
      have hkv25 := hI.2.2.1
      have kv25 : (s22.1 a0 2).toInt = v25.toInt := by rw [ev25]
      have mv25 : v25.toInt = v19.toInt := by rw [ev25, ← e24]
      refine zg_iconst X 1 dX11_put_25 (by decide) (fun v26 _ hv26 => ?_)
      replace E := zLet_s (zcst hv26 (by decide)) E
      refine zg_iadd X dX11_put_26 (by omega) (by omega) (fun v27 ev27 hv27 => ?_)
      replace E := zLet_s ev27 E
      refine fq_X11_169 X ha0 dX11_put_27 (fun s28 es28 => ?_)
      replace E := zLet_s es28 E
      have hI : zJ v27.toInt L kd s28 := by rw [es28]; exact zj_taped hI ha0 (by omega) (by omega)
      have g29 := (zSame.rf (o := a0) (Wf := [2]) (Wa := []) (L := L) (kd := kd) (σ := s22)).f ha0 es28 rfl
      have hS := hS.tr g29 (by decide) (by decide)
      have fs28_2 : (s28.1 a0 2).toInt = v27.toInt := by rw [es28]; exact congrArg _ (zu_s _ _ _ _)
      have e30 : v27 = s28.1 a0 2 := by rw [es28]; exact zm_s
      refine zg_iinc X (-8) (fun v31 => [(2, .int v31), (0, .ref a0), (1, .int p1)]) 0 dX11_put_30 rfl (by decide) (by decide) (by omega) (by omega) (fun _ => rfl) (fun v31 ev31 hv31 => ?_)
      replace E := zLet_s (zinc ev31 (by decide)) E
      refine zg_goto X 3 dX11_put_33 (by decide) ?_
      refine zg_iload_n X 0 rfl dX11_put_3 ?_
      refine zg_if_lt X 36 dX11_put_4 (by decide) (fun c32 => ?_) (fun c32 => ?_)
      · omega
      · skip
        replace E := zIf_f (Int.not_lt.mpr c32) E
        refine zg_aload_n X 1 rfl dX11_put_7 ?_
        refine fg_X11_13 X hI ha0 dX11_put_8 (fun v33 ev33 hv33 => ?_)
        replace E := zLet_s (zgr ev33) E
        refine zg_aload_n X 1 rfl dX11_put_11 ?_
        refine fg_X11_169 X hI ha0 dX11_put_12 (fun v34 ev34 hv34 => ?_)
        replace E := zLet_s ev34 E
        have hkv34 := hI.2.2.1
        have kv34 : (s28.1 a0 2).toInt = v34.toInt := by rw [ev34]
        have mv34 : v34.toInt = v27.toInt := by rw [ev34, ← e30]
        refine zg_iload_n X 2 rfl dX11_put_15 ?_
        refine zg_iload_n X 0 rfl dX11_put_16 ?_
        refine zg_ishrW X dX11_put_17 (fun v35 ev35 => ?_)
        replace E := zLet_s ev35 E
        refine zg_i2b X dX11_put_18 (fun v36 ev36 => ?_)
        replace E := zLet_s ev36 E
        refine as_101 X hI hv33 (by omega) (by omega) dX11_put_19 (fun s37 es37 hI => ?_)
        replace E := zLet_s es37 E
        have g38 := (zSame.rf (o := a0) (Wf := []) (Wa := [101]) (L := L) (kd := kd) (σ := s28)).a ha0 hv33 es37 rfl (by decide)
        have fs37_2 : (s37.1 a0 2).toInt = (s28.1 a0 2).toInt := by rw [g38.2.1 2 (by decide)]
        have hS := hS.tr g38 (by decide) (by decide)
        have e39 := g38.v ev34 (by decide)
        refine zg_aload_n X 1 rfl dX11_put_20 ?_
        refine zg_dup X dX11_put_21 rfl ?_
        refine fg_X11_169 X hI ha0 dX11_put_22 (fun v40 ev40 hv40 => ?_)
        replace E := zLet_s ev40 E
        have hkv40 := hI.2.2.1
        have kv40 : (s37.1 a0 2).toInt = v40.toInt := by rw [ev40]
        have mv40 : v40.toInt = v34.toInt := by rw [ev40, ← e39]
        refine zg_iconst X 1 dX11_put_25 (by decide) (fun v41 _ hv41 => ?_)
        replace E := zLet_s (zcst hv41 (by decide)) E
        refine zg_iadd X dX11_put_26 (by omega) (by omega) (fun v42 ev42 hv42 => ?_)
        replace E := zLet_s ev42 E
        refine fq_X11_169 X ha0 dX11_put_27 (fun s43 es43 => ?_)
        replace E := zLet_s es43 E
        have hI : zJ v42.toInt L kd s43 := by rw [es43]; exact zj_taped hI ha0 (by omega) (by omega)
        have g44 := (zSame.rf (o := a0) (Wf := [2]) (Wa := []) (L := L) (kd := kd) (σ := s37)).f ha0 es43 rfl
        have hS := hS.tr g44 (by decide) (by decide)
        have fs43_2 : (s43.1 a0 2).toInt = v42.toInt := by rw [es43]; exact congrArg _ (zu_s _ _ _ _)
        have e45 : v42 = s43.1 a0 2 := by rw [es43]; exact zm_s
        refine zg_iinc X (-8) (fun v46 => [(2, .int v46), (0, .ref a0), (1, .int p1)]) 0 dX11_put_30 rfl (by decide) (by decide) (by omega) (by omega) (fun _ => rfl) (fun v46 ev46 hv46 => ?_)
        replace E := zLet_s (zinc ev46 (by decide)) E
        refine zg_goto X 3 dX11_put_33 (by decide) ?_
        refine zg_iload_n X 0 rfl dX11_put_3 ?_
        refine zg_if_lt X 36 dX11_put_4 (by decide) (fun c47 => ?_) (fun c47 => ?_)
        · omega
        · skip
          replace E := zIf_f (Int.not_lt.mpr c47) E
          refine zg_aload_n X 1 rfl dX11_put_7 ?_
          refine fg_X11_13 X hI ha0 dX11_put_8 (fun v48 ev48 hv48 => ?_)
          replace E := zLet_s (zgr ev48) E
          refine zg_aload_n X 1 rfl dX11_put_11 ?_
          refine fg_X11_169 X hI ha0 dX11_put_12 (fun v49 ev49 hv49 => ?_)
          replace E := zLet_s ev49 E
          have hkv49 := hI.2.2.1
          have kv49 : (s43.1 a0 2).toInt = v49.toInt := by rw [ev49]
          have mv49 : v49.toInt = v42.toInt := by rw [ev49, ← e45]
          refine zg_iload_n X 2 rfl dX11_put_15 ?_
          refine zg_iload_n X 0 rfl dX11_put_16 ?_
          refine zg_ishrW X dX11_put_17 (fun v50 ev50 => ?_)
          replace E := zLet_s ev50 E
          refine zg_i2b X dX11_put_18 (fun v51 ev51 => ?_)
          replace E := zLet_s ev51 E
          refine as_101 X hI hv48 (by omega) (by omega) dX11_put_19 (fun s52 es52 hI => ?_)
          replace E := zLet_s es52 E
          have g53 := (zSame.rf (o := a0) (Wf := []) (Wa := [101]) (L := L) (kd := kd) (σ := s43)).a ha0 hv48 es52 rfl (by decide)
          have fs52_2 : (s52.1 a0 2).toInt = (s43.1 a0 2).toInt := by rw [g53.2.1 2 (by decide)]
          have hS := hS.tr g53 (by decide) (by decide)
          have e54 := g53.v ev49 (by decide)
          refine zg_aload_n X 1 rfl dX11_put_20 ?_
          refine zg_dup X dX11_put_21 rfl ?_
          refine fg_X11_169 X hI ha0 dX11_put_22 (fun v55 ev55 hv55 => ?_)
          replace E := zLet_s ev55 E
          have hkv55 := hI.2.2.1
          have kv55 : (s52.1 a0 2).toInt = v55.toInt := by rw [ev55]
          have mv55 : v55.toInt = v49.toInt := by rw [ev55, ← e54]
          refine zg_iconst X 1 dX11_put_25 (by decide) (fun v56 _ hv56 => ?_)
          replace E := zLet_s (zcst hv56 (by decide)) E
          refine zg_iadd X dX11_put_26 (by omega) (by omega) (fun v57 ev57 hv57 => ?_)
          replace E := zLet_s ev57 E
          refine fq_X11_169 X ha0 dX11_put_27 (fun s58 es58 => ?_)
          replace E := zLet_s es58 E
          have hI : zJ v57.toInt L kd s58 := by rw [es58]; exact zj_taped hI ha0 (by omega) (by omega)
          have g59 := (zSame.rf (o := a0) (Wf := [2]) (Wa := []) (L := L) (kd := kd) (σ := s52)).f ha0 es58 rfl
          have hS := hS.tr g59 (by decide) (by decide)
          have fs58_2 : (s58.1 a0 2).toInt = v57.toInt := by rw [es58]; exact congrArg _ (zu_s _ _ _ _)
          have e60 : v57 = s58.1 a0 2 := by rw [es58]; exact zm_s
          refine zg_iinc X (-8) (fun v61 => [(2, .int v61), (0, .ref a0), (1, .int p1)]) 0 dX11_put_30 rfl (by decide) (by decide) (by omega) (by omega) (fun _ => rfl) (fun v61 ev61 hv61 => ?_)
          replace E := zLet_s (zinc ev61 (by decide)) E
          refine zg_goto X 3 dX11_put_33 (by decide) ?_
          refine zg_iload_n X 0 rfl dX11_put_3 ?_
          refine zg_if_lt X 36 dX11_put_4 (by decide) (fun c62 => ?_) (fun c62 => ?_)
          · skip
            replace E := zIf_t c62 E
            exact ret _ _ _ dX11_put_36 ⟨E.symm.trans hR, ⟨(zj_eq (by omega) hI), hS⟩⟩
          · omega
set_option maxHeartbeats 4000000 in
set_option maxRecDepth 100000 in
theorem t_X11_plain (l : Launch) (d : zD2) (L : List Nat) (kd : Nat → Nat) (κ : Int) (σ : zS) (hI : zJ κ L kd σ) (a0 : Nat) (ha0 : zT L kd a0 11) (p1 : Int32) (hq0 : 0 ≤ p1.toInt ∧ p1.toInt ≤ 1) : zMv l yX11_plain (Cond.code yX11_plain cX11_plain 3 none :: zWL) 0 [.ref a0, .int p1] d L kd σ (fun σ2 => σ2 = F_X11_plain a0 p1 σ ∧ ((((zp a0 σ2 26 p1.toInt = 0)) ∧ ((∀ j : Int, 0 ≤ j → j ≠ p1.toInt → zp a0 σ2 26 j = zp a0 σ 26 j)) ∧ ((zp a0 σ2 21 p1.toInt = 0)) ∧ ((∀ j : Int, 0 ≤ j → j ≠ p1.toInt → zp a0 σ2 21 j = zp a0 σ 21 j)) ∧ ((∀ k : Int, 0 ≤ k → k < 5 → zp a0 σ2 30 (5 * p1.toInt + k) = 0 ∧ zp a0 σ2 31 (5 * p1.toInt + k) = 0)) ∧ ((∀ j : Int, 0 ≤ j → (j < 5 * p1.toInt ∨ 5 * p1.toInt + 5 ≤ j) → zp a0 σ2 30 j = zp a0 σ 30 j ∧ zp a0 σ2 31 j = zp a0 σ 31 j))) ∧ zJ κ L kd σ2 ∧ zSame a0 [] [121, 126, 127, 128, 129, 130, 131] L kd σ σ2)) := by
  refine zMv.of (own := RX11) (by decide +kernel) rfl rfl (Nat.le_of_ble_eq_true rfl) ?_
  intro p e s m args below meth c A Q X ret
  have hS : zSame a0 [] [121, 126, 127, 128, 129, 130, 131] L kd σ σ := zSame.rf
  refine zg_lv (lv2 := [(0, .ref a0), (1, .int p1)]) rfl ?_
  obtain ⟨R, hR⟩ : ∃ R, R = F_X11_plain a0 p1 σ := ⟨_, rfl⟩
  have E := hR
  unfold F_X11_plain at E
  refine zg_aload_n X 0 rfl dX11_plain_0 ?_
  refine fg_X11_43 X hI ha0 dX11_plain_1 (fun v1 ev1 hv1 => ?_)
  replace E := zLet_s (zgr ev1) E
  refine zg_iload_n X 1 rfl dX11_plain_4 ?_
  refine zg_iconst X 0 dX11_plain_5 (by decide) (fun v2 _ hv2 => ?_)
  replace E := zLet_s (zcst hv2 (by decide)) E
  refine as_121 X hI hv1 (by omega) (by omega) ⟨by omega, by omega⟩ dX11_plain_6 (fun s3 es3 hI => ?_)
  replace E := zLet_s es3 E
  have g4 := (zSame.rf (o := a0) (Wf := []) (Wa := [121]) (L := L) (kd := kd) (σ := σ)).a ha0 hv1 es3 rfl (by decide)
  have rs3 := zp_st (σ := σ) (σ2 := s3) (i := p1) (x := v2) ev1 es3 (by omega)
  have ws3 := rs3
  have hS := hS.tr g4 (by decide) (by decide)
  have us3_26 := zp_same hI ha0 g4 26 rfl (by decide) (by decide)
  have as3_26 := us3_26
  have us3_30 := zp_same hI ha0 g4 30 rfl (by decide) (by decide)
  have as3_30 := us3_30
  have us3_31 := zp_same hI ha0 g4 31 rfl (by decide) (by decide)
  have as3_31 := us3_31
  have zw21 := ws3
  refine zg_aload_n X 0 rfl dX11_plain_7 ?_
  refine fg_X11_58 X hI ha0 dX11_plain_8 (fun v5 ev5 hv5 => ?_)
  replace E := zLet_s (zgr ev5) E
  refine zg_iload_n X 1 rfl dX11_plain_11 ?_
  refine zg_iconst X 0 dX11_plain_12 (by decide) (fun v6 _ hv6 => ?_)
  replace E := zLet_s (zcst hv6 (by decide)) E
  refine as_126 X hI hv5 (by omega) (by omega) dX11_plain_13 (fun s7 es7 hI => ?_)
  replace E := zLet_s es7 E
  have g8 := (zSame.rf (o := a0) (Wf := []) (Wa := [126]) (L := L) (kd := kd) (σ := s3)).a ha0 hv5 es7 rfl (by decide)
  have rs7 := zp_st (σ := s3) (σ2 := s7) (i := p1) (x := v6) ev5 es7 (by omega)
  have ws7 := rs7
  rw [as3_26] at ws7
  have hS := hS.tr g8 (by decide) (by decide)
  have us7_21 := zp_same hI ha0 g8 21 rfl (by decide) (by decide)
  have as7_21 := us7_21
  have us7_30 := zp_same hI ha0 g8 30 rfl (by decide) (by decide)
  have as7_30 := us7_30.trans as3_30
  have us7_31 := zp_same hI ha0 g8 31 rfl (by decide) (by decide)
  have as7_31 := us7_31.trans as3_31
  have zw26 := ws7
  have zb26 : ∀ j : Int, 0 ≤ j → zp a0 s7 26 j = if j = p1.toInt then 0 else zp a0 σ 26 j := fun j h0 => by rw [zw26 j h0]; split <;> first | omega | rfl
  refine zg_aload_n X 0 rfl dX11_plain_14 ?_
  refine fg_X11_61 X hI ha0 dX11_plain_15 (fun v9 ev9 hv9 => ?_)
  replace E := zLet_s (zgr ev9) E
  refine zg_iload_n X 1 rfl dX11_plain_18 ?_
  refine zg_iconst X 0 dX11_plain_19 (by decide) (fun v10 _ hv10 => ?_)
  replace E := zLet_s (zcst hv10 (by decide)) E
  refine as_127 X hI hv9 (by omega) (by omega) dX11_plain_20 (fun s11 es11 hI => ?_)
  replace E := zLet_s es11 E
  have g12 := (zSame.rf (o := a0) (Wf := []) (Wa := [127]) (L := L) (kd := kd) (σ := s7)).a ha0 hv9 es11 rfl (by decide)
  have hS := hS.tr g12 (by decide) (by decide)
  have us11_21 := zp_same hI ha0 g12 21 rfl (by decide) (by decide)
  have as11_21 := us11_21.trans as7_21
  have us11_26 := zp_same hI ha0 g12 26 rfl (by decide) (by decide)
  have as11_26 := us11_26
  have us11_30 := zp_same hI ha0 g12 30 rfl (by decide) (by decide)
  have as11_30 := us11_30.trans as7_30
  have us11_31 := zp_same hI ha0 g12 31 rfl (by decide) (by decide)
  have as11_31 := us11_31.trans as7_31
  refine zg_aload_n X 0 rfl dX11_plain_21 ?_
  refine fg_X11_64 X hI ha0 dX11_plain_22 (fun v13 ev13 hv13 => ?_)
  replace E := zLet_s (zgr ev13) E
  refine zg_iload_n X 1 rfl dX11_plain_25 ?_
  refine zg_iconst X 1 dX11_plain_26 (by decide) (fun v14 _ hv14 => ?_)
  replace E := zLet_s (zcst hv14 (by decide)) E
  refine as_128 X hI hv13 (by omega) (by omega) dX11_plain_27 (fun s15 es15 hI => ?_)
  replace E := zLet_s es15 E
  have g16 := (zSame.rf (o := a0) (Wf := []) (Wa := [128]) (L := L) (kd := kd) (σ := s11)).a ha0 hv13 es15 rfl (by decide)
  have hS := hS.tr g16 (by decide) (by decide)
  have us15_21 := zp_same hI ha0 g16 21 rfl (by decide) (by decide)
  have as15_21 := us15_21.trans as11_21
  have us15_26 := zp_same hI ha0 g16 26 rfl (by decide) (by decide)
  have as15_26 := us15_26.trans as11_26
  have us15_30 := zp_same hI ha0 g16 30 rfl (by decide) (by decide)
  have as15_30 := us15_30.trans as11_30
  have us15_31 := zp_same hI ha0 g16 31 rfl (by decide) (by decide)
  have as15_31 := us15_31.trans as11_31
  refine zg_aload_n X 0 rfl dX11_plain_28 ?_
  refine fg_X11_67 X hI ha0 dX11_plain_29 (fun v17 ev17 hv17 => ?_)
  replace E := zLet_s (zgr ev17) E
  refine zg_iload_n X 1 rfl dX11_plain_32 ?_
  refine zg_iconst X 0 dX11_plain_33 (by decide) (fun v18 _ hv18 => ?_)
  replace E := zLet_s (zcst hv18 (by decide)) E
  refine as_129 X hI hv17 (by omega) (by omega) dX11_plain_34 (fun s19 es19 hI => ?_)
  replace E := zLet_s es19 E
  have g20 := (zSame.rf (o := a0) (Wf := []) (Wa := [129]) (L := L) (kd := kd) (σ := s15)).a ha0 hv17 es19 rfl (by decide)
  have hS := hS.tr g20 (by decide) (by decide)
  have us19_21 := zp_same hI ha0 g20 21 rfl (by decide) (by decide)
  have as19_21 := us19_21.trans as15_21
  have us19_26 := zp_same hI ha0 g20 26 rfl (by decide) (by decide)
  have as19_26 := us19_26.trans as15_26
  have us19_30 := zp_same hI ha0 g20 30 rfl (by decide) (by decide)
  have as19_30 := us19_30.trans as15_30
  have us19_31 := zp_same hI ha0 g20 31 rfl (by decide) (by decide)
  have as19_31 := us19_31.trans as15_31
  have zb26b : ∀ j : Int, 0 ≤ j → zp a0 s19 26 j = if j = p1.toInt then 0 else zp a0 σ 26 j := fun j h0 => by rw [as19_26, zb26 j h0]
  have zb21 : ∀ j : Int, 0 ≤ j → zp a0 s19 21 j = if j = p1.toInt then 0 else zp a0 σ 21 j := fun j h0 => by rw [as19_21, zw21 j h0]; split <;> first | omega | rfl
  refine zg_iconst X 0 dX11_plain_35 (by decide) (fun v21 _ hv21 => ?_)
  replace E := zLet_s (zcst hv21 (by decide)) E
  refine zg_istore_n X [(2, .int v21), (0, .ref a0), (1, .int p1)] dX11_plain_36 (by decide) rfl ?_
  have Lp23 : ∀ (nLp23 : Nat) (τ23 : zS) (x22 : Int32), zJ κ L kd τ23 → zSame a0 [] [121, 126, 127, 128, 129, 130, 131] L kd σ τ23 → R = F_X11_plain_37 a0 p1  nLp23 x22 τ23 → 0 ≤ x22.toInt ∧ x22.toInt ≤ 5 → (5) - x22.toInt + 1 < (nLp23 : Int) → (∀ j : Int, 0 ≤ j → zp a0 τ23 21 j = if j = p1.toInt then 0 else zp a0 σ 21 j) → (∀ j : Int, 0 ≤ j → zp a0 τ23 26 j = if j = p1.toInt then 0 else zp a0 σ 26 j) → (∀ k : Int, 0 ≤ k → k < x22.toInt → zp a0 τ23 30 (5 * p1.toInt + k) = 0 ∧ zp a0 τ23 31 (5 * p1.toInt + k) = 0) → (∀ j : Int, 0 ≤ j → (j < 5 * p1.toInt ∨ 5 * p1.toInt + 5 ≤ j) → zp a0 τ23 30 j = zp a0 σ 30 j ∧ zp a0 τ23 31 j = zp a0 σ 31 j) → zG d L kd A 3 p l e (k2_rm 0 (100 * 0)) s m args below meth c Q τ23 37 [(2, .int x22), (0, .ref a0), (1, .int p1)] [] := by
    intro nLp23
    induction nLp23 with
    | zero => intro τ23 x22 hI hS E  hxLp23 hm _ _ _ _ ; exact absurd hm (by omega)
    | succ nLp23 ihLp23 =>
      intro τ23 x22 hI hS E  hxLp23 hmLp23 h21 h26 hk ho
      rw [F_X11_plain_37] at E
      refine zg_iload_n X 0 rfl dX11_plain_37 ?_
      refine zg_iconst X 5 dX11_plain_38 (by decide) (fun v24 _ hv24 => ?_)
      replace E := zLet_s (zcst hv24 (by decide)) E
      refine zg_icmp_ge X 70 dX11_plain_39 (by decide) (fun c25 => ?_) (fun c25 => ?_)
      · skip
        replace E := zIf_f (Int.not_lt.mpr c25) E
        exact ret _ _ _ dX11_plain_70 ⟨E.symm.trans hR, ⟨⟨(by rw [h26 _ (by omega), if_pos rfl]), (fun j h0 h1 => by rw [h26 j h0, if_neg h1]), (by rw [h21 _ (by omega), if_pos rfl]), (fun j h0 h1 => by rw [h21 j h0, if_neg h1]), (fun k h0 h1 => hk k h0 (by omega)), (ho)⟩, hI, hS⟩⟩
      · skip
        replace E := zIf_t c25 E
        refine zg_aload_n X 1 rfl dX11_plain_42 ?_
        refine fg_X11_70 X hI ha0 dX11_plain_43 (fun v26 ev26 hv26 => ?_)
        replace E := zLet_s (zgr ev26) E
        refine zg_iconst X 5 dX11_plain_46 (by decide) (fun v27 _ hv27 => ?_)
        replace E := zLet_s (zcst hv27 (by decide)) E
        refine zg_iload_n X 2 rfl dX11_plain_47 ?_
        refine zg_imulc X 5 dX11_plain_48 (by omega) (by omega) (by omega) (fun v28 ev28 hv28 => ?_)
        replace E := zLet_s ev28 E
        refine zg_iload_n X 0 rfl dX11_plain_49 ?_
        refine zg_iadd X dX11_plain_50 (by omega) (by omega) (fun v29 ev29 hv29 => ?_)
        replace E := zLet_s ev29 E
        refine zg_iconst X 0 dX11_plain_51 (by decide) (fun v30 _ hv30 => ?_)
        replace E := zLet_s (zcst hv30 (by decide)) E
        refine as_130 X hI hv26 (by omega) (by omega) dX11_plain_52 (fun s31 es31 hI => ?_)
        replace E := zLet_s es31 E
        have g32 := (zSame.rf (o := a0) (Wf := []) (Wa := [130]) (L := L) (kd := kd) (σ := τ23)).a ha0 hv26 es31 rfl (by decide)
        have rs31 := zp_st (σ := τ23) (σ2 := s31) (i := v29) (x := v30) ev26 es31 (by omega)
        have ws31 := rs31
        have hS := hS.tr g32 (by decide) (by decide)
        have us31_21 := zp_same hI ha0 g32 21 rfl (by decide) (by decide)
        have as31_21 := us31_21
        have us31_26 := zp_same hI ha0 g32 26 rfl (by decide) (by decide)
        have as31_26 := us31_26
        have us31_31 := zp_same hI ha0 g32 31 rfl (by decide) (by decide)
        have as31_31 := us31_31
        refine zg_aload_n X 1 rfl dX11_plain_53 ?_
        refine fg_X11_73 X hI ha0 dX11_plain_54 (fun v33 ev33 hv33 => ?_)
        replace E := zLet_s (zgr ev33) E
        refine zg_iconst X 5 dX11_plain_57 (by decide) (fun v34 _ hv34 => ?_)
        replace E := zLet_s (zcst hv34 (by decide)) E
        refine zg_iload_n X 2 rfl dX11_plain_58 ?_
        refine zg_imulc X 5 dX11_plain_59 (by omega) (by omega) (by omega) (fun v35 ev35 hv35 => ?_)
        replace E := zLet_s ev35 E
        refine zg_iload_n X 0 rfl dX11_plain_60 ?_
        refine zg_iadd X dX11_plain_61 (by omega) (by omega) (fun v36 ev36 hv36 => ?_)
        replace E := zLet_s ev36 E
        refine zg_iconst X 0 dX11_plain_62 (by decide) (fun v37 _ hv37 => ?_)
        replace E := zLet_s (zcst hv37 (by decide)) E
        refine as_131 X hI hv33 (by omega) (by omega) dX11_plain_63 (fun s38 es38 hI => ?_)
        replace E := zLet_s es38 E
        have g39 := (zSame.rf (o := a0) (Wf := []) (Wa := [131]) (L := L) (kd := kd) (σ := s31)).a ha0 hv33 es38 rfl (by decide)
        have rs38 := zp_st (σ := s31) (σ2 := s38) (i := v36) (x := v37) ev33 es38 (by omega)
        have ws38 := rs38
        rw [as31_31] at ws38
        have hS := hS.tr g39 (by decide) (by decide)
        have us38_21 := zp_same hI ha0 g39 21 rfl (by decide) (by decide)
        have as38_21 := us38_21.trans as31_21
        have us38_26 := zp_same hI ha0 g39 26 rfl (by decide) (by decide)
        have as38_26 := us38_26.trans as31_26
        have us38_30 := zp_same hI ha0 g39 30 rfl (by decide) (by decide)
        have as38_30 := us38_30
        refine zg_iinc X 1 (fun v40 => [(2, .int v40), (0, .ref a0), (1, .int p1)]) 0 dX11_plain_64 rfl (by decide) (by decide) (by omega) (by omega) (fun _ => rfl) (fun v40 ev40 hv40 => ?_)
        replace E := zLet_s (zinc ev40 (by decide)) E
        refine zg_goto X 37 dX11_plain_67 (by decide) ?_
        refine zg_sub [0, 1, 2] rfl ?_
        exact ihLp23 _ v40 hI hS E  (by omega) (by omega) (fun j h0 => by rw [as38_21]; exact h21 j h0) (fun j h0 => by rw [as38_26]; exact h26 j h0) (fun k h0 h1 => by have y := fun h => hk k h0 h; rw [as38_30, ws31 _ (by omega), ws38 _ (by omega)]; split <;> split <;> first | exact ⟨by omega, by omega⟩ | (exfalso; omega) | exact y (by omega)) (fun j h0 h1 => by rw [as38_30, ws31 j h0, ws38 j h0, if_neg (by omega), if_neg (by omega)]; exact ho j h0 h1)
  refine zg_sub [0, 1, 2] rfl ?_
  exact Lp23 10000 _ v21 hI hS E  (by omega) (by omega) (zb21) (zb26b) (fun k h0 h1 => absurd h1 (by omega)) (fun j h0 h1 => by rw [as19_30, as19_31]; exact ⟨rfl, rfl⟩)
