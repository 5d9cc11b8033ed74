set_option maxHeartbeats 4000000 in
set_option maxRecDepth 100000 in
theorem t_X8_isLetter (l : Launch) (d : zD2) (L : List Nat) (kd : Nat → Nat) (σ : zS) (p1 : Int32) : zMi l yX8_isLetter (Cond.code yX8_isLetter cX8_isLetter 1 (some .boolean) :: zWL) 0 [.int p1] d L kd σ (fun v σ2 => (0 ≤ v.toInt ∧ v.toInt ≤ 1) ∧ σ = σ2) := by
  refine zMi.of (own := RX8) (by decide +kernel) rfl rfl (Nat.le_of_ble_eq_true rfl) ?_
  intro p e s m args below meth c A Q X ret
  refine zg_lv (lv2 := [(0, .int p1)]) rfl ?_
  refine zg_iload_n X 0 rfl dX8_isLetter_0 ?_
  refine zg_bipush X 97 dX8_isLetter_1 (by decide) (fun v1 _ hv1 => ?_)
  have zp1_z2 := zb_rng p1
  refine zg_icmp_lt X 16 dX8_isLetter_3 (by decide) (fun c3 => ?_) (fun c3 => ?_)
  · skip
    refine zg_iconst X 0 dX8_isLetter_16 (by decide) (fun v4 _ hv4 => ?_)
    exact ret _ _ _ _ dX8_isLetter_17 (zb_bool ⟨by omega, by omega⟩) ⟨⟨by omega, by omega⟩, rfl⟩
  · skip
    refine zg_iload_n X 0 rfl dX8_isLetter_6 ?_
    refine zg_bipush X 122 dX8_isLetter_7 (by decide) (fun v5 _ hv5 => ?_)
    have zp1_z6 := zb_rng p1
    refine zg_icmp_gt X 16 dX8_isLetter_9 (by decide) (fun c7 => ?_) (fun c7 => ?_)
    · skip
      refine zg_iconst X 0 dX8_isLetter_16 (by decide) (fun v8 _ hv8 => ?_)
      exact ret _ _ _ _ dX8_isLetter_17 (zb_bool ⟨by omega, by omega⟩) ⟨⟨by omega, by omega⟩, rfl⟩
    · skip
      refine zg_iconst X 1 dX8_isLetter_12 (by decide) (fun v9 _ hv9 => ?_)
      refine zg_goto X 17 dX8_isLetter_13 (by decide) ?_
      exact ret _ _ _ _ dX8_isLetter_17 (zb_bool ⟨by omega, by omega⟩) ⟨⟨by omega, by omega⟩, rfl⟩
set_option maxHeartbeats 4000000 in
set_option maxRecDepth 100000 in
theorem t_X8_isDigit (l : Launch) (d : zD2) (L : List Nat) (kd : Nat → Nat) (σ : zS) (p1 : Int32) : zMi l yX8_isDigit (Cond.code yX8_isDigit cX8_isDigit 1 (some .boolean) :: zWL) 0 [.int p1] d L kd σ (fun v σ2 => (0 ≤ v.toInt ∧ v.toInt ≤ 1) ∧ σ = σ2) := by
  refine zMi.of (own := RX8) (by decide +kernel) rfl rfl (Nat.le_of_ble_eq_true rfl) ?_
  intro p e s m args below meth c A Q X ret
  refine zg_lv (lv2 := [(0, .int p1)]) rfl ?_
  refine zg_iload_n X 0 rfl dX8_isDigit_0 ?_
  refine zg_bipush X 48 dX8_isDigit_1 (by decide) (fun v1 _ hv1 => ?_)
  have zp1_z2 := zb_rng p1
  refine zg_icmp_lt X 16 dX8_isDigit_3 (by decide) (fun c3 => ?_) (fun c3 => ?_)
  · skip
    refine zg_iconst X 0 dX8_isDigit_16 (by decide) (fun v4 _ hv4 => ?_)
    exact ret _ _ _ _ dX8_isDigit_17 (zb_bool ⟨by omega, by omega⟩) ⟨⟨by omega, by omega⟩, rfl⟩
  · skip
    refine zg_iload_n X 0 rfl dX8_isDigit_6 ?_
    refine zg_bipush X 57 dX8_isDigit_7 (by decide) (fun v5 _ hv5 => ?_)
    have zp1_z6 := zb_rng p1
    refine zg_icmp_gt X 16 dX8_isDigit_9 (by decide) (fun c7 => ?_) (fun c7 => ?_)
    · skip
      refine zg_iconst X 0 dX8_isDigit_16 (by decide) (fun v8 _ hv8 => ?_)
      exact ret _ _ _ _ dX8_isDigit_17 (zb_bool ⟨by omega, by omega⟩) ⟨⟨by omega, by omega⟩, rfl⟩
    · skip
      refine zg_iconst X 1 dX8_isDigit_12 (by decide) (fun v9 _ hv9 => ?_)
      refine zg_goto X 17 dX8_isDigit_13 (by decide) ?_
      exact ret _ _ _ _ dX8_isDigit_17 (zb_bool ⟨by omega, by omega⟩) ⟨⟨by omega, by omega⟩, rfl⟩
set_option maxHeartbeats 4000000 in
set_option maxRecDepth 100000 in
theorem t_X8_withLetter (l : Launch) (d : zD2) (L : List Nat) (kd : Nat → Nat) (σ : zS) (p1 : Int64) (p2 : Int32) : zMl l yX8_withLetter (Cond.code yX8_withLetter cX8_withLetter 3 (some .long) :: zWL) 0 [.long p1, .int p2] d L kd σ (fun v σ2 => True ∧ σ = σ2) := by
  refine zMl.of (own := RX8) (by decide +kernel) rfl rfl (Nat.le_of_ble_eq_true rfl) ?_
  intro p e s m args below meth c A Q X ret
  refine zg_lv (lv2 := [(0, .long p1), (2, .int p2)]) rfl ?_
  refine zg_lload_n X 0 rfl dX8_withLetter_0 ?_
  refine zg_ldc2 X wk_X8_43 dX8_withLetter_1 (fun v1 _ => ?_)
  refine zg_lmul X dX8_withLetter_4 (fun v2 _ => ?_)
  refine zg_iload_n X 1 rfl dX8_withLetter_5 ?_
  refine zg_bipush X 97 dX8_withLetter_6 (by decide) (fun v3 _ hv3 => ?_)
  refine zg_isubW X dX8_withLetter_8 (fun v4 _ => ?_)
  refine zg_iconst X 1 dX8_withLetter_9 (by decide) (fun v5 _ hv5 => ?_)
  refine zg_iaddW X dX8_withLetter_10 (fun v6 _ => ?_)
  refine zg_i2l X dX8_withLetter_11 (fun v7 ev7 => ?_)
  refine zg_ladd X dX8_withLetter_12 (fun v8 _ => ?_)
  exact ret _ _ _ _ dX8_withLetter_13 ⟨trivial, rfl⟩
set_option maxHeartbeats 4000000 in
set_option maxRecDepth 100000 in
theorem t_X8_add (l : Launch) (d : zD2) (L : List Nat) (kd : Nat → Nat) (κ : Int) (b : Nat) (σ : zS) (hI : zI κ b L kd σ) (a0 : Nat) (ha0 : zT L kd a0 8) (p1 : Int32) (p2 : Int64) (p3 : Int32) : zMv l yX8_add (Cond.code yX8_add cX8_add 5 none :: zWL) 0 [.ref a0, .int p1, .long p2, .int p3] d L kd σ (fun σ2 => zI κ b L kd σ2) := by
  refine zMv.of (own := RX8) (by decide +kernel) rfl rfl (Nat.le_of_ble_eq_true rfl) ?_
  intro p e s m args below meth c A Q X ret
  refine zg_lv (lv2 := [(0, .ref a0), (1, .int p1), (2, .long p2), (4, .int p3)]) rfl ?_
  refine zg_aload_n X 0 rfl dX8_add_0 ?_
  refine fg_X8_23 X hI ha0 dX8_add_1 (fun v1 ev1 hv1 => ?_)
  refine zg_aload_n X 0 rfl dX8_add_4 ?_
  refine fg_X8_13 X hI ha0 dX8_add_5 (fun v2 _ hv2 => ?_)
  refine zg_alen13 X hv2 rfl (by decide) dX8_add_8 (fun v3 hv3 => ?_)
  have hv3 : v3.toInt = 402 := hv3
  refine zg_icmp_ge X 53 dX8_add_9 (by decide) (fun c4 => ?_) (fun c4 => ?_)
  · skip
    exact ret _ _ _ dX8_add_53 hI
  · skip
    refine zg_aload_n X 0 rfl dX8_add_12 ?_
    refine fg_X8_13 X hI ha0 dX8_add_13 (fun v5 _ hv5 => ?_)
    refine zg_aload_n X 0 rfl dX8_add_16 ?_
    refine fg_X8_23 X hI ha0 dX8_add_17 (fun v6 ev6 hv6 => ?_)
    have mv6 : v6.toInt = v1.toInt := by rw [ev6, ← ev1]
    refine zg_iload_n X 1 rfl dX8_add_20 ?_
    refine as_41 X hI hv5 (by omega) (by omega) dX8_add_21 (fun s7 es7 hI => ?_)
    have e8 : v6 = s7.1 a0 4 := by rw [es7]; exact zm_k hv5 ha0 (by decide) ev6
    refine zg_aload_n X 0 rfl dX8_add_22 ?_
    refine fg_X8_17 X hI ha0 dX8_add_23 (fun v9 _ hv9 => ?_)
    refine zg_aload_n X 0 rfl dX8_add_26 ?_
    refine fg_X8_23 X hI ha0 dX8_add_27 (fun v10 ev10 hv10 => ?_)
    have mv10 : v10.toInt = v6.toInt := by rw [ev10, ← e8]
    refine zg_lload_n X 2 rfl dX8_add_30 ?_
    refine as_42 X hI hv9 (by omega) (by omega) dX8_add_31 (fun s11 es11 hI => ?_)
    have e12 : v10 = s11.1 a0 4 := by rw [es11]; exact ev10
    refine zg_aload_n X 0 rfl dX8_add_32 ?_
    refine fg_X8_20 X hI ha0 dX8_add_33 (fun v13 _ hv13 => ?_)
    refine zg_aload_n X 0 rfl dX8_add_36 ?_
    refine fg_X8_23 X hI ha0 dX8_add_37 (fun v14 ev14 hv14 => ?_)
    have mv14 : v14.toInt = v10.toInt := by rw [ev14, ← e12]
    refine zg_iload X 3 rfl dX8_add_40 ?_
    refine as_43 X hI hv13 (by omega) (by omega) dX8_add_42 (fun s15 es15 hI => ?_)
    have e16 : v14 = s15.1 a0 4 := by rw [es15]; exact zm_k hv13 ha0 (by decide) ev14
    refine zg_aload_n X 0 rfl dX8_add_43 ?_
    refine zg_dup X dX8_add_44 rfl ?_
    refine fg_X8_23 X hI ha0 dX8_add_45 (fun v17 ev17 hv17 => ?_)
    have mv17 : v17.toInt = v14.toInt := by rw [ev17, ← e16]
    refine zg_iconst X 1 dX8_add_48 (by decide) (fun v18 _ hv18 => ?_)
    refine zg_iadd X dX8_add_49 (by omega) (by omega) (fun v19 _ hv19 => ?_)
    refine fp_X8_23 X hI ha0 ⟨by omega, by omega⟩ dX8_add_50 (fun s20 es20 hI => ?_)
    have e22 : v19 = s20.1 a0 4 := by rw [es20]; exact zm_s
    exact ret _ _ _ dX8_add_53 hI
set_option maxHeartbeats 4000000 in
set_option maxRecDepth 100000 in
theorem t_X8_kindOf (l : Launch) (d : zD2) (L : List Nat) (kd : Nat → Nat) (κ : Int) (b : Nat) (σ : zS) (hI : zI κ b L kd σ) (a0 : Nat) (ha0 : zT L kd a0 8) (p1 : Int64) : zMi l yX8_kindOf (Cond.code yX8_kindOf cX8_kindOf 5 (some .int) :: zWL) 0 [.ref a0, .long p1] d L kd σ (fun _ σ2 => zI κ b L kd σ2) := by
  refine zMi.of (own := RX8) (by decide +kernel) rfl rfl (Nat.le_of_ble_eq_true rfl) ?_
  intro p e s m args below meth c A Q X ret
  refine zg_lv (lv2 := [(0, .ref a0), (1, .long p1)]) rfl ?_
  refine zg_bipush X 22 dX8_kindOf_0 (by decide) (fun v1 _ hv1 => ?_)
  refine zg_istore_n X [(3, .int v1), (0, .ref a0), (1, .long p1)] dX8_kindOf_2 (by decide) rfl ?_
  refine zg_iconst X 0 dX8_kindOf_3 (by decide) (fun v2 _ hv2 => ?_)
  refine zg_istore X [(4, .int v2), (3, .int v1), (0, .ref a0), (1, .long p1)] dX8_kindOf_4 (by decide) rfl ?_
  have Lp5 : ∀ (n : Nat) (σ : zS) (x3 : Int32) (x4 : Int32), zI κ b L kd σ → 0 ≤ x3.toInt ∧ x3.toInt ≤ 22 → (22) - x3.toInt + 1 < (n : Int) → zG d L kd A 5 p l e (k2_rm 0 (100 * 0)) s m args below meth c Q σ 6 [(4, .int x3), (3, .int x4), (0, .ref a0), (1, .long p1)] [] := by
    intro n
    induction n with
    | zero => intro σ x3 x4 hI  hxLp5 hm; exact absurd hm (by omega)
    | succ n ihLp5 =>
      intro σ x3 x4 hI  hxLp5 hmLp5
      refine zg_iload X 0 rfl dX8_kindOf_6 ?_
      refine zg_bipush X 22 dX8_kindOf_8 (by decide) (fun v6 _ hv6 => ?_)
      refine zg_icmp_ge X 34 dX8_kindOf_10 (by decide) (fun c7 => ?_) (fun c7 => ?_)
      · skip
        refine zg_iload_n X 1 rfl dX8_kindOf_34 ?_
        exact ret _ _ _ _ dX8_kindOf_35 rfl hI
      · skip
        refine zg_aload_n X 2 rfl dX8_kindOf_13 ?_
        refine fg_X8_9 X hI ha0 dX8_kindOf_14 (fun v8 _ hv8 => ?_)
        refine zg_iload X 0 rfl dX8_kindOf_17 ?_
        refine ag_40 X hv8 (by omega) (by omega) dX8_kindOf_19 (fun v9 _ => ?_)
        refine zg_lload_n X 3 rfl dX8_kindOf_20 ?_
        refine zg_lcmp X dX8_kindOf_21 (fun v10 _ => ?_)
        refine zg_if_ne X 28 dX8_kindOf_22 (by decide) (fun c11 => ?_) (fun c11 => ?_)
        · skip
          refine zg_iinc X 1 (fun v12 => [(4, .int v12), (3, .int x4), (0, .ref a0), (1, .long p1)]) 0 dX8_kindOf_28 rfl (by decide) (by decide) (by omega) (by omega) (fun _ => rfl) (fun v12 _ hv12 => ?_)
          refine zg_goto X 6 dX8_kindOf_31 (by decide) ?_
          refine zg_sub [0, 1, 2, 3] rfl ?_
          exact ihLp5 _ v12 x4 hI  (by omega) (by omega)
        · skip
          refine zg_iload X 0 rfl dX8_kindOf_25 ?_
          refine zg_istore_n X [(3, .int x3), (4, .int x3), (0, .ref a0), (1, .long p1)] dX8_kindOf_27 (by decide) rfl ?_
          refine zg_iinc X 1 (fun v13 => [(4, .int v13), (3, .int x3), (0, .ref a0), (1, .long p1)]) 1 dX8_kindOf_28 rfl (by decide) (by decide) (by omega) (by omega) (fun _ => rfl) (fun v13 _ hv13 => ?_)
          refine zg_goto X 6 dX8_kindOf_31 (by decide) ?_
          refine zg_sub [0, 1, 2, 3] rfl ?_
          exact ihLp5 _ v13 x3 hI  (by omega) (by omega)
  refine zg_sub [0, 1, 2, 3] rfl ?_
  exact Lp5 (((22) - v2.toInt + 1).toNat + 1) _ v2 v1 hI  (by omega) (by omega)
set_option maxHeartbeats 4000000 in
set_option maxRecDepth 100000 in
theorem t_X8_pastBlanks (l : Launch) (d : zD2) (L : List Nat) (kd : Nat → Nat) (κ : Int) (b : Nat) (σ : zS) (hI : zI κ b L kd σ) (p1 : Nat) (hp1 : zT L kd p1 39) (p2 : Int32) (p3 : Int32) (hq0 : p2.toInt ≤ 2000) (hq1 : 0 ≤ p3.toInt ∧ p3.toInt ≤ 2000) : zMi l yX8_pastBlanks (Cond.code yX8_pastBlanks cX8_pastBlanks 4 (some .int) :: zWL) 0 [.ref p1, .int p2, .int p3] d L kd σ (fun v σ2 => (0 ≤ v.toInt ∧ v.toInt ≤ 2000) ∧ zI κ b L kd σ2) := by
  refine zMi.of (own := RX8) (by decide +kernel) rfl rfl (Nat.le_of_ble_eq_true rfl) ?_
  intro p e s m args below meth c A Q X ret
  refine zg_lv (lv2 := [(0, .ref p1), (1, .int p2), (2, .int p3)]) rfl ?_
  refine zg_iload_n X 2 rfl dX8_pastBlanks_0 ?_
  refine zg_istore_n X [(3, .int p3), (0, .ref p1), (1, .int p2), (2, .int p3)] dX8_pastBlanks_1 (by decide) rfl ?_
  have Lp2 : ∀ (n : Nat) (σ : zS) (x1 : Int32), zI κ b L kd σ → 0 ≤ x1.toInt ∧ x1.toInt ≤ 2000 → 2000 - x1.toInt + 1 < (n : Int) → zG d L kd A 4 p l e (k2_rm 0 (100 * 0)) s m args below meth c Q σ 2 [(3, .int x1), (0, .ref p1), (1, .int p2), (2, .int p3)] [] := by
    intro n
    induction n with
    | zero => intro σ x1 hI  hxLp2 hm; exact absurd hm (by omega)
    | succ n ihLp2 =>
      intro σ x1 hI  hxLp2 hmLp2
      refine zg_iload_n X 0 rfl dX8_pastBlanks_2 ?_
      refine zg_iload_n X 2 rfl dX8_pastBlanks_3 ?_
      have zp2_z3 := zb_rng p2
      refine zg_icmp_ge X 45 dX8_pastBlanks_4 (by decide) (fun c4 => ?_) (fun c4 => ?_)
      · skip
        refine zg_iload_n X 0 rfl dX8_pastBlanks_45 ?_
        exact ret _ _ _ _ dX8_pastBlanks_46 rfl ⟨⟨by omega, by omega⟩, hI⟩
      · skip
        refine zg_aload_n X 1 rfl dX8_pastBlanks_7 ?_
        refine zg_iload_n X 0 rfl dX8_pastBlanks_8 ?_
        refine ag_39 X hI hp1 (by omega) (by omega) dX8_pastBlanks_9 (fun v5 _ hv5 => ?_)
        refine zg_bipush X 32 dX8_pastBlanks_10 (by decide) (fun v6 _ hv6 => ?_)
        refine zg_icmp_eq X 39 dX8_pastBlanks_12 (by decide) (fun c7 => ?_) (fun c7 => ?_)
        · skip
          refine zg_iinc X 1 (fun v8 => [(3, .int v8), (0, .ref p1), (1, .int p2), (2, .int p3)]) 0 dX8_pastBlanks_39 rfl (by decide) (by decide) (by omega) (by omega) (fun _ => rfl) (fun v8 _ hv8 => ?_)
          refine zg_goto X 2 dX8_pastBlanks_42 (by decide) ?_
          refine zg_sub [0, 1, 2, 3] rfl ?_
          exact ihLp2 _ v8 hI  (by omega) (by omega)
        · skip
          refine zg_aload_n X 1 rfl dX8_pastBlanks_15 ?_
          refine zg_iload_n X 0 rfl dX8_pastBlanks_16 ?_
          refine ag_39 X hI hp1 (by omega) (by omega) dX8_pastBlanks_17 (fun v9 _ hv9 => ?_)
          refine zg_bipush X 9 dX8_pastBlanks_18 (by decide) (fun v10 _ hv10 => ?_)
          refine zg_icmp_eq X 39 dX8_pastBlanks_20 (by decide) (fun c11 => ?_) (fun c11 => ?_)
          · skip
            refine zg_iinc X 1 (fun v12 => [(3, .int v12), (0, .ref p1), (1, .int p2), (2, .int p3)]) 0 dX8_pastBlanks_39 rfl (by decide) (by decide) (by omega) (by omega) (fun _ => rfl) (fun v12 _ hv12 => ?_)
            refine zg_goto X 2 dX8_pastBlanks_42 (by decide) ?_
            refine zg_sub [0, 1, 2, 3] rfl ?_
            exact ihLp2 _ v12 hI  (by omega) (by omega)
          · skip
            refine zg_aload_n X 1 rfl dX8_pastBlanks_23 ?_
            refine zg_iload_n X 0 rfl dX8_pastBlanks_24 ?_
            refine ag_39 X hI hp1 (by omega) (by omega) dX8_pastBlanks_25 (fun v13 _ hv13 => ?_)
            refine zg_bipush X 10 dX8_pastBlanks_26 (by decide) (fun v14 _ hv14 => ?_)
            refine zg_icmp_eq X 39 dX8_pastBlanks_28 (by decide) (fun c15 => ?_) (fun c15 => ?_)
            · skip
              refine zg_iinc X 1 (fun v16 => [(3, .int v16), (0, .ref p1), (1, .int p2), (2, .int p3)]) 0 dX8_pastBlanks_39 rfl (by decide) (by decide) (by omega) (by omega) (fun _ => rfl) (fun v16 _ hv16 => ?_)
              refine zg_goto X 2 dX8_pastBlanks_42 (by decide) ?_
              refine zg_sub [0, 1, 2, 3] rfl ?_
              exact ihLp2 _ v16 hI  (by omega) (by omega)
            · skip
              refine zg_aload_n X 1 rfl dX8_pastBlanks_31 ?_
              refine zg_iload_n X 0 rfl dX8_pastBlanks_32 ?_
              refine ag_39 X hI hp1 (by omega) (by omega) dX8_pastBlanks_33 (fun v17 _ hv17 => ?_)
              refine zg_bipush X 13 dX8_pastBlanks_34 (by decide) (fun v18 _ hv18 => ?_)
              refine zg_icmp_ne X 45 dX8_pastBlanks_36 (by decide) (fun c19 => ?_) (fun c19 => ?_)
              · skip
                refine zg_iload_n X 0 rfl dX8_pastBlanks_45 ?_
                exact ret _ _ _ _ dX8_pastBlanks_46 rfl ⟨⟨by omega, by omega⟩, hI⟩
              · skip
                refine zg_iinc X 1 (fun v20 => [(3, .int v20), (0, .ref p1), (1, .int p2), (2, .int p3)]) 0 dX8_pastBlanks_39 rfl (by decide) (by decide) (by omega) (by omega) (fun _ => rfl) (fun v20 _ hv20 => ?_)
                refine zg_goto X 2 dX8_pastBlanks_42 (by decide) ?_
                refine zg_sub [0, 1, 2, 3] rfl ?_
                exact ihLp2 _ v20 hI  (by omega) (by omega)
  refine zg_sub [0, 1, 2, 3] rfl ?_
  exact Lp2 ((2000 - p3.toInt + 1).toNat + 1) _ p3 hI  (by omega) (by omega)
set_option maxHeartbeats 4000000 in
set_option maxRecDepth 100000 in
theorem t_X8_addLetters (l : Launch) (d : zD2) (L : List Nat) (kd : Nat → Nat) (κ : Int) (b : Nat) (σ : zS) (hI : zI κ b L kd σ) (a0 : Nat) (ha0 : zT L kd a0 8) (p1 : Nat) (hp1 : zT L kd p1 39) (p2 : Int32) (p3 : Int32) (hq0 : p2.toInt ≤ 2000) (hq1 : 0 ≤ p3.toInt ∧ p3.toInt ≤ 2000) : zMi l yX8_addLetters (Cond.code yX8_addLetters cX8_addLetters 7 (some .int) :: zWL) 1 [.ref a0, .ref p1, .int p2, .int p3] d L kd σ (fun v σ2 => (0 ≤ v.toInt ∧ v.toInt ≤ 2000) ∧ zI κ b L kd σ2) := by
  refine zMi.of (own := RX8) (by decide +kernel) rfl rfl (Nat.le_of_ble_eq_true rfl) ?_
  intro p e s m args below meth c A Q X ret
  refine zg_lv (lv2 := [(0, .ref a0), (1, .ref p1), (2, .int p2), (3, .int p3)]) rfl ?_
  refine zg_lconst X dX8_addLetters_0 (fun v1 _ => ?_)
  refine zg_lstore X [(4, .long v1), (0, .ref a0), (1, .ref p1), (2, .int p2), (3, .int p3)] dX8_addLetters_1 (by decide) rfl ?_
  refine zg_iload_n X 4 rfl dX8_addLetters_3 ?_
  refine zg_istore X [(6, .int p3), (4, .long v1), (0, .ref a0), (1, .ref p1), (2, .int p2), (3, .int p3)] dX8_addLetters_4 (by decide) rfl ?_
  have Lp4 : ∀ (n : Nat) (σ : zS) (x2 : Int32) (x3 : Int64), zI κ b L kd σ → 0 ≤ x2.toInt ∧ x2.toInt ≤ 2000 → 2000 - x2.toInt + 1 < (n : Int) → zG d L kd A 7 p l e (k2_rm 1 (100 * 1)) s m args below meth c Q σ 6 [(6, .int x2), (4, .long x3), (0, .ref a0), (1, .ref p1), (2, .int p2), (3, .int p3)] [] := by
    intro n
    induction n with
    | zero => intro σ x2 x3 hI  hxLp4 hm; exact absurd hm (by omega)
    | succ n ihLp4 =>
      intro σ x2 x3 hI  hxLp4 hmLp4
      refine zg_iload X 0 rfl dX8_addLetters_6 ?_
      refine zg_iload_n X 4 rfl dX8_addLetters_8 ?_
      have zp2_z5 := zb_rng p2
      refine zg_icmp_ge X 52 dX8_addLetters_9 (by decide) (fun c6 => ?_) (fun c6 => ?_)
      · skip
        refine zg_aload_n X 2 rfl dX8_addLetters_52 ?_
        refine zg_iload X 0 rfl dX8_addLetters_53 ?_
        refine zg_iload_n X 5 rfl dX8_addLetters_55 ?_
        refine zg_isub X dX8_addLetters_56 (by omega) (by omega) (fun v7 _ hv7 => ?_)
        refine zg_bipush X 8 dX8_addLetters_57 (by decide) (fun v8 _ hv8 => ?_)
        refine zg_icmp_le X 67 dX8_addLetters_59 (by decide) (fun c9 => ?_) (fun c9 => ?_)
        · skip
          refine zg_aload_n X 2 rfl dX8_addLetters_67 ?_
          refine zg_lload X 1 rfl dX8_addLetters_68 ?_
          refine zg_cVi (As := [.long x3]) (st := [.ref a0]) X ha0 rfl (by decide) rfl (t_X8_kindOf l d L kd κ b _ hI a0 ha0 x3 ) mk_X8_72 mc_X8_kindOf mz_X8 mi_X8_kindOf ml_X8_kindOf (na := 1) ⟨md_X8.1, md_X8.2, by decide +kernel⟩ rfl ⟨by decide, by decide⟩ (Nat.le_of_ble_eq_true rfl) dX8_addLetters_70 (fun v10 σ hI => ?_)
          refine zg_lload X 1 rfl dX8_addLetters_73 ?_
          refine zg_iload_n X 5 rfl dX8_addLetters_75 ?_
          refine zg_cVv (As := [.int v10, .long x3, .int p3]) (st := []) X ha0 rfl (by decide) rfl (t_X8_add l d L kd κ b _ hI a0 ha0 v10 x3 p3 ) mk_X8_49 mc_X8_add mz_X8 mi_X8_add ml_X8_add (na := 3) ⟨md_X8.1, md_X8.2, by decide +kernel⟩ rfl ⟨by decide, by decide⟩ (Nat.le_of_ble_eq_true rfl) dX8_addLetters_76 (fun σ hI => ?_)
          refine zg_iload X 0 rfl dX8_addLetters_79 ?_
          exact ret _ _ _ _ dX8_addLetters_81 rfl ⟨⟨by omega, by omega⟩, hI⟩
        · skip
          refine zg_bipush X 34 dX8_addLetters_62 (by decide) (fun v11 _ hv11 => ?_)
          refine zg_goto X 73 dX8_addLetters_64 (by decide) ?_
          refine zg_lload X 1 rfl dX8_addLetters_73 ?_
          refine zg_iload_n X 5 rfl dX8_addLetters_75 ?_
          refine zg_cVv (As := [.int v11, .long x3, .int p3]) (st := []) X ha0 rfl (by decide) rfl (t_X8_add l d L kd κ b _ hI a0 ha0 v11 x3 p3 ) mk_X8_49 mc_X8_add mz_X8 mi_X8_add ml_X8_add (na := 3) ⟨md_X8.1, md_X8.2, by decide +kernel⟩ rfl ⟨by decide, by decide⟩ (Nat.le_of_ble_eq_true rfl) dX8_addLetters_76 (fun σ hI => ?_)
          refine zg_iload X 0 rfl dX8_addLetters_79 ?_
          exact ret _ _ _ _ dX8_addLetters_81 rfl ⟨⟨by omega, by omega⟩, hI⟩
      · skip
        refine zg_aload_n X 3 rfl dX8_addLetters_12 ?_
        refine zg_iload X 0 rfl dX8_addLetters_13 ?_
        refine ag_39 X hI hp1 (by omega) (by omega) dX8_addLetters_15 (fun v12 _ hv12 => ?_)
        refine zg_cSi (As := [.int v12]) (st := []) X (t_X8_isLetter l d L kd _ v12 ) mk_X8_53 mc_X8_isLetter mz_X8 ms_X8_isLetter (na := 1) ⟨md_X8.1, md_X8.2, by decide +kernel⟩ rfl ⟨by decide, by decide⟩ (Nat.le_of_ble_eq_true rfl) dX8_addLetters_16 (fun v13 σ2 hq => ?_)
        obtain ⟨hv13, rfl⟩ := hq
        refine zg_if_eq X 52 dX8_addLetters_19 (by decide) (fun c14 => ?_) (fun c14 => ?_)
        · skip
          refine zg_aload_n X 2 rfl dX8_addLetters_52 ?_
          refine zg_iload X 0 rfl dX8_addLetters_53 ?_
          refine zg_iload_n X 5 rfl dX8_addLetters_55 ?_
          refine zg_isub X dX8_addLetters_56 (by omega) (by omega) (fun v15 _ hv15 => ?_)
          refine zg_bipush X 8 dX8_addLetters_57 (by decide) (fun v16 _ hv16 => ?_)
          refine zg_icmp_le X 67 dX8_addLetters_59 (by decide) (fun c17 => ?_) (fun c17 => ?_)
          · skip
            refine zg_aload_n X 2 rfl dX8_addLetters_67 ?_
            refine zg_lload X 1 rfl dX8_addLetters_68 ?_
            refine zg_cVi (As := [.long x3]) (st := [.ref a0]) X ha0 rfl (by decide) rfl (t_X8_kindOf l d L kd κ b _ hI a0 ha0 x3 ) mk_X8_72 mc_X8_kindOf mz_X8 mi_X8_kindOf ml_X8_kindOf (na := 1) ⟨md_X8.1, md_X8.2, by decide +kernel⟩ rfl ⟨by decide, by decide⟩ (Nat.le_of_ble_eq_true rfl) dX8_addLetters_70 (fun v18 σ hI => ?_)
            refine zg_lload X 1 rfl dX8_addLetters_73 ?_
            refine zg_iload_n X 5 rfl dX8_addLetters_75 ?_
            refine zg_cVv (As := [.int v18, .long x3, .int p3]) (st := []) X ha0 rfl (by decide) rfl (t_X8_add l d L kd κ b _ hI a0 ha0 v18 x3 p3 ) mk_X8_49 mc_X8_add mz_X8 mi_X8_add ml_X8_add (na := 3) ⟨md_X8.1, md_X8.2, by decide +kernel⟩ rfl ⟨by decide, by decide⟩ (Nat.le_of_ble_eq_true rfl) dX8_addLetters_76 (fun σ hI => ?_)
            refine zg_iload X 0 rfl dX8_addLetters_79 ?_
            exact ret _ _ _ _ dX8_addLetters_81 rfl ⟨⟨by omega, by omega⟩, hI⟩
          · skip
            refine zg_bipush X 34 dX8_addLetters_62 (by decide) (fun v19 _ hv19 => ?_)
            refine zg_goto X 73 dX8_addLetters_64 (by decide) ?_
            refine zg_lload X 1 rfl dX8_addLetters_73 ?_
            refine zg_iload_n X 5 rfl dX8_addLetters_75 ?_
            refine zg_cVv (As := [.int v19, .long x3, .int p3]) (st := []) X ha0 rfl (by decide) rfl (t_X8_add l d L kd κ b _ hI a0 ha0 v19 x3 p3 ) mk_X8_49 mc_X8_add mz_X8 mi_X8_add ml_X8_add (na := 3) ⟨md_X8.1, md_X8.2, by decide +kernel⟩ rfl ⟨by decide, by decide⟩ (Nat.le_of_ble_eq_true rfl) dX8_addLetters_76 (fun σ hI => ?_)
            refine zg_iload X 0 rfl dX8_addLetters_79 ?_
            exact ret _ _ _ _ dX8_addLetters_81 rfl ⟨⟨by omega, by omega⟩, hI⟩
        · skip
          refine zg_iload X 0 rfl dX8_addLetters_22 ?_
          refine zg_iload_n X 5 rfl dX8_addLetters_24 ?_
          refine zg_isub X dX8_addLetters_25 (by omega) (by omega) (fun v20 _ hv20 => ?_)
          refine zg_bipush X 8 dX8_addLetters_26 (by decide) (fun v21 _ hv21 => ?_)
          refine zg_icmp_ge X 43 dX8_addLetters_28 (by decide) (fun c22 => ?_) (fun c22 => ?_)
          · skip
            refine zg_lconst X dX8_addLetters_43 (fun v23 _ => ?_)
            refine zg_lstore X [(4, .long v23), (6, .int x2), (0, .ref a0), (1, .ref p1), (2, .int p2), (3, .int p3)] dX8_addLetters_44 (by decide) rfl ?_
            refine zg_iinc X 1 (fun v24 => [(6, .int v24), (4, .long v23), (0, .ref a0), (1, .ref p1), (2, .int p2), (3, .int p3)]) 1 dX8_addLetters_46 rfl (by decide) (by decide) (by omega) (by omega) (fun _ => rfl) (fun v24 _ hv24 => ?_)
            refine zg_goto X 6 dX8_addLetters_49 (by decide) ?_
            refine zg_sub [0, 1, 2, 3, 4, 5] rfl ?_
            exact ihLp4 _ v24 v23 hI  (by omega) (by omega)
          · skip
            refine zg_lload X 1 rfl dX8_addLetters_31 ?_
            refine zg_aload_n X 3 rfl dX8_addLetters_33 ?_
            refine zg_iload X 0 rfl dX8_addLetters_34 ?_
            refine ag_39 X hI hp1 (by omega) (by omega) dX8_addLetters_36 (fun v25 _ hv25 => ?_)
            refine zg_cSl (As := [.long x3, .int v25]) (st := []) X (t_X8_withLetter l d L kd _ x3 v25 ) mk_X8_39 mc_X8_withLetter mz_X8 ms_X8_withLetter (na := 2) ⟨md_X8.1, md_X8.2, by decide +kernel⟩ rfl ⟨by decide, by decide⟩ (Nat.le_of_ble_eq_true rfl) dX8_addLetters_37 (fun v26 σ2 hq => ?_)
            obtain ⟨hv26, rfl⟩ := hq
            refine zg_goto X 44 dX8_addLetters_40 (by decide) ?_
            refine zg_lstore X [(4, .long v26), (6, .int x2), (0, .ref a0), (1, .ref p1), (2, .int p2), (3, .int p3)] dX8_addLetters_44 (by decide) rfl ?_
            refine zg_iinc X 1 (fun v27 => [(6, .int v27), (4, .long v26), (0, .ref a0), (1, .ref p1), (2, .int p2), (3, .int p3)]) 1 dX8_addLetters_46 rfl (by decide) (by decide) (by omega) (by omega) (fun _ => rfl) (fun v27 _ hv27 => ?_)
            refine zg_goto X 6 dX8_addLetters_49 (by decide) ?_
            refine zg_sub [0, 1, 2, 3, 4, 5] rfl ?_
            exact ihLp4 _ v27 v26 hI  (by omega) (by omega)
  refine zg_sub [0, 1, 2, 3, 4, 5] rfl ?_
  exact Lp4 ((2000 - p3.toInt + 1).toNat + 1) _ p3 v1 hI  (by omega) (by omega)
set_option maxHeartbeats 4000000 in
set_option maxRecDepth 100000 in
theorem t_X8_addDigits (l : Launch) (d : zD2) (L : List Nat) (kd : Nat → Nat) (κ : Int) (b : Nat) (σ : zS) (hI : zI κ b L kd σ) (a0 : Nat) (ha0 : zT L kd a0 8) (p1 : Nat) (hp1 : zT L kd p1 39) (p2 : Int32) (p3 : Int32) (hq0 : p2.toInt ≤ 2000) (hq1 : 0 ≤ p3.toInt ∧ p3.toInt ≤ 2000) : zMi l yX8_addDigits (Cond.code yX8_addDigits cX8_addDigits 6 (some .int) :: zWL) 1 [.ref a0, .ref p1, .int p2, .int p3] d L kd σ (fun v σ2 => (0 ≤ v.toInt ∧ v.toInt ≤ 2000) ∧ zI κ b L kd σ2) := by
  refine zMi.of (own := RX8) (by decide +kernel) rfl rfl (Nat.le_of_ble_eq_true rfl) ?_
  intro p e s m args below meth c A Q X ret
  refine zg_lv (lv2 := [(0, .ref a0), (1, .ref p1), (2, .int p2), (3, .int p3)]) rfl ?_
  refine zg_iconst X 0 dX8_addDigits_0 (by decide) (fun v1 _ hv1 => ?_)
  refine zg_istore X [(4, .int v1), (0, .ref a0), (1, .ref p1), (2, .int p2), (3, .int p3)] dX8_addDigits_1 (by decide) rfl ?_
  refine zg_iload_n X 4 rfl dX8_addDigits_3 ?_
  refine zg_istore X [(5, .int p3), (4, .int v1), (0, .ref a0), (1, .ref p1), (2, .int p2), (3, .int p3)] dX8_addDigits_4 (by decide) rfl ?_
  have Lp4 : ∀ (n : Nat) (σ : zS) (x2 : Int32) (x3 : Int32), zI κ b L kd σ → 0 ≤ x2.toInt ∧ x2.toInt ≤ 2000 → 2000 - x2.toInt + 1 < (n : Int) → zG d L kd A 6 p l e (k2_rm 1 (100 * 1)) s m args below meth c Q σ 6 [(5, .int x2), (4, .int x3), (0, .ref a0), (1, .ref p1), (2, .int p2), (3, .int p3)] [] := by
    intro n
    induction n with
    | zero => intro σ x2 x3 hI  hxLp4 hm; exact absurd hm (by omega)
    | succ n ihLp4 =>
      intro σ x2 x3 hI  hxLp4 hmLp4
      refine zg_iload X 0 rfl dX8_addDigits_6 ?_
      refine zg_iload_n X 4 rfl dX8_addDigits_8 ?_
      have zp2_z5 := zb_rng p2
      refine zg_icmp_ge X 55 dX8_addDigits_9 (by decide) (fun c6 => ?_) (fun c6 => ?_)
      · skip
        refine zg_aload_n X 2 rfl dX8_addDigits_55 ?_
        refine zg_iload X 0 rfl dX8_addDigits_56 ?_
        refine zg_iload_n X 5 rfl dX8_addDigits_58 ?_
        refine zg_isub X dX8_addDigits_59 (by omega) (by omega) (fun v7 _ hv7 => ?_)
        refine zg_iconst X 4 dX8_addDigits_60 (by decide) (fun v8 _ hv8 => ?_)
        refine zg_icmp_le X 69 dX8_addDigits_61 (by decide) (fun c9 => ?_) (fun c9 => ?_)
        · skip
          refine zg_bipush X 23 dX8_addDigits_69 (by decide) (fun v10 _ hv10 => ?_)
          refine zg_iload X 1 rfl dX8_addDigits_71 ?_
          refine zg_i2l X dX8_addDigits_73 (fun v11 ev11 => ?_)
          refine zg_iload_n X 5 rfl dX8_addDigits_74 ?_
          refine zg_cVv (As := [.int v10, .long v11, .int p3]) (st := []) X ha0 rfl (by decide) rfl (t_X8_add l d L kd κ b _ hI a0 ha0 v10 v11 p3 ) mk_X8_49 mc_X8_add mz_X8 mi_X8_add ml_X8_add (na := 3) ⟨md_X8.1, md_X8.2, by decide +kernel⟩ rfl ⟨by decide, by decide⟩ (Nat.le_of_ble_eq_true rfl) dX8_addDigits_75 (fun σ hI => ?_)
          refine zg_iload X 0 rfl dX8_addDigits_78 ?_
          exact ret _ _ _ _ dX8_addDigits_80 rfl ⟨⟨by omega, by omega⟩, hI⟩
        · skip
          refine zg_bipush X 34 dX8_addDigits_64 (by decide) (fun v12 _ hv12 => ?_)
          refine zg_goto X 71 dX8_addDigits_66 (by decide) ?_
          refine zg_iload X 1 rfl dX8_addDigits_71 ?_
          refine zg_i2l X dX8_addDigits_73 (fun v13 ev13 => ?_)
          refine zg_iload_n X 5 rfl dX8_addDigits_74 ?_
          refine zg_cVv (As := [.int v12, .long v13, .int p3]) (st := []) X ha0 rfl (by decide) rfl (t_X8_add l d L kd κ b _ hI a0 ha0 v12 v13 p3 ) mk_X8_49 mc_X8_add mz_X8 mi_X8_add ml_X8_add (na := 3) ⟨md_X8.1, md_X8.2, by decide +kernel⟩ rfl ⟨by decide, by decide⟩ (Nat.le_of_ble_eq_true rfl) dX8_addDigits_75 (fun σ hI => ?_)
          refine zg_iload X 0 rfl dX8_addDigits_78 ?_
          exact ret _ _ _ _ dX8_addDigits_80 rfl ⟨⟨by omega, by omega⟩, hI⟩
      · skip
        refine zg_aload_n X 3 rfl dX8_addDigits_12 ?_
        refine zg_iload X 0 rfl dX8_addDigits_13 ?_
        refine ag_39 X hI hp1 (by omega) (by omega) dX8_addDigits_15 (fun v14 _ hv14 => ?_)
        refine zg_cSi (As := [.int v14]) (st := []) X (t_X8_isDigit l d L kd _ v14 ) mk_X8_60 mc_X8_isDigit mz_X8 ms_X8_isDigit (na := 1) ⟨md_X8.1, md_X8.2, by decide +kernel⟩ rfl ⟨by decide, by decide⟩ (Nat.le_of_ble_eq_true rfl) dX8_addDigits_16 (fun v15 σ2 hq => ?_)
        obtain ⟨hv15, rfl⟩ := hq
        refine zg_if_eq X 55 dX8_addDigits_19 (by decide) (fun c16 => ?_) (fun c16 => ?_)
        · skip
          refine zg_aload_n X 2 rfl dX8_addDigits_55 ?_
          refine zg_iload X 0 rfl dX8_addDigits_56 ?_
          refine zg_iload_n X 5 rfl dX8_addDigits_58 ?_
          refine zg_isub X dX8_addDigits_59 (by omega) (by omega) (fun v17 _ hv17 => ?_)
          refine zg_iconst X 4 dX8_addDigits_60 (by decide) (fun v18 _ hv18 => ?_)
          refine zg_icmp_le X 69 dX8_addDigits_61 (by decide) (fun c19 => ?_) (fun c19 => ?_)
          · skip
            refine zg_bipush X 23 dX8_addDigits_69 (by decide) (fun v20 _ hv20 => ?_)
            refine zg_iload X 1 rfl dX8_addDigits_71 ?_
            refine zg_i2l X dX8_addDigits_73 (fun v21 ev21 => ?_)
            refine zg_iload_n X 5 rfl dX8_addDigits_74 ?_
            refine zg_cVv (As := [.int v20, .long v21, .int p3]) (st := []) X ha0 rfl (by decide) rfl (t_X8_add l d L kd κ b _ hI a0 ha0 v20 v21 p3 ) mk_X8_49 mc_X8_add mz_X8 mi_X8_add ml_X8_add (na := 3) ⟨md_X8.1, md_X8.2, by decide +kernel⟩ rfl ⟨by decide, by decide⟩ (Nat.le_of_ble_eq_true rfl) dX8_addDigits_75 (fun σ hI => ?_)
            refine zg_iload X 0 rfl dX8_addDigits_78 ?_
            exact ret _ _ _ _ dX8_addDigits_80 rfl ⟨⟨by omega, by omega⟩, hI⟩
          · skip
            refine zg_bipush X 34 dX8_addDigits_64 (by decide) (fun v22 _ hv22 => ?_)
            refine zg_goto X 71 dX8_addDigits_66 (by decide) ?_
            refine zg_iload X 1 rfl dX8_addDigits_71 ?_
            refine zg_i2l X dX8_addDigits_73 (fun v23 ev23 => ?_)
            refine zg_iload_n X 5 rfl dX8_addDigits_74 ?_
            refine zg_cVv (As := [.int v22, .long v23, .int p3]) (st := []) X ha0 rfl (by decide) rfl (t_X8_add l d L kd κ b _ hI a0 ha0 v22 v23 p3 ) mk_X8_49 mc_X8_add mz_X8 mi_X8_add ml_X8_add (na := 3) ⟨md_X8.1, md_X8.2, by decide +kernel⟩ rfl ⟨by decide, by decide⟩ (Nat.le_of_ble_eq_true rfl) dX8_addDigits_75 (fun σ hI => ?_)
            refine zg_iload X 0 rfl dX8_addDigits_78 ?_
            exact ret _ _ _ _ dX8_addDigits_80 rfl ⟨⟨by omega, by omega⟩, hI⟩
        · skip
          refine zg_iload X 0 rfl dX8_addDigits_22 ?_
          refine zg_iload_n X 5 rfl dX8_addDigits_24 ?_
          refine zg_isub X dX8_addDigits_25 (by omega) (by omega) (fun v24 _ hv24 => ?_)
          refine zg_iconst X 4 dX8_addDigits_26 (by decide) (fun v25 _ hv25 => ?_)
          refine zg_icmp_ge X 46 dX8_addDigits_27 (by decide) (fun c26 => ?_) (fun c26 => ?_)
          · skip
            refine zg_iconst X 0 dX8_addDigits_46 (by decide) (fun v27 _ hv27 => ?_)
            refine zg_istore X [(4, .int v27), (5, .int x2), (0, .ref a0), (1, .ref p1), (2, .int p2), (3, .int p3)] dX8_addDigits_47 (by decide) rfl ?_
            refine zg_iinc X 1 (fun v28 => [(5, .int v28), (4, .int v27), (0, .ref a0), (1, .ref p1), (2, .int p2), (3, .int p3)]) 1 dX8_addDigits_49 rfl (by decide) (by decide) (by omega) (by omega) (fun _ => rfl) (fun v28 _ hv28 => ?_)
            refine zg_goto X 6 dX8_addDigits_52 (by decide) ?_
            refine zg_sub [0, 1, 2, 3, 4, 5] rfl ?_
            exact ihLp4 _ v28 v27 hI  (by omega) (by omega)
          · skip
            refine zg_iload X 1 rfl dX8_addDigits_30 ?_
            refine zg_bipush X 10 dX8_addDigits_32 (by decide) (fun v29 _ hv29 => ?_)
            refine zg_imulW X dX8_addDigits_34 (fun v30 _ => ?_)
            refine zg_aload_n X 3 rfl dX8_addDigits_35 ?_
            refine zg_iload X 0 rfl dX8_addDigits_36 ?_
            refine ag_39 X hI hp1 (by omega) (by omega) dX8_addDigits_38 (fun v31 _ hv31 => ?_)
            refine zg_bipush X 48 dX8_addDigits_39 (by decide) (fun v32 _ hv32 => ?_)
            refine zg_isub X dX8_addDigits_41 (by omega) (by omega) (fun v33 _ hv33 => ?_)
            refine zg_iaddW X dX8_addDigits_42 (fun v34 _ => ?_)
            refine zg_goto X 47 dX8_addDigits_43 (by decide) ?_
            refine zg_istore X [(4, .int v34), (5, .int x2), (0, .ref a0), (1, .ref p1), (2, .int p2), (3, .int p3)] dX8_addDigits_47 (by decide) rfl ?_
            refine zg_iinc X 1 (fun v35 => [(5, .int v35), (4, .int v34), (0, .ref a0), (1, .ref p1), (2, .int p2), (3, .int p3)]) 1 dX8_addDigits_49 rfl (by decide) (by decide) (by omega) (by omega) (fun _ => rfl) (fun v35 _ hv35 => ?_)
            refine zg_goto X 6 dX8_addDigits_52 (by decide) ?_
            refine zg_sub [0, 1, 2, 3, 4, 5] rfl ?_
            exact ihLp4 _ v35 v34 hI  (by omega) (by omega)
  refine zg_sub [0, 1, 2, 3, 4, 5] rfl ?_
  exact Lp4 ((2000 - p3.toInt + 1).toNat + 1) _ p3 v1 hI  (by omega) (by omega)
set_option maxHeartbeats 4000000 in
set_option maxRecDepth 100000 in
theorem t_X8_scan (l : Launch) (d : zD2) (L : List Nat) (kd : Nat → Nat) (κ : Int) (b : Nat) (σ : zS) (hI : zI κ b L kd σ) (a0 : Nat) (ha0 : zT L kd a0 8) (p1 : Nat) (hp1 : zT L kd p1 39) (p2 : Int32) (hq0 : p2.toInt ≤ 2000) : zMv l yX8_scan (Cond.code yX8_scan cX8_scan 8 none :: zWL) 4 [.ref a0, .ref p1, .int p2] d L kd σ (fun σ2 => zI κ b L kd σ2) := by
  refine zMv.of (own := RX8) (by decide +kernel) rfl rfl (Nat.le_of_ble_eq_true rfl) ?_
  intro p e s m args below meth c A Q X ret
  refine zg_lv (lv2 := [(0, .ref a0), (1, .ref p1), (2, .int p2)]) rfl ?_
  refine zg_aload_n X 0 rfl dX8_scan_0 ?_
  refine zg_iconst X 0 dX8_scan_1 (by decide) (fun v1 _ hv1 => ?_)
  refine fp_X8_23 X hI ha0 ⟨by omega, by omega⟩ dX8_scan_2 (fun s2 es2 hI => ?_)
  have e3 : v1 = s2.1 a0 4 := by rw [es2]; exact zm_s
  refine zg_iconst X 0 dX8_scan_5 (by decide) (fun v4 _ hv4 => ?_)
  refine zg_istore_n X [(3, .int v4), (0, .ref a0), (1, .ref p1), (2, .int p2)] dX8_scan_6 (by decide) rfl ?_
  refine zg_iconst X 1 dX8_scan_7 (by decide) (fun v5 _ hv5 => ?_)
  refine zg_istore X [(4, .int v5), (3, .int v4), (0, .ref a0), (1, .ref p1), (2, .int p2)] dX8_scan_8 (by decide) rfl ?_
  refine zg_iconst X 0 dX8_scan_10 (by decide) (fun v6 _ hv6 => ?_)
  refine zg_istore X [(5, .int v6), (4, .int v5), (3, .int v4), (0, .ref a0), (1, .ref p1), (2, .int p2)] dX8_scan_11 (by decide) rfl ?_
  have Lp10 : ∀ (n : Nat) (σ : zS) (x7 : Int32) (x8 : Int32) (x9 : Int32), zI κ b L kd σ → 0 ≤ x9.toInt ∧ x9.toInt ≤ 2000 ∧ 0 ≤ x8.toInt ∧ x8.toInt ≤ 1 ∧ 0 ≤ x7.toInt ∧ x7.toInt ≤ 401 → (401) - x7.toInt + 1 < (n : Int) → zG d L kd A 8 p l e (k2_rm 4 (100 * 4)) s m args below meth c Q σ 13 [(5, .int x7), (4, .int x8), (3, .int x9), (0, .ref a0), (1, .ref p1), (2, .int p2)] [] := by
    intro n
    induction n with
    | zero => intro σ x7 x8 x9 hI  hxLp10 hm; exact absurd hm (by omega)
    | succ n ihLp10 =>
      intro σ x7 x8 x9 hI  hxLp10 hmLp10
      refine zg_iload X 0 rfl dX8_scan_13 ?_
      refine zg_sipush X 400 dX8_scan_15 (by decide) (fun v11 _ hv11 => ?_)
      refine zg_icmp_gt X 180 dX8_scan_18 (by decide) (fun c12 => ?_) (fun c12 => ?_)
      · skip
        exact ret _ _ _ dX8_scan_180 hI
      · skip
        refine zg_iload X 1 rfl dX8_scan_21 ?_
        refine zg_if_eq X 180 dX8_scan_23 (by decide) (fun c13 => ?_) (fun c13 => ?_)
        · skip
          exact ret _ _ _ dX8_scan_180 hI
        · skip
          refine zg_aload_n X 4 rfl dX8_scan_26 ?_
          refine zg_iload_n X 5 rfl dX8_scan_27 ?_
          refine zg_iload_n X 2 rfl dX8_scan_28 ?_
          refine zg_cSi (As := [.ref p1, .int p2, .int x9]) (st := []) X (t_X8_pastBlanks l d L kd κ b _ hI p1 hp1 p2 x9 (by omega) (by omega)) mk_X8_45 mc_X8_pastBlanks mz_X8 ms_X8_pastBlanks (na := 3) ⟨md_X8.1, md_X8.2, by decide +kernel⟩ rfl ⟨by decide, by decide⟩ (Nat.le_of_ble_eq_true rfl) dX8_scan_29 (fun v14 σ hI => ?_)
          obtain ⟨hv14, hI⟩ := hI
          refine zg_istore_n X [(3, .int v14), (5, .int x7), (4, .int x8), (0, .ref a0), (1, .ref p1), (2, .int p2)] dX8_scan_32 (by decide) rfl ?_
          refine zg_iload_n X 0 rfl dX8_scan_33 ?_
          refine zg_iload_n X 5 rfl dX8_scan_34 ?_
          have zp2_z15 := zb_rng p2
          refine zg_icmp_ge X 44 dX8_scan_35 (by decide) (fun c16 => ?_) (fun c16 => ?_)
          · skip
            refine zg_iconst X 0 dX8_scan_44 (by decide) (fun v17 _ hv17 => ?_)
            refine zg_istore X [(6, .int v17), (3, .int v14), (5, .int x7), (4, .int x8), (0, .ref a0), (1, .ref p1), (2, .int p2)] dX8_scan_45 (by decide) rfl ?_
            refine zg_iload_n X 1 rfl dX8_scan_47 ?_
            refine zg_iload_n X 6 rfl dX8_scan_48 ?_
            have zp2_z18 := zb_rng p2
            refine zg_icmp_lt X 63 dX8_scan_49 (by decide) (fun c19 => ?_) (fun c19 => ?_)
            · skip
              refine zg_iload X 0 rfl dX8_scan_63 ?_
              refine zg_cSi (As := [.int v17]) (st := []) X (t_X8_isLetter l d L kd _ v17 ) mk_X8_53 mc_X8_isLetter mz_X8 ms_X8_isLetter (na := 1) ⟨md_X8.1, md_X8.2, by decide +kernel⟩ rfl ⟨by decide, by decide⟩ (Nat.le_of_ble_eq_true rfl) dX8_scan_65 (fun v20 σ2 hq => ?_)
              obtain ⟨hv20, rfl⟩ := hq
              refine zg_if_eq X 82 dX8_scan_68 (by decide) (fun c21 => ?_) (fun c21 => ?_)
              · skip
                refine zg_iload X 0 rfl dX8_scan_82 ?_
                refine zg_cSi (As := [.int v17]) (st := []) X (t_X8_isDigit l d L kd _ v17 ) mk_X8_60 mc_X8_isDigit mz_X8 ms_X8_isDigit (na := 1) ⟨md_X8.1, md_X8.2, by decide +kernel⟩ rfl ⟨by decide, by decide⟩ (Nat.le_of_ble_eq_true rfl) dX8_scan_84 (fun v22 σ2 hq => ?_)
                obtain ⟨hv22, rfl⟩ := hq
                refine zg_if_eq X 101 dX8_scan_87 (by decide) (fun c23 => ?_) (fun c23 => ?_)
                · skip
                  refine zg_iload X 0 rfl dX8_scan_101 ?_
                  refine zg_if_le X 117 dX8_scan_103 (by decide) (fun c24 => ?_) (fun c24 => ?_)
                  · skip
                    refine zg_iconst X (-1) dX8_scan_117 (by decide) (fun v25 _ hv25 => ?_)
                    refine zg_istore X [(7, .int v25), (6, .int v17), (3, .int v14), (5, .int x7), (4, .int x8), (0, .ref a0), (1, .ref p1), (2, .int p2)] dX8_scan_118 (by decide) rfl ?_
                    refine zg_aload_n X 5 rfl dX8_scan_120 ?_
                    refine zg_iload X 0 rfl dX8_scan_121 ?_
                    refine zg_if_ge X 131 dX8_scan_123 (by decide) (fun c26 => ?_) (fun c26 => ?_)
                    · omega
                    · skip
                      refine zg_bipush X 34 dX8_scan_126 (by decide) (fun v27 _ hv27 => ?_)
                      refine zg_goto X 136 dX8_scan_128 (by decide) ?_
                      refine zg_lconst X dX8_scan_136 (fun v28 _ => ?_)
                      refine zg_iload_n X 2 rfl dX8_scan_137 ?_
                      refine zg_cVv (As := [.int v27, .long v28, .int v14]) (st := []) X ha0 rfl (by decide) rfl (t_X8_add l d L kd κ b _ hI a0 ha0 v27 v28 v14 ) mk_X8_49 mc_X8_add mz_X8 mi_X8_add ml_X8_add (na := 3) ⟨md_X8.1, md_X8.2, by decide +kernel⟩ rfl ⟨by decide, by decide⟩ (Nat.le_of_ble_eq_true rfl) dX8_scan_138 (fun σ hI => ?_)
                      refine zg_iinc X 1 (fun v29 => [(3, .int v29), (7, .int v25), (6, .int v17), (5, .int x7), (4, .int x8), (0, .ref a0), (1, .ref p1), (2, .int p2)]) 2 dX8_scan_141 rfl (by decide) (by decide) (by omega) (by omega) (fun _ => rfl) (fun v29 _ hv29 => ?_)
                      refine zg_aload_n X 5 rfl dX8_scan_144 ?_
                      refine fg_X8_23 X hI ha0 dX8_scan_145 (fun v30 ev30 hv30 => ?_)
                      refine zg_if_le X 171 dX8_scan_148 (by decide) (fun c31 => ?_) (fun c31 => ?_)
                      · skip
                        refine zg_iconst X 0 dX8_scan_171 (by decide) (fun v32 _ hv32 => ?_)
                        refine zg_istore X [(4, .int v32), (3, .int v29), (7, .int v25), (6, .int v17), (5, .int x7), (0, .ref a0), (1, .ref p1), (2, .int p2)] dX8_scan_172 (by decide) rfl ?_
                        refine zg_iinc X 1 (fun v33 => [(5, .int v33), (4, .int v32), (3, .int v29), (7, .int v25), (6, .int v17), (0, .ref a0), (1, .ref p1), (2, .int p2)]) 4 dX8_scan_174 rfl (by decide) (by decide) (by omega) (by omega) (fun _ => rfl) (fun v33 _ hv33 => ?_)
                        refine zg_goto X 13 dX8_scan_177 (by decide) ?_
                        refine zg_sub [0, 1, 2, 5, 6, 7] rfl ?_
                        exact ihLp10 _ v33 v32 v29 hI  (by omega) (by omega)
                      · skip
                        refine zg_aload_n X 5 rfl dX8_scan_151 ?_
                        refine fg_X8_13 X hI ha0 dX8_scan_152 (fun v34 _ hv34 => ?_)
                        refine zg_aload_n X 5 rfl dX8_scan_155 ?_
                        refine fg_X8_23 X hI ha0 dX8_scan_156 (fun v35 ev35 hv35 => ?_)
                        have mv35 : v35.toInt = v30.toInt := by rw [ev35, ← ev30]
                        refine zg_iconst X 1 dX8_scan_159 (by decide) (fun v36 _ hv36 => ?_)
                        refine zg_isub X dX8_scan_160 (by omega) (by omega) (fun v37 _ hv37 => ?_)
                        refine ag_41 X hI hv34 (by omega) (by omega) dX8_scan_161 (fun v38 _ _ => ?_)
                        refine zg_bipush X 33 dX8_scan_162 (by decide) (fun v39 _ hv39 => ?_)
                        have zv38_z40 := zb_rng v38
                        refine zg_icmp_ge X 171 dX8_scan_164 (by decide) (fun c41 => ?_) (fun c41 => ?_)
                        · skip
                          refine zg_iconst X 0 dX8_scan_171 (by decide) (fun v42 _ hv42 => ?_)
                          refine zg_istore X [(4, .int v42), (3, .int v29), (7, .int v25), (6, .int v17), (5, .int x7), (0, .ref a0), (1, .ref p1), (2, .int p2)] dX8_scan_172 (by decide) rfl ?_
                          refine zg_iinc X 1 (fun v43 => [(5, .int v43), (4, .int v42), (3, .int v29), (7, .int v25), (6, .int v17), (0, .ref a0), (1, .ref p1), (2, .int p2)]) 4 dX8_scan_174 rfl (by decide) (by decide) (by omega) (by omega) (fun _ => rfl) (fun v43 _ hv43 => ?_)
                          refine zg_goto X 13 dX8_scan_177 (by decide) ?_
                          refine zg_sub [0, 1, 2, 5, 6, 7] rfl ?_
                          exact ihLp10 _ v43 v42 v29 hI  (by omega) (by omega)
                        · skip
                          refine zg_iconst X 1 dX8_scan_167 (by decide) (fun v44 _ hv44 => ?_)
                          refine zg_goto X 172 dX8_scan_168 (by decide) ?_
                          refine zg_istore X [(4, .int v44), (3, .int v29), (7, .int v25), (6, .int v17), (5, .int x7), (0, .ref a0), (1, .ref p1), (2, .int p2)] dX8_scan_172 (by decide) rfl ?_
                          refine zg_iinc X 1 (fun v45 => [(5, .int v45), (4, .int v44), (3, .int v29), (7, .int v25), (6, .int v17), (0, .ref a0), (1, .ref p1), (2, .int p2)]) 4 dX8_scan_174 rfl (by decide) (by decide) (by omega) (by omega) (fun _ => rfl) (fun v45 _ hv45 => ?_)
                          refine zg_goto X 13 dX8_scan_177 (by decide) ?_
                          refine zg_sub [0, 1, 2, 5, 6, 7] rfl ?_
                          exact ihLp10 _ v45 v44 v29 hI  (by omega) (by omega)
                  · omega
                · skip
                  refine zg_aload_n X 4 rfl dX8_scan_90 ?_
                  refine zg_aload_n X 5 rfl dX8_scan_91 ?_
                  refine zg_iload_n X 6 rfl dX8_scan_92 ?_
                  refine zg_iload_n X 1 rfl dX8_scan_93 ?_
                  refine zg_cVi (As := [.ref p1, .int p2, .int v14]) (st := []) X ha0 rfl (by decide) rfl (t_X8_addDigits l d L kd κ b _ hI a0 ha0 p1 hp1 p2 v14 (by omega) (by omega)) mk_X8_63 mc_X8_addDigits mz_X8 mi_X8_addDigits ml_X8_addDigits (na := 3) ⟨md_X8.1, md_X8.2, by decide +kernel⟩ rfl ⟨by decide, by decide⟩ (Nat.le_of_ble_eq_true rfl) dX8_scan_94 (fun v46 σ hI => ?_)
                  obtain ⟨hv46, hI⟩ := hI
                  refine zg_istore_n X [(3, .int v46), (6, .int v17), (5, .int x7), (4, .int x8), (0, .ref a0), (1, .ref p1), (2, .int p2)] dX8_scan_97 (by decide) rfl ?_
                  refine zg_goto X 144 dX8_scan_98 (by decide) ?_
                  refine zg_aload_n X 4 rfl dX8_scan_144 ?_
                  refine fg_X8_23 X hI ha0 dX8_scan_145 (fun v47 ev47 hv47 => ?_)
                  refine zg_if_le X 171 dX8_scan_148 (by decide) (fun c48 => ?_) (fun c48 => ?_)
                  · skip
                    refine zg_iconst X 0 dX8_scan_171 (by decide) (fun v49 _ hv49 => ?_)
                    refine zg_istore X [(4, .int v49), (3, .int v46), (6, .int v17), (5, .int x7), (0, .ref a0), (1, .ref p1), (2, .int p2)] dX8_scan_172 (by decide) rfl ?_
                    refine zg_iinc X 1 (fun v50 => [(5, .int v50), (4, .int v49), (3, .int v46), (6, .int v17), (0, .ref a0), (1, .ref p1), (2, .int p2)]) 3 dX8_scan_174 rfl (by decide) (by decide) (by omega) (by omega) (fun _ => rfl) (fun v50 _ hv50 => ?_)
                    refine zg_goto X 13 dX8_scan_177 (by decide) ?_
                    refine zg_sub [0, 1, 2, 4, 5, 6] rfl ?_
                    exact ihLp10 _ v50 v49 v46 hI  (by omega) (by omega)
                  · skip
                    refine zg_aload_n X 4 rfl dX8_scan_151 ?_
                    refine fg_X8_13 X hI ha0 dX8_scan_152 (fun v51 _ hv51 => ?_)
                    refine zg_aload_n X 4 rfl dX8_scan_155 ?_
                    refine fg_X8_23 X hI ha0 dX8_scan_156 (fun v52 ev52 hv52 => ?_)
                    have mv52 : v52.toInt = v47.toInt := by rw [ev52, ← ev47]
                    refine zg_iconst X 1 dX8_scan_159 (by decide) (fun v53 _ hv53 => ?_)
                    refine zg_isub X dX8_scan_160 (by omega) (by omega) (fun v54 _ hv54 => ?_)
                    refine ag_41 X hI hv51 (by omega) (by omega) dX8_scan_161 (fun v55 _ _ => ?_)
                    refine zg_bipush X 33 dX8_scan_162 (by decide) (fun v56 _ hv56 => ?_)
                    have zv55_z57 := zb_rng v55
                    refine zg_icmp_ge X 171 dX8_scan_164 (by decide) (fun c58 => ?_) (fun c58 => ?_)
                    · skip
                      refine zg_iconst X 0 dX8_scan_171 (by decide) (fun v59 _ hv59 => ?_)
                      refine zg_istore X [(4, .int v59), (3, .int v46), (6, .int v17), (5, .int x7), (0, .ref a0), (1, .ref p1), (2, .int p2)] dX8_scan_172 (by decide) rfl ?_
                      refine zg_iinc X 1 (fun v60 => [(5, .int v60), (4, .int v59), (3, .int v46), (6, .int v17), (0, .ref a0), (1, .ref p1), (2, .int p2)]) 3 dX8_scan_174 rfl (by decide) (by decide) (by omega) (by omega) (fun _ => rfl) (fun v60 _ hv60 => ?_)
                      refine zg_goto X 13 dX8_scan_177 (by decide) ?_
                      refine zg_sub [0, 1, 2, 4, 5, 6] rfl ?_
                      exact ihLp10 _ v60 v59 v46 hI  (by omega) (by omega)
                    · skip
                      refine zg_iconst X 1 dX8_scan_167 (by decide) (fun v61 _ hv61 => ?_)
                      refine zg_goto X 172 dX8_scan_168 (by decide) ?_
                      refine zg_istore X [(4, .int v61), (3, .int v46), (6, .int v17), (5, .int x7), (0, .ref a0), (1, .ref p1), (2, .int p2)] dX8_scan_172 (by decide) rfl ?_
                      refine zg_iinc X 1 (fun v62 => [(5, .int v62), (4, .int v61), (3, .int v46), (6, .int v17), (0, .ref a0), (1, .ref p1), (2, .int p2)]) 3 dX8_scan_174 rfl (by decide) (by decide) (by omega) (by omega) (fun _ => rfl) (fun v62 _ hv62 => ?_)
                      refine zg_goto X 13 dX8_scan_177 (by decide) ?_
                      refine zg_sub [0, 1, 2, 4, 5, 6] rfl ?_
                      exact ihLp10 _ v62 v61 v46 hI  (by omega) (by omega)
              · skip
                refine zg_aload_n X 4 rfl dX8_scan_71 ?_
                refine zg_aload_n X 5 rfl dX8_scan_72 ?_
                refine zg_iload_n X 6 rfl dX8_scan_73 ?_
                refine zg_iload_n X 1 rfl dX8_scan_74 ?_
                refine zg_cVi (As := [.ref p1, .int p2, .int v14]) (st := []) X ha0 rfl (by decide) rfl (t_X8_addLetters l d L kd κ b _ hI a0 ha0 p1 hp1 p2 v14 (by omega) (by omega)) mk_X8_57 mc_X8_addLetters mz_X8 mi_X8_addLetters ml_X8_addLetters (na := 3) ⟨md_X8.1, md_X8.2, by decide +kernel⟩ rfl ⟨by decide, by decide⟩ (Nat.le_of_ble_eq_true rfl) dX8_scan_75 (fun v63 σ hI => ?_)
                obtain ⟨hv63, hI⟩ := hI
                refine zg_istore_n X [(3, .int v63), (6, .int v17), (5, .int x7), (4, .int x8), (0, .ref a0), (1, .ref p1), (2, .int p2)] dX8_scan_78 (by decide) rfl ?_
                refine zg_goto X 144 dX8_scan_79 (by decide) ?_
                refine zg_aload_n X 4 rfl dX8_scan_144 ?_
                refine fg_X8_23 X hI ha0 dX8_scan_145 (fun v64 ev64 hv64 => ?_)
                refine zg_if_le X 171 dX8_scan_148 (by decide) (fun c65 => ?_) (fun c65 => ?_)
                · skip
                  refine zg_iconst X 0 dX8_scan_171 (by decide) (fun v66 _ hv66 => ?_)
                  refine zg_istore X [(4, .int v66), (3, .int v63), (6, .int v17), (5, .int x7), (0, .ref a0), (1, .ref p1), (2, .int p2)] dX8_scan_172 (by decide) rfl ?_
                  refine zg_iinc X 1 (fun v67 => [(5, .int v67), (4, .int v66), (3, .int v63), (6, .int v17), (0, .ref a0), (1, .ref p1), (2, .int p2)]) 3 dX8_scan_174 rfl (by decide) (by decide) (by omega) (by omega) (fun _ => rfl) (fun v67 _ hv67 => ?_)
                  refine zg_goto X 13 dX8_scan_177 (by decide) ?_
                  refine zg_sub [0, 1, 2, 4, 5, 6] rfl ?_
                  exact ihLp10 _ v67 v66 v63 hI  (by omega) (by omega)
                · skip
                  refine zg_aload_n X 4 rfl dX8_scan_151 ?_
                  refine fg_X8_13 X hI ha0 dX8_scan_152 (fun v68 _ hv68 => ?_)
                  refine zg_aload_n X 4 rfl dX8_scan_155 ?_
                  refine fg_X8_23 X hI ha0 dX8_scan_156 (fun v69 ev69 hv69 => ?_)
                  have mv69 : v69.toInt = v64.toInt := by rw [ev69, ← ev64]
                  refine zg_iconst X 1 dX8_scan_159 (by decide) (fun v70 _ hv70 => ?_)
                  refine zg_isub X dX8_scan_160 (by omega) (by omega) (fun v71 _ hv71 => ?_)
                  refine ag_41 X hI hv68 (by omega) (by omega) dX8_scan_161 (fun v72 _ _ => ?_)
                  refine zg_bipush X 33 dX8_scan_162 (by decide) (fun v73 _ hv73 => ?_)
                  have zv72_z74 := zb_rng v72
                  refine zg_icmp_ge X 171 dX8_scan_164 (by decide) (fun c75 => ?_) (fun c75 => ?_)
                  · skip
                    refine zg_iconst X 0 dX8_scan_171 (by decide) (fun v76 _ hv76 => ?_)
                    refine zg_istore X [(4, .int v76), (3, .int v63), (6, .int v17), (5, .int x7), (0, .ref a0), (1, .ref p1), (2, .int p2)] dX8_scan_172 (by decide) rfl ?_
                    refine zg_iinc X 1 (fun v77 => [(5, .int v77), (4, .int v76), (3, .int v63), (6, .int v17), (0, .ref a0), (1, .ref p1), (2, .int p2)]) 3 dX8_scan_174 rfl (by decide) (by decide) (by omega) (by omega) (fun _ => rfl) (fun v77 _ hv77 => ?_)
                    refine zg_goto X 13 dX8_scan_177 (by decide) ?_
                    refine zg_sub [0, 1, 2, 4, 5, 6] rfl ?_
                    exact ihLp10 _ v77 v76 v63 hI  (by omega) (by omega)
                  · skip
                    refine zg_iconst X 1 dX8_scan_167 (by decide) (fun v78 _ hv78 => ?_)
                    refine zg_goto X 172 dX8_scan_168 (by decide) ?_
                    refine zg_istore X [(4, .int v78), (3, .int v63), (6, .int v17), (5, .int x7), (0, .ref a0), (1, .ref p1), (2, .int p2)] dX8_scan_172 (by decide) rfl ?_
                    refine zg_iinc X 1 (fun v79 => [(5, .int v79), (4, .int v78), (3, .int v63), (6, .int v17), (0, .ref a0), (1, .ref p1), (2, .int p2)]) 3 dX8_scan_174 rfl (by decide) (by decide) (by omega) (by omega) (fun _ => rfl) (fun v79 _ hv79 => ?_)
                    refine zg_goto X 13 dX8_scan_177 (by decide) ?_
                    refine zg_sub [0, 1, 2, 4, 5, 6] rfl ?_
                    exact ihLp10 _ v79 v78 v63 hI  (by omega) (by omega)
            · skip
              refine zg_aload_n X 4 rfl dX8_scan_52 ?_
              refine zg_bipush X 33 dX8_scan_53 (by decide) (fun v80 _ hv80 => ?_)
              refine zg_lconst X dX8_scan_55 (fun v81 _ => ?_)
              refine zg_iload_n X 6 rfl dX8_scan_56 ?_
              refine zg_cVv (As := [.int v80, .long v81, .int p2]) (st := []) X ha0 rfl (by decide) rfl (t_X8_add l d L kd κ b _ hI a0 ha0 v80 v81 p2 ) mk_X8_49 mc_X8_add mz_X8 mi_X8_add ml_X8_add (na := 3) ⟨md_X8.1, md_X8.2, by decide +kernel⟩ rfl ⟨by decide, by decide⟩ (Nat.le_of_ble_eq_true rfl) dX8_scan_57 (fun σ hI => ?_)
              refine zg_goto X 144 dX8_scan_60 (by decide) ?_
              refine zg_aload_n X 4 rfl dX8_scan_144 ?_
              refine fg_X8_23 X hI ha0 dX8_scan_145 (fun v82 ev82 hv82 => ?_)
              refine zg_if_le X 171 dX8_scan_148 (by decide) (fun c83 => ?_) (fun c83 => ?_)
              · skip
                refine zg_iconst X 0 dX8_scan_171 (by decide) (fun v84 _ hv84 => ?_)
                refine zg_istore X [(4, .int v84), (6, .int v17), (3, .int v14), (5, .int x7), (0, .ref a0), (1, .ref p1), (2, .int p2)] dX8_scan_172 (by decide) rfl ?_
                refine zg_iinc X 1 (fun v85 => [(5, .int v85), (4, .int v84), (6, .int v17), (3, .int v14), (0, .ref a0), (1, .ref p1), (2, .int p2)]) 3 dX8_scan_174 rfl (by decide) (by decide) (by omega) (by omega) (fun _ => rfl) (fun v85 _ hv85 => ?_)
                refine zg_goto X 13 dX8_scan_177 (by decide) ?_
                refine zg_sub [0, 1, 3, 4, 5, 6] rfl ?_
                exact ihLp10 _ v85 v84 v14 hI  (by omega) (by omega)
              · skip
                refine zg_aload_n X 4 rfl dX8_scan_151 ?_
                refine fg_X8_13 X hI ha0 dX8_scan_152 (fun v86 _ hv86 => ?_)
                refine zg_aload_n X 4 rfl dX8_scan_155 ?_
                refine fg_X8_23 X hI ha0 dX8_scan_156 (fun v87 ev87 hv87 => ?_)
                have mv87 : v87.toInt = v82.toInt := by rw [ev87, ← ev82]
                refine zg_iconst X 1 dX8_scan_159 (by decide) (fun v88 _ hv88 => ?_)
                refine zg_isub X dX8_scan_160 (by omega) (by omega) (fun v89 _ hv89 => ?_)
                refine ag_41 X hI hv86 (by omega) (by omega) dX8_scan_161 (fun v90 _ _ => ?_)
                refine zg_bipush X 33 dX8_scan_162 (by decide) (fun v91 _ hv91 => ?_)
                have zv90_z92 := zb_rng v90
                refine zg_icmp_ge X 171 dX8_scan_164 (by decide) (fun c93 => ?_) (fun c93 => ?_)
                · skip
                  refine zg_iconst X 0 dX8_scan_171 (by decide) (fun v94 _ hv94 => ?_)
                  refine zg_istore X [(4, .int v94), (6, .int v17), (3, .int v14), (5, .int x7), (0, .ref a0), (1, .ref p1), (2, .int p2)] dX8_scan_172 (by decide) rfl ?_
                  refine zg_iinc X 1 (fun v95 => [(5, .int v95), (4, .int v94), (6, .int v17), (3, .int v14), (0, .ref a0), (1, .ref p1), (2, .int p2)]) 3 dX8_scan_174 rfl (by decide) (by decide) (by omega) (by omega) (fun _ => rfl) (fun v95 _ hv95 => ?_)
                  refine zg_goto X 13 dX8_scan_177 (by decide) ?_
                  refine zg_sub [0, 1, 3, 4, 5, 6] rfl ?_
                  exact ihLp10 _ v95 v94 v14 hI  (by omega) (by omega)
                · skip
                  refine zg_iconst X 1 dX8_scan_167 (by decide) (fun v96 _ hv96 => ?_)
                  refine zg_goto X 172 dX8_scan_168 (by decide) ?_
                  refine zg_istore X [(4, .int v96), (6, .int v17), (3, .int v14), (5, .int x7), (0, .ref a0), (1, .ref p1), (2, .int p2)] dX8_scan_172 (by decide) rfl ?_
                  refine zg_iinc X 1 (fun v97 => [(5, .int v97), (4, .int v96), (6, .int v17), (3, .int v14), (0, .ref a0), (1, .ref p1), (2, .int p2)]) 3 dX8_scan_174 rfl (by decide) (by decide) (by omega) (by omega) (fun _ => rfl) (fun v97 _ hv97 => ?_)
                  refine zg_goto X 13 dX8_scan_177 (by decide) ?_
                  refine zg_sub [0, 1, 3, 4, 5, 6] rfl ?_
                  exact ihLp10 _ v97 v96 v14 hI  (by omega) (by omega)
          · skip
            refine zg_aload_n X 4 rfl dX8_scan_38 ?_
            refine zg_iload_n X 0 rfl dX8_scan_39 ?_
            refine ag_39 X hI hp1 (by omega) (by omega) dX8_scan_40 (fun v98 _ hv98 => ?_)
            refine zg_goto X 45 dX8_scan_41 (by decide) ?_
            refine zg_istore X [(6, .int v98), (3, .int v14), (5, .int x7), (4, .int x8), (0, .ref a0), (1, .ref p1), (2, .int p2)] dX8_scan_45 (by decide) rfl ?_
            refine zg_iload_n X 1 rfl dX8_scan_47 ?_
            refine zg_iload_n X 6 rfl dX8_scan_48 ?_
            refine zg_icmp_lt X 63 dX8_scan_49 (by decide) (fun c99 => ?_) (fun c99 => ?_)
            · skip
              refine zg_iload X 0 rfl dX8_scan_63 ?_
              refine zg_cSi (As := [.int v98]) (st := []) X (t_X8_isLetter l d L kd _ v98 ) mk_X8_53 mc_X8_isLetter mz_X8 ms_X8_isLetter (na := 1) ⟨md_X8.1, md_X8.2, by decide +kernel⟩ rfl ⟨by decide, by decide⟩ (Nat.le_of_ble_eq_true rfl) dX8_scan_65 (fun v100 σ2 hq => ?_)
              obtain ⟨hv100, rfl⟩ := hq
              refine zg_if_eq X 82 dX8_scan_68 (by decide) (fun c101 => ?_) (fun c101 => ?_)
              · skip
                refine zg_iload X 0 rfl dX8_scan_82 ?_
                refine zg_cSi (As := [.int v98]) (st := []) X (t_X8_isDigit l d L kd _ v98 ) mk_X8_60 mc_X8_isDigit mz_X8 ms_X8_isDigit (na := 1) ⟨md_X8.1, md_X8.2, by decide +kernel⟩ rfl ⟨by decide, by decide⟩ (Nat.le_of_ble_eq_true rfl) dX8_scan_84 (fun v102 σ2 hq => ?_)
                obtain ⟨hv102, rfl⟩ := hq
                refine zg_if_eq X 101 dX8_scan_87 (by decide) (fun c103 => ?_) (fun c103 => ?_)
                · skip
                  refine zg_iload X 0 rfl dX8_scan_101 ?_
                  refine zg_if_le X 117 dX8_scan_103 (by decide) (fun c104 => ?_) (fun c104 => ?_)
                  · skip
                    refine zg_iconst X (-1) dX8_scan_117 (by decide) (fun v105 _ hv105 => ?_)
                    refine zg_istore X [(7, .int v105), (6, .int v98), (3, .int v14), (5, .int x7), (4, .int x8), (0, .ref a0), (1, .ref p1), (2, .int p2)] dX8_scan_118 (by decide) rfl ?_
                    refine zg_aload_n X 5 rfl dX8_scan_120 ?_
                    refine zg_iload X 0 rfl dX8_scan_121 ?_
                    refine zg_if_ge X 131 dX8_scan_123 (by decide) (fun c106 => ?_) (fun c106 => ?_)
                    · omega
                    · skip
                      refine zg_bipush X 34 dX8_scan_126 (by decide) (fun v107 _ hv107 => ?_)
                      refine zg_goto X 136 dX8_scan_128 (by decide) ?_
                      refine zg_lconst X dX8_scan_136 (fun v108 _ => ?_)
                      refine zg_iload_n X 2 rfl dX8_scan_137 ?_
                      refine zg_cVv (As := [.int v107, .long v108, .int v14]) (st := []) X ha0 rfl (by decide) rfl (t_X8_add l d L kd κ b _ hI a0 ha0 v107 v108 v14 ) mk_X8_49 mc_X8_add mz_X8 mi_X8_add ml_X8_add (na := 3) ⟨md_X8.1, md_X8.2, by decide +kernel⟩ rfl ⟨by decide, by decide⟩ (Nat.le_of_ble_eq_true rfl) dX8_scan_138 (fun σ hI => ?_)
                      refine zg_iinc X 1 (fun v109 => [(3, .int v109), (7, .int v105), (6, .int v98), (5, .int x7), (4, .int x8), (0, .ref a0), (1, .ref p1), (2, .int p2)]) 2 dX8_scan_141 rfl (by decide) (by decide) (by omega) (by omega) (fun _ => rfl) (fun v109 _ hv109 => ?_)
                      refine zg_aload_n X 5 rfl dX8_scan_144 ?_
                      refine fg_X8_23 X hI ha0 dX8_scan_145 (fun v110 ev110 hv110 => ?_)
                      refine zg_if_le X 171 dX8_scan_148 (by decide) (fun c111 => ?_) (fun c111 => ?_)
                      · skip
                        refine zg_iconst X 0 dX8_scan_171 (by decide) (fun v112 _ hv112 => ?_)
                        refine zg_istore X [(4, .int v112), (3, .int v109), (7, .int v105), (6, .int v98), (5, .int x7), (0, .ref a0), (1, .ref p1), (2, .int p2)] dX8_scan_172 (by decide) rfl ?_
                        refine zg_iinc X 1 (fun v113 => [(5, .int v113), (4, .int v112), (3, .int v109), (7, .int v105), (6, .int v98), (0, .ref a0), (1, .ref p1), (2, .int p2)]) 4 dX8_scan_174 rfl (by decide) (by decide) (by omega) (by omega) (fun _ => rfl) (fun v113 _ hv113 => ?_)
                        refine zg_goto X 13 dX8_scan_177 (by decide) ?_
                        refine zg_sub [0, 1, 2, 5, 6, 7] rfl ?_
                        exact ihLp10 _ v113 v112 v109 hI  (by omega) (by omega)
                      · skip
                        refine zg_aload_n X 5 rfl dX8_scan_151 ?_
                        refine fg_X8_13 X hI ha0 dX8_scan_152 (fun v114 _ hv114 => ?_)
                        refine zg_aload_n X 5 rfl dX8_scan_155 ?_
                        refine fg_X8_23 X hI ha0 dX8_scan_156 (fun v115 ev115 hv115 => ?_)
                        have mv115 : v115.toInt = v110.toInt := by rw [ev115, ← ev110]
                        refine zg_iconst X 1 dX8_scan_159 (by decide) (fun v116 _ hv116 => ?_)
                        refine zg_isub X dX8_scan_160 (by omega) (by omega) (fun v117 _ hv117 => ?_)
                        refine ag_41 X hI hv114 (by omega) (by omega) dX8_scan_161 (fun v118 _ _ => ?_)
                        refine zg_bipush X 33 dX8_scan_162 (by decide) (fun v119 _ hv119 => ?_)
                        have zv118_z120 := zb_rng v118
                        refine zg_icmp_ge X 171 dX8_scan_164 (by decide) (fun c121 => ?_) (fun c121 => ?_)
                        · skip
                          refine zg_iconst X 0 dX8_scan_171 (by decide) (fun v122 _ hv122 => ?_)
                          refine zg_istore X [(4, .int v122), (3, .int v109), (7, .int v105), (6, .int v98), (5, .int x7), (0, .ref a0), (1, .ref p1), (2, .int p2)] dX8_scan_172 (by decide) rfl ?_
                          refine zg_iinc X 1 (fun v123 => [(5, .int v123), (4, .int v122), (3, .int v109), (7, .int v105), (6, .int v98), (0, .ref a0), (1, .ref p1), (2, .int p2)]) 4 dX8_scan_174 rfl (by decide) (by decide) (by omega) (by omega) (fun _ => rfl) (fun v123 _ hv123 => ?_)
                          refine zg_goto X 13 dX8_scan_177 (by decide) ?_
                          refine zg_sub [0, 1, 2, 5, 6, 7] rfl ?_
                          exact ihLp10 _ v123 v122 v109 hI  (by omega) (by omega)
                        · skip
                          refine zg_iconst X 1 dX8_scan_167 (by decide) (fun v124 _ hv124 => ?_)
                          refine zg_goto X 172 dX8_scan_168 (by decide) ?_
                          refine zg_istore X [(4, .int v124), (3, .int v109), (7, .int v105), (6, .int v98), (5, .int x7), (0, .ref a0), (1, .ref p1), (2, .int p2)] dX8_scan_172 (by decide) rfl ?_
                          refine zg_iinc X 1 (fun v125 => [(5, .int v125), (4, .int v124), (3, .int v109), (7, .int v105), (6, .int v98), (0, .ref a0), (1, .ref p1), (2, .int p2)]) 4 dX8_scan_174 rfl (by decide) (by decide) (by omega) (by omega) (fun _ => rfl) (fun v125 _ hv125 => ?_)
                          refine zg_goto X 13 dX8_scan_177 (by decide) ?_
                          refine zg_sub [0, 1, 2, 5, 6, 7] rfl ?_
                          exact ihLp10 _ v125 v124 v109 hI  (by omega) (by omega)
                  · skip
                    refine zg_sldc (i := 1) X (by decide) rfl dX8_scan_106 ?_
                    refine zg_iload X 0 rfl dX8_scan_108 ?_
                    refine zg_i2c X dX8_scan_110 (fun v126 ev126 => ?_)
                    refine zg_cKi (As := [.int v126]) (st := []) X (by decide) rfl (t_J0_indexOf_0f7a4 l d L kd _ 1 (by decide) v126 ) mk_X8_68 mc_J0_indexOf_0f7a4 mz_J0 mi_J0_indexOf_0f7a4 ml_J0_indexOf_0f7a4 (na := 1) ⟨md_J0.1, md_J0.2, by decide +kernel⟩ rfl ⟨by decide, by decide⟩ (Nat.le_of_ble_eq_true rfl) dX8_scan_111 (fun v127 σ2 hq => ?_)
                    obtain ⟨hv127, rfl⟩ := hq
                    refine zg_goto X 118 dX8_scan_114 (by decide) ?_
                    refine zg_istore X [(7, .int v127), (6, .int v98), (3, .int v14), (5, .int x7), (4, .int x8), (0, .ref a0), (1, .ref p1), (2, .int p2)] dX8_scan_118 (by decide) rfl ?_
                    refine zg_aload_n X 5 rfl dX8_scan_120 ?_
                    refine zg_iload X 0 rfl dX8_scan_121 ?_
                    refine zg_if_ge X 131 dX8_scan_123 (by decide) (fun c128 => ?_) (fun c128 => ?_)
                    · skip
                      refine zg_bipush X 24 dX8_scan_131 (by decide) (fun v129 _ hv129 => ?_)
                      refine zg_iload X 0 rfl dX8_scan_133 ?_
                      refine zg_iaddW X dX8_scan_135 (fun v130 _ => ?_)
                      refine zg_lconst X dX8_scan_136 (fun v131 _ => ?_)
                      refine zg_iload_n X 2 rfl dX8_scan_137 ?_
                      refine zg_cVv (As := [.int v130, .long v131, .int v14]) (st := []) X ha0 rfl (by decide) rfl (t_X8_add l d L kd κ b _ hI a0 ha0 v130 v131 v14 ) mk_X8_49 mc_X8_add mz_X8 mi_X8_add ml_X8_add (na := 3) ⟨md_X8.1, md_X8.2, by decide +kernel⟩ rfl ⟨by decide, by decide⟩ (Nat.le_of_ble_eq_true rfl) dX8_scan_138 (fun σ hI => ?_)
                      refine zg_iinc X 1 (fun v132 => [(3, .int v132), (7, .int v127), (6, .int v98), (5, .int x7), (4, .int x8), (0, .ref a0), (1, .ref p1), (2, .int p2)]) 2 dX8_scan_141 rfl (by decide) (by decide) (by omega) (by omega) (fun _ => rfl) (fun v132 _ hv132 => ?_)
                      refine zg_aload_n X 5 rfl dX8_scan_144 ?_
                      refine fg_X8_23 X hI ha0 dX8_scan_145 (fun v133 ev133 hv133 => ?_)
                      refine zg_if_le X 171 dX8_scan_148 (by decide) (fun c134 => ?_) (fun c134 => ?_)
                      · skip
                        refine zg_iconst X 0 dX8_scan_171 (by decide) (fun v135 _ hv135 => ?_)
                        refine zg_istore X [(4, .int v135), (3, .int v132), (7, .int v127), (6, .int v98), (5, .int x7), (0, .ref a0), (1, .ref p1), (2, .int p2)] dX8_scan_172 (by decide) rfl ?_
                        refine zg_iinc X 1 (fun v136 => [(5, .int v136), (4, .int v135), (3, .int v132), (7, .int v127), (6, .int v98), (0, .ref a0), (1, .ref p1), (2, .int p2)]) 4 dX8_scan_174 rfl (by decide) (by decide) (by omega) (by omega) (fun _ => rfl) (fun v136 _ hv136 => ?_)
                        refine zg_goto X 13 dX8_scan_177 (by decide) ?_
                        refine zg_sub [0, 1, 2, 5, 6, 7] rfl ?_
                        exact ihLp10 _ v136 v135 v132 hI  (by omega) (by omega)
                      · skip
                        refine zg_aload_n X 5 rfl dX8_scan_151 ?_
                        refine fg_X8_13 X hI ha0 dX8_scan_152 (fun v137 _ hv137 => ?_)
                        refine zg_aload_n X 5 rfl dX8_scan_155 ?_
                        refine fg_X8_23 X hI ha0 dX8_scan_156 (fun v138 ev138 hv138 => ?_)
                        have mv138 : v138.toInt = v133.toInt := by rw [ev138, ← ev133]
                        refine zg_iconst X 1 dX8_scan_159 (by decide) (fun v139 _ hv139 => ?_)
                        refine zg_isub X dX8_scan_160 (by omega) (by omega) (fun v140 _ hv140 => ?_)
                        refine ag_41 X hI hv137 (by omega) (by omega) dX8_scan_161 (fun v141 _ _ => ?_)
                        refine zg_bipush X 33 dX8_scan_162 (by decide) (fun v142 _ hv142 => ?_)
                        have zv141_z143 := zb_rng v141
                        refine zg_icmp_ge X 171 dX8_scan_164 (by decide) (fun c144 => ?_) (fun c144 => ?_)
                        · skip
                          refine zg_iconst X 0 dX8_scan_171 (by decide) (fun v145 _ hv145 => ?_)
                          refine zg_istore X [(4, .int v145), (3, .int v132), (7, .int v127), (6, .int v98), (5, .int x7), (0, .ref a0), (1, .ref p1), (2, .int p2)] dX8_scan_172 (by decide) rfl ?_
                          refine zg_iinc X 1 (fun v146 => [(5, .int v146), (4, .int v145), (3, .int v132), (7, .int v127), (6, .int v98), (0, .ref a0), (1, .ref p1), (2, .int p2)]) 4 dX8_scan_174 rfl (by decide) (by decide) (by omega) (by omega) (fun _ => rfl) (fun v146 _ hv146 => ?_)
                          refine zg_goto X 13 dX8_scan_177 (by decide) ?_
                          refine zg_sub [0, 1, 2, 5, 6, 7] rfl ?_
                          exact ihLp10 _ v146 v145 v132 hI  (by omega) (by omega)
                        · skip
                          refine zg_iconst X 1 dX8_scan_167 (by decide) (fun v147 _ hv147 => ?_)
                          refine zg_goto X 172 dX8_scan_168 (by decide) ?_
                          refine zg_istore X [(4, .int v147), (3, .int v132), (7, .int v127), (6, .int v98), (5, .int x7), (0, .ref a0), (1, .ref p1), (2, .int p2)] dX8_scan_172 (by decide) rfl ?_
                          refine zg_iinc X 1 (fun v148 => [(5, .int v148), (4, .int v147), (3, .int v132), (7, .int v127), (6, .int v98), (0, .ref a0), (1, .ref p1), (2, .int p2)]) 4 dX8_scan_174 rfl (by decide) (by decide) (by omega) (by omega) (fun _ => rfl) (fun v148 _ hv148 => ?_)
                          refine zg_goto X 13 dX8_scan_177 (by decide) ?_
                          refine zg_sub [0, 1, 2, 5, 6, 7] rfl ?_
                          exact ihLp10 _ v148 v147 v132 hI  (by omega) (by omega)
                    · skip
                      refine zg_bipush X 34 dX8_scan_126 (by decide) (fun v149 _ hv149 => ?_)
                      refine zg_goto X 136 dX8_scan_128 (by decide) ?_
                      refine zg_lconst X dX8_scan_136 (fun v150 _ => ?_)
                      refine zg_iload_n X 2 rfl dX8_scan_137 ?_
                      refine zg_cVv (As := [.int v149, .long v150, .int v14]) (st := []) X ha0 rfl (by decide) rfl (t_X8_add l d L kd κ b _ hI a0 ha0 v149 v150 v14 ) mk_X8_49 mc_X8_add mz_X8 mi_X8_add ml_X8_add (na := 3) ⟨md_X8.1, md_X8.2, by decide +kernel⟩ rfl ⟨by decide, by decide⟩ (Nat.le_of_ble_eq_true rfl) dX8_scan_138 (fun σ hI => ?_)
                      refine zg_iinc X 1 (fun v151 => [(3, .int v151), (7, .int v127), (6, .int v98), (5, .int x7), (4, .int x8), (0, .ref a0), (1, .ref p1), (2, .int p2)]) 2 dX8_scan_141 rfl (by decide) (by decide) (by omega) (by omega) (fun _ => rfl) (fun v151 _ hv151 => ?_)
                      refine zg_aload_n X 5 rfl dX8_scan_144 ?_
                      refine fg_X8_23 X hI ha0 dX8_scan_145 (fun v152 ev152 hv152 => ?_)
                      refine zg_if_le X 171 dX8_scan_148 (by decide) (fun c153 => ?_) (fun c153 => ?_)
                      · skip
                        refine zg_iconst X 0 dX8_scan_171 (by decide) (fun v154 _ hv154 => ?_)
                        refine zg_istore X [(4, .int v154), (3, .int v151), (7, .int v127), (6, .int v98), (5, .int x7), (0, .ref a0), (1, .ref p1), (2, .int p2)] dX8_scan_172 (by decide) rfl ?_
                        refine zg_iinc X 1 (fun v155 => [(5, .int v155), (4, .int v154), (3, .int v151), (7, .int v127), (6, .int v98), (0, .ref a0), (1, .ref p1), (2, .int p2)]) 4 dX8_scan_174 rfl (by decide) (by decide) (by omega) (by omega) (fun _ => rfl) (fun v155 _ hv155 => ?_)
                        refine zg_goto X 13 dX8_scan_177 (by decide) ?_
                        refine zg_sub [0, 1, 2, 5, 6, 7] rfl ?_
                        exact ihLp10 _ v155 v154 v151 hI  (by omega) (by omega)
                      · skip
                        refine zg_aload_n X 5 rfl dX8_scan_151 ?_
                        refine fg_X8_13 X hI ha0 dX8_scan_152 (fun v156 _ hv156 => ?_)
                        refine zg_aload_n X 5 rfl dX8_scan_155 ?_
                        refine fg_X8_23 X hI ha0 dX8_scan_156 (fun v157 ev157 hv157 => ?_)
                        have mv157 : v157.toInt = v152.toInt := by rw [ev157, ← ev152]
                        refine zg_iconst X 1 dX8_scan_159 (by decide) (fun v158 _ hv158 => ?_)
                        refine zg_isub X dX8_scan_160 (by omega) (by omega) (fun v159 _ hv159 => ?_)
                        refine ag_41 X hI hv156 (by omega) (by omega) dX8_scan_161 (fun v160 _ _ => ?_)
                        refine zg_bipush X 33 dX8_scan_162 (by decide) (fun v161 _ hv161 => ?_)
                        have zv160_z162 := zb_rng v160
                        refine zg_icmp_ge X 171 dX8_scan_164 (by decide) (fun c163 => ?_) (fun c163 => ?_)
                        · skip
                          refine zg_iconst X 0 dX8_scan_171 (by decide) (fun v164 _ hv164 => ?_)
                          refine zg_istore X [(4, .int v164), (3, .int v151), (7, .int v127), (6, .int v98), (5, .int x7), (0, .ref a0), (1, .ref p1), (2, .int p2)] dX8_scan_172 (by decide) rfl ?_
                          refine zg_iinc X 1 (fun v165 => [(5, .int v165), (4, .int v164), (3, .int v151), (7, .int v127), (6, .int v98), (0, .ref a0), (1, .ref p1), (2, .int p2)]) 4 dX8_scan_174 rfl (by decide) (by decide) (by omega) (by omega) (fun _ => rfl) (fun v165 _ hv165 => ?_)
                          refine zg_goto X 13 dX8_scan_177 (by decide) ?_
                          refine zg_sub [0, 1, 2, 5, 6, 7] rfl ?_
                          exact ihLp10 _ v165 v164 v151 hI  (by omega) (by omega)
                        · skip
                          refine zg_iconst X 1 dX8_scan_167 (by decide) (fun v166 _ hv166 => ?_)
                          refine zg_goto X 172 dX8_scan_168 (by decide) ?_
                          refine zg_istore X [(4, .int v166), (3, .int v151), (7, .int v127), (6, .int v98), (5, .int x7), (0, .ref a0), (1, .ref p1), (2, .int p2)] dX8_scan_172 (by decide) rfl ?_
                          refine zg_iinc X 1 (fun v167 => [(5, .int v167), (4, .int v166), (3, .int v151), (7, .int v127), (6, .int v98), (0, .ref a0), (1, .ref p1), (2, .int p2)]) 4 dX8_scan_174 rfl (by decide) (by decide) (by omega) (by omega) (fun _ => rfl) (fun v167 _ hv167 => ?_)
                          refine zg_goto X 13 dX8_scan_177 (by decide) ?_
                          refine zg_sub [0, 1, 2, 5, 6, 7] rfl ?_
                          exact ihLp10 _ v167 v166 v151 hI  (by omega) (by omega)
                · skip
                  refine zg_aload_n X 4 rfl dX8_scan_90 ?_
                  refine zg_aload_n X 5 rfl dX8_scan_91 ?_
                  refine zg_iload_n X 6 rfl dX8_scan_92 ?_
                  refine zg_iload_n X 1 rfl dX8_scan_93 ?_
                  refine zg_cVi (As := [.ref p1, .int p2, .int v14]) (st := []) X ha0 rfl (by decide) rfl (t_X8_addDigits l d L kd κ b _ hI a0 ha0 p1 hp1 p2 v14 (by omega) (by omega)) mk_X8_63 mc_X8_addDigits mz_X8 mi_X8_addDigits ml_X8_addDigits (na := 3) ⟨md_X8.1, md_X8.2, by decide +kernel⟩ rfl ⟨by decide, by decide⟩ (Nat.le_of_ble_eq_true rfl) dX8_scan_94 (fun v168 σ hI => ?_)
                  obtain ⟨hv168, hI⟩ := hI
                  refine zg_istore_n X [(3, .int v168), (6, .int v98), (5, .int x7), (4, .int x8), (0, .ref a0), (1, .ref p1), (2, .int p2)] dX8_scan_97 (by decide) rfl ?_
                  refine zg_goto X 144 dX8_scan_98 (by decide) ?_
                  refine zg_aload_n X 4 rfl dX8_scan_144 ?_
                  refine fg_X8_23 X hI ha0 dX8_scan_145 (fun v169 ev169 hv169 => ?_)
                  refine zg_if_le X 171 dX8_scan_148 (by decide) (fun c170 => ?_) (fun c170 => ?_)
                  · skip
                    refine zg_iconst X 0 dX8_scan_171 (by decide) (fun v171 _ hv171 => ?_)
                    refine zg_istore X [(4, .int v171), (3, .int v168), (6, .int v98), (5, .int x7), (0, .ref a0), (1, .ref p1), (2, .int p2)] dX8_scan_172 (by decide) rfl ?_
                    refine zg_iinc X 1 (fun v172 => [(5, .int v172), (4, .int v171), (3, .int v168), (6, .int v98), (0, .ref a0), (1, .ref p1), (2, .int p2)]) 3 dX8_scan_174 rfl (by decide) (by decide) (by omega) (by omega) (fun _ => rfl) (fun v172 _ hv172 => ?_)
                    refine zg_goto X 13 dX8_scan_177 (by decide) ?_
                    refine zg_sub [0, 1, 2, 4, 5, 6] rfl ?_
                    exact ihLp10 _ v172 v171 v168 hI  (by omega) (by omega)
                  · skip
                    refine zg_aload_n X 4 rfl dX8_scan_151 ?_
                    refine fg_X8_13 X hI ha0 dX8_scan_152 (fun v173 _ hv173 => ?_)
                    refine zg_aload_n X 4 rfl dX8_scan_155 ?_
                    refine fg_X8_23 X hI ha0 dX8_scan_156 (fun v174 ev174 hv174 => ?_)
                    have mv174 : v174.toInt = v169.toInt := by rw [ev174, ← ev169]
                    refine zg_iconst X 1 dX8_scan_159 (by decide) (fun v175 _ hv175 => ?_)
                    refine zg_isub X dX8_scan_160 (by omega) (by omega) (fun v176 _ hv176 => ?_)
                    refine ag_41 X hI hv173 (by omega) (by omega) dX8_scan_161 (fun v177 _ _ => ?_)
                    refine zg_bipush X 33 dX8_scan_162 (by decide) (fun v178 _ hv178 => ?_)
                    have zv177_z179 := zb_rng v177
                    refine zg_icmp_ge X 171 dX8_scan_164 (by decide) (fun c180 => ?_) (fun c180 => ?_)
                    · skip
                      refine zg_iconst X 0 dX8_scan_171 (by decide) (fun v181 _ hv181 => ?_)
                      refine zg_istore X [(4, .int v181), (3, .int v168), (6, .int v98), (5, .int x7), (0, .ref a0), (1, .ref p1), (2, .int p2)] dX8_scan_172 (by decide) rfl ?_
                      refine zg_iinc X 1 (fun v182 => [(5, .int v182), (4, .int v181), (3, .int v168), (6, .int v98), (0, .ref a0), (1, .ref p1), (2, .int p2)]) 3 dX8_scan_174 rfl (by decide) (by decide) (by omega) (by omega) (fun _ => rfl) (fun v182 _ hv182 => ?_)
                      refine zg_goto X 13 dX8_scan_177 (by decide) ?_
                      refine zg_sub [0, 1, 2, 4, 5, 6] rfl ?_
                      exact ihLp10 _ v182 v181 v168 hI  (by omega) (by omega)
                    · skip
                      refine zg_iconst X 1 dX8_scan_167 (by decide) (fun v183 _ hv183 => ?_)
                      refine zg_goto X 172 dX8_scan_168 (by decide) ?_
                      refine zg_istore X [(4, .int v183), (3, .int v168), (6, .int v98), (5, .int x7), (0, .ref a0), (1, .ref p1), (2, .int p2)] dX8_scan_172 (by decide) rfl ?_
                      refine zg_iinc X 1 (fun v184 => [(5, .int v184), (4, .int v183), (3, .int v168), (6, .int v98), (0, .ref a0), (1, .ref p1), (2, .int p2)]) 3 dX8_scan_174 rfl (by decide) (by decide) (by omega) (by omega) (fun _ => rfl) (fun v184 _ hv184 => ?_)
                      refine zg_goto X 13 dX8_scan_177 (by decide) ?_
                      refine zg_sub [0, 1, 2, 4, 5, 6] rfl ?_
                      exact ihLp10 _ v184 v183 v168 hI  (by omega) (by omega)
              · skip
                refine zg_aload_n X 4 rfl dX8_scan_71 ?_
                refine zg_aload_n X 5 rfl dX8_scan_72 ?_
                refine zg_iload_n X 6 rfl dX8_scan_73 ?_
                refine zg_iload_n X 1 rfl dX8_scan_74 ?_
                refine zg_cVi (As := [.ref p1, .int p2, .int v14]) (st := []) X ha0 rfl (by decide) rfl (t_X8_addLetters l d L kd κ b _ hI a0 ha0 p1 hp1 p2 v14 (by omega) (by omega)) mk_X8_57 mc_X8_addLetters mz_X8 mi_X8_addLetters ml_X8_addLetters (na := 3) ⟨md_X8.1, md_X8.2, by decide +kernel⟩ rfl ⟨by decide, by decide⟩ (Nat.le_of_ble_eq_true rfl) dX8_scan_75 (fun v185 σ hI => ?_)
                obtain ⟨hv185, hI⟩ := hI
                refine zg_istore_n X [(3, .int v185), (6, .int v98), (5, .int x7), (4, .int x8), (0, .ref a0), (1, .ref p1), (2, .int p2)] dX8_scan_78 (by decide) rfl ?_
                refine zg_goto X 144 dX8_scan_79 (by decide) ?_
                refine zg_aload_n X 4 rfl dX8_scan_144 ?_
                refine fg_X8_23 X hI ha0 dX8_scan_145 (fun v186 ev186 hv186 => ?_)
                refine zg_if_le X 171 dX8_scan_148 (by decide) (fun c187 => ?_) (fun c187 => ?_)
                · skip
                  refine zg_iconst X 0 dX8_scan_171 (by decide) (fun v188 _ hv188 => ?_)
                  refine zg_istore X [(4, .int v188), (3, .int v185), (6, .int v98), (5, .int x7), (0, .ref a0), (1, .ref p1), (2, .int p2)] dX8_scan_172 (by decide) rfl ?_
                  refine zg_iinc X 1 (fun v189 => [(5, .int v189), (4, .int v188), (3, .int v185), (6, .int v98), (0, .ref a0), (1, .ref p1), (2, .int p2)]) 3 dX8_scan_174 rfl (by decide) (by decide) (by omega) (by omega) (fun _ => rfl) (fun v189 _ hv189 => ?_)
                  refine zg_goto X 13 dX8_scan_177 (by decide) ?_
                  refine zg_sub [0, 1, 2, 4, 5, 6] rfl ?_
                  exact ihLp10 _ v189 v188 v185 hI  (by omega) (by omega)
                · skip
                  refine zg_aload_n X 4 rfl dX8_scan_151 ?_
                  refine fg_X8_13 X hI ha0 dX8_scan_152 (fun v190 _ hv190 => ?_)
                  refine zg_aload_n X 4 rfl dX8_scan_155 ?_
                  refine fg_X8_23 X hI ha0 dX8_scan_156 (fun v191 ev191 hv191 => ?_)
                  have mv191 : v191.toInt = v186.toInt := by rw [ev191, ← ev186]
                  refine zg_iconst X 1 dX8_scan_159 (by decide) (fun v192 _ hv192 => ?_)
                  refine zg_isub X dX8_scan_160 (by omega) (by omega) (fun v193 _ hv193 => ?_)
                  refine ag_41 X hI hv190 (by omega) (by omega) dX8_scan_161 (fun v194 _ _ => ?_)
                  refine zg_bipush X 33 dX8_scan_162 (by decide) (fun v195 _ hv195 => ?_)
                  have zv194_z196 := zb_rng v194
                  refine zg_icmp_ge X 171 dX8_scan_164 (by decide) (fun c197 => ?_) (fun c197 => ?_)
                  · skip
                    refine zg_iconst X 0 dX8_scan_171 (by decide) (fun v198 _ hv198 => ?_)
                    refine zg_istore X [(4, .int v198), (3, .int v185), (6, .int v98), (5, .int x7), (0, .ref a0), (1, .ref p1), (2, .int p2)] dX8_scan_172 (by decide) rfl ?_
                    refine zg_iinc X 1 (fun v199 => [(5, .int v199), (4, .int v198), (3, .int v185), (6, .int v98), (0, .ref a0), (1, .ref p1), (2, .int p2)]) 3 dX8_scan_174 rfl (by decide) (by decide) (by omega) (by omega) (fun _ => rfl) (fun v199 _ hv199 => ?_)
                    refine zg_goto X 13 dX8_scan_177 (by decide) ?_
                    refine zg_sub [0, 1, 2, 4, 5, 6] rfl ?_
                    exact ihLp10 _ v199 v198 v185 hI  (by omega) (by omega)
                  · skip
                    refine zg_iconst X 1 dX8_scan_167 (by decide) (fun v200 _ hv200 => ?_)
                    refine zg_goto X 172 dX8_scan_168 (by decide) ?_
                    refine zg_istore X [(4, .int v200), (3, .int v185), (6, .int v98), (5, .int x7), (0, .ref a0), (1, .ref p1), (2, .int p2)] dX8_scan_172 (by decide) rfl ?_
                    refine zg_iinc X 1 (fun v201 => [(5, .int v201), (4, .int v200), (3, .int v185), (6, .int v98), (0, .ref a0), (1, .ref p1), (2, .int p2)]) 3 dX8_scan_174 rfl (by decide) (by decide) (by omega) (by omega) (fun _ => rfl) (fun v201 _ hv201 => ?_)
                    refine zg_goto X 13 dX8_scan_177 (by decide) ?_
                    refine zg_sub [0, 1, 2, 4, 5, 6] rfl ?_
                    exact ihLp10 _ v201 v200 v185 hI  (by omega) (by omega)
            · skip
              refine zg_aload_n X 4 rfl dX8_scan_52 ?_
              refine zg_bipush X 33 dX8_scan_53 (by decide) (fun v202 _ hv202 => ?_)
              refine zg_lconst X dX8_scan_55 (fun v203 _ => ?_)
              refine zg_iload_n X 6 rfl dX8_scan_56 ?_
              refine zg_cVv (As := [.int v202, .long v203, .int p2]) (st := []) X ha0 rfl (by decide) rfl (t_X8_add l d L kd κ b _ hI a0 ha0 v202 v203 p2 ) mk_X8_49 mc_X8_add mz_X8 mi_X8_add ml_X8_add (na := 3) ⟨md_X8.1, md_X8.2, by decide +kernel⟩ rfl ⟨by decide, by decide⟩ (Nat.le_of_ble_eq_true rfl) dX8_scan_57 (fun σ hI => ?_)
              refine zg_goto X 144 dX8_scan_60 (by decide) ?_
              refine zg_aload_n X 4 rfl dX8_scan_144 ?_
              refine fg_X8_23 X hI ha0 dX8_scan_145 (fun v204 ev204 hv204 => ?_)
              refine zg_if_le X 171 dX8_scan_148 (by decide) (fun c205 => ?_) (fun c205 => ?_)
              · skip
                refine zg_iconst X 0 dX8_scan_171 (by decide) (fun v206 _ hv206 => ?_)
                refine zg_istore X [(4, .int v206), (6, .int v98), (3, .int v14), (5, .int x7), (0, .ref a0), (1, .ref p1), (2, .int p2)] dX8_scan_172 (by decide) rfl ?_
                refine zg_iinc X 1 (fun v207 => [(5, .int v207), (4, .int v206), (6, .int v98), (3, .int v14), (0, .ref a0), (1, .ref p1), (2, .int p2)]) 3 dX8_scan_174 rfl (by decide) (by decide) (by omega) (by omega) (fun _ => rfl) (fun v207 _ hv207 => ?_)
                refine zg_goto X 13 dX8_scan_177 (by decide) ?_
                refine zg_sub [0, 1, 3, 4, 5, 6] rfl ?_
                exact ihLp10 _ v207 v206 v14 hI  (by omega) (by omega)
              · skip
                refine zg_aload_n X 4 rfl dX8_scan_151 ?_
                refine fg_X8_13 X hI ha0 dX8_scan_152 (fun v208 _ hv208 => ?_)
                refine zg_aload_n X 4 rfl dX8_scan_155 ?_
                refine fg_X8_23 X hI ha0 dX8_scan_156 (fun v209 ev209 hv209 => ?_)
                have mv209 : v209.toInt = v204.toInt := by rw [ev209, ← ev204]
                refine zg_iconst X 1 dX8_scan_159 (by decide) (fun v210 _ hv210 => ?_)
                refine zg_isub X dX8_scan_160 (by omega) (by omega) (fun v211 _ hv211 => ?_)
                refine ag_41 X hI hv208 (by omega) (by omega) dX8_scan_161 (fun v212 _ _ => ?_)
                refine zg_bipush X 33 dX8_scan_162 (by decide) (fun v213 _ hv213 => ?_)
                have zv212_z214 := zb_rng v212
                refine zg_icmp_ge X 171 dX8_scan_164 (by decide) (fun c215 => ?_) (fun c215 => ?_)
                · skip
                  refine zg_iconst X 0 dX8_scan_171 (by decide) (fun v216 _ hv216 => ?_)
                  refine zg_istore X [(4, .int v216), (6, .int v98), (3, .int v14), (5, .int x7), (0, .ref a0), (1, .ref p1), (2, .int p2)] dX8_scan_172 (by decide) rfl ?_
                  refine zg_iinc X 1 (fun v217 => [(5, .int v217), (4, .int v216), (6, .int v98), (3, .int v14), (0, .ref a0), (1, .ref p1), (2, .int p2)]) 3 dX8_scan_174 rfl (by decide) (by decide) (by omega) (by omega) (fun _ => rfl) (fun v217 _ hv217 => ?_)
                  refine zg_goto X 13 dX8_scan_177 (by decide) ?_
                  refine zg_sub [0, 1, 3, 4, 5, 6] rfl ?_
                  exact ihLp10 _ v217 v216 v14 hI  (by omega) (by omega)
                · skip
                  refine zg_iconst X 1 dX8_scan_167 (by decide) (fun v218 _ hv218 => ?_)
                  refine zg_goto X 172 dX8_scan_168 (by decide) ?_
                  refine zg_istore X [(4, .int v218), (6, .int v98), (3, .int v14), (5, .int x7), (0, .ref a0), (1, .ref p1), (2, .int p2)] dX8_scan_172 (by decide) rfl ?_
                  refine zg_iinc X 1 (fun v219 => [(5, .int v219), (4, .int v218), (6, .int v98), (3, .int v14), (0, .ref a0), (1, .ref p1), (2, .int p2)]) 3 dX8_scan_174 rfl (by decide) (by decide) (by omega) (by omega) (fun _ => rfl) (fun v219 _ hv219 => ?_)
                  refine zg_goto X 13 dX8_scan_177 (by decide) ?_
                  refine zg_sub [0, 1, 3, 4, 5, 6] rfl ?_
                  exact ihLp10 _ v219 v218 v14 hI  (by omega) (by omega)
  refine zg_sub [0, 1, 2, 3, 4, 5] rfl ?_
  exact Lp10 (((401) - v6.toInt + 1).toNat + 1) _ v6 v5 v4 hI  (by omega) (by omega)
set_option maxHeartbeats 4000000 in
set_option maxRecDepth 100000 in
theorem t_X3_goTo (l : Launch) (d : zD2) (L : List Nat) (kd : Nat → Nat) (κ : Int) (b : Nat) (σ : zS) (hI : zI κ b L kd σ) (a0 : Nat) (ha0 : zT L kd a0 3) (p1 : Int32) : zMv l yX3_goTo (Cond.code yX3_goTo cX3_goTo 3 none :: zWL) 0 [.ref a0, .int p1] d L kd σ (fun σ2 => zI κ b L kd σ2) := by
  refine zMv.of (own := RX3) (by decide +kernel) rfl rfl (Nat.le_of_ble_eq_true rfl) ?_
  intro p e s m args below meth c A Q X ret
  refine zg_lv (lv2 := [(0, .ref a0), (1, .int p1)]) rfl ?_
  refine zg_iload_n X 1 rfl dX3_goTo_0 ?_
  refine zg_if_lt X 19 dX3_goTo_1 (by decide) (fun c1 => ?_) (fun c1 => ?_)
  · skip
    refine zg_iconst X 0 dX3_goTo_19 (by decide) (fun v2 _ hv2 => ?_)
    refine zg_istore_n X [(2, .int v2), (0, .ref a0), (1, .int p1)] dX3_goTo_20 (by decide) rfl ?_
    refine zg_aload_n X 1 rfl dX3_goTo_21 ?_
    refine zg_iload_n X 2 rfl dX3_goTo_22 ?_
    refine fp_X3_22 X hI ha0 (zb_rng _) dX3_goTo_23 (fun s3 es3 hI => ?_)
    refine zg_aload_n X 1 rfl dX3_goTo_26 ?_
    refine zg_iload_n X 0 rfl dX3_goTo_27 ?_
    refine zg_if_eq X 43 dX3_goTo_28 (by decide) (fun c4 => ?_) (fun c4 => ?_)
    · skip
      refine zg_bipush X 34 dX3_goTo_43 (by decide) (fun v5 _ hv5 => ?_)
      refine fp_X3_26 X hI ha0 (zb_rng _) dX3_goTo_45 (fun s6 es6 hI => ?_)
      refine zg_aload_n X 1 rfl dX3_goTo_48 ?_
      refine zg_iload_n X 0 rfl dX3_goTo_49 ?_
      refine zg_if_eq X 65 dX3_goTo_50 (by decide) (fun c7 => ?_) (fun c7 => ?_)
      · skip
        refine zg_lconst X dX3_goTo_65 (fun v8 _ => ?_)
        refine fp_X3_29 X hI ha0 dX3_goTo_66 (fun s9 es9 hI => ?_)
        refine zg_aload_n X 1 rfl dX3_goTo_69 ?_
        refine zg_iload_n X 0 rfl dX3_goTo_70 ?_
        refine zg_if_eq X 86 dX3_goTo_71 (by decide) (fun c10 => ?_) (fun c10 => ?_)
        · skip
          refine zg_iconst X (-1) dX3_goTo_86 (by decide) (fun v11 _ hv11 => ?_)
          refine fp_X3_33 X hI ha0 (zb_rng _) dX3_goTo_87 (fun s12 es12 hI => ?_)
          exact ret _ _ _ dX3_goTo_90 hI
        · omega
      · omega
    · omega
  · skip
    refine zg_iload_n X 1 rfl dX3_goTo_4 ?_
    refine zg_aload_n X 0 rfl dX3_goTo_5 ?_
    refine fg_X3_12 X hI ha0 dX3_goTo_6 (fun v13 _ hv13 => ?_)
    refine fg_X3_162 X hI hv13 dX3_goTo_9 (fun v14 _ hv14 => ?_)
    have zp1_z15 := zb_rng p1
    refine zg_icmp_ge X 19 dX3_goTo_12 (by decide) (fun c16 => ?_) (fun c16 => ?_)
    · skip
      refine zg_iconst X 0 dX3_goTo_19 (by decide) (fun v17 _ hv17 => ?_)
      refine zg_istore_n X [(2, .int v17), (0, .ref a0), (1, .int p1)] dX3_goTo_20 (by decide) rfl ?_
      refine zg_aload_n X 1 rfl dX3_goTo_21 ?_
      refine zg_iload_n X 2 rfl dX3_goTo_22 ?_
      refine fp_X3_22 X hI ha0 (zb_rng _) dX3_goTo_23 (fun s18 es18 hI => ?_)
      refine zg_aload_n X 1 rfl dX3_goTo_26 ?_
      refine zg_iload_n X 0 rfl dX3_goTo_27 ?_
      refine zg_if_eq X 43 dX3_goTo_28 (by decide) (fun c19 => ?_) (fun c19 => ?_)
      · skip
        refine zg_bipush X 34 dX3_goTo_43 (by decide) (fun v20 _ hv20 => ?_)
        refine fp_X3_26 X hI ha0 (zb_rng _) dX3_goTo_45 (fun s21 es21 hI => ?_)
        refine zg_aload_n X 1 rfl dX3_goTo_48 ?_
        refine zg_iload_n X 0 rfl dX3_goTo_49 ?_
        refine zg_if_eq X 65 dX3_goTo_50 (by decide) (fun c22 => ?_) (fun c22 => ?_)
        · skip
          refine zg_lconst X dX3_goTo_65 (fun v23 _ => ?_)
          refine fp_X3_29 X hI ha0 dX3_goTo_66 (fun s24 es24 hI => ?_)
          refine zg_aload_n X 1 rfl dX3_goTo_69 ?_
          refine zg_iload_n X 0 rfl dX3_goTo_70 ?_
          refine zg_if_eq X 86 dX3_goTo_71 (by decide) (fun c25 => ?_) (fun c25 => ?_)
          · skip
            refine zg_iconst X (-1) dX3_goTo_86 (by decide) (fun v26 _ hv26 => ?_)
            refine fp_X3_33 X hI ha0 (zb_rng _) dX3_goTo_87 (fun s27 es27 hI => ?_)
            exact ret _ _ _ dX3_goTo_90 hI
          · omega
        · omega
      · omega
    · skip
      refine zg_iconst X 1 dX3_goTo_15 (by decide) (fun v28 _ hv28 => ?_)
      refine zg_goto X 20 dX3_goTo_16 (by decide) ?_
      refine zg_istore_n X [(2, .int v28), (0, .ref a0), (1, .int p1)] dX3_goTo_20 (by decide) rfl ?_
      refine zg_aload_n X 1 rfl dX3_goTo_21 ?_
      refine zg_iload_n X 2 rfl dX3_goTo_22 ?_
      refine fp_X3_22 X hI ha0 (zb_rng _) dX3_goTo_23 (fun s29 es29 hI => ?_)
      refine zg_aload_n X 1 rfl dX3_goTo_26 ?_
      refine zg_iload_n X 0 rfl dX3_goTo_27 ?_
      refine zg_if_eq X 43 dX3_goTo_28 (by decide) (fun c30 => ?_) (fun c30 => ?_)
      · omega
      · skip
        refine zg_aload_n X 1 rfl dX3_goTo_31 ?_
        refine fg_X3_12 X hI ha0 dX3_goTo_32 (fun v31 _ hv31 => ?_)
        refine fg_X3_163 X hI hv31 dX3_goTo_35 (fun v32 _ hv32 => ?_)
        refine zg_iload_n X 2 rfl dX3_goTo_38 ?_
        refine ag_41 X hI hv32 (by omega) (by omega) dX3_goTo_39 (fun v33 _ _ => ?_)
        refine zg_goto X 45 dX3_goTo_40 (by decide) ?_
        refine fp_X3_26 X hI ha0 (zb_rng _) dX3_goTo_45 (fun s34 es34 hI => ?_)
        refine zg_aload_n X 1 rfl dX3_goTo_48 ?_
        refine zg_iload_n X 0 rfl dX3_goTo_49 ?_
        refine zg_if_eq X 65 dX3_goTo_50 (by decide) (fun c35 => ?_) (fun c35 => ?_)
        · omega
        · skip
          refine zg_aload_n X 1 rfl dX3_goTo_53 ?_
          refine fg_X3_12 X hI ha0 dX3_goTo_54 (fun v36 _ hv36 => ?_)
          refine fg_X3_166 X hI hv36 dX3_goTo_57 (fun v37 _ hv37 => ?_)
          refine zg_iload_n X 2 rfl dX3_goTo_60 ?_
          refine ag_42 X hv37 (by omega) (by omega) dX3_goTo_61 (fun v38 _ => ?_)
          refine zg_goto X 66 dX3_goTo_62 (by decide) ?_
          refine fp_X3_29 X hI ha0 dX3_goTo_66 (fun s39 es39 hI => ?_)
          refine zg_aload_n X 1 rfl dX3_goTo_69 ?_
          refine zg_iload_n X 0 rfl dX3_goTo_70 ?_
          refine zg_if_eq X 86 dX3_goTo_71 (by decide) (fun c40 => ?_) (fun c40 => ?_)
          · omega
          · skip
            refine zg_aload_n X 1 rfl dX3_goTo_74 ?_
            refine fg_X3_12 X hI ha0 dX3_goTo_75 (fun v41 _ hv41 => ?_)
            refine fg_X3_169 X hI hv41 dX3_goTo_78 (fun v42 _ hv42 => ?_)
            refine zg_iload_n X 2 rfl dX3_goTo_81 ?_
            refine ag_43 X hI hv42 (by omega) (by omega) dX3_goTo_82 (fun v43 _ _ => ?_)
            refine zg_goto X 87 dX3_goTo_83 (by decide) ?_
            refine fp_X3_33 X hI ha0 (zb_rng _) dX3_goTo_87 (fun s44 es44 hI => ?_)
            exact ret _ _ _ dX3_goTo_90 hI
set_option maxHeartbeats 4000000 in
set_option maxRecDepth 100000 in
theorem t_X3_fail (l : Launch) (d : zD2) (L : List Nat) (kd : Nat → Nat) (κ : Int) (b : Nat) (σ : zS) (hI : zI κ b L kd σ) (a0 : Nat) (ha0 : zT L kd a0 3) (p1 : Int32) : zMv l yX3_fail (Cond.code yX3_fail cX3_fail 2 none :: zWL) 0 [.ref a0, .int p1] d L kd σ (fun σ2 => zI κ b L kd σ2) := by
  refine zMv.of (own := RX3) (by decide +kernel) rfl rfl (Nat.le_of_ble_eq_true rfl) ?_
  intro p e s m args below meth c A Q X ret
  refine zg_lv (lv2 := [(0, .ref a0), (1, .int p1)]) rfl ?_
  refine zg_aload_n X 0 rfl dX3_fail_0 ?_
  refine fg_X3_43 X hI ha0 dX3_fail_1 (fun v1 _ _ => ?_)
  refine zg_if_ne X 26 dX3_fail_4 (by decide) (fun c2 => ?_) (fun c2 => ?_)
  · skip
    exact ret _ _ _ dX3_fail_26 hI
  · skip
    refine zg_aload_n X 0 rfl dX3_fail_7 ?_
    refine zg_iload_n X 1 rfl dX3_fail_8 ?_
    refine fp_X3_43 X hI ha0 (zb_rng _) dX3_fail_9 (fun s3 es3 hI => ?_)
    refine zg_aload_n X 0 rfl dX3_fail_12 ?_
    refine zg_aload_n X 0 rfl dX3_fail_13 ?_
    refine fg_X3_33 X hI ha0 dX3_fail_14 (fun v4 _ _ => ?_)
    refine fp_X3_46 X hI ha0 (zb_rng _) dX3_fail_17 (fun s5 es5 hI => ?_)
    refine zg_aload_n X 0 rfl dX3_fail_20 ?_
    refine zg_bipush X 34 dX3_fail_21 (by decide) (fun v6 _ hv6 => ?_)
    refine fp_X3_26 X hI ha0 (zb_rng _) dX3_fail_23 (fun s7 es7 hI => ?_)
    exact ret _ _ _ dX3_fail_26 hI
set_option maxHeartbeats 4000000 in
set_option maxRecDepth 100000 in
theorem t_X3_failLate (l : Launch) (d : zD2) (L : List Nat) (kd : Nat → Nat) (κ : Int) (b : Nat) (σ : zS) (hI : zI κ b L kd σ) (a0 : Nat) (ha0 : zT L kd a0 3) (p1 : Int32) : zMv l yX3_failLate (Cond.code yX3_failLate cX3_failLate 2 none :: zWL) 0 [.ref a0, .int p1] d L kd σ (fun σ2 => zI κ b L kd σ2) := by
  refine zMv.of (own := RX3) (by decide +kernel) rfl rfl (Nat.le_of_ble_eq_true rfl) ?_
  intro p e s m args below meth c A Q X ret
  refine zg_lv (lv2 := [(0, .ref a0), (1, .int p1)]) rfl ?_
  refine zg_aload_n X 0 rfl dX3_failLate_0 ?_
  refine fg_X3_49 X hI ha0 dX3_failLate_1 (fun v1 _ _ => ?_)
  refine zg_if_ne X 20 dX3_failLate_4 (by decide) (fun c2 => ?_) (fun c2 => ?_)
  · skip
    exact ret _ _ _ dX3_failLate_20 hI
  · skip
    refine zg_aload_n X 0 rfl dX3_failLate_7 ?_
    refine zg_iload_n X 1 rfl dX3_failLate_8 ?_
    refine fp_X3_49 X hI ha0 (zb_rng _) dX3_failLate_9 (fun s3 es3 hI => ?_)
    refine zg_aload_n X 0 rfl dX3_failLate_12 ?_
    refine zg_aload_n X 0 rfl dX3_failLate_13 ?_
    refine fg_X3_33 X hI ha0 dX3_failLate_14 (fun v4 _ _ => ?_)
    refine fp_X3_52 X hI ha0 (zb_rng _) dX3_failLate_17 (fun s5 es5 hI => ?_)
    exact ret _ _ _ dX3_failLate_20 hI
set_option maxHeartbeats 4000000 in
set_option maxRecDepth 100000 in
theorem t_X3_take (l : Launch) (d : zD2) (L : List Nat) (kd : Nat → Nat) (κ : Int) (b : Nat) (σ : zS) (hI : zI κ b L kd σ) (a0 : Nat) (ha0 : zT L kd a0 3) (p1 : Int32) : zMv l yX3_take (Cond.code yX3_take cX3_take 2 none :: zWL) 1 [.ref a0, .int p1] d L kd σ (fun σ2 => zI κ b L kd σ2) := by
  refine zMv.of (own := RX3) (by decide +kernel) rfl rfl (Nat.le_of_ble_eq_true rfl) ?_
  intro p e s m args below meth c A Q X ret
  refine zg_lv (lv2 := [(0, .ref a0), (1, .int p1)]) rfl ?_
  refine zg_aload_n X 0 rfl dX3_take_0 ?_
  refine fg_X3_26 X hI ha0 dX3_take_1 (fun v1 _ _ => ?_)
  refine zg_iload_n X 1 rfl dX3_take_4 ?_
  refine zg_icmp_eq X 16 dX3_take_5 (by decide) (fun c2 => ?_) (fun c2 => ?_)
  · skip
    refine zg_aload_n X 0 rfl dX3_take_16 ?_
    refine fg_X3_22 X hI ha0 dX3_take_17 (fun v3 ev3 _ => ?_)
    refine zg_sipush X 400 dX3_take_20 (by decide) (fun v4 _ hv4 => ?_)
    have zv3_z5 := zb_rng v3
    refine zg_icmp_lt X 34 dX3_take_23 (by decide) (fun c6 => ?_) (fun c6 => ?_)
    · skip
      refine zg_aload_n X 0 rfl dX3_take_34 ?_
      refine zg_aload_n X 0 rfl dX3_take_35 ?_
      refine fg_X3_22 X hI ha0 dX3_take_36 (fun v7 ev7 _ => ?_)
      have mv7 : v7.toInt = v3.toInt := by rw [ev7, ← ev3]
      refine zg_iconst X 1 dX3_take_39 (by decide) (fun v8 _ hv8 => ?_)
      refine zg_iadd X dX3_take_40 (by omega) (by omega) (fun v9 _ hv9 => ?_)
      refine zg_cVv (As := [.int v9]) (st := []) X ha0 rfl (by decide) rfl (t_X3_goTo l d L kd κ b _ hI a0 ha0 v9 ) mk_X3_64 mc_X3_goTo mz_X3 mi_X3_goTo ml_X3_goTo (na := 1) ⟨md_X3.1, md_X3.2, by decide +kernel⟩ rfl ⟨by decide, by decide⟩ (Nat.le_of_ble_eq_true rfl) dX3_take_41 (fun σ hI => ?_)
      exact ret _ _ _ dX3_take_44 hI
    · skip
      refine zg_aload_n X 0 rfl dX3_take_26 ?_
      refine zg_iconst X 2 dX3_take_27 (by decide) (fun v10 _ hv10 => ?_)
      refine zg_cVv (As := [.int v10]) (st := []) X ha0 rfl (by decide) rfl (t_X3_fail l d L kd κ b _ hI a0 ha0 v10 ) mk_X3_106 mc_X3_fail mz_X3 mi_X3_fail ml_X3_fail (na := 1) ⟨md_X3.1, md_X3.2, by decide +kernel⟩ rfl ⟨by decide, by decide⟩ (Nat.le_of_ble_eq_true rfl) dX3_take_28 (fun σ hI => ?_)
      refine zg_goto X 44 dX3_take_31 (by decide) ?_
      exact ret _ _ _ dX3_take_44 hI
  · skip
    refine zg_aload_n X 0 rfl dX3_take_8 ?_
    refine zg_iconst X 1 dX3_take_9 (by decide) (fun v11 _ hv11 => ?_)
    refine zg_cVv (As := [.int v11]) (st := []) X ha0 rfl (by decide) rfl (t_X3_fail l d L kd κ b _ hI a0 ha0 v11 ) mk_X3_106 mc_X3_fail mz_X3 mi_X3_fail ml_X3_fail (na := 1) ⟨md_X3.1, md_X3.2, by decide +kernel⟩ rfl ⟨by decide, by decide⟩ (Nat.le_of_ble_eq_true rfl) dX3_take_10 (fun σ hI => ?_)
    refine zg_goto X 44 dX3_take_13 (by decide) ?_
    exact ret _ _ _ dX3_take_44 hI
set_option maxHeartbeats 4000000 in
set_option maxRecDepth 100000 in
theorem t_X3_placeNamed (l : Launch) (d : zD2) (L : List Nat) (kd : Nat → Nat) (κ : Int) (σ : zS) (hI : zI κ 2 L kd σ) (a0 : Nat) (ha0 : zT L kd a0 3) (p1 : Int64) : zMi l yX3_placeNamed (Cond.code yX3_placeNamed cX3_placeNamed 4 (some .int) :: zWL) 0 [.ref a0, .long p1] d L kd σ (fun v σ2 => ((-1) ≤ v.toInt ∧ v.toInt ≤ 11) ∧ zI κ 2 L kd σ2) := by
  refine zMi.of (own := RX3) (by decide +kernel) rfl rfl (Nat.le_of_ble_eq_true rfl) ?_
  intro p e s m args below meth c A Q X ret
  refine zg_lv (lv2 := [(0, .ref a0), (1, .long p1)]) rfl ?_
  refine zg_aload_n X 0 rfl dX3_placeNamed_0 ?_
  refine fg_X3_36 X hI ha0 dX3_placeNamed_1 (fun v1 _ hv1 => ?_)
  refine zg_if_eq X 11 dX3_placeNamed_4 (by decide) (fun c2 => ?_) (fun c2 => ?_)
  · skip
    refine zg_iconst X 1 dX3_placeNamed_11 (by decide) (fun v3 _ hv3 => ?_)
    refine zg_istore_n X [(3, .int v3), (0, .ref a0), (1, .long p1)] dX3_placeNamed_12 (by decide) rfl ?_
    have Lp5 : ∀ (n : Nat) (σ : zS) (x4 : Int32), zI κ 2 L kd σ → 1 ≤ x4.toInt ∧ x4.toInt ≤ 12 → (12) - x4.toInt + 1 < (n : Int) → zG d L kd A 4 p l e (k2_rm 0 (100 * 0)) s m args below meth c Q σ 13 [(3, .int x4), (0, .ref a0), (1, .long p1)] [] := by
      intro n
      induction n with
      | zero => intro σ x4 hI  hxLp5 hm; exact absurd hm (by omega)
      | succ n ihLp5 =>
        intro σ x4 hI  hxLp5 hmLp5
        refine zg_iload_n X 0 rfl dX3_placeNamed_13 ?_
        refine zg_aload_n X 1 rfl dX3_placeNamed_14 ?_
        refine fg_X3_40 X hI ha0 dX3_placeNamed_15 (fun v6 _ hv6 => ?_)
        refine zg_icmp_gt X 49 dX3_placeNamed_18 (by decide) (fun c7 => ?_) (fun c7 => ?_)
        · skip
          refine zg_iconst X (-1) dX3_placeNamed_49 (by decide) (fun v8 _ hv8 => ?_)
          exact ret _ _ _ _ dX3_placeNamed_50 rfl ⟨⟨by omega, by omega⟩, hI⟩
        · skip
          refine zg_iload_n X 0 rfl dX3_placeNamed_21 ?_
          refine zg_bipush X 12 dX3_placeNamed_22 (by decide) (fun v9 _ hv9 => ?_)
          refine zg_icmp_ge X 49 dX3_placeNamed_24 (by decide) (fun c10 => ?_) (fun c10 => ?_)
          · omega
          · skip
            refine zg_aload_n X 1 rfl dX3_placeNamed_27 ?_
            refine fg_X3_18 X hI ha0 dX3_placeNamed_28 (fun v11 _ hv11 => ?_)
            refine fg_X3_113 X hI hv11 dX3_placeNamed_31 (fun v12 _ hv12 => ?_)
            refine zg_iload_n X 0 rfl dX3_placeNamed_34 ?_
            refine ag_44 X hv12 (by omega) (by omega) dX3_placeNamed_35 (fun v13 _ => ?_)
            refine zg_lload_n X 2 rfl dX3_placeNamed_36 ?_
            refine zg_lcmp X dX3_placeNamed_37 (fun v14 _ => ?_)
            refine zg_if_ne X 43 dX3_placeNamed_38 (by decide) (fun c15 => ?_) (fun c15 => ?_)
            · skip
              refine zg_iinc X 1 (fun v16 => [(3, .int v16), (0, .ref a0), (1, .long p1)]) 0 dX3_placeNamed_43 rfl (by decide) (by decide) (by omega) (by omega) (fun _ => rfl) (fun v16 _ hv16 => ?_)
              refine zg_goto X 13 dX3_placeNamed_46 (by decide) ?_
              refine zg_sub [0, 1, 2] rfl ?_
              exact ihLp5 _ v16 hI  (by omega) (by omega)
            · skip
              refine zg_iload_n X 0 rfl dX3_placeNamed_41 ?_
              exact ret _ _ _ _ dX3_placeNamed_42 rfl ⟨⟨by omega, by omega⟩, hI⟩
    refine zg_sub [0, 1, 2] rfl ?_
    exact Lp5 (((12) - v3.toInt + 1).toNat + 1) _ v3 hI  (by omega) (by omega)
  · skip
    refine zg_iconst X 0 dX3_placeNamed_7 (by decide) (fun v17 _ hv17 => ?_)
    refine zg_goto X 12 dX3_placeNamed_8 (by decide) ?_
    refine zg_istore_n X [(3, .int v17), (0, .ref a0), (1, .long p1)] dX3_placeNamed_12 (by decide) rfl ?_
    have Lp19 : ∀ (n : Nat) (σ : zS) (x18 : Int32), zI κ 2 L kd σ → 0 ≤ x18.toInt ∧ x18.toInt ≤ 12 → (12) - x18.toInt + 1 < (n : Int) → zG d L kd A 4 p l e (k2_rm 0 (100 * 0)) s m args below meth c Q σ 13 [(3, .int x18), (0, .ref a0), (1, .long p1)] [] := by
      intro n
      induction n with
      | zero => intro σ x18 hI  hxLp19 hm; exact absurd hm (by omega)
      | succ n ihLp19 =>
        intro σ x18 hI  hxLp19 hmLp19
        refine zg_iload_n X 0 rfl dX3_placeNamed_13 ?_
        refine zg_aload_n X 1 rfl dX3_placeNamed_14 ?_
        refine fg_X3_40 X hI ha0 dX3_placeNamed_15 (fun v20 _ hv20 => ?_)
        refine zg_icmp_gt X 49 dX3_placeNamed_18 (by decide) (fun c21 => ?_) (fun c21 => ?_)
        · skip
          refine zg_iconst X (-1) dX3_placeNamed_49 (by decide) (fun v22 _ hv22 => ?_)
          exact ret _ _ _ _ dX3_placeNamed_50 rfl ⟨⟨by omega, by omega⟩, hI⟩
        · skip
          refine zg_iload_n X 0 rfl dX3_placeNamed_21 ?_
          refine zg_bipush X 12 dX3_placeNamed_22 (by decide) (fun v23 _ hv23 => ?_)
          refine zg_icmp_ge X 49 dX3_placeNamed_24 (by decide) (fun c24 => ?_) (fun c24 => ?_)
          · omega
          · skip
            refine zg_aload_n X 1 rfl dX3_placeNamed_27 ?_
            refine fg_X3_18 X hI ha0 dX3_placeNamed_28 (fun v25 _ hv25 => ?_)
            refine fg_X3_113 X hI hv25 dX3_placeNamed_31 (fun v26 _ hv26 => ?_)
            refine zg_iload_n X 0 rfl dX3_placeNamed_34 ?_
            refine ag_44 X hv26 (by omega) (by omega) dX3_placeNamed_35 (fun v27 _ => ?_)
            refine zg_lload_n X 2 rfl dX3_placeNamed_36 ?_
            refine zg_lcmp X dX3_placeNamed_37 (fun v28 _ => ?_)
            refine zg_if_ne X 43 dX3_placeNamed_38 (by decide) (fun c29 => ?_) (fun c29 => ?_)
            · skip
              refine zg_iinc X 1 (fun v30 => [(3, .int v30), (0, .ref a0), (1, .long p1)]) 0 dX3_placeNamed_43 rfl (by decide) (by decide) (by omega) (by omega) (fun _ => rfl) (fun v30 _ hv30 => ?_)
              refine zg_goto X 13 dX3_placeNamed_46 (by decide) ?_
              refine zg_sub [0, 1, 2] rfl ?_
              exact ihLp19 _ v30 hI  (by omega) (by omega)
            · skip
              refine zg_iload_n X 0 rfl dX3_placeNamed_41 ?_
              exact ret _ _ _ _ dX3_placeNamed_42 rfl ⟨⟨by omega, by omega⟩, hI⟩
    refine zg_sub [0, 1, 2] rfl ?_
    exact Lp19 (((12) - v17.toInt + 1).toNat + 1) _ v17 hI  (by omega) (by omega)
set_option maxHeartbeats 4000000 in
set_option maxRecDepth 100000 in
theorem t_X3_newName (l : Launch) (d : zD2) (L : List Nat) (kd : Nat → Nat) (κ : Int) (σ : zS) (hI : zI κ 2 L kd σ) (a0 : Nat) (ha0 : zT L kd a0 3) : zMl l yX3_newName (Cond.code yX3_newName cX3_newName 3 (some .long) :: zWL) 2 [.ref a0] d L kd σ (fun _ σ2 => zI κ 2 L kd σ2) := by
  refine zMl.of (own := RX3) (by decide +kernel) rfl rfl (Nat.le_of_ble_eq_true rfl) ?_
  intro p e s m args below meth c A Q X ret
  refine zg_lv (lv2 := [(0, .ref a0)]) rfl ?_
  refine zg_aload_n X 0 rfl dX3_newName_0 ?_
  refine fg_X3_29 X ha0 dX3_newName_1 (fun v1 _ => ?_)
  refine zg_lstore_n X [(1, .long v1), (0, .ref a0)] dX3_newName_4 (by decide) rfl ?_
  refine zg_aload_n X 1 rfl dX3_newName_5 ?_
  refine fg_X3_26 X hI ha0 dX3_newName_6 (fun v2 _ _ => ?_)
  refine zg_bipush X 22 dX3_newName_9 (by decide) (fun v3 _ hv3 => ?_)
  refine zg_icmp_ne X 28 dX3_newName_11 (by decide) (fun c4 => ?_) (fun c4 => ?_)
  · skip
    refine zg_aload_n X 1 rfl dX3_newName_28 ?_
    refine zg_bipush X 22 dX3_newName_29 (by decide) (fun v5 _ hv5 => ?_)
    refine zg_cVv (As := [.int v5]) (st := []) X ha0 rfl (by decide) rfl (t_X3_take l d L kd κ 2 _ hI a0 ha0 v5 ) mk_X3_87 mc_X3_take mz_X3 mi_X3_take ml_X3_take (na := 1) ⟨md_X3.1, md_X3.2, by decide +kernel⟩ rfl ⟨by decide, by decide⟩ (Nat.le_of_ble_eq_true rfl) dX3_newName_31 (fun σ hI => ?_)
    refine zg_lload_n X 0 rfl dX3_newName_34 ?_
    exact ret _ _ _ _ dX3_newName_35 hI
  · skip
    refine zg_aload_n X 1 rfl dX3_newName_14 ?_
    refine zg_lload_n X 0 rfl dX3_newName_15 ?_
    refine zg_cVi (As := [.long v1]) (st := []) X ha0 rfl (by decide) rfl (t_X3_placeNamed l d L kd κ _ hI a0 ha0 v1 ) mk_X3_125 mc_X3_placeNamed mz_X3 mi_X3_placeNamed ml_X3_placeNamed (na := 1) ⟨md_X3.1, md_X3.2, by decide +kernel⟩ rfl ⟨by decide, by decide⟩ (Nat.le_of_ble_eq_true rfl) dX3_newName_16 (fun v6 σ hI => ?_)
    obtain ⟨hv6, hI⟩ := hI
    refine zg_iconst X (-1) dX3_newName_19 (by decide) (fun v7 _ hv7 => ?_)
    refine zg_icmp_eq X 28 dX3_newName_20 (by decide) (fun c8 => ?_) (fun c8 => ?_)
    · skip
      refine zg_aload_n X 1 rfl dX3_newName_28 ?_
      refine zg_bipush X 22 dX3_newName_29 (by decide) (fun v9 _ hv9 => ?_)
      refine zg_cVv (As := [.int v9]) (st := []) X ha0 rfl (by decide) rfl (t_X3_take l d L kd κ 2 _ hI a0 ha0 v9 ) mk_X3_87 mc_X3_take mz_X3 mi_X3_take ml_X3_take (na := 1) ⟨md_X3.1, md_X3.2, by decide +kernel⟩ rfl ⟨by decide, by decide⟩ (Nat.le_of_ble_eq_true rfl) dX3_newName_31 (fun σ hI => ?_)
      refine zg_lload_n X 0 rfl dX3_newName_34 ?_
      exact ret _ _ _ _ dX3_newName_35 hI
    · skip
      refine zg_aload_n X 1 rfl dX3_newName_23 ?_
      refine zg_iconst X 3 dX3_newName_24 (by decide) (fun v10 _ hv10 => ?_)
      refine zg_cVv (As := [.int v10]) (st := []) X ha0 rfl (by decide) rfl (t_X3_failLate l d L kd κ 2 _ hI a0 ha0 v10 ) mk_X3_129 mc_X3_failLate mz_X3 mi_X3_failLate ml_X3_failLate (na := 1) ⟨md_X3.1, md_X3.2, by decide +kernel⟩ rfl ⟨by decide, by decide⟩ (Nat.le_of_ble_eq_true rfl) dX3_newName_25 (fun σ hI => ?_)
      refine zg_aload_n X 1 rfl dX3_newName_28 ?_
      refine zg_bipush X 22 dX3_newName_29 (by decide) (fun v11 _ hv11 => ?_)
      refine zg_cVv (As := [.int v11]) (st := []) X ha0 rfl (by decide) rfl (t_X3_take l d L kd κ 2 _ hI a0 ha0 v11 ) mk_X3_87 mc_X3_take mz_X3 mi_X3_take ml_X3_take (na := 1) ⟨md_X3.1, md_X3.2, by decide +kernel⟩ rfl ⟨by decide, by decide⟩ (Nat.le_of_ble_eq_true rfl) dX3_newName_31 (fun σ hI => ?_)
      refine zg_lload_n X 0 rfl dX3_newName_34 ?_
      exact ret _ _ _ _ dX3_newName_35 hI
set_option maxHeartbeats 4000000 in
set_option maxRecDepth 100000 in
theorem t_X3_knownName (l : Launch) (d : zD2) (L : List Nat) (kd : Nat → Nat) (κ : Int) (σ : zS) (hI : zI κ 2 L kd σ) (a0 : Nat) (ha0 : zT L kd a0 3) : zMi l yX3_knownName (Cond.code yX3_knownName cX3_knownName 2 (some .int) :: zWL) 2 [.ref a0] d L kd σ (fun v σ2 => (0 ≤ v.toInt ∧ v.toInt ≤ 11) ∧ zI κ 2 L kd σ2) := by
  refine zMi.of (own := RX3) (by decide +kernel) rfl rfl (Nat.le_of_ble_eq_true rfl) ?_
  intro p e s m args below meth c A Q X ret
  refine zg_lv (lv2 := [(0, .ref a0)]) rfl ?_
  refine zg_aload_n X 0 rfl dX3_knownName_0 ?_
  refine zg_aload_n X 0 rfl dX3_knownName_1 ?_
  refine fg_X3_29 X ha0 dX3_knownName_2 (fun v1 _ => ?_)
  refine zg_cVi (As := [.long v1]) (st := []) X ha0 rfl (by decide) rfl (t_X3_placeNamed l d L kd κ _ hI a0 ha0 v1 ) mk_X3_125 mc_X3_placeNamed mz_X3 mi_X3_placeNamed ml_X3_placeNamed (na := 1) ⟨md_X3.1, md_X3.2, by decide +kernel⟩ rfl ⟨by decide, by decide⟩ (Nat.le_of_ble_eq_true rfl) dX3_knownName_5 (fun v2 σ hI => ?_)
  obtain ⟨hv2, hI⟩ := hI
  refine zg_istore_n X [(1, .int v2), (0, .ref a0)] dX3_knownName_8 (by decide) rfl ?_
  refine zg_aload_n X 1 rfl dX3_knownName_9 ?_
  refine fg_X3_26 X hI ha0 dX3_knownName_10 (fun v3 _ _ => ?_)
  refine zg_bipush X 22 dX3_knownName_13 (by decide) (fun v4 _ hv4 => ?_)
  refine zg_icmp_ne X 28 dX3_knownName_15 (by decide) (fun c5 => ?_) (fun c5 => ?_)
  · skip
    refine zg_aload_n X 1 rfl dX3_knownName_28 ?_
    refine zg_bipush X 22 dX3_knownName_29 (by decide) (fun v6 _ hv6 => ?_)
    refine zg_cVv (As := [.int v6]) (st := []) X ha0 rfl (by decide) rfl (t_X3_take l d L kd κ 2 _ hI a0 ha0 v6 ) mk_X3_87 mc_X3_take mz_X3 mi_X3_take ml_X3_take (na := 1) ⟨md_X3.1, md_X3.2, by decide +kernel⟩ rfl ⟨by decide, by decide⟩ (Nat.le_of_ble_eq_true rfl) dX3_knownName_31 (fun σ hI => ?_)
    refine zg_iconst X 0 dX3_knownName_34 (by decide) (fun v7 _ hv7 => ?_)
    refine zg_iload_n X 0 rfl dX3_knownName_35 ?_
    refine zg_max X wj_X3_132 ⟨by decide, Nat.le_of_ble_eq_true rfl⟩ dX3_knownName_36 (fun v8 hv8 => ?_)
    exact ret _ _ _ _ dX3_knownName_39 rfl ⟨⟨by omega, by omega⟩, hI⟩
  · skip
    refine zg_iload_n X 0 rfl dX3_knownName_18 ?_
    refine zg_iconst X (-1) dX3_knownName_19 (by decide) (fun v9 _ hv9 => ?_)
    refine zg_icmp_ne X 28 dX3_knownName_20 (by decide) (fun c10 => ?_) (fun c10 => ?_)
    · skip
      refine zg_aload_n X 1 rfl dX3_knownName_28 ?_
      refine zg_bipush X 22 dX3_knownName_29 (by decide) (fun v11 _ hv11 => ?_)
      refine zg_cVv (As := [.int v11]) (st := []) X ha0 rfl (by decide) rfl (t_X3_take l d L kd κ 2 _ hI a0 ha0 v11 ) mk_X3_87 mc_X3_take mz_X3 mi_X3_take ml_X3_take (na := 1) ⟨md_X3.1, md_X3.2, by decide +kernel⟩ rfl ⟨by decide, by decide⟩ (Nat.le_of_ble_eq_true rfl) dX3_knownName_31 (fun σ hI => ?_)
      refine zg_iconst X 0 dX3_knownName_34 (by decide) (fun v12 _ hv12 => ?_)
      refine zg_iload_n X 0 rfl dX3_knownName_35 ?_
      refine zg_max X wj_X3_132 ⟨by decide, Nat.le_of_ble_eq_true rfl⟩ dX3_knownName_36 (fun v13 hv13 => ?_)
      exact ret _ _ _ _ dX3_knownName_39 rfl ⟨⟨by omega, by omega⟩, hI⟩
    · skip
      refine zg_aload_n X 1 rfl dX3_knownName_23 ?_
      refine zg_iconst X 4 dX3_knownName_24 (by decide) (fun v14 _ hv14 => ?_)
      refine zg_cVv (As := [.int v14]) (st := []) X ha0 rfl (by decide) rfl (t_X3_failLate l d L kd κ 2 _ hI a0 ha0 v14 ) mk_X3_129 mc_X3_failLate mz_X3 mi_X3_failLate ml_X3_failLate (na := 1) ⟨md_X3.1, md_X3.2, by decide +kernel⟩ rfl ⟨by decide, by decide⟩ (Nat.le_of_ble_eq_true rfl) dX3_knownName_25 (fun σ hI => ?_)
      refine zg_aload_n X 1 rfl dX3_knownName_28 ?_
      refine zg_bipush X 22 dX3_knownName_29 (by decide) (fun v15 _ hv15 => ?_)
      refine zg_cVv (As := [.int v15]) (st := []) X ha0 rfl (by decide) rfl (t_X3_take l d L kd κ 2 _ hI a0 ha0 v15 ) mk_X3_87 mc_X3_take mz_X3 mi_X3_take ml_X3_take (na := 1) ⟨md_X3.1, md_X3.2, by decide +kernel⟩ rfl ⟨by decide, by decide⟩ (Nat.le_of_ble_eq_true rfl) dX3_knownName_31 (fun σ hI => ?_)
      refine zg_iconst X 0 dX3_knownName_34 (by decide) (fun v16 _ hv16 => ?_)
      refine zg_iload_n X 0 rfl dX3_knownName_35 ?_
      refine zg_max X wj_X3_132 ⟨by decide, Nat.le_of_ble_eq_true rfl⟩ dX3_knownName_36 (fun v17 hv17 => ?_)
      exact ret _ _ _ _ dX3_knownName_39 rfl ⟨⟨by omega, by omega⟩, hI⟩
set_option maxHeartbeats 4000000 in
set_option maxRecDepth 100000 in
theorem t_X3_number (l : Launch) (d : zD2) (L : List Nat) (kd : Nat → Nat) (κ : Int) (b : Nat) (σ : zS) (hI : zI κ b L kd σ) (a0 : Nat) (ha0 : zT L kd a0 3) (p1 : Int32) (p2 : Int32) : zMi l yX3_number (Cond.code yX3_number cX3_number 4 (some .int) :: zWL) 2 [.ref a0, .int p1, .int p2] d L kd σ (fun _ σ2 => zI κ b L kd σ2) := by
  refine zMi.of (own := RX3) (by decide +kernel) rfl rfl (Nat.le_of_ble_eq_true rfl) ?_
  intro p e s m args below meth c A Q X ret
  refine zg_lv (lv2 := [(0, .ref a0), (1, .int p1), (2, .int p2)]) rfl ?_
  refine zg_aload_n X 0 rfl dX3_number_0 ?_
  refine fg_X3_29 X ha0 dX3_number_1 (fun v1 _ => ?_)
  refine zg_l2i X dX3_number_4 (fun v2 ev2 => ?_)
  refine zg_istore_n X [(3, .int v2), (0, .ref a0), (1, .int p1), (2, .int p2)] dX3_number_5 (by decide) rfl ?_
  refine zg_aload_n X 1 rfl dX3_number_6 ?_
  refine fg_X3_26 X hI ha0 dX3_number_7 (fun v3 _ _ => ?_)
  refine zg_bipush X 23 dX3_number_10 (by decide) (fun v4 _ hv4 => ?_)
  refine zg_icmp_ne X 29 dX3_number_12 (by decide) (fun c5 => ?_) (fun c5 => ?_)
  · skip
    refine zg_aload_n X 1 rfl dX3_number_29 ?_
    refine zg_bipush X 23 dX3_number_30 (by decide) (fun v6 _ hv6 => ?_)
    refine zg_cVv (As := [.int v6]) (st := []) X ha0 rfl (by decide) rfl (t_X3_take l d L kd κ b _ hI a0 ha0 v6 ) mk_X3_87 mc_X3_take mz_X3 mi_X3_take ml_X3_take (na := 1) ⟨md_X3.1, md_X3.2, by decide +kernel⟩ rfl ⟨by decide, by decide⟩ (Nat.le_of_ble_eq_true rfl) dX3_number_32 (fun σ hI => ?_)
    refine zg_iload_n X 0 rfl dX3_number_35 ?_
    exact ret _ _ _ _ dX3_number_36 rfl hI
  · skip
    refine zg_iload_n X 0 rfl dX3_number_15 ?_
    refine zg_iload_n X 2 rfl dX3_number_16 ?_
    refine zg_iload_n X 3 rfl dX3_number_17 ?_
    refine zg_cSNi (As := [.int v2, .int p1, .int p2]) (st := []) X (t_X10_isWithin l d L kd _ v2 p1 p2 ) mk_X3_80 mc_X10_isWithin mz_X10 ms_X10_isWithin (na := 3) ⟨md_X10.1, md_X10.2, by decide +kernel⟩ rfl ⟨by decide, by decide⟩ (Nat.le_of_ble_eq_true rfl) dX3_number_18 (fun v7 σ2 hq => ?_)
    obtain ⟨hv7, rfl⟩ := hq
    refine zg_if_ne X 29 dX3_number_21 (by decide) (fun c8 => ?_) (fun c8 => ?_)
    · skip
      refine zg_aload_n X 1 rfl dX3_number_29 ?_
      refine zg_bipush X 23 dX3_number_30 (by decide) (fun v9 _ hv9 => ?_)
      refine zg_cVv (As := [.int v9]) (st := []) X ha0 rfl (by decide) rfl (t_X3_take l d L kd κ b _ hI a0 ha0 v9 ) mk_X3_87 mc_X3_take mz_X3 mi_X3_take ml_X3_take (na := 1) ⟨md_X3.1, md_X3.2, by decide +kernel⟩ rfl ⟨by decide, by decide⟩ (Nat.le_of_ble_eq_true rfl) dX3_number_32 (fun σ hI => ?_)
      refine zg_iload_n X 0 rfl dX3_number_35 ?_
      exact ret _ _ _ _ dX3_number_36 rfl hI
    · skip
      refine zg_aload_n X 1 rfl dX3_number_24 ?_
      refine zg_iconst X 5 dX3_number_25 (by decide) (fun v10 _ hv10 => ?_)
      refine zg_cVv (As := [.int v10]) (st := []) X ha0 rfl (by decide) rfl (t_X3_failLate l d L kd κ b _ hI a0 ha0 v10 ) mk_X3_129 mc_X3_failLate mz_X3 mi_X3_failLate ml_X3_failLate (na := 1) ⟨md_X3.1, md_X3.2, by decide +kernel⟩ rfl ⟨by decide, by decide⟩ (Nat.le_of_ble_eq_true rfl) dX3_number_26 (fun σ hI => ?_)
      refine zg_aload_n X 1 rfl dX3_number_29 ?_
      refine zg_bipush X 23 dX3_number_30 (by decide) (fun v11 _ hv11 => ?_)
      refine zg_cVv (As := [.int v11]) (st := []) X ha0 rfl (by decide) rfl (t_X3_take l d L kd κ b _ hI a0 ha0 v11 ) mk_X3_87 mc_X3_take mz_X3 mi_X3_take ml_X3_take (na := 1) ⟨md_X3.1, md_X3.2, by decide +kernel⟩ rfl ⟨by decide, by decide⟩ (Nat.le_of_ble_eq_true rfl) dX3_number_32 (fun σ hI => ?_)
      refine zg_iload_n X 0 rfl dX3_number_35 ?_
      exact ret _ _ _ _ dX3_number_36 rfl hI
set_option maxHeartbeats 4000000 in
set_option maxRecDepth 100000 in
theorem t_X3_mouth (l : Launch) (d : zD2) (L : List Nat) (kd : Nat → Nat) (κ : Int) (σ : zS) (hI : zI κ 2 L kd σ) (a0 : Nat) (ha0 : zT L kd a0 3) : zMv l yX3_mouth (Cond.code yX3_mouth cX3_mouth 3 none :: zWL) 3 [.ref a0] d L kd σ (fun σ2 => zI κ 2 L kd σ2) := by
  refine zMv.of (own := RX3) (by decide +kernel) rfl rfl (Nat.le_of_ble_eq_true rfl) ?_
  intro p e s m args below meth c A Q X ret
  refine zg_lv (lv2 := [(0, .ref a0)]) rfl ?_
  refine zg_aload_n X 0 rfl dX3_mouth_0 ?_
  refine fg_X3_36 X hI ha0 dX3_mouth_1 (fun v1 _ hv1 => ?_)
  refine zg_if_eq X 12 dX3_mouth_4 (by decide) (fun c2 => ?_) (fun c2 => ?_)
  · skip
    refine zg_aload_n X 0 rfl dX3_mouth_12 ?_
    refine zg_iconst X 0 dX3_mouth_13 (by decide) (fun v3 _ hv3 => ?_)
    refine zg_cVv (As := [.int v3]) (st := []) X ha0 rfl (by decide) rfl (t_X3_take l d L kd κ 2 _ hI a0 ha0 v3 ) mk_X3_87 mc_X3_take mz_X3 mi_X3_take ml_X3_take (na := 1) ⟨md_X3.1, md_X3.2, by decide +kernel⟩ rfl ⟨by decide, by decide⟩ (Nat.le_of_ble_eq_true rfl) dX3_mouth_14 (fun σ hI => ?_)
    refine zg_aload_n X 0 rfl dX3_mouth_17 ?_
    refine zg_cVl (As := []) (st := []) X ha0 rfl (by decide) rfl (t_X3_newName l d L kd κ _ hI a0 ha0 ) mk_X3_109 mc_X3_newName mz_X3 mi_X3_newName ml_X3_newName (na := 0) ⟨md_X3.1, md_X3.2, by decide +kernel⟩ rfl ⟨by decide, by decide⟩ (Nat.le_of_ble_eq_true rfl) dX3_mouth_18 (fun v4 σ hI => ?_)
    refine zg_lstore_n X [(1, .long v4), (0, .ref a0)] dX3_mouth_21 (by decide) rfl ?_
    refine zg_aload_n X 1 rfl dX3_mouth_22 ?_
    refine fg_X3_43 X hI ha0 dX3_mouth_23 (fun v5 _ _ => ?_)
    refine zg_if_ne X 56 dX3_mouth_26 (by decide) (fun c6 => ?_) (fun c6 => ?_)
    · skip
      exact ret _ _ _ dX3_mouth_56 hI
    · skip
      refine zg_aload_n X 1 rfl dX3_mouth_29 ?_
      refine zg_iconst X 1 dX3_mouth_30 (by decide) (fun v7 _ hv7 => ?_)
      refine fp_X3_36 X hI ha0 ⟨by omega, by omega⟩ dX3_mouth_31 (fun s8 es8 hI => ?_)
      refine zg_aload_n X 1 rfl dX3_mouth_34 ?_
      refine fg_X3_18 X hI ha0 dX3_mouth_35 (fun v9 _ hv9 => ?_)
      refine fg_X3_113 X hI hv9 dX3_mouth_38 (fun v10 _ hv10 => ?_)
      refine zg_iconst X 0 dX3_mouth_41 (by decide) (fun v11 _ hv11 => ?_)
      refine zg_lload_n X 0 rfl dX3_mouth_42 ?_
      refine as_44 X hI hv10 (by omega) (by omega) dX3_mouth_43 (fun s12 es12 hI => ?_)
      refine zg_aload_n X 1 rfl dX3_mouth_44 ?_
      refine fg_X3_18 X hI ha0 dX3_mouth_45 (fun v13 _ hv13 => ?_)
      refine zg_iconst X 0 dX3_mouth_48 (by decide) (fun v14 _ hv14 => ?_)
      refine zg_iconst X 0 dX3_mouth_49 (by decide) (fun v15 _ hv15 => ?_)
      refine zg_iconst X 0 dX3_mouth_50 (by decide) (fun v16 _ hv16 => ?_)
      refine zg_iconst X 0 dX3_mouth_51 (by decide) (fun v17 _ hv17 => ?_)
      refine zg_iconst X 0 dX3_mouth_52 (by decide) (fun v18 _ hv18 => ?_)
      refine zg_cVv (As := [.int v14, .int v15, .int v16, .int v17, .int v18]) (st := []) X hv13 rfl (by decide) rfl (t_X9_setPlace l d L kd κ 2 _ hI v13 hv13 v14 v15 v16 v17 v18 (by omega)) mk_X3_117 mc_X9_setPlace mz_X9 mi_X9_setPlace ml_X9_setPlace (na := 5) ⟨md_X9.1, md_X9.2, by decide +kernel⟩ rfl ⟨by decide, by decide⟩ (Nat.le_of_ble_eq_true rfl) dX3_mouth_53 (fun σ hI => ?_)
      exact ret _ _ _ dX3_mouth_56 hI
  · skip
    refine zg_aload_n X 0 rfl dX3_mouth_7 ?_
    refine zg_iconst X 2 dX3_mouth_8 (by decide) (fun v19 _ hv19 => ?_)
    refine zg_cVv (As := [.int v19]) (st := []) X ha0 rfl (by decide) rfl (t_X3_fail l d L kd κ 2 _ hI a0 ha0 v19 ) mk_X3_106 mc_X3_fail mz_X3 mi_X3_fail ml_X3_fail (na := 1) ⟨md_X3.1, md_X3.2, by decide +kernel⟩ rfl ⟨by decide, by decide⟩ (Nat.le_of_ble_eq_true rfl) dX3_mouth_9 (fun σ hI => ?_)
    refine zg_aload_n X 0 rfl dX3_mouth_12 ?_
    refine zg_iconst X 0 dX3_mouth_13 (by decide) (fun v20 _ hv20 => ?_)
    refine zg_cVv (As := [.int v20]) (st := []) X ha0 rfl (by decide) rfl (t_X3_take l d L kd κ 2 _ hI a0 ha0 v20 ) mk_X3_87 mc_X3_take mz_X3 mi_X3_take ml_X3_take (na := 1) ⟨md_X3.1, md_X3.2, by decide +kernel⟩ rfl ⟨by decide, by decide⟩ (Nat.le_of_ble_eq_true rfl) dX3_mouth_14 (fun σ hI => ?_)
    refine zg_aload_n X 0 rfl dX3_mouth_17 ?_
    refine zg_cVl (As := []) (st := []) X ha0 rfl (by decide) rfl (t_X3_newName l d L kd κ _ hI a0 ha0 ) mk_X3_109 mc_X3_newName mz_X3 mi_X3_newName ml_X3_newName (na := 0) ⟨md_X3.1, md_X3.2, by decide +kernel⟩ rfl ⟨by decide, by decide⟩ (Nat.le_of_ble_eq_true rfl) dX3_mouth_18 (fun v21 σ hI => ?_)
    refine zg_lstore_n X [(1, .long v21), (0, .ref a0)] dX3_mouth_21 (by decide) rfl ?_
    refine zg_aload_n X 1 rfl dX3_mouth_22 ?_
    refine fg_X3_43 X hI ha0 dX3_mouth_23 (fun v22 _ _ => ?_)
    refine zg_if_ne X 56 dX3_mouth_26 (by decide) (fun c23 => ?_) (fun c23 => ?_)
    · skip
      exact ret _ _ _ dX3_mouth_56 hI
    · skip
      refine zg_aload_n X 1 rfl dX3_mouth_29 ?_
      refine zg_iconst X 1 dX3_mouth_30 (by decide) (fun v24 _ hv24 => ?_)
      refine fp_X3_36 X hI ha0 ⟨by omega, by omega⟩ dX3_mouth_31 (fun s25 es25 hI => ?_)
      refine zg_aload_n X 1 rfl dX3_mouth_34 ?_
      refine fg_X3_18 X hI ha0 dX3_mouth_35 (fun v26 _ hv26 => ?_)
      refine fg_X3_113 X hI hv26 dX3_mouth_38 (fun v27 _ hv27 => ?_)
      refine zg_iconst X 0 dX3_mouth_41 (by decide) (fun v28 _ hv28 => ?_)
      refine zg_lload_n X 0 rfl dX3_mouth_42 ?_
      refine as_44 X hI hv27 (by omega) (by omega) dX3_mouth_43 (fun s29 es29 hI => ?_)
      refine zg_aload_n X 1 rfl dX3_mouth_44 ?_
      refine fg_X3_18 X hI ha0 dX3_mouth_45 (fun v30 _ hv30 => ?_)
      refine zg_iconst X 0 dX3_mouth_48 (by decide) (fun v31 _ hv31 => ?_)
      refine zg_iconst X 0 dX3_mouth_49 (by decide) (fun v32 _ hv32 => ?_)
      refine zg_iconst X 0 dX3_mouth_50 (by decide) (fun v33 _ hv33 => ?_)
      refine zg_iconst X 0 dX3_mouth_51 (by decide) (fun v34 _ hv34 => ?_)
      refine zg_iconst X 0 dX3_mouth_52 (by decide) (fun v35 _ hv35 => ?_)
      refine zg_cVv (As := [.int v31, .int v32, .int v33, .int v34, .int v35]) (st := []) X hv30 rfl (by decide) rfl (t_X9_setPlace l d L kd κ 2 _ hI v30 hv30 v31 v32 v33 v34 v35 (by omega)) mk_X3_117 mc_X9_setPlace mz_X9 mi_X9_setPlace ml_X9_setPlace (na := 5) ⟨md_X9.1, md_X9.2, by decide +kernel⟩ rfl ⟨by decide, by decide⟩ (Nat.le_of_ble_eq_true rfl) dX3_mouth_53 (fun σ hI => ?_)
      exact ret _ _ _ dX3_mouth_56 hI
set_option maxHeartbeats 4000000 in
set_option maxRecDepth 100000 in
theorem t_X3_newPlace (l : Launch) (d : zD2) (L : List Nat) (kd : Nat → Nat) (κ : Int) (σ : zS) (hI : zI κ 2 L kd σ) (a0 : Nat) (ha0 : zT L kd a0 3) : zMv l yX3_newPlace (Cond.code yX3_newPlace cX3_newPlace 7 none :: zWL) 3 [.ref a0] d L kd σ (fun σ2 => zI κ 2 L kd σ2) := by
  refine zMv.of (own := RX3) (by decide +kernel) rfl rfl (Nat.le_of_ble_eq_true rfl) ?_
  intro p e s m args below meth c A Q X ret
  refine zg_lv (lv2 := [(0, .ref a0)]) rfl ?_
  refine zg_aload_n X 0 rfl dX3_newPlace_0 ?_
  refine fg_X3_40 X hI ha0 dX3_newPlace_1 (fun v1 ev1 hv1 => ?_)
  refine zg_bipush X 11 dX3_newPlace_4 (by decide) (fun v2 _ hv2 => ?_)
  refine zg_icmp_lt X 14 dX3_newPlace_6 (by decide) (fun c3 => ?_) (fun c3 => ?_)
  · skip
    refine zg_aload_n X 0 rfl dX3_newPlace_14 ?_
    refine zg_iconst X 1 dX3_newPlace_15 (by decide) (fun v4 _ hv4 => ?_)
    refine zg_cVv (As := [.int v4]) (st := []) X ha0 rfl (by decide) rfl (t_X3_take l d L kd κ 2 _ hI a0 ha0 v4 ) mk_X3_87 mc_X3_take mz_X3 mi_X3_take ml_X3_take (na := 1) ⟨md_X3.1, md_X3.2, by decide +kernel⟩ rfl ⟨by decide, by decide⟩ (Nat.le_of_ble_eq_true rfl) dX3_newPlace_16 (fun σ hI => ?_)
    refine zg_aload_n X 0 rfl dX3_newPlace_19 ?_
    refine zg_cVl (As := []) (st := []) X ha0 rfl (by decide) rfl (t_X3_newName l d L kd κ _ hI a0 ha0 ) mk_X3_109 mc_X3_newName mz_X3 mi_X3_newName ml_X3_newName (na := 0) ⟨md_X3.1, md_X3.2, by decide +kernel⟩ rfl ⟨by decide, by decide⟩ (Nat.le_of_ble_eq_true rfl) dX3_newPlace_20 (fun v5 σ hI => ?_)
    refine zg_lstore_n X [(1, .long v5), (0, .ref a0)] dX3_newPlace_23 (by decide) rfl ?_
    refine zg_aload_n X 1 rfl dX3_newPlace_24 ?_
    refine zg_cVi (As := []) (st := []) X ha0 rfl (by decide) rfl (t_X3_knownName l d L kd κ _ hI a0 ha0 ) mk_X3_121 mc_X3_knownName mz_X3 mi_X3_knownName ml_X3_knownName (na := 0) ⟨md_X3.1, md_X3.2, by decide +kernel⟩ rfl ⟨by decide, by decide⟩ (Nat.le_of_ble_eq_true rfl) dX3_newPlace_25 (fun v6 σ hI => ?_)
    obtain ⟨hv6, hI⟩ := hI
    refine zg_istore_n X [(3, .int v6), (1, .long v5), (0, .ref a0)] dX3_newPlace_28 (by decide) rfl ?_
    refine zg_aload_n X 2 rfl dX3_newPlace_29 ?_
    refine zg_iconst X 1 dX3_newPlace_30 (by decide) (fun v7 _ hv7 => ?_)
    refine zg_bipush X 99 dX3_newPlace_31 (by decide) (fun v8 _ hv8 => ?_)
    refine zg_cVi (As := [.int v7, .int v8]) (st := []) X ha0 rfl (by decide) rfl (t_X3_number l d L kd κ 2 _ hI a0 ha0 v7 v8 ) mk_X3_90 mc_X3_number mz_X3 mi_X3_number ml_X3_number (na := 2) ⟨md_X3.1, md_X3.2, by decide +kernel⟩ rfl ⟨by decide, by decide⟩ (Nat.le_of_ble_eq_true rfl) dX3_newPlace_33 (fun v9 σ hI => ?_)
    refine zg_istore X [(4, .int v9), (3, .int v6), (1, .long v5), (0, .ref a0)] dX3_newPlace_36 (by decide) rfl ?_
    refine zg_aload_n X 3 rfl dX3_newPlace_38 ?_
    refine zg_iconst X 0 dX3_newPlace_39 (by decide) (fun v10 _ hv10 => ?_)
    refine zg_bipush X 99 dX3_newPlace_40 (by decide) (fun v11 _ hv11 => ?_)
    refine zg_cVi (As := [.int v10, .int v11]) (st := []) X ha0 rfl (by decide) rfl (t_X3_number l d L kd κ 2 _ hI a0 ha0 v10 v11 ) mk_X3_90 mc_X3_number mz_X3 mi_X3_number ml_X3_number (na := 2) ⟨md_X3.1, md_X3.2, by decide +kernel⟩ rfl ⟨by decide, by decide⟩ (Nat.le_of_ble_eq_true rfl) dX3_newPlace_42 (fun v12 σ hI => ?_)
    refine zg_istore X [(5, .int v12), (4, .int v9), (3, .int v6), (1, .long v5), (0, .ref a0)] dX3_newPlace_45 (by decide) rfl ?_
    refine zg_aload_n X 4 rfl dX3_newPlace_47 ?_
    refine zg_iconst X 0 dX3_newPlace_48 (by decide) (fun v13 _ hv13 => ?_)
    refine zg_bipush X 99 dX3_newPlace_49 (by decide) (fun v14 _ hv14 => ?_)
    refine zg_cVi (As := [.int v13, .int v14]) (st := []) X ha0 rfl (by decide) rfl (t_X3_number l d L kd κ 2 _ hI a0 ha0 v13 v14 ) mk_X3_90 mc_X3_number mz_X3 mi_X3_number ml_X3_number (na := 2) ⟨md_X3.1, md_X3.2, by decide +kernel⟩ rfl ⟨by decide, by decide⟩ (Nat.le_of_ble_eq_true rfl) dX3_newPlace_51 (fun v15 σ hI => ?_)
    refine zg_istore X [(6, .int v15), (5, .int v12), (4, .int v9), (3, .int v6), (1, .long v5), (0, .ref a0)] dX3_newPlace_54 (by decide) rfl ?_
    refine zg_aload_n X 5 rfl dX3_newPlace_56 ?_
    refine fg_X3_43 X hI ha0 dX3_newPlace_57 (fun v16 _ _ => ?_)
    refine zg_if_ne X 113 dX3_newPlace_60 (by decide) (fun c17 => ?_) (fun c17 => ?_)
    · skip
      exact ret _ _ _ dX3_newPlace_113 hI
    · skip
      refine zg_aload_n X 5 rfl dX3_newPlace_63 ?_
      refine fg_X3_40 X hI ha0 dX3_newPlace_64 (fun v18 ev18 hv18 => ?_)
      refine zg_bipush X 11 dX3_newPlace_67 (by decide) (fun v19 _ hv19 => ?_)
      refine zg_icmp_ge X 113 dX3_newPlace_69 (by decide) (fun c20 => ?_) (fun c20 => ?_)
      · skip
        exact ret _ _ _ dX3_newPlace_113 hI
      · skip
        refine zg_aload_n X 5 rfl dX3_newPlace_72 ?_
        refine zg_dup X dX3_newPlace_73 rfl ?_
        refine fg_X3_40 X hI ha0 dX3_newPlace_74 (fun v21 ev21 hv21 => ?_)
        have mv21 : v21.toInt = v18.toInt := by rw [ev21, ← ev18]
        refine zg_iconst X 1 dX3_newPlace_77 (by decide) (fun v22 _ hv22 => ?_)
        refine zg_iadd X dX3_newPlace_78 (by omega) (by omega) (fun v23 _ hv23 => ?_)
        refine fp_X3_40 X hI ha0 ⟨by omega, by omega⟩ dX3_newPlace_79 (fun s24 es24 hI => ?_)
        have e26 : v23 = s24.1 a0 7 := by rw [es24]; exact zm_s
        refine zg_aload_n X 5 rfl dX3_newPlace_82 ?_
        refine fg_X3_18 X hI ha0 dX3_newPlace_83 (fun v27 _ hv27 => ?_)
        refine fg_X3_113 X hI hv27 dX3_newPlace_86 (fun v28 _ hv28 => ?_)
        refine zg_aload_n X 5 rfl dX3_newPlace_89 ?_
        refine fg_X3_40 X hI ha0 dX3_newPlace_90 (fun v29 ev29 hv29 => ?_)
        have mv29 : v29.toInt = v23.toInt := by rw [ev29, ← e26]
        refine zg_lload_n X 4 rfl dX3_newPlace_93 ?_
        refine as_44 X hI hv28 (by omega) (by omega) dX3_newPlace_94 (fun s30 es30 hI => ?_)
        have e31 : v29 = s30.1 a0 7 := by rw [es30]; exact ev29
        refine zg_aload_n X 5 rfl dX3_newPlace_95 ?_
        refine fg_X3_18 X hI ha0 dX3_newPlace_96 (fun v32 _ hv32 => ?_)
        refine zg_aload_n X 5 rfl dX3_newPlace_99 ?_
        refine fg_X3_40 X hI ha0 dX3_newPlace_100 (fun v33 ev33 hv33 => ?_)
        have mv33 : v33.toInt = v29.toInt := by rw [ev33, ← e31]
        refine zg_iload_n X 3 rfl dX3_newPlace_103 ?_
        refine zg_iload X 2 rfl dX3_newPlace_104 ?_
        refine zg_iload X 1 rfl dX3_newPlace_106 ?_
        refine zg_iload X 0 rfl dX3_newPlace_108 ?_
        refine zg_cVv (As := [.int v33, .int v6, .int v9, .int v12, .int v15]) (st := []) X hv32 rfl (by decide) rfl (t_X9_setPlace l d L kd κ 2 _ hI v32 hv32 v33 v6 v9 v12 v15 (by omega)) mk_X3_117 mc_X9_setPlace mz_X9 mi_X9_setPlace ml_X9_setPlace (na := 5) ⟨md_X9.1, md_X9.2, by decide +kernel⟩ rfl ⟨by decide, by decide⟩ (Nat.le_of_ble_eq_true rfl) dX3_newPlace_110 (fun σ hI => ?_)
        exact ret _ _ _ dX3_newPlace_113 hI
  · skip
    refine zg_aload_n X 0 rfl dX3_newPlace_9 ?_
    refine zg_iconst X 2 dX3_newPlace_10 (by decide) (fun v34 _ hv34 => ?_)
    refine zg_cVv (As := [.int v34]) (st := []) X ha0 rfl (by decide) rfl (t_X3_fail l d L kd κ 2 _ hI a0 ha0 v34 ) mk_X3_106 mc_X3_fail mz_X3 mi_X3_fail ml_X3_fail (na := 1) ⟨md_X3.1, md_X3.2, by decide +kernel⟩ rfl ⟨by decide, by decide⟩ (Nat.le_of_ble_eq_true rfl) dX3_newPlace_11 (fun σ hI => ?_)
    refine zg_aload_n X 0 rfl dX3_newPlace_14 ?_
    refine zg_iconst X 1 dX3_newPlace_15 (by decide) (fun v35 _ hv35 => ?_)
    refine zg_cVv (As := [.int v35]) (st := []) X ha0 rfl (by decide) rfl (t_X3_take l d L kd κ 2 _ hI a0 ha0 v35 ) mk_X3_87 mc_X3_take mz_X3 mi_X3_take ml_X3_take (na := 1) ⟨md_X3.1, md_X3.2, by decide +kernel⟩ rfl ⟨by decide, by decide⟩ (Nat.le_of_ble_eq_true rfl) dX3_newPlace_16 (fun σ hI => ?_)
    refine zg_aload_n X 0 rfl dX3_newPlace_19 ?_
    refine zg_cVl (As := []) (st := []) X ha0 rfl (by decide) rfl (t_X3_newName l d L kd κ _ hI a0 ha0 ) mk_X3_109 mc_X3_newName mz_X3 mi_X3_newName ml_X3_newName (na := 0) ⟨md_X3.1, md_X3.2, by decide +kernel⟩ rfl ⟨by decide, by decide⟩ (Nat.le_of_ble_eq_true rfl) dX3_newPlace_20 (fun v36 σ hI => ?_)
    refine zg_lstore_n X [(1, .long v36), (0, .ref a0)] dX3_newPlace_23 (by decide) rfl ?_
    refine zg_aload_n X 1 rfl dX3_newPlace_24 ?_
    refine zg_cVi (As := []) (st := []) X ha0 rfl (by decide) rfl (t_X3_knownName l d L kd κ _ hI a0 ha0 ) mk_X3_121 mc_X3_knownName mz_X3 mi_X3_knownName ml_X3_knownName (na := 0) ⟨md_X3.1, md_X3.2, by decide +kernel⟩ rfl ⟨by decide, by decide⟩ (Nat.le_of_ble_eq_true rfl) dX3_newPlace_25 (fun v37 σ hI => ?_)
    obtain ⟨hv37, hI⟩ := hI
    refine zg_istore_n X [(3, .int v37), (1, .long v36), (0, .ref a0)] dX3_newPlace_28 (by decide) rfl ?_
    refine zg_aload_n X 2 rfl dX3_newPlace_29 ?_
    refine zg_iconst X 1 dX3_newPlace_30 (by decide) (fun v38 _ hv38 => ?_)
    refine zg_bipush X 99 dX3_newPlace_31 (by decide) (fun v39 _ hv39 => ?_)
    refine zg_cVi (As := [.int v38, .int v39]) (st := []) X ha0 rfl (by decide) rfl (t_X3_number l d L kd κ 2 _ hI a0 ha0 v38 v39 ) mk_X3_90 mc_X3_number mz_X3 mi_X3_number ml_X3_number (na := 2) ⟨md_X3.1, md_X3.2, by decide +kernel⟩ rfl ⟨by decide, by decide⟩ (Nat.le_of_ble_eq_true rfl) dX3_newPlace_33 (fun v40 σ hI => ?_)
    refine zg_istore X [(4, .int v40), (3, .int v37), (1, .long v36), (0, .ref a0)] dX3_newPlace_36 (by decide) rfl ?_
    refine zg_aload_n X 3 rfl dX3_newPlace_38 ?_
    refine zg_iconst X 0 dX3_newPlace_39 (by decide) (fun v41 _ hv41 => ?_)
    refine zg_bipush X 99 dX3_newPlace_40 (by decide) (fun v42 _ hv42 => ?_)
    refine zg_cVi (As := [.int v41, .int v42]) (st := []) X ha0 rfl (by decide) rfl (t_X3_number l d L kd κ 2 _ hI a0 ha0 v41 v42 ) mk_X3_90 mc_X3_number mz_X3 mi_X3_number ml_X3_number (na := 2) ⟨md_X3.1, md_X3.2, by decide +kernel⟩ rfl ⟨by decide, by decide⟩ (Nat.le_of_ble_eq_true rfl) dX3_newPlace_42 (fun v43 σ hI => ?_)
    refine zg_istore X [(5, .int v43), (4, .int v40), (3, .int v37), (1, .long v36), (0, .ref a0)] dX3_newPlace_45 (by decide) rfl ?_
    refine zg_aload_n X 4 rfl dX3_newPlace_47 ?_
    refine zg_iconst X 0 dX3_newPlace_48 (by decide) (fun v44 _ hv44 => ?_)
    refine zg_bipush X 99 dX3_newPlace_49 (by decide) (fun v45 _ hv45 => ?_)
    refine zg_cVi (As := [.int v44, .int v45]) (st := []) X ha0 rfl (by decide) rfl (t_X3_number l d L kd κ 2 _ hI a0 ha0 v44 v45 ) mk_X3_90 mc_X3_number mz_X3 mi_X3_number ml_X3_number (na := 2) ⟨md_X3.1, md_X3.2, by decide +kernel⟩ rfl ⟨by decide, by decide⟩ (Nat.le_of_ble_eq_true rfl) dX3_newPlace_51 (fun v46 σ hI => ?_)
    refine zg_istore X [(6, .int v46), (5, .int v43), (4, .int v40), (3, .int v37), (1, .long v36), (0, .ref a0)] dX3_newPlace_54 (by decide) rfl ?_
    refine zg_aload_n X 5 rfl dX3_newPlace_56 ?_
    refine fg_X3_43 X hI ha0 dX3_newPlace_57 (fun v47 _ _ => ?_)
    refine zg_if_ne X 113 dX3_newPlace_60 (by decide) (fun c48 => ?_) (fun c48 => ?_)
    · skip
      exact ret _ _ _ dX3_newPlace_113 hI
    · skip
      refine zg_aload_n X 5 rfl dX3_newPlace_63 ?_
      refine fg_X3_40 X hI ha0 dX3_newPlace_64 (fun v49 ev49 hv49 => ?_)
      refine zg_bipush X 11 dX3_newPlace_67 (by decide) (fun v50 _ hv50 => ?_)
      refine zg_icmp_ge X 113 dX3_newPlace_69 (by decide) (fun c51 => ?_) (fun c51 => ?_)
      · skip
        exact ret _ _ _ dX3_newPlace_113 hI
      · skip
        refine zg_aload_n X 5 rfl dX3_newPlace_72 ?_
        refine zg_dup X dX3_newPlace_73 rfl ?_
        refine fg_X3_40 X hI ha0 dX3_newPlace_74 (fun v52 ev52 hv52 => ?_)
        have mv52 : v52.toInt = v49.toInt := by rw [ev52, ← ev49]
        refine zg_iconst X 1 dX3_newPlace_77 (by decide) (fun v53 _ hv53 => ?_)
        refine zg_iadd X dX3_newPlace_78 (by omega) (by omega) (fun v54 _ hv54 => ?_)
        refine fp_X3_40 X hI ha0 ⟨by omega, by omega⟩ dX3_newPlace_79 (fun s55 es55 hI => ?_)
        have e57 : v54 = s55.1 a0 7 := by rw [es55]; exact zm_s
        refine zg_aload_n X 5 rfl dX3_newPlace_82 ?_
        refine fg_X3_18 X hI ha0 dX3_newPlace_83 (fun v58 _ hv58 => ?_)
        refine fg_X3_113 X hI hv58 dX3_newPlace_86 (fun v59 _ hv59 => ?_)
        refine zg_aload_n X 5 rfl dX3_newPlace_89 ?_
        refine fg_X3_40 X hI ha0 dX3_newPlace_90 (fun v60 ev60 hv60 => ?_)
        have mv60 : v60.toInt = v54.toInt := by rw [ev60, ← e57]
        refine zg_lload_n X 4 rfl dX3_newPlace_93 ?_
        refine as_44 X hI hv59 (by omega) (by omega) dX3_newPlace_94 (fun s61 es61 hI => ?_)
        have e62 : v60 = s61.1 a0 7 := by rw [es61]; exact ev60
        refine zg_aload_n X 5 rfl dX3_newPlace_95 ?_
        refine fg_X3_18 X hI ha0 dX3_newPlace_96 (fun v63 _ hv63 => ?_)
        refine zg_aload_n X 5 rfl dX3_newPlace_99 ?_
        refine fg_X3_40 X hI ha0 dX3_newPlace_100 (fun v64 ev64 hv64 => ?_)
        have mv64 : v64.toInt = v60.toInt := by rw [ev64, ← e62]
        refine zg_iload_n X 3 rfl dX3_newPlace_103 ?_
        refine zg_iload X 2 rfl dX3_newPlace_104 ?_
        refine zg_iload X 1 rfl dX3_newPlace_106 ?_
        refine zg_iload X 0 rfl dX3_newPlace_108 ?_
        refine zg_cVv (As := [.int v64, .int v37, .int v40, .int v43, .int v46]) (st := []) X hv63 rfl (by decide) rfl (t_X9_setPlace l d L kd κ 2 _ hI v63 hv63 v64 v37 v40 v43 v46 (by omega)) mk_X3_117 mc_X9_setPlace mz_X9 mi_X9_setPlace ml_X9_setPlace (na := 5) ⟨md_X9.1, md_X9.2, by decide +kernel⟩ rfl ⟨by decide, by decide⟩ (Nat.le_of_ble_eq_true rfl) dX3_newPlace_110 (fun σ hI => ?_)
        exact ret _ _ _ dX3_newPlace_113 hI
set_option maxHeartbeats 4000000 in
set_option maxRecDepth 100000 in
theorem t_X3_unit_o6 (l : Launch) (d : zD2) (L : List Nat) (kd : Nat → Nat) (κ : Int) (σ : zS) (hI : zI κ 2 L kd σ) (a0 : Nat) (ha0 : zT L kd a0 3) (p1 : Int32) (hq0 : p1.toInt = 6) : zMv l yX3_unit (Cond.code yX3_unit cX3_unit 2 none :: zWL) 2 [.ref a0, .int p1] d L kd σ (fun σ2 => zI κ 2 L kd σ2) := by
  refine zMv.of (own := RX3) (by decide +kernel) rfl rfl (Nat.le_of_ble_eq_true rfl) ?_
  intro p e s m args below meth c A Q X ret
  refine zg_lv (lv2 := [(0, .ref a0), (1, .int p1)]) rfl ?_
  refine zg_aload_n X 0 rfl dX3_unit_0 ?_
  refine fg_X3_26 X hI ha0 dX3_unit_1 (fun v1 ev1 _ => ?_)
  refine zg_bipush X 23 dX3_unit_4 (by decide) (fun v2 _ hv2 => ?_)
  refine zg_icmp_ne X 33 dX3_unit_6 (by decide) (fun c3 => ?_) (fun c3 => ?_)
  · skip
    refine zg_aload_n X 0 rfl dX3_unit_33 ?_
    refine fg_X3_26 X hI ha0 dX3_unit_34 (fun v4 ev4 _ => ?_)
    have mv4 : v4.toInt = v1.toInt := by rw [ev4, ← ev1]
    refine zg_bipush X 13 dX3_unit_37 (by decide) (fun v5 _ hv5 => ?_)
    have zv4_z6 := zb_rng v4
    refine zg_icmp_lt X 77 dX3_unit_39 (by decide) (fun c7 => ?_) (fun c7 => ?_)
    · skip
      refine zg_aload_n X 0 rfl dX3_unit_77 ?_
      refine fg_X3_26 X hI ha0 dX3_unit_78 (fun v8 ev8 _ => ?_)
      have mv8 : v8.toInt = v4.toInt := by rw [ev8, ← ev4]
      refine zg_bipush X 31 dX3_unit_81 (by decide) (fun v9 _ hv9 => ?_)
      refine zg_icmp_ne X 116 dX3_unit_83 (by decide) (fun c10 => ?_) (fun c10 => ?_)
      · skip
        refine zg_aload_n X 0 rfl dX3_unit_116 ?_
        refine zg_aload_n X 0 rfl dX3_unit_117 ?_
        refine fg_X3_26 X hI ha0 dX3_unit_118 (fun v11 ev11 _ => ?_)
        have mv11 : v11.toInt = v8.toInt := by rw [ev11, ← ev8]
        refine zg_bipush X 31 dX3_unit_121 (by decide) (fun v12 _ hv12 => ?_)
        refine zg_icmp_ne X 130 dX3_unit_123 (by decide) (fun c13 => ?_) (fun c13 => ?_)
        · skip
          refine zg_iconst X 1 dX3_unit_130 (by decide) (fun v14 _ hv14 => ?_)
          refine zg_cVv (As := [.int v14]) (st := []) X ha0 rfl (by decide) rfl (t_X3_fail l d L kd κ 2 _ hI a0 ha0 v14 ) mk_X3_106 mc_X3_fail mz_X3 mi_X3_fail ml_X3_fail (na := 1) ⟨md_X3.1, md_X3.2, by decide +kernel⟩ rfl ⟨by decide, by decide⟩ (Nat.le_of_ble_eq_true rfl) dX3_unit_131 (fun σ hI => ?_)
          exact ret _ _ _ dX3_unit_134 hI
        · omega
      · omega
    · skip
      refine zg_aload_n X 0 rfl dX3_unit_42 ?_
      refine fg_X3_26 X hI ha0 dX3_unit_43 (fun v15 ev15 _ => ?_)
      have mv15 : v15.toInt = v4.toInt := by rw [ev15, ← ev4]
      refine zg_bipush X 22 dX3_unit_46 (by decide) (fun v16 _ hv16 => ?_)
      have zv15_z17 := zb_rng v15
      refine zg_icmp_ge X 77 dX3_unit_48 (by decide) (fun c18 => ?_) (fun c18 => ?_)
      · skip
        refine zg_aload_n X 0 rfl dX3_unit_77 ?_
        refine fg_X3_26 X hI ha0 dX3_unit_78 (fun v19 ev19 _ => ?_)
        have mv19 : v19.toInt = v15.toInt := by rw [ev19, ← ev15]
        refine zg_bipush X 31 dX3_unit_81 (by decide) (fun v20 _ hv20 => ?_)
        refine zg_icmp_ne X 116 dX3_unit_83 (by decide) (fun c21 => ?_) (fun c21 => ?_)
        · skip
          refine zg_aload_n X 0 rfl dX3_unit_116 ?_
          refine zg_aload_n X 0 rfl dX3_unit_117 ?_
          refine fg_X3_26 X hI ha0 dX3_unit_118 (fun v22 ev22 _ => ?_)
          have mv22 : v22.toInt = v19.toInt := by rw [ev22, ← ev19]
          refine zg_bipush X 31 dX3_unit_121 (by decide) (fun v23 _ hv23 => ?_)
          refine zg_icmp_ne X 130 dX3_unit_123 (by decide) (fun c24 => ?_) (fun c24 => ?_)
          · skip
            refine zg_iconst X 1 dX3_unit_130 (by decide) (fun v25 _ hv25 => ?_)
            refine zg_cVv (As := [.int v25]) (st := []) X ha0 rfl (by decide) rfl (t_X3_fail l d L kd κ 2 _ hI a0 ha0 v25 ) mk_X3_106 mc_X3_fail mz_X3 mi_X3_fail ml_X3_fail (na := 1) ⟨md_X3.1, md_X3.2, by decide +kernel⟩ rfl ⟨by decide, by decide⟩ (Nat.le_of_ble_eq_true rfl) dX3_unit_131 (fun σ hI => ?_)
            exact ret _ _ _ dX3_unit_134 hI
          · skip
            refine zg_iconst X 2 dX3_unit_126 (by decide) (fun v26 _ hv26 => ?_)
            refine zg_goto X 131 dX3_unit_127 (by decide) ?_
            refine zg_cVv (As := [.int v26]) (st := []) X ha0 rfl (by decide) rfl (t_X3_fail l d L kd κ 2 _ hI a0 ha0 v26 ) mk_X3_106 mc_X3_fail mz_X3 mi_X3_fail ml_X3_fail (na := 1) ⟨md_X3.1, md_X3.2, by decide +kernel⟩ rfl ⟨by decide, by decide⟩ (Nat.le_of_ble_eq_true rfl) dX3_unit_131 (fun σ hI => ?_)
            exact ret _ _ _ dX3_unit_134 hI
        · skip
          refine zg_iload_n X 1 rfl dX3_unit_86 ?_
          refine zg_bipush X 6 dX3_unit_87 (by decide) (fun v27 _ hv27 => ?_)
          refine zg_icmp_ge X 116 dX3_unit_89 (by decide) (fun c28 => ?_) (fun c28 => ?_)
          · skip
            refine zg_aload_n X 0 rfl dX3_unit_116 ?_
            refine zg_aload_n X 0 rfl dX3_unit_117 ?_
            refine fg_X3_26 X hI ha0 dX3_unit_118 (fun v29 ev29 _ => ?_)
            have mv29 : v29.toInt = v19.toInt := by rw [ev29, ← ev19]
            refine zg_bipush X 31 dX3_unit_121 (by decide) (fun v30 _ hv30 => ?_)
            refine zg_icmp_ne X 130 dX3_unit_123 (by decide) (fun c31 => ?_) (fun c31 => ?_)
            · omega
            · skip
              refine zg_iconst X 2 dX3_unit_126 (by decide) (fun v32 _ hv32 => ?_)
              refine zg_goto X 131 dX3_unit_127 (by decide) ?_
              refine zg_cVv (As := [.int v32]) (st := []) X ha0 rfl (by decide) rfl (t_X3_fail l d L kd κ 2 _ hI a0 ha0 v32 ) mk_X3_106 mc_X3_fail mz_X3 mi_X3_fail ml_X3_fail (na := 1) ⟨md_X3.1, md_X3.2, by decide +kernel⟩ rfl ⟨by decide, by decide⟩ (Nat.le_of_ble_eq_true rfl) dX3_unit_131 (fun σ hI => ?_)
              exact ret _ _ _ dX3_unit_134 hI
          · omega
      · skip
        refine zg_aload_n X 0 rfl dX3_unit_51 ?_
        refine fg_X3_18 X hI ha0 dX3_unit_52 (fun v33 _ hv33 => ?_)
        refine zg_iconst X 1 dX3_unit_55 (by decide) (fun v34 _ hv34 => ?_)
        refine zg_aload_n X 0 rfl dX3_unit_56 ?_
        refine fg_X3_26 X hI ha0 dX3_unit_57 (fun v35 ev35 _ => ?_)
        have mv35 : v35.toInt = v15.toInt := by rw [ev35, ← ev15]
        refine zg_bipush X 13 dX3_unit_60 (by decide) (fun v36 _ hv36 => ?_)
        refine zg_isub X dX3_unit_62 (by omega) (by omega) (fun v37 _ hv37 => ?_)
        refine zg_cVv (As := [.int v34, .int v37]) (st := []) X hv33 rfl (by decide) rfl (t_X9_addStep l d L kd κ 2 _ hI v33 hv33 v34 v37 ) mk_X3_145 mc_X9_addStep mz_X9 mi_X9_addStep ml_X9_addStep (na := 2) ⟨md_X9.1, md_X9.2, by decide +kernel⟩ rfl ⟨by decide, by decide⟩ (Nat.le_of_ble_eq_true rfl) dX3_unit_63 (fun σ hI => ?_)
        refine zg_aload_n X 0 rfl dX3_unit_66 ?_
        refine zg_aload_n X 0 rfl dX3_unit_67 ?_
        refine fg_X3_26 X hI ha0 dX3_unit_68 (fun v38 ev38 _ => ?_)
        refine zg_cVv (As := [.int v38]) (st := []) X ha0 rfl (by decide) rfl (t_X3_take l d L kd κ 2 _ hI a0 ha0 v38 ) mk_X3_87 mc_X3_take mz_X3 mi_X3_take ml_X3_take (na := 1) ⟨md_X3.1, md_X3.2, by decide +kernel⟩ rfl ⟨by decide, by decide⟩ (Nat.le_of_ble_eq_true rfl) dX3_unit_71 (fun σ hI => ?_)
        refine zg_goto X 134 dX3_unit_74 (by decide) ?_
        exact ret _ _ _ dX3_unit_134 hI
  · skip
    refine zg_aload_n X 0 rfl dX3_unit_9 ?_
    refine fg_X3_18 X hI ha0 dX3_unit_10 (fun v39 _ hv39 => ?_)
    refine zg_iconst X 0 dX3_unit_13 (by decide) (fun v40 _ hv40 => ?_)
    refine zg_aload_n X 0 rfl dX3_unit_14 ?_
    refine fg_X3_29 X ha0 dX3_unit_15 (fun v41 _ => ?_)
    refine zg_l2i X dX3_unit_18 (fun v42 ev42 => ?_)
    refine zg_cVv (As := [.int v40, .int v42]) (st := []) X hv39 rfl (by decide) rfl (t_X9_addStep l d L kd κ 2 _ hI v39 hv39 v40 v42 ) mk_X3_145 mc_X9_addStep mz_X9 mi_X9_addStep ml_X9_addStep (na := 2) ⟨md_X9.1, md_X9.2, by decide +kernel⟩ rfl ⟨by decide, by decide⟩ (Nat.le_of_ble_eq_true rfl) dX3_unit_19 (fun σ hI => ?_)
    refine zg_aload_n X 0 rfl dX3_unit_22 ?_
    refine zg_aload_n X 0 rfl dX3_unit_23 ?_
    refine fg_X3_26 X hI ha0 dX3_unit_24 (fun v43 ev43 _ => ?_)
    refine zg_cVv (As := [.int v43]) (st := []) X ha0 rfl (by decide) rfl (t_X3_take l d L kd κ 2 _ hI a0 ha0 v43 ) mk_X3_87 mc_X3_take mz_X3 mi_X3_take ml_X3_take (na := 1) ⟨md_X3.1, md_X3.2, by decide +kernel⟩ rfl ⟨by decide, by decide⟩ (Nat.le_of_ble_eq_true rfl) dX3_unit_27 (fun σ hI => ?_)
    refine zg_goto X 134 dX3_unit_30 (by decide) ?_
    exact ret _ _ _ dX3_unit_134 hI
set_option maxHeartbeats 4000000 in
set_option maxRecDepth 100000 in
theorem t_X3_product_o6 (l : Launch) (d : zD2) (L : List Nat) (kd : Nat → Nat) (κ : Int) (σ : zS) (hI : zI κ 2 L kd σ) (a0 : Nat) (ha0 : zT L kd a0 3) (p1 : Int32) (hq0 : p1.toInt = 6) : zMv l yX3_product (Cond.code yX3_product cX3_product 4 none :: zWL) 3 [.ref a0, .int p1] d L kd σ (fun σ2 => zI κ 2 L kd σ2) := by
  refine zMv.of (own := RX3) (by decide +kernel) rfl rfl (Nat.le_of_ble_eq_true rfl) ?_
  intro p e s m args below meth c A Q X ret
  refine zg_lv (lv2 := [(0, .ref a0), (1, .int p1)]) rfl ?_
  refine zg_aload_n X 0 rfl dX3_product_0 ?_
  refine zg_iload_n X 1 rfl dX3_product_1 ?_
  refine zg_cVv (As := [.int p1]) (st := []) X ha0 rfl (by decide) rfl (t_X3_unit_o6 l d L kd κ _ hI a0 ha0 p1 (by omega)) mk_X3_159 mc_X3_unit mz_X3 mi_X3_unit ml_X3_unit (na := 1) ⟨md_X3.1, md_X3.2, by decide +kernel⟩ rfl ⟨by decide, by decide⟩ (Nat.le_of_ble_eq_true rfl) dX3_product_2 (fun σ hI => ?_)
  refine zg_iconst X 0 dX3_product_5 (by decide) (fun v1 _ hv1 => ?_)
  refine zg_istore_n X [(2, .int v1), (0, .ref a0), (1, .int p1)] dX3_product_6 (by decide) rfl ?_
  have Lp3 : ∀ (n : Nat) (σ : zS) (x2 : Int32), zI κ 2 L kd σ → 0 ≤ x2.toInt ∧ x2.toInt ≤ 401 → (401) - x2.toInt + 1 < (n : Int) → zG d L kd A 4 p l e (k2_rm 3 (100 * 3)) s m args below meth c Q σ 7 [(2, .int x2), (0, .ref a0), (1, .int p1)] [] := by
    intro n
    induction n with
    | zero => intro σ x2 hI  hxLp3 hm; exact absurd hm (by omega)
    | succ n ihLp3 =>
      intro σ x2 hI  hxLp3 hmLp3
      refine zg_iload_n X 0 rfl dX3_product_7 ?_
      refine zg_sipush X 400 dX3_product_8 (by decide) (fun v4 _ hv4 => ?_)
      refine zg_icmp_gt X 68 dX3_product_11 (by decide) (fun c5 => ?_) (fun c5 => ?_)
      · skip
        exact ret _ _ _ dX3_product_68 hI
      · skip
        refine zg_aload_n X 1 rfl dX3_product_14 ?_
        refine fg_X3_26 X hI ha0 dX3_product_15 (fun v6 ev6 _ => ?_)
        refine zg_bipush X 28 dX3_product_18 (by decide) (fun v7 _ hv7 => ?_)
        refine zg_bipush X 29 dX3_product_20 (by decide) (fun v8 _ hv8 => ?_)
        refine zg_cSNi (As := [.int v6, .int v7, .int v8]) (st := []) X (t_X10_isWithin l d L kd _ v6 v7 v8 ) mk_X3_80 mc_X10_isWithin mz_X10 ms_X10_isWithin (na := 3) ⟨md_X10.1, md_X10.2, by decide +kernel⟩ rfl ⟨by decide, by decide⟩ (Nat.le_of_ble_eq_true rfl) dX3_product_22 (fun v9 σ2 hq => ?_)
        obtain ⟨hv9, rfl⟩ := hq
        refine zg_if_eq X 68 dX3_product_25 (by decide) (fun c10 => ?_) (fun c10 => ?_)
        · skip
          exact ret _ _ _ dX3_product_68 hI
        · skip
          refine zg_aload_n X 1 rfl dX3_product_28 ?_
          refine fg_X3_26 X hI ha0 dX3_product_29 (fun v11 ev11 _ => ?_)
          have mv11 : v11.toInt = v6.toInt := by rw [ev11, ← ev6]
          refine zg_istore_n X [(3, .int v11), (2, .int x2), (0, .ref a0), (1, .int p1)] dX3_product_32 (by decide) rfl ?_
          refine zg_aload_n X 2 rfl dX3_product_33 ?_
          refine zg_iload_n X 0 rfl dX3_product_34 ?_
          refine zg_cVv (As := [.int v11]) (st := []) X ha0 rfl (by decide) rfl (t_X3_take l d L kd κ 2 _ hI a0 ha0 v11 ) mk_X3_87 mc_X3_take mz_X3 mi_X3_take ml_X3_take (na := 1) ⟨md_X3.1, md_X3.2, by decide +kernel⟩ rfl ⟨by decide, by decide⟩ (Nat.le_of_ble_eq_true rfl) dX3_product_35 (fun σ hI => ?_)
          refine zg_aload_n X 2 rfl dX3_product_38 ?_
          refine zg_iload_n X 3 rfl dX3_product_39 ?_
          refine zg_cVv (As := [.int p1]) (st := []) X ha0 rfl (by decide) rfl (t_X3_unit_o6 l d L kd κ _ hI a0 ha0 p1 (by omega)) mk_X3_159 mc_X3_unit mz_X3 mi_X3_unit ml_X3_unit (na := 1) ⟨md_X3.1, md_X3.2, by decide +kernel⟩ rfl ⟨by decide, by decide⟩ (Nat.le_of_ble_eq_true rfl) dX3_product_40 (fun σ hI => ?_)
          refine zg_aload_n X 2 rfl dX3_product_43 ?_
          refine fg_X3_18 X hI ha0 dX3_product_44 (fun v12 _ hv12 => ?_)
          refine zg_iload_n X 0 rfl dX3_product_47 ?_
          refine zg_bipush X 28 dX3_product_48 (by decide) (fun v13 _ hv13 => ?_)
          refine zg_icmp_ne X 57 dX3_product_50 (by decide) (fun c14 => ?_) (fun c14 => ?_)
          · skip
            refine zg_iconst X 5 dX3_product_57 (by decide) (fun v15 _ hv15 => ?_)
            refine zg_iconst X 0 dX3_product_58 (by decide) (fun v16 _ hv16 => ?_)
            refine zg_cVv (As := [.int v15, .int v16]) (st := []) X hv12 rfl (by decide) rfl (t_X9_addStep l d L kd κ 2 _ hI v12 hv12 v15 v16 ) mk_X3_145 mc_X9_addStep mz_X9 mi_X9_addStep ml_X9_addStep (na := 2) ⟨md_X9.1, md_X9.2, by decide +kernel⟩ rfl ⟨by decide, by decide⟩ (Nat.le_of_ble_eq_true rfl) dX3_product_59 (fun σ hI => ?_)
            refine zg_iinc X 1 (fun v17 => [(2, .int v17), (3, .int v11), (0, .ref a0), (1, .int p1)]) 1 dX3_product_62 rfl (by decide) (by decide) (by omega) (by omega) (fun _ => rfl) (fun v17 _ hv17 => ?_)
            refine zg_goto X 7 dX3_product_65 (by decide) ?_
            refine zg_sub [0, 2, 3] rfl ?_
            exact ihLp3 _ v17 hI  (by omega) (by omega)
          · skip
            refine zg_iconst X 4 dX3_product_53 (by decide) (fun v18 _ hv18 => ?_)
            refine zg_goto X 58 dX3_product_54 (by decide) ?_
            refine zg_iconst X 0 dX3_product_58 (by decide) (fun v19 _ hv19 => ?_)
            refine zg_cVv (As := [.int v18, .int v19]) (st := []) X hv12 rfl (by decide) rfl (t_X9_addStep l d L kd κ 2 _ hI v12 hv12 v18 v19 ) mk_X3_145 mc_X9_addStep mz_X9 mi_X9_addStep ml_X9_addStep (na := 2) ⟨md_X9.1, md_X9.2, by decide +kernel⟩ rfl ⟨by decide, by decide⟩ (Nat.le_of_ble_eq_true rfl) dX3_product_59 (fun σ hI => ?_)
            refine zg_iinc X 1 (fun v20 => [(2, .int v20), (3, .int v11), (0, .ref a0), (1, .int p1)]) 1 dX3_product_62 rfl (by decide) (by decide) (by omega) (by omega) (fun _ => rfl) (fun v20 _ hv20 => ?_)
            refine zg_goto X 7 dX3_product_65 (by decide) ?_
            refine zg_sub [0, 2, 3] rfl ?_
            exact ihLp3 _ v20 hI  (by omega) (by omega)
  refine zg_sub [0, 1, 2] rfl ?_
  exact Lp3 (((401) - v1.toInt + 1).toNat + 1) _ v1 hI  (by omega) (by omega)
set_option maxHeartbeats 4000000 in
set_option maxRecDepth 100000 in
theorem t_X3_sum_o6 (l : Launch) (d : zD2) (L : List Nat) (kd : Nat → Nat) (κ : Int) (σ : zS) (hI : zI κ 2 L kd σ) (a0 : Nat) (ha0 : zT L kd a0 3) (p1 : Int32) (hq0 : p1.toInt = 6) : zMv l yX3_sum (Cond.code yX3_sum cX3_sum 4 none :: zWL) 4 [.ref a0, .int p1] d L kd σ (fun σ2 => zI κ 2 L kd σ2) := by
  refine zMv.of (own := RX3) (by decide +kernel) rfl rfl (Nat.le_of_ble_eq_true rfl) ?_
  intro p e s m args below meth c A Q X ret
  refine zg_lv (lv2 := [(0, .ref a0), (1, .int p1)]) rfl ?_
  refine zg_aload_n X 0 rfl dX3_sum_0 ?_
  refine zg_iload_n X 1 rfl dX3_sum_1 ?_
  refine zg_cVv (As := [.int p1]) (st := []) X ha0 rfl (by decide) rfl (t_X3_product_o6 l d L kd κ _ hI a0 ha0 p1 (by omega)) mk_X3_156 mc_X3_product mz_X3 mi_X3_product ml_X3_product (na := 1) ⟨md_X3.1, md_X3.2, by decide +kernel⟩ rfl ⟨by decide, by decide⟩ (Nat.le_of_ble_eq_true rfl) dX3_sum_2 (fun σ hI => ?_)
  refine zg_iconst X 0 dX3_sum_5 (by decide) (fun v1 _ hv1 => ?_)
  refine zg_istore_n X [(2, .int v1), (0, .ref a0), (1, .int p1)] dX3_sum_6 (by decide) rfl ?_
  have Lp3 : ∀ (n : Nat) (σ : zS) (x2 : Int32), zI κ 2 L kd σ → 0 ≤ x2.toInt ∧ x2.toInt ≤ 401 → (401) - x2.toInt + 1 < (n : Int) → zG d L kd A 4 p l e (k2_rm 4 (100 * 4)) s m args below meth c Q σ 7 [(2, .int x2), (0, .ref a0), (1, .int p1)] [] := by
    intro n
    induction n with
    | zero => intro σ x2 hI  hxLp3 hm; exact absurd hm (by omega)
    | succ n ihLp3 =>
      intro σ x2 hI  hxLp3 hmLp3
      refine zg_iload_n X 0 rfl dX3_sum_7 ?_
      refine zg_sipush X 400 dX3_sum_8 (by decide) (fun v4 _ hv4 => ?_)
      refine zg_icmp_gt X 68 dX3_sum_11 (by decide) (fun c5 => ?_) (fun c5 => ?_)
      · skip
        exact ret _ _ _ dX3_sum_68 hI
      · skip
        refine zg_aload_n X 1 rfl dX3_sum_14 ?_
        refine fg_X3_26 X hI ha0 dX3_sum_15 (fun v6 ev6 _ => ?_)
        refine zg_bipush X 26 dX3_sum_18 (by decide) (fun v7 _ hv7 => ?_)
        refine zg_bipush X 27 dX3_sum_20 (by decide) (fun v8 _ hv8 => ?_)
        refine zg_cSNi (As := [.int v6, .int v7, .int v8]) (st := []) X (t_X10_isWithin l d L kd _ v6 v7 v8 ) mk_X3_80 mc_X10_isWithin mz_X10 ms_X10_isWithin (na := 3) ⟨md_X10.1, md_X10.2, by decide +kernel⟩ rfl ⟨by decide, by decide⟩ (Nat.le_of_ble_eq_true rfl) dX3_sum_22 (fun v9 σ2 hq => ?_)
        obtain ⟨hv9, rfl⟩ := hq
        refine zg_if_eq X 68 dX3_sum_25 (by decide) (fun c10 => ?_) (fun c10 => ?_)
        · skip
          exact ret _ _ _ dX3_sum_68 hI
        · skip
          refine zg_aload_n X 1 rfl dX3_sum_28 ?_
          refine fg_X3_26 X hI ha0 dX3_sum_29 (fun v11 ev11 _ => ?_)
          have mv11 : v11.toInt = v6.toInt := by rw [ev11, ← ev6]
          refine zg_istore_n X [(3, .int v11), (2, .int x2), (0, .ref a0), (1, .int p1)] dX3_sum_32 (by decide) rfl ?_
          refine zg_aload_n X 2 rfl dX3_sum_33 ?_
          refine zg_iload_n X 0 rfl dX3_sum_34 ?_
          refine zg_cVv (As := [.int v11]) (st := []) X ha0 rfl (by decide) rfl (t_X3_take l d L kd κ 2 _ hI a0 ha0 v11 ) mk_X3_87 mc_X3_take mz_X3 mi_X3_take ml_X3_take (na := 1) ⟨md_X3.1, md_X3.2, by decide +kernel⟩ rfl ⟨by decide, by decide⟩ (Nat.le_of_ble_eq_true rfl) dX3_sum_35 (fun σ hI => ?_)
          refine zg_aload_n X 2 rfl dX3_sum_38 ?_
          refine zg_iload_n X 3 rfl dX3_sum_39 ?_
          refine zg_cVv (As := [.int p1]) (st := []) X ha0 rfl (by decide) rfl (t_X3_product_o6 l d L kd κ _ hI a0 ha0 p1 (by omega)) mk_X3_156 mc_X3_product mz_X3 mi_X3_product ml_X3_product (na := 1) ⟨md_X3.1, md_X3.2, by decide +kernel⟩ rfl ⟨by decide, by decide⟩ (Nat.le_of_ble_eq_true rfl) dX3_sum_40 (fun σ hI => ?_)
          refine zg_aload_n X 2 rfl dX3_sum_43 ?_
          refine fg_X3_18 X hI ha0 dX3_sum_44 (fun v12 _ hv12 => ?_)
          refine zg_iload_n X 0 rfl dX3_sum_47 ?_
          refine zg_bipush X 26 dX3_sum_48 (by decide) (fun v13 _ hv13 => ?_)
          refine zg_icmp_ne X 57 dX3_sum_50 (by decide) (fun c14 => ?_) (fun c14 => ?_)
          · skip
            refine zg_iconst X 3 dX3_sum_57 (by decide) (fun v15 _ hv15 => ?_)
            refine zg_iconst X 0 dX3_sum_58 (by decide) (fun v16 _ hv16 => ?_)
            refine zg_cVv (As := [.int v15, .int v16]) (st := []) X hv12 rfl (by decide) rfl (t_X9_addStep l d L kd κ 2 _ hI v12 hv12 v15 v16 ) mk_X3_145 mc_X9_addStep mz_X9 mi_X9_addStep ml_X9_addStep (na := 2) ⟨md_X9.1, md_X9.2, by decide +kernel⟩ rfl ⟨by decide, by decide⟩ (Nat.le_of_ble_eq_true rfl) dX3_sum_59 (fun σ hI => ?_)
            refine zg_iinc X 1 (fun v17 => [(2, .int v17), (3, .int v11), (0, .ref a0), (1, .int p1)]) 1 dX3_sum_62 rfl (by decide) (by decide) (by omega) (by omega) (fun _ => rfl) (fun v17 _ hv17 => ?_)
            refine zg_goto X 7 dX3_sum_65 (by decide) ?_
            refine zg_sub [0, 2, 3] rfl ?_
            exact ihLp3 _ v17 hI  (by omega) (by omega)
          · skip
            refine zg_iconst X 2 dX3_sum_53 (by decide) (fun v18 _ hv18 => ?_)
            refine zg_goto X 58 dX3_sum_54 (by decide) ?_
            refine zg_iconst X 0 dX3_sum_58 (by decide) (fun v19 _ hv19 => ?_)
            refine zg_cVv (As := [.int v18, .int v19]) (st := []) X hv12 rfl (by decide) rfl (t_X9_addStep l d L kd κ 2 _ hI v12 hv12 v18 v19 ) mk_X3_145 mc_X9_addStep mz_X9 mi_X9_addStep ml_X9_addStep (na := 2) ⟨md_X9.1, md_X9.2, by decide +kernel⟩ rfl ⟨by decide, by decide⟩ (Nat.le_of_ble_eq_true rfl) dX3_sum_59 (fun σ hI => ?_)
            refine zg_iinc X 1 (fun v20 => [(2, .int v20), (3, .int v11), (0, .ref a0), (1, .int p1)]) 1 dX3_sum_62 rfl (by decide) (by decide) (by omega) (by omega) (fun _ => rfl) (fun v20 _ hv20 => ?_)
            refine zg_goto X 7 dX3_sum_65 (by decide) ?_
            refine zg_sub [0, 2, 3] rfl ?_
            exact ihLp3 _ v20 hI  (by omega) (by omega)
  refine zg_sub [0, 1, 2] rfl ?_
  exact Lp3 (((401) - v1.toInt + 1).toNat + 1) _ v1 hI  (by omega) (by omega)
set_option maxHeartbeats 4000000 in
set_option maxRecDepth 100000 in
theorem t_X3_unit_o5 (l : Launch) (d : zD2) (L : List Nat) (kd : Nat → Nat) (κ : Int) (σ : zS) (hI : zI κ 2 L kd σ) (a0 : Nat) (ha0 : zT L kd a0 3) (p1 : Int32) (hq0 : p1.toInt = 5) : zMv l yX3_unit (Cond.code yX3_unit cX3_unit 2 none :: zWL) 5 [.ref a0, .int p1] d L kd σ (fun σ2 => zI κ 2 L kd σ2) := by
  refine zMv.of (own := RX3) (by decide +kernel) rfl rfl (Nat.le_of_ble_eq_true rfl) ?_
  intro p e s m args below meth c A Q X ret
  refine zg_lv (lv2 := [(0, .ref a0), (1, .int p1)]) rfl ?_
  refine zg_aload_n X 0 rfl dX3_unit_0 ?_
  refine fg_X3_26 X hI ha0 dX3_unit_1 (fun v1 ev1 _ => ?_)
  refine zg_bipush X 23 dX3_unit_4 (by decide) (fun v2 _ hv2 => ?_)
  refine zg_icmp_ne X 33 dX3_unit_6 (by decide) (fun c3 => ?_) (fun c3 => ?_)
  · skip
    refine zg_aload_n X 0 rfl dX3_unit_33 ?_
    refine fg_X3_26 X hI ha0 dX3_unit_34 (fun v4 ev4 _ => ?_)
    have mv4 : v4.toInt = v1.toInt := by rw [ev4, ← ev1]
    refine zg_bipush X 13 dX3_unit_37 (by decide) (fun v5 _ hv5 => ?_)
    have zv4_z6 := zb_rng v4
    refine zg_icmp_lt X 77 dX3_unit_39 (by decide) (fun c7 => ?_) (fun c7 => ?_)
    · skip
      refine zg_aload_n X 0 rfl dX3_unit_77 ?_
      refine fg_X3_26 X hI ha0 dX3_unit_78 (fun v8 ev8 _ => ?_)
      have mv8 : v8.toInt = v4.toInt := by rw [ev8, ← ev4]
      refine zg_bipush X 31 dX3_unit_81 (by decide) (fun v9 _ hv9 => ?_)
      refine zg_icmp_ne X 116 dX3_unit_83 (by decide) (fun c10 => ?_) (fun c10 => ?_)
      · skip
        refine zg_aload_n X 0 rfl dX3_unit_116 ?_
        refine zg_aload_n X 0 rfl dX3_unit_117 ?_
        refine fg_X3_26 X hI ha0 dX3_unit_118 (fun v11 ev11 _ => ?_)
        have mv11 : v11.toInt = v8.toInt := by rw [ev11, ← ev8]
        refine zg_bipush X 31 dX3_unit_121 (by decide) (fun v12 _ hv12 => ?_)
        refine zg_icmp_ne X 130 dX3_unit_123 (by decide) (fun c13 => ?_) (fun c13 => ?_)
        · skip
          refine zg_iconst X 1 dX3_unit_130 (by decide) (fun v14 _ hv14 => ?_)
          refine zg_cVv (As := [.int v14]) (st := []) X ha0 rfl (by decide) rfl (t_X3_fail l d L kd κ 2 _ hI a0 ha0 v14 ) mk_X3_106 mc_X3_fail mz_X3 mi_X3_fail ml_X3_fail (na := 1) ⟨md_X3.1, md_X3.2, by decide +kernel⟩ rfl ⟨by decide, by decide⟩ (Nat.le_of_ble_eq_true rfl) dX3_unit_131 (fun σ hI => ?_)
          exact ret _ _ _ dX3_unit_134 hI
        · omega
      · omega
    · skip
      refine zg_aload_n X 0 rfl dX3_unit_42 ?_
      refine fg_X3_26 X hI ha0 dX3_unit_43 (fun v15 ev15 _ => ?_)
      have mv15 : v15.toInt = v4.toInt := by rw [ev15, ← ev4]
      refine zg_bipush X 22 dX3_unit_46 (by decide) (fun v16 _ hv16 => ?_)
      have zv15_z17 := zb_rng v15
      refine zg_icmp_ge X 77 dX3_unit_48 (by decide) (fun c18 => ?_) (fun c18 => ?_)
      · skip
        refine zg_aload_n X 0 rfl dX3_unit_77 ?_
        refine fg_X3_26 X hI ha0 dX3_unit_78 (fun v19 ev19 _ => ?_)
        have mv19 : v19.toInt = v15.toInt := by rw [ev19, ← ev15]
        refine zg_bipush X 31 dX3_unit_81 (by decide) (fun v20 _ hv20 => ?_)
        refine zg_icmp_ne X 116 dX3_unit_83 (by decide) (fun c21 => ?_) (fun c21 => ?_)
        · skip
          refine zg_aload_n X 0 rfl dX3_unit_116 ?_
          refine zg_aload_n X 0 rfl dX3_unit_117 ?_
          refine fg_X3_26 X hI ha0 dX3_unit_118 (fun v22 ev22 _ => ?_)
          have mv22 : v22.toInt = v19.toInt := by rw [ev22, ← ev19]
          refine zg_bipush X 31 dX3_unit_121 (by decide) (fun v23 _ hv23 => ?_)
          refine zg_icmp_ne X 130 dX3_unit_123 (by decide) (fun c24 => ?_) (fun c24 => ?_)
          · skip
            refine zg_iconst X 1 dX3_unit_130 (by decide) (fun v25 _ hv25 => ?_)
            refine zg_cVv (As := [.int v25]) (st := []) X ha0 rfl (by decide) rfl (t_X3_fail l d L kd κ 2 _ hI a0 ha0 v25 ) mk_X3_106 mc_X3_fail mz_X3 mi_X3_fail ml_X3_fail (na := 1) ⟨md_X3.1, md_X3.2, by decide +kernel⟩ rfl ⟨by decide, by decide⟩ (Nat.le_of_ble_eq_true rfl) dX3_unit_131 (fun σ hI => ?_)
            exact ret _ _ _ dX3_unit_134 hI
          · skip
            refine zg_iconst X 2 dX3_unit_126 (by decide) (fun v26 _ hv26 => ?_)
            refine zg_goto X 131 dX3_unit_127 (by decide) ?_
            refine zg_cVv (As := [.int v26]) (st := []) X ha0 rfl (by decide) rfl (t_X3_fail l d L kd κ 2 _ hI a0 ha0 v26 ) mk_X3_106 mc_X3_fail mz_X3 mi_X3_fail ml_X3_fail (na := 1) ⟨md_X3.1, md_X3.2, by decide +kernel⟩ rfl ⟨by decide, by decide⟩ (Nat.le_of_ble_eq_true rfl) dX3_unit_131 (fun σ hI => ?_)
            exact ret _ _ _ dX3_unit_134 hI
        · skip
          refine zg_iload_n X 1 rfl dX3_unit_86 ?_
          refine zg_bipush X 6 dX3_unit_87 (by decide) (fun v27 _ hv27 => ?_)
          refine zg_icmp_ge X 116 dX3_unit_89 (by decide) (fun c28 => ?_) (fun c28 => ?_)
          · omega
          · skip
            refine zg_aload_n X 0 rfl dX3_unit_92 ?_
            refine zg_aload_n X 0 rfl dX3_unit_93 ?_
            refine fg_X3_26 X hI ha0 dX3_unit_94 (fun v29 ev29 _ => ?_)
            have mv29 : v29.toInt = v19.toInt := by rw [ev29, ← ev19]
            refine zg_cVv (As := [.int v29]) (st := []) X ha0 rfl (by decide) rfl (t_X3_take l d L kd κ 2 _ hI a0 ha0 v29 ) mk_X3_87 mc_X3_take mz_X3 mi_X3_take ml_X3_take (na := 1) ⟨md_X3.1, md_X3.2, by decide +kernel⟩ rfl ⟨by decide, by decide⟩ (Nat.le_of_ble_eq_true rfl) dX3_unit_97 (fun σ hI => ?_)
            refine zg_aload_n X 0 rfl dX3_unit_100 ?_
            refine zg_iload_n X 1 rfl dX3_unit_101 ?_
            refine zg_iconst X 1 dX3_unit_102 (by decide) (fun v30 _ hv30 => ?_)
            refine zg_iadd X dX3_unit_103 (by omega) (by omega) (fun v31 _ hv31 => ?_)
            refine zg_cVv (As := [.int v31]) (st := []) X ha0 rfl (by decide) rfl (t_X3_sum_o6 l d L kd κ _ hI a0 ha0 v31 (by omega)) mk_X3_140 mc_X3_sum mz_X3 mi_X3_sum ml_X3_sum (na := 1) ⟨md_X3.1, md_X3.2, by decide +kernel⟩ rfl ⟨by decide, by decide⟩ (Nat.le_of_ble_eq_true rfl) dX3_unit_104 (fun σ hI => ?_)
            refine zg_aload_n X 0 rfl dX3_unit_107 ?_
            refine zg_bipush X 32 dX3_unit_108 (by decide) (fun v32 _ hv32 => ?_)
            refine zg_cVv (As := [.int v32]) (st := []) X ha0 rfl (by decide) rfl (t_X3_take l d L kd κ 2 _ hI a0 ha0 v32 ) mk_X3_87 mc_X3_take mz_X3 mi_X3_take ml_X3_take (na := 1) ⟨md_X3.1, md_X3.2, by decide +kernel⟩ rfl ⟨by decide, by decide⟩ (Nat.le_of_ble_eq_true rfl) dX3_unit_110 (fun σ hI => ?_)
            refine zg_goto X 134 dX3_unit_113 (by decide) ?_
            exact ret _ _ _ dX3_unit_134 hI
      · skip
        refine zg_aload_n X 0 rfl dX3_unit_51 ?_
        refine fg_X3_18 X hI ha0 dX3_unit_52 (fun v33 _ hv33 => ?_)
        refine zg_iconst X 1 dX3_unit_55 (by decide) (fun v34 _ hv34 => ?_)
        refine zg_aload_n X 0 rfl dX3_unit_56 ?_
        refine fg_X3_26 X hI ha0 dX3_unit_57 (fun v35 ev35 _ => ?_)
        have mv35 : v35.toInt = v15.toInt := by rw [ev35, ← ev15]
        refine zg_bipush X 13 dX3_unit_60 (by decide) (fun v36 _ hv36 => ?_)
        refine zg_isub X dX3_unit_62 (by omega) (by omega) (fun v37 _ hv37 => ?_)
        refine zg_cVv (As := [.int v34, .int v37]) (st := []) X hv33 rfl (by decide) rfl (t_X9_addStep l d L kd κ 2 _ hI v33 hv33 v34 v37 ) mk_X3_145 mc_X9_addStep mz_X9 mi_X9_addStep ml_X9_addStep (na := 2) ⟨md_X9.1, md_X9.2, by decide +kernel⟩ rfl ⟨by decide, by decide⟩ (Nat.le_of_ble_eq_true rfl) dX3_unit_63 (fun σ hI => ?_)
        refine zg_aload_n X 0 rfl dX3_unit_66 ?_
        refine zg_aload_n X 0 rfl dX3_unit_67 ?_
        refine fg_X3_26 X hI ha0 dX3_unit_68 (fun v38 ev38 _ => ?_)
        refine zg_cVv (As := [.int v38]) (st := []) X ha0 rfl (by decide) rfl (t_X3_take l d L kd κ 2 _ hI a0 ha0 v38 ) mk_X3_87 mc_X3_take mz_X3 mi_X3_take ml_X3_take (na := 1) ⟨md_X3.1, md_X3.2, by decide +kernel⟩ rfl ⟨by decide, by decide⟩ (Nat.le_of_ble_eq_true rfl) dX3_unit_71 (fun σ hI => ?_)
        refine zg_goto X 134 dX3_unit_74 (by decide) ?_
        exact ret _ _ _ dX3_unit_134 hI
  · skip
    refine zg_aload_n X 0 rfl dX3_unit_9 ?_
    refine fg_X3_18 X hI ha0 dX3_unit_10 (fun v39 _ hv39 => ?_)
    refine zg_iconst X 0 dX3_unit_13 (by decide) (fun v40 _ hv40 => ?_)
    refine zg_aload_n X 0 rfl dX3_unit_14 ?_
    refine fg_X3_29 X ha0 dX3_unit_15 (fun v41 _ => ?_)
    refine zg_l2i X dX3_unit_18 (fun v42 ev42 => ?_)
    refine zg_cVv (As := [.int v40, .int v42]) (st := []) X hv39 rfl (by decide) rfl (t_X9_addStep l d L kd κ 2 _ hI v39 hv39 v40 v42 ) mk_X3_145 mc_X9_addStep mz_X9 mi_X9_addStep ml_X9_addStep (na := 2) ⟨md_X9.1, md_X9.2, by decide +kernel⟩ rfl ⟨by decide, by decide⟩ (Nat.le_of_ble_eq_true rfl) dX3_unit_19 (fun σ hI => ?_)
    refine zg_aload_n X 0 rfl dX3_unit_22 ?_
    refine zg_aload_n X 0 rfl dX3_unit_23 ?_
    refine fg_X3_26 X hI ha0 dX3_unit_24 (fun v43 ev43 _ => ?_)
    refine zg_cVv (As := [.int v43]) (st := []) X ha0 rfl (by decide) rfl (t_X3_take l d L kd κ 2 _ hI a0 ha0 v43 ) mk_X3_87 mc_X3_take mz_X3 mi_X3_take ml_X3_take (na := 1) ⟨md_X3.1, md_X3.2, by decide +kernel⟩ rfl ⟨by decide, by decide⟩ (Nat.le_of_ble_eq_true rfl) dX3_unit_27 (fun σ hI => ?_)
    refine zg_goto X 134 dX3_unit_30 (by decide) ?_
    exact ret _ _ _ dX3_unit_134 hI
set_option maxHeartbeats 4000000 in
set_option maxRecDepth 100000 in
theorem t_X3_product_o5 (l : Launch) (d : zD2) (L : List Nat) (kd : Nat → Nat) (κ : Int) (σ : zS) (hI : zI κ 2 L kd σ) (a0 : Nat) (ha0 : zT L kd a0 3) (p1 : Int32) (hq0 : p1.toInt = 5) : zMv l yX3_product (Cond.code yX3_product cX3_product 4 none :: zWL) 6 [.ref a0, .int p1] d L kd σ (fun σ2 => zI κ 2 L kd σ2) := by
  refine zMv.of (own := RX3) (by decide +kernel) rfl rfl (Nat.le_of_ble_eq_true rfl) ?_
  intro p e s m args below meth c A Q X ret
  refine zg_lv (lv2 := [(0, .ref a0), (1, .int p1)]) rfl ?_
  refine zg_aload_n X 0 rfl dX3_product_0 ?_
  refine zg_iload_n X 1 rfl dX3_product_1 ?_
  refine zg_cVv (As := [.int p1]) (st := []) X ha0 rfl (by decide) rfl (t_X3_unit_o5 l d L kd κ _ hI a0 ha0 p1 (by omega)) mk_X3_159 mc_X3_unit mz_X3 mi_X3_unit ml_X3_unit (na := 1) ⟨md_X3.1, md_X3.2, by decide +kernel⟩ rfl ⟨by decide, by decide⟩ (Nat.le_of_ble_eq_true rfl) dX3_product_2 (fun σ hI => ?_)
  refine zg_iconst X 0 dX3_product_5 (by decide) (fun v1 _ hv1 => ?_)
  refine zg_istore_n X [(2, .int v1), (0, .ref a0), (1, .int p1)] dX3_product_6 (by decide) rfl ?_
  have Lp3 : ∀ (n : Nat) (σ : zS) (x2 : Int32), zI κ 2 L kd σ → 0 ≤ x2.toInt ∧ x2.toInt ≤ 401 → (401) - x2.toInt + 1 < (n : Int) → zG d L kd A 4 p l e (k2_rm 6 (100 * 6)) s m args below meth c Q σ 7 [(2, .int x2), (0, .ref a0), (1, .int p1)] [] := by
    intro n
    induction n with
    | zero => intro σ x2 hI  hxLp3 hm; exact absurd hm (by omega)
    | succ n ihLp3 =>
      intro σ x2 hI  hxLp3 hmLp3
      refine zg_iload_n X 0 rfl dX3_product_7 ?_
      refine zg_sipush X 400 dX3_product_8 (by decide) (fun v4 _ hv4 => ?_)
      refine zg_icmp_gt X 68 dX3_product_11 (by decide) (fun c5 => ?_) (fun c5 => ?_)
      · skip
        exact ret _ _ _ dX3_product_68 hI
      · skip
        refine zg_aload_n X 1 rfl dX3_product_14 ?_
        refine fg_X3_26 X hI ha0 dX3_product_15 (fun v6 ev6 _ => ?_)
        refine zg_bipush X 28 dX3_product_18 (by decide) (fun v7 _ hv7 => ?_)
        refine zg_bipush X 29 dX3_product_20 (by decide) (fun v8 _ hv8 => ?_)
        refine zg_cSNi (As := [.int v6, .int v7, .int v8]) (st := []) X (t_X10_isWithin l d L kd _ v6 v7 v8 ) mk_X3_80 mc_X10_isWithin mz_X10 ms_X10_isWithin (na := 3) ⟨md_X10.1, md_X10.2, by decide +kernel⟩ rfl ⟨by decide, by decide⟩ (Nat.le_of_ble_eq_true rfl) dX3_product_22 (fun v9 σ2 hq => ?_)
        obtain ⟨hv9, rfl⟩ := hq
        refine zg_if_eq X 68 dX3_product_25 (by decide) (fun c10 => ?_) (fun c10 => ?_)
        · skip
          exact ret _ _ _ dX3_product_68 hI
        · skip
          refine zg_aload_n X 1 rfl dX3_product_28 ?_
          refine fg_X3_26 X hI ha0 dX3_product_29 (fun v11 ev11 _ => ?_)
          have mv11 : v11.toInt = v6.toInt := by rw [ev11, ← ev6]
          refine zg_istore_n X [(3, .int v11), (2, .int x2), (0, .ref a0), (1, .int p1)] dX3_product_32 (by decide) rfl ?_
          refine zg_aload_n X 2 rfl dX3_product_33 ?_
          refine zg_iload_n X 0 rfl dX3_product_34 ?_
          refine zg_cVv (As := [.int v11]) (st := []) X ha0 rfl (by decide) rfl (t_X3_take l d L kd κ 2 _ hI a0 ha0 v11 ) mk_X3_87 mc_X3_take mz_X3 mi_X3_take ml_X3_take (na := 1) ⟨md_X3.1, md_X3.2, by decide +kernel⟩ rfl ⟨by decide, by decide⟩ (Nat.le_of_ble_eq_true rfl) dX3_product_35 (fun σ hI => ?_)
          refine zg_aload_n X 2 rfl dX3_product_38 ?_
          refine zg_iload_n X 3 rfl dX3_product_39 ?_
          refine zg_cVv (As := [.int p1]) (st := []) X ha0 rfl (by decide) rfl (t_X3_unit_o5 l d L kd κ _ hI a0 ha0 p1 (by omega)) mk_X3_159 mc_X3_unit mz_X3 mi_X3_unit ml_X3_unit (na := 1) ⟨md_X3.1, md_X3.2, by decide +kernel⟩ rfl ⟨by decide, by decide⟩ (Nat.le_of_ble_eq_true rfl) dX3_product_40 (fun σ hI => ?_)
          refine zg_aload_n X 2 rfl dX3_product_43 ?_
          refine fg_X3_18 X hI ha0 dX3_product_44 (fun v12 _ hv12 => ?_)
          refine zg_iload_n X 0 rfl dX3_product_47 ?_
          refine zg_bipush X 28 dX3_product_48 (by decide) (fun v13 _ hv13 => ?_)
          refine zg_icmp_ne X 57 dX3_product_50 (by decide) (fun c14 => ?_) (fun c14 => ?_)
          · skip
            refine zg_iconst X 5 dX3_product_57 (by decide) (fun v15 _ hv15 => ?_)
            refine zg_iconst X 0 dX3_product_58 (by decide) (fun v16 _ hv16 => ?_)
            refine zg_cVv (As := [.int v15, .int v16]) (st := []) X hv12 rfl (by decide) rfl (t_X9_addStep l d L kd κ 2 _ hI v12 hv12 v15 v16 ) mk_X3_145 mc_X9_addStep mz_X9 mi_X9_addStep ml_X9_addStep (na := 2) ⟨md_X9.1, md_X9.2, by decide +kernel⟩ rfl ⟨by decide, by decide⟩ (Nat.le_of_ble_eq_true rfl) dX3_product_59 (fun σ hI => ?_)
            refine zg_iinc X 1 (fun v17 => [(2, .int v17), (3, .int v11), (0, .ref a0), (1, .int p1)]) 1 dX3_product_62 rfl (by decide) (by decide) (by omega) (by omega) (fun _ => rfl) (fun v17 _ hv17 => ?_)
            refine zg_goto X 7 dX3_product_65 (by decide) ?_
            refine zg_sub [0, 2, 3] rfl ?_
            exact ihLp3 _ v17 hI  (by omega) (by omega)
          · skip
            refine zg_iconst X 4 dX3_product_53 (by decide) (fun v18 _ hv18 => ?_)
            refine zg_goto X 58 dX3_product_54 (by decide) ?_
            refine zg_iconst X 0 dX3_product_58 (by decide) (fun v19 _ hv19 => ?_)
            refine zg_cVv (As := [.int v18, .int v19]) (st := []) X hv12 rfl (by decide) rfl (t_X9_addStep l d L kd κ 2 _ hI v12 hv12 v18 v19 ) mk_X3_145 mc_X9_addStep mz_X9 mi_X9_addStep ml_X9_addStep (na := 2) ⟨md_X9.1, md_X9.2, by decide +kernel⟩ rfl ⟨by decide, by decide⟩ (Nat.le_of_ble_eq_true rfl) dX3_product_59 (fun σ hI => ?_)
            refine zg_iinc X 1 (fun v20 => [(2, .int v20), (3, .int v11), (0, .ref a0), (1, .int p1)]) 1 dX3_product_62 rfl (by decide) (by decide) (by omega) (by omega) (fun _ => rfl) (fun v20 _ hv20 => ?_)
            refine zg_goto X 7 dX3_product_65 (by decide) ?_
            refine zg_sub [0, 2, 3] rfl ?_
            exact ihLp3 _ v20 hI  (by omega) (by omega)
  refine zg_sub [0, 1, 2] rfl ?_
  exact Lp3 (((401) - v1.toInt + 1).toNat + 1) _ v1 hI  (by omega) (by omega)
set_option maxHeartbeats 4000000 in
set_option maxRecDepth 100000 in
theorem t_X3_sum_o5 (l : Launch) (d : zD2) (L : List Nat) (kd : Nat → Nat) (κ : Int) (σ : zS) (hI : zI κ 2 L kd σ) (a0 : Nat) (ha0 : zT L kd a0 3) (p1 : Int32) (hq0 : p1.toInt = 5) : zMv l yX3_sum (Cond.code yX3_sum cX3_sum 4 none :: zWL) 7 [.ref a0, .int p1] d L kd σ (fun σ2 => zI κ 2 L kd σ2) := by
  refine zMv.of (own := RX3) (by decide +kernel) rfl rfl (Nat.le_of_ble_eq_true rfl) ?_
  intro p e s m args below meth c A Q X ret
  refine zg_lv (lv2 := [(0, .ref a0), (1, .int p1)]) rfl ?_
  refine zg_aload_n X 0 rfl dX3_sum_0 ?_
  refine zg_iload_n X 1 rfl dX3_sum_1 ?_
  refine zg_cVv (As := [.int p1]) (st := []) X ha0 rfl (by decide) rfl (t_X3_product_o5 l d L kd κ _ hI a0 ha0 p1 (by omega)) mk_X3_156 mc_X3_product mz_X3 mi_X3_product ml_X3_product (na := 1) ⟨md_X3.1, md_X3.2, by decide +kernel⟩ rfl ⟨by decide, by decide⟩ (Nat.le_of_ble_eq_true rfl) dX3_sum_2 (fun σ hI => ?_)
  refine zg_iconst X 0 dX3_sum_5 (by decide) (fun v1 _ hv1 => ?_)
  refine zg_istore_n X [(2, .int v1), (0, .ref a0), (1, .int p1)] dX3_sum_6 (by decide) rfl ?_
  have Lp3 : ∀ (n : Nat) (σ : zS) (x2 : Int32), zI κ 2 L kd σ → 0 ≤ x2.toInt ∧ x2.toInt ≤ 401 → (401) - x2.toInt + 1 < (n : Int) → zG d L kd A 4 p l e (k2_rm 7 (100 * 7)) s m args below meth c Q σ 7 [(2, .int x2), (0, .ref a0), (1, .int p1)] [] := by
    intro n
    induction n with
    | zero => intro σ x2 hI  hxLp3 hm; exact absurd hm (by omega)
    | succ n ihLp3 =>
      intro σ x2 hI  hxLp3 hmLp3
      refine zg_iload_n X 0 rfl dX3_sum_7 ?_
      refine zg_sipush X 400 dX3_sum_8 (by decide) (fun v4 _ hv4 => ?_)
      refine zg_icmp_gt X 68 dX3_sum_11 (by decide) (fun c5 => ?_) (fun c5 => ?_)
      · skip
        exact ret _ _ _ dX3_sum_68 hI
      · skip
        refine zg_aload_n X 1 rfl dX3_sum_14 ?_
        refine fg_X3_26 X hI ha0 dX3_sum_15 (fun v6 ev6 _ => ?_)
        refine zg_bipush X 26 dX3_sum_18 (by decide) (fun v7 _ hv7 => ?_)
        refine zg_bipush X 27 dX3_sum_20 (by decide) (fun v8 _ hv8 => ?_)
        refine zg_cSNi (As := [.int v6, .int v7, .int v8]) (st := []) X (t_X10_isWithin l d L kd _ v6 v7 v8 ) mk_X3_80 mc_X10_isWithin mz_X10 ms_X10_isWithin (na := 3) ⟨md_X10.1, md_X10.2, by decide +kernel⟩ rfl ⟨by decide, by decide⟩ (Nat.le_of_ble_eq_true rfl) dX3_sum_22 (fun v9 σ2 hq => ?_)
        obtain ⟨hv9, rfl⟩ := hq
        refine zg_if_eq X 68 dX3_sum_25 (by decide) (fun c10 => ?_) (fun c10 => ?_)
        · skip
          exact ret _ _ _ dX3_sum_68 hI
        · skip
          refine zg_aload_n X 1 rfl dX3_sum_28 ?_
          refine fg_X3_26 X hI ha0 dX3_sum_29 (fun v11 ev11 _ => ?_)
          have mv11 : v11.toInt = v6.toInt := by rw [ev11, ← ev6]
          refine zg_istore_n X [(3, .int v11), (2, .int x2), (0, .ref a0), (1, .int p1)] dX3_sum_32 (by decide) rfl ?_
          refine zg_aload_n X 2 rfl dX3_sum_33 ?_
          refine zg_iload_n X 0 rfl dX3_sum_34 ?_
          refine zg_cVv (As := [.int v11]) (st := []) X ha0 rfl (by decide) rfl (t_X3_take l d L kd κ 2 _ hI a0 ha0 v11 ) mk_X3_87 mc_X3_take mz_X3 mi_X3_take ml_X3_take (na := 1) ⟨md_X3.1, md_X3.2, by decide +kernel⟩ rfl ⟨by decide, by decide⟩ (Nat.le_of_ble_eq_true rfl) dX3_sum_35 (fun σ hI => ?_)
          refine zg_aload_n X 2 rfl dX3_sum_38 ?_
          refine zg_iload_n X 3 rfl dX3_sum_39 ?_
          refine zg_cVv (As := [.int p1]) (st := []) X ha0 rfl (by decide) rfl (t_X3_product_o5 l d L kd κ _ hI a0 ha0 p1 (by omega)) mk_X3_156 mc_X3_product mz_X3 mi_X3_product ml_X3_product (na := 1) ⟨md_X3.1, md_X3.2, by decide +kernel⟩ rfl ⟨by decide, by decide⟩ (Nat.le_of_ble_eq_true rfl) dX3_sum_40 (fun σ hI => ?_)
          refine zg_aload_n X 2 rfl dX3_sum_43 ?_
          refine fg_X3_18 X hI ha0 dX3_sum_44 (fun v12 _ hv12 => ?_)
          refine zg_iload_n X 0 rfl dX3_sum_47 ?_
          refine zg_bipush X 26 dX3_sum_48 (by decide) (fun v13 _ hv13 => ?_)
          refine zg_icmp_ne X 57 dX3_sum_50 (by decide) (fun c14 => ?_) (fun c14 => ?_)
          · skip
            refine zg_iconst X 3 dX3_sum_57 (by decide) (fun v15 _ hv15 => ?_)
            refine zg_iconst X 0 dX3_sum_58 (by decide) (fun v16 _ hv16 => ?_)
            refine zg_cVv (As := [.int v15, .int v16]) (st := []) X hv12 rfl (by decide) rfl (t_X9_addStep l d L kd κ 2 _ hI v12 hv12 v15 v16 ) mk_X3_145 mc_X9_addStep mz_X9 mi_X9_addStep ml_X9_addStep (na := 2) ⟨md_X9.1, md_X9.2, by decide +kernel⟩ rfl ⟨by decide, by decide⟩ (Nat.le_of_ble_eq_true rfl) dX3_sum_59 (fun σ hI => ?_)
            refine zg_iinc X 1 (fun v17 => [(2, .int v17), (3, .int v11), (0, .ref a0), (1, .int p1)]) 1 dX3_sum_62 rfl (by decide) (by decide) (by omega) (by omega) (fun _ => rfl) (fun v17 _ hv17 => ?_)
            refine zg_goto X 7 dX3_sum_65 (by decide) ?_
            refine zg_sub [0, 2, 3] rfl ?_
            exact ihLp3 _ v17 hI  (by omega) (by omega)
          · skip
            refine zg_iconst X 2 dX3_sum_53 (by decide) (fun v18 _ hv18 => ?_)
            refine zg_goto X 58 dX3_sum_54 (by decide) ?_
            refine zg_iconst X 0 dX3_sum_58 (by decide) (fun v19 _ hv19 => ?_)
            refine zg_cVv (As := [.int v18, .int v19]) (st := []) X hv12 rfl (by decide) rfl (t_X9_addStep l d L kd κ 2 _ hI v12 hv12 v18 v19 ) mk_X3_145 mc_X9_addStep mz_X9 mi_X9_addStep ml_X9_addStep (na := 2) ⟨md_X9.1, md_X9.2, by decide +kernel⟩ rfl ⟨by decide, by decide⟩ (Nat.le_of_ble_eq_true rfl) dX3_sum_59 (fun σ hI => ?_)
            refine zg_iinc X 1 (fun v20 => [(2, .int v20), (3, .int v11), (0, .ref a0), (1, .int p1)]) 1 dX3_sum_62 rfl (by decide) (by decide) (by omega) (by omega) (fun _ => rfl) (fun v20 _ hv20 => ?_)
            refine zg_goto X 7 dX3_sum_65 (by decide) ?_
            refine zg_sub [0, 2, 3] rfl ?_
            exact ihLp3 _ v20 hI  (by omega) (by omega)
  refine zg_sub [0, 1, 2] rfl ?_
  exact Lp3 (((401) - v1.toInt + 1).toNat + 1) _ v1 hI  (by omega) (by omega)
set_option maxHeartbeats 4000000 in
set_option maxRecDepth 100000 in
theorem t_X3_unit_o4 (l : Launch) (d : zD2) (L : List Nat) (kd : Nat → Nat) (κ : Int) (σ : zS) (hI : zI κ 2 L kd σ) (a0 : Nat) (ha0 : zT L kd a0 3) (p1 : Int32) (hq0 : p1.toInt = 4) : zMv l yX3_unit (Cond.code yX3_unit cX3_unit 2 none :: zWL) 8 [.ref a0, .int p1] d L kd σ (fun σ2 => zI κ 2 L kd σ2) := by
  refine zMv.of (own := RX3) (by decide +kernel) rfl rfl (Nat.le_of_ble_eq_true rfl) ?_
  intro p e s m args below meth c A Q X ret
  refine zg_lv (lv2 := [(0, .ref a0), (1, .int p1)]) rfl ?_
  refine zg_aload_n X 0 rfl dX3_unit_0 ?_
  refine fg_X3_26 X hI ha0 dX3_unit_1 (fun v1 ev1 _ => ?_)
  refine zg_bipush X 23 dX3_unit_4 (by decide) (fun v2 _ hv2 => ?_)
  refine zg_icmp_ne X 33 dX3_unit_6 (by decide) (fun c3 => ?_) (fun c3 => ?_)
  · skip
    refine zg_aload_n X 0 rfl dX3_unit_33 ?_
    refine fg_X3_26 X hI ha0 dX3_unit_34 (fun v4 ev4 _ => ?_)
    have mv4 : v4.toInt = v1.toInt := by rw [ev4, ← ev1]
    refine zg_bipush X 13 dX3_unit_37 (by decide) (fun v5 _ hv5 => ?_)
    have zv4_z6 := zb_rng v4
    refine zg_icmp_lt X 77 dX3_unit_39 (by decide) (fun c7 => ?_) (fun c7 => ?_)
    · skip
      refine zg_aload_n X 0 rfl dX3_unit_77 ?_
      refine fg_X3_26 X hI ha0 dX3_unit_78 (fun v8 ev8 _ => ?_)
      have mv8 : v8.toInt = v4.toInt := by rw [ev8, ← ev4]
      refine zg_bipush X 31 dX3_unit_81 (by decide) (fun v9 _ hv9 => ?_)
      refine zg_icmp_ne X 116 dX3_unit_83 (by decide) (fun c10 => ?_) (fun c10 => ?_)
      · skip
        refine zg_aload_n X 0 rfl dX3_unit_116 ?_
        refine zg_aload_n X 0 rfl dX3_unit_117 ?_
        refine fg_X3_26 X hI ha0 dX3_unit_118 (fun v11 ev11 _ => ?_)
        have mv11 : v11.toInt = v8.toInt := by rw [ev11, ← ev8]
        refine zg_bipush X 31 dX3_unit_121 (by decide) (fun v12 _ hv12 => ?_)
        refine zg_icmp_ne X 130 dX3_unit_123 (by decide) (fun c13 => ?_) (fun c13 => ?_)
        · skip
          refine zg_iconst X 1 dX3_unit_130 (by decide) (fun v14 _ hv14 => ?_)
          refine zg_cVv (As := [.int v14]) (st := []) X ha0 rfl (by decide) rfl (t_X3_fail l d L kd κ 2 _ hI a0 ha0 v14 ) mk_X3_106 mc_X3_fail mz_X3 mi_X3_fail ml_X3_fail (na := 1) ⟨md_X3.1, md_X3.2, by decide +kernel⟩ rfl ⟨by decide, by decide⟩ (Nat.le_of_ble_eq_true rfl) dX3_unit_131 (fun σ hI => ?_)
          exact ret _ _ _ dX3_unit_134 hI
        · omega
      · omega
    · skip
      refine zg_aload_n X 0 rfl dX3_unit_42 ?_
      refine fg_X3_26 X hI ha0 dX3_unit_43 (fun v15 ev15 _ => ?_)
      have mv15 : v15.toInt = v4.toInt := by rw [ev15, ← ev4]
      refine zg_bipush X 22 dX3_unit_46 (by decide) (fun v16 _ hv16 => ?_)
      have zv15_z17 := zb_rng v15
      refine zg_icmp_ge X 77 dX3_unit_48 (by decide) (fun c18 => ?_) (fun c18 => ?_)
      · skip
        refine zg_aload_n X 0 rfl dX3_unit_77 ?_
        refine fg_X3_26 X hI ha0 dX3_unit_78 (fun v19 ev19 _ => ?_)
        have mv19 : v19.toInt = v15.toInt := by rw [ev19, ← ev15]
        refine zg_bipush X 31 dX3_unit_81 (by decide) (fun v20 _ hv20 => ?_)
        refine zg_icmp_ne X 116 dX3_unit_83 (by decide) (fun c21 => ?_) (fun c21 => ?_)
        · skip
          refine zg_aload_n X 0 rfl dX3_unit_116 ?_
          refine zg_aload_n X 0 rfl dX3_unit_117 ?_
          refine fg_X3_26 X hI ha0 dX3_unit_118 (fun v22 ev22 _ => ?_)
          have mv22 : v22.toInt = v19.toInt := by rw [ev22, ← ev19]
          refine zg_bipush X 31 dX3_unit_121 (by decide) (fun v23 _ hv23 => ?_)
          refine zg_icmp_ne X 130 dX3_unit_123 (by decide) (fun c24 => ?_) (fun c24 => ?_)
          · skip
            refine zg_iconst X 1 dX3_unit_130 (by decide) (fun v25 _ hv25 => ?_)
            refine zg_cVv (As := [.int v25]) (st := []) X ha0 rfl (by decide) rfl (t_X3_fail l d L kd κ 2 _ hI a0 ha0 v25 ) mk_X3_106 mc_X3_fail mz_X3 mi_X3_fail ml_X3_fail (na := 1) ⟨md_X3.1, md_X3.2, by decide +kernel⟩ rfl ⟨by decide, by decide⟩ (Nat.le_of_ble_eq_true rfl) dX3_unit_131 (fun σ hI => ?_)
            exact ret _ _ _ dX3_unit_134 hI
          · skip
            refine zg_iconst X 2 dX3_unit_126 (by decide) (fun v26 _ hv26 => ?_)
            refine zg_goto X 131 dX3_unit_127 (by decide) ?_
            refine zg_cVv (As := [.int v26]) (st := []) X ha0 rfl (by decide) rfl (t_X3_fail l d L kd κ 2 _ hI a0 ha0 v26 ) mk_X3_106 mc_X3_fail mz_X3 mi_X3_fail ml_X3_fail (na := 1) ⟨md_X3.1, md_X3.2, by decide +kernel⟩ rfl ⟨by decide, by decide⟩ (Nat.le_of_ble_eq_true rfl) dX3_unit_131 (fun σ hI => ?_)
            exact ret _ _ _ dX3_unit_134 hI
        · skip
          refine zg_iload_n X 1 rfl dX3_unit_86 ?_
          refine zg_bipush X 6 dX3_unit_87 (by decide) (fun v27 _ hv27 => ?_)
          refine zg_icmp_ge X 116 dX3_unit_89 (by decide) (fun c28 => ?_) (fun c28 => ?_)
          · omega
          · skip
            refine zg_aload_n X 0 rfl dX3_unit_92 ?_
            refine zg_aload_n X 0 rfl dX3_unit_93 ?_
            refine fg_X3_26 X hI ha0 dX3_unit_94 (fun v29 ev29 _ => ?_)
            have mv29 : v29.toInt = v19.toInt := by rw [ev29, ← ev19]
            refine zg_cVv (As := [.int v29]) (st := []) X ha0 rfl (by decide) rfl (t_X3_take l d L kd κ 2 _ hI a0 ha0 v29 ) mk_X3_87 mc_X3_take mz_X3 mi_X3_take ml_X3_take (na := 1) ⟨md_X3.1, md_X3.2, by decide +kernel⟩ rfl ⟨by decide, by decide⟩ (Nat.le_of_ble_eq_true rfl) dX3_unit_97 (fun σ hI => ?_)
            refine zg_aload_n X 0 rfl dX3_unit_100 ?_
            refine zg_iload_n X 1 rfl dX3_unit_101 ?_
            refine zg_iconst X 1 dX3_unit_102 (by decide) (fun v30 _ hv30 => ?_)
            refine zg_iadd X dX3_unit_103 (by omega) (by omega) (fun v31 _ hv31 => ?_)
            refine zg_cVv (As := [.int v31]) (st := []) X ha0 rfl (by decide) rfl (t_X3_sum_o5 l d L kd κ _ hI a0 ha0 v31 (by omega)) mk_X3_140 mc_X3_sum mz_X3 mi_X3_sum ml_X3_sum (na := 1) ⟨md_X3.1, md_X3.2, by decide +kernel⟩ rfl ⟨by decide, by decide⟩ (Nat.le_of_ble_eq_true rfl) dX3_unit_104 (fun σ hI => ?_)
            refine zg_aload_n X 0 rfl dX3_unit_107 ?_
            refine zg_bipush X 32 dX3_unit_108 (by decide) (fun v32 _ hv32 => ?_)
            refine zg_cVv (As := [.int v32]) (st := []) X ha0 rfl (by decide) rfl (t_X3_take l d L kd κ 2 _ hI a0 ha0 v32 ) mk_X3_87 mc_X3_take mz_X3 mi_X3_take ml_X3_take (na := 1) ⟨md_X3.1, md_X3.2, by decide +kernel⟩ rfl ⟨by decide, by decide⟩ (Nat.le_of_ble_eq_true rfl) dX3_unit_110 (fun σ hI => ?_)
            refine zg_goto X 134 dX3_unit_113 (by decide) ?_
            exact ret _ _ _ dX3_unit_134 hI
      · skip
        refine zg_aload_n X 0 rfl dX3_unit_51 ?_
        refine fg_X3_18 X hI ha0 dX3_unit_52 (fun v33 _ hv33 => ?_)
        refine zg_iconst X 1 dX3_unit_55 (by decide) (fun v34 _ hv34 => ?_)
        refine zg_aload_n X 0 rfl dX3_unit_56 ?_
        refine fg_X3_26 X hI ha0 dX3_unit_57 (fun v35 ev35 _ => ?_)
        have mv35 : v35.toInt = v15.toInt := by rw [ev35, ← ev15]
        refine zg_bipush X 13 dX3_unit_60 (by decide) (fun v36 _ hv36 => ?_)
        refine zg_isub X dX3_unit_62 (by omega) (by omega) (fun v37 _ hv37 => ?_)
        refine zg_cVv (As := [.int v34, .int v37]) (st := []) X hv33 rfl (by decide) rfl (t_X9_addStep l d L kd κ 2 _ hI v33 hv33 v34 v37 ) mk_X3_145 mc_X9_addStep mz_X9 mi_X9_addStep ml_X9_addStep (na := 2) ⟨md_X9.1, md_X9.2, by decide +kernel⟩ rfl ⟨by decide, by decide⟩ (Nat.le_of_ble_eq_true rfl) dX3_unit_63 (fun σ hI => ?_)
        refine zg_aload_n X 0 rfl dX3_unit_66 ?_
        refine zg_aload_n X 0 rfl dX3_unit_67 ?_
        refine fg_X3_26 X hI ha0 dX3_unit_68 (fun v38 ev38 _ => ?_)
        refine zg_cVv (As := [.int v38]) (st := []) X ha0 rfl (by decide) rfl (t_X3_take l d L kd κ 2 _ hI a0 ha0 v38 ) mk_X3_87 mc_X3_take mz_X3 mi_X3_take ml_X3_take (na := 1) ⟨md_X3.1, md_X3.2, by decide +kernel⟩ rfl ⟨by decide, by decide⟩ (Nat.le_of_ble_eq_true rfl) dX3_unit_71 (fun σ hI => ?_)
        refine zg_goto X 134 dX3_unit_74 (by decide) ?_
        exact ret _ _ _ dX3_unit_134 hI
  · skip
    refine zg_aload_n X 0 rfl dX3_unit_9 ?_
    refine fg_X3_18 X hI ha0 dX3_unit_10 (fun v39 _ hv39 => ?_)
    refine zg_iconst X 0 dX3_unit_13 (by decide) (fun v40 _ hv40 => ?_)
    refine zg_aload_n X 0 rfl dX3_unit_14 ?_
    refine fg_X3_29 X ha0 dX3_unit_15 (fun v41 _ => ?_)
    refine zg_l2i X dX3_unit_18 (fun v42 ev42 => ?_)
    refine zg_cVv (As := [.int v40, .int v42]) (st := []) X hv39 rfl (by decide) rfl (t_X9_addStep l d L kd κ 2 _ hI v39 hv39 v40 v42 ) mk_X3_145 mc_X9_addStep mz_X9 mi_X9_addStep ml_X9_addStep (na := 2) ⟨md_X9.1, md_X9.2, by decide +kernel⟩ rfl ⟨by decide, by decide⟩ (Nat.le_of_ble_eq_true rfl) dX3_unit_19 (fun σ hI => ?_)
    refine zg_aload_n X 0 rfl dX3_unit_22 ?_
    refine zg_aload_n X 0 rfl dX3_unit_23 ?_
    refine fg_X3_26 X hI ha0 dX3_unit_24 (fun v43 ev43 _ => ?_)
    refine zg_cVv (As := [.int v43]) (st := []) X ha0 rfl (by decide) rfl (t_X3_take l d L kd κ 2 _ hI a0 ha0 v43 ) mk_X3_87 mc_X3_take mz_X3 mi_X3_take ml_X3_take (na := 1) ⟨md_X3.1, md_X3.2, by decide +kernel⟩ rfl ⟨by decide, by decide⟩ (Nat.le_of_ble_eq_true rfl) dX3_unit_27 (fun σ hI => ?_)
    refine zg_goto X 134 dX3_unit_30 (by decide) ?_
    exact ret _ _ _ dX3_unit_134 hI
set_option maxHeartbeats 4000000 in
set_option maxRecDepth 100000 in
theorem t_X3_product_o4 (l : Launch) (d : zD2) (L : List Nat) (kd : Nat → Nat) (κ : Int) (σ : zS) (hI : zI κ 2 L kd σ) (a0 : Nat) (ha0 : zT L kd a0 3) (p1 : Int32) (hq0 : p1.toInt = 4) : zMv l yX3_product (Cond.code yX3_product cX3_product 4 none :: zWL) 9 [.ref a0, .int p1] d L kd σ (fun σ2 => zI κ 2 L kd σ2) := by
  refine zMv.of (own := RX3) (by decide +kernel) rfl rfl (Nat.le_of_ble_eq_true rfl) ?_
  intro p e s m args below meth c A Q X ret
  refine zg_lv (lv2 := [(0, .ref a0), (1, .int p1)]) rfl ?_
  refine zg_aload_n X 0 rfl dX3_product_0 ?_
  refine zg_iload_n X 1 rfl dX3_product_1 ?_
  refine zg_cVv (As := [.int p1]) (st := []) X ha0 rfl (by decide) rfl (t_X3_unit_o4 l d L kd κ _ hI a0 ha0 p1 (by omega)) mk_X3_159 mc_X3_unit mz_X3 mi_X3_unit ml_X3_unit (na := 1) ⟨md_X3.1, md_X3.2, by decide +kernel⟩ rfl ⟨by decide, by decide⟩ (Nat.le_of_ble_eq_true rfl) dX3_product_2 (fun σ hI => ?_)
  refine zg_iconst X 0 dX3_product_5 (by decide) (fun v1 _ hv1 => ?_)
  refine zg_istore_n X [(2, .int v1), (0, .ref a0), (1, .int p1)] dX3_product_6 (by decide) rfl ?_
  have Lp3 : ∀ (n : Nat) (σ : zS) (x2 : Int32), zI κ 2 L kd σ → 0 ≤ x2.toInt ∧ x2.toInt ≤ 401 → (401) - x2.toInt + 1 < (n : Int) → zG d L kd A 4 p l e (k2_rm 9 (100 * 9)) s m args below meth c Q σ 7 [(2, .int x2), (0, .ref a0), (1, .int p1)] [] := by
    intro n
    induction n with
    | zero => intro σ x2 hI  hxLp3 hm; exact absurd hm (by omega)
    | succ n ihLp3 =>
      intro σ x2 hI  hxLp3 hmLp3
      refine zg_iload_n X 0 rfl dX3_product_7 ?_
      refine zg_sipush X 400 dX3_product_8 (by decide) (fun v4 _ hv4 => ?_)
      refine zg_icmp_gt X 68 dX3_product_11 (by decide) (fun c5 => ?_) (fun c5 => ?_)
      · skip
        exact ret _ _ _ dX3_product_68 hI
      · skip
        refine zg_aload_n X 1 rfl dX3_product_14 ?_
        refine fg_X3_26 X hI ha0 dX3_product_15 (fun v6 ev6 _ => ?_)
        refine zg_bipush X 28 dX3_product_18 (by decide) (fun v7 _ hv7 => ?_)
        refine zg_bipush X 29 dX3_product_20 (by decide) (fun v8 _ hv8 => ?_)
        refine zg_cSNi (As := [.int v6, .int v7, .int v8]) (st := []) X (t_X10_isWithin l d L kd _ v6 v7 v8 ) mk_X3_80 mc_X10_isWithin mz_X10 ms_X10_isWithin (na := 3) ⟨md_X10.1, md_X10.2, by decide +kernel⟩ rfl ⟨by decide, by decide⟩ (Nat.le_of_ble_eq_true rfl) dX3_product_22 (fun v9 σ2 hq => ?_)
        obtain ⟨hv9, rfl⟩ := hq
        refine zg_if_eq X 68 dX3_product_25 (by decide) (fun c10 => ?_) (fun c10 => ?_)
        · skip
          exact ret _ _ _ dX3_product_68 hI
        · skip
          refine zg_aload_n X 1 rfl dX3_product_28 ?_
          refine fg_X3_26 X hI ha0 dX3_product_29 (fun v11 ev11 _ => ?_)
          have mv11 : v11.toInt = v6.toInt := by rw [ev11, ← ev6]
          refine zg_istore_n X [(3, .int v11), (2, .int x2), (0, .ref a0), (1, .int p1)] dX3_product_32 (by decide) rfl ?_
          refine zg_aload_n X 2 rfl dX3_product_33 ?_
          refine zg_iload_n X 0 rfl dX3_product_34 ?_
          refine zg_cVv (As := [.int v11]) (st := []) X ha0 rfl (by decide) rfl (t_X3_take l d L kd κ 2 _ hI a0 ha0 v11 ) mk_X3_87 mc_X3_take mz_X3 mi_X3_take ml_X3_take (na := 1) ⟨md_X3.1, md_X3.2, by decide +kernel⟩ rfl ⟨by decide, by decide⟩ (Nat.le_of_ble_eq_true rfl) dX3_product_35 (fun σ hI => ?_)
          refine zg_aload_n X 2 rfl dX3_product_38 ?_
          refine zg_iload_n X 3 rfl dX3_product_39 ?_
          refine zg_cVv (As := [.int p1]) (st := []) X ha0 rfl (by decide) rfl (t_X3_unit_o4 l d L kd κ _ hI a0 ha0 p1 (by omega)) mk_X3_159 mc_X3_unit mz_X3 mi_X3_unit ml_X3_unit (na := 1) ⟨md_X3.1, md_X3.2, by decide +kernel⟩ rfl ⟨by decide, by decide⟩ (Nat.le_of_ble_eq_true rfl) dX3_product_40 (fun σ hI => ?_)
          refine zg_aload_n X 2 rfl dX3_product_43 ?_
          refine fg_X3_18 X hI ha0 dX3_product_44 (fun v12 _ hv12 => ?_)
          refine zg_iload_n X 0 rfl dX3_product_47 ?_
          refine zg_bipush X 28 dX3_product_48 (by decide) (fun v13 _ hv13 => ?_)
          refine zg_icmp_ne X 57 dX3_product_50 (by decide) (fun c14 => ?_) (fun c14 => ?_)
          · skip
            refine zg_iconst X 5 dX3_product_57 (by decide) (fun v15 _ hv15 => ?_)
            refine zg_iconst X 0 dX3_product_58 (by decide) (fun v16 _ hv16 => ?_)
            refine zg_cVv (As := [.int v15, .int v16]) (st := []) X hv12 rfl (by decide) rfl (t_X9_addStep l d L kd κ 2 _ hI v12 hv12 v15 v16 ) mk_X3_145 mc_X9_addStep mz_X9 mi_X9_addStep ml_X9_addStep (na := 2) ⟨md_X9.1, md_X9.2, by decide +kernel⟩ rfl ⟨by decide, by decide⟩ (Nat.le_of_ble_eq_true rfl) dX3_product_59 (fun σ hI => ?_)
            refine zg_iinc X 1 (fun v17 => [(2, .int v17), (3, .int v11), (0, .ref a0), (1, .int p1)]) 1 dX3_product_62 rfl (by decide) (by decide) (by omega) (by omega) (fun _ => rfl) (fun v17 _ hv17 => ?_)
            refine zg_goto X 7 dX3_product_65 (by decide) ?_
            refine zg_sub [0, 2, 3] rfl ?_
            exact ihLp3 _ v17 hI  (by omega) (by omega)
          · skip
            refine zg_iconst X 4 dX3_product_53 (by decide) (fun v18 _ hv18 => ?_)
            refine zg_goto X 58 dX3_product_54 (by decide) ?_
            refine zg_iconst X 0 dX3_product_58 (by decide) (fun v19 _ hv19 => ?_)
            refine zg_cVv (As := [.int v18, .int v19]) (st := []) X hv12 rfl (by decide) rfl (t_X9_addStep l d L kd κ 2 _ hI v12 hv12 v18 v19 ) mk_X3_145 mc_X9_addStep mz_X9 mi_X9_addStep ml_X9_addStep (na := 2) ⟨md_X9.1, md_X9.2, by decide +kernel⟩ rfl ⟨by decide, by decide⟩ (Nat.le_of_ble_eq_true rfl) dX3_product_59 (fun σ hI => ?_)
            refine zg_iinc X 1 (fun v20 => [(2, .int v20), (3, .int v11), (0, .ref a0), (1, .int p1)]) 1 dX3_product_62 rfl (by decide) (by decide) (by omega) (by omega) (fun _ => rfl) (fun v20 _ hv20 => ?_)
            refine zg_goto X 7 dX3_product_65 (by decide) ?_
            refine zg_sub [0, 2, 3] rfl ?_
            exact ihLp3 _ v20 hI  (by omega) (by omega)
  refine zg_sub [0, 1, 2] rfl ?_
  exact Lp3 (((401) - v1.toInt + 1).toNat + 1) _ v1 hI  (by omega) (by omega)
set_option maxHeartbeats 4000000 in
set_option maxRecDepth 100000 in
theorem t_X3_sum_o4 (l : Launch) (d : zD2) (L : List Nat) (kd : Nat → Nat) (κ : Int) (σ : zS) (hI : zI κ 2 L kd σ) (a0 : Nat) (ha0 : zT L kd a0 3) (p1 : Int32) (hq0 : p1.toInt = 4) : zMv l yX3_sum (Cond.code yX3_sum cX3_sum 4 none :: zWL) 10 [.ref a0, .int p1] d L kd σ (fun σ2 => zI κ 2 L kd σ2) := by
  refine zMv.of (own := RX3) (by decide +kernel) rfl rfl (Nat.le_of_ble_eq_true rfl) ?_
  intro p e s m args below meth c A Q X ret
  refine zg_lv (lv2 := [(0, .ref a0), (1, .int p1)]) rfl ?_
  refine zg_aload_n X 0 rfl dX3_sum_0 ?_
  refine zg_iload_n X 1 rfl dX3_sum_1 ?_
  refine zg_cVv (As := [.int p1]) (st := []) X ha0 rfl (by decide) rfl (t_X3_product_o4 l d L kd κ _ hI a0 ha0 p1 (by omega)) mk_X3_156 mc_X3_product mz_X3 mi_X3_product ml_X3_product (na := 1) ⟨md_X3.1, md_X3.2, by decide +kernel⟩ rfl ⟨by decide, by decide⟩ (Nat.le_of_ble_eq_true rfl) dX3_sum_2 (fun σ hI => ?_)
  refine zg_iconst X 0 dX3_sum_5 (by decide) (fun v1 _ hv1 => ?_)
  refine zg_istore_n X [(2, .int v1), (0, .ref a0), (1, .int p1)] dX3_sum_6 (by decide) rfl ?_
  have Lp3 : ∀ (n : Nat) (σ : zS) (x2 : Int32), zI κ 2 L kd σ → 0 ≤ x2.toInt ∧ x2.toInt ≤ 401 → (401) - x2.toInt + 1 < (n : Int) → zG d L kd A 4 p l e (k2_rm 10 (100 * 10)) s m args below meth c Q σ 7 [(2, .int x2), (0, .ref a0), (1, .int p1)] [] := by
    intro n
    induction n with
    | zero => intro σ x2 hI  hxLp3 hm; exact absurd hm (by omega)
    | succ n ihLp3 =>
      intro σ x2 hI  hxLp3 hmLp3
      refine zg_iload_n X 0 rfl dX3_sum_7 ?_
      refine zg_sipush X 400 dX3_sum_8 (by decide) (fun v4 _ hv4 => ?_)
      refine zg_icmp_gt X 68 dX3_sum_11 (by decide) (fun c5 => ?_) (fun c5 => ?_)
      · skip
        exact ret _ _ _ dX3_sum_68 hI
      · skip
        refine zg_aload_n X 1 rfl dX3_sum_14 ?_
        refine fg_X3_26 X hI ha0 dX3_sum_15 (fun v6 ev6 _ => ?_)
        refine zg_bipush X 26 dX3_sum_18 (by decide) (fun v7 _ hv7 => ?_)
        refine zg_bipush X 27 dX3_sum_20 (by decide) (fun v8 _ hv8 => ?_)
        refine zg_cSNi (As := [.int v6, .int v7, .int v8]) (st := []) X (t_X10_isWithin l d L kd _ v6 v7 v8 ) mk_X3_80 mc_X10_isWithin mz_X10 ms_X10_isWithin (na := 3) ⟨md_X10.1, md_X10.2, by decide +kernel⟩ rfl ⟨by decide, by decide⟩ (Nat.le_of_ble_eq_true rfl) dX3_sum_22 (fun v9 σ2 hq => ?_)
        obtain ⟨hv9, rfl⟩ := hq
        refine zg_if_eq X 68 dX3_sum_25 (by decide) (fun c10 => ?_) (fun c10 => ?_)
        · skip
          exact ret _ _ _ dX3_sum_68 hI
        · skip
          refine zg_aload_n X 1 rfl dX3_sum_28 ?_
          refine fg_X3_26 X hI ha0 dX3_sum_29 (fun v11 ev11 _ => ?_)
          have mv11 : v11.toInt = v6.toInt := by rw [ev11, ← ev6]
          refine zg_istore_n X [(3, .int v11), (2, .int x2), (0, .ref a0), (1, .int p1)] dX3_sum_32 (by decide) rfl ?_
          refine zg_aload_n X 2 rfl dX3_sum_33 ?_
          refine zg_iload_n X 0 rfl dX3_sum_34 ?_
          refine zg_cVv (As := [.int v11]) (st := []) X ha0 rfl (by decide) rfl (t_X3_take l d L kd κ 2 _ hI a0 ha0 v11 ) mk_X3_87 mc_X3_take mz_X3 mi_X3_take ml_X3_take (na := 1) ⟨md_X3.1, md_X3.2, by decide +kernel⟩ rfl ⟨by decide, by decide⟩ (Nat.le_of_ble_eq_true rfl) dX3_sum_35 (fun σ hI => ?_)
          refine zg_aload_n X 2 rfl dX3_sum_38 ?_
          refine zg_iload_n X 3 rfl dX3_sum_39 ?_
          refine zg_cVv (As := [.int p1]) (st := []) X ha0 rfl (by decide) rfl (t_X3_product_o4 l d L kd κ _ hI a0 ha0 p1 (by omega)) mk_X3_156 mc_X3_product mz_X3 mi_X3_product ml_X3_product (na := 1) ⟨md_X3.1, md_X3.2, by decide +kernel⟩ rfl ⟨by decide, by decide⟩ (Nat.le_of_ble_eq_true rfl) dX3_sum_40 (fun σ hI => ?_)
          refine zg_aload_n X 2 rfl dX3_sum_43 ?_
          refine fg_X3_18 X hI ha0 dX3_sum_44 (fun v12 _ hv12 => ?_)
          refine zg_iload_n X 0 rfl dX3_sum_47 ?_
          refine zg_bipush X 26 dX3_sum_48 (by decide) (fun v13 _ hv13 => ?_)
          refine zg_icmp_ne X 57 dX3_sum_50 (by decide) (fun c14 => ?_) (fun c14 => ?_)
          · skip
            refine zg_iconst X 3 dX3_sum_57 (by decide) (fun v15 _ hv15 => ?_)
            refine zg_iconst X 0 dX3_sum_58 (by decide) (fun v16 _ hv16 => ?_)
            refine zg_cVv (As := [.int v15, .int v16]) (st := []) X hv12 rfl (by decide) rfl (t_X9_addStep l d L kd κ 2 _ hI v12 hv12 v15 v16 ) mk_X3_145 mc_X9_addStep mz_X9 mi_X9_addStep ml_X9_addStep (na := 2) ⟨md_X9.1, md_X9.2, by decide +kernel⟩ rfl ⟨by decide, by decide⟩ (Nat.le_of_ble_eq_true rfl) dX3_sum_59 (fun σ hI => ?_)
            refine zg_iinc X 1 (fun v17 => [(2, .int v17), (3, .int v11), (0, .ref a0), (1, .int p1)]) 1 dX3_sum_62 rfl (by decide) (by decide) (by omega) (by omega) (fun _ => rfl) (fun v17 _ hv17 => ?_)
            refine zg_goto X 7 dX3_sum_65 (by decide) ?_
            refine zg_sub [0, 2, 3] rfl ?_
            exact ihLp3 _ v17 hI  (by omega) (by omega)
          · skip
            refine zg_iconst X 2 dX3_sum_53 (by decide) (fun v18 _ hv18 => ?_)
            refine zg_goto X 58 dX3_sum_54 (by decide) ?_
            refine zg_iconst X 0 dX3_sum_58 (by decide) (fun v19 _ hv19 => ?_)
            refine zg_cVv (As := [.int v18, .int v19]) (st := []) X hv12 rfl (by decide) rfl (t_X9_addStep l d L kd κ 2 _ hI v12 hv12 v18 v19 ) mk_X3_145 mc_X9_addStep mz_X9 mi_X9_addStep ml_X9_addStep (na := 2) ⟨md_X9.1, md_X9.2, by decide +kernel⟩ rfl ⟨by decide, by decide⟩ (Nat.le_of_ble_eq_true rfl) dX3_sum_59 (fun σ hI => ?_)
            refine zg_iinc X 1 (fun v20 => [(2, .int v20), (3, .int v11), (0, .ref a0), (1, .int p1)]) 1 dX3_sum_62 rfl (by decide) (by decide) (by omega) (by omega) (fun _ => rfl) (fun v20 _ hv20 => ?_)
            refine zg_goto X 7 dX3_sum_65 (by decide) ?_
            refine zg_sub [0, 2, 3] rfl ?_
            exact ihLp3 _ v20 hI  (by omega) (by omega)
  refine zg_sub [0, 1, 2] rfl ?_
  exact Lp3 (((401) - v1.toInt + 1).toNat + 1) _ v1 hI  (by omega) (by omega)
set_option maxHeartbeats 4000000 in
set_option maxRecDepth 100000 in
theorem t_X3_unit_o3 (l : Launch) (d : zD2) (L : List Nat) (kd : Nat → Nat) (κ : Int) (σ : zS) (hI : zI κ 2 L kd σ) (a0 : Nat) (ha0 : zT L kd a0 3) (p1 : Int32) (hq0 : p1.toInt = 3) : zMv l yX3_unit (Cond.code yX3_unit cX3_unit 2 none :: zWL) 11 [.ref a0, .int p1] d L kd σ (fun σ2 => zI κ 2 L kd σ2) := by
  refine zMv.of (own := RX3) (by decide +kernel) rfl rfl (Nat.le_of_ble_eq_true rfl) ?_
  intro p e s m args below meth c A Q X ret
  refine zg_lv (lv2 := [(0, .ref a0), (1, .int p1)]) rfl ?_
  refine zg_aload_n X 0 rfl dX3_unit_0 ?_
  refine fg_X3_26 X hI ha0 dX3_unit_1 (fun v1 ev1 _ => ?_)
  refine zg_bipush X 23 dX3_unit_4 (by decide) (fun v2 _ hv2 => ?_)
  refine zg_icmp_ne X 33 dX3_unit_6 (by decide) (fun c3 => ?_) (fun c3 => ?_)
  · skip
    refine zg_aload_n X 0 rfl dX3_unit_33 ?_
    refine fg_X3_26 X hI ha0 dX3_unit_34 (fun v4 ev4 _ => ?_)
    have mv4 : v4.toInt = v1.toInt := by rw [ev4, ← ev1]
    refine zg_bipush X 13 dX3_unit_37 (by decide) (fun v5 _ hv5 => ?_)
    have zv4_z6 := zb_rng v4
    refine zg_icmp_lt X 77 dX3_unit_39 (by decide) (fun c7 => ?_) (fun c7 => ?_)
    · skip
      refine zg_aload_n X 0 rfl dX3_unit_77 ?_
      refine fg_X3_26 X hI ha0 dX3_unit_78 (fun v8 ev8 _ => ?_)
      have mv8 : v8.toInt = v4.toInt := by rw [ev8, ← ev4]
      refine zg_bipush X 31 dX3_unit_81 (by decide) (fun v9 _ hv9 => ?_)
      refine zg_icmp_ne X 116 dX3_unit_83 (by decide) (fun c10 => ?_) (fun c10 => ?_)
      · skip
        refine zg_aload_n X 0 rfl dX3_unit_116 ?_
        refine zg_aload_n X 0 rfl dX3_unit_117 ?_
        refine fg_X3_26 X hI ha0 dX3_unit_118 (fun v11 ev11 _ => ?_)
        have mv11 : v11.toInt = v8.toInt := by rw [ev11, ← ev8]
        refine zg_bipush X 31 dX3_unit_121 (by decide) (fun v12 _ hv12 => ?_)
        refine zg_icmp_ne X 130 dX3_unit_123 (by decide) (fun c13 => ?_) (fun c13 => ?_)
        · skip
          refine zg_iconst X 1 dX3_unit_130 (by decide) (fun v14 _ hv14 => ?_)
          refine zg_cVv (As := [.int v14]) (st := []) X ha0 rfl (by decide) rfl (t_X3_fail l d L kd κ 2 _ hI a0 ha0 v14 ) mk_X3_106 mc_X3_fail mz_X3 mi_X3_fail ml_X3_fail (na := 1) ⟨md_X3.1, md_X3.2, by decide +kernel⟩ rfl ⟨by decide, by decide⟩ (Nat.le_of_ble_eq_true rfl) dX3_unit_131 (fun σ hI => ?_)
          exact ret _ _ _ dX3_unit_134 hI
        · omega
      · omega
    · skip
      refine zg_aload_n X 0 rfl dX3_unit_42 ?_
      refine fg_X3_26 X hI ha0 dX3_unit_43 (fun v15 ev15 _ => ?_)
      have mv15 : v15.toInt = v4.toInt := by rw [ev15, ← ev4]
      refine zg_bipush X 22 dX3_unit_46 (by decide) (fun v16 _ hv16 => ?_)
      have zv15_z17 := zb_rng v15
      refine zg_icmp_ge X 77 dX3_unit_48 (by decide) (fun c18 => ?_) (fun c18 => ?_)
      · skip
        refine zg_aload_n X 0 rfl dX3_unit_77 ?_
        refine fg_X3_26 X hI ha0 dX3_unit_78 (fun v19 ev19 _ => ?_)
        have mv19 : v19.toInt = v15.toInt := by rw [ev19, ← ev15]
        refine zg_bipush X 31 dX3_unit_81 (by decide) (fun v20 _ hv20 => ?_)
        refine zg_icmp_ne X 116 dX3_unit_83 (by decide) (fun c21 => ?_) (fun c21 => ?_)
        · skip
          refine zg_aload_n X 0 rfl dX3_unit_116 ?_
          refine zg_aload_n X 0 rfl dX3_unit_117 ?_
          refine fg_X3_26 X hI ha0 dX3_unit_118 (fun v22 ev22 _ => ?_)
          have mv22 : v22.toInt = v19.toInt := by rw [ev22, ← ev19]
          refine zg_bipush X 31 dX3_unit_121 (by decide) (fun v23 _ hv23 => ?_)
          refine zg_icmp_ne X 130 dX3_unit_123 (by decide) (fun c24 => ?_) (fun c24 => ?_)
          · skip
            refine zg_iconst X 1 dX3_unit_130 (by decide) (fun v25 _ hv25 => ?_)
            refine zg_cVv (As := [.int v25]) (st := []) X ha0 rfl (by decide) rfl (t_X3_fail l d L kd κ 2 _ hI a0 ha0 v25 ) mk_X3_106 mc_X3_fail mz_X3 mi_X3_fail ml_X3_fail (na := 1) ⟨md_X3.1, md_X3.2, by decide +kernel⟩ rfl ⟨by decide, by decide⟩ (Nat.le_of_ble_eq_true rfl) dX3_unit_131 (fun σ hI => ?_)
            exact ret _ _ _ dX3_unit_134 hI
          · skip
            refine zg_iconst X 2 dX3_unit_126 (by decide) (fun v26 _ hv26 => ?_)
            refine zg_goto X 131 dX3_unit_127 (by decide) ?_
            refine zg_cVv (As := [.int v26]) (st := []) X ha0 rfl (by decide) rfl (t_X3_fail l d L kd κ 2 _ hI a0 ha0 v26 ) mk_X3_106 mc_X3_fail mz_X3 mi_X3_fail ml_X3_fail (na := 1) ⟨md_X3.1, md_X3.2, by decide +kernel⟩ rfl ⟨by decide, by decide⟩ (Nat.le_of_ble_eq_true rfl) dX3_unit_131 (fun σ hI => ?_)
            exact ret _ _ _ dX3_unit_134 hI
        · skip
          refine zg_iload_n X 1 rfl dX3_unit_86 ?_
          refine zg_bipush X 6 dX3_unit_87 (by decide) (fun v27 _ hv27 => ?_)
          refine zg_icmp_ge X 116 dX3_unit_89 (by decide) (fun c28 => ?_) (fun c28 => ?_)
          · omega
          · skip
            refine zg_aload_n X 0 rfl dX3_unit_92 ?_
            refine zg_aload_n X 0 rfl dX3_unit_93 ?_
            refine fg_X3_26 X hI ha0 dX3_unit_94 (fun v29 ev29 _ => ?_)
            have mv29 : v29.toInt = v19.toInt := by rw [ev29, ← ev19]
            refine zg_cVv (As := [.int v29]) (st := []) X ha0 rfl (by decide) rfl (t_X3_take l d L kd κ 2 _ hI a0 ha0 v29 ) mk_X3_87 mc_X3_take mz_X3 mi_X3_take ml_X3_take (na := 1) ⟨md_X3.1, md_X3.2, by decide +kernel⟩ rfl ⟨by decide, by decide⟩ (Nat.le_of_ble_eq_true rfl) dX3_unit_97 (fun σ hI => ?_)
            refine zg_aload_n X 0 rfl dX3_unit_100 ?_
            refine zg_iload_n X 1 rfl dX3_unit_101 ?_
            refine zg_iconst X 1 dX3_unit_102 (by decide) (fun v30 _ hv30 => ?_)
            refine zg_iadd X dX3_unit_103 (by omega) (by omega) (fun v31 _ hv31 => ?_)
            refine zg_cVv (As := [.int v31]) (st := []) X ha0 rfl (by decide) rfl (t_X3_sum_o4 l d L kd κ _ hI a0 ha0 v31 (by omega)) mk_X3_140 mc_X3_sum mz_X3 mi_X3_sum ml_X3_sum (na := 1) ⟨md_X3.1, md_X3.2, by decide +kernel⟩ rfl ⟨by decide, by decide⟩ (Nat.le_of_ble_eq_true rfl) dX3_unit_104 (fun σ hI => ?_)
            refine zg_aload_n X 0 rfl dX3_unit_107 ?_
            refine zg_bipush X 32 dX3_unit_108 (by decide) (fun v32 _ hv32 => ?_)
            refine zg_cVv (As := [.int v32]) (st := []) X ha0 rfl (by decide) rfl (t_X3_take l d L kd κ 2 _ hI a0 ha0 v32 ) mk_X3_87 mc_X3_take mz_X3 mi_X3_take ml_X3_take (na := 1) ⟨md_X3.1, md_X3.2, by decide +kernel⟩ rfl ⟨by decide, by decide⟩ (Nat.le_of_ble_eq_true rfl) dX3_unit_110 (fun σ hI => ?_)
            refine zg_goto X 134 dX3_unit_113 (by decide) ?_
            exact ret _ _ _ dX3_unit_134 hI
      · skip
        refine zg_aload_n X 0 rfl dX3_unit_51 ?_
        refine fg_X3_18 X hI ha0 dX3_unit_52 (fun v33 _ hv33 => ?_)
        refine zg_iconst X 1 dX3_unit_55 (by decide) (fun v34 _ hv34 => ?_)
        refine zg_aload_n X 0 rfl dX3_unit_56 ?_
        refine fg_X3_26 X hI ha0 dX3_unit_57 (fun v35 ev35 _ => ?_)
        have mv35 : v35.toInt = v15.toInt := by rw [ev35, ← ev15]
        refine zg_bipush X 13 dX3_unit_60 (by decide) (fun v36 _ hv36 => ?_)
        refine zg_isub X dX3_unit_62 (by omega) (by omega) (fun v37 _ hv37 => ?_)
        refine zg_cVv (As := [.int v34, .int v37]) (st := []) X hv33 rfl (by decide) rfl (t_X9_addStep l d L kd κ 2 _ hI v33 hv33 v34 v37 ) mk_X3_145 mc_X9_addStep mz_X9 mi_X9_addStep ml_X9_addStep (na := 2) ⟨md_X9.1, md_X9.2, by decide +kernel⟩ rfl ⟨by decide, by decide⟩ (Nat.le_of_ble_eq_true rfl) dX3_unit_63 (fun σ hI => ?_)
        refine zg_aload_n X 0 rfl dX3_unit_66 ?_
        refine zg_aload_n X 0 rfl dX3_unit_67 ?_
        refine fg_X3_26 X hI ha0 dX3_unit_68 (fun v38 ev38 _ => ?_)
        refine zg_cVv (As := [.int v38]) (st := []) X ha0 rfl (by decide) rfl (t_X3_take l d L kd κ 2 _ hI a0 ha0 v38 ) mk_X3_87 mc_X3_take mz_X3 mi_X3_take ml_X3_take (na := 1) ⟨md_X3.1, md_X3.2, by decide +kernel⟩ rfl ⟨by decide, by decide⟩ (Nat.le_of_ble_eq_true rfl) dX3_unit_71 (fun σ hI => ?_)
        refine zg_goto X 134 dX3_unit_74 (by decide) ?_
        exact ret _ _ _ dX3_unit_134 hI
  · skip
    refine zg_aload_n X 0 rfl dX3_unit_9 ?_
    refine fg_X3_18 X hI ha0 dX3_unit_10 (fun v39 _ hv39 => ?_)
    refine zg_iconst X 0 dX3_unit_13 (by decide) (fun v40 _ hv40 => ?_)
    refine zg_aload_n X 0 rfl dX3_unit_14 ?_
    refine fg_X3_29 X ha0 dX3_unit_15 (fun v41 _ => ?_)
    refine zg_l2i X dX3_unit_18 (fun v42 ev42 => ?_)
    refine zg_cVv (As := [.int v40, .int v42]) (st := []) X hv39 rfl (by decide) rfl (t_X9_addStep l d L kd κ 2 _ hI v39 hv39 v40 v42 ) mk_X3_145 mc_X9_addStep mz_X9 mi_X9_addStep ml_X9_addStep (na := 2) ⟨md_X9.1, md_X9.2, by decide +kernel⟩ rfl ⟨by decide, by decide⟩ (Nat.le_of_ble_eq_true rfl) dX3_unit_19 (fun σ hI => ?_)
    refine zg_aload_n X 0 rfl dX3_unit_22 ?_
    refine zg_aload_n X 0 rfl dX3_unit_23 ?_
    refine fg_X3_26 X hI ha0 dX3_unit_24 (fun v43 ev43 _ => ?_)
    refine zg_cVv (As := [.int v43]) (st := []) X ha0 rfl (by decide) rfl (t_X3_take l d L kd κ 2 _ hI a0 ha0 v43 ) mk_X3_87 mc_X3_take mz_X3 mi_X3_take ml_X3_take (na := 1) ⟨md_X3.1, md_X3.2, by decide +kernel⟩ rfl ⟨by decide, by decide⟩ (Nat.le_of_ble_eq_true rfl) dX3_unit_27 (fun σ hI => ?_)
    refine zg_goto X 134 dX3_unit_30 (by decide) ?_
    exact ret _ _ _ dX3_unit_134 hI
set_option maxHeartbeats 4000000 in
set_option maxRecDepth 100000 in
theorem t_X3_product_o3 (l : Launch) (d : zD2) (L : List Nat) (kd : Nat → Nat) (κ : Int) (σ : zS) (hI : zI κ 2 L kd σ) (a0 : Nat) (ha0 : zT L kd a0 3) (p1 : Int32) (hq0 : p1.toInt = 3) : zMv l yX3_product (Cond.code yX3_product cX3_product 4 none :: zWL) 12 [.ref a0, .int p1] d L kd σ (fun σ2 => zI κ 2 L kd σ2) := by
  refine zMv.of (own := RX3) (by decide +kernel) rfl rfl (Nat.le_of_ble_eq_true rfl) ?_
  intro p e s m args below meth c A Q X ret
  refine zg_lv (lv2 := [(0, .ref a0), (1, .int p1)]) rfl ?_
  refine zg_aload_n X 0 rfl dX3_product_0 ?_
  refine zg_iload_n X 1 rfl dX3_product_1 ?_
  refine zg_cVv (As := [.int p1]) (st := []) X ha0 rfl (by decide) rfl (t_X3_unit_o3 l d L kd κ _ hI a0 ha0 p1 (by omega)) mk_X3_159 mc_X3_unit mz_X3 mi_X3_unit ml_X3_unit (na := 1) ⟨md_X3.1, md_X3.2, by decide +kernel⟩ rfl ⟨by decide, by decide⟩ (Nat.le_of_ble_eq_true rfl) dX3_product_2 (fun σ hI => ?_)
  refine zg_iconst X 0 dX3_product_5 (by decide) (fun v1 _ hv1 => ?_)
  refine zg_istore_n X [(2, .int v1), (0, .ref a0), (1, .int p1)] dX3_product_6 (by decide) rfl ?_
  have Lp3 : ∀ (n : Nat) (σ : zS) (x2 : Int32), zI κ 2 L kd σ → 0 ≤ x2.toInt ∧ x2.toInt ≤ 401 → (401) - x2.toInt + 1 < (n : Int) → zG d L kd A 4 p l e (k2_rm 12 (100 * 12)) s m args below meth c Q σ 7 [(2, .int x2), (0, .ref a0), (1, .int p1)] [] := by
    intro n
    induction n with
    | zero => intro σ x2 hI  hxLp3 hm; exact absurd hm (by omega)
    | succ n ihLp3 =>
      intro σ x2 hI  hxLp3 hmLp3
      refine zg_iload_n X 0 rfl dX3_product_7 ?_
      refine zg_sipush X 400 dX3_product_8 (by decide) (fun v4 _ hv4 => ?_)
      refine zg_icmp_gt X 68 dX3_product_11 (by decide) (fun c5 => ?_) (fun c5 => ?_)
      · skip
        exact ret _ _ _ dX3_product_68 hI
      · skip
        refine zg_aload_n X 1 rfl dX3_product_14 ?_
        refine fg_X3_26 X hI ha0 dX3_product_15 (fun v6 ev6 _ => ?_)
        refine zg_bipush X 28 dX3_product_18 (by decide) (fun v7 _ hv7 => ?_)
        refine zg_bipush X 29 dX3_product_20 (by decide) (fun v8 _ hv8 => ?_)
        refine zg_cSNi (As := [.int v6, .int v7, .int v8]) (st := []) X (t_X10_isWithin l d L kd _ v6 v7 v8 ) mk_X3_80 mc_X10_isWithin mz_X10 ms_X10_isWithin (na := 3) ⟨md_X10.1, md_X10.2, by decide +kernel⟩ rfl ⟨by decide, by decide⟩ (Nat.le_of_ble_eq_true rfl) dX3_product_22 (fun v9 σ2 hq => ?_)
        obtain ⟨hv9, rfl⟩ := hq
        refine zg_if_eq X 68 dX3_product_25 (by decide) (fun c10 => ?_) (fun c10 => ?_)
        · skip
          exact ret _ _ _ dX3_product_68 hI
        · skip
          refine zg_aload_n X 1 rfl dX3_product_28 ?_
          refine fg_X3_26 X hI ha0 dX3_product_29 (fun v11 ev11 _ => ?_)
          have mv11 : v11.toInt = v6.toInt := by rw [ev11, ← ev6]
          refine zg_istore_n X [(3, .int v11), (2, .int x2), (0, .ref a0), (1, .int p1)] dX3_product_32 (by decide) rfl ?_
          refine zg_aload_n X 2 rfl dX3_product_33 ?_
          refine zg_iload_n X 0 rfl dX3_product_34 ?_
          refine zg_cVv (As := [.int v11]) (st := []) X ha0 rfl (by decide) rfl (t_X3_take l d L kd κ 2 _ hI a0 ha0 v11 ) mk_X3_87 mc_X3_take mz_X3 mi_X3_take ml_X3_take (na := 1) ⟨md_X3.1, md_X3.2, by decide +kernel⟩ rfl ⟨by decide, by decide⟩ (Nat.le_of_ble_eq_true rfl) dX3_product_35 (fun σ hI => ?_)
          refine zg_aload_n X 2 rfl dX3_product_38 ?_
          refine zg_iload_n X 3 rfl dX3_product_39 ?_
          refine zg_cVv (As := [.int p1]) (st := []) X ha0 rfl (by decide) rfl (t_X3_unit_o3 l d L kd κ _ hI a0 ha0 p1 (by omega)) mk_X3_159 mc_X3_unit mz_X3 mi_X3_unit ml_X3_unit (na := 1) ⟨md_X3.1, md_X3.2, by decide +kernel⟩ rfl ⟨by decide, by decide⟩ (Nat.le_of_ble_eq_true rfl) dX3_product_40 (fun σ hI => ?_)
          refine zg_aload_n X 2 rfl dX3_product_43 ?_
          refine fg_X3_18 X hI ha0 dX3_product_44 (fun v12 _ hv12 => ?_)
          refine zg_iload_n X 0 rfl dX3_product_47 ?_
          refine zg_bipush X 28 dX3_product_48 (by decide) (fun v13 _ hv13 => ?_)
          refine zg_icmp_ne X 57 dX3_product_50 (by decide) (fun c14 => ?_) (fun c14 => ?_)
          · skip
            refine zg_iconst X 5 dX3_product_57 (by decide) (fun v15 _ hv15 => ?_)
            refine zg_iconst X 0 dX3_product_58 (by decide) (fun v16 _ hv16 => ?_)
            refine zg_cVv (As := [.int v15, .int v16]) (st := []) X hv12 rfl (by decide) rfl (t_X9_addStep l d L kd κ 2 _ hI v12 hv12 v15 v16 ) mk_X3_145 mc_X9_addStep mz_X9 mi_X9_addStep ml_X9_addStep (na := 2) ⟨md_X9.1, md_X9.2, by decide +kernel⟩ rfl ⟨by decide, by decide⟩ (Nat.le_of_ble_eq_true rfl) dX3_product_59 (fun σ hI => ?_)
            refine zg_iinc X 1 (fun v17 => [(2, .int v17), (3, .int v11), (0, .ref a0), (1, .int p1)]) 1 dX3_product_62 rfl (by decide) (by decide) (by omega) (by omega) (fun _ => rfl) (fun v17 _ hv17 => ?_)
            refine zg_goto X 7 dX3_product_65 (by decide) ?_
            refine zg_sub [0, 2, 3] rfl ?_
            exact ihLp3 _ v17 hI  (by omega) (by omega)
          · skip
            refine zg_iconst X 4 dX3_product_53 (by decide) (fun v18 _ hv18 => ?_)
            refine zg_goto X 58 dX3_product_54 (by decide) ?_
            refine zg_iconst X 0 dX3_product_58 (by decide) (fun v19 _ hv19 => ?_)
            refine zg_cVv (As := [.int v18, .int v19]) (st := []) X hv12 rfl (by decide) rfl (t_X9_addStep l d L kd κ 2 _ hI v12 hv12 v18 v19 ) mk_X3_145 mc_X9_addStep mz_X9 mi_X9_addStep ml_X9_addStep (na := 2) ⟨md_X9.1, md_X9.2, by decide +kernel⟩ rfl ⟨by decide, by decide⟩ (Nat.le_of_ble_eq_true rfl) dX3_product_59 (fun σ hI => ?_)
            refine zg_iinc X 1 (fun v20 => [(2, .int v20), (3, .int v11), (0, .ref a0), (1, .int p1)]) 1 dX3_product_62 rfl (by decide) (by decide) (by omega) (by omega) (fun _ => rfl) (fun v20 _ hv20 => ?_)
            refine zg_goto X 7 dX3_product_65 (by decide) ?_
            refine zg_sub [0, 2, 3] rfl ?_
            exact ihLp3 _ v20 hI  (by omega) (by omega)
  refine zg_sub [0, 1, 2] rfl ?_
  exact Lp3 (((401) - v1.toInt + 1).toNat + 1) _ v1 hI  (by omega) (by omega)
set_option maxHeartbeats 4000000 in
set_option maxRecDepth 100000 in
theorem t_X3_sum_o3 (l : Launch) (d : zD2) (L : List Nat) (kd : Nat → Nat) (κ : Int) (σ : zS) (hI : zI κ 2 L kd σ) (a0 : Nat) (ha0 : zT L kd a0 3) (p1 : Int32) (hq0 : p1.toInt = 3) : zMv l yX3_sum (Cond.code yX3_sum cX3_sum 4 none :: zWL) 13 [.ref a0, .int p1] d L kd σ (fun σ2 => zI κ 2 L kd σ2) := by
  refine zMv.of (own := RX3) (by decide +kernel) rfl rfl (Nat.le_of_ble_eq_true rfl) ?_
  intro p e s m args below meth c A Q X ret
  refine zg_lv (lv2 := [(0, .ref a0), (1, .int p1)]) rfl ?_
  refine zg_aload_n X 0 rfl dX3_sum_0 ?_
  refine zg_iload_n X 1 rfl dX3_sum_1 ?_
  refine zg_cVv (As := [.int p1]) (st := []) X ha0 rfl (by decide) rfl (t_X3_product_o3 l d L kd κ _ hI a0 ha0 p1 (by omega)) mk_X3_156 mc_X3_product mz_X3 mi_X3_product ml_X3_product (na := 1) ⟨md_X3.1, md_X3.2, by decide +kernel⟩ rfl ⟨by decide, by decide⟩ (Nat.le_of_ble_eq_true rfl) dX3_sum_2 (fun σ hI => ?_)
  refine zg_iconst X 0 dX3_sum_5 (by decide) (fun v1 _ hv1 => ?_)
  refine zg_istore_n X [(2, .int v1), (0, .ref a0), (1, .int p1)] dX3_sum_6 (by decide) rfl ?_
  have Lp3 : ∀ (n : Nat) (σ : zS) (x2 : Int32), zI κ 2 L kd σ → 0 ≤ x2.toInt ∧ x2.toInt ≤ 401 → (401) - x2.toInt + 1 < (n : Int) → zG d L kd A 4 p l e (k2_rm 13 (100 * 13)) s m args below meth c Q σ 7 [(2, .int x2), (0, .ref a0), (1, .int p1)] [] := by
    intro n
    induction n with
    | zero => intro σ x2 hI  hxLp3 hm; exact absurd hm (by omega)
    | succ n ihLp3 =>
      intro σ x2 hI  hxLp3 hmLp3
      refine zg_iload_n X 0 rfl dX3_sum_7 ?_
      refine zg_sipush X 400 dX3_sum_8 (by decide) (fun v4 _ hv4 => ?_)
      refine zg_icmp_gt X 68 dX3_sum_11 (by decide) (fun c5 => ?_) (fun c5 => ?_)
      · skip
        exact ret _ _ _ dX3_sum_68 hI
      · skip
        refine zg_aload_n X 1 rfl dX3_sum_14 ?_
        refine fg_X3_26 X hI ha0 dX3_sum_15 (fun v6 ev6 _ => ?_)
        refine zg_bipush X 26 dX3_sum_18 (by decide) (fun v7 _ hv7 => ?_)
        refine zg_bipush X 27 dX3_sum_20 (by decide) (fun v8 _ hv8 => ?_)
        refine zg_cSNi (As := [.int v6, .int v7, .int v8]) (st := []) X (t_X10_isWithin l d L kd _ v6 v7 v8 ) mk_X3_80 mc_X10_isWithin mz_X10 ms_X10_isWithin (na := 3) ⟨md_X10.1, md_X10.2, by decide +kernel⟩ rfl ⟨by decide, by decide⟩ (Nat.le_of_ble_eq_true rfl) dX3_sum_22 (fun v9 σ2 hq => ?_)
        obtain ⟨hv9, rfl⟩ := hq
        refine zg_if_eq X 68 dX3_sum_25 (by decide) (fun c10 => ?_) (fun c10 => ?_)
        · skip
          exact ret _ _ _ dX3_sum_68 hI
        · skip
          refine zg_aload_n X 1 rfl dX3_sum_28 ?_
          refine fg_X3_26 X hI ha0 dX3_sum_29 (fun v11 ev11 _ => ?_)
          have mv11 : v11.toInt = v6.toInt := by rw [ev11, ← ev6]
          refine zg_istore_n X [(3, .int v11), (2, .int x2), (0, .ref a0), (1, .int p1)] dX3_sum_32 (by decide) rfl ?_
          refine zg_aload_n X 2 rfl dX3_sum_33 ?_
          refine zg_iload_n X 0 rfl dX3_sum_34 ?_
          refine zg_cVv (As := [.int v11]) (st := []) X ha0 rfl (by decide) rfl (t_X3_take l d L kd κ 2 _ hI a0 ha0 v11 ) mk_X3_87 mc_X3_take mz_X3 mi_X3_take ml_X3_take (na := 1) ⟨md_X3.1, md_X3.2, by decide +kernel⟩ rfl ⟨by decide, by decide⟩ (Nat.le_of_ble_eq_true rfl) dX3_sum_35 (fun σ hI => ?_)
          refine zg_aload_n X 2 rfl dX3_sum_38 ?_
          refine zg_iload_n X 3 rfl dX3_sum_39 ?_
          refine zg_cVv (As := [.int p1]) (st := []) X ha0 rfl (by decide) rfl (t_X3_product_o3 l d L kd κ _ hI a0 ha0 p1 (by omega)) mk_X3_156 mc_X3_product mz_X3 mi_X3_product ml_X3_product (na := 1) ⟨md_X3.1, md_X3.2, by decide +kernel⟩ rfl ⟨by decide, by decide⟩ (Nat.le_of_ble_eq_true rfl) dX3_sum_40 (fun σ hI => ?_)
          refine zg_aload_n X 2 rfl dX3_sum_43 ?_
          refine fg_X3_18 X hI ha0 dX3_sum_44 (fun v12 _ hv12 => ?_)
          refine zg_iload_n X 0 rfl dX3_sum_47 ?_
          refine zg_bipush X 26 dX3_sum_48 (by decide) (fun v13 _ hv13 => ?_)
          refine zg_icmp_ne X 57 dX3_sum_50 (by decide) (fun c14 => ?_) (fun c14 => ?_)
          · skip
            refine zg_iconst X 3 dX3_sum_57 (by decide) (fun v15 _ hv15 => ?_)
            refine zg_iconst X 0 dX3_sum_58 (by decide) (fun v16 _ hv16 => ?_)
            refine zg_cVv (As := [.int v15, .int v16]) (st := []) X hv12 rfl (by decide) rfl (t_X9_addStep l d L kd κ 2 _ hI v12 hv12 v15 v16 ) mk_X3_145 mc_X9_addStep mz_X9 mi_X9_addStep ml_X9_addStep (na := 2) ⟨md_X9.1, md_X9.2, by decide +kernel⟩ rfl ⟨by decide, by decide⟩ (Nat.le_of_ble_eq_true rfl) dX3_sum_59 (fun σ hI => ?_)
            refine zg_iinc X 1 (fun v17 => [(2, .int v17), (3, .int v11), (0, .ref a0), (1, .int p1)]) 1 dX3_sum_62 rfl (by decide) (by decide) (by omega) (by omega) (fun _ => rfl) (fun v17 _ hv17 => ?_)
            refine zg_goto X 7 dX3_sum_65 (by decide) ?_
            refine zg_sub [0, 2, 3] rfl ?_
            exact ihLp3 _ v17 hI  (by omega) (by omega)
          · skip
            refine zg_iconst X 2 dX3_sum_53 (by decide) (fun v18 _ hv18 => ?_)
            refine zg_goto X 58 dX3_sum_54 (by decide) ?_
            refine zg_iconst X 0 dX3_sum_58 (by decide) (fun v19 _ hv19 => ?_)
            refine zg_cVv (As := [.int v18, .int v19]) (st := []) X hv12 rfl (by decide) rfl (t_X9_addStep l d L kd κ 2 _ hI v12 hv12 v18 v19 ) mk_X3_145 mc_X9_addStep mz_X9 mi_X9_addStep ml_X9_addStep (na := 2) ⟨md_X9.1, md_X9.2, by decide +kernel⟩ rfl ⟨by decide, by decide⟩ (Nat.le_of_ble_eq_true rfl) dX3_sum_59 (fun σ hI => ?_)
            refine zg_iinc X 1 (fun v20 => [(2, .int v20), (3, .int v11), (0, .ref a0), (1, .int p1)]) 1 dX3_sum_62 rfl (by decide) (by decide) (by omega) (by omega) (fun _ => rfl) (fun v20 _ hv20 => ?_)
            refine zg_goto X 7 dX3_sum_65 (by decide) ?_
            refine zg_sub [0, 2, 3] rfl ?_
            exact ihLp3 _ v20 hI  (by omega) (by omega)
  refine zg_sub [0, 1, 2] rfl ?_
  exact Lp3 (((401) - v1.toInt + 1).toNat + 1) _ v1 hI  (by omega) (by omega)
set_option maxHeartbeats 4000000 in
set_option maxRecDepth 100000 in
theorem t_X3_unit_o2 (l : Launch) (d : zD2) (L : List Nat) (kd : Nat → Nat) (κ : Int) (σ : zS) (hI : zI κ 2 L kd σ) (a0 : Nat) (ha0 : zT L kd a0 3) (p1 : Int32) (hq0 : p1.toInt = 2) : zMv l yX3_unit (Cond.code yX3_unit cX3_unit 2 none :: zWL) 14 [.ref a0, .int p1] d L kd σ (fun σ2 => zI κ 2 L kd σ2) := by
  refine zMv.of (own := RX3) (by decide +kernel) rfl rfl (Nat.le_of_ble_eq_true rfl) ?_
  intro p e s m args below meth c A Q X ret
  refine zg_lv (lv2 := [(0, .ref a0), (1, .int p1)]) rfl ?_
  refine zg_aload_n X 0 rfl dX3_unit_0 ?_
  refine fg_X3_26 X hI ha0 dX3_unit_1 (fun v1 ev1 _ => ?_)
  refine zg_bipush X 23 dX3_unit_4 (by decide) (fun v2 _ hv2 => ?_)
  refine zg_icmp_ne X 33 dX3_unit_6 (by decide) (fun c3 => ?_) (fun c3 => ?_)
  · skip
    refine zg_aload_n X 0 rfl dX3_unit_33 ?_
    refine fg_X3_26 X hI ha0 dX3_unit_34 (fun v4 ev4 _ => ?_)
    have mv4 : v4.toInt = v1.toInt := by rw [ev4, ← ev1]
    refine zg_bipush X 13 dX3_unit_37 (by decide) (fun v5 _ hv5 => ?_)
    have zv4_z6 := zb_rng v4
    refine zg_icmp_lt X 77 dX3_unit_39 (by decide) (fun c7 => ?_) (fun c7 => ?_)
    · skip
      refine zg_aload_n X 0 rfl dX3_unit_77 ?_
      refine fg_X3_26 X hI ha0 dX3_unit_78 (fun v8 ev8 _ => ?_)
      have mv8 : v8.toInt = v4.toInt := by rw [ev8, ← ev4]
      refine zg_bipush X 31 dX3_unit_81 (by decide) (fun v9 _ hv9 => ?_)
      refine zg_icmp_ne X 116 dX3_unit_83 (by decide) (fun c10 => ?_) (fun c10 => ?_)
      · skip
        refine zg_aload_n X 0 rfl dX3_unit_116 ?_
        refine zg_aload_n X 0 rfl dX3_unit_117 ?_
        refine fg_X3_26 X hI ha0 dX3_unit_118 (fun v11 ev11 _ => ?_)
        have mv11 : v11.toInt = v8.toInt := by rw [ev11, ← ev8]
        refine zg_bipush X 31 dX3_unit_121 (by decide) (fun v12 _ hv12 => ?_)
        refine zg_icmp_ne X 130 dX3_unit_123 (by decide) (fun c13 => ?_) (fun c13 => ?_)
        · skip
          refine zg_iconst X 1 dX3_unit_130 (by decide) (fun v14 _ hv14 => ?_)
          refine zg_cVv (As := [.int v14]) (st := []) X ha0 rfl (by decide) rfl (t_X3_fail l d L kd κ 2 _ hI a0 ha0 v14 ) mk_X3_106 mc_X3_fail mz_X3 mi_X3_fail ml_X3_fail (na := 1) ⟨md_X3.1, md_X3.2, by decide +kernel⟩ rfl ⟨by decide, by decide⟩ (Nat.le_of_ble_eq_true rfl) dX3_unit_131 (fun σ hI => ?_)
          exact ret _ _ _ dX3_unit_134 hI
        · omega
      · omega
    · skip
      refine zg_aload_n X 0 rfl dX3_unit_42 ?_
      refine fg_X3_26 X hI ha0 dX3_unit_43 (fun v15 ev15 _ => ?_)
      have mv15 : v15.toInt = v4.toInt := by rw [ev15, ← ev4]
      refine zg_bipush X 22 dX3_unit_46 (by decide) (fun v16 _ hv16 => ?_)
      have zv15_z17 := zb_rng v15
      refine zg_icmp_ge X 77 dX3_unit_48 (by decide) (fun c18 => ?_) (fun c18 => ?_)
      · skip
        refine zg_aload_n X 0 rfl dX3_unit_77 ?_
        refine fg_X3_26 X hI ha0 dX3_unit_78 (fun v19 ev19 _ => ?_)
        have mv19 : v19.toInt = v15.toInt := by rw [ev19, ← ev15]
        refine zg_bipush X 31 dX3_unit_81 (by decide) (fun v20 _ hv20 => ?_)
        refine zg_icmp_ne X 116 dX3_unit_83 (by decide) (fun c21 => ?_) (fun c21 => ?_)
        · skip
          refine zg_aload_n X 0 rfl dX3_unit_116 ?_
          refine zg_aload_n X 0 rfl dX3_unit_117 ?_
          refine fg_X3_26 X hI ha0 dX3_unit_118 (fun v22 ev22 _ => ?_)
          have mv22 : v22.toInt = v19.toInt := by rw [ev22, ← ev19]
          refine zg_bipush X 31 dX3_unit_121 (by decide) (fun v23 _ hv23 => ?_)
          refine zg_icmp_ne X 130 dX3_unit_123 (by decide) (fun c24 => ?_) (fun c24 => ?_)
          · skip
            refine zg_iconst X 1 dX3_unit_130 (by decide) (fun v25 _ hv25 => ?_)
            refine zg_cVv (As := [.int v25]) (st := []) X ha0 rfl (by decide) rfl (t_X3_fail l d L kd κ 2 _ hI a0 ha0 v25 ) mk_X3_106 mc_X3_fail mz_X3 mi_X3_fail ml_X3_fail (na := 1) ⟨md_X3.1, md_X3.2, by decide +kernel⟩ rfl ⟨by decide, by decide⟩ (Nat.le_of_ble_eq_true rfl) dX3_unit_131 (fun σ hI => ?_)
            exact ret _ _ _ dX3_unit_134 hI
          · skip
            refine zg_iconst X 2 dX3_unit_126 (by decide) (fun v26 _ hv26 => ?_)
            refine zg_goto X 131 dX3_unit_127 (by decide) ?_
            refine zg_cVv (As := [.int v26]) (st := []) X ha0 rfl (by decide) rfl (t_X3_fail l d L kd κ 2 _ hI a0 ha0 v26 ) mk_X3_106 mc_X3_fail mz_X3 mi_X3_fail ml_X3_fail (na := 1) ⟨md_X3.1, md_X3.2, by decide +kernel⟩ rfl ⟨by decide, by decide⟩ (Nat.le_of_ble_eq_true rfl) dX3_unit_131 (fun σ hI => ?_)
            exact ret _ _ _ dX3_unit_134 hI
        · skip
          refine zg_iload_n X 1 rfl dX3_unit_86 ?_
          refine zg_bipush X 6 dX3_unit_87 (by decide) (fun v27 _ hv27 => ?_)
          refine zg_icmp_ge X 116 dX3_unit_89 (by decide) (fun c28 => ?_) (fun c28 => ?_)
          · omega
          · skip
            refine zg_aload_n X 0 rfl dX3_unit_92 ?_
            refine zg_aload_n X 0 rfl dX3_unit_93 ?_
            refine fg_X3_26 X hI ha0 dX3_unit_94 (fun v29 ev29 _ => ?_)
            have mv29 : v29.toInt = v19.toInt := by rw [ev29, ← ev19]
            refine zg_cVv (As := [.int v29]) (st := []) X ha0 rfl (by decide) rfl (t_X3_take l d L kd κ 2 _ hI a0 ha0 v29 ) mk_X3_87 mc_X3_take mz_X3 mi_X3_take ml_X3_take (na := 1) ⟨md_X3.1, md_X3.2, by decide +kernel⟩ rfl ⟨by decide, by decide⟩ (Nat.le_of_ble_eq_true rfl) dX3_unit_97 (fun σ hI => ?_)
            refine zg_aload_n X 0 rfl dX3_unit_100 ?_
            refine zg_iload_n X 1 rfl dX3_unit_101 ?_
            refine zg_iconst X 1 dX3_unit_102 (by decide) (fun v30 _ hv30 => ?_)
            refine zg_iadd X dX3_unit_103 (by omega) (by omega) (fun v31 _ hv31 => ?_)
            refine zg_cVv (As := [.int v31]) (st := []) X ha0 rfl (by decide) rfl (t_X3_sum_o3 l d L kd κ _ hI a0 ha0 v31 (by omega)) mk_X3_140 mc_X3_sum mz_X3 mi_X3_sum ml_X3_sum (na := 1) ⟨md_X3.1, md_X3.2, by decide +kernel⟩ rfl ⟨by decide, by decide⟩ (Nat.le_of_ble_eq_true rfl) dX3_unit_104 (fun σ hI => ?_)
            refine zg_aload_n X 0 rfl dX3_unit_107 ?_
            refine zg_bipush X 32 dX3_unit_108 (by decide) (fun v32 _ hv32 => ?_)
            refine zg_cVv (As := [.int v32]) (st := []) X ha0 rfl (by decide) rfl (t_X3_take l d L kd κ 2 _ hI a0 ha0 v32 ) mk_X3_87 mc_X3_take mz_X3 mi_X3_take ml_X3_take (na := 1) ⟨md_X3.1, md_X3.2, by decide +kernel⟩ rfl ⟨by decide, by decide⟩ (Nat.le_of_ble_eq_true rfl) dX3_unit_110 (fun σ hI => ?_)
            refine zg_goto X 134 dX3_unit_113 (by decide) ?_
            exact ret _ _ _ dX3_unit_134 hI
      · skip
        refine zg_aload_n X 0 rfl dX3_unit_51 ?_
        refine fg_X3_18 X hI ha0 dX3_unit_52 (fun v33 _ hv33 => ?_)
        refine zg_iconst X 1 dX3_unit_55 (by decide) (fun v34 _ hv34 => ?_)
        refine zg_aload_n X 0 rfl dX3_unit_56 ?_
        refine fg_X3_26 X hI ha0 dX3_unit_57 (fun v35 ev35 _ => ?_)
        have mv35 : v35.toInt = v15.toInt := by rw [ev35, ← ev15]
        refine zg_bipush X 13 dX3_unit_60 (by decide) (fun v36 _ hv36 => ?_)
        refine zg_isub X dX3_unit_62 (by omega) (by omega) (fun v37 _ hv37 => ?_)
        refine zg_cVv (As := [.int v34, .int v37]) (st := []) X hv33 rfl (by decide) rfl (t_X9_addStep l d L kd κ 2 _ hI v33 hv33 v34 v37 ) mk_X3_145 mc_X9_addStep mz_X9 mi_X9_addStep ml_X9_addStep (na := 2) ⟨md_X9.1, md_X9.2, by decide +kernel⟩ rfl ⟨by decide, by decide⟩ (Nat.le_of_ble_eq_true rfl) dX3_unit_63 (fun σ hI => ?_)
        refine zg_aload_n X 0 rfl dX3_unit_66 ?_
        refine zg_aload_n X 0 rfl dX3_unit_67 ?_
        refine fg_X3_26 X hI ha0 dX3_unit_68 (fun v38 ev38 _ => ?_)
        refine zg_cVv (As := [.int v38]) (st := []) X ha0 rfl (by decide) rfl (t_X3_take l d L kd κ 2 _ hI a0 ha0 v38 ) mk_X3_87 mc_X3_take mz_X3 mi_X3_take ml_X3_take (na := 1) ⟨md_X3.1, md_X3.2, by decide +kernel⟩ rfl ⟨by decide, by decide⟩ (Nat.le_of_ble_eq_true rfl) dX3_unit_71 (fun σ hI => ?_)
        refine zg_goto X 134 dX3_unit_74 (by decide) ?_
        exact ret _ _ _ dX3_unit_134 hI
  · skip
    refine zg_aload_n X 0 rfl dX3_unit_9 ?_
    refine fg_X3_18 X hI ha0 dX3_unit_10 (fun v39 _ hv39 => ?_)
    refine zg_iconst X 0 dX3_unit_13 (by decide) (fun v40 _ hv40 => ?_)
    refine zg_aload_n X 0 rfl dX3_unit_14 ?_
    refine fg_X3_29 X ha0 dX3_unit_15 (fun v41 _ => ?_)
    refine zg_l2i X dX3_unit_18 (fun v42 ev42 => ?_)
    refine zg_cVv (As := [.int v40, .int v42]) (st := []) X hv39 rfl (by decide) rfl (t_X9_addStep l d L kd κ 2 _ hI v39 hv39 v40 v42 ) mk_X3_145 mc_X9_addStep mz_X9 mi_X9_addStep ml_X9_addStep (na := 2) ⟨md_X9.1, md_X9.2, by decide +kernel⟩ rfl ⟨by decide, by decide⟩ (Nat.le_of_ble_eq_true rfl) dX3_unit_19 (fun σ hI => ?_)
    refine zg_aload_n X 0 rfl dX3_unit_22 ?_
    refine zg_aload_n X 0 rfl dX3_unit_23 ?_
    refine fg_X3_26 X hI ha0 dX3_unit_24 (fun v43 ev43 _ => ?_)
    refine zg_cVv (As := [.int v43]) (st := []) X ha0 rfl (by decide) rfl (t_X3_take l d L kd κ 2 _ hI a0 ha0 v43 ) mk_X3_87 mc_X3_take mz_X3 mi_X3_take ml_X3_take (na := 1) ⟨md_X3.1, md_X3.2, by decide +kernel⟩ rfl ⟨by decide, by decide⟩ (Nat.le_of_ble_eq_true rfl) dX3_unit_27 (fun σ hI => ?_)
    refine zg_goto X 134 dX3_unit_30 (by decide) ?_
    exact ret _ _ _ dX3_unit_134 hI
set_option maxHeartbeats 4000000 in
set_option maxRecDepth 100000 in
theorem t_X3_product_o2 (l : Launch) (d : zD2) (L : List Nat) (kd : Nat → Nat) (κ : Int) (σ : zS) (hI : zI κ 2 L kd σ) (a0 : Nat) (ha0 : zT L kd a0 3) (p1 : Int32) (hq0 : p1.toInt = 2) : zMv l yX3_product (Cond.code yX3_product cX3_product 4 none :: zWL) 15 [.ref a0, .int p1] d L kd σ (fun σ2 => zI κ 2 L kd σ2) := by
  refine zMv.of (own := RX3) (by decide +kernel) rfl rfl (Nat.le_of_ble_eq_true rfl) ?_
  intro p e s m args below meth c A Q X ret
  refine zg_lv (lv2 := [(0, .ref a0), (1, .int p1)]) rfl ?_
  refine zg_aload_n X 0 rfl dX3_product_0 ?_
  refine zg_iload_n X 1 rfl dX3_product_1 ?_
  refine zg_cVv (As := [.int p1]) (st := []) X ha0 rfl (by decide) rfl (t_X3_unit_o2 l d L kd κ _ hI a0 ha0 p1 (by omega)) mk_X3_159 mc_X3_unit mz_X3 mi_X3_unit ml_X3_unit (na := 1) ⟨md_X3.1, md_X3.2, by decide +kernel⟩ rfl ⟨by decide, by decide⟩ (Nat.le_of_ble_eq_true rfl) dX3_product_2 (fun σ hI => ?_)
  refine zg_iconst X 0 dX3_product_5 (by decide) (fun v1 _ hv1 => ?_)
  refine zg_istore_n X [(2, .int v1), (0, .ref a0), (1, .int p1)] dX3_product_6 (by decide) rfl ?_
  have Lp3 : ∀ (n : Nat) (σ : zS) (x2 : Int32), zI κ 2 L kd σ → 0 ≤ x2.toInt ∧ x2.toInt ≤ 401 → (401) - x2.toInt + 1 < (n : Int) → zG d L kd A 4 p l e (k2_rm 15 (100 * 15)) s m args below meth c Q σ 7 [(2, .int x2), (0, .ref a0), (1, .int p1)] [] := by
    intro n
    induction n with
    | zero => intro σ x2 hI  hxLp3 hm; exact absurd hm (by omega)
    | succ n ihLp3 =>
      intro σ x2 hI  hxLp3 hmLp3
      refine zg_iload_n X 0 rfl dX3_product_7 ?_
      refine zg_sipush X 400 dX3_product_8 (by decide) (fun v4 _ hv4 => ?_)
      refine zg_icmp_gt X 68 dX3_product_11 (by decide) (fun c5 => ?_) (fun c5 => ?_)
      · skip
        exact ret _ _ _ dX3_product_68 hI
      · skip
        refine zg_aload_n X 1 rfl dX3_product_14 ?_
        refine fg_X3_26 X hI ha0 dX3_product_15 (fun v6 ev6 _ => ?_)
        refine zg_bipush X 28 dX3_product_18 (by decide) (fun v7 _ hv7 => ?_)
        refine zg_bipush X 29 dX3_product_20 (by decide) (fun v8 _ hv8 => ?_)
        refine zg_cSNi (As := [.int v6, .int v7, .int v8]) (st := []) X (t_X10_isWithin l d L kd _ v6 v7 v8 ) mk_X3_80 mc_X10_isWithin mz_X10 ms_X10_isWithin (na := 3) ⟨md_X10.1, md_X10.2, by decide +kernel⟩ rfl ⟨by decide, by decide⟩ (Nat.le_of_ble_eq_true rfl) dX3_product_22 (fun v9 σ2 hq => ?_)
        obtain ⟨hv9, rfl⟩ := hq
        refine zg_if_eq X 68 dX3_product_25 (by decide) (fun c10 => ?_) (fun c10 => ?_)
        · skip
          exact ret _ _ _ dX3_product_68 hI
        · skip
          refine zg_aload_n X 1 rfl dX3_product_28 ?_
          refine fg_X3_26 X hI ha0 dX3_product_29 (fun v11 ev11 _ => ?_)
          have mv11 : v11.toInt = v6.toInt := by rw [ev11, ← ev6]
          refine zg_istore_n X [(3, .int v11), (2, .int x2), (0, .ref a0), (1, .int p1)] dX3_product_32 (by decide) rfl ?_
          refine zg_aload_n X 2 rfl dX3_product_33 ?_
          refine zg_iload_n X 0 rfl dX3_product_34 ?_
          refine zg_cVv (As := [.int v11]) (st := []) X ha0 rfl (by decide) rfl (t_X3_take l d L kd κ 2 _ hI a0 ha0 v11 ) mk_X3_87 mc_X3_take mz_X3 mi_X3_take ml_X3_take (na := 1) ⟨md_X3.1, md_X3.2, by decide +kernel⟩ rfl ⟨by decide, by decide⟩ (Nat.le_of_ble_eq_true rfl) dX3_product_35 (fun σ hI => ?_)
          refine zg_aload_n X 2 rfl dX3_product_38 ?_
          refine zg_iload_n X 3 rfl dX3_product_39 ?_
          refine zg_cVv (As := [.int p1]) (st := []) X ha0 rfl (by decide) rfl (t_X3_unit_o2 l d L kd κ _ hI a0 ha0 p1 (by omega)) mk_X3_159 mc_X3_unit mz_X3 mi_X3_unit ml_X3_unit (na := 1) ⟨md_X3.1, md_X3.2, by decide +kernel⟩ rfl ⟨by decide, by decide⟩ (Nat.le_of_ble_eq_true rfl) dX3_product_40 (fun σ hI => ?_)
          refine zg_aload_n X 2 rfl dX3_product_43 ?_
          refine fg_X3_18 X hI ha0 dX3_product_44 (fun v12 _ hv12 => ?_)
          refine zg_iload_n X 0 rfl dX3_product_47 ?_
          refine zg_bipush X 28 dX3_product_48 (by decide) (fun v13 _ hv13 => ?_)
          refine zg_icmp_ne X 57 dX3_product_50 (by decide) (fun c14 => ?_) (fun c14 => ?_)
          · skip
            refine zg_iconst X 5 dX3_product_57 (by decide) (fun v15 _ hv15 => ?_)
            refine zg_iconst X 0 dX3_product_58 (by decide) (fun v16 _ hv16 => ?_)
            refine zg_cVv (As := [.int v15, .int v16]) (st := []) X hv12 rfl (by decide) rfl (t_X9_addStep l d L kd κ 2 _ hI v12 hv12 v15 v16 ) mk_X3_145 mc_X9_addStep mz_X9 mi_X9_addStep ml_X9_addStep (na := 2) ⟨md_X9.1, md_X9.2, by decide +kernel⟩ rfl ⟨by decide, by decide⟩ (Nat.le_of_ble_eq_true rfl) dX3_product_59 (fun σ hI => ?_)
            refine zg_iinc X 1 (fun v17 => [(2, .int v17), (3, .int v11), (0, .ref a0), (1, .int p1)]) 1 dX3_product_62 rfl (by decide) (by decide) (by omega) (by omega) (fun _ => rfl) (fun v17 _ hv17 => ?_)
            refine zg_goto X 7 dX3_product_65 (by decide) ?_
            refine zg_sub [0, 2, 3] rfl ?_
            exact ihLp3 _ v17 hI  (by omega) (by omega)
          · skip
            refine zg_iconst X 4 dX3_product_53 (by decide) (fun v18 _ hv18 => ?_)
            refine zg_goto X 58 dX3_product_54 (by decide) ?_
            refine zg_iconst X 0 dX3_product_58 (by decide) (fun v19 _ hv19 => ?_)
            refine zg_cVv (As := [.int v18, .int v19]) (st := []) X hv12 rfl (by decide) rfl (t_X9_addStep l d L kd κ 2 _ hI v12 hv12 v18 v19 ) mk_X3_145 mc_X9_addStep mz_X9 mi_X9_addStep ml_X9_addStep (na := 2) ⟨md_X9.1, md_X9.2, by decide +kernel⟩ rfl ⟨by decide, by decide⟩ (Nat.le_of_ble_eq_true rfl) dX3_product_59 (fun σ hI => ?_)
            refine zg_iinc X 1 (fun v20 => [(2, .int v20), (3, .int v11), (0, .ref a0), (1, .int p1)]) 1 dX3_product_62 rfl (by decide) (by decide) (by omega) (by omega) (fun _ => rfl) (fun v20 _ hv20 => ?_)
            refine zg_goto X 7 dX3_product_65 (by decide) ?_
            refine zg_sub [0, 2, 3] rfl ?_
            exact ihLp3 _ v20 hI  (by omega) (by omega)
  refine zg_sub [0, 1, 2] rfl ?_
  exact Lp3 (((401) - v1.toInt + 1).toNat + 1) _ v1 hI  (by omega) (by omega)
set_option maxHeartbeats 4000000 in
set_option maxRecDepth 100000 in
theorem t_X3_sum_o2 (l : Launch) (d : zD2) (L : List Nat) (kd : Nat → Nat) (κ : Int) (σ : zS) (hI : zI κ 2 L kd σ) (a0 : Nat) (ha0 : zT L kd a0 3) (p1 : Int32) (hq0 : p1.toInt = 2) : zMv l yX3_sum (Cond.code yX3_sum cX3_sum 4 none :: zWL) 16 [.ref a0, .int p1] d L kd σ (fun σ2 => zI κ 2 L kd σ2) := by
  refine zMv.of (own := RX3) (by decide +kernel) rfl rfl (Nat.le_of_ble_eq_true rfl) ?_
  intro p e s m args below meth c A Q X ret
  refine zg_lv (lv2 := [(0, .ref a0), (1, .int p1)]) rfl ?_
  refine zg_aload_n X 0 rfl dX3_sum_0 ?_
  refine zg_iload_n X 1 rfl dX3_sum_1 ?_
  refine zg_cVv (As := [.int p1]) (st := []) X ha0 rfl (by decide) rfl (t_X3_product_o2 l d L kd κ _ hI a0 ha0 p1 (by omega)) mk_X3_156 mc_X3_product mz_X3 mi_X3_product ml_X3_product (na := 1) ⟨md_X3.1, md_X3.2, by decide +kernel⟩ rfl ⟨by decide, by decide⟩ (Nat.le_of_ble_eq_true rfl) dX3_sum_2 (fun σ hI => ?_)
  refine zg_iconst X 0 dX3_sum_5 (by decide) (fun v1 _ hv1 => ?_)
  refine zg_istore_n X [(2, .int v1), (0, .ref a0), (1, .int p1)] dX3_sum_6 (by decide) rfl ?_
  have Lp3 : ∀ (n : Nat) (σ : zS) (x2 : Int32), zI κ 2 L kd σ → 0 ≤ x2.toInt ∧ x2.toInt ≤ 401 → (401) - x2.toInt + 1 < (n : Int) → zG d L kd A 4 p l e (k2_rm 16 (100 * 16)) s m args below meth c Q σ 7 [(2, .int x2), (0, .ref a0), (1, .int p1)] [] := by
    intro n
    induction n with
    | zero => intro σ x2 hI  hxLp3 hm; exact absurd hm (by omega)
    | succ n ihLp3 =>
      intro σ x2 hI  hxLp3 hmLp3
      refine zg_iload_n X 0 rfl dX3_sum_7 ?_
      refine zg_sipush X 400 dX3_sum_8 (by decide) (fun v4 _ hv4 => ?_)
      refine zg_icmp_gt X 68 dX3_sum_11 (by decide) (fun c5 => ?_) (fun c5 => ?_)
      · skip
        exact ret _ _ _ dX3_sum_68 hI
      · skip
        refine zg_aload_n X 1 rfl dX3_sum_14 ?_
        refine fg_X3_26 X hI ha0 dX3_sum_15 (fun v6 ev6 _ => ?_)
        refine zg_bipush X 26 dX3_sum_18 (by decide) (fun v7 _ hv7 => ?_)
        refine zg_bipush X 27 dX3_sum_20 (by decide) (fun v8 _ hv8 => ?_)
        refine zg_cSNi (As := [.int v6, .int v7, .int v8]) (st := []) X (t_X10_isWithin l d L kd _ v6 v7 v8 ) mk_X3_80 mc_X10_isWithin mz_X10 ms_X10_isWithin (na := 3) ⟨md_X10.1, md_X10.2, by decide +kernel⟩ rfl ⟨by decide, by decide⟩ (Nat.le_of_ble_eq_true rfl) dX3_sum_22 (fun v9 σ2 hq => ?_)
        obtain ⟨hv9, rfl⟩ := hq
        refine zg_if_eq X 68 dX3_sum_25 (by decide) (fun c10 => ?_) (fun c10 => ?_)
        · skip
          exact ret _ _ _ dX3_sum_68 hI
        · skip
          refine zg_aload_n X 1 rfl dX3_sum_28 ?_
          refine fg_X3_26 X hI ha0 dX3_sum_29 (fun v11 ev11 _ => ?_)
          have mv11 : v11.toInt = v6.toInt := by rw [ev11, ← ev6]
          refine zg_istore_n X [(3, .int v11), (2, .int x2), (0, .ref a0), (1, .int p1)] dX3_sum_32 (by decide) rfl ?_
          refine zg_aload_n X 2 rfl dX3_sum_33 ?_
          refine zg_iload_n X 0 rfl dX3_sum_34 ?_
          refine zg_cVv (As := [.int v11]) (st := []) X ha0 rfl (by decide) rfl (t_X3_take l d L kd κ 2 _ hI a0 ha0 v11 ) mk_X3_87 mc_X3_take mz_X3 mi_X3_take ml_X3_take (na := 1) ⟨md_X3.1, md_X3.2, by decide +kernel⟩ rfl ⟨by decide, by decide⟩ (Nat.le_of_ble_eq_true rfl) dX3_sum_35 (fun σ hI => ?_)
          refine zg_aload_n X 2 rfl dX3_sum_38 ?_
          refine zg_iload_n X 3 rfl dX3_sum_39 ?_
          refine zg_cVv (As := [.int p1]) (st := []) X ha0 rfl (by decide) rfl (t_X3_product_o2 l d L kd κ _ hI a0 ha0 p1 (by omega)) mk_X3_156 mc_X3_product mz_X3 mi_X3_product ml_X3_product (na := 1) ⟨md_X3.1, md_X3.2, by decide +kernel⟩ rfl ⟨by decide, by decide⟩ (Nat.le_of_ble_eq_true rfl) dX3_sum_40 (fun σ hI => ?_)
          refine zg_aload_n X 2 rfl dX3_sum_43 ?_
          refine fg_X3_18 X hI ha0 dX3_sum_44 (fun v12 _ hv12 => ?_)
          refine zg_iload_n X 0 rfl dX3_sum_47 ?_
          refine zg_bipush X 26 dX3_sum_48 (by decide) (fun v13 _ hv13 => ?_)
          refine zg_icmp_ne X 57 dX3_sum_50 (by decide) (fun c14 => ?_) (fun c14 => ?_)
          · skip
            refine zg_iconst X 3 dX3_sum_57 (by decide) (fun v15 _ hv15 => ?_)
            refine zg_iconst X 0 dX3_sum_58 (by decide) (fun v16 _ hv16 => ?_)
            refine zg_cVv (As := [.int v15, .int v16]) (st := []) X hv12 rfl (by decide) rfl (t_X9_addStep l d L kd κ 2 _ hI v12 hv12 v15 v16 ) mk_X3_145 mc_X9_addStep mz_X9 mi_X9_addStep ml_X9_addStep (na := 2) ⟨md_X9.1, md_X9.2, by decide +kernel⟩ rfl ⟨by decide, by decide⟩ (Nat.le_of_ble_eq_true rfl) dX3_sum_59 (fun σ hI => ?_)
            refine zg_iinc X 1 (fun v17 => [(2, .int v17), (3, .int v11), (0, .ref a0), (1, .int p1)]) 1 dX3_sum_62 rfl (by decide) (by decide) (by omega) (by omega) (fun _ => rfl) (fun v17 _ hv17 => ?_)
            refine zg_goto X 7 dX3_sum_65 (by decide) ?_
            refine zg_sub [0, 2, 3] rfl ?_
            exact ihLp3 _ v17 hI  (by omega) (by omega)
          · skip
            refine zg_iconst X 2 dX3_sum_53 (by decide) (fun v18 _ hv18 => ?_)
            refine zg_goto X 58 dX3_sum_54 (by decide) ?_
            refine zg_iconst X 0 dX3_sum_58 (by decide) (fun v19 _ hv19 => ?_)
            refine zg_cVv (As := [.int v18, .int v19]) (st := []) X hv12 rfl (by decide) rfl (t_X9_addStep l d L kd κ 2 _ hI v12 hv12 v18 v19 ) mk_X3_145 mc_X9_addStep mz_X9 mi_X9_addStep ml_X9_addStep (na := 2) ⟨md_X9.1, md_X9.2, by decide +kernel⟩ rfl ⟨by decide, by decide⟩ (Nat.le_of_ble_eq_true rfl) dX3_sum_59 (fun σ hI => ?_)
            refine zg_iinc X 1 (fun v20 => [(2, .int v20), (3, .int v11), (0, .ref a0), (1, .int p1)]) 1 dX3_sum_62 rfl (by decide) (by decide) (by omega) (by omega) (fun _ => rfl) (fun v20 _ hv20 => ?_)
            refine zg_goto X 7 dX3_sum_65 (by decide) ?_
            refine zg_sub [0, 2, 3] rfl ?_
            exact ihLp3 _ v20 hI  (by omega) (by omega)
  refine zg_sub [0, 1, 2] rfl ?_
  exact Lp3 (((401) - v1.toInt + 1).toNat + 1) _ v1 hI  (by omega) (by omega)
set_option maxHeartbeats 4000000 in
set_option maxRecDepth 100000 in
theorem t_X3_unit_o1 (l : Launch) (d : zD2) (L : List Nat) (kd : Nat → Nat) (κ : Int) (σ : zS) (hI : zI κ 2 L kd σ) (a0 : Nat) (ha0 : zT L kd a0 3) (p1 : Int32) (hq0 : p1.toInt = 1) : zMv l yX3_unit (Cond.code yX3_unit cX3_unit 2 none :: zWL) 17 [.ref a0, .int p1] d L kd σ (fun σ2 => zI κ 2 L kd σ2) := by
  refine zMv.of (own := RX3) (by decide +kernel) rfl rfl (Nat.le_of_ble_eq_true rfl) ?_
  intro p e s m args below meth c A Q X ret
  refine zg_lv (lv2 := [(0, .ref a0), (1, .int p1)]) rfl ?_
  refine zg_aload_n X 0 rfl dX3_unit_0 ?_
  refine fg_X3_26 X hI ha0 dX3_unit_1 (fun v1 ev1 _ => ?_)
  refine zg_bipush X 23 dX3_unit_4 (by decide) (fun v2 _ hv2 => ?_)
  refine zg_icmp_ne X 33 dX3_unit_6 (by decide) (fun c3 => ?_) (fun c3 => ?_)
  · skip
    refine zg_aload_n X 0 rfl dX3_unit_33 ?_
    refine fg_X3_26 X hI ha0 dX3_unit_34 (fun v4 ev4 _ => ?_)
    have mv4 : v4.toInt = v1.toInt := by rw [ev4, ← ev1]
    refine zg_bipush X 13 dX3_unit_37 (by decide) (fun v5 _ hv5 => ?_)
    have zv4_z6 := zb_rng v4
    refine zg_icmp_lt X 77 dX3_unit_39 (by decide) (fun c7 => ?_) (fun c7 => ?_)
    · skip
      refine zg_aload_n X 0 rfl dX3_unit_77 ?_
      refine fg_X3_26 X hI ha0 dX3_unit_78 (fun v8 ev8 _ => ?_)
      have mv8 : v8.toInt = v4.toInt := by rw [ev8, ← ev4]
      refine zg_bipush X 31 dX3_unit_81 (by decide) (fun v9 _ hv9 => ?_)
      refine zg_icmp_ne X 116 dX3_unit_83 (by decide) (fun c10 => ?_) (fun c10 => ?_)
      · skip
        refine zg_aload_n X 0 rfl dX3_unit_116 ?_
        refine zg_aload_n X 0 rfl dX3_unit_117 ?_
        refine fg_X3_26 X hI ha0 dX3_unit_118 (fun v11 ev11 _ => ?_)
        have mv11 : v11.toInt = v8.toInt := by rw [ev11, ← ev8]
        refine zg_bipush X 31 dX3_unit_121 (by decide) (fun v12 _ hv12 => ?_)
        refine zg_icmp_ne X 130 dX3_unit_123 (by decide) (fun c13 => ?_) (fun c13 => ?_)
        · skip
          refine zg_iconst X 1 dX3_unit_130 (by decide) (fun v14 _ hv14 => ?_)
          refine zg_cVv (As := [.int v14]) (st := []) X ha0 rfl (by decide) rfl (t_X3_fail l d L kd κ 2 _ hI a0 ha0 v14 ) mk_X3_106 mc_X3_fail mz_X3 mi_X3_fail ml_X3_fail (na := 1) ⟨md_X3.1, md_X3.2, by decide +kernel⟩ rfl ⟨by decide, by decide⟩ (Nat.le_of_ble_eq_true rfl) dX3_unit_131 (fun σ hI => ?_)
          exact ret _ _ _ dX3_unit_134 hI
        · omega
      · omega
    · skip
      refine zg_aload_n X 0 rfl dX3_unit_42 ?_
      refine fg_X3_26 X hI ha0 dX3_unit_43 (fun v15 ev15 _ => ?_)
      have mv15 : v15.toInt = v4.toInt := by rw [ev15, ← ev4]
      refine zg_bipush X 22 dX3_unit_46 (by decide) (fun v16 _ hv16 => ?_)
      have zv15_z17 := zb_rng v15
      refine zg_icmp_ge X 77 dX3_unit_48 (by decide) (fun c18 => ?_) (fun c18 => ?_)
      · skip
        refine zg_aload_n X 0 rfl dX3_unit_77 ?_
        refine fg_X3_26 X hI ha0 dX3_unit_78 (fun v19 ev19 _ => ?_)
        have mv19 : v19.toInt = v15.toInt := by rw [ev19, ← ev15]
        refine zg_bipush X 31 dX3_unit_81 (by decide) (fun v20 _ hv20 => ?_)
        refine zg_icmp_ne X 116 dX3_unit_83 (by decide) (fun c21 => ?_) (fun c21 => ?_)
        · skip
          refine zg_aload_n X 0 rfl dX3_unit_116 ?_
          refine zg_aload_n X 0 rfl dX3_unit_117 ?_
          refine fg_X3_26 X hI ha0 dX3_unit_118 (fun v22 ev22 _ => ?_)
          have mv22 : v22.toInt = v19.toInt := by rw [ev22, ← ev19]
          refine zg_bipush X 31 dX3_unit_121 (by decide) (fun v23 _ hv23 => ?_)
          refine zg_icmp_ne X 130 dX3_unit_123 (by decide) (fun c24 => ?_) (fun c24 => ?_)
          · skip
            refine zg_iconst X 1 dX3_unit_130 (by decide) (fun v25 _ hv25 => ?_)
            refine zg_cVv (As := [.int v25]) (st := []) X ha0 rfl (by decide) rfl (t_X3_fail l d L kd κ 2 _ hI a0 ha0 v25 ) mk_X3_106 mc_X3_fail mz_X3 mi_X3_fail ml_X3_fail (na := 1) ⟨md_X3.1, md_X3.2, by decide +kernel⟩ rfl ⟨by decide, by decide⟩ (Nat.le_of_ble_eq_true rfl) dX3_unit_131 (fun σ hI => ?_)
            exact ret _ _ _ dX3_unit_134 hI
          · skip
            refine zg_iconst X 2 dX3_unit_126 (by decide) (fun v26 _ hv26 => ?_)
            refine zg_goto X 131 dX3_unit_127 (by decide) ?_
            refine zg_cVv (As := [.int v26]) (st := []) X ha0 rfl (by decide) rfl (t_X3_fail l d L kd κ 2 _ hI a0 ha0 v26 ) mk_X3_106 mc_X3_fail mz_X3 mi_X3_fail ml_X3_fail (na := 1) ⟨md_X3.1, md_X3.2, by decide +kernel⟩ rfl ⟨by decide, by decide⟩ (Nat.le_of_ble_eq_true rfl) dX3_unit_131 (fun σ hI => ?_)
            exact ret _ _ _ dX3_unit_134 hI
        · skip
          refine zg_iload_n X 1 rfl dX3_unit_86 ?_
          refine zg_bipush X 6 dX3_unit_87 (by decide) (fun v27 _ hv27 => ?_)
          refine zg_icmp_ge X 116 dX3_unit_89 (by decide) (fun c28 => ?_) (fun c28 => ?_)
          · omega
          · skip
            refine zg_aload_n X 0 rfl dX3_unit_92 ?_
            refine zg_aload_n X 0 rfl dX3_unit_93 ?_
            refine fg_X3_26 X hI ha0 dX3_unit_94 (fun v29 ev29 _ => ?_)
            have mv29 : v29.toInt = v19.toInt := by rw [ev29, ← ev19]
            refine zg_cVv (As := [.int v29]) (st := []) X ha0 rfl (by decide) rfl (t_X3_take l d L kd κ 2 _ hI a0 ha0 v29 ) mk_X3_87 mc_X3_take mz_X3 mi_X3_take ml_X3_take (na := 1) ⟨md_X3.1, md_X3.2, by decide +kernel⟩ rfl ⟨by decide, by decide⟩ (Nat.le_of_ble_eq_true rfl) dX3_unit_97 (fun σ hI => ?_)
            refine zg_aload_n X 0 rfl dX3_unit_100 ?_
            refine zg_iload_n X 1 rfl dX3_unit_101 ?_
            refine zg_iconst X 1 dX3_unit_102 (by decide) (fun v30 _ hv30 => ?_)
            refine zg_iadd X dX3_unit_103 (by omega) (by omega) (fun v31 _ hv31 => ?_)
            refine zg_cVv (As := [.int v31]) (st := []) X ha0 rfl (by decide) rfl (t_X3_sum_o2 l d L kd κ _ hI a0 ha0 v31 (by omega)) mk_X3_140 mc_X3_sum mz_X3 mi_X3_sum ml_X3_sum (na := 1) ⟨md_X3.1, md_X3.2, by decide +kernel⟩ rfl ⟨by decide, by decide⟩ (Nat.le_of_ble_eq_true rfl) dX3_unit_104 (fun σ hI => ?_)
            refine zg_aload_n X 0 rfl dX3_unit_107 ?_
            refine zg_bipush X 32 dX3_unit_108 (by decide) (fun v32 _ hv32 => ?_)
            refine zg_cVv (As := [.int v32]) (st := []) X ha0 rfl (by decide) rfl (t_X3_take l d L kd κ 2 _ hI a0 ha0 v32 ) mk_X3_87 mc_X3_take mz_X3 mi_X3_take ml_X3_take (na := 1) ⟨md_X3.1, md_X3.2, by decide +kernel⟩ rfl ⟨by decide, by decide⟩ (Nat.le_of_ble_eq_true rfl) dX3_unit_110 (fun σ hI => ?_)
            refine zg_goto X 134 dX3_unit_113 (by decide) ?_
            exact ret _ _ _ dX3_unit_134 hI
      · skip
        refine zg_aload_n X 0 rfl dX3_unit_51 ?_
        refine fg_X3_18 X hI ha0 dX3_unit_52 (fun v33 _ hv33 => ?_)
        refine zg_iconst X 1 dX3_unit_55 (by decide) (fun v34 _ hv34 => ?_)
        refine zg_aload_n X 0 rfl dX3_unit_56 ?_
        refine fg_X3_26 X hI ha0 dX3_unit_57 (fun v35 ev35 _ => ?_)
        have mv35 : v35.toInt = v15.toInt := by rw [ev35, ← ev15]
        refine zg_bipush X 13 dX3_unit_60 (by decide) (fun v36 _ hv36 => ?_)
        refine zg_isub X dX3_unit_62 (by omega) (by omega) (fun v37 _ hv37 => ?_)
        refine zg_cVv (As := [.int v34, .int v37]) (st := []) X hv33 rfl (by decide) rfl (t_X9_addStep l d L kd κ 2 _ hI v33 hv33 v34 v37 ) mk_X3_145 mc_X9_addStep mz_X9 mi_X9_addStep ml_X9_addStep (na := 2) ⟨md_X9.1, md_X9.2, by decide +kernel⟩ rfl ⟨by decide, by decide⟩ (Nat.le_of_ble_eq_true rfl) dX3_unit_63 (fun σ hI => ?_)
        refine zg_aload_n X 0 rfl dX3_unit_66 ?_
        refine zg_aload_n X 0 rfl dX3_unit_67 ?_
        refine fg_X3_26 X hI ha0 dX3_unit_68 (fun v38 ev38 _ => ?_)
        refine zg_cVv (As := [.int v38]) (st := []) X ha0 rfl (by decide) rfl (t_X3_take l d L kd κ 2 _ hI a0 ha0 v38 ) mk_X3_87 mc_X3_take mz_X3 mi_X3_take ml_X3_take (na := 1) ⟨md_X3.1, md_X3.2, by decide +kernel⟩ rfl ⟨by decide, by decide⟩ (Nat.le_of_ble_eq_true rfl) dX3_unit_71 (fun σ hI => ?_)
        refine zg_goto X 134 dX3_unit_74 (by decide) ?_
        exact ret _ _ _ dX3_unit_134 hI
  · skip
    refine zg_aload_n X 0 rfl dX3_unit_9 ?_
    refine fg_X3_18 X hI ha0 dX3_unit_10 (fun v39 _ hv39 => ?_)
    refine zg_iconst X 0 dX3_unit_13 (by decide) (fun v40 _ hv40 => ?_)
    refine zg_aload_n X 0 rfl dX3_unit_14 ?_
    refine fg_X3_29 X ha0 dX3_unit_15 (fun v41 _ => ?_)
    refine zg_l2i X dX3_unit_18 (fun v42 ev42 => ?_)
    refine zg_cVv (As := [.int v40, .int v42]) (st := []) X hv39 rfl (by decide) rfl (t_X9_addStep l d L kd κ 2 _ hI v39 hv39 v40 v42 ) mk_X3_145 mc_X9_addStep mz_X9 mi_X9_addStep ml_X9_addStep (na := 2) ⟨md_X9.1, md_X9.2, by decide +kernel⟩ rfl ⟨by decide, by decide⟩ (Nat.le_of_ble_eq_true rfl) dX3_unit_19 (fun σ hI => ?_)
    refine zg_aload_n X 0 rfl dX3_unit_22 ?_
    refine zg_aload_n X 0 rfl dX3_unit_23 ?_
    refine fg_X3_26 X hI ha0 dX3_unit_24 (fun v43 ev43 _ => ?_)
    refine zg_cVv (As := [.int v43]) (st := []) X ha0 rfl (by decide) rfl (t_X3_take l d L kd κ 2 _ hI a0 ha0 v43 ) mk_X3_87 mc_X3_take mz_X3 mi_X3_take ml_X3_take (na := 1) ⟨md_X3.1, md_X3.2, by decide +kernel⟩ rfl ⟨by decide, by decide⟩ (Nat.le_of_ble_eq_true rfl) dX3_unit_27 (fun σ hI => ?_)
    refine zg_goto X 134 dX3_unit_30 (by decide) ?_
    exact ret _ _ _ dX3_unit_134 hI
set_option maxHeartbeats 4000000 in
set_option maxRecDepth 100000 in
theorem t_X3_product_o1 (l : Launch) (d : zD2) (L : List Nat) (kd : Nat → Nat) (κ : Int) (σ : zS) (hI : zI κ 2 L kd σ) (a0 : Nat) (ha0 : zT L kd a0 3) (p1 : Int32) (hq0 : p1.toInt = 1) : zMv l yX3_product (Cond.code yX3_product cX3_product 4 none :: zWL) 18 [.ref a0, .int p1] d L kd σ (fun σ2 => zI κ 2 L kd σ2) := by
  refine zMv.of (own := RX3) (by decide +kernel) rfl rfl (Nat.le_of_ble_eq_true rfl) ?_
  intro p e s m args below meth c A Q X ret
  refine zg_lv (lv2 := [(0, .ref a0), (1, .int p1)]) rfl ?_
  refine zg_aload_n X 0 rfl dX3_product_0 ?_
  refine zg_iload_n X 1 rfl dX3_product_1 ?_
  refine zg_cVv (As := [.int p1]) (st := []) X ha0 rfl (by decide) rfl (t_X3_unit_o1 l d L kd κ _ hI a0 ha0 p1 (by omega)) mk_X3_159 mc_X3_unit mz_X3 mi_X3_unit ml_X3_unit (na := 1) ⟨md_X3.1, md_X3.2, by decide +kernel⟩ rfl ⟨by decide, by decide⟩ (Nat.le_of_ble_eq_true rfl) dX3_product_2 (fun σ hI => ?_)
  refine zg_iconst X 0 dX3_product_5 (by decide) (fun v1 _ hv1 => ?_)
  refine zg_istore_n X [(2, .int v1), (0, .ref a0), (1, .int p1)] dX3_product_6 (by decide) rfl ?_
  have Lp3 : ∀ (n : Nat) (σ : zS) (x2 : Int32), zI κ 2 L kd σ → 0 ≤ x2.toInt ∧ x2.toInt ≤ 401 → (401) - x2.toInt + 1 < (n : Int) → zG d L kd A 4 p l e (k2_rm 18 (100 * 18)) s m args below meth c Q σ 7 [(2, .int x2), (0, .ref a0), (1, .int p1)] [] := by
    intro n
    induction n with
    | zero => intro σ x2 hI  hxLp3 hm; exact absurd hm (by omega)
    | succ n ihLp3 =>
      intro σ x2 hI  hxLp3 hmLp3
      refine zg_iload_n X 0 rfl dX3_product_7 ?_
      refine zg_sipush X 400 dX3_product_8 (by decide) (fun v4 _ hv4 => ?_)
      refine zg_icmp_gt X 68 dX3_product_11 (by decide) (fun c5 => ?_) (fun c5 => ?_)
      · skip
        exact ret _ _ _ dX3_product_68 hI
      · skip
        refine zg_aload_n X 1 rfl dX3_product_14 ?_
        refine fg_X3_26 X hI ha0 dX3_product_15 (fun v6 ev6 _ => ?_)
        refine zg_bipush X 28 dX3_product_18 (by decide) (fun v7 _ hv7 => ?_)
        refine zg_bipush X 29 dX3_product_20 (by decide) (fun v8 _ hv8 => ?_)
        refine zg_cSNi (As := [.int v6, .int v7, .int v8]) (st := []) X (t_X10_isWithin l d L kd _ v6 v7 v8 ) mk_X3_80 mc_X10_isWithin mz_X10 ms_X10_isWithin (na := 3) ⟨md_X10.1, md_X10.2, by decide +kernel⟩ rfl ⟨by decide, by decide⟩ (Nat.le_of_ble_eq_true rfl) dX3_product_22 (fun v9 σ2 hq => ?_)
        obtain ⟨hv9, rfl⟩ := hq
        refine zg_if_eq X 68 dX3_product_25 (by decide) (fun c10 => ?_) (fun c10 => ?_)
        · skip
          exact ret _ _ _ dX3_product_68 hI
        · skip
          refine zg_aload_n X 1 rfl dX3_product_28 ?_
          refine fg_X3_26 X hI ha0 dX3_product_29 (fun v11 ev11 _ => ?_)
          have mv11 : v11.toInt = v6.toInt := by rw [ev11, ← ev6]
          refine zg_istore_n X [(3, .int v11), (2, .int x2), (0, .ref a0), (1, .int p1)] dX3_product_32 (by decide) rfl ?_
          refine zg_aload_n X 2 rfl dX3_product_33 ?_
          refine zg_iload_n X 0 rfl dX3_product_34 ?_
          refine zg_cVv (As := [.int v11]) (st := []) X ha0 rfl (by decide) rfl (t_X3_take l d L kd κ 2 _ hI a0 ha0 v11 ) mk_X3_87 mc_X3_take mz_X3 mi_X3_take ml_X3_take (na := 1) ⟨md_X3.1, md_X3.2, by decide +kernel⟩ rfl ⟨by decide, by decide⟩ (Nat.le_of_ble_eq_true rfl) dX3_product_35 (fun σ hI => ?_)
          refine zg_aload_n X 2 rfl dX3_product_38 ?_
          refine zg_iload_n X 3 rfl dX3_product_39 ?_
          refine zg_cVv (As := [.int p1]) (st := []) X ha0 rfl (by decide) rfl (t_X3_unit_o1 l d L kd κ _ hI a0 ha0 p1 (by omega)) mk_X3_159 mc_X3_unit mz_X3 mi_X3_unit ml_X3_unit (na := 1) ⟨md_X3.1, md_X3.2, by decide +kernel⟩ rfl ⟨by decide, by decide⟩ (Nat.le_of_ble_eq_true rfl) dX3_product_40 (fun σ hI => ?_)
          refine zg_aload_n X 2 rfl dX3_product_43 ?_
          refine fg_X3_18 X hI ha0 dX3_product_44 (fun v12 _ hv12 => ?_)
          refine zg_iload_n X 0 rfl dX3_product_47 ?_
          refine zg_bipush X 28 dX3_product_48 (by decide) (fun v13 _ hv13 => ?_)
          refine zg_icmp_ne X 57 dX3_product_50 (by decide) (fun c14 => ?_) (fun c14 => ?_)
          · skip
            refine zg_iconst X 5 dX3_product_57 (by decide) (fun v15 _ hv15 => ?_)
            refine zg_iconst X 0 dX3_product_58 (by decide) (fun v16 _ hv16 => ?_)
            refine zg_cVv (As := [.int v15, .int v16]) (st := []) X hv12 rfl (by decide) rfl (t_X9_addStep l d L kd κ 2 _ hI v12 hv12 v15 v16 ) mk_X3_145 mc_X9_addStep mz_X9 mi_X9_addStep ml_X9_addStep (na := 2) ⟨md_X9.1, md_X9.2, by decide +kernel⟩ rfl ⟨by decide, by decide⟩ (Nat.le_of_ble_eq_true rfl) dX3_product_59 (fun σ hI => ?_)
            refine zg_iinc X 1 (fun v17 => [(2, .int v17), (3, .int v11), (0, .ref a0), (1, .int p1)]) 1 dX3_product_62 rfl (by decide) (by decide) (by omega) (by omega) (fun _ => rfl) (fun v17 _ hv17 => ?_)
            refine zg_goto X 7 dX3_product_65 (by decide) ?_
            refine zg_sub [0, 2, 3] rfl ?_
            exact ihLp3 _ v17 hI  (by omega) (by omega)
          · skip
            refine zg_iconst X 4 dX3_product_53 (by decide) (fun v18 _ hv18 => ?_)
            refine zg_goto X 58 dX3_product_54 (by decide) ?_
            refine zg_iconst X 0 dX3_product_58 (by decide) (fun v19 _ hv19 => ?_)
            refine zg_cVv (As := [.int v18, .int v19]) (st := []) X hv12 rfl (by decide) rfl (t_X9_addStep l d L kd κ 2 _ hI v12 hv12 v18 v19 ) mk_X3_145 mc_X9_addStep mz_X9 mi_X9_addStep ml_X9_addStep (na := 2) ⟨md_X9.1, md_X9.2, by decide +kernel⟩ rfl ⟨by decide, by decide⟩ (Nat.le_of_ble_eq_true rfl) dX3_product_59 (fun σ hI => ?_)
            refine zg_iinc X 1 (fun v20 => [(2, .int v20), (3, .int v11), (0, .ref a0), (1, .int p1)]) 1 dX3_product_62 rfl (by decide) (by decide) (by omega) (by omega) (fun _ => rfl) (fun v20 _ hv20 => ?_)
            refine zg_goto X 7 dX3_product_65 (by decide) ?_
            refine zg_sub [0, 2, 3] rfl ?_
            exact ihLp3 _ v20 hI  (by omega) (by omega)
  refine zg_sub [0, 1, 2] rfl ?_
  exact Lp3 (((401) - v1.toInt + 1).toNat + 1) _ v1 hI  (by omega) (by omega)
set_option maxHeartbeats 4000000 in
set_option maxRecDepth 100000 in
theorem t_X3_sum_o1 (l : Launch) (d : zD2) (L : List Nat) (kd : Nat → Nat) (κ : Int) (σ : zS) (hI : zI κ 2 L kd σ) (a0 : Nat) (ha0 : zT L kd a0 3) (p1 : Int32) (hq0 : p1.toInt = 1) : zMv l yX3_sum (Cond.code yX3_sum cX3_sum 4 none :: zWL) 19 [.ref a0, .int p1] d L kd σ (fun σ2 => zI κ 2 L kd σ2) := by
  refine zMv.of (own := RX3) (by decide +kernel) rfl rfl (Nat.le_of_ble_eq_true rfl) ?_
  intro p e s m args below meth c A Q X ret
  refine zg_lv (lv2 := [(0, .ref a0), (1, .int p1)]) rfl ?_
  refine zg_aload_n X 0 rfl dX3_sum_0 ?_
  refine zg_iload_n X 1 rfl dX3_sum_1 ?_
  refine zg_cVv (As := [.int p1]) (st := []) X ha0 rfl (by decide) rfl (t_X3_product_o1 l d L kd κ _ hI a0 ha0 p1 (by omega)) mk_X3_156 mc_X3_product mz_X3 mi_X3_product ml_X3_product (na := 1) ⟨md_X3.1, md_X3.2, by decide +kernel⟩ rfl ⟨by decide, by decide⟩ (Nat.le_of_ble_eq_true rfl) dX3_sum_2 (fun σ hI => ?_)
  refine zg_iconst X 0 dX3_sum_5 (by decide) (fun v1 _ hv1 => ?_)
  refine zg_istore_n X [(2, .int v1), (0, .ref a0), (1, .int p1)] dX3_sum_6 (by decide) rfl ?_
  have Lp3 : ∀ (n : Nat) (σ : zS) (x2 : Int32), zI κ 2 L kd σ → 0 ≤ x2.toInt ∧ x2.toInt ≤ 401 → (401) - x2.toInt + 1 < (n : Int) → zG d L kd A 4 p l e (k2_rm 19 (100 * 19)) s m args below meth c Q σ 7 [(2, .int x2), (0, .ref a0), (1, .int p1)] [] := by
    intro n
    induction n with
    | zero => intro σ x2 hI  hxLp3 hm; exact absurd hm (by omega)
    | succ n ihLp3 =>
      intro σ x2 hI  hxLp3 hmLp3
      refine zg_iload_n X 0 rfl dX3_sum_7 ?_
      refine zg_sipush X 400 dX3_sum_8 (by decide) (fun v4 _ hv4 => ?_)
      refine zg_icmp_gt X 68 dX3_sum_11 (by decide) (fun c5 => ?_) (fun c5 => ?_)
      · skip
        exact ret _ _ _ dX3_sum_68 hI
      · skip
        refine zg_aload_n X 1 rfl dX3_sum_14 ?_
        refine fg_X3_26 X hI ha0 dX3_sum_15 (fun v6 ev6 _ => ?_)
        refine zg_bipush X 26 dX3_sum_18 (by decide) (fun v7 _ hv7 => ?_)
        refine zg_bipush X 27 dX3_sum_20 (by decide) (fun v8 _ hv8 => ?_)
        refine zg_cSNi (As := [.int v6, .int v7, .int v8]) (st := []) X (t_X10_isWithin l d L kd _ v6 v7 v8 ) mk_X3_80 mc_X10_isWithin mz_X10 ms_X10_isWithin (na := 3) ⟨md_X10.1, md_X10.2, by decide +kernel⟩ rfl ⟨by decide, by decide⟩ (Nat.le_of_ble_eq_true rfl) dX3_sum_22 (fun v9 σ2 hq => ?_)
        obtain ⟨hv9, rfl⟩ := hq
        refine zg_if_eq X 68 dX3_sum_25 (by decide) (fun c10 => ?_) (fun c10 => ?_)
        · skip
          exact ret _ _ _ dX3_sum_68 hI
        · skip
          refine zg_aload_n X 1 rfl dX3_sum_28 ?_
          refine fg_X3_26 X hI ha0 dX3_sum_29 (fun v11 ev11 _ => ?_)
          have mv11 : v11.toInt = v6.toInt := by rw [ev11, ← ev6]
          refine zg_istore_n X [(3, .int v11), (2, .int x2), (0, .ref a0), (1, .int p1)] dX3_sum_32 (by decide) rfl ?_
          refine zg_aload_n X 2 rfl dX3_sum_33 ?_
          refine zg_iload_n X 0 rfl dX3_sum_34 ?_
          refine zg_cVv (As := [.int v11]) (st := []) X ha0 rfl (by decide) rfl (t_X3_take l d L kd κ 2 _ hI a0 ha0 v11 ) mk_X3_87 mc_X3_take mz_X3 mi_X3_take ml_X3_take (na := 1) ⟨md_X3.1, md_X3.2, by decide +kernel⟩ rfl ⟨by decide, by decide⟩ (Nat.le_of_ble_eq_true rfl) dX3_sum_35 (fun σ hI => ?_)
          refine zg_aload_n X 2 rfl dX3_sum_38 ?_
          refine zg_iload_n X 3 rfl dX3_sum_39 ?_
          refine zg_cVv (As := [.int p1]) (st := []) X ha0 rfl (by decide) rfl (t_X3_product_o1 l d L kd κ _ hI a0 ha0 p1 (by omega)) mk_X3_156 mc_X3_product mz_X3 mi_X3_product ml_X3_product (na := 1) ⟨md_X3.1, md_X3.2, by decide +kernel⟩ rfl ⟨by decide, by decide⟩ (Nat.le_of_ble_eq_true rfl) dX3_sum_40 (fun σ hI => ?_)
          refine zg_aload_n X 2 rfl dX3_sum_43 ?_
          refine fg_X3_18 X hI ha0 dX3_sum_44 (fun v12 _ hv12 => ?_)
          refine zg_iload_n X 0 rfl dX3_sum_47 ?_
          refine zg_bipush X 26 dX3_sum_48 (by decide) (fun v13 _ hv13 => ?_)
          refine zg_icmp_ne X 57 dX3_sum_50 (by decide) (fun c14 => ?_) (fun c14 => ?_)
          · skip
            refine zg_iconst X 3 dX3_sum_57 (by decide) (fun v15 _ hv15 => ?_)
            refine zg_iconst X 0 dX3_sum_58 (by decide) (fun v16 _ hv16 => ?_)
            refine zg_cVv (As := [.int v15, .int v16]) (st := []) X hv12 rfl (by decide) rfl (t_X9_addStep l d L kd κ 2 _ hI v12 hv12 v15 v16 ) mk_X3_145 mc_X9_addStep mz_X9 mi_X9_addStep ml_X9_addStep (na := 2) ⟨md_X9.1, md_X9.2, by decide +kernel⟩ rfl ⟨by decide, by decide⟩ (Nat.le_of_ble_eq_true rfl) dX3_sum_59 (fun σ hI => ?_)
            refine zg_iinc X 1 (fun v17 => [(2, .int v17), (3, .int v11), (0, .ref a0), (1, .int p1)]) 1 dX3_sum_62 rfl (by decide) (by decide) (by omega) (by omega) (fun _ => rfl) (fun v17 _ hv17 => ?_)
            refine zg_goto X 7 dX3_sum_65 (by decide) ?_
            refine zg_sub [0, 2, 3] rfl ?_
            exact ihLp3 _ v17 hI  (by omega) (by omega)
          · skip
            refine zg_iconst X 2 dX3_sum_53 (by decide) (fun v18 _ hv18 => ?_)
            refine zg_goto X 58 dX3_sum_54 (by decide) ?_
            refine zg_iconst X 0 dX3_sum_58 (by decide) (fun v19 _ hv19 => ?_)
            refine zg_cVv (As := [.int v18, .int v19]) (st := []) X hv12 rfl (by decide) rfl (t_X9_addStep l d L kd κ 2 _ hI v12 hv12 v18 v19 ) mk_X3_145 mc_X9_addStep mz_X9 mi_X9_addStep ml_X9_addStep (na := 2) ⟨md_X9.1, md_X9.2, by decide +kernel⟩ rfl ⟨by decide, by decide⟩ (Nat.le_of_ble_eq_true rfl) dX3_sum_59 (fun σ hI => ?_)
            refine zg_iinc X 1 (fun v20 => [(2, .int v20), (3, .int v11), (0, .ref a0), (1, .int p1)]) 1 dX3_sum_62 rfl (by decide) (by decide) (by omega) (by omega) (fun _ => rfl) (fun v20 _ hv20 => ?_)
            refine zg_goto X 7 dX3_sum_65 (by decide) ?_
            refine zg_sub [0, 2, 3] rfl ?_
            exact ihLp3 _ v20 hI  (by omega) (by omega)
  refine zg_sub [0, 1, 2] rfl ?_
  exact Lp3 (((401) - v1.toInt + 1).toNat + 1) _ v1 hI  (by omega) (by omega)
set_option maxHeartbeats 4000000 in
set_option maxRecDepth 100000 in
theorem t_X3_unit_o0 (l : Launch) (d : zD2) (L : List Nat) (kd : Nat → Nat) (κ : Int) (σ : zS) (hI : zI κ 2 L kd σ) (a0 : Nat) (ha0 : zT L kd a0 3) (p1 : Int32) (hq0 : p1.toInt = 0) : zMv l yX3_unit (Cond.code yX3_unit cX3_unit 2 none :: zWL) 20 [.ref a0, .int p1] d L kd σ (fun σ2 => zI κ 2 L kd σ2) := by
  refine zMv.of (own := RX3) (by decide +kernel) rfl rfl (Nat.le_of_ble_eq_true rfl) ?_
  intro p e s m args below meth c A Q X ret
  refine zg_lv (lv2 := [(0, .ref a0), (1, .int p1)]) rfl ?_
  refine zg_aload_n X 0 rfl dX3_unit_0 ?_
  refine fg_X3_26 X hI ha0 dX3_unit_1 (fun v1 ev1 _ => ?_)
  refine zg_bipush X 23 dX3_unit_4 (by decide) (fun v2 _ hv2 => ?_)
  refine zg_icmp_ne X 33 dX3_unit_6 (by decide) (fun c3 => ?_) (fun c3 => ?_)
  · skip
    refine zg_aload_n X 0 rfl dX3_unit_33 ?_
    refine fg_X3_26 X hI ha0 dX3_unit_34 (fun v4 ev4 _ => ?_)
    have mv4 : v4.toInt = v1.toInt := by rw [ev4, ← ev1]
    refine zg_bipush X 13 dX3_unit_37 (by decide) (fun v5 _ hv5 => ?_)
    have zv4_z6 := zb_rng v4
    refine zg_icmp_lt X 77 dX3_unit_39 (by decide) (fun c7 => ?_) (fun c7 => ?_)
    · skip
      refine zg_aload_n X 0 rfl dX3_unit_77 ?_
      refine fg_X3_26 X hI ha0 dX3_unit_78 (fun v8 ev8 _ => ?_)
      have mv8 : v8.toInt = v4.toInt := by rw [ev8, ← ev4]
      refine zg_bipush X 31 dX3_unit_81 (by decide) (fun v9 _ hv9 => ?_)
      refine zg_icmp_ne X 116 dX3_unit_83 (by decide) (fun c10 => ?_) (fun c10 => ?_)
      · skip
        refine zg_aload_n X 0 rfl dX3_unit_116 ?_
        refine zg_aload_n X 0 rfl dX3_unit_117 ?_
        refine fg_X3_26 X hI ha0 dX3_unit_118 (fun v11 ev11 _ => ?_)
        have mv11 : v11.toInt = v8.toInt := by rw [ev11, ← ev8]
        refine zg_bipush X 31 dX3_unit_121 (by decide) (fun v12 _ hv12 => ?_)
        refine zg_icmp_ne X 130 dX3_unit_123 (by decide) (fun c13 => ?_) (fun c13 => ?_)
        · skip
          refine zg_iconst X 1 dX3_unit_130 (by decide) (fun v14 _ hv14 => ?_)
          refine zg_cVv (As := [.int v14]) (st := []) X ha0 rfl (by decide) rfl (t_X3_fail l d L kd κ 2 _ hI a0 ha0 v14 ) mk_X3_106 mc_X3_fail mz_X3 mi_X3_fail ml_X3_fail (na := 1) ⟨md_X3.1, md_X3.2, by decide +kernel⟩ rfl ⟨by decide, by decide⟩ (Nat.le_of_ble_eq_true rfl) dX3_unit_131 (fun σ hI => ?_)
          exact ret _ _ _ dX3_unit_134 hI
        · omega
      · omega
    · skip
      refine zg_aload_n X 0 rfl dX3_unit_42 ?_
      refine fg_X3_26 X hI ha0 dX3_unit_43 (fun v15 ev15 _ => ?_)
      have mv15 : v15.toInt = v4.toInt := by rw [ev15, ← ev4]
      refine zg_bipush X 22 dX3_unit_46 (by decide) (fun v16 _ hv16 => ?_)
      have zv15_z17 := zb_rng v15
      refine zg_icmp_ge X 77 dX3_unit_48 (by decide) (fun c18 => ?_) (fun c18 => ?_)
      · skip
        refine zg_aload_n X 0 rfl dX3_unit_77 ?_
        refine fg_X3_26 X hI ha0 dX3_unit_78 (fun v19 ev19 _ => ?_)
        have mv19 : v19.toInt = v15.toInt := by rw [ev19, ← ev15]
        refine zg_bipush X 31 dX3_unit_81 (by decide) (fun v20 _ hv20 => ?_)
        refine zg_icmp_ne X 116 dX3_unit_83 (by decide) (fun c21 => ?_) (fun c21 => ?_)
        · skip
          refine zg_aload_n X 0 rfl dX3_unit_116 ?_
          refine zg_aload_n X 0 rfl dX3_unit_117 ?_
          refine fg_X3_26 X hI ha0 dX3_unit_118 (fun v22 ev22 _ => ?_)
          have mv22 : v22.toInt = v19.toInt := by rw [ev22, ← ev19]
          refine zg_bipush X 31 dX3_unit_121 (by decide) (fun v23 _ hv23 => ?_)
          refine zg_icmp_ne X 130 dX3_unit_123 (by decide) (fun c24 => ?_) (fun c24 => ?_)
          · skip
            refine zg_iconst X 1 dX3_unit_130 (by decide) (fun v25 _ hv25 => ?_)
            refine zg_cVv (As := [.int v25]) (st := []) X ha0 rfl (by decide) rfl (t_X3_fail l d L kd κ 2 _ hI a0 ha0 v25 ) mk_X3_106 mc_X3_fail mz_X3 mi_X3_fail ml_X3_fail (na := 1) ⟨md_X3.1, md_X3.2, by decide +kernel⟩ rfl ⟨by decide, by decide⟩ (Nat.le_of_ble_eq_true rfl) dX3_unit_131 (fun σ hI => ?_)
            exact ret _ _ _ dX3_unit_134 hI
          · skip
            refine zg_iconst X 2 dX3_unit_126 (by decide) (fun v26 _ hv26 => ?_)
            refine zg_goto X 131 dX3_unit_127 (by decide) ?_
            refine zg_cVv (As := [.int v26]) (st := []) X ha0 rfl (by decide) rfl (t_X3_fail l d L kd κ 2 _ hI a0 ha0 v26 ) mk_X3_106 mc_X3_fail mz_X3 mi_X3_fail ml_X3_fail (na := 1) ⟨md_X3.1, md_X3.2, by decide +kernel⟩ rfl ⟨by decide, by decide⟩ (Nat.le_of_ble_eq_true rfl) dX3_unit_131 (fun σ hI => ?_)
            exact ret _ _ _ dX3_unit_134 hI
        · skip
          refine zg_iload_n X 1 rfl dX3_unit_86 ?_
          refine zg_bipush X 6 dX3_unit_87 (by decide) (fun v27 _ hv27 => ?_)
          refine zg_icmp_ge X 116 dX3_unit_89 (by decide) (fun c28 => ?_) (fun c28 => ?_)
          · omega
          · skip
            refine zg_aload_n X 0 rfl dX3_unit_92 ?_
            refine zg_aload_n X 0 rfl dX3_unit_93 ?_
            refine fg_X3_26 X hI ha0 dX3_unit_94 (fun v29 ev29 _ => ?_)
            have mv29 : v29.toInt = v19.toInt := by rw [ev29, ← ev19]
            refine zg_cVv (As := [.int v29]) (st := []) X ha0 rfl (by decide) rfl (t_X3_take l d L kd κ 2 _ hI a0 ha0 v29 ) mk_X3_87 mc_X3_take mz_X3 mi_X3_take ml_X3_take (na := 1) ⟨md_X3.1, md_X3.2, by decide +kernel⟩ rfl ⟨by decide, by decide⟩ (Nat.le_of_ble_eq_true rfl) dX3_unit_97 (fun σ hI => ?_)
            refine zg_aload_n X 0 rfl dX3_unit_100 ?_
            refine zg_iload_n X 1 rfl dX3_unit_101 ?_
            refine zg_iconst X 1 dX3_unit_102 (by decide) (fun v30 _ hv30 => ?_)
            refine zg_iadd X dX3_unit_103 (by omega) (by omega) (fun v31 _ hv31 => ?_)
            refine zg_cVv (As := [.int v31]) (st := []) X ha0 rfl (by decide) rfl (t_X3_sum_o1 l d L kd κ _ hI a0 ha0 v31 (by omega)) mk_X3_140 mc_X3_sum mz_X3 mi_X3_sum ml_X3_sum (na := 1) ⟨md_X3.1, md_X3.2, by decide +kernel⟩ rfl ⟨by decide, by decide⟩ (Nat.le_of_ble_eq_true rfl) dX3_unit_104 (fun σ hI => ?_)
            refine zg_aload_n X 0 rfl dX3_unit_107 ?_
            refine zg_bipush X 32 dX3_unit_108 (by decide) (fun v32 _ hv32 => ?_)
            refine zg_cVv (As := [.int v32]) (st := []) X ha0 rfl (by decide) rfl (t_X3_take l d L kd κ 2 _ hI a0 ha0 v32 ) mk_X3_87 mc_X3_take mz_X3 mi_X3_take ml_X3_take (na := 1) ⟨md_X3.1, md_X3.2, by decide +kernel⟩ rfl ⟨by decide, by decide⟩ (Nat.le_of_ble_eq_true rfl) dX3_unit_110 (fun σ hI => ?_)
            refine zg_goto X 134 dX3_unit_113 (by decide) ?_
            exact ret _ _ _ dX3_unit_134 hI
      · skip
        refine zg_aload_n X 0 rfl dX3_unit_51 ?_
        refine fg_X3_18 X hI ha0 dX3_unit_52 (fun v33 _ hv33 => ?_)
        refine zg_iconst X 1 dX3_unit_55 (by decide) (fun v34 _ hv34 => ?_)
        refine zg_aload_n X 0 rfl dX3_unit_56 ?_
        refine fg_X3_26 X hI ha0 dX3_unit_57 (fun v35 ev35 _ => ?_)
        have mv35 : v35.toInt = v15.toInt := by rw [ev35, ← ev15]
        refine zg_bipush X 13 dX3_unit_60 (by decide) (fun v36 _ hv36 => ?_)
        refine zg_isub X dX3_unit_62 (by omega) (by omega) (fun v37 _ hv37 => ?_)
        refine zg_cVv (As := [.int v34, .int v37]) (st := []) X hv33 rfl (by decide) rfl (t_X9_addStep l d L kd κ 2 _ hI v33 hv33 v34 v37 ) mk_X3_145 mc_X9_addStep mz_X9 mi_X9_addStep ml_X9_addStep (na := 2) ⟨md_X9.1, md_X9.2, by decide +kernel⟩ rfl ⟨by decide, by decide⟩ (Nat.le_of_ble_eq_true rfl) dX3_unit_63 (fun σ hI => ?_)
        refine zg_aload_n X 0 rfl dX3_unit_66 ?_
        refine zg_aload_n X 0 rfl dX3_unit_67 ?_
        refine fg_X3_26 X hI ha0 dX3_unit_68 (fun v38 ev38 _ => ?_)
        refine zg_cVv (As := [.int v38]) (st := []) X ha0 rfl (by decide) rfl (t_X3_take l d L kd κ 2 _ hI a0 ha0 v38 ) mk_X3_87 mc_X3_take mz_X3 mi_X3_take ml_X3_take (na := 1) ⟨md_X3.1, md_X3.2, by decide +kernel⟩ rfl ⟨by decide, by decide⟩ (Nat.le_of_ble_eq_true rfl) dX3_unit_71 (fun σ hI => ?_)
        refine zg_goto X 134 dX3_unit_74 (by decide) ?_
        exact ret _ _ _ dX3_unit_134 hI
  · skip
    refine zg_aload_n X 0 rfl dX3_unit_9 ?_
    refine fg_X3_18 X hI ha0 dX3_unit_10 (fun v39 _ hv39 => ?_)
    refine zg_iconst X 0 dX3_unit_13 (by decide) (fun v40 _ hv40 => ?_)
    refine zg_aload_n X 0 rfl dX3_unit_14 ?_
    refine fg_X3_29 X ha0 dX3_unit_15 (fun v41 _ => ?_)
    refine zg_l2i X dX3_unit_18 (fun v42 ev42 => ?_)
    refine zg_cVv (As := [.int v40, .int v42]) (st := []) X hv39 rfl (by decide) rfl (t_X9_addStep l d L kd κ 2 _ hI v39 hv39 v40 v42 ) mk_X3_145 mc_X9_addStep mz_X9 mi_X9_addStep ml_X9_addStep (na := 2) ⟨md_X9.1, md_X9.2, by decide +kernel⟩ rfl ⟨by decide, by decide⟩ (Nat.le_of_ble_eq_true rfl) dX3_unit_19 (fun σ hI => ?_)
    refine zg_aload_n X 0 rfl dX3_unit_22 ?_
    refine zg_aload_n X 0 rfl dX3_unit_23 ?_
    refine fg_X3_26 X hI ha0 dX3_unit_24 (fun v43 ev43 _ => ?_)
    refine zg_cVv (As := [.int v43]) (st := []) X ha0 rfl (by decide) rfl (t_X3_take l d L kd κ 2 _ hI a0 ha0 v43 ) mk_X3_87 mc_X3_take mz_X3 mi_X3_take ml_X3_take (na := 1) ⟨md_X3.1, md_X3.2, by decide +kernel⟩ rfl ⟨by decide, by decide⟩ (Nat.le_of_ble_eq_true rfl) dX3_unit_27 (fun σ hI => ?_)
    refine zg_goto X 134 dX3_unit_30 (by decide) ?_
    exact ret _ _ _ dX3_unit_134 hI
set_option maxHeartbeats 4000000 in
set_option maxRecDepth 100000 in
theorem t_X3_product_o0 (l : Launch) (d : zD2) (L : List Nat) (kd : Nat → Nat) (κ : Int) (σ : zS) (hI : zI κ 2 L kd σ) (a0 : Nat) (ha0 : zT L kd a0 3) (p1 : Int32) (hq0 : p1.toInt = 0) : zMv l yX3_product (Cond.code yX3_product cX3_product 4 none :: zWL) 21 [.ref a0, .int p1] d L kd σ (fun σ2 => zI κ 2 L kd σ2) := by
  refine zMv.of (own := RX3) (by decide +kernel) rfl rfl (Nat.le_of_ble_eq_true rfl) ?_
  intro p e s m args below meth c A Q X ret
  refine zg_lv (lv2 := [(0, .ref a0), (1, .int p1)]) rfl ?_
  refine zg_aload_n X 0 rfl dX3_product_0 ?_
  refine zg_iload_n X 1 rfl dX3_product_1 ?_
  refine zg_cVv (As := [.int p1]) (st := []) X ha0 rfl (by decide) rfl (t_X3_unit_o0 l d L kd κ _ hI a0 ha0 p1 (by omega)) mk_X3_159 mc_X3_unit mz_X3 mi_X3_unit ml_X3_unit (na := 1) ⟨md_X3.1, md_X3.2, by decide +kernel⟩ rfl ⟨by decide, by decide⟩ (Nat.le_of_ble_eq_true rfl) dX3_product_2 (fun σ hI => ?_)
  refine zg_iconst X 0 dX3_product_5 (by decide) (fun v1 _ hv1 => ?_)
  refine zg_istore_n X [(2, .int v1), (0, .ref a0), (1, .int p1)] dX3_product_6 (by decide) rfl ?_
  have Lp3 : ∀ (n : Nat) (σ : zS) (x2 : Int32), zI κ 2 L kd σ → 0 ≤ x2.toInt ∧ x2.toInt ≤ 401 → (401) - x2.toInt + 1 < (n : Int) → zG d L kd A 4 p l e (k2_rm 21 (100 * 21)) s m args below meth c Q σ 7 [(2, .int x2), (0, .ref a0), (1, .int p1)] [] := by
    intro n
    induction n with
    | zero => intro σ x2 hI  hxLp3 hm; exact absurd hm (by omega)
    | succ n ihLp3 =>
      intro σ x2 hI  hxLp3 hmLp3
      refine zg_iload_n X 0 rfl dX3_product_7 ?_
      refine zg_sipush X 400 dX3_product_8 (by decide) (fun v4 _ hv4 => ?_)
      refine zg_icmp_gt X 68 dX3_product_11 (by decide) (fun c5 => ?_) (fun c5 => ?_)
      · skip
        exact ret _ _ _ dX3_product_68 hI
      · skip
        refine zg_aload_n X 1 rfl dX3_product_14 ?_
        refine fg_X3_26 X hI ha0 dX3_product_15 (fun v6 ev6 _ => ?_)
        refine zg_bipush X 28 dX3_product_18 (by decide) (fun v7 _ hv7 => ?_)
        refine zg_bipush X 29 dX3_product_20 (by decide) (fun v8 _ hv8 => ?_)
        refine zg_cSNi (As := [.int v6, .int v7, .int v8]) (st := []) X (t_X10_isWithin l d L kd _ v6 v7 v8 ) mk_X3_80 mc_X10_isWithin mz_X10 ms_X10_isWithin (na := 3) ⟨md_X10.1, md_X10.2, by decide +kernel⟩ rfl ⟨by decide, by decide⟩ (Nat.le_of_ble_eq_true rfl) dX3_product_22 (fun v9 σ2 hq => ?_)
        obtain ⟨hv9, rfl⟩ := hq
        refine zg_if_eq X 68 dX3_product_25 (by decide) (fun c10 => ?_) (fun c10 => ?_)
        · skip
          exact ret _ _ _ dX3_product_68 hI
        · skip
          refine zg_aload_n X 1 rfl dX3_product_28 ?_
          refine fg_X3_26 X hI ha0 dX3_product_29 (fun v11 ev11 _ => ?_)
          have mv11 : v11.toInt = v6.toInt := by rw [ev11, ← ev6]
          refine zg_istore_n X [(3, .int v11), (2, .int x2), (0, .ref a0), (1, .int p1)] dX3_product_32 (by decide) rfl ?_
          refine zg_aload_n X 2 rfl dX3_product_33 ?_
          refine zg_iload_n X 0 rfl dX3_product_34 ?_
          refine zg_cVv (As := [.int v11]) (st := []) X ha0 rfl (by decide) rfl (t_X3_take l d L kd κ 2 _ hI a0 ha0 v11 ) mk_X3_87 mc_X3_take mz_X3 mi_X3_take ml_X3_take (na := 1) ⟨md_X3.1, md_X3.2, by decide +kernel⟩ rfl ⟨by decide, by decide⟩ (Nat.le_of_ble_eq_true rfl) dX3_product_35 (fun σ hI => ?_)
          refine zg_aload_n X 2 rfl dX3_product_38 ?_
          refine zg_iload_n X 3 rfl dX3_product_39 ?_
          refine zg_cVv (As := [.int p1]) (st := []) X ha0 rfl (by decide) rfl (t_X3_unit_o0 l d L kd κ _ hI a0 ha0 p1 (by omega)) mk_X3_159 mc_X3_unit mz_X3 mi_X3_unit ml_X3_unit (na := 1) ⟨md_X3.1, md_X3.2, by decide +kernel⟩ rfl ⟨by decide, by decide⟩ (Nat.le_of_ble_eq_true rfl) dX3_product_40 (fun σ hI => ?_)
          refine zg_aload_n X 2 rfl dX3_product_43 ?_
          refine fg_X3_18 X hI ha0 dX3_product_44 (fun v12 _ hv12 => ?_)
          refine zg_iload_n X 0 rfl dX3_product_47 ?_
          refine zg_bipush X 28 dX3_product_48 (by decide) (fun v13 _ hv13 => ?_)
          refine zg_icmp_ne X 57 dX3_product_50 (by decide) (fun c14 => ?_) (fun c14 => ?_)
          · skip
            refine zg_iconst X 5 dX3_product_57 (by decide) (fun v15 _ hv15 => ?_)
            refine zg_iconst X 0 dX3_product_58 (by decide) (fun v16 _ hv16 => ?_)
            refine zg_cVv (As := [.int v15, .int v16]) (st := []) X hv12 rfl (by decide) rfl (t_X9_addStep l d L kd κ 2 _ hI v12 hv12 v15 v16 ) mk_X3_145 mc_X9_addStep mz_X9 mi_X9_addStep ml_X9_addStep (na := 2) ⟨md_X9.1, md_X9.2, by decide +kernel⟩ rfl ⟨by decide, by decide⟩ (Nat.le_of_ble_eq_true rfl) dX3_product_59 (fun σ hI => ?_)
            refine zg_iinc X 1 (fun v17 => [(2, .int v17), (3, .int v11), (0, .ref a0), (1, .int p1)]) 1 dX3_product_62 rfl (by decide) (by decide) (by omega) (by omega) (fun _ => rfl) (fun v17 _ hv17 => ?_)
            refine zg_goto X 7 dX3_product_65 (by decide) ?_
            refine zg_sub [0, 2, 3] rfl ?_
            exact ihLp3 _ v17 hI  (by omega) (by omega)
          · skip
            refine zg_iconst X 4 dX3_product_53 (by decide) (fun v18 _ hv18 => ?_)
            refine zg_goto X 58 dX3_product_54 (by decide) ?_
            refine zg_iconst X 0 dX3_product_58 (by decide) (fun v19 _ hv19 => ?_)
            refine zg_cVv (As := [.int v18, .int v19]) (st := []) X hv12 rfl (by decide) rfl (t_X9_addStep l d L kd κ 2 _ hI v12 hv12 v18 v19 ) mk_X3_145 mc_X9_addStep mz_X9 mi_X9_addStep ml_X9_addStep (na := 2) ⟨md_X9.1, md_X9.2, by decide +kernel⟩ rfl ⟨by decide, by decide⟩ (Nat.le_of_ble_eq_true rfl) dX3_product_59 (fun σ hI => ?_)
            refine zg_iinc X 1 (fun v20 => [(2, .int v20), (3, .int v11), (0, .ref a0), (1, .int p1)]) 1 dX3_product_62 rfl (by decide) (by decide) (by omega) (by omega) (fun _ => rfl) (fun v20 _ hv20 => ?_)
            refine zg_goto X 7 dX3_product_65 (by decide) ?_
            refine zg_sub [0, 2, 3] rfl ?_
            exact ihLp3 _ v20 hI  (by omega) (by omega)
  refine zg_sub [0, 1, 2] rfl ?_
  exact Lp3 (((401) - v1.toInt + 1).toNat + 1) _ v1 hI  (by omega) (by omega)
set_option maxHeartbeats 4000000 in
set_option maxRecDepth 100000 in
theorem t_X3_sum_o0 (l : Launch) (d : zD2) (L : List Nat) (kd : Nat → Nat) (κ : Int) (σ : zS) (hI : zI κ 2 L kd σ) (a0 : Nat) (ha0 : zT L kd a0 3) (p1 : Int32) (hq0 : p1.toInt = 0) : zMv l yX3_sum (Cond.code yX3_sum cX3_sum 4 none :: zWL) 22 [.ref a0, .int p1] d L kd σ (fun σ2 => zI κ 2 L kd σ2) := by
  refine zMv.of (own := RX3) (by decide +kernel) rfl rfl (Nat.le_of_ble_eq_true rfl) ?_
  intro p e s m args below meth c A Q X ret
  refine zg_lv (lv2 := [(0, .ref a0), (1, .int p1)]) rfl ?_
  refine zg_aload_n X 0 rfl dX3_sum_0 ?_
  refine zg_iload_n X 1 rfl dX3_sum_1 ?_
  refine zg_cVv (As := [.int p1]) (st := []) X ha0 rfl (by decide) rfl (t_X3_product_o0 l d L kd κ _ hI a0 ha0 p1 (by omega)) mk_X3_156 mc_X3_product mz_X3 mi_X3_product ml_X3_product (na := 1) ⟨md_X3.1, md_X3.2, by decide +kernel⟩ rfl ⟨by decide, by decide⟩ (Nat.le_of_ble_eq_true rfl) dX3_sum_2 (fun σ hI => ?_)
  refine zg_iconst X 0 dX3_sum_5 (by decide) (fun v1 _ hv1 => ?_)
  refine zg_istore_n X [(2, .int v1), (0, .ref a0), (1, .int p1)] dX3_sum_6 (by decide) rfl ?_
  have Lp3 : ∀ (n : Nat) (σ : zS) (x2 : Int32), zI κ 2 L kd σ → 0 ≤ x2.toInt ∧ x2.toInt ≤ 401 → (401) - x2.toInt + 1 < (n : Int) → zG d L kd A 4 p l e (k2_rm 22 (100 * 22)) s m args below meth c Q σ 7 [(2, .int x2), (0, .ref a0), (1, .int p1)] [] := by
    intro n
    induction n with
    | zero => intro σ x2 hI  hxLp3 hm; exact absurd hm (by omega)
    | succ n ihLp3 =>
      intro σ x2 hI  hxLp3 hmLp3
      refine zg_iload_n X 0 rfl dX3_sum_7 ?_
      refine zg_sipush X 400 dX3_sum_8 (by decide) (fun v4 _ hv4 => ?_)
      refine zg_icmp_gt X 68 dX3_sum_11 (by decide) (fun c5 => ?_) (fun c5 => ?_)
      · skip
        exact ret _ _ _ dX3_sum_68 hI
      · skip
        refine zg_aload_n X 1 rfl dX3_sum_14 ?_
        refine fg_X3_26 X hI ha0 dX3_sum_15 (fun v6 ev6 _ => ?_)
        refine zg_bipush X 26 dX3_sum_18 (by decide) (fun v7 _ hv7 => ?_)
        refine zg_bipush X 27 dX3_sum_20 (by decide) (fun v8 _ hv8 => ?_)
        refine zg_cSNi (As := [.int v6, .int v7, .int v8]) (st := []) X (t_X10_isWithin l d L kd _ v6 v7 v8 ) mk_X3_80 mc_X10_isWithin mz_X10 ms_X10_isWithin (na := 3) ⟨md_X10.1, md_X10.2, by decide +kernel⟩ rfl ⟨by decide, by decide⟩ (Nat.le_of_ble_eq_true rfl) dX3_sum_22 (fun v9 σ2 hq => ?_)
        obtain ⟨hv9, rfl⟩ := hq
        refine zg_if_eq X 68 dX3_sum_25 (by decide) (fun c10 => ?_) (fun c10 => ?_)
        · skip
          exact ret _ _ _ dX3_sum_68 hI
        · skip
          refine zg_aload_n X 1 rfl dX3_sum_28 ?_
          refine fg_X3_26 X hI ha0 dX3_sum_29 (fun v11 ev11 _ => ?_)
          have mv11 : v11.toInt = v6.toInt := by rw [ev11, ← ev6]
          refine zg_istore_n X [(3, .int v11), (2, .int x2), (0, .ref a0), (1, .int p1)] dX3_sum_32 (by decide) rfl ?_
          refine zg_aload_n X 2 rfl dX3_sum_33 ?_
          refine zg_iload_n X 0 rfl dX3_sum_34 ?_
          refine zg_cVv (As := [.int v11]) (st := []) X ha0 rfl (by decide) rfl (t_X3_take l d L kd κ 2 _ hI a0 ha0 v11 ) mk_X3_87 mc_X3_take mz_X3 mi_X3_take ml_X3_take (na := 1) ⟨md_X3.1, md_X3.2, by decide +kernel⟩ rfl ⟨by decide, by decide⟩ (Nat.le_of_ble_eq_true rfl) dX3_sum_35 (fun σ hI => ?_)
          refine zg_aload_n X 2 rfl dX3_sum_38 ?_
          refine zg_iload_n X 3 rfl dX3_sum_39 ?_
          refine zg_cVv (As := [.int p1]) (st := []) X ha0 rfl (by decide) rfl (t_X3_product_o0 l d L kd κ _ hI a0 ha0 p1 (by omega)) mk_X3_156 mc_X3_product mz_X3 mi_X3_product ml_X3_product (na := 1) ⟨md_X3.1, md_X3.2, by decide +kernel⟩ rfl ⟨by decide, by decide⟩ (Nat.le_of_ble_eq_true rfl) dX3_sum_40 (fun σ hI => ?_)
          refine zg_aload_n X 2 rfl dX3_sum_43 ?_
          refine fg_X3_18 X hI ha0 dX3_sum_44 (fun v12 _ hv12 => ?_)
          refine zg_iload_n X 0 rfl dX3_sum_47 ?_
          refine zg_bipush X 26 dX3_sum_48 (by decide) (fun v13 _ hv13 => ?_)
          refine zg_icmp_ne X 57 dX3_sum_50 (by decide) (fun c14 => ?_) (fun c14 => ?_)
          · skip
            refine zg_iconst X 3 dX3_sum_57 (by decide) (fun v15 _ hv15 => ?_)
            refine zg_iconst X 0 dX3_sum_58 (by decide) (fun v16 _ hv16 => ?_)
            refine zg_cVv (As := [.int v15, .int v16]) (st := []) X hv12 rfl (by decide) rfl (t_X9_addStep l d L kd κ 2 _ hI v12 hv12 v15 v16 ) mk_X3_145 mc_X9_addStep mz_X9 mi_X9_addStep ml_X9_addStep (na := 2) ⟨md_X9.1, md_X9.2, by decide +kernel⟩ rfl ⟨by decide, by decide⟩ (Nat.le_of_ble_eq_true rfl) dX3_sum_59 (fun σ hI => ?_)
            refine zg_iinc X 1 (fun v17 => [(2, .int v17), (3, .int v11), (0, .ref a0), (1, .int p1)]) 1 dX3_sum_62 rfl (by decide) (by decide) (by omega) (by omega) (fun _ => rfl) (fun v17 _ hv17 => ?_)
            refine zg_goto X 7 dX3_sum_65 (by decide) ?_
            refine zg_sub [0, 2, 3] rfl ?_
            exact ihLp3 _ v17 hI  (by omega) (by omega)
          · skip
            refine zg_iconst X 2 dX3_sum_53 (by decide) (fun v18 _ hv18 => ?_)
            refine zg_goto X 58 dX3_sum_54 (by decide) ?_
            refine zg_iconst X 0 dX3_sum_58 (by decide) (fun v19 _ hv19 => ?_)
            refine zg_cVv (As := [.int v18, .int v19]) (st := []) X hv12 rfl (by decide) rfl (t_X9_addStep l d L kd κ 2 _ hI v12 hv12 v18 v19 ) mk_X3_145 mc_X9_addStep mz_X9 mi_X9_addStep ml_X9_addStep (na := 2) ⟨md_X9.1, md_X9.2, by decide +kernel⟩ rfl ⟨by decide, by decide⟩ (Nat.le_of_ble_eq_true rfl) dX3_sum_59 (fun σ hI => ?_)
            refine zg_iinc X 1 (fun v20 => [(2, .int v20), (3, .int v11), (0, .ref a0), (1, .int p1)]) 1 dX3_sum_62 rfl (by decide) (by decide) (by omega) (by omega) (fun _ => rfl) (fun v20 _ hv20 => ?_)
            refine zg_goto X 7 dX3_sum_65 (by decide) ?_
            refine zg_sub [0, 2, 3] rfl ?_
            exact ihLp3 _ v20 hI  (by omega) (by omega)
  refine zg_sub [0, 1, 2] rfl ?_
  exact Lp3 (((401) - v1.toInt + 1).toNat + 1) _ v1 hI  (by omega) (by omega)
set_option maxHeartbeats 4000000 in
set_option maxRecDepth 100000 in
theorem t_X3_law (l : Launch) (d : zD2) (L : List Nat) (kd : Nat → Nat) (κ : Int) (σ : zS) (hI : zI κ 2 L kd σ) (a0 : Nat) (ha0 : zT L kd a0 3) (p1 : Int32) (hq0 : 0 ≤ p1.toInt ∧ p1.toInt ≤ 4) : zMv l yX3_law (Cond.code yX3_law cX3_law 5 none :: zWL) 23 [.ref a0, .int p1] d L kd σ (fun σ2 => zI κ 2 L kd σ2) := by
  refine zMv.of (own := RX3) (by decide +kernel) rfl rfl (Nat.le_of_ble_eq_true rfl) ?_
  intro p e s m args below meth c A Q X ret
  refine zg_lv (lv2 := [(0, .ref a0), (1, .int p1)]) rfl ?_
  refine zg_aload_n X 0 rfl dX3_law_0 ?_
  refine zg_iconst X 2 dX3_law_1 (by decide) (fun v1 _ hv1 => ?_)
  refine zg_iload_n X 1 rfl dX3_law_2 ?_
  refine zg_iadd X dX3_law_3 (by omega) (by omega) (fun v2 _ hv2 => ?_)
  refine zg_cVv (As := [.int v2]) (st := []) X ha0 rfl (by decide) rfl (t_X3_take l d L kd κ 2 _ hI a0 ha0 v2 ) mk_X3_87 mc_X3_take mz_X3 mi_X3_take ml_X3_take (na := 1) ⟨md_X3.1, md_X3.2, by decide +kernel⟩ rfl ⟨by decide, by decide⟩ (Nat.le_of_ble_eq_true rfl) dX3_law_4 (fun σ hI => ?_)
  refine zg_aload_n X 0 rfl dX3_law_7 ?_
  refine zg_bipush X 25 dX3_law_8 (by decide) (fun v3 _ hv3 => ?_)
  refine zg_cVv (As := [.int v3]) (st := []) X ha0 rfl (by decide) rfl (t_X3_take l d L kd κ 2 _ hI a0 ha0 v3 ) mk_X3_87 mc_X3_take mz_X3 mi_X3_take ml_X3_take (na := 1) ⟨md_X3.1, md_X3.2, by decide +kernel⟩ rfl ⟨by decide, by decide⟩ (Nat.le_of_ble_eq_true rfl) dX3_law_10 (fun σ hI => ?_)
  refine zg_aload_n X 0 rfl dX3_law_13 ?_
  refine fg_X3_18 X hI ha0 dX3_law_14 (fun v4 _ hv4 => ?_)
  refine fg_X3_137 X hI hv4 dX3_law_17 (fun v5 ev5 hv5 => ?_)
  refine zg_istore_n X [(2, .int v5), (0, .ref a0), (1, .int p1)] dX3_law_20 (by decide) rfl ?_
  refine zg_iconst X 0 dX3_law_21 (by decide) (fun v6 _ hv6 => ?_)
  refine zg_istore_n X [(3, .int v6), (2, .int v5), (0, .ref a0), (1, .int p1)] dX3_law_22 (by decide) rfl ?_
  have Lp8 : ∀ (n : Nat) (σ : zS) (x7 : Int32), zI κ 2 L kd σ → 0 ≤ x7.toInt ∧ x7.toInt ≤ 5 → (5) - x7.toInt + 1 < (n : Int) → zG d L kd A 5 p l e (k2_rm 23 (100 * 23)) s m args below meth c Q σ 23 [(3, .int x7), (2, .int v5), (0, .ref a0), (1, .int p1)] [] := by
    intro n
    induction n with
    | zero => intro σ x7 hI  hxLp8 hm; exact absurd hm (by omega)
    | succ n ihLp8 =>
      intro σ x7 hI  hxLp8 hmLp8
      refine zg_iload_n X 0 rfl dX3_law_23 ?_
      refine zg_iconst X 4 dX3_law_24 (by decide) (fun v9 _ hv9 => ?_)
      refine zg_icmp_gt X 137 dX3_law_25 (by decide) (fun c10 => ?_) (fun c10 => ?_)
      · skip
        refine zg_aload_n X 2 rfl dX3_law_137 ?_
        refine zg_iconst X 0 dX3_law_138 (by decide) (fun v11 _ hv11 => ?_)
        refine zg_cVv (As := [.int v11]) (st := []) X ha0 rfl (by decide) rfl (t_X3_sum_o0 l d L kd κ _ hI a0 ha0 v11 (by omega)) mk_X3_140 mc_X3_sum mz_X3 mi_X3_sum ml_X3_sum (na := 1) ⟨md_X3.1, md_X3.2, by decide +kernel⟩ rfl ⟨by decide, by decide⟩ (Nat.le_of_ble_eq_true rfl) dX3_law_139 (fun σ hI => ?_)
        refine zg_aload_n X 2 rfl dX3_law_142 ?_
        refine fg_X3_18 X hI ha0 dX3_law_143 (fun v12 _ hv12 => ?_)
        refine zg_bipush X 7 dX3_law_146 (by decide) (fun v13 _ hv13 => ?_)
        refine zg_iconst X 0 dX3_law_148 (by decide) (fun v14 _ hv14 => ?_)
        refine zg_cVv (As := [.int v13, .int v14]) (st := []) X hv12 rfl (by decide) rfl (t_X9_addStep l d L kd κ 2 _ hI v12 hv12 v13 v14 ) mk_X3_145 mc_X9_addStep mz_X9 mi_X9_addStep ml_X9_addStep (na := 2) ⟨md_X9.1, md_X9.2, by decide +kernel⟩ rfl ⟨by decide, by decide⟩ (Nat.le_of_ble_eq_true rfl) dX3_law_149 (fun σ hI => ?_)
        refine zg_aload_n X 2 rfl dX3_law_152 ?_
        refine fg_X3_18 X hI ha0 dX3_law_153 (fun v15 _ hv15 => ?_)
        refine fg_X3_152 X hI hv15 dX3_law_156 (fun v16 _ hv16 => ?_)
        refine zg_iload_n X 3 rfl dX3_law_159 ?_
        refine zg_iload_n X 1 rfl dX3_law_160 ?_
        refine as_51 X hI hv16 (by omega) (by omega) dX3_law_161 (fun s17 es17 hI => ?_)
        exact ret _ _ _ dX3_law_162 hI
      · skip
        refine zg_aload_n X 2 rfl dX3_law_28 ?_
        refine fg_X3_26 X hI ha0 dX3_law_29 (fun v18 _ _ => ?_)
        refine zg_bipush X 10 dX3_law_32 (by decide) (fun v19 _ hv19 => ?_)
        refine zg_icmp_ne X 137 dX3_law_34 (by decide) (fun c20 => ?_) (fun c20 => ?_)
        · skip
          refine zg_aload_n X 2 rfl dX3_law_137 ?_
          refine zg_iconst X 0 dX3_law_138 (by decide) (fun v21 _ hv21 => ?_)
          refine zg_cVv (As := [.int v21]) (st := []) X ha0 rfl (by decide) rfl (t_X3_sum_o0 l d L kd κ _ hI a0 ha0 v21 (by omega)) mk_X3_140 mc_X3_sum mz_X3 mi_X3_sum ml_X3_sum (na := 1) ⟨md_X3.1, md_X3.2, by decide +kernel⟩ rfl ⟨by decide, by decide⟩ (Nat.le_of_ble_eq_true rfl) dX3_law_139 (fun σ hI => ?_)
          refine zg_aload_n X 2 rfl dX3_law_142 ?_
          refine fg_X3_18 X hI ha0 dX3_law_143 (fun v22 _ hv22 => ?_)
          refine zg_bipush X 7 dX3_law_146 (by decide) (fun v23 _ hv23 => ?_)
          refine zg_iconst X 0 dX3_law_148 (by decide) (fun v24 _ hv24 => ?_)
          refine zg_cVv (As := [.int v23, .int v24]) (st := []) X hv22 rfl (by decide) rfl (t_X9_addStep l d L kd κ 2 _ hI v22 hv22 v23 v24 ) mk_X3_145 mc_X9_addStep mz_X9 mi_X9_addStep ml_X9_addStep (na := 2) ⟨md_X9.1, md_X9.2, by decide +kernel⟩ rfl ⟨by decide, by decide⟩ (Nat.le_of_ble_eq_true rfl) dX3_law_149 (fun σ hI => ?_)
          refine zg_aload_n X 2 rfl dX3_law_152 ?_
          refine fg_X3_18 X hI ha0 dX3_law_153 (fun v25 _ hv25 => ?_)
          refine fg_X3_152 X hI hv25 dX3_law_156 (fun v26 _ hv26 => ?_)
          refine zg_iload_n X 3 rfl dX3_law_159 ?_
          refine zg_iload_n X 1 rfl dX3_law_160 ?_
          refine as_51 X hI hv26 (by omega) (by omega) dX3_law_161 (fun s27 es27 hI => ?_)
          exact ret _ _ _ dX3_law_162 hI
        · skip
          refine zg_iload_n X 0 rfl dX3_law_37 ?_
          refine zg_iconst X 4 dX3_law_38 (by decide) (fun v28 _ hv28 => ?_)
          refine zg_icmp_ne X 47 dX3_law_39 (by decide) (fun c29 => ?_) (fun c29 => ?_)
          · skip
            refine zg_aload_n X 2 rfl dX3_law_47 ?_
            refine zg_bipush X 10 dX3_law_48 (by decide) (fun v30 _ hv30 => ?_)
            refine zg_cVv (As := [.int v30]) (st := []) X ha0 rfl (by decide) rfl (t_X3_take l d L kd κ 2 _ hI a0 ha0 v30 ) mk_X3_87 mc_X3_take mz_X3 mi_X3_take ml_X3_take (na := 1) ⟨md_X3.1, md_X3.2, by decide +kernel⟩ rfl ⟨by decide, by decide⟩ (Nat.le_of_ble_eq_true rfl) dX3_law_50 (fun σ hI => ?_)
            refine zg_aload_n X 2 rfl dX3_law_53 ?_
            refine zg_iconst X 0 dX3_law_54 (by decide) (fun v31 _ hv31 => ?_)
            refine zg_cVv (As := [.int v31]) (st := []) X ha0 rfl (by decide) rfl (t_X3_sum_o0 l d L kd κ _ hI a0 ha0 v31 (by omega)) mk_X3_140 mc_X3_sum mz_X3 mi_X3_sum ml_X3_sum (na := 1) ⟨md_X3.1, md_X3.2, by decide +kernel⟩ rfl ⟨by decide, by decide⟩ (Nat.le_of_ble_eq_true rfl) dX3_law_55 (fun σ hI => ?_)
            refine zg_aload_n X 2 rfl dX3_law_58 ?_
            refine zg_bipush X 30 dX3_law_59 (by decide) (fun v32 _ hv32 => ?_)
            refine zg_cVv (As := [.int v32]) (st := []) X ha0 rfl (by decide) rfl (t_X3_take l d L kd κ 2 _ hI a0 ha0 v32 ) mk_X3_87 mc_X3_take mz_X3 mi_X3_take ml_X3_take (na := 1) ⟨md_X3.1, md_X3.2, by decide +kernel⟩ rfl ⟨by decide, by decide⟩ (Nat.le_of_ble_eq_true rfl) dX3_law_61 (fun σ hI => ?_)
            refine zg_aload_n X 2 rfl dX3_law_64 ?_
            refine zg_iconst X 0 dX3_law_65 (by decide) (fun v33 _ hv33 => ?_)
            refine zg_cVv (As := [.int v33]) (st := []) X ha0 rfl (by decide) rfl (t_X3_sum_o0 l d L kd κ _ hI a0 ha0 v33 (by omega)) mk_X3_140 mc_X3_sum mz_X3 mi_X3_sum ml_X3_sum (na := 1) ⟨md_X3.1, md_X3.2, by decide +kernel⟩ rfl ⟨by decide, by decide⟩ (Nat.le_of_ble_eq_true rfl) dX3_law_66 (fun σ hI => ?_)
            refine zg_aload_n X 2 rfl dX3_law_69 ?_
            refine zg_bipush X 11 dX3_law_70 (by decide) (fun v34 _ hv34 => ?_)
            refine zg_cVv (As := [.int v34]) (st := []) X ha0 rfl (by decide) rfl (t_X3_take l d L kd κ 2 _ hI a0 ha0 v34 ) mk_X3_87 mc_X3_take mz_X3 mi_X3_take ml_X3_take (na := 1) ⟨md_X3.1, md_X3.2, by decide +kernel⟩ rfl ⟨by decide, by decide⟩ (Nat.le_of_ble_eq_true rfl) dX3_law_72 (fun σ hI => ?_)
            refine zg_aload_n X 2 rfl dX3_law_75 ?_
            refine fg_X3_18 X hI ha0 dX3_law_76 (fun v35 _ hv35 => ?_)
            refine fg_X3_137 X hI hv35 dX3_law_79 (fun v36 ev36 hv36 => ?_)
            refine zg_istore X [(4, .int v36), (3, .int x7), (2, .int v5), (0, .ref a0), (1, .int p1)] dX3_law_82 (by decide) rfl ?_
            refine zg_aload_n X 3 rfl dX3_law_84 ?_
            refine fg_X3_18 X hI ha0 dX3_law_85 (fun v37 _ hv37 => ?_)
            refine zg_bipush X 6 dX3_law_88 (by decide) (fun v38 _ hv38 => ?_)
            refine zg_iconst X 0 dX3_law_90 (by decide) (fun v39 _ hv39 => ?_)
            refine zg_cVv (As := [.int v38, .int v39]) (st := []) X hv37 rfl (by decide) rfl (t_X9_addStep l d L kd κ 2 _ hI v37 hv37 v38 v39 ) mk_X3_145 mc_X9_addStep mz_X9 mi_X9_addStep ml_X9_addStep (na := 2) ⟨md_X9.1, md_X9.2, by decide +kernel⟩ rfl ⟨by decide, by decide⟩ (Nat.le_of_ble_eq_true rfl) dX3_law_91 (fun σ hI => ?_)
            refine zg_aload_n X 3 rfl dX3_law_94 ?_
            refine zg_iconst X 0 dX3_law_95 (by decide) (fun v40 _ hv40 => ?_)
            refine zg_cVv (As := [.int v40]) (st := []) X ha0 rfl (by decide) rfl (t_X3_sum_o0 l d L kd κ _ hI a0 ha0 v40 (by omega)) mk_X3_140 mc_X3_sum mz_X3 mi_X3_sum ml_X3_sum (na := 1) ⟨md_X3.1, md_X3.2, by decide +kernel⟩ rfl ⟨by decide, by decide⟩ (Nat.le_of_ble_eq_true rfl) dX3_law_96 (fun σ hI => ?_)
            refine zg_aload_n X 3 rfl dX3_law_99 ?_
            refine zg_bipush X 12 dX3_law_100 (by decide) (fun v41 _ hv41 => ?_)
            refine zg_cVv (As := [.int v41]) (st := []) X ha0 rfl (by decide) rfl (t_X3_take l d L kd κ 2 _ hI a0 ha0 v41 ) mk_X3_87 mc_X3_take mz_X3 mi_X3_take ml_X3_take (na := 1) ⟨md_X3.1, md_X3.2, by decide +kernel⟩ rfl ⟨by decide, by decide⟩ (Nat.le_of_ble_eq_true rfl) dX3_law_102 (fun σ hI => ?_)
            refine zg_aload_n X 3 rfl dX3_law_105 ?_
            refine fg_X3_18 X hI ha0 dX3_law_106 (fun v42 _ hv42 => ?_)
            refine zg_bipush X 7 dX3_law_109 (by decide) (fun v43 _ hv43 => ?_)
            refine zg_iconst X 0 dX3_law_111 (by decide) (fun v44 _ hv44 => ?_)
            refine zg_cVv (As := [.int v43, .int v44]) (st := []) X hv42 rfl (by decide) rfl (t_X9_addStep l d L kd κ 2 _ hI v42 hv42 v43 v44 ) mk_X3_145 mc_X9_addStep mz_X9 mi_X9_addStep ml_X9_addStep (na := 2) ⟨md_X9.1, md_X9.2, by decide +kernel⟩ rfl ⟨by decide, by decide⟩ (Nat.le_of_ble_eq_true rfl) dX3_law_112 (fun σ hI => ?_)
            refine zg_aload_n X 3 rfl dX3_law_115 ?_
            refine fg_X3_18 X hI ha0 dX3_law_116 (fun v45 _ hv45 => ?_)
            refine zg_iload X 0 rfl dX3_law_119 ?_
            refine zg_aload_n X 3 rfl dX3_law_121 ?_
            refine fg_X3_18 X hI ha0 dX3_law_122 (fun v46 _ hv46 => ?_)
            refine fg_X3_137 X hI hv46 dX3_law_125 (fun v47 ev47 hv47 => ?_)
            refine zg_cVv (As := [.int v36, .int v47]) (st := []) X hv45 rfl (by decide) rfl (t_X9_setValue l d L kd κ 2 _ hI v45 hv45 v36 v47 ) mk_X3_149 mc_X9_setValue mz_X9 mi_X9_setValue ml_X9_setValue (na := 2) ⟨md_X9.1, md_X9.2, by decide +kernel⟩ rfl ⟨by decide, by decide⟩ (Nat.le_of_ble_eq_true rfl) dX3_law_128 (fun σ hI => ?_)
            refine zg_iinc X 1 (fun v48 => [(3, .int v48), (4, .int v36), (2, .int v5), (0, .ref a0), (1, .int p1)]) 1 dX3_law_131 rfl (by decide) (by decide) (by omega) (by omega) (fun _ => rfl) (fun v48 _ hv48 => ?_)
            refine zg_goto X 23 dX3_law_134 (by decide) ?_
            refine zg_sub [0, 2, 3, 4] rfl ?_
            exact ihLp8 _ v48 hI  (by omega) (by omega)
          · skip
            refine zg_aload_n X 2 rfl dX3_law_42 ?_
            refine zg_iconst X 2 dX3_law_43 (by decide) (fun v49 _ hv49 => ?_)
            refine zg_cVv (As := [.int v49]) (st := []) X ha0 rfl (by decide) rfl (t_X3_fail l d L kd κ 2 _ hI a0 ha0 v49 ) mk_X3_106 mc_X3_fail mz_X3 mi_X3_fail ml_X3_fail (na := 1) ⟨md_X3.1, md_X3.2, by decide +kernel⟩ rfl ⟨by decide, by decide⟩ (Nat.le_of_ble_eq_true rfl) dX3_law_44 (fun σ hI => ?_)
            refine zg_aload_n X 2 rfl dX3_law_47 ?_
            refine zg_bipush X 10 dX3_law_48 (by decide) (fun v50 _ hv50 => ?_)
            refine zg_cVv (As := [.int v50]) (st := []) X ha0 rfl (by decide) rfl (t_X3_take l d L kd κ 2 _ hI a0 ha0 v50 ) mk_X3_87 mc_X3_take mz_X3 mi_X3_take ml_X3_take (na := 1) ⟨md_X3.1, md_X3.2, by decide +kernel⟩ rfl ⟨by decide, by decide⟩ (Nat.le_of_ble_eq_true rfl) dX3_law_50 (fun σ hI => ?_)
            refine zg_aload_n X 2 rfl dX3_law_53 ?_
            refine zg_iconst X 0 dX3_law_54 (by decide) (fun v51 _ hv51 => ?_)
            refine zg_cVv (As := [.int v51]) (st := []) X ha0 rfl (by decide) rfl (t_X3_sum_o0 l d L kd κ _ hI a0 ha0 v51 (by omega)) mk_X3_140 mc_X3_sum mz_X3 mi_X3_sum ml_X3_sum (na := 1) ⟨md_X3.1, md_X3.2, by decide +kernel⟩ rfl ⟨by decide, by decide⟩ (Nat.le_of_ble_eq_true rfl) dX3_law_55 (fun σ hI => ?_)
            refine zg_aload_n X 2 rfl dX3_law_58 ?_
            refine zg_bipush X 30 dX3_law_59 (by decide) (fun v52 _ hv52 => ?_)
            refine zg_cVv (As := [.int v52]) (st := []) X ha0 rfl (by decide) rfl (t_X3_take l d L kd κ 2 _ hI a0 ha0 v52 ) mk_X3_87 mc_X3_take mz_X3 mi_X3_take ml_X3_take (na := 1) ⟨md_X3.1, md_X3.2, by decide +kernel⟩ rfl ⟨by decide, by decide⟩ (Nat.le_of_ble_eq_true rfl) dX3_law_61 (fun σ hI => ?_)
            refine zg_aload_n X 2 rfl dX3_law_64 ?_
            refine zg_iconst X 0 dX3_law_65 (by decide) (fun v53 _ hv53 => ?_)
            refine zg_cVv (As := [.int v53]) (st := []) X ha0 rfl (by decide) rfl (t_X3_sum_o0 l d L kd κ _ hI a0 ha0 v53 (by omega)) mk_X3_140 mc_X3_sum mz_X3 mi_X3_sum ml_X3_sum (na := 1) ⟨md_X3.1, md_X3.2, by decide +kernel⟩ rfl ⟨by decide, by decide⟩ (Nat.le_of_ble_eq_true rfl) dX3_law_66 (fun σ hI => ?_)
            refine zg_aload_n X 2 rfl dX3_law_69 ?_
            refine zg_bipush X 11 dX3_law_70 (by decide) (fun v54 _ hv54 => ?_)
            refine zg_cVv (As := [.int v54]) (st := []) X ha0 rfl (by decide) rfl (t_X3_take l d L kd κ 2 _ hI a0 ha0 v54 ) mk_X3_87 mc_X3_take mz_X3 mi_X3_take ml_X3_take (na := 1) ⟨md_X3.1, md_X3.2, by decide +kernel⟩ rfl ⟨by decide, by decide⟩ (Nat.le_of_ble_eq_true rfl) dX3_law_72 (fun σ hI => ?_)
            refine zg_aload_n X 2 rfl dX3_law_75 ?_
            refine fg_X3_18 X hI ha0 dX3_law_76 (fun v55 _ hv55 => ?_)
            refine fg_X3_137 X hI hv55 dX3_law_79 (fun v56 ev56 hv56 => ?_)
            refine zg_istore X [(4, .int v56), (3, .int x7), (2, .int v5), (0, .ref a0), (1, .int p1)] dX3_law_82 (by decide) rfl ?_
            refine zg_aload_n X 3 rfl dX3_law_84 ?_
            refine fg_X3_18 X hI ha0 dX3_law_85 (fun v57 _ hv57 => ?_)
            refine zg_bipush X 6 dX3_law_88 (by decide) (fun v58 _ hv58 => ?_)
            refine zg_iconst X 0 dX3_law_90 (by decide) (fun v59 _ hv59 => ?_)
            refine zg_cVv (As := [.int v58, .int v59]) (st := []) X hv57 rfl (by decide) rfl (t_X9_addStep l d L kd κ 2 _ hI v57 hv57 v58 v59 ) mk_X3_145 mc_X9_addStep mz_X9 mi_X9_addStep ml_X9_addStep (na := 2) ⟨md_X9.1, md_X9.2, by decide +kernel⟩ rfl ⟨by decide, by decide⟩ (Nat.le_of_ble_eq_true rfl) dX3_law_91 (fun σ hI => ?_)
            refine zg_aload_n X 3 rfl dX3_law_94 ?_
            refine zg_iconst X 0 dX3_law_95 (by decide) (fun v60 _ hv60 => ?_)
            refine zg_cVv (As := [.int v60]) (st := []) X ha0 rfl (by decide) rfl (t_X3_sum_o0 l d L kd κ _ hI a0 ha0 v60 (by omega)) mk_X3_140 mc_X3_sum mz_X3 mi_X3_sum ml_X3_sum (na := 1) ⟨md_X3.1, md_X3.2, by decide +kernel⟩ rfl ⟨by decide, by decide⟩ (Nat.le_of_ble_eq_true rfl) dX3_law_96 (fun σ hI => ?_)
            refine zg_aload_n X 3 rfl dX3_law_99 ?_
            refine zg_bipush X 12 dX3_law_100 (by decide) (fun v61 _ hv61 => ?_)
            refine zg_cVv (As := [.int v61]) (st := []) X ha0 rfl (by decide) rfl (t_X3_take l d L kd κ 2 _ hI a0 ha0 v61 ) mk_X3_87 mc_X3_take mz_X3 mi_X3_take ml_X3_take (na := 1) ⟨md_X3.1, md_X3.2, by decide +kernel⟩ rfl ⟨by decide, by decide⟩ (Nat.le_of_ble_eq_true rfl) dX3_law_102 (fun σ hI => ?_)
            refine zg_aload_n X 3 rfl dX3_law_105 ?_
            refine fg_X3_18 X hI ha0 dX3_law_106 (fun v62 _ hv62 => ?_)
            refine zg_bipush X 7 dX3_law_109 (by decide) (fun v63 _ hv63 => ?_)
            refine zg_iconst X 0 dX3_law_111 (by decide) (fun v64 _ hv64 => ?_)
            refine zg_cVv (As := [.int v63, .int v64]) (st := []) X hv62 rfl (by decide) rfl (t_X9_addStep l d L kd κ 2 _ hI v62 hv62 v63 v64 ) mk_X3_145 mc_X9_addStep mz_X9 mi_X9_addStep ml_X9_addStep (na := 2) ⟨md_X9.1, md_X9.2, by decide +kernel⟩ rfl ⟨by decide, by decide⟩ (Nat.le_of_ble_eq_true rfl) dX3_law_112 (fun σ hI => ?_)
            refine zg_aload_n X 3 rfl dX3_law_115 ?_
            refine fg_X3_18 X hI ha0 dX3_law_116 (fun v65 _ hv65 => ?_)
            refine zg_iload X 0 rfl dX3_law_119 ?_
            refine zg_aload_n X 3 rfl dX3_law_121 ?_
            refine fg_X3_18 X hI ha0 dX3_law_122 (fun v66 _ hv66 => ?_)
            refine fg_X3_137 X hI hv66 dX3_law_125 (fun v67 ev67 hv67 => ?_)
            refine zg_cVv (As := [.int v56, .int v67]) (st := []) X hv65 rfl (by decide) rfl (t_X9_setValue l d L kd κ 2 _ hI v65 hv65 v56 v67 ) mk_X3_149 mc_X9_setValue mz_X9 mi_X9_setValue ml_X9_setValue (na := 2) ⟨md_X9.1, md_X9.2, by decide +kernel⟩ rfl ⟨by decide, by decide⟩ (Nat.le_of_ble_eq_true rfl) dX3_law_128 (fun σ hI => ?_)
            refine zg_iinc X 1 (fun v68 => [(3, .int v68), (4, .int v56), (2, .int v5), (0, .ref a0), (1, .int p1)]) 1 dX3_law_131 rfl (by decide) (by decide) (by omega) (by omega) (fun _ => rfl) (fun v68 _ hv68 => ?_)
            refine zg_goto X 23 dX3_law_134 (by decide) ?_
            refine zg_sub [0, 2, 3, 4] rfl ?_
            exact ihLp8 _ v68 hI  (by omega) (by omega)
  refine zg_sub [0, 1, 2, 3] rfl ?_
  exact Lp8 (((5) - v6.toInt + 1).toNat + 1) _ v6 hI  (by omega) (by omega)
set_option maxHeartbeats 4000000 in
set_option maxRecDepth 100000 in
theorem t_X3_telling (l : Launch) (d : zD2) (L : List Nat) (kd : Nat → Nat) (κ : Int) (σ : zS) (hI : zI κ 2 L kd σ) (a0 : Nat) (ha0 : zT L kd a0 3) : zMv l yX3_telling (Cond.code yX3_telling cX3_telling 1 none :: zWL) 24 [.ref a0] d L kd σ (fun σ2 => zI κ 2 L kd σ2) := by
  refine zMv.of (own := RX3) (by decide +kernel) rfl rfl (Nat.le_of_ble_eq_true rfl) ?_
  intro p e s m args below meth c A Q X ret
  refine zg_lv (lv2 := [(0, .ref a0)]) rfl ?_
  refine zg_aload_n X 0 rfl dX3_telling_0 ?_
  refine fg_X3_26 X hI ha0 dX3_telling_1 (fun v1 ev1 _ => ?_)
  refine zg_if_ne X 14 dX3_telling_4 (by decide) (fun c2 => ?_) (fun c2 => ?_)
  · skip
    refine zg_aload_n X 0 rfl dX3_telling_14 ?_
    refine fg_X3_26 X hI ha0 dX3_telling_15 (fun v3 ev3 _ => ?_)
    have mv3 : v3.toInt = v1.toInt := by rw [ev3, ← ev1]
    refine zg_iconst X 1 dX3_telling_18 (by decide) (fun v4 _ hv4 => ?_)
    refine zg_icmp_ne X 29 dX3_telling_19 (by decide) (fun c5 => ?_) (fun c5 => ?_)
    · skip
      refine zg_aload_n X 0 rfl dX3_telling_29 ?_
      refine fg_X3_26 X hI ha0 dX3_telling_30 (fun v6 ev6 _ => ?_)
      have mv6 : v6.toInt = v3.toInt := by rw [ev6, ← ev3]
      refine zg_iconst X 2 dX3_telling_33 (by decide) (fun v7 _ hv7 => ?_)
      refine zg_bipush X 6 dX3_telling_34 (by decide) (fun v8 _ hv8 => ?_)
      refine zg_cSNi (As := [.int v6, .int v7, .int v8]) (st := []) X (t_X10_isWithin l d L kd _ v6 v7 v8 ) mk_X3_80 mc_X10_isWithin mz_X10 ms_X10_isWithin (na := 3) ⟨md_X10.1, md_X10.2, by decide +kernel⟩ rfl ⟨by decide, by decide⟩ (Nat.le_of_ble_eq_true rfl) dX3_telling_36 (fun v9 σ2 hq => ?_)
      obtain ⟨hv9, rfl⟩ := hq
      refine zg_if_eq X 55 dX3_telling_39 (by decide) (fun c10 => ?_) (fun c10 => ?_)
      · skip
        refine zg_aload_n X 0 rfl dX3_telling_55 ?_
        refine fg_X3_26 X hI ha0 dX3_telling_56 (fun v11 ev11 _ => ?_)
        have mv11 : v11.toInt = v6.toInt := by rw [ev11, ← ev6]
        refine zg_bipush X 7 dX3_telling_59 (by decide) (fun v12 _ hv12 => ?_)
        refine zg_icmp_ne X 103 dX3_telling_61 (by decide) (fun c13 => ?_) (fun c13 => ?_)
        · skip
          refine zg_aload_n X 0 rfl dX3_telling_103 ?_
          refine fg_X3_26 X hI ha0 dX3_telling_104 (fun v14 ev14 _ => ?_)
          have mv14 : v14.toInt = v11.toInt := by rw [ev14, ← ev11]
          refine zg_bipush X 8 dX3_telling_107 (by decide) (fun v15 _ hv15 => ?_)
          refine zg_icmp_ne X 137 dX3_telling_109 (by decide) (fun c16 => ?_) (fun c16 => ?_)
          · skip
            refine zg_aload_n X 0 rfl dX3_telling_137 ?_
            refine fg_X3_26 X hI ha0 dX3_telling_138 (fun v17 ev17 _ => ?_)
            have mv17 : v17.toInt = v14.toInt := by rw [ev17, ← ev14]
            refine zg_bipush X 9 dX3_telling_141 (by decide) (fun v18 _ hv18 => ?_)
            refine zg_icmp_ne X 172 dX3_telling_143 (by decide) (fun c19 => ?_) (fun c19 => ?_)
            · skip
              refine zg_aload_n X 0 rfl dX3_telling_172 ?_
              refine zg_iconst X 1 dX3_telling_173 (by decide) (fun v20 _ hv20 => ?_)
              refine zg_cVv (As := [.int v20]) (st := []) X ha0 rfl (by decide) rfl (t_X3_fail l d L kd κ 2 _ hI a0 ha0 v20 ) mk_X3_106 mc_X3_fail mz_X3 mi_X3_fail ml_X3_fail (na := 1) ⟨md_X3.1, md_X3.2, by decide +kernel⟩ rfl ⟨by decide, by decide⟩ (Nat.le_of_ble_eq_true rfl) dX3_telling_174 (fun σ hI => ?_)
              refine zg_aload_n X 0 rfl dX3_telling_177 ?_
              refine zg_bipush X 24 dX3_telling_178 (by decide) (fun v21 _ hv21 => ?_)
              refine zg_cVv (As := [.int v21]) (st := []) X ha0 rfl (by decide) rfl (t_X3_take l d L kd κ 2 _ hI a0 ha0 v21 ) mk_X3_87 mc_X3_take mz_X3 mi_X3_take ml_X3_take (na := 1) ⟨md_X3.1, md_X3.2, by decide +kernel⟩ rfl ⟨by decide, by decide⟩ (Nat.le_of_ble_eq_true rfl) dX3_telling_180 (fun σ hI => ?_)
              exact ret _ _ _ dX3_telling_183 hI
            · skip
              refine zg_aload_n X 0 rfl dX3_telling_146 ?_
              refine zg_aload_n X 0 rfl dX3_telling_147 ?_
              refine fg_X3_26 X hI ha0 dX3_telling_148 (fun v22 ev22 _ => ?_)
              have mv22 : v22.toInt = v17.toInt := by rw [ev22, ← ev17]
              refine zg_cVv (As := [.int v22]) (st := []) X ha0 rfl (by decide) rfl (t_X3_take l d L kd κ 2 _ hI a0 ha0 v22 ) mk_X3_87 mc_X3_take mz_X3 mi_X3_take ml_X3_take (na := 1) ⟨md_X3.1, md_X3.2, by decide +kernel⟩ rfl ⟨by decide, by decide⟩ (Nat.le_of_ble_eq_true rfl) dX3_telling_151 (fun σ hI => ?_)
              refine zg_aload_n X 0 rfl dX3_telling_154 ?_
              refine fg_X3_18 X hI ha0 dX3_telling_155 (fun v23 _ hv23 => ?_)
              refine zg_aload_n X 0 rfl dX3_telling_158 ?_
              refine zg_iconst X 0 dX3_telling_159 (by decide) (fun v24 _ hv24 => ?_)
              refine zg_sipush X 9999 dX3_telling_160 (by decide) (fun v25 _ hv25 => ?_)
              refine zg_cVi (As := [.int v24, .int v25]) (st := [.ref v23]) X ha0 rfl (by decide) rfl (t_X3_number l d L kd κ 2 _ hI a0 ha0 v24 v25 ) mk_X3_90 mc_X3_number mz_X3 mi_X3_number ml_X3_number (na := 2) ⟨md_X3.1, md_X3.2, by decide +kernel⟩ rfl ⟨by decide, by decide⟩ (Nat.le_of_ble_eq_true rfl) dX3_telling_163 (fun v26 σ hI => ?_)
              refine fp_X3_103 X hI hv23 (zb_rng _) dX3_telling_166 (fun s27 es27 hI => ?_)
              refine zg_goto X 177 dX3_telling_169 (by decide) ?_
              refine zg_aload_n X 0 rfl dX3_telling_177 ?_
              refine zg_bipush X 24 dX3_telling_178 (by decide) (fun v28 _ hv28 => ?_)
              refine zg_cVv (As := [.int v28]) (st := []) X ha0 rfl (by decide) rfl (t_X3_take l d L kd κ 2 _ hI a0 ha0 v28 ) mk_X3_87 mc_X3_take mz_X3 mi_X3_take ml_X3_take (na := 1) ⟨md_X3.1, md_X3.2, by decide +kernel⟩ rfl ⟨by decide, by decide⟩ (Nat.le_of_ble_eq_true rfl) dX3_telling_180 (fun σ hI => ?_)
              exact ret _ _ _ dX3_telling_183 hI
          · skip
            refine zg_aload_n X 0 rfl dX3_telling_112 ?_
            refine zg_aload_n X 0 rfl dX3_telling_113 ?_
            refine fg_X3_26 X hI ha0 dX3_telling_114 (fun v29 ev29 _ => ?_)
            have mv29 : v29.toInt = v14.toInt := by rw [ev29, ← ev14]
            refine zg_cVv (As := [.int v29]) (st := []) X ha0 rfl (by decide) rfl (t_X3_take l d L kd κ 2 _ hI a0 ha0 v29 ) mk_X3_87 mc_X3_take mz_X3 mi_X3_take ml_X3_take (na := 1) ⟨md_X3.1, md_X3.2, by decide +kernel⟩ rfl ⟨by decide, by decide⟩ (Nat.le_of_ble_eq_true rfl) dX3_telling_117 (fun σ hI => ?_)
            refine zg_aload_n X 0 rfl dX3_telling_120 ?_
            refine fg_X3_18 X hI ha0 dX3_telling_121 (fun v30 _ hv30 => ?_)
            refine zg_aload_n X 0 rfl dX3_telling_124 ?_
            refine zg_iconst X 0 dX3_telling_125 (by decide) (fun v31 _ hv31 => ?_)
            refine zg_bipush X 99 dX3_telling_126 (by decide) (fun v32 _ hv32 => ?_)
            refine zg_cVi (As := [.int v31, .int v32]) (st := [.ref v30]) X ha0 rfl (by decide) rfl (t_X3_number l d L kd κ 2 _ hI a0 ha0 v31 v32 ) mk_X3_90 mc_X3_number mz_X3 mi_X3_number ml_X3_number (na := 2) ⟨md_X3.1, md_X3.2, by decide +kernel⟩ rfl ⟨by decide, by decide⟩ (Nat.le_of_ble_eq_true rfl) dX3_telling_128 (fun v33 σ hI => ?_)
            refine fp_X3_100 X hI hv30 (zb_rng _) dX3_telling_131 (fun s34 es34 hI => ?_)
            refine zg_goto X 177 dX3_telling_134 (by decide) ?_
            refine zg_aload_n X 0 rfl dX3_telling_177 ?_
            refine zg_bipush X 24 dX3_telling_178 (by decide) (fun v35 _ hv35 => ?_)
            refine zg_cVv (As := [.int v35]) (st := []) X ha0 rfl (by decide) rfl (t_X3_take l d L kd κ 2 _ hI a0 ha0 v35 ) mk_X3_87 mc_X3_take mz_X3 mi_X3_take ml_X3_take (na := 1) ⟨md_X3.1, md_X3.2, by decide +kernel⟩ rfl ⟨by decide, by decide⟩ (Nat.le_of_ble_eq_true rfl) dX3_telling_180 (fun σ hI => ?_)
            exact ret _ _ _ dX3_telling_183 hI
        · skip
          refine zg_aload_n X 0 rfl dX3_telling_64 ?_
          refine zg_aload_n X 0 rfl dX3_telling_65 ?_
          refine fg_X3_26 X hI ha0 dX3_telling_66 (fun v36 ev36 _ => ?_)
          have mv36 : v36.toInt = v11.toInt := by rw [ev36, ← ev11]
          refine zg_cVv (As := [.int v36]) (st := []) X ha0 rfl (by decide) rfl (t_X3_take l d L kd κ 2 _ hI a0 ha0 v36 ) mk_X3_87 mc_X3_take mz_X3 mi_X3_take ml_X3_take (na := 1) ⟨md_X3.1, md_X3.2, by decide +kernel⟩ rfl ⟨by decide, by decide⟩ (Nat.le_of_ble_eq_true rfl) dX3_telling_69 (fun σ hI => ?_)
          refine zg_aload_n X 0 rfl dX3_telling_72 ?_
          refine fg_X3_18 X hI ha0 dX3_telling_73 (fun v37 _ hv37 => ?_)
          refine zg_aload_n X 0 rfl dX3_telling_76 ?_
          refine zg_iconst X 0 dX3_telling_77 (by decide) (fun v38 _ hv38 => ?_)
          refine zg_bipush X 100 dX3_telling_78 (by decide) (fun v39 _ hv39 => ?_)
          refine zg_cVi (As := [.int v38, .int v39]) (st := [.ref v37]) X ha0 rfl (by decide) rfl (t_X3_number l d L kd κ 2 _ hI a0 ha0 v38 v39 ) mk_X3_90 mc_X3_number mz_X3 mi_X3_number ml_X3_number (na := 2) ⟨md_X3.1, md_X3.2, by decide +kernel⟩ rfl ⟨by decide, by decide⟩ (Nat.le_of_ble_eq_true rfl) dX3_telling_80 (fun v40 σ hI => ?_)
          refine fp_X3_94 X hI hv37 (zb_rng _) dX3_telling_83 (fun s41 es41 hI => ?_)
          refine zg_aload_n X 0 rfl dX3_telling_86 ?_
          refine fg_X3_18 X hI ha0 dX3_telling_87 (fun v42 _ hv42 => ?_)
          refine zg_aload_n X 0 rfl dX3_telling_90 ?_
          refine zg_iconst X 0 dX3_telling_91 (by decide) (fun v43 _ hv43 => ?_)
          refine zg_bipush X 99 dX3_telling_92 (by decide) (fun v44 _ hv44 => ?_)
          refine zg_cVi (As := [.int v43, .int v44]) (st := [.ref v42]) X ha0 rfl (by decide) rfl (t_X3_number l d L kd κ 2 _ hI a0 ha0 v43 v44 ) mk_X3_90 mc_X3_number mz_X3 mi_X3_number ml_X3_number (na := 2) ⟨md_X3.1, md_X3.2, by decide +kernel⟩ rfl ⟨by decide, by decide⟩ (Nat.le_of_ble_eq_true rfl) dX3_telling_94 (fun v45 σ hI => ?_)
          refine fp_X3_97 X hI hv42 (zb_rng _) dX3_telling_97 (fun s46 es46 hI => ?_)
          refine zg_goto X 177 dX3_telling_100 (by decide) ?_
          refine zg_aload_n X 0 rfl dX3_telling_177 ?_
          refine zg_bipush X 24 dX3_telling_178 (by decide) (fun v47 _ hv47 => ?_)
          refine zg_cVv (As := [.int v47]) (st := []) X ha0 rfl (by decide) rfl (t_X3_take l d L kd κ 2 _ hI a0 ha0 v47 ) mk_X3_87 mc_X3_take mz_X3 mi_X3_take ml_X3_take (na := 1) ⟨md_X3.1, md_X3.2, by decide +kernel⟩ rfl ⟨by decide, by decide⟩ (Nat.le_of_ble_eq_true rfl) dX3_telling_180 (fun σ hI => ?_)
          exact ret _ _ _ dX3_telling_183 hI
      · skip
        refine zg_aload_n X 0 rfl dX3_telling_42 ?_
        refine zg_aload_n X 0 rfl dX3_telling_43 ?_
        refine fg_X3_26 X hI ha0 dX3_telling_44 (fun v48 ev48 _ => ?_)
        have mv48 : v48.toInt = v6.toInt := by rw [ev48, ← ev6]
        refine zg_iconst X 2 dX3_telling_47 (by decide) (fun v49 _ hv49 => ?_)
        refine zg_isub X dX3_telling_48 (by omega) (by omega) (fun v50 _ hv50 => ?_)
        refine zg_cVv (As := [.int v50]) (st := []) X ha0 rfl (by decide) rfl (t_X3_law l d L kd κ _ hI a0 ha0 v50 (by omega)) mk_X3_84 mc_X3_law mz_X3 mi_X3_law ml_X3_law (na := 1) ⟨md_X3.1, md_X3.2, by decide +kernel⟩ rfl ⟨by decide, by decide⟩ (Nat.le_of_ble_eq_true rfl) dX3_telling_49 (fun σ hI => ?_)
        refine zg_goto X 177 dX3_telling_52 (by decide) ?_
        refine zg_aload_n X 0 rfl dX3_telling_177 ?_
        refine zg_bipush X 24 dX3_telling_178 (by decide) (fun v51 _ hv51 => ?_)
        refine zg_cVv (As := [.int v51]) (st := []) X ha0 rfl (by decide) rfl (t_X3_take l d L kd κ 2 _ hI a0 ha0 v51 ) mk_X3_87 mc_X3_take mz_X3 mi_X3_take ml_X3_take (na := 1) ⟨md_X3.1, md_X3.2, by decide +kernel⟩ rfl ⟨by decide, by decide⟩ (Nat.le_of_ble_eq_true rfl) dX3_telling_180 (fun σ hI => ?_)
        exact ret _ _ _ dX3_telling_183 hI
    · skip
      refine zg_aload_n X 0 rfl dX3_telling_22 ?_
      refine zg_cVv (As := []) (st := []) X ha0 rfl (by decide) rfl (t_X3_newPlace l d L kd κ _ hI a0 ha0 ) mk_X3_77 mc_X3_newPlace mz_X3 mi_X3_newPlace ml_X3_newPlace (na := 0) ⟨md_X3.1, md_X3.2, by decide +kernel⟩ rfl ⟨by decide, by decide⟩ (Nat.le_of_ble_eq_true rfl) dX3_telling_23 (fun σ hI => ?_)
      refine zg_goto X 177 dX3_telling_26 (by decide) ?_
      refine zg_aload_n X 0 rfl dX3_telling_177 ?_
      refine zg_bipush X 24 dX3_telling_178 (by decide) (fun v52 _ hv52 => ?_)
      refine zg_cVv (As := [.int v52]) (st := []) X ha0 rfl (by decide) rfl (t_X3_take l d L kd κ 2 _ hI a0 ha0 v52 ) mk_X3_87 mc_X3_take mz_X3 mi_X3_take ml_X3_take (na := 1) ⟨md_X3.1, md_X3.2, by decide +kernel⟩ rfl ⟨by decide, by decide⟩ (Nat.le_of_ble_eq_true rfl) dX3_telling_180 (fun σ hI => ?_)
      exact ret _ _ _ dX3_telling_183 hI
  · skip
    refine zg_aload_n X 0 rfl dX3_telling_7 ?_
    refine zg_cVv (As := []) (st := []) X ha0 rfl (by decide) rfl (t_X3_mouth l d L kd κ _ hI a0 ha0 ) mk_X3_74 mc_X3_mouth mz_X3 mi_X3_mouth ml_X3_mouth (na := 0) ⟨md_X3.1, md_X3.2, by decide +kernel⟩ rfl ⟨by decide, by decide⟩ (Nat.le_of_ble_eq_true rfl) dX3_telling_8 (fun σ hI => ?_)
    refine zg_goto X 177 dX3_telling_11 (by decide) ?_
    refine zg_aload_n X 0 rfl dX3_telling_177 ?_
    refine zg_bipush X 24 dX3_telling_178 (by decide) (fun v53 _ hv53 => ?_)
    refine zg_cVv (As := [.int v53]) (st := []) X ha0 rfl (by decide) rfl (t_X3_take l d L kd κ 2 _ hI a0 ha0 v53 ) mk_X3_87 mc_X3_take mz_X3 mi_X3_take ml_X3_take (na := 1) ⟨md_X3.1, md_X3.2, by decide +kernel⟩ rfl ⟨by decide, by decide⟩ (Nat.le_of_ble_eq_true rfl) dX3_telling_180 (fun σ hI => ?_)
    exact ret _ _ _ dX3_telling_183 hI
set_option maxHeartbeats 4000000 in
set_option maxRecDepth 100000 in
theorem t_X3_parse (l : Launch) (d : zD2) (L : List Nat) (kd : Nat → Nat) (κ : Int) (b : Nat) (σ : zS) (hI : zI κ b L kd σ) (a0 : Nat) (ha0 : zT L kd a0 3) (p1 : Nat) (hp1 : zT L kd p1 39) (p2 : Int32) (p3 : Nat) (hp3 : zT L kd p3 9) (hq0 : p2.toInt ≤ 2000) : zMi l yX3_parse (Cond.code yX3_parse cX3_parse 5 (some .int) :: zWL) 25 [.ref a0, .ref p1, .int p2, .ref p3] d L kd σ (fun _ σ2 => zI κ 2 L kd σ2) := by
  refine zMi.of (own := RX3) (by decide +kernel) rfl rfl (Nat.le_of_ble_eq_true rfl) ?_
  intro p e s m args below meth c A Q X ret
  refine zg_lv (lv2 := [(0, .ref a0), (1, .ref p1), (2, .int p2), (3, .ref p3)]) rfl ?_
  refine zg_aload_n X 0 rfl dX3_parse_0 ?_
  refine fg_X3_12 X hI ha0 dX3_parse_1 (fun v1 _ hv1 => ?_)
  refine zg_aload_n X 1 rfl dX3_parse_4 ?_
  refine zg_iload_n X 2 rfl dX3_parse_5 ?_
  refine zg_cVv (As := [.ref p1, .int p2]) (st := []) X hv1 rfl (by decide) rfl (t_X8_scan l d L kd κ b _ hI v1 hv1 p1 hp1 p2 (by omega)) mk_X3_55 mc_X8_scan mz_X8 mi_X8_scan ml_X8_scan (na := 2) ⟨md_X8.1, md_X8.2, by decide +kernel⟩ rfl ⟨by decide, by decide⟩ (Nat.le_of_ble_eq_true rfl) dX3_parse_6 (fun σ hI => ?_)
  refine zg_aload_n X 0 rfl dX3_parse_9 ?_
  refine zg_aload_n X 3 rfl dX3_parse_10 ?_
  have hI0 := zi_weak hI
  refine fp_X3_18 X hI0 ha0 hp3 dX3_parse_11 (fun s2 es2 hI => ?_)
  have hI := zi_parser hI ha0 hp3 (by rw [es2]; exact zu_s _ _ _ _)
  refine zg_aload_n X 0 rfl dX3_parse_14 ?_
  refine fg_X3_18 X hI ha0 dX3_parse_15 (fun v3 _ hv3 => ?_)
  refine zg_cVv (As := []) (st := []) X hv3 rfl (by decide) rfl (t_X9_clear l d L kd κ 2 _ hI v3 hv3 ) mk_X3_59 mc_X9_clear mz_X9 mi_X9_clear ml_X9_clear (na := 0) ⟨md_X9.1, md_X9.2, by decide +kernel⟩ rfl ⟨by decide, by decide⟩ (Nat.le_of_ble_eq_true rfl) dX3_parse_18 (fun σ hI => ?_)
  refine zg_aload_n X 0 rfl dX3_parse_21 ?_
  refine zg_iconst X 0 dX3_parse_22 (by decide) (fun v4 _ hv4 => ?_)
  refine fp_X3_36 X hI ha0 ⟨by omega, by omega⟩ dX3_parse_23 (fun s5 es5 hI => ?_)
  refine zg_aload_n X 0 rfl dX3_parse_26 ?_
  refine zg_iconst X 0 dX3_parse_27 (by decide) (fun v6 _ hv6 => ?_)
  refine fp_X3_40 X hI ha0 ⟨by omega, by omega⟩ dX3_parse_28 (fun s7 es7 hI => ?_)
  refine zg_aload_n X 0 rfl dX3_parse_31 ?_
  refine zg_iconst X 0 dX3_parse_32 (by decide) (fun v8 _ hv8 => ?_)
  refine fp_X3_43 X hI ha0 (zb_rng _) dX3_parse_33 (fun s9 es9 hI => ?_)
  have e10 : v8 = s9.1 a0 8 := by rw [es9]; exact zm_s
  refine zg_aload_n X 0 rfl dX3_parse_36 ?_
  refine zg_iconst X (-1) dX3_parse_37 (by decide) (fun v11 _ hv11 => ?_)
  refine fp_X3_46 X hI ha0 (zb_rng _) dX3_parse_38 (fun s12 es12 hI => ?_)
  have e13 : v8 = s12.1 a0 8 := by rw [es12]; exact zm_j (by decide) e10
  refine zg_aload_n X 0 rfl dX3_parse_41 ?_
  refine zg_iconst X 0 dX3_parse_42 (by decide) (fun v14 _ hv14 => ?_)
  refine fp_X3_49 X hI ha0 (zb_rng _) dX3_parse_43 (fun s15 es15 hI => ?_)
  have e16 : v8 = s15.1 a0 8 := by rw [es15]; exact zm_j (by decide) e13
  refine zg_aload_n X 0 rfl dX3_parse_46 ?_
  refine zg_iconst X (-1) dX3_parse_47 (by decide) (fun v17 _ hv17 => ?_)
  refine fp_X3_52 X hI ha0 (zb_rng _) dX3_parse_48 (fun s18 es18 hI => ?_)
  have e19 : v8 = s18.1 a0 8 := by rw [es18]; exact zm_j (by decide) e16
  refine zg_aload_n X 0 rfl dX3_parse_51 ?_
  refine zg_iconst X 0 dX3_parse_52 (by decide) (fun v20 _ hv20 => ?_)
  refine zg_cVv (As := [.int v20]) (st := []) X ha0 rfl (by decide) rfl (t_X3_goTo l d L kd κ 2 _ hI a0 ha0 v20 ) mk_X3_64 mc_X3_goTo mz_X3 mi_X3_goTo ml_X3_goTo (na := 1) ⟨md_X3.1, md_X3.2, by decide +kernel⟩ rfl ⟨by decide, by decide⟩ (Nat.le_of_ble_eq_true rfl) dX3_parse_53 (fun σ hI => ?_)
  refine zg_iconst X 0 dX3_parse_56 (by decide) (fun v21 _ hv21 => ?_)
  refine zg_istore X [(4, .int v21), (0, .ref a0), (1, .ref p1), (2, .int p2), (3, .ref p3)] dX3_parse_57 (by decide) rfl ?_
  have Lp23 : ∀ (n : Nat) (σ : zS) (x22 : Int32), zI κ 2 L kd σ → 0 ≤ x22.toInt ∧ x22.toInt ≤ 401 → (401) - x22.toInt + 1 < (n : Int) → zG d L kd A 5 p l e (k2_rm 25 (100 * 25)) s m args below meth c Q σ 59 [(4, .int x22), (0, .ref a0), (1, .ref p1), (2, .int p2), (3, .ref p3)] [] := by
    intro n
    induction n with
    | zero => intro σ x22 hI  hxLp23 hm; exact absurd hm (by omega)
    | succ n ihLp23 =>
      intro σ x22 hI  hxLp23 hmLp23
      refine zg_iload X 0 rfl dX3_parse_59 ?_
      refine zg_sipush X 400 dX3_parse_61 (by decide) (fun v24 _ hv24 => ?_)
      refine zg_icmp_gt X 93 dX3_parse_64 (by decide) (fun c25 => ?_) (fun c25 => ?_)
      · skip
        refine zg_aload_n X 1 rfl dX3_parse_93 ?_
        refine fg_X3_43 X hI ha0 dX3_parse_94 (fun v26 ev26 _ => ?_)
        refine zg_if_ne X 116 dX3_parse_97 (by decide) (fun c27 => ?_) (fun c27 => ?_)
        · skip
          refine zg_aload_n X 1 rfl dX3_parse_116 ?_
          refine fg_X3_18 X hI ha0 dX3_parse_117 (fun v28 _ hv28 => ?_)
          refine zg_aload_n X 1 rfl dX3_parse_120 ?_
          refine fg_X3_36 X hI ha0 dX3_parse_121 (fun v29 _ hv29 => ?_)
          refine zg_if_eq X 136 dX3_parse_124 (by decide) (fun c30 => ?_) (fun c30 => ?_)
          · skip
            refine zg_iconst X 0 dX3_parse_136 (by decide) (fun v31 _ hv31 => ?_)
            refine fp_X3_71 X hI hv28 ⟨by omega, by omega⟩ dX3_parse_137 (fun s32 es32 hI => ?_)
            have e33 : v26 = s32.1 a0 8 := by rw [es32]; exact zm_k hv28 ha0 (by decide) ev26
            refine zg_aload_n X 1 rfl dX3_parse_140 ?_
            refine fg_X3_43 X hI ha0 dX3_parse_141 (fun v34 ev34 _ => ?_)
            have mv34 : v34.toInt = v26.toInt := by rw [ev34, ← e33]
            exact ret _ _ _ _ dX3_parse_144 rfl hI
          · skip
            refine zg_iconst X 1 dX3_parse_127 (by decide) (fun v35 _ hv35 => ?_)
            refine zg_aload_n X 1 rfl dX3_parse_128 ?_
            refine fg_X3_40 X hI ha0 dX3_parse_129 (fun v36 _ hv36 => ?_)
            refine zg_iadd X dX3_parse_132 (by omega) (by omega) (fun v37 _ hv37 => ?_)
            refine zg_goto X 137 dX3_parse_133 (by decide) ?_
            refine fp_X3_71 X hI hv28 ⟨by omega, by omega⟩ dX3_parse_137 (fun s38 es38 hI => ?_)
            have e39 : v26 = s38.1 a0 8 := by rw [es38]; exact zm_k hv28 ha0 (by decide) ev26
            refine zg_aload_n X 1 rfl dX3_parse_140 ?_
            refine fg_X3_43 X hI ha0 dX3_parse_141 (fun v40 ev40 _ => ?_)
            have mv40 : v40.toInt = v26.toInt := by rw [ev40, ← e39]
            exact ret _ _ _ _ dX3_parse_144 rfl hI
        · skip
          refine zg_aload_n X 1 rfl dX3_parse_100 ?_
          refine zg_aload_n X 1 rfl dX3_parse_101 ?_
          refine fg_X3_49 X hI ha0 dX3_parse_102 (fun v41 _ _ => ?_)
          refine fp_X3_43 X hI ha0 (zb_rng _) dX3_parse_105 (fun s42 es42 hI => ?_)
          have e44 : v41 = s42.1 a0 8 := by rw [es42]; exact zm_s
          refine zg_aload_n X 1 rfl dX3_parse_108 ?_
          refine zg_aload_n X 1 rfl dX3_parse_109 ?_
          refine fg_X3_52 X hI ha0 dX3_parse_110 (fun v45 _ _ => ?_)
          refine fp_X3_46 X hI ha0 (zb_rng _) dX3_parse_113 (fun s46 es46 hI => ?_)
          have e47 : v41 = s46.1 a0 8 := by rw [es46]; exact zm_j (by decide) e44
          refine zg_aload_n X 1 rfl dX3_parse_116 ?_
          refine fg_X3_18 X hI ha0 dX3_parse_117 (fun v48 _ hv48 => ?_)
          refine zg_aload_n X 1 rfl dX3_parse_120 ?_
          refine fg_X3_36 X hI ha0 dX3_parse_121 (fun v49 _ hv49 => ?_)
          refine zg_if_eq X 136 dX3_parse_124 (by decide) (fun c50 => ?_) (fun c50 => ?_)
          · skip
            refine zg_iconst X 0 dX3_parse_136 (by decide) (fun v51 _ hv51 => ?_)
            refine fp_X3_71 X hI hv48 ⟨by omega, by omega⟩ dX3_parse_137 (fun s52 es52 hI => ?_)
            have e53 : v41 = s52.1 a0 8 := by rw [es52]; exact zm_k hv48 ha0 (by decide) e47
            refine zg_aload_n X 1 rfl dX3_parse_140 ?_
            refine fg_X3_43 X hI ha0 dX3_parse_141 (fun v54 ev54 _ => ?_)
            have mv54 : v54.toInt = v41.toInt := by rw [ev54, ← e53]
            exact ret _ _ _ _ dX3_parse_144 rfl hI
          · skip
            refine zg_iconst X 1 dX3_parse_127 (by decide) (fun v55 _ hv55 => ?_)
            refine zg_aload_n X 1 rfl dX3_parse_128 ?_
            refine fg_X3_40 X hI ha0 dX3_parse_129 (fun v56 _ hv56 => ?_)
            refine zg_iadd X dX3_parse_132 (by omega) (by omega) (fun v57 _ hv57 => ?_)
            refine zg_goto X 137 dX3_parse_133 (by decide) ?_
            refine fp_X3_71 X hI hv48 ⟨by omega, by omega⟩ dX3_parse_137 (fun s58 es58 hI => ?_)
            have e59 : v41 = s58.1 a0 8 := by rw [es58]; exact zm_k hv48 ha0 (by decide) e47
            refine zg_aload_n X 1 rfl dX3_parse_140 ?_
            refine fg_X3_43 X hI ha0 dX3_parse_141 (fun v60 ev60 _ => ?_)
            have mv60 : v60.toInt = v41.toInt := by rw [ev60, ← e59]
            exact ret _ _ _ _ dX3_parse_144 rfl hI
      · skip
        refine zg_aload_n X 1 rfl dX3_parse_67 ?_
        refine fg_X3_43 X hI ha0 dX3_parse_68 (fun v61 ev61 _ => ?_)
        refine zg_if_ne X 93 dX3_parse_71 (by decide) (fun c62 => ?_) (fun c62 => ?_)
        · skip
          refine zg_aload_n X 1 rfl dX3_parse_93 ?_
          refine fg_X3_43 X hI ha0 dX3_parse_94 (fun v63 ev63 _ => ?_)
          have mv63 : v63.toInt = v61.toInt := by rw [ev63, ← ev61]
          refine zg_if_ne X 116 dX3_parse_97 (by decide) (fun c64 => ?_) (fun c64 => ?_)
          · skip
            refine zg_aload_n X 1 rfl dX3_parse_116 ?_
            refine fg_X3_18 X hI ha0 dX3_parse_117 (fun v65 _ hv65 => ?_)
            refine zg_aload_n X 1 rfl dX3_parse_120 ?_
            refine fg_X3_36 X hI ha0 dX3_parse_121 (fun v66 _ hv66 => ?_)
            refine zg_if_eq X 136 dX3_parse_124 (by decide) (fun c67 => ?_) (fun c67 => ?_)
            · skip
              refine zg_iconst X 0 dX3_parse_136 (by decide) (fun v68 _ hv68 => ?_)
              refine fp_X3_71 X hI hv65 ⟨by omega, by omega⟩ dX3_parse_137 (fun s69 es69 hI => ?_)
              have e70 : v63 = s69.1 a0 8 := by rw [es69]; exact zm_k hv65 ha0 (by decide) ev63
              refine zg_aload_n X 1 rfl dX3_parse_140 ?_
              refine fg_X3_43 X hI ha0 dX3_parse_141 (fun v71 ev71 _ => ?_)
              have mv71 : v71.toInt = v63.toInt := by rw [ev71, ← e70]
              exact ret _ _ _ _ dX3_parse_144 rfl hI
            · skip
              refine zg_iconst X 1 dX3_parse_127 (by decide) (fun v72 _ hv72 => ?_)
              refine zg_aload_n X 1 rfl dX3_parse_128 ?_
              refine fg_X3_40 X hI ha0 dX3_parse_129 (fun v73 _ hv73 => ?_)
              refine zg_iadd X dX3_parse_132 (by omega) (by omega) (fun v74 _ hv74 => ?_)
              refine zg_goto X 137 dX3_parse_133 (by decide) ?_
              refine fp_X3_71 X hI hv65 ⟨by omega, by omega⟩ dX3_parse_137 (fun s75 es75 hI => ?_)
              have e76 : v63 = s75.1 a0 8 := by rw [es75]; exact zm_k hv65 ha0 (by decide) ev63
              refine zg_aload_n X 1 rfl dX3_parse_140 ?_
              refine fg_X3_43 X hI ha0 dX3_parse_141 (fun v77 ev77 _ => ?_)
              have mv77 : v77.toInt = v63.toInt := by rw [ev77, ← e76]
              exact ret _ _ _ _ dX3_parse_144 rfl hI
          · skip
            refine zg_aload_n X 1 rfl dX3_parse_100 ?_
            refine zg_aload_n X 1 rfl dX3_parse_101 ?_
            refine fg_X3_49 X hI ha0 dX3_parse_102 (fun v78 _ _ => ?_)
            refine fp_X3_43 X hI ha0 (zb_rng _) dX3_parse_105 (fun s79 es79 hI => ?_)
            have e81 : v78 = s79.1 a0 8 := by rw [es79]; exact zm_s
            refine zg_aload_n X 1 rfl dX3_parse_108 ?_
            refine zg_aload_n X 1 rfl dX3_parse_109 ?_
            refine fg_X3_52 X hI ha0 dX3_parse_110 (fun v82 _ _ => ?_)
            refine fp_X3_46 X hI ha0 (zb_rng _) dX3_parse_113 (fun s83 es83 hI => ?_)
            have e84 : v78 = s83.1 a0 8 := by rw [es83]; exact zm_j (by decide) e81
            refine zg_aload_n X 1 rfl dX3_parse_116 ?_
            refine fg_X3_18 X hI ha0 dX3_parse_117 (fun v85 _ hv85 => ?_)
            refine zg_aload_n X 1 rfl dX3_parse_120 ?_
            refine fg_X3_36 X hI ha0 dX3_parse_121 (fun v86 _ hv86 => ?_)
            refine zg_if_eq X 136 dX3_parse_124 (by decide) (fun c87 => ?_) (fun c87 => ?_)
            · skip
              refine zg_iconst X 0 dX3_parse_136 (by decide) (fun v88 _ hv88 => ?_)
              refine fp_X3_71 X hI hv85 ⟨by omega, by omega⟩ dX3_parse_137 (fun s89 es89 hI => ?_)
              have e90 : v78 = s89.1 a0 8 := by rw [es89]; exact zm_k hv85 ha0 (by decide) e84
              refine zg_aload_n X 1 rfl dX3_parse_140 ?_
              refine fg_X3_43 X hI ha0 dX3_parse_141 (fun v91 ev91 _ => ?_)
              have mv91 : v91.toInt = v78.toInt := by rw [ev91, ← e90]
              exact ret _ _ _ _ dX3_parse_144 rfl hI
            · skip
              refine zg_iconst X 1 dX3_parse_127 (by decide) (fun v92 _ hv92 => ?_)
              refine zg_aload_n X 1 rfl dX3_parse_128 ?_
              refine fg_X3_40 X hI ha0 dX3_parse_129 (fun v93 _ hv93 => ?_)
              refine zg_iadd X dX3_parse_132 (by omega) (by omega) (fun v94 _ hv94 => ?_)
              refine zg_goto X 137 dX3_parse_133 (by decide) ?_
              refine fp_X3_71 X hI hv85 ⟨by omega, by omega⟩ dX3_parse_137 (fun s95 es95 hI => ?_)
              have e96 : v78 = s95.1 a0 8 := by rw [es95]; exact zm_k hv85 ha0 (by decide) e84
              refine zg_aload_n X 1 rfl dX3_parse_140 ?_
              refine fg_X3_43 X hI ha0 dX3_parse_141 (fun v97 ev97 _ => ?_)
              have mv97 : v97.toInt = v78.toInt := by rw [ev97, ← e96]
              exact ret _ _ _ _ dX3_parse_144 rfl hI
        · skip
          refine zg_aload_n X 1 rfl dX3_parse_74 ?_
          refine fg_X3_26 X hI ha0 dX3_parse_75 (fun v98 _ _ => ?_)
          refine zg_bipush X 33 dX3_parse_78 (by decide) (fun v99 _ hv99 => ?_)
          refine zg_icmp_eq X 93 dX3_parse_80 (by decide) (fun c100 => ?_) (fun c100 => ?_)
          · skip
            refine zg_aload_n X 1 rfl dX3_parse_93 ?_
            refine fg_X3_43 X hI ha0 dX3_parse_94 (fun v101 ev101 _ => ?_)
            have mv101 : v101.toInt = v61.toInt := by rw [ev101, ← ev61]
            refine zg_if_ne X 116 dX3_parse_97 (by decide) (fun c102 => ?_) (fun c102 => ?_)
            · omega
            · skip
              refine zg_aload_n X 1 rfl dX3_parse_100 ?_
              refine zg_aload_n X 1 rfl dX3_parse_101 ?_
              refine fg_X3_49 X hI ha0 dX3_parse_102 (fun v103 _ _ => ?_)
              refine fp_X3_43 X hI ha0 (zb_rng _) dX3_parse_105 (fun s104 es104 hI => ?_)
              have e106 : v103 = s104.1 a0 8 := by rw [es104]; exact zm_s
              refine zg_aload_n X 1 rfl dX3_parse_108 ?_
              refine zg_aload_n X 1 rfl dX3_parse_109 ?_
              refine fg_X3_52 X hI ha0 dX3_parse_110 (fun v107 _ _ => ?_)
              refine fp_X3_46 X hI ha0 (zb_rng _) dX3_parse_113 (fun s108 es108 hI => ?_)
              have e109 : v103 = s108.1 a0 8 := by rw [es108]; exact zm_j (by decide) e106
              refine zg_aload_n X 1 rfl dX3_parse_116 ?_
              refine fg_X3_18 X hI ha0 dX3_parse_117 (fun v110 _ hv110 => ?_)
              refine zg_aload_n X 1 rfl dX3_parse_120 ?_
              refine fg_X3_36 X hI ha0 dX3_parse_121 (fun v111 _ hv111 => ?_)
              refine zg_if_eq X 136 dX3_parse_124 (by decide) (fun c112 => ?_) (fun c112 => ?_)
              · skip
                refine zg_iconst X 0 dX3_parse_136 (by decide) (fun v113 _ hv113 => ?_)
                refine fp_X3_71 X hI hv110 ⟨by omega, by omega⟩ dX3_parse_137 (fun s114 es114 hI => ?_)
                have e115 : v103 = s114.1 a0 8 := by rw [es114]; exact zm_k hv110 ha0 (by decide) e109
                refine zg_aload_n X 1 rfl dX3_parse_140 ?_
                refine fg_X3_43 X hI ha0 dX3_parse_141 (fun v116 ev116 _ => ?_)
                have mv116 : v116.toInt = v103.toInt := by rw [ev116, ← e115]
                exact ret _ _ _ _ dX3_parse_144 rfl hI
              · skip
                refine zg_iconst X 1 dX3_parse_127 (by decide) (fun v117 _ hv117 => ?_)
                refine zg_aload_n X 1 rfl dX3_parse_128 ?_
                refine fg_X3_40 X hI ha0 dX3_parse_129 (fun v118 _ hv118 => ?_)
                refine zg_iadd X dX3_parse_132 (by omega) (by omega) (fun v119 _ hv119 => ?_)
                refine zg_goto X 137 dX3_parse_133 (by decide) ?_
                refine fp_X3_71 X hI hv110 ⟨by omega, by omega⟩ dX3_parse_137 (fun s120 es120 hI => ?_)
                have e121 : v103 = s120.1 a0 8 := by rw [es120]; exact zm_k hv110 ha0 (by decide) e109
                refine zg_aload_n X 1 rfl dX3_parse_140 ?_
                refine fg_X3_43 X hI ha0 dX3_parse_141 (fun v122 ev122 _ => ?_)
                have mv122 : v122.toInt = v103.toInt := by rw [ev122, ← e121]
                exact ret _ _ _ _ dX3_parse_144 rfl hI
          · skip
            refine zg_aload_n X 1 rfl dX3_parse_83 ?_
            refine zg_cVv (As := []) (st := []) X ha0 rfl (by decide) rfl (t_X3_telling l d L kd κ _ hI a0 ha0 ) mk_X3_68 mc_X3_telling mz_X3 mi_X3_telling ml_X3_telling (na := 0) ⟨md_X3.1, md_X3.2, by decide +kernel⟩ rfl ⟨by decide, by decide⟩ (Nat.le_of_ble_eq_true rfl) dX3_parse_84 (fun σ hI => ?_)
            refine zg_iinc X 1 (fun v123 => [(4, .int v123), (0, .ref a0), (1, .ref p1), (2, .int p2), (3, .ref p3)]) 0 dX3_parse_87 rfl (by decide) (by decide) (by omega) (by omega) (fun _ => rfl) (fun v123 _ hv123 => ?_)
            refine zg_goto X 59 dX3_parse_90 (by decide) ?_
            refine zg_sub [0, 1, 2, 3, 4] rfl ?_
            exact ihLp23 _ v123 hI  (by omega) (by omega)
  refine zg_sub [0, 1, 2, 3, 4] rfl ?_
  exact Lp23 (((401) - v21.toInt + 1).toNat + 1) _ v21 hI  (by omega) (by omega)
set_option maxHeartbeats 4000000 in
set_option maxRecDepth 100000 in
theorem t_X10_read (l : Launch) (d : zD2) (L : List Nat) (kd : Nat → Nat) (κ : Int) (σ : zS) (hI : zI κ 0 L kd σ) (a0 : Nat) (ha0 : zT L kd a0 10) : zMi l yX10_read (Cond.code yX10_read cX10_read 3 (some .int) :: zWL) 26 [.ref a0] d L kd σ (fun _ σ2 => zI 0 0 L kd σ2) := by
  refine zMi.of (own := RX10) (by decide +kernel) rfl rfl (Nat.le_of_ble_eq_true rfl) ?_
  intro p e s m args below meth c A Q X ret
  refine zg_lv (lv2 := [(0, .ref a0)]) rfl ?_
  refine zg_aload_n X 0 rfl dX10_read_0 ?_
  refine fg_X10_19 X hI ha0 dX10_read_1 (fun v1 _ hv1 => ?_)
  refine zg_aload_n X 0 rfl dX10_read_4 ?_
  refine fg_X10_10 X hI ha0 dX10_read_5 (fun v2 _ hv2 => ?_)
  refine fg_X10_91 X hI hv2 dX10_read_8 (fun v3 _ hv3 => ?_)
  refine zg_aload_n X 0 rfl dX10_read_11 ?_
  refine fg_X10_10 X hI ha0 dX10_read_12 (fun v4 _ hv4 => ?_)
  refine fg_X10_84 X hI hv4 dX10_read_15 (fun v5 _ hv5 => ?_)
  have hkv5 := hI.2.2.1
  refine zg_aload_n X 0 rfl dX10_read_18 ?_
  refine fg_X10_74 X hI ha0 dX10_read_19 (fun v6 _ hv6 => ?_)
  refine zg_cVi (As := [.ref v3, .int v5, .ref v6]) (st := []) X hv1 rfl (by decide) rfl (t_X3_parse l d L kd κ 0 _ hI v1 hv1 v3 hv3 v5 v6 hv6 (by omega)) mk_X10_95 mc_X3_parse mz_X3 mi_X3_parse ml_X3_parse (na := 3) ⟨md_X3.1, md_X3.2, by decide +kernel⟩ rfl ⟨by decide, by decide⟩ (Nat.le_of_ble_eq_true rfl) dX10_read_22 (fun v7 σ hI => ?_)
  refine zg_istore_n X [(1, .int v7), (0, .ref a0)] dX10_read_25 (by decide) rfl ?_
  refine zg_aload_n X 1 rfl dX10_read_26 ?_
  refine zg_aload_n X 1 rfl dX10_read_27 ?_
  refine fg_X10_19 X hI ha0 dX10_read_28 (fun v8 _ hv8 => ?_)
  refine fg_X10_99 X hI hv8 dX10_read_31 (fun v9 _ _ => ?_)
  refine fp_X10_81 X hI ha0 (zb_rng _) dX10_read_34 (fun s10 es10 hI => ?_)
  refine zg_aload_n X 1 rfl dX10_read_37 ?_
  refine fg_X10_10 X hI ha0 dX10_read_38 (fun v11 _ hv11 => ?_)
  refine zg_iconst X 0 dX10_read_41 (by decide) (fun v12 _ hv12 => ?_)
  refine fq_X10_84 X hv11 dX10_read_42 (fun s13 es13 => ?_)
  have hI : zI v12.toInt 2 L kd s13 := by rw [es13]; exact zi_tape hI hv11 (by omega) (by omega)
  refine zg_iload_n X 0 rfl dX10_read_45 ?_
  refine zg_if_ne X 71 dX10_read_46 (by decide) (fun c14 => ?_) (fun c14 => ?_)
  · skip
    refine zg_iload_n X 0 rfl dX10_read_71 ?_
    exact ret _ _ _ _ dX10_read_72 rfl (zi_eq (by omega) (zi_weak hI))
  · skip
    refine zg_aload_n X 1 rfl dX10_read_49 ?_
    refine fg_X10_74 X hI ha0 dX10_read_50 (fun v15 _ hv15 => ?_)
    refine zg_astore_n X [(2, .ref v15), (1, .int v7), (0, .ref a0)] dX10_read_53 (by decide) rfl ?_
    refine zg_aload_n X 2 rfl dX10_read_54 ?_
    refine zg_aload_n X 2 rfl dX10_read_55 ?_
    refine fg_X10_70 X hI ha0 dX10_read_56 (fun v16 _ hv16 => ?_)
    refine fp_X10_74 X hI ha0 hv16 dX10_read_59 (fun s17 es17 hI => ?_)
    refine zg_aload_n X 2 rfl dX10_read_62 ?_
    refine zg_aload_n X 0 rfl dX10_read_63 ?_
    refine fp_X10_70 X hI ha0 hv15 dX10_read_64 (fun s18 es18 hI => ?_)
    refine zg_aload_n X 2 rfl dX10_read_67 ?_
    refine zg_cVv (As := []) (st := []) X ha0 rfl (by decide) rfl (t_X10_beginAnew l d L kd v12.toInt 2 _ hI a0 ha0 ) mk_X10_100 mc_X10_beginAnew mz_X10 mi_X10_beginAnew ml_X10_beginAnew (na := 0) ⟨md_X10.1, md_X10.2, by decide +kernel⟩ rfl ⟨by decide, by decide⟩ (Nat.le_of_ble_eq_true rfl) dX10_read_68 (fun σ hI => ?_)
    refine zg_iload_n X 1 rfl dX10_read_71 ?_
    exact ret _ _ _ _ dX10_read_72 rfl (zi_eq (by omega) (zi_weak hI))
