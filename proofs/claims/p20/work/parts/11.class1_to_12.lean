-- 11.class1
section
set_option maxHeartbeats 4000000 in
set_option maxRecDepth 100000 in
/-- Arrays.fill of whole numbers of any range -/
theorem t_fill (l : Launch) (d : zD2) (L : List Nat) (kd : Nat → Nat) (κ : Int) (b : Nat) (σ : zS) (hI : zI κ b L kd σ) (k : Nat) (a0 : Nat) (ha0 : zT L kd a0 k) (p2 : Int32) (hb : zb k = 13) (hr : ∀ j, zr κ k j = (-2147483648, 2147483647)) (hn : zn k < 2147483648) : zMv l yJ7_fill_53178 (Cond.code yJ7_fill_53178 cJ7_fill_53178 4 none :: zWL) 0 [.ref a0, .int p2] d L kd σ (fun σ2 => σ2 = zfil σ a0 p2 (zn k) ∧ zI κ b L kd σ2) := by
  refine zMv.of (own := RJ7) (by decide +kernel) rfl rfl (Nat.le_of_ble_eq_true rfl) ?_
  intro p e s m args below meth c A Q X ret
  refine zg_lv (lv2 := [(0, .ref a0), (1, .int p2)]) rfl ?_
  refine zg_iconst X 0 dJ7_fill_53178_0 (by decide) (fun v1 _ hv1 => ?_)
  refine zg_istore_n X [(2, .int v1), (0, .ref a0), (1, .int p2)] dJ7_fill_53178_1 (by decide) rfl ?_
  refine zg_aload_n X 1 rfl dJ7_fill_53178_2 ?_
  refine zg_alen13 X ha0 hb hn dJ7_fill_53178_3 (fun v2 hv2 => ?_)
  refine zg_istore_n X [(3, .int v2), (2, .int v1), (0, .ref a0), (1, .int p2)] dJ7_fill_53178_4 (by decide) rfl ?_
  have Lp : ∀ (n : Nat) (τ : zS) (i : Int32), zI κ b L kd τ → τ = zfil σ a0 p2 i.toInt.toNat → 0 ≤ i.toInt ∧ i.toInt ≤ zn k → (zn k : Int) - i.toInt + 1 < (n : Int) → zG d L kd A 4 p l e (k2_rm 0 (100 * 0)) s m args below meth c Q τ 5 [(3, .int v2), (2, .int i), (0, .ref a0), (1, .int p2)] [] := by
    intro n
    induction n with
    | zero => intro τ i hI hC hx hm; exact absurd hm (by omega)
    | succ n ih =>
      intro τ i hI hC hx hm
      refine zg_iload_n X 1 rfl dJ7_fill_53178_5 ?_
      refine zg_iload_n X 0 rfl dJ7_fill_53178_6 ?_
      refine zg_icmp_ge X 20 dJ7_fill_53178_7 (by decide) (fun c7 => ?_) (fun c7 => ?_)
      · exact ret _ _ _ dJ7_fill_53178_20 ⟨by rw [hC, show i.toInt.toNat = zn k by omega], hI⟩
      · refine zg_aload_n X 2 rfl dJ7_fill_53178_10 ?_
        refine zg_iload_n X 1 rfl dJ7_fill_53178_11 ?_
        refine zg_iload_n X 3 rfl dJ7_fill_53178_12 ?_
        refine zg_iast X ha0 hb (by omega) (by omega) dJ7_fill_53178_13 (fun σ2 e2 => ?_)
        have hI2 : zI κ b L kd σ2 := by rw [e2]; exact zi_puti hI ha0 (hr _) (zb_rng _).1 (zb_rng _).2
        have hC2 : σ2 = zfil σ a0 p2 (i.toInt.toNat + 1) := by
          rw [e2, hC]
          unfold zfil
          refine Prod.ext ?_ rfl
          funext q j
          show zu _ a0 i.toNatClampNeg p2 q j = _
          unfold zu
          have hi : i.toNatClampNeg = i.toInt.toNat := rfl
          by_cases hq : q = a0
          · subst hq
            simp only [if_pos]
            by_cases hj : j = i.toNatClampNeg
            · rw [if_pos hj, if_pos (by omega)]
            · rw [if_neg hj]
              by_cases hl : j < i.toInt.toNat
              · rw [if_pos hl, if_pos (by omega)]
              · rw [if_neg hl, if_neg (by omega)]
          · simp only [if_neg hq]
        refine zg_iinc X 1 (fun v => [(2, .int v), (3, .int v2), (0, .ref a0), (1, .int p2)]) 1 dJ7_fill_53178_14 rfl (by decide) (by decide) (by omega) (by omega) (fun _ => rfl) (fun v3 _ hv3 => ?_)
        refine zg_goto X 5 dJ7_fill_53178_17 (by decide) ?_
        refine zg_sub [1, 0, 2, 3] rfl ?_
        exact ih _ v3 hI2 (by rw [hC2, show v3.toInt.toNat = i.toInt.toNat + 1 by omega]) (by omega) (by omega)
  exact Lp (((zn k : Int) - v1.toInt + 1).toNat + 1) _ v1 hI (by
    rw [show v1.toInt.toNat = 0 by omega]
    unfold zfil
    refine Prod.ext ?_ rfl
    funext q j
    show σ.1 q j = _
    by_cases hq : q = a0
    · subst hq
      simp
    · simp [hq]) (by omega) (by omega)
set_option maxHeartbeats 4000000 in
set_option maxRecDepth 100000 in
theorem t_X10_isWithin (l : Launch) (d : zD2) (L : List Nat) (kd : Nat → Nat) (σ : zS) (p1 : Int32) (p2 : Int32) (p3 : Int32) : zMi l yX10_isWithin (Cond.code yX10_isWithin cX10_isWithin 3 (some .boolean) :: zWL) 0 [.int p1, .int p2, .int p3] d L kd σ (fun v σ2 => (v = F_X10_isWithin p1 p2 p3 ∧ (((v.toInt = 1 ∧ p2.toInt ≤ p1.toInt ∧ p1.toInt ≤ p3.toInt) ∨ (v.toInt = 0 ∧ (p1.toInt < p2.toInt ∨ p3.toInt < p1.toInt))))) ∧ σ = σ2) := by
  refine zMi.of (own := RX10) (by decide +kernel) rfl rfl (Nat.le_of_ble_eq_true rfl) ?_
  intro p e s m args below meth c A Q X ret
  refine zg_lv (lv2 := [(0, .int p1), (1, .int p2), (2, .int p3)]) rfl ?_
  obtain ⟨R, hR⟩ : ∃ R, R = F_X10_isWithin p1 p2 p3 := ⟨_, rfl⟩
  have E := hR
  unfold F_X10_isWithin at E
  refine zg_iload_n X 0 rfl dX10_isWithin_0 ?_
  refine zg_iload_n X 1 rfl dX10_isWithin_1 ?_
  have zp1_z1 := zb_rng p1
  have zp2_z2 := zb_rng p2
  refine zg_icmp_lt X 14 dX10_isWithin_2 (by decide) (fun c3 => ?_) (fun c3 => ?_)
  · skip
    replace E := zIf_t c3 E
    refine zg_iconst X 0 dX10_isWithin_14 (by decide) (fun v4 _ hv4 => ?_)
    replace E := zLet_s (zcst hv4 (by decide)) E
    exact ret _ _ _ _ dX10_isWithin_15 (zb_bool ⟨by omega, by omega⟩) ⟨⟨E.symm.trans hR, by omega⟩, rfl⟩
  · skip
    replace E := zIf_f (Int.not_lt.mpr c3) E
    refine zg_iload_n X 0 rfl dX10_isWithin_5 ?_
    refine zg_iload_n X 2 rfl dX10_isWithin_6 ?_
    have zp1_z5 := zb_rng p1
    have zp3_z6 := zb_rng p3
    refine zg_icmp_gt X 14 dX10_isWithin_7 (by decide) (fun c7 => ?_) (fun c7 => ?_)
    · skip
      replace E := zIf_t c7 E
      refine zg_iconst X 0 dX10_isWithin_14 (by decide) (fun v8 _ hv8 => ?_)
      replace E := zLet_s (zcst hv8 (by decide)) E
      exact ret _ _ _ _ dX10_isWithin_15 (zb_bool ⟨by omega, by omega⟩) ⟨⟨E.symm.trans hR, by omega⟩, rfl⟩
    · skip
      replace E := zIf_f (Int.not_lt.mpr c7) E
      refine zg_iconst X 1 dX10_isWithin_10 (by decide) (fun v9 _ hv9 => ?_)
      replace E := zLet_s (zcst hv9 (by decide)) E
      refine zg_goto X 15 dX10_isWithin_11 (by decide) ?_
      exact ret _ _ _ _ dX10_isWithin_15 (zb_bool ⟨by omega, by omega⟩) ⟨⟨E.symm.trans hR, by omega⟩, rfl⟩
set_option maxHeartbeats 4000000 in
set_option maxRecDepth 100000 in
theorem t_X10_bit (l : Launch) (d : zD2) (L : List Nat) (kd : Nat → Nat) (σ : zS) (p1 : Int32) : zMi l yX10_bit (Cond.code yX10_bit cX10_bit 1 (some .int) :: zWL) 0 [.int p1] d L kd σ (fun v σ2 => (v = F_X10_bit p1 ∧ ((0 ≤ p1.toInt → p1.toInt ≤ 12 → 1 ≤ v.toInt ∧ v.toInt ≤ 4096))) ∧ σ = σ2) := by
  refine zMi.of (own := RX10) (by decide +kernel) rfl rfl (Nat.le_of_ble_eq_true rfl) ?_
  intro p e s m args below meth c A Q X ret
  refine zg_lv (lv2 := [(0, .int p1)]) rfl ?_
  obtain ⟨R, hR⟩ : ∃ R, R = F_X10_bit p1 := ⟨_, rfl⟩
  have E := hR
  unfold F_X10_bit at E
  refine zg_iconst X 1 dX10_bit_0 (by decide) (fun v1 _ hv1 => ?_)
  replace E := zLet_s (zcst hv1 (by decide)) E
  refine zg_iload_n X 0 rfl dX10_bit_1 ?_
  refine zg_ishlW X dX10_bit_2 (fun v2 ev2 => ?_)
  replace E := zLet_s ev2 E
  exact ret _ _ _ _ dX10_bit_3 rfl ⟨⟨E.symm.trans hR, fun h0 h1 => by rw [ev2, show v1 = 1 from Int32.toInt_inj.mp hv1]; exact zb_bit h0 h1⟩, rfl⟩
set_option maxHeartbeats 4000000 in
set_option maxRecDepth 100000 in
theorem t_X10_has (l : Launch) (d : zD2) (L : List Nat) (kd : Nat → Nat) (σ : zS) (p1 : Int32) (p2 : Int32) : zMi l yX10_has (Cond.code yX10_has cX10_has 2 (some .boolean) :: zWL) 1 [.int p1, .int p2] d L kd σ (fun v σ2 => (v = F_X10_has p1 p2 ∧ ((0 ≤ v.toInt ∧ v.toInt ≤ 1))) ∧ σ = σ2) := by
  refine zMi.of (own := RX10) (by decide +kernel) rfl rfl (Nat.le_of_ble_eq_true rfl) ?_
  intro p e s m args below meth c A Q X ret
  refine zg_lv (lv2 := [(0, .int p1), (1, .int p2)]) rfl ?_
  obtain ⟨R, hR⟩ : ∃ R, R = F_X10_has p1 p2 := ⟨_, rfl⟩
  have E := hR
  unfold F_X10_has at E
  refine zg_iload_n X 0 rfl dX10_has_0 ?_
  refine zg_iload_n X 1 rfl dX10_has_1 ?_
  refine zg_cSi (As := [.int p2]) (st := [.int p1]) X (t_X10_bit l d L kd _ p2 ) mk_X10_216 mc_X10_bit mz_X10 ms_X10_bit (na := 1) ⟨md_X10.1, md_X10.2, by decide +kernel⟩ rfl ⟨by decide, by decide⟩ (Nat.le_of_ble_eq_true rfl) dX10_has_2 (fun v1 σ2 hq => ?_)
  obtain ⟨⟨hF, hv1⟩, rfl⟩ := hq
  replace E := zLet_s hF E
  refine zg_iandW X dX10_has_5 (fun v2 ev2 => ?_)
  replace E := zLet_s ev2 E
  refine zg_if_eq X 13 dX10_has_6 (by decide) (fun c3 => ?_) (fun c3 => ?_)
  · skip
    replace E := zIf_t c3 E
    refine zg_iconst X 0 dX10_has_13 (by decide) (fun v4 _ hv4 => ?_)
    replace E := zLet_s (zcst hv4 (by decide)) E
    exact ret _ _ _ _ dX10_has_14 (zb_bool ⟨by omega, by omega⟩) ⟨⟨E.symm.trans hR, ⟨by omega, by omega⟩⟩, rfl⟩
  · skip
    replace E := zIf_f c3 E
    refine zg_iconst X 1 dX10_has_9 (by decide) (fun v5 _ hv5 => ?_)
    replace E := zLet_s (zcst hv5 (by decide)) E
    refine zg_goto X 14 dX10_has_10 (by decide) ?_
    exact ret _ _ _ _ dX10_has_14 (zb_bool ⟨by omega, by omega⟩) ⟨⟨E.symm.trans hR, ⟨by omega, by omega⟩⟩, rfl⟩
set_option maxHeartbeats 4000000 in
set_option maxRecDepth 100000 in
theorem t_X10_held (l : Launch) (d : zD2) (L : List Nat) (kd : Nat → Nat) (σ : zS) (p1 : Int32) (p2 : Int32) (p3 : Int32) : zMi l yX10_held (Cond.code yX10_held cX10_held 3 (some .int) :: zWL) 1 [.int p1, .int p2, .int p3] d L kd σ (fun v σ2 => (v = F_X10_held p1 p2 p3 ∧ (True)) ∧ σ = σ2) := by
  refine zMi.of (own := RX10) (by decide +kernel) rfl rfl (Nat.le_of_ble_eq_true rfl) ?_
  intro p e s m args below meth c A Q X ret
  refine zg_lv (lv2 := [(0, .int p1), (1, .int p2), (2, .int p3)]) rfl ?_
  obtain ⟨R, hR⟩ : ∃ R, R = F_X10_held p1 p2 p3 := ⟨_, rfl⟩
  have E := hR
  unfold F_X10_held at E
  refine zg_iload_n X 1 rfl dX10_held_0 ?_
  refine zg_iload_n X 2 rfl dX10_held_1 ?_
  refine zg_iload_n X 0 rfl dX10_held_2 ?_
  refine zg_min X wj_X10_262 ⟨by decide, Nat.le_of_ble_eq_true rfl⟩ dX10_held_3 (fun v1 hv1 => ?_)
  replace E := zLet_s (zmin_e hv1) E
  refine zg_max X wj_X10_333 ⟨by decide, Nat.le_of_ble_eq_true rfl⟩ dX10_held_6 (fun v2 hv2 => ?_)
  replace E := zLet_s (zmax_e hv2) E
  exact ret _ _ _ _ dX10_held_9 rfl ⟨⟨E.symm.trans hR, trivial⟩, rfl⟩
set_option maxHeartbeats 4000000 in
set_option maxRecDepth 100000 in
theorem t_X10_bitAt (l : Launch) (d : zD2) (L : List Nat) (kd : Nat → Nat) (σ : zS) (p1 : Int32) (p2 : Int32) : zMi l yX10_bitAt (Cond.code yX10_bitAt cX10_bitAt 4 (some .int) :: zWL) 2 [.int p1, .int p2] d L kd σ (fun v σ2 => (v = F_X10_bitAt p1 p2 ∧ (True)) ∧ σ = σ2) := by
  refine zMi.of (own := RX10) (by decide +kernel) rfl rfl (Nat.le_of_ble_eq_true rfl) ?_
  intro p e s m args below meth c A Q X ret
  refine zg_lv (lv2 := [(0, .int p1), (1, .int p2)]) rfl ?_
  obtain ⟨R, hR⟩ : ∃ R, R = F_X10_bitAt p1 p2 := ⟨_, rfl⟩
  have E := hR
  unfold F_X10_bitAt at E
  refine zg_iconst X 0 dX10_bitAt_0 (by decide) (fun v1 _ hv1 => ?_)
  replace E := zLet_s (zcst hv1 (by decide)) E
  refine zg_istore_n X [(2, .int v1), (0, .int p1), (1, .int p2)] dX10_bitAt_1 (by decide) rfl ?_
  refine zg_iconst X 0 dX10_bitAt_2 (by decide) (fun v2 _ hv2 => ?_)
  replace E := zLet_s (zcst hv2 (by decide)) E
  refine zg_istore_n X [(3, .int v2), (2, .int v1), (0, .int p1), (1, .int p2)] dX10_bitAt_3 (by decide) rfl ?_
  have Lp5 : ∀ (nLp5 : Nat) (x3 : Int32) (x4 : Int32), R = F_X10_bitAt_4 p1 p2  nLp5 x3 x4 → 0 ≤ x4.toInt ∧ x4.toInt ≤ 12 ∧ 0 ≤ x3.toInt ∧ x3.toInt ≤ 12 ∧ x4.toInt ≤ x3.toInt → (12) - x3.toInt + 1 < (nLp5 : Int) → zG d L kd A 4 p l e (k2_rm 2 (100 * 2)) s m args below meth c Q σ 4 [(3, .int x3), (2, .int x4), (0, .int p1), (1, .int p2)] [] := by
    intro nLp5
    induction nLp5 with
    | zero => intro x3 x4  E  hxLp5 hm ; exact absurd hm (by omega)
    | succ nLp5 ihLp5 =>
      intro x3 x4  E  hxLp5 hmLp5 
      rw [F_X10_bitAt_4] at E
      refine zg_iload_n X 0 rfl dX10_bitAt_4 ?_
      refine zg_bipush X 12 dX10_bitAt_5 (by decide) (fun v6 _ hv6 => ?_)
      replace E := zLet_s (zcst hv6 (by decide)) E
      refine zg_icmp_ge X 34 dX10_bitAt_7 (by decide) (fun c7 => ?_) (fun c7 => ?_)
      · skip
        replace E := zIf_f (Int.not_lt.mpr c7) E
        refine zg_iconst X (-1) dX10_bitAt_34 (by decide) (fun v8 _ hv8 => ?_)
        replace E := zLet_s (zcst hv8 (by decide)) E
        exact ret _ _ _ _ dX10_bitAt_35 rfl ⟨⟨E.symm.trans hR, trivial⟩, rfl⟩
      · skip
        replace E := zIf_t c7 E
        refine zg_iload_n X 2 rfl dX10_bitAt_10 ?_
        refine zg_iload_n X 0 rfl dX10_bitAt_11 ?_
        refine zg_cSi (As := [.int p1, .int x3]) (st := []) X (t_X10_has l d L kd _ p1 x3 ) mk_X10_131 mc_X10_has mz_X10 ms_X10_has (na := 2) ⟨md_X10.1, md_X10.2, by decide +kernel⟩ rfl ⟨by decide, by decide⟩ (Nat.le_of_ble_eq_true rfl) dX10_bitAt_12 (fun v9 σ2 hq => ?_)
        obtain ⟨⟨hF, hv9⟩, rfl⟩ := hq
        replace E := zLet_s hF E
        refine zg_if_eq X 28 dX10_bitAt_15 (by decide) (fun c10 => ?_) (fun c10 => ?_)
        · skip
          replace E := zIf_t c10 E
          refine zg_iinc X 1 (fun v11 => [(3, .int v11), (2, .int x4), (0, .int p1), (1, .int p2)]) 0 dX10_bitAt_28 rfl (by decide) (by decide) (by omega) (by omega) (fun _ => rfl) (fun v11 ev11 hv11 => ?_)
          replace E := zLet_s (zinc ev11 (by decide)) E
          refine zg_goto X 4 dX10_bitAt_31 (by decide) ?_
          refine zg_sub [0, 1, 2, 3] rfl ?_
          exact ihLp5 v11 x4   E  (by omega) (by omega) 
        · skip
          replace E := zIf_f c10 E
          refine zg_iload_n X 1 rfl dX10_bitAt_18 ?_
          refine zg_iload_n X 3 rfl dX10_bitAt_19 ?_
          refine zg_icmp_ne X 25 dX10_bitAt_20 (by decide) (fun c12 => ?_) (fun c12 => ?_)
          · skip
            replace E := zIf_f c12 E
            refine zg_iinc X 1 (fun v13 => [(2, .int v13), (3, .int x3), (0, .int p1), (1, .int p2)]) 1 dX10_bitAt_25 rfl (by decide) (by decide) (by omega) (by omega) (fun _ => rfl) (fun v13 ev13 hv13 => ?_)
            replace E := zLet_s (zinc ev13 (by decide)) E
            refine zg_iinc X 1 (fun v14 => [(3, .int v14), (2, .int v13), (0, .int p1), (1, .int p2)]) 1 dX10_bitAt_28 rfl (by decide) (by decide) (by omega) (by omega) (fun _ => rfl) (fun v14 ev14 hv14 => ?_)
            replace E := zLet_s (zinc ev14 (by decide)) E
            refine zg_goto X 4 dX10_bitAt_31 (by decide) ?_
            refine zg_sub [0, 1, 2, 3] rfl ?_
            exact ihLp5 v14 v13   E  (by omega) (by omega) 
          · skip
            replace E := zIf_t c12 E
            refine zg_iload_n X 0 rfl dX10_bitAt_23 ?_
            exact ret _ _ _ _ dX10_bitAt_24 rfl ⟨⟨E.symm.trans hR, trivial⟩, rfl⟩
  refine zg_sub [0, 1, 2, 3] rfl ?_
  exact Lp5 10000 v2 v1   E  (by omega) (by omega) 
set_option maxHeartbeats 4000000 in
set_option maxRecDepth 100000 in
theorem t_X9_addStep (l : Launch) (d : zD2) (L : List Nat) (kd : Nat → Nat) (κ : Int) (b : Nat) (σ : zS) (hI : zI κ b L kd σ) (a0 : Nat) (ha0 : zT L kd a0 9) (p1 : Int32) (p2 : Int32) : zMv l yX9_addStep (Cond.code yX9_addStep cX9_addStep 3 none :: zWL) 0 [.ref a0, .int p1, .int p2] d L kd σ (fun σ2 => σ2 = F_X9_addStep a0 p1 p2 σ ∧ zSm [9, 49, 50] [] L kd σ σ2 ∧ (zI κ b L kd σ2)) := by
  refine zMv.of (own := RX9) (by decide +kernel) rfl rfl (Nat.le_of_ble_eq_true rfl) ?_
  intro p e s m args below meth c A Q X ret
  refine zg_lv (lv2 := [(0, .ref a0), (1, .int p1), (2, .int p2)]) rfl ?_
  obtain ⟨R, hR⟩ : ∃ R, R = F_X9_addStep a0 p1 p2 σ := ⟨_, rfl⟩
  have E := hR
  unfold F_X9_addStep at E
  have hS : zSm [9, 49, 50] [] L kd σ σ := zSm.rf
  refine zg_aload_n X 0 rfl dX9_addStep_0 ?_
  refine fg_X9_44 X hI ha0 dX9_addStep_1 (fun v1 ev1 hv1 => ?_)
  replace E := zLet_s ev1 E
  refine zg_sipush X 420 dX9_addStep_4 (by decide) (fun v2 _ hv2 => ?_)
  replace E := zLet_s (zcst hv2 (by decide)) E
  refine zg_icmp_ge X 40 dX9_addStep_7 (by decide) (fun c3 => ?_) (fun c3 => ?_)
  · skip
    replace E := zIf_f (Int.not_lt.mpr c3) E
    exact ret _ _ _ dX9_addStep_40 ⟨E.symm.trans hR, hS, hI⟩
  · skip
    replace E := zIf_t c3 E
    refine zg_aload_n X 0 rfl dX9_addStep_10 ?_
    refine fg_X9_28 X hI ha0 dX9_addStep_11 (fun v4 ev4 hv4 => ?_)
    replace E := zLet_s (zgr ev4) E
    refine zg_aload_n X 0 rfl dX9_addStep_14 ?_
    refine fg_X9_44 X hI ha0 dX9_addStep_15 (fun v5 ev5 hv5 => ?_)
    replace E := zLet_s ev5 E
    have mv5 : v5.toInt = v1.toInt := by rw [ev5, ← ev1]
    refine zg_iload_n X 1 rfl dX9_addStep_18 ?_
    refine as_49 X hI hv4 (by omega) (by omega) dX9_addStep_19 (fun s6 es6 hI => ?_)
    replace E := zLet_s es6 E
    have hS := hS.i hv4 es6 rfl
    have e7 : v5 = s6.1 a0 8 := by rw [es6]; exact zm_k hv4 ha0 (by decide) ev5
    refine zg_aload_n X 0 rfl dX9_addStep_20 ?_
    refine fg_X9_31 X hI ha0 dX9_addStep_21 (fun v8 ev8 hv8 => ?_)
    replace E := zLet_s (zgr ev8) E
    refine zg_aload_n X 0 rfl dX9_addStep_24 ?_
    refine fg_X9_44 X hI ha0 dX9_addStep_25 (fun v9 ev9 hv9 => ?_)
    replace E := zLet_s ev9 E
    have mv9 : v9.toInt = v5.toInt := by rw [ev9, ← e7]
    refine zg_iload_n X 2 rfl dX9_addStep_28 ?_
    refine as_50 X hI hv8 (by omega) (by omega) dX9_addStep_29 (fun s10 es10 hI => ?_)
    replace E := zLet_s es10 E
    have hS := hS.i hv8 es10 rfl
    have e11 : v9 = s10.1 a0 8 := by rw [es10]; exact zm_k hv8 ha0 (by decide) ev9
    refine zg_aload_n X 0 rfl dX9_addStep_30 ?_
    refine zg_dup X dX9_addStep_31 rfl ?_
    refine fg_X9_44 X hI ha0 dX9_addStep_32 (fun v12 ev12 hv12 => ?_)
    replace E := zLet_s ev12 E
    have mv12 : v12.toInt = v9.toInt := by rw [ev12, ← e11]
    refine zg_iconst X 1 dX9_addStep_35 (by decide) (fun v13 _ hv13 => ?_)
    replace E := zLet_s (zcst hv13 (by decide)) E
    refine zg_iadd X dX9_addStep_36 (by omega) (by omega) (fun v14 ev14 hv14 => ?_)
    replace E := zLet_s ev14 E
    refine fp_X9_44 X hI ha0 ⟨by omega, by omega⟩ dX9_addStep_37 (fun s15 es15 hI => ?_)
    replace E := zLet_s es15 E
    have hS := hS.i ha0 es15 rfl
    have e17 : v14 = s15.1 a0 8 := by rw [es15]; exact zm_s
    exact ret _ _ _ dX9_addStep_40 ⟨E.symm.trans hR, hS, hI⟩
set_option maxHeartbeats 4000000 in
set_option maxRecDepth 100000 in
theorem t_X9_setValue (l : Launch) (d : zD2) (L : List Nat) (kd : Nat → Nat) (κ : Int) (b : Nat) (σ : zS) (hI : zI κ b L kd σ) (a0 : Nat) (ha0 : zT L kd a0 9) (p1 : Int32) (p2 : Int32) : zMv l yX9_setValue (Cond.code yX9_setValue cX9_setValue 3 none :: zWL) 0 [.ref a0, .int p1, .int p2] d L kd σ (fun σ2 => σ2 = F_X9_setValue a0 p1 p2 σ ∧ zSm [50] [] L kd σ σ2 ∧ (zI κ b L kd σ2)) := by
  refine zMv.of (own := RX9) (by decide +kernel) rfl rfl (Nat.le_of_ble_eq_true rfl) ?_
  intro p e s m args below meth c A Q X ret
  refine zg_lv (lv2 := [(0, .ref a0), (1, .int p1), (2, .int p2)]) rfl ?_
  obtain ⟨R, hR⟩ : ∃ R, R = F_X9_setValue a0 p1 p2 σ := ⟨_, rfl⟩
  have E := hR
  unfold F_X9_setValue at E
  have hS : zSm [50] [] L kd σ σ := zSm.rf
  refine zg_iload_n X 1 rfl dX9_setValue_0 ?_
  refine zg_if_lt X 19 dX9_setValue_1 (by decide) (fun c1 => ?_) (fun c1 => ?_)
  · skip
    replace E := zIf_t c1 E
    exact ret _ _ _ dX9_setValue_19 ⟨E.symm.trans hR, hS, hI⟩
  · skip
    replace E := zIf_f (Int.not_lt.mpr c1) E
    refine zg_iload_n X 1 rfl dX9_setValue_4 ?_
    refine zg_aload_n X 0 rfl dX9_setValue_5 ?_
    refine fg_X9_44 X hI ha0 dX9_setValue_6 (fun v2 ev2 hv2 => ?_)
    replace E := zLet_s ev2 E
    have zp1_z3 := zb_rng p1
    refine zg_icmp_ge X 19 dX9_setValue_9 (by decide) (fun c4 => ?_) (fun c4 => ?_)
    · skip
      replace E := zIf_f (Int.not_lt.mpr c4) E
      exact ret _ _ _ dX9_setValue_19 ⟨E.symm.trans hR, hS, hI⟩
    · skip
      replace E := zIf_t c4 E
      refine zg_aload_n X 0 rfl dX9_setValue_12 ?_
      refine fg_X9_31 X hI ha0 dX9_setValue_13 (fun v5 ev5 hv5 => ?_)
      replace E := zLet_s (zgr ev5) E
      refine zg_iload_n X 1 rfl dX9_setValue_16 ?_
      refine zg_iload_n X 2 rfl dX9_setValue_17 ?_
      refine as_50 X hI hv5 (by omega) (by omega) dX9_setValue_18 (fun s6 es6 hI => ?_)
      replace E := zLet_s es6 E
      have hS := hS.i hv5 es6 rfl
      exact ret _ _ _ dX9_setValue_19 ⟨E.symm.trans hR, hS, hI⟩
set_option maxHeartbeats 4000000 in
set_option maxRecDepth 100000 in
theorem t_X9_setPlace (l : Launch) (d : zD2) (L : List Nat) (kd : Nat → Nat) (κ : Int) (b : Nat) (σ : zS) (hI : zI κ b L kd σ) (a0 : Nat) (ha0 : zT L kd a0 9) (p1 : Int32) (p2 : Int32) (p3 : Int32) (p4 : Int32) (p5 : Int32) (hq0 : 0 ≤ p2.toInt ∧ p2.toInt ≤ 11) : zMv l yX9_setPlace (Cond.code yX9_setPlace cX9_setPlace 6 none :: zWL) 0 [.ref a0, .int p1, .int p2, .int p3, .int p4, .int p5] d L kd σ (fun σ2 => σ2 = F_X9_setPlace a0 p1 p2 p3 p4 p5 σ ∧ zSm [45, 46, 47, 48] [] L kd σ σ2 ∧ (zI κ b L kd σ2)) := by
  refine zMv.of (own := RX9) (by decide +kernel) rfl rfl (Nat.le_of_ble_eq_true rfl) ?_
  intro p e s m args below meth c A Q X ret
  refine zg_lv (lv2 := [(0, .ref a0), (1, .int p1), (2, .int p2), (3, .int p3), (4, .int p4), (5, .int p5)]) rfl ?_
  obtain ⟨R, hR⟩ : ∃ R, R = F_X9_setPlace a0 p1 p2 p3 p4 p5 σ := ⟨_, rfl⟩
  have E := hR
  unfold F_X9_setPlace at E
  have hS : zSm [45, 46, 47, 48] [] L kd σ σ := zSm.rf
  refine zg_iload_n X 1 rfl dX9_setPlace_0 ?_
  refine zg_if_lt X 40 dX9_setPlace_1 (by decide) (fun c1 => ?_) (fun c1 => ?_)
  · skip
    replace E := zIf_t c1 E
    exact ret _ _ _ dX9_setPlace_40 ⟨E.symm.trans hR, hS, hI⟩
  · skip
    replace E := zIf_f (Int.not_lt.mpr c1) E
    refine zg_iload_n X 1 rfl dX9_setPlace_4 ?_
    refine zg_bipush X 12 dX9_setPlace_5 (by decide) (fun v2 _ hv2 => ?_)
    replace E := zLet_s (zcst hv2 (by decide)) E
    have zp1_z3 := zb_rng p1
    refine zg_icmp_ge X 40 dX9_setPlace_7 (by decide) (fun c4 => ?_) (fun c4 => ?_)
    · skip
      replace E := zIf_f (Int.not_lt.mpr c4) E
      exact ret _ _ _ dX9_setPlace_40 ⟨E.symm.trans hR, hS, hI⟩
    · skip
      replace E := zIf_t c4 E
      refine zg_aload_n X 0 rfl dX9_setPlace_10 ?_
      refine fg_X9_15 X hI ha0 dX9_setPlace_11 (fun v5 ev5 hv5 => ?_)
      replace E := zLet_s (zgr ev5) E
      refine zg_iload_n X 1 rfl dX9_setPlace_14 ?_
      refine zg_iload_n X 2 rfl dX9_setPlace_15 ?_
      refine as_45 X hI hv5 (by omega) (by omega) ⟨by omega, by omega⟩ dX9_setPlace_16 (fun s6 es6 hI => ?_)
      replace E := zLet_s es6 E
      have hS := hS.i hv5 es6 rfl
      refine zg_aload_n X 0 rfl dX9_setPlace_17 ?_
      refine fg_X9_19 X hI ha0 dX9_setPlace_18 (fun v7 ev7 hv7 => ?_)
      replace E := zLet_s (zgr ev7) E
      refine zg_iload_n X 1 rfl dX9_setPlace_21 ?_
      refine zg_iload_n X 3 rfl dX9_setPlace_22 ?_
      refine as_46 X hI hv7 (by omega) (by omega) dX9_setPlace_23 (fun s8 es8 hI => ?_)
      replace E := zLet_s es8 E
      have hS := hS.i hv7 es8 rfl
      refine zg_aload_n X 0 rfl dX9_setPlace_24 ?_
      refine fg_X9_22 X hI ha0 dX9_setPlace_25 (fun v9 ev9 hv9 => ?_)
      replace E := zLet_s (zgr ev9) E
      refine zg_iload_n X 1 rfl dX9_setPlace_28 ?_
      refine zg_iload X 4 rfl dX9_setPlace_29 ?_
      refine as_47 X hI hv9 (by omega) (by omega) dX9_setPlace_31 (fun s10 es10 hI => ?_)
      replace E := zLet_s es10 E
      have hS := hS.i hv9 es10 rfl
      refine zg_aload_n X 0 rfl dX9_setPlace_32 ?_
      refine fg_X9_25 X hI ha0 dX9_setPlace_33 (fun v11 ev11 hv11 => ?_)
      replace E := zLet_s (zgr ev11) E
      refine zg_iload_n X 1 rfl dX9_setPlace_36 ?_
      refine zg_iload X 5 rfl dX9_setPlace_37 ?_
      refine as_48 X hI hv11 (by omega) (by omega) dX9_setPlace_39 (fun s12 es12 hI => ?_)
      replace E := zLet_s es12 E
      have hS := hS.i hv11 es12 rfl
      exact ret _ _ _ dX9_setPlace_40 ⟨E.symm.trans hR, hS, hI⟩
set_option maxHeartbeats 4000000 in
set_option maxRecDepth 100000 in
theorem t_X9_stirred (l : Launch) (d : zD2) (L : List Nat) (kd : Nat → Nat) (σ : zS) (p1 : Int32) (p2 : Int32) : zMi l yX9_stirred (Cond.code yX9_stirred cX9_stirred 3 (some .int) :: zWL) 0 [.int p1, .int p2] d L kd σ (fun v σ2 => (v = F_X9_stirred p1 p2 ∧ (True)) ∧ σ = σ2) := by
  refine zMi.of (own := RX9) (by decide +kernel) rfl rfl (Nat.le_of_ble_eq_true rfl) ?_
  intro p e s m args below meth c A Q X ret
  refine zg_lv (lv2 := [(0, .int p1), (1, .int p2)]) rfl ?_
  obtain ⟨R, hR⟩ : ∃ R, R = F_X9_stirred p1 p2 := ⟨_, rfl⟩
  have E := hR
  unfold F_X9_stirred at E
  refine zg_iload_n X 0 rfl dX9_stirred_0 ?_
  refine zg_iload_n X 1 rfl dX9_stirred_1 ?_
  refine zg_ixorW X dX9_stirred_2 (fun v1 ev1 => ?_)
  replace E := zLet_s ev1 E
  refine zg_ldc X 1103515245 wk_X9_81 dX9_stirred_3 (by decide) (fun v2 hv2 => ?_)
  replace E := zLet_s (zcst hv2 (by decide)) E
  refine zg_imulW X dX9_stirred_5 (fun v3 ev3 => ?_)
  replace E := zLet_s ev3 E
  refine zg_sipush X 12345 dX9_stirred_6 (by decide) (fun v4 _ hv4 => ?_)
  replace E := zLet_s (zcst hv4 (by decide)) E
  refine zg_iaddW X dX9_stirred_9 (fun v5 ev5 => ?_)
  replace E := zLet_s ev5 E
  refine zg_istore_n X [(2, .int v5), (0, .int p1), (1, .int p2)] dX9_stirred_10 (by decide) rfl ?_
  refine zg_iload_n X 0 rfl dX9_stirred_11 ?_
  refine zg_iload_n X 0 rfl dX9_stirred_12 ?_
  refine zg_bipush X 15 dX9_stirred_13 (by decide) (fun v6 _ hv6 => ?_)
  replace E := zLet_s (zcst hv6 (by decide)) E
  refine zg_iushrW X dX9_stirred_15 (fun v7 ev7 => ?_)
  replace E := zLet_s ev7 E
  refine zg_ixorW X dX9_stirred_16 (fun v8 ev8 => ?_)
  replace E := zLet_s ev8 E
  exact ret _ _ _ _ dX9_stirred_17 rfl ⟨⟨E.symm.trans hR, trivial⟩, rfl⟩
set_option maxHeartbeats 4000000 in
set_option maxRecDepth 100000 in
theorem t_X9_lot (l : Launch) (d : zD2) (L : List Nat) (kd : Nat → Nat) (σ : zS) (p1 : Int32) (p2 : Int32) (p3 : Int32) : zMi l yX9_lot (Cond.code yX9_lot cX9_lot 3 (some .int) :: zWL) 1 [.int p1, .int p2, .int p3] d L kd σ (fun v σ2 => (v = F_X9_lot p1 p2 p3 ∧ (True)) ∧ σ = σ2) := by
  refine zMi.of (own := RX9) (by decide +kernel) rfl rfl (Nat.le_of_ble_eq_true rfl) ?_
  intro p e s m args below meth c A Q X ret
  refine zg_lv (lv2 := [(0, .int p1), (1, .int p2), (2, .int p3)]) rfl ?_
  obtain ⟨R, hR⟩ : ∃ R, R = F_X9_lot p1 p2 p3 := ⟨_, rfl⟩
  have E := hR
  unfold F_X9_lot at E
  refine zg_iload_n X 1 rfl dX9_lot_0 ?_
  refine zg_sipush X 147 dX9_lot_1 (by decide) (fun v1 _ hv1 => ?_)
  replace E := zLet_s (zcst hv1 (by decide)) E
  refine zg_cSi (As := [.int p2, .int v1]) (st := []) X (t_X9_stirred l d L kd _ p2 v1 ) mk_X9_72 mc_X9_stirred mz_X9 ms_X9_stirred (na := 2) ⟨md_X9.1, md_X9.2, by decide +kernel⟩ rfl ⟨by decide, by decide⟩ (Nat.le_of_ble_eq_true rfl) dX9_lot_4 (fun v2 σ2 hq => ?_)
  obtain ⟨⟨hF, hv2⟩, rfl⟩ := hq
  replace E := zLet_s hF E
  refine zg_iload_n X 2 rfl dX9_lot_7 ?_
  refine zg_cSi (As := [.int v2, .int p3]) (st := []) X (t_X9_stirred l d L kd _ v2 p3 ) mk_X9_72 mc_X9_stirred mz_X9 ms_X9_stirred (na := 2) ⟨md_X9.1, md_X9.2, by decide +kernel⟩ rfl ⟨by decide, by decide⟩ (Nat.le_of_ble_eq_true rfl) dX9_lot_8 (fun v3 σ2 hq => ?_)
  obtain ⟨⟨hF, hv3⟩, rfl⟩ := hq
  replace E := zLet_s hF E
  refine zg_iconst X 1 dX9_lot_11 (by decide) (fun v4 _ hv4 => ?_)
  replace E := zLet_s (zcst hv4 (by decide)) E
  refine zg_iushrW X dX9_lot_12 (fun v5 ev5 => ?_)
  replace E := zLet_s ev5 E
  refine zg_iconst X 1 dX9_lot_13 (by decide) (fun v6 _ hv6 => ?_)
  replace E := zLet_s (zcst hv6 (by decide)) E
  refine zg_iload_n X 0 rfl dX9_lot_14 ?_
  refine zg_max X wj_X9_76 ⟨by decide, Nat.le_of_ble_eq_true rfl⟩ dX9_lot_15 (fun v7 hv7 => ?_)
  replace E := zLet_s (zmax_e hv7) E
  refine zg_iremW X dX9_lot_18 (by omega) (fun v8 ev8 => ?_)
  replace E := zLet_s ev8 E
  exact ret _ _ _ _ dX9_lot_19 rfl ⟨⟨E.symm.trans hR, trivial⟩, rfl⟩
set_option maxHeartbeats 4000000 in
set_option maxRecDepth 100000 in
theorem t_X9_isStorm (l : Launch) (d : zD2) (L : List Nat) (kd : Nat → Nat) (κ : Int) (b : Nat) (σ : zS) (hI : zI κ b L kd σ) (a0 : Nat) (ha0 : zT L kd a0 9) (p1 : Int32) (p2 : Int32) : zMi l yX9_isStorm (Cond.code yX9_isStorm cX9_isStorm 3 (some .boolean) :: zWL) 2 [.ref a0, .int p1, .int p2] d L kd σ (fun v σ2 => (v, σ2) = F_X9_isStorm a0 p1 p2 σ ∧ zSm [] [] L kd σ σ2 ∧ ((0 ≤ v.toInt ∧ v.toInt ≤ 1) ∧ zI κ b L kd σ2)) := by
  refine zMi.of (own := RX9) (by decide +kernel) rfl rfl (Nat.le_of_ble_eq_true rfl) ?_
  intro p e s m args below meth c A Q X ret
  refine zg_lv (lv2 := [(0, .ref a0), (1, .int p1), (2, .int p2)]) rfl ?_
  obtain ⟨R, hR⟩ : ∃ R, R = F_X9_isStorm a0 p1 p2 σ := ⟨_, rfl⟩
  have E := hR
  unfold F_X9_isStorm at E
  have hS : zSm [] [] L kd σ σ := zSm.rf
  refine zg_bipush X 100 dX9_isStorm_0 (by decide) (fun v1 _ hv1 => ?_)
  replace E := zLet_s (zcst hv1 (by decide)) E
  refine zg_iload_n X 1 rfl dX9_isStorm_2 ?_
  refine zg_iconst X 4 dX9_isStorm_3 (by decide) (fun v2 _ hv2 => ?_)
  replace E := zLet_s (zcst hv2 (by decide)) E
  refine zg_iload_n X 2 rfl dX9_isStorm_4 ?_
  refine zg_imulW X dX9_isStorm_5 (fun v3 ev3 => ?_)
  replace E := zLet_s ev3 E
  refine zg_cSi (As := [.int v1, .int p1, .int v3]) (st := []) X (t_X9_lot l d L kd _ v1 p1 v3 ) mk_X9_68 mc_X9_lot mz_X9 ms_X9_lot (na := 3) ⟨md_X9.1, md_X9.2, by decide +kernel⟩ rfl ⟨by decide, by decide⟩ (Nat.le_of_ble_eq_true rfl) dX9_isStorm_6 (fun v4 σ2 hq => ?_)
  obtain ⟨⟨hF, hv4⟩, rfl⟩ := hq
  replace E := zLet_s hF E
  refine zg_aload_n X 0 rfl dX9_isStorm_9 ?_
  refine fg_X9_56 X hI ha0 dX9_isStorm_10 (fun v5 ev5 _ => ?_)
  replace E := zLet_s ev5 E
  have zv4_z6 := zb_rng v4
  have zv5_z7 := zb_rng v5
  refine zg_icmp_ge X 20 dX9_isStorm_13 (by decide) (fun c8 => ?_) (fun c8 => ?_)
  · skip
    replace E := zIf_f (Int.not_lt.mpr c8) E
    refine zg_iconst X 0 dX9_isStorm_20 (by decide) (fun v9 _ hv9 => ?_)
    replace E := zLet_s (zcst hv9 (by decide)) E
    exact ret _ _ _ _ dX9_isStorm_21 (zb_bool ⟨by omega, by omega⟩) ⟨E.symm.trans hR, hS, ⟨⟨by omega, by omega⟩, hI⟩⟩
  · skip
    replace E := zIf_t c8 E
    refine zg_iconst X 1 dX9_isStorm_16 (by decide) (fun v10 _ hv10 => ?_)
    replace E := zLet_s (zcst hv10 (by decide)) E
    refine zg_goto X 21 dX9_isStorm_17 (by decide) ?_
    exact ret _ _ _ _ dX9_isStorm_21 (zb_bool ⟨by omega, by omega⟩) ⟨E.symm.trans hR, hS, ⟨⟨by omega, by omega⟩, hI⟩⟩
set_option maxHeartbeats 4000000 in
set_option maxRecDepth 100000 in
theorem t_X1_moon (l : Launch) (d : zD2) (L : List Nat) (kd : Nat → Nat) (κ : Int) (b : Nat) (σ : zS) (hI : zI κ b L kd σ) (a0 : Nat) (ha0 : zT L kd a0 1) : zMi l yX1_moon (Cond.code yX1_moon cX1_moon 1 (some .int) :: zWL) 0 [.ref a0] d L kd σ (fun v σ2 => (v, σ2) = F_X1_moon a0 σ ∧ zSm [] [] L kd σ σ2 ∧ (zI κ b L kd σ2)) := by
  refine zMi.of (own := RX1) (by decide +kernel) rfl rfl (Nat.le_of_ble_eq_true rfl) ?_
  intro p e s m args below meth c A Q X ret
  refine zg_lv (lv2 := [(0, .ref a0)]) rfl ?_
  obtain ⟨R, hR⟩ : ∃ R, R = F_X1_moon a0 σ := ⟨_, rfl⟩
  have E := hR
  unfold F_X1_moon at E
  have hS : zSm [] [] L kd σ σ := zSm.rf
  refine zg_aload_n X 0 rfl dX1_moon_0 ?_
  refine fg_X1_25 X hI ha0 dX1_moon_1 (fun v1 ev1 _ => ?_)
  replace E := zLet_s ev1 E
  refine zg_bipush X 12 dX1_moon_4 (by decide) (fun v2 _ hv2 => ?_)
  replace E := zLet_s (zcst hv2 (by decide)) E
  refine zg_iremW X dX1_moon_6 (by omega) (fun v3 ev3 => ?_)
  replace E := zLet_s ev3 E
  have hv3 := zb_rem (x := v1) (y := v2) 12 (by omega) (by omega)
  rw [← ev3] at hv3
  exact ret _ _ _ _ dX1_moon_7 rfl ⟨E.symm.trans hR, hS, hI⟩
set_option maxHeartbeats 4000000 in
set_option maxRecDepth 100000 in
theorem t_X1_comesBy (l : Launch) (d : zD2) (L : List Nat) (kd : Nat → Nat) (κ : Int) (b : Nat) (σ : zS) (hI : zI κ b L kd σ) (a0 : Nat) (ha0 : zT L kd a0 1) (p1 : Int32) (p2 : Int32) (hq0 : 0 ≤ p1.toInt ∧ p1.toInt ≤ 11) : zMi l yX1_comesBy (Cond.code yX1_comesBy cX1_comesBy 5 (some .boolean) :: zWL) 0 [.ref a0, .int p1, .int p2] d L kd σ (fun v σ2 => (v, σ2) = F_X1_comesBy a0 p1 p2 σ ∧ zSm [] [] L kd σ σ2 ∧ ((0 ≤ v.toInt ∧ v.toInt ≤ 1) ∧ zI κ b L kd σ2)) := by
  refine zMi.of (own := RX1) (by decide +kernel) rfl rfl (Nat.le_of_ble_eq_true rfl) ?_
  intro p e s m args below meth c A Q X ret
  refine zg_lv (lv2 := [(0, .ref a0), (1, .int p1), (2, .int p2)]) rfl ?_
  obtain ⟨R, hR⟩ : ∃ R, R = F_X1_comesBy a0 p1 p2 σ := ⟨_, rfl⟩
  have E := hR
  unfold F_X1_comesBy at E
  have hS : zSm [] [] L kd σ σ := zSm.rf
  refine zg_iload_n X 1 rfl dX1_comesBy_0 ?_
  refine zg_istore_n X [(3, .int p1), (0, .ref a0), (1, .int p1), (2, .int p2)] dX1_comesBy_1 (by decide) rfl ?_
  refine zg_iconst X 0 dX1_comesBy_2 (by decide) (fun v1 _ hv1 => ?_)
  replace E := zLet_s (zcst hv1 (by decide)) E
  refine zg_istore X [(4, .int v1), (3, .int p1), (0, .ref a0), (1, .int p1), (2, .int p2)] dX1_comesBy_3 (by decide) rfl ?_
  have Lp4 : ∀ (nLp4 : Nat) (τ4 : zS) (x2 : Int32) (x3 : Int32), zI κ b L kd τ4 → zSm [] [] L kd σ τ4 → R = F_X1_comesBy_5 a0 p1 p2  nLp4 x2 x3 τ4 → 0 ≤ x3.toInt ∧ x3.toInt ≤ 11 ∧ 0 ≤ x2.toInt ∧ x2.toInt ≤ 12 → (12) - x2.toInt + 1 < (nLp4 : Int) → zG d L kd A 5 p l e (k2_rm 0 (100 * 0)) s m args below meth c Q τ4 5 [(4, .int x2), (3, .int x3), (0, .ref a0), (1, .int p1), (2, .int p2)] [] := by
    intro nLp4
    induction nLp4 with
    | zero => intro τ4 x2 x3 hI hS E  hxLp4 hm ; exact absurd hm (by omega)
    | succ nLp4 ihLp4 =>
      intro τ4 x2 x3 hI hS E  hxLp4 hmLp4 
      rw [F_X1_comesBy_5] at E
      refine zg_iload X 0 rfl dX1_comesBy_5 ?_
      refine zg_bipush X 12 dX1_comesBy_7 (by decide) (fun v5 _ hv5 => ?_)
      replace E := zLet_s (zcst hv5 (by decide)) E
      refine zg_icmp_ge X 34 dX1_comesBy_9 (by decide) (fun c6 => ?_) (fun c6 => ?_)
      · skip
        replace E := zIf_f (Int.not_lt.mpr c6) E
        refine zg_iload_n X 1 rfl dX1_comesBy_34 ?_
        refine zg_iload_n X 4 rfl dX1_comesBy_35 ?_
        refine zg_icmp_ne X 43 dX1_comesBy_36 (by decide) (fun c7 => ?_) (fun c7 => ?_)
        · skip
          replace E := zIf_f c7 E
          refine zg_iconst X 0 dX1_comesBy_43 (by decide) (fun v8 _ hv8 => ?_)
          replace E := zLet_s (zcst hv8 (by decide)) E
          exact ret _ _ _ _ dX1_comesBy_44 (zb_bool ⟨by omega, by omega⟩) ⟨E.symm.trans hR, hS, ⟨⟨by omega, by omega⟩, hI⟩⟩
        · skip
          replace E := zIf_t c7 E
          refine zg_iconst X 1 dX1_comesBy_39 (by decide) (fun v9 _ hv9 => ?_)
          replace E := zLet_s (zcst hv9 (by decide)) E
          refine zg_goto X 44 dX1_comesBy_40 (by decide) ?_
          exact ret _ _ _ _ dX1_comesBy_44 (zb_bool ⟨by omega, by omega⟩) ⟨E.symm.trans hR, hS, ⟨⟨by omega, by omega⟩, hI⟩⟩
      · skip
        replace E := zIf_t c6 E
        refine zg_iload_n X 1 rfl dX1_comesBy_12 ?_
        refine zg_iload_n X 4 rfl dX1_comesBy_13 ?_
        refine zg_icmp_eq X 34 dX1_comesBy_14 (by decide) (fun c10 => ?_) (fun c10 => ?_)
        · skip
          replace E := zIf_t c10 E
          refine zg_iload_n X 1 rfl dX1_comesBy_34 ?_
          refine zg_iload_n X 4 rfl dX1_comesBy_35 ?_
          refine zg_icmp_ne X 43 dX1_comesBy_36 (by decide) (fun c11 => ?_) (fun c11 => ?_)
          · skip
            replace E := zIf_f c11 E
            refine zg_iconst X 0 dX1_comesBy_43 (by decide) (fun v12 _ hv12 => ?_)
            replace E := zLet_s (zcst hv12 (by decide)) E
            exact ret _ _ _ _ dX1_comesBy_44 (zb_bool ⟨by omega, by omega⟩) ⟨E.symm.trans hR, hS, ⟨⟨by omega, by omega⟩, hI⟩⟩
          · skip
            replace E := zIf_t c11 E
            refine zg_iconst X 1 dX1_comesBy_39 (by decide) (fun v13 _ hv13 => ?_)
            replace E := zLet_s (zcst hv13 (by decide)) E
            refine zg_goto X 44 dX1_comesBy_40 (by decide) ?_
            exact ret _ _ _ _ dX1_comesBy_44 (zb_bool ⟨by omega, by omega⟩) ⟨E.symm.trans hR, hS, ⟨⟨by omega, by omega⟩, hI⟩⟩
        · skip
          replace E := zIf_f c10 E
          refine zg_iload_n X 1 rfl dX1_comesBy_17 ?_
          refine zg_if_eq X 34 dX1_comesBy_18 (by decide) (fun c14 => ?_) (fun c14 => ?_)
          · skip
            replace E := zIf_t c14 E
            refine zg_iload_n X 1 rfl dX1_comesBy_34 ?_
            refine zg_iload_n X 4 rfl dX1_comesBy_35 ?_
            refine zg_icmp_ne X 43 dX1_comesBy_36 (by decide) (fun c15 => ?_) (fun c15 => ?_)
            · skip
              replace E := zIf_f c15 E
              refine zg_iconst X 0 dX1_comesBy_43 (by decide) (fun v16 _ hv16 => ?_)
              replace E := zLet_s (zcst hv16 (by decide)) E
              exact ret _ _ _ _ dX1_comesBy_44 (zb_bool ⟨by omega, by omega⟩) ⟨E.symm.trans hR, hS, ⟨⟨by omega, by omega⟩, hI⟩⟩
            · skip
              replace E := zIf_t c15 E
              refine zg_iconst X 1 dX1_comesBy_39 (by decide) (fun v17 _ hv17 => ?_)
              replace E := zLet_s (zcst hv17 (by decide)) E
              refine zg_goto X 44 dX1_comesBy_40 (by decide) ?_
              exact ret _ _ _ _ dX1_comesBy_44 (zb_bool ⟨by omega, by omega⟩) ⟨E.symm.trans hR, hS, ⟨⟨by omega, by omega⟩, hI⟩⟩
          · skip
            replace E := zIf_f c14 E
            refine zg_aload_n X 2 rfl dX1_comesBy_21 ?_
            refine fg_X1_9 X hI ha0 dX1_comesBy_22 (fun v18 ev18 hv18 => ?_)
            replace E := zLet_s (zgr ev18) E
            refine zg_iload_n X 1 rfl dX1_comesBy_25 ?_
            refine ag_22 X hI hv18 (by omega) (by omega) dX1_comesBy_26 (fun v19 ev19 hv19 => ?_)
            replace E := zLet_s ev19 E
            refine zg_istore_n X [(3, .int v19), (4, .int x2), (0, .ref a0), (1, .int p1), (2, .int p2)] dX1_comesBy_27 (by decide) rfl ?_
            refine zg_iinc X 1 (fun v20 => [(4, .int v20), (3, .int v19), (0, .ref a0), (1, .int p1), (2, .int p2)]) 1 dX1_comesBy_28 rfl (by decide) (by decide) (by omega) (by omega) (fun _ => rfl) (fun v20 ev20 hv20 => ?_)
            replace E := zLet_s (zinc ev20 (by decide)) E
            refine zg_goto X 5 dX1_comesBy_31 (by decide) ?_
            refine zg_sub [0, 1, 2, 3, 4] rfl ?_
            exact ihLp4 _ v20 v19 hI hS E  (by omega) (by omega) 
  refine zg_sub [0, 1, 2, 3, 4] rfl ?_
  exact Lp4 10000 _ v1 p1 hI hS E  (by omega) (by omega) 
set_option maxHeartbeats 4000000 in
set_option maxRecDepth 100000 in
theorem t_X1_copy (l : Launch) (d : zD2) (L : List Nat) (kd : Nat → Nat) (κ : Int) (b : Nat) (σ : zS) (hI : zI κ b L kd σ) (a0 : Nat) (ha0 : zT L kd a0 1) (p1 : Nat) (hp1 : zT L kd p1 1) : zMv l yX1_copy (Cond.code yX1_copy cX1_copy 2 none :: zWL) 1 [.ref a0, .ref p1] d L kd σ (fun σ2 => σ2 = F_X1_copy a0 p1 σ ∧ zSm [1, 22, 23, 24] [] L kd σ σ2 ∧ (zI κ b L kd σ2)) := by
  refine zMv.of (own := RX1) (by decide +kernel) rfl rfl (Nat.le_of_ble_eq_true rfl) ?_
  intro p e s m args below meth c A Q X ret
  refine zg_lv (lv2 := [(0, .ref a0), (1, .ref p1)]) rfl ?_
  obtain ⟨R, hR⟩ : ∃ R, R = F_X1_copy a0 p1 σ := ⟨_, rfl⟩
  have E := hR
  unfold F_X1_copy at E
  have hS : zSm [1, 22, 23, 24] [] L kd σ σ := zSm.rf
  refine zg_aload_n X 1 rfl dX1_copy_0 ?_
  refine fg_X1_9 X hI hp1 dX1_copy_1 (fun v1 ev1 hv1 => ?_)
  replace E := zLet_s (zgr ev1) E
  refine zg_iconst X 0 dX1_copy_4 (by decide) (fun v2 _ hv2 => ?_)
  replace E := zLet_s (zcst hv2 (by decide)) E
  refine zg_aload_n X 0 rfl dX1_copy_5 ?_
  refine fg_X1_9 X hI ha0 dX1_copy_6 (fun v3 ev3 hv3 => ?_)
  replace E := zLet_s (zgr ev3) E
  refine zg_iconst X 0 dX1_copy_9 (by decide) (fun v4 _ hv4 => ?_)
  replace E := zLet_s (zcst hv4 (by decide)) E
  refine zg_bipush X 12 dX1_copy_10 (by decide) (fun v5 _ hv5 => ?_)
  replace E := zLet_s (zcst hv5 (by decide)) E
  refine zg_copy (k := 22) (k2 := 22) (n := 12) X wj_X1_34 hI hv1 hv3 rfl rfl (lo := 0) (hi := 11) (fun _ => rfl) (by decide) (by decide) (fun j h1 h2 => h1 ) (by omega) (by omega) (by omega) ⟨by decide, Nat.le_of_ble_eq_true rfl⟩ dX1_copy_12 (fun s6 es6 hI => ?_)
  replace E := zLet_s es6 E
  have hS := hS.c hv3 es6 rfl
  refine zg_aload_n X 1 rfl dX1_copy_15 ?_
  refine fg_X1_15 X hI hp1 dX1_copy_16 (fun v7 ev7 hv7 => ?_)
  replace E := zLet_s (zgr ev7) E
  refine zg_iconst X 0 dX1_copy_19 (by decide) (fun v8 _ hv8 => ?_)
  replace E := zLet_s (zcst hv8 (by decide)) E
  refine zg_aload_n X 0 rfl dX1_copy_20 ?_
  refine fg_X1_15 X hI ha0 dX1_copy_21 (fun v9 ev9 hv9 => ?_)
  replace E := zLet_s (zgr ev9) E
  refine zg_iconst X 0 dX1_copy_24 (by decide) (fun v10 _ hv10 => ?_)
  replace E := zLet_s (zcst hv10 (by decide)) E
  refine zg_bipush X 12 dX1_copy_25 (by decide) (fun v11 _ hv11 => ?_)
  replace E := zLet_s (zcst hv11 (by decide)) E
  refine zg_copy (k := 23) (k2 := 23) (n := 12) X wj_X1_34 hI hv7 hv9 rfl rfl (lo := (-2147483648)) (hi := 2147483647) (fun _ => rfl) (by decide) (by decide) (fun j h1 h2 => h1 ) (by omega) (by omega) (by omega) ⟨by decide, Nat.le_of_ble_eq_true rfl⟩ dX1_copy_27 (fun s12 es12 hI => ?_)
  replace E := zLet_s es12 E
  have hS := hS.c hv9 es12 rfl
  refine zg_aload_n X 1 rfl dX1_copy_30 ?_
  refine fg_X1_18 X hI hp1 dX1_copy_31 (fun v13 ev13 hv13 => ?_)
  replace E := zLet_s (zgr ev13) E
  refine zg_iconst X 0 dX1_copy_34 (by decide) (fun v14 _ hv14 => ?_)
  replace E := zLet_s (zcst hv14 (by decide)) E
  refine zg_aload_n X 0 rfl dX1_copy_35 ?_
  refine fg_X1_18 X hI ha0 dX1_copy_36 (fun v15 ev15 hv15 => ?_)
  replace E := zLet_s (zgr ev15) E
  refine zg_iconst X 0 dX1_copy_39 (by decide) (fun v16 _ hv16 => ?_)
  replace E := zLet_s (zcst hv16 (by decide)) E
  refine zg_bipush X 12 dX1_copy_40 (by decide) (fun v17 _ hv17 => ?_)
  replace E := zLet_s (zcst hv17 (by decide)) E
  refine zg_copy (k := 24) (k2 := 24) (n := 12) X wj_X1_34 hI hv13 hv15 rfl rfl (lo := (-2147483648)) (hi := 2147483647) (fun _ => rfl) (by decide) (by decide) (fun j h1 h2 => h1 ) (by omega) (by omega) (by omega) ⟨by decide, Nat.le_of_ble_eq_true rfl⟩ dX1_copy_42 (fun s18 es18 hI => ?_)
  replace E := zLet_s es18 E
  have hS := hS.c hv15 es18 rfl
  refine zg_aload_n X 0 rfl dX1_copy_45 ?_
  refine zg_aload_n X 1 rfl dX1_copy_46 ?_
  refine fg_X1_21 X hI hp1 dX1_copy_47 (fun v19 ev19 _ => ?_)
  replace E := zLet_s ev19 E
  refine fp_X1_21 X hI ha0 (zb_rng _) dX1_copy_50 (fun s20 es20 hI => ?_)
  replace E := zLet_s es20 E
  have hS := hS.i ha0 es20 rfl
  refine zg_aload_n X 0 rfl dX1_copy_53 ?_
  refine zg_aload_n X 1 rfl dX1_copy_54 ?_
  refine fg_X1_25 X hI hp1 dX1_copy_55 (fun v21 ev21 _ => ?_)
  replace E := zLet_s ev21 E
  refine fp_X1_25 X hI ha0 (zb_rng _) dX1_copy_58 (fun s22 es22 hI => ?_)
  replace E := zLet_s es22 E
  have hS := hS.i ha0 es22 rfl
  refine zg_aload_n X 0 rfl dX1_copy_61 ?_
  refine zg_aload_n X 1 rfl dX1_copy_62 ?_
  refine fg_X1_28 X hI hp1 dX1_copy_63 (fun v23 ev23 hv23 => ?_)
  replace E := zLet_s ev23 E
  refine fp_X1_28 X hI ha0 ⟨by omega, by omega⟩ dX1_copy_66 (fun s24 es24 hI => ?_)
  replace E := zLet_s es24 E
  have hS := hS.i ha0 es24 rfl
  exact ret _ _ _ dX1_copy_69 ⟨E.symm.trans hR, hS, hI⟩
set_option maxHeartbeats 4000000 in
set_option maxRecDepth 100000 in
theorem t_X1_pay (l : Launch) (d : zD2) (L : List Nat) (kd : Nat → Nat) (κ : Int) (b : Nat) (σ : zS) (hI : zI κ b L kd σ) (a0 : Nat) (ha0 : zT L kd a0 1) (p1 : Int32) (p2 : Int32) (hq0 : 0 ≤ p1.toInt ∧ p1.toInt ≤ 11) : zMv l yX1_pay (Cond.code yX1_pay cX1_pay 3 none :: zWL) 1 [.ref a0, .int p1, .int p2] d L kd σ (fun σ2 => σ2 = F_X1_pay a0 p1 p2 σ ∧ zSm [23, 24] [] L kd σ σ2 ∧ (zI κ b L kd σ2)) := by
  refine zMv.of (own := RX1) (by decide +kernel) rfl rfl (Nat.le_of_ble_eq_true rfl) ?_
  intro p e s m args below meth c A Q X ret
  refine zg_lv (lv2 := [(0, .ref a0), (1, .int p1), (2, .int p2)]) rfl ?_
  obtain ⟨R, hR⟩ : ∃ R, R = F_X1_pay a0 p1 p2 σ := ⟨_, rfl⟩
  have E := hR
  unfold F_X1_pay at E
  have hS : zSm [23, 24] [] L kd σ σ := zSm.rf
  refine zg_aload_n X 0 rfl dX1_pay_0 ?_
  refine fg_X1_18 X hI ha0 dX1_pay_1 (fun v1 ev1 hv1 => ?_)
  replace E := zLet_s (zgr ev1) E
  refine zg_iload_n X 1 rfl dX1_pay_4 ?_
  refine zg_dup2 X dX1_pay_5 rfl rfl ?_
  refine ag_24 X hI hv1 (by omega) (by omega) dX1_pay_6 (fun v2 ev2 _ => ?_)
  replace E := zLet_s ev2 E
  refine zg_iload_n X 2 rfl dX1_pay_7 ?_
  refine zg_iaddW X dX1_pay_8 (fun v3 ev3 => ?_)
  replace E := zLet_s ev3 E
  refine as_24 X hI hv1 (by omega) (by omega) dX1_pay_9 (fun s4 es4 hI => ?_)
  replace E := zLet_s es4 E
  have hS := hS.i hv1 es4 rfl
  refine zg_aload_n X 0 rfl dX1_pay_10 ?_
  refine fg_X1_15 X hI ha0 dX1_pay_11 (fun v5 ev5 hv5 => ?_)
  replace E := zLet_s (zgr ev5) E
  refine zg_iload_n X 1 rfl dX1_pay_14 ?_
  refine zg_sipush X 999 dX1_pay_15 (by decide) (fun v6 _ hv6 => ?_)
  replace E := zLet_s (zcst hv6 (by decide)) E
  refine zg_aload_n X 0 rfl dX1_pay_18 ?_
  refine fg_X1_15 X hI ha0 dX1_pay_19 (fun v7 ev7 hv7 => ?_)
  replace E := zLet_s (zgr ev7) E
  refine zg_iload_n X 1 rfl dX1_pay_22 ?_
  refine ag_23 X hI hv7 (by omega) (by omega) dX1_pay_23 (fun v8 ev8 _ => ?_)
  replace E := zLet_s ev8 E
  refine zg_iconst X 1 dX1_pay_24 (by decide) (fun v9 _ hv9 => ?_)
  replace E := zLet_s (zcst hv9 (by decide)) E
  refine zg_iaddW X dX1_pay_25 (fun v10 ev10 => ?_)
  replace E := zLet_s ev10 E
  refine zg_min X wj_X1_46 ⟨by decide, Nat.le_of_ble_eq_true rfl⟩ dX1_pay_26 (fun v11 hv11 => ?_)
  replace E := zLet_s (zmin_e hv11) E
  refine as_23 X hI hv5 (by omega) (by omega) dX1_pay_29 (fun s12 es12 hI => ?_)
  replace E := zLet_s es12 E
  have hS := hS.i hv5 es12 rfl
  exact ret _ _ _ dX1_pay_30 ⟨E.symm.trans hR, hS, hI⟩
set_option maxHeartbeats 4000000 in
set_option maxRecDepth 100000 in
theorem t_X4_push (l : Launch) (d : zD2) (L : List Nat) (kd : Nat → Nat) (κ : Int) (b : Nat) (σ : zS) (hI : zI κ b L kd σ) (a0 : Nat) (ha0 : zT L kd a0 4) (p1 : Nat) (hp1 : zT L kd p1 1) : zMv l yX4_push (Cond.code yX4_push cX4_push 2 none :: zWL) 2 [.ref a0, .ref p1] d L kd σ (fun σ2 => σ2 = F_X4_push a0 p1 σ ∧ zSm [1, 4, 22, 23, 24] [] L kd σ σ2 ∧ (zI κ b L kd σ2)) := by
  refine zMv.of (own := RX4) (by decide +kernel) rfl rfl (Nat.le_of_ble_eq_true rfl) ?_
  intro p e s m args below meth c A Q X ret
  refine zg_lv (lv2 := [(0, .ref a0), (1, .ref p1)]) rfl ?_
  obtain ⟨R, hR⟩ : ∃ R, R = F_X4_push a0 p1 σ := ⟨_, rfl⟩
  have E := hR
  unfold F_X4_push at E
  have hS : zSm [1, 4, 22, 23, 24] [] L kd σ σ := zSm.rf
  refine zg_aload_n X 0 rfl dX4_push_0 ?_
  refine fg_X4_11 X hI ha0 dX4_push_1 (fun v1 ev1 hv1 => ?_)
  replace E := zLet_s (zgr ev1) E
  refine zg_aload_n X 0 rfl dX4_push_4 ?_
  refine fg_X4_15 X hI ha0 dX4_push_5 (fun v2 ev2 hv2 => ?_)
  replace E := zLet_s ev2 E
  refine ag_29 X hI hv1 (by omega) (by omega) dX4_push_8 (fun v3 ev3 hv3 => ?_)
  replace E := zLet_s (zgr ev3) E
  refine zg_aload_n X 1 rfl dX4_push_9 ?_
  refine zg_cVv (As := [.ref p1]) (st := []) X hv3 rfl (by decide) rfl (t_X1_copy l d L kd κ b _ hI v3 hv3 p1 hp1 ) mk_X4_23 mc_X1_copy mz_X1 mi_X1_copy ml_X1_copy (na := 1) ⟨md_X1.1, md_X1.2, by decide +kernel⟩ rfl ⟨by decide, by decide⟩ (Nat.le_of_ble_eq_true rfl) dX4_push_10 (fun s4 hq => ?_)
  obtain ⟨hF, hS2, hI⟩ := hq
  replace E := zLet_s hF E
  have hS := hS.tr hS2 rfl rfl
  refine zg_aload_n X 0 rfl dX4_push_13 ?_
  refine zg_aload_n X 0 rfl dX4_push_14 ?_
  refine fg_X4_15 X hI ha0 dX4_push_15 (fun v5 ev5 hv5 => ?_)
  replace E := zLet_s ev5 E
  refine zg_iconst X 1 dX4_push_18 (by decide) (fun v6 _ hv6 => ?_)
  replace E := zLet_s (zcst hv6 (by decide)) E
  refine zg_iadd X dX4_push_19 (by omega) (by omega) (fun v7 ev7 hv7 => ?_)
  replace E := zLet_s ev7 E
  refine zg_bipush X 40 dX4_push_20 (by decide) (fun v8 _ hv8 => ?_)
  replace E := zLet_s (zcst hv8 (by decide)) E
  refine zg_iremW X dX4_push_22 (by omega) (fun v9 ev9 => ?_)
  replace E := zLet_s ev9 E
  have hv9 := zb_rem (x := v7) (y := v8) 40 (by omega) (by omega)
  rw [← ev9] at hv9
  refine fp_X4_15 X hI ha0 ⟨by omega, by omega⟩ dX4_push_23 (fun s10 es10 hI => ?_)
  replace E := zLet_s es10 E
  have hS := hS.i ha0 es10 rfl
  have e12 : v9 = s10.1 a0 1 := by rw [es10]; exact zm_s
  refine zg_aload_n X 0 rfl dX4_push_26 ?_
  refine zg_bipush X 40 dX4_push_27 (by decide) (fun v13 _ hv13 => ?_)
  replace E := zLet_s (zcst hv13 (by decide)) E
  refine zg_aload_n X 0 rfl dX4_push_29 ?_
  refine fg_X4_19 X hI ha0 dX4_push_30 (fun v14 ev14 hv14 => ?_)
  replace E := zLet_s ev14 E
  refine zg_iconst X 1 dX4_push_33 (by decide) (fun v15 _ hv15 => ?_)
  replace E := zLet_s (zcst hv15 (by decide)) E
  refine zg_iadd X dX4_push_34 (by omega) (by omega) (fun v16 ev16 hv16 => ?_)
  replace E := zLet_s ev16 E
  refine zg_min X wj_X4_27 ⟨by decide, Nat.le_of_ble_eq_true rfl⟩ dX4_push_35 (fun v17 hv17 => ?_)
  replace E := zLet_s (zmin_e hv17) E
  refine fp_X4_19 X hI ha0 ⟨by omega, by omega⟩ dX4_push_38 (fun s18 es18 hI => ?_)
  replace E := zLet_s es18 E
  have hS := hS.i ha0 es18 rfl
  have e19 : v9 = s18.1 a0 1 := by rw [es18]; exact zm_j (by decide) e12
  exact ret _ _ _ dX4_push_41 ⟨E.symm.trans hR, hS, hI⟩
set_option maxHeartbeats 4000000 in
set_option maxRecDepth 100000 in
theorem t_X4_pop (l : Launch) (d : zD2) (L : List Nat) (kd : Nat → Nat) (κ : Int) (b : Nat) (σ : zS) (hI : zI κ b L kd σ) (a0 : Nat) (ha0 : zT L kd a0 4) (p1 : Nat) (hp1 : zT L kd p1 1) : zMi l yX4_pop (Cond.code yX4_pop cX4_pop 2 (some .boolean) :: zWL) 2 [.ref a0, .ref p1] d L kd σ (fun v σ2 => (v, σ2) = F_X4_pop a0 p1 σ ∧ zSm [1, 4, 22, 23, 24] [] L kd σ σ2 ∧ ((0 ≤ v.toInt ∧ v.toInt ≤ 1) ∧ zI κ b L kd σ2)) := by
  refine zMi.of (own := RX4) (by decide +kernel) rfl rfl (Nat.le_of_ble_eq_true rfl) ?_
  intro p e s m args below meth c A Q X ret
  refine zg_lv (lv2 := [(0, .ref a0), (1, .ref p1)]) rfl ?_
  obtain ⟨R, hR⟩ : ∃ R, R = F_X4_pop a0 p1 σ := ⟨_, rfl⟩
  have E := hR
  unfold F_X4_pop at E
  have hS : zSm [1, 4, 22, 23, 24] [] L kd σ σ := zSm.rf
  refine zg_aload_n X 0 rfl dX4_pop_0 ?_
  refine fg_X4_19 X hI ha0 dX4_pop_1 (fun v1 ev1 hv1 => ?_)
  replace E := zLet_s ev1 E
  refine zg_if_ne X 9 dX4_pop_4 (by decide) (fun c2 => ?_) (fun c2 => ?_)
  · skip
    replace E := zIf_f c2 E
    refine zg_aload_n X 0 rfl dX4_pop_9 ?_
    refine zg_aload_n X 0 rfl dX4_pop_10 ?_
    refine fg_X4_15 X hI ha0 dX4_pop_11 (fun v3 ev3 hv3 => ?_)
    replace E := zLet_s ev3 E
    refine zg_bipush X 40 dX4_pop_14 (by decide) (fun v4 _ hv4 => ?_)
    replace E := zLet_s (zcst hv4 (by decide)) E
    refine zg_iadd X dX4_pop_16 (by omega) (by omega) (fun v5 ev5 hv5 => ?_)
    replace E := zLet_s ev5 E
    refine zg_iconst X 1 dX4_pop_17 (by decide) (fun v6 _ hv6 => ?_)
    replace E := zLet_s (zcst hv6 (by decide)) E
    refine zg_isub X dX4_pop_18 (by omega) (by omega) (fun v7 ev7 hv7 => ?_)
    replace E := zLet_s ev7 E
    refine zg_bipush X 40 dX4_pop_19 (by decide) (fun v8 _ hv8 => ?_)
    replace E := zLet_s (zcst hv8 (by decide)) E
    refine zg_iremW X dX4_pop_21 (by omega) (fun v9 ev9 => ?_)
    replace E := zLet_s ev9 E
    have hv9 := zb_rem (x := v7) (y := v8) 40 (by omega) (by omega)
    rw [← ev9] at hv9
    refine fp_X4_15 X hI ha0 ⟨by omega, by omega⟩ dX4_pop_22 (fun s10 es10 hI => ?_)
    replace E := zLet_s es10 E
    have hS := hS.i ha0 es10 rfl
    have e11 : v1 = s10.1 a0 2 := by rw [es10]; exact zm_j (by decide) ev1
    have e13 : v9 = s10.1 a0 1 := by rw [es10]; exact zm_s
    refine zg_aload_n X 0 rfl dX4_pop_25 ?_
    refine zg_dup X dX4_pop_26 rfl ?_
    refine fg_X4_19 X hI ha0 dX4_pop_27 (fun v14 ev14 hv14 => ?_)
    replace E := zLet_s ev14 E
    have mv14 : v14.toInt = v1.toInt := by rw [ev14, ← e11]
    refine zg_iconst X 1 dX4_pop_30 (by decide) (fun v15 _ hv15 => ?_)
    replace E := zLet_s (zcst hv15 (by decide)) E
    refine zg_isub X dX4_pop_31 (by omega) (by omega) (fun v16 ev16 hv16 => ?_)
    replace E := zLet_s ev16 E
    refine fp_X4_19 X hI ha0 ⟨by omega, by omega⟩ dX4_pop_32 (fun s17 es17 hI => ?_)
    replace E := zLet_s es17 E
    have hS := hS.i ha0 es17 rfl
    have e19 : v9 = s17.1 a0 1 := by rw [es17]; exact zm_j (by decide) e13
    have e20 : v16 = s17.1 a0 2 := by rw [es17]; exact zm_s
    refine zg_aload_n X 1 rfl dX4_pop_35 ?_
    refine zg_aload_n X 0 rfl dX4_pop_36 ?_
    refine fg_X4_11 X hI ha0 dX4_pop_37 (fun v21 ev21 hv21 => ?_)
    replace E := zLet_s (zgr ev21) E
    refine zg_aload_n X 0 rfl dX4_pop_40 ?_
    refine fg_X4_15 X hI ha0 dX4_pop_41 (fun v22 ev22 hv22 => ?_)
    replace E := zLet_s ev22 E
    have mv22 : v22.toInt = v9.toInt := by rw [ev22, ← e19]
    refine ag_29 X hI hv21 (by omega) (by omega) dX4_pop_44 (fun v23 ev23 hv23 => ?_)
    replace E := zLet_s (zgr ev23) E
    refine zg_cVv (As := [.ref v23]) (st := []) X hp1 rfl (by decide) rfl (t_X1_copy l d L kd κ b _ hI p1 hp1 v23 hv23 ) mk_X4_23 mc_X1_copy mz_X1 mi_X1_copy ml_X1_copy (na := 1) ⟨md_X1.1, md_X1.2, by decide +kernel⟩ rfl ⟨by decide, by decide⟩ (Nat.le_of_ble_eq_true rfl) dX4_pop_45 (fun s24 hq => ?_)
    obtain ⟨hF, hS2, hI⟩ := hq
    replace E := zLet_s hF E
    have hS := hS.tr hS2 rfl rfl
    refine zg_iconst X 1 dX4_pop_48 (by decide) (fun v25 _ hv25 => ?_)
    replace E := zLet_s (zcst hv25 (by decide)) E
    exact ret _ _ _ _ dX4_pop_49 (zb_bool ⟨by omega, by omega⟩) ⟨E.symm.trans hR, hS, ⟨⟨by omega, by omega⟩, hI⟩⟩
  · skip
    replace E := zIf_t c2 E
    refine zg_iconst X 0 dX4_pop_7 (by decide) (fun v26 _ hv26 => ?_)
    replace E := zLet_s (zcst hv26 (by decide)) E
    exact ret _ _ _ _ dX4_pop_8 (zb_bool ⟨by omega, by omega⟩) ⟨E.symm.trans hR, hS, ⟨⟨by omega, by omega⟩, hI⟩⟩
set_option maxHeartbeats 4000000 in
set_option maxRecDepth 100000 in
theorem t_X0_answer (l : Launch) (d : zD2) (L : List Nat) (kd : Nat → Nat) (κ : Int) (b : Nat) (σ : zS) (hI : zI κ b L kd σ) (a0 : Nat) (ha0 : zT L kd a0 0) (p1 : Nat) (hp1 : zT L kd p1 9) (p2 : Int32) (hq0 : 0 ≤ p2.toInt ∧ p2.toInt ≤ 4) : zMi l yX0_answer (Cond.code yX0_answer cX0_answer 10 (some .int) :: zWL) 0 [.ref a0, .ref p1, .int p2] d L kd σ (fun v σ2 => (v, σ2) = F_X0_answer a0 p1 p2 σ ∧ zSm [21] [] L kd σ σ2 ∧ (zI κ b L kd σ2)) := by
  refine zMi.of (own := RX0) (by decide +kernel) rfl rfl (Nat.le_of_ble_eq_true rfl) ?_
  intro p e s m args below meth c A Q X ret
  refine zg_lv (lv2 := [(0, .ref a0), (1, .ref p1), (2, .int p2)]) rfl ?_
  obtain ⟨R, hR⟩ : ∃ R, R = F_X0_answer a0 p1 p2 σ := ⟨_, rfl⟩
  have E := hR
  unfold F_X0_answer at E
  have hS : zSm [21] [] L kd σ σ := zSm.rf
  refine zg_iconst X 0 dX0_answer_0 (by decide) (fun v1 _ hv1 => ?_)
  replace E := zLet_s (zcst hv1 (by decide)) E
  refine zg_istore_n X [(3, .int v1), (0, .ref a0), (1, .ref p1), (2, .int p2)] dX0_answer_1 (by decide) rfl ?_
  refine zg_aload_n X 2 rfl dX0_answer_2 ?_
  refine fg_X0_16 X hI hp1 dX0_answer_3 (fun v2 ev2 hv2 => ?_)
  replace E := zLet_s (zgr ev2) E
  refine zg_iload_n X 3 rfl dX0_answer_6 ?_
  refine ag_51 X hI hv2 (by omega) (by omega) dX0_answer_7 (fun v3 ev3 _ => ?_)
  replace E := zLet_s ev3 E
  refine zg_istore X [(4, .int v3), (3, .int v1), (0, .ref a0), (1, .ref p1), (2, .int p2)] dX0_answer_8 (by decide) rfl ?_
  refine zg_iconst X 0 dX0_answer_10 (by decide) (fun v4 _ hv4 => ?_)
  replace E := zLet_s (zcst hv4 (by decide)) E
  refine zg_istore X [(5, .int v4), (4, .int v3), (3, .int v1), (0, .ref a0), (1, .ref p1), (2, .int p2)] dX0_answer_11 (by decide) rfl ?_
  have Lp8 : ∀ (nLp8 : Nat) (τ8 : zS) (x5 : Int32) (x6 : Int32) (x7 : Int32), zI κ b L kd τ8 → zSm [21] [] L kd σ τ8 → R = F_X0_answer_13 a0 p1 p2  nLp8 x5 x6 x7 τ8 → 0 ≤ x7.toInt ∧ x7.toInt ≤ 32 ∧ 0 ≤ x5.toInt ∧ x5.toInt ≤ 420 → (420) - x5.toInt + 1 < (nLp8 : Int) → zG d L kd A 10 p l e (k2_rm 0 (100 * 0)) s m args below meth c Q τ8 13 [(5, .int x5), (4, .int x6), (3, .int x7), (0, .ref a0), (1, .ref p1), (2, .int p2)] [] := by
    intro nLp8
    induction nLp8 with
    | zero => intro τ8 x5 x6 x7 hI hS E  hxLp8 hm ; exact absurd hm (by omega)
    | succ nLp8 ihLp8 =>
      intro τ8 x5 x6 x7 hI hS E  hxLp8 hmLp8 
      rw [F_X0_answer_13] at E
      refine zg_iload X 0 rfl dX0_answer_13 ?_
      refine zg_sipush X 420 dX0_answer_15 (by decide) (fun v9 _ hv9 => ?_)
      replace E := zLet_s (zcst hv9 (by decide)) E
      refine zg_icmp_ge X 311 dX0_answer_18 (by decide) (fun c10 => ?_) (fun c10 => ?_)
      · skip
        replace E := zIf_f (Int.not_lt.mpr c10) E
        refine zg_iconst X 0 dX0_answer_311 (by decide) (fun v11 _ hv11 => ?_)
        replace E := zLet_s (zcst hv11 (by decide)) E
        exact ret _ _ _ _ dX0_answer_312 rfl ⟨E.symm.trans hR, hS, hI⟩
      · skip
        replace E := zIf_t c10 E
        refine zg_iload X 1 rfl dX0_answer_21 ?_
        refine zg_if_lt X 311 dX0_answer_23 (by decide) (fun c12 => ?_) (fun c12 => ?_)
        · skip
          replace E := zIf_t c12 E
          refine zg_iconst X 0 dX0_answer_311 (by decide) (fun v13 _ hv13 => ?_)
          replace E := zLet_s (zcst hv13 (by decide)) E
          exact ret _ _ _ _ dX0_answer_312 rfl ⟨E.symm.trans hR, hS, hI⟩
        · skip
          replace E := zIf_f (Int.not_lt.mpr c12) E
          refine zg_iload X 1 rfl dX0_answer_26 ?_
          refine zg_aload_n X 4 rfl dX0_answer_28 ?_
          refine fg_X0_21 X hI hp1 dX0_answer_29 (fun v14 ev14 hv14 => ?_)
          replace E := zLet_s ev14 E
          have zx6_z15 := zb_rng x6
          refine zg_icmp_ge X 311 dX0_answer_32 (by decide) (fun c16 => ?_) (fun c16 => ?_)
          · skip
            replace E := zIf_f (Int.not_lt.mpr c16) E
            refine zg_iconst X 0 dX0_answer_311 (by decide) (fun v17 _ hv17 => ?_)
            replace E := zLet_s (zcst hv17 (by decide)) E
            exact ret _ _ _ _ dX0_answer_312 rfl ⟨E.symm.trans hR, hS, hI⟩
          · skip
            replace E := zIf_t c16 E
            refine zg_aload_n X 4 rfl dX0_answer_35 ?_
            refine fg_X0_25 X hI hp1 dX0_answer_36 (fun v18 ev18 hv18 => ?_)
            replace E := zLet_s (zgr ev18) E
            refine zg_iload X 1 rfl dX0_answer_39 ?_
            refine ag_49 X hI hv18 (by omega) (by omega) dX0_answer_41 (fun v19 ev19 _ => ?_)
            replace E := zLet_s ev19 E
            refine zg_istore X [(6, .int v19), (5, .int x5), (4, .int x6), (3, .int x7), (0, .ref a0), (1, .ref p1), (2, .int p2)] dX0_answer_42 (by decide) rfl ?_
            refine zg_aload_n X 5 rfl dX0_answer_44 ?_
            refine fg_X0_28 X hI hp1 dX0_answer_45 (fun v20 ev20 hv20 => ?_)
            replace E := zLet_s (zgr ev20) E
            refine zg_iload X 2 rfl dX0_answer_48 ?_
            refine ag_50 X hI hv20 (by omega) (by omega) dX0_answer_50 (fun v21 ev21 _ => ?_)
            replace E := zLet_s ev21 E
            refine zg_istore X [(7, .int v21), (6, .int v19), (5, .int x5), (4, .int x6), (3, .int x7), (0, .ref a0), (1, .ref p1), (2, .int p2)] dX0_answer_51 (by decide) rfl ?_
            refine zg_iinc X 1 (fun v22 => [(4, .int v22), (7, .int v21), (6, .int v19), (5, .int x5), (3, .int x7), (0, .ref a0), (1, .ref p1), (2, .int p2)]) 3 dX0_answer_53 rfl (by decide) (by decide) (by omega) (by omega) (fun _ => rfl) (fun v22 ev22 hv22 => ?_)
            replace E := zLet_s (zinc ev22 (by decide)) E
            refine zg_iload X 2 rfl dX0_answer_56 ?_
            refine zg_bipush X 7 dX0_answer_58 (by decide) (fun v23 _ hv23 => ?_)
            replace E := zLet_s (zcst hv23 (by decide)) E
            refine zg_icmp_ne X 80 dX0_answer_60 (by decide) (fun c24 => ?_) (fun c24 => ?_)
            · skip
              replace E := zIf_f c24 E
              refine zg_iload X 2 rfl dX0_answer_80 ?_
              refine zg_if_eq X 91 dX0_answer_82 (by decide) (fun c25 => ?_) (fun c25 => ?_)
              · skip
                replace E := zIf_t c25 E
                refine zg_iload_n X 4 rfl dX0_answer_91 ?_
                refine zg_bipush X 32 dX0_answer_92 (by decide) (fun v26 _ hv26 => ?_)
                replace E := zLet_s (zcst hv26 (by decide)) E
                refine zg_icmp_ge X 115 dX0_answer_94 (by decide) (fun c27 => ?_) (fun c27 => ?_)
                · skip
                  replace E := zIf_f (Int.not_lt.mpr c27) E
                  refine zg_iconst X 0 dX0_answer_115 (by decide) (fun v28 _ hv28 => ?_)
                  replace E := zLet_s (zcst hv28 (by decide)) E
                  exact ret _ _ _ _ dX0_answer_116 rfl ⟨E.symm.trans hR, hS, hI⟩
                · skip
                  replace E := zIf_t c27 E
                  refine zg_iload X 1 rfl dX0_answer_97 ?_
                  refine zg_if_lt X 115 dX0_answer_99 (by decide) (fun c29 => ?_) (fun c29 => ?_)
                  · skip
                    replace E := zIf_t c29 E
                    refine zg_iconst X 0 dX0_answer_115 (by decide) (fun v30 _ hv30 => ?_)
                    replace E := zLet_s (zcst hv30 (by decide)) E
                    exact ret _ _ _ _ dX0_answer_116 rfl ⟨E.symm.trans hR, hS, hI⟩
                  · skip
                    replace E := zIf_f (Int.not_lt.mpr c29) E
                    refine zg_iload X 2 rfl dX0_answer_102 ?_
                    refine zg_iconst X 1 dX0_answer_104 (by decide) (fun v31 _ hv31 => ?_)
                    replace E := zLet_s (zcst hv31 (by decide)) E
                    refine zg_icmp_ne X 117 dX0_answer_105 (by decide) (fun c32 => ?_) (fun c32 => ?_)
                    · skip
                      replace E := zIf_f c32 E
                      refine zg_aload_n X 5 rfl dX0_answer_117 ?_
                      refine fg_X0_13 X hI ha0 dX0_answer_118 (fun v33 ev33 hv33 => ?_)
                      replace E := zLet_s (zgr ev33) E
                      refine zg_iload_n X 4 rfl dX0_answer_121 ?_
                      refine zg_iload X 2 rfl dX0_answer_122 ?_
                      refine zg_if_ne X 132 dX0_answer_124 (by decide) (fun c34 => ?_) (fun c34 => ?_)
                      · omega
                      · skip
                        replace E := zIf_t c34 E
                        refine zg_iload X 1 rfl dX0_answer_127 ?_
                        refine zg_goto X 139 dX0_answer_129 (by decide) ?_
                        refine as_21 X hI hv33 (by omega) (by omega) dX0_answer_139 (fun s35 es35 hI => ?_)
                        replace E := zLet_s es35 E
                        have hS := hS.i hv33 es35 rfl
                        refine zg_iinc X 1 (fun v36 => [(3, .int v36), (4, .int v22), (7, .int v21), (6, .int v19), (5, .int x5), (0, .ref a0), (1, .ref p1), (2, .int p2)]) 4 dX0_answer_140 rfl (by decide) (by decide) (by omega) (by omega) (fun _ => rfl) (fun v36 ev36 hv36 => ?_)
                        replace E := zLet_s (zinc ev36 (by decide)) E
                        refine zg_goto X 305 dX0_answer_143 (by decide) ?_
                        refine zg_iinc X 1 (fun v37 => [(5, .int v37), (3, .int v36), (4, .int v22), (7, .int v21), (6, .int v19), (0, .ref a0), (1, .ref p1), (2, .int p2)]) 4 dX0_answer_305 rfl (by decide) (by decide) (by omega) (by omega) (fun _ => rfl) (fun v37 ev37 hv37 => ?_)
                        replace E := zLet_s (zinc ev37 (by decide)) E
                        refine zg_goto X 13 dX0_answer_308 (by decide) ?_
                        refine zg_sub [0, 2, 1, 5, 6, 7] rfl ?_
                        exact ihLp8 _ v37 v22 v36 hI hS E  (by omega) (by omega) 
                    · omega
              · skip
                replace E := zIf_f c25 E
                refine zg_iload X 2 rfl dX0_answer_85 ?_
                refine zg_iconst X 1 dX0_answer_87 (by decide) (fun v38 _ hv38 => ?_)
                replace E := zLet_s (zcst hv38 (by decide)) E
                refine zg_icmp_ne X 146 dX0_answer_88 (by decide) (fun c39 => ?_) (fun c39 => ?_)
                · skip
                  replace E := zIf_f c39 E
                  refine zg_iload_n X 4 rfl dX0_answer_146 ?_
                  refine zg_iconst X 2 dX0_answer_147 (by decide) (fun v40 _ hv40 => ?_)
                  replace E := zLet_s (zcst hv40 (by decide)) E
                  refine zg_icmp_ge X 153 dX0_answer_148 (by decide) (fun c41 => ?_) (fun c41 => ?_)
                  · skip
                    replace E := zIf_f (Int.not_lt.mpr c41) E
                    refine zg_iinc X (-1) (fun v42 => [(3, .int v42), (4, .int v22), (7, .int v21), (6, .int v19), (5, .int x5), (0, .ref a0), (1, .ref p1), (2, .int p2)]) 4 dX0_answer_153 rfl (by decide) (by decide) (by omega) (by omega) (fun _ => rfl) (fun v42 ev42 hv42 => ?_)
                    replace E := zLet_s (zinc ev42 (by decide)) E
                    refine zg_aload_n X 5 rfl dX0_answer_156 ?_
                    refine fg_X0_13 X hI ha0 dX0_answer_157 (fun v43 ev43 hv43 => ?_)
                    replace E := zLet_s (zgr ev43) E
                    refine zg_iload_n X 0 rfl dX0_answer_160 ?_
                    refine ag_21 X hI hv43 (by omega) (by omega) dX0_answer_161 (fun v44 ev44 _ => ?_)
                    replace E := zLet_s ev44 E
                    refine zg_istore X [(8, .int v44), (3, .int v42), (4, .int v22), (7, .int v21), (6, .int v19), (5, .int x5), (0, .ref a0), (1, .ref p1), (2, .int p2)] dX0_answer_162 (by decide) rfl ?_
                    refine zg_aload_n X 6 rfl dX0_answer_164 ?_
                    refine fg_X0_13 X hI ha0 dX0_answer_165 (fun v45 ev45 hv45 => ?_)
                    replace E := zLet_s (zgr ev45) E
                    refine zg_iload_n X 1 rfl dX0_answer_168 ?_
                    refine zg_iconst X 1 dX0_answer_169 (by decide) (fun v46 _ hv46 => ?_)
                    replace E := zLet_s (zcst hv46 (by decide)) E
                    refine zg_isub X dX0_answer_170 (by omega) (by omega) (fun v47 ev47 hv47 => ?_)
                    replace E := zLet_s ev47 E
                    refine ag_21 X hI hv45 (by omega) (by omega) dX0_answer_171 (fun v48 ev48 _ => ?_)
                    replace E := zLet_s ev48 E
                    refine zg_istore X [(9, .int v48), (8, .int v44), (3, .int v42), (4, .int v22), (7, .int v21), (6, .int v19), (5, .int x5), (0, .ref a0), (1, .ref p1), (2, .int p2)] dX0_answer_172 (by decide) rfl ?_
                    refine zg_iload X 5 rfl dX0_answer_174 ?_
                    by_cases q49 : v19.toInt = 2
                    · refine zg_tabIn X 208 2 dX0_answer_176 q49 (by decide) (by decide) rfl (by decide) ?_
                      replace E := zIf_t q49 E
                      refine zg_aload_n X 7 rfl dX0_answer_208 ?_
                      refine fg_X0_13 X hI ha0 dX0_answer_209 (fun v50 ev50 hv50 => ?_)
                      replace E := zLet_s (zgr ev50) E
                      refine zg_iload_n X 2 rfl dX0_answer_212 ?_
                      refine zg_iconst X 1 dX0_answer_213 (by decide) (fun v51 _ hv51 => ?_)
                      replace E := zLet_s (zcst hv51 (by decide)) E
                      refine zg_isub X dX0_answer_214 (by omega) (by omega) (fun v52 ev52 hv52 => ?_)
                      replace E := zLet_s ev52 E
                      refine zg_iload X 0 rfl dX0_answer_215 ?_
                      refine zg_iload X 1 rfl dX0_answer_217 ?_
                      refine zg_iaddW X dX0_answer_219 (fun v53 ev53 => ?_)
                      replace E := zLet_s ev53 E
                      refine as_21 X hI hv50 (by omega) (by omega) dX0_answer_220 (fun s54 es54 hI => ?_)
                      replace E := zLet_s es54 E
                      have hS := hS.i hv50 es54 rfl
                      refine zg_goto X 305 dX0_answer_221 (by decide) ?_
                      refine zg_iinc X 1 (fun v55 => [(5, .int v55), (9, .int v48), (8, .int v44), (3, .int v42), (4, .int v22), (7, .int v21), (6, .int v19), (0, .ref a0), (1, .ref p1), (2, .int p2)]) 6 dX0_answer_305 rfl (by decide) (by decide) (by omega) (by omega) (fun _ => rfl) (fun v55 ev55 hv55 => ?_)
                      replace E := zLet_s (zinc ev55 (by decide)) E
                      refine zg_goto X 13 dX0_answer_308 (by decide) ?_
                      refine zg_sub [0, 4, 3, 7, 8, 9] rfl ?_
                      exact ihLp8 _ v55 v22 v42 hI hS E  (by omega) (by omega) 
                    · skip
                      replace E := zIf_f q49 E
                      by_cases q56 : v19.toInt = 3
                      · refine zg_tabIn X 224 3 dX0_answer_176 q56 (by decide) (by decide) rfl (by decide) ?_
                        replace E := zIf_t q56 E
                        refine zg_aload_n X 7 rfl dX0_answer_224 ?_
                        refine fg_X0_13 X hI ha0 dX0_answer_225 (fun v57 ev57 hv57 => ?_)
                        replace E := zLet_s (zgr ev57) E
                        refine zg_iload_n X 2 rfl dX0_answer_228 ?_
                        refine zg_iconst X 1 dX0_answer_229 (by decide) (fun v58 _ hv58 => ?_)
                        replace E := zLet_s (zcst hv58 (by decide)) E
                        refine zg_isub X dX0_answer_230 (by omega) (by omega) (fun v59 ev59 hv59 => ?_)
                        replace E := zLet_s ev59 E
                        refine zg_iload X 0 rfl dX0_answer_231 ?_
                        refine zg_iload X 1 rfl dX0_answer_233 ?_
                        refine zg_isubW X dX0_answer_235 (fun v60 ev60 => ?_)
                        replace E := zLet_s ev60 E
                        refine as_21 X hI hv57 (by omega) (by omega) dX0_answer_236 (fun s61 es61 hI => ?_)
                        replace E := zLet_s es61 E
                        have hS := hS.i hv57 es61 rfl
                        refine zg_goto X 305 dX0_answer_237 (by decide) ?_
                        refine zg_iinc X 1 (fun v62 => [(5, .int v62), (9, .int v48), (8, .int v44), (3, .int v42), (4, .int v22), (7, .int v21), (6, .int v19), (0, .ref a0), (1, .ref p1), (2, .int p2)]) 6 dX0_answer_305 rfl (by decide) (by decide) (by omega) (by omega) (fun _ => rfl) (fun v62 ev62 hv62 => ?_)
                        replace E := zLet_s (zinc ev62 (by decide)) E
                        refine zg_goto X 13 dX0_answer_308 (by decide) ?_
                        refine zg_sub [0, 4, 3, 7, 8, 9] rfl ?_
                        exact ihLp8 _ v62 v22 v42 hI hS E  (by omega) (by omega) 
                      · skip
                        replace E := zIf_f q56 E
                        by_cases q63 : v19.toInt = 4
                        · refine zg_tabIn X 240 4 dX0_answer_176 q63 (by decide) (by decide) rfl (by decide) ?_
                          replace E := zIf_t q63 E
                          refine zg_aload_n X 7 rfl dX0_answer_240 ?_
                          refine fg_X0_13 X hI ha0 dX0_answer_241 (fun v64 ev64 hv64 => ?_)
                          replace E := zLet_s (zgr ev64) E
                          refine zg_iload_n X 2 rfl dX0_answer_244 ?_
                          refine zg_iconst X 1 dX0_answer_245 (by decide) (fun v65 _ hv65 => ?_)
                          replace E := zLet_s (zcst hv65 (by decide)) E
                          refine zg_isub X dX0_answer_246 (by omega) (by omega) (fun v66 ev66 hv66 => ?_)
                          replace E := zLet_s ev66 E
                          refine zg_iload X 0 rfl dX0_answer_247 ?_
                          refine zg_iload X 1 rfl dX0_answer_249 ?_
                          refine zg_imulW X dX0_answer_251 (fun v67 ev67 => ?_)
                          replace E := zLet_s ev67 E
                          refine as_21 X hI hv64 (by omega) (by omega) dX0_answer_252 (fun s68 es68 hI => ?_)
                          replace E := zLet_s es68 E
                          have hS := hS.i hv64 es68 rfl
                          refine zg_goto X 305 dX0_answer_253 (by decide) ?_
                          refine zg_iinc X 1 (fun v69 => [(5, .int v69), (9, .int v48), (8, .int v44), (3, .int v42), (4, .int v22), (7, .int v21), (6, .int v19), (0, .ref a0), (1, .ref p1), (2, .int p2)]) 6 dX0_answer_305 rfl (by decide) (by decide) (by omega) (by omega) (fun _ => rfl) (fun v69 ev69 hv69 => ?_)
                          replace E := zLet_s (zinc ev69 (by decide)) E
                          refine zg_goto X 13 dX0_answer_308 (by decide) ?_
                          refine zg_sub [0, 4, 3, 7, 8, 9] rfl ?_
                          exact ihLp8 _ v69 v22 v42 hI hS E  (by omega) (by omega) 
                        · skip
                          replace E := zIf_f q63 E
                          by_cases q70 : v19.toInt = 5
                          · refine zg_tabIn X 256 5 dX0_answer_176 q70 (by decide) (by decide) rfl (by decide) ?_
                            replace E := zIf_t q70 E
                            refine zg_iload X 1 rfl dX0_answer_256 ?_
                            refine zg_if_ne X 263 dX0_answer_258 (by decide) (fun c71 => ?_) (fun c71 => ?_)
                            · skip
                              replace E := zIf_f c71 E
                              refine zg_aload_n X 7 rfl dX0_answer_263 ?_
                              refine fg_X0_13 X hI ha0 dX0_answer_264 (fun v72 ev72 hv72 => ?_)
                              replace E := zLet_s (zgr ev72) E
                              refine zg_iload_n X 2 rfl dX0_answer_267 ?_
                              refine zg_iconst X 1 dX0_answer_268 (by decide) (fun v73 _ hv73 => ?_)
                              replace E := zLet_s (zcst hv73 (by decide)) E
                              refine zg_isub X dX0_answer_269 (by omega) (by omega) (fun v74 ev74 hv74 => ?_)
                              replace E := zLet_s ev74 E
                              refine zg_iload X 0 rfl dX0_answer_270 ?_
                              refine zg_iload X 1 rfl dX0_answer_272 ?_
                              refine zg_idivW X dX0_answer_274 (by omega) (fun v75 ev75 => ?_)
                              replace E := zLet_s ev75 E
                              refine as_21 X hI hv72 (by omega) (by omega) dX0_answer_275 (fun s76 es76 hI => ?_)
                              replace E := zLet_s es76 E
                              have hS := hS.i hv72 es76 rfl
                              refine zg_goto X 305 dX0_answer_276 (by decide) ?_
                              refine zg_iinc X 1 (fun v77 => [(5, .int v77), (9, .int v48), (8, .int v44), (3, .int v42), (4, .int v22), (7, .int v21), (6, .int v19), (0, .ref a0), (1, .ref p1), (2, .int p2)]) 6 dX0_answer_305 rfl (by decide) (by decide) (by omega) (by omega) (fun _ => rfl) (fun v77 ev77 hv77 => ?_)
                              replace E := zLet_s (zinc ev77 (by decide)) E
                              refine zg_goto X 13 dX0_answer_308 (by decide) ?_
                              refine zg_sub [0, 4, 3, 7, 8, 9] rfl ?_
                              exact ihLp8 _ v77 v22 v42 hI hS E  (by omega) (by omega) 
                            · skip
                              replace E := zIf_t c71 E
                              refine zg_iconst X 0 dX0_answer_261 (by decide) (fun v78 _ hv78 => ?_)
                              replace E := zLet_s (zcst hv78 (by decide)) E
                              exact ret _ _ _ _ dX0_answer_262 rfl ⟨E.symm.trans hR, hS, hI⟩
                          · skip
                            replace E := zIf_f q70 E
                            refine zg_tabOut X 279 dX0_answer_176 (by omega) (by decide) ?_
                            refine zg_iinc X (-1) (fun v79 => [(3, .int v79), (9, .int v48), (8, .int v44), (4, .int v22), (7, .int v21), (6, .int v19), (5, .int x5), (0, .ref a0), (1, .ref p1), (2, .int p2)]) 2 dX0_answer_279 rfl (by decide) (by decide) (by omega) (by omega) (fun _ => rfl) (fun v79 ev79 hv79 => ?_)
                            replace E := zLet_s (zinc ev79 (by decide)) E
                            refine zg_iload X 1 rfl dX0_answer_282 ?_
                            refine zg_iload X 2 rfl dX0_answer_284 ?_
                            have zv48_z80 := zb_rng v48
                            have zv44_z81 := zb_rng v44
                            refine zg_icmp_lt X 301 dX0_answer_286 (by decide) (fun c82 => ?_) (fun c82 => ?_)
                            · skip
                              replace E := zIf_t c82 E
                              refine zg_iload X 3 rfl dX0_answer_301 ?_
                              refine zg_istore X [(4, .int v22), (3, .int v79), (9, .int v48), (8, .int v44), (7, .int v21), (6, .int v19), (5, .int x5), (0, .ref a0), (1, .ref p1), (2, .int p2)] dX0_answer_303 (by decide) rfl ?_
                              refine zg_iinc X 1 (fun v83 => [(5, .int v83), (4, .int v22), (3, .int v79), (9, .int v48), (8, .int v44), (7, .int v21), (6, .int v19), (0, .ref a0), (1, .ref p1), (2, .int p2)]) 6 dX0_answer_305 rfl (by decide) (by decide) (by omega) (by omega) (fun _ => rfl) (fun v83 ev83 hv83 => ?_)
                              replace E := zLet_s (zinc ev83 (by decide)) E
                              refine zg_goto X 13 dX0_answer_308 (by decide) ?_
                              refine zg_sub [0, 1, 2, 7, 8, 9] rfl ?_
                              exact ihLp8 _ v83 v22 v79 hI hS E  (by omega) (by omega) 
                            · skip
                              replace E := zIf_f (Int.not_lt.mpr c82) E
                              refine zg_iload X 4 rfl dX0_answer_289 ?_
                              refine zg_iload X 3 rfl dX0_answer_291 ?_
                              have zv21_z84 := zb_rng v21
                              refine zg_icmp_le X 301 dX0_answer_293 (by decide) (fun c85 => ?_) (fun c85 => ?_)
                              · skip
                                replace E := zIf_f (Int.not_lt.mpr c85) E
                                refine zg_iload X 3 rfl dX0_answer_301 ?_
                                refine zg_istore X [(4, .int v22), (3, .int v79), (9, .int v48), (8, .int v44), (7, .int v21), (6, .int v19), (5, .int x5), (0, .ref a0), (1, .ref p1), (2, .int p2)] dX0_answer_303 (by decide) rfl ?_
                                refine zg_iinc X 1 (fun v86 => [(5, .int v86), (4, .int v22), (3, .int v79), (9, .int v48), (8, .int v44), (7, .int v21), (6, .int v19), (0, .ref a0), (1, .ref p1), (2, .int p2)]) 6 dX0_answer_305 rfl (by decide) (by decide) (by omega) (by omega) (fun _ => rfl) (fun v86 ev86 hv86 => ?_)
                                replace E := zLet_s (zinc ev86 (by decide)) E
                                refine zg_goto X 13 dX0_answer_308 (by decide) ?_
                                refine zg_sub [0, 1, 2, 7, 8, 9] rfl ?_
                                exact ihLp8 _ v86 v22 v79 hI hS E  (by omega) (by omega) 
                              · skip
                                replace E := zIf_t c85 E
                                refine zg_iload X 4 rfl dX0_answer_296 ?_
                                refine zg_goto X 303 dX0_answer_298 (by decide) ?_
                                refine zg_istore X [(4, .int v21), (3, .int v79), (9, .int v48), (8, .int v44), (7, .int v21), (6, .int v19), (5, .int x5), (0, .ref a0), (1, .ref p1), (2, .int p2)] dX0_answer_303 (by decide) rfl ?_
                                refine zg_iinc X 1 (fun v87 => [(5, .int v87), (4, .int v21), (3, .int v79), (9, .int v48), (8, .int v44), (7, .int v21), (6, .int v19), (0, .ref a0), (1, .ref p1), (2, .int p2)]) 6 dX0_answer_305 rfl (by decide) (by decide) (by omega) (by omega) (fun _ => rfl) (fun v87 ev87 hv87 => ?_)
                                replace E := zLet_s (zinc ev87 (by decide)) E
                                refine zg_goto X 13 dX0_answer_308 (by decide) ?_
                                refine zg_sub [0, 1, 2, 7, 8, 9] rfl ?_
                                exact ihLp8 _ v87 v21 v79 hI hS E  (by omega) (by omega) 
                  · skip
                    replace E := zIf_t c41 E
                    refine zg_iconst X 0 dX0_answer_151 (by decide) (fun v88 _ hv88 => ?_)
                    replace E := zLet_s (zcst hv88 (by decide)) E
                    exact ret _ _ _ _ dX0_answer_152 rfl ⟨E.symm.trans hR, hS, hI⟩
                · skip
                  replace E := zIf_t c39 E
                  refine zg_iload_n X 4 rfl dX0_answer_91 ?_
                  refine zg_bipush X 32 dX0_answer_92 (by decide) (fun v89 _ hv89 => ?_)
                  replace E := zLet_s (zcst hv89 (by decide)) E
                  refine zg_icmp_ge X 115 dX0_answer_94 (by decide) (fun c90 => ?_) (fun c90 => ?_)
                  · skip
                    replace E := zIf_f (Int.not_lt.mpr c90) E
                    refine zg_iconst X 0 dX0_answer_115 (by decide) (fun v91 _ hv91 => ?_)
                    replace E := zLet_s (zcst hv91 (by decide)) E
                    exact ret _ _ _ _ dX0_answer_116 rfl ⟨E.symm.trans hR, hS, hI⟩
                  · skip
                    replace E := zIf_t c90 E
                    refine zg_iload X 1 rfl dX0_answer_97 ?_
                    refine zg_if_lt X 115 dX0_answer_99 (by decide) (fun c92 => ?_) (fun c92 => ?_)
                    · skip
                      replace E := zIf_t c92 E
                      refine zg_iconst X 0 dX0_answer_115 (by decide) (fun v93 _ hv93 => ?_)
                      replace E := zLet_s (zcst hv93 (by decide)) E
                      exact ret _ _ _ _ dX0_answer_116 rfl ⟨E.symm.trans hR, hS, hI⟩
                    · skip
                      replace E := zIf_f (Int.not_lt.mpr c92) E
                      refine zg_iload X 2 rfl dX0_answer_102 ?_
                      refine zg_iconst X 1 dX0_answer_104 (by decide) (fun v94 _ hv94 => ?_)
                      replace E := zLet_s (zcst hv94 (by decide)) E
                      refine zg_icmp_ne X 117 dX0_answer_105 (by decide) (fun c95 => ?_) (fun c95 => ?_)
                      · omega
                      · skip
                        replace E := zIf_t c95 E
                        refine zg_iload X 1 rfl dX0_answer_108 ?_
                        refine zg_bipush X 9 dX0_answer_110 (by decide) (fun v96 _ hv96 => ?_)
                        replace E := zLet_s (zcst hv96 (by decide)) E
                        have zv21_z97 := zb_rng v21
                        refine zg_icmp_lt X 117 dX0_answer_112 (by decide) (fun c98 => ?_) (fun c98 => ?_)
                        · skip
                          replace E := zIf_t c98 E
                          refine zg_aload_n X 5 rfl dX0_answer_117 ?_
                          refine fg_X0_13 X hI ha0 dX0_answer_118 (fun v99 ev99 hv99 => ?_)
                          replace E := zLet_s (zgr ev99) E
                          refine zg_iload_n X 4 rfl dX0_answer_121 ?_
                          refine zg_iload X 2 rfl dX0_answer_122 ?_
                          refine zg_if_ne X 132 dX0_answer_124 (by decide) (fun c100 => ?_) (fun c100 => ?_)
                          · skip
                            replace E := zIf_f c100 E
                            refine zg_aload_n X 5 rfl dX0_answer_132 ?_
                            refine fg_X0_9 X hI ha0 dX0_answer_133 (fun v101 ev101 hv101 => ?_)
                            replace E := zLet_s (zgr ev101) E
                            refine zg_iload X 1 rfl dX0_answer_136 ?_
                            refine ag_20 X hI hv101 (by omega) (by omega) dX0_answer_138 (fun v102 ev102 _ => ?_)
                            replace E := zLet_s ev102 E
                            refine as_21 X hI hv99 (by omega) (by omega) dX0_answer_139 (fun s103 es103 hI => ?_)
                            replace E := zLet_s es103 E
                            have hS := hS.i hv99 es103 rfl
                            refine zg_iinc X 1 (fun v104 => [(3, .int v104), (4, .int v22), (7, .int v21), (6, .int v19), (5, .int x5), (0, .ref a0), (1, .ref p1), (2, .int p2)]) 4 dX0_answer_140 rfl (by decide) (by decide) (by omega) (by omega) (fun _ => rfl) (fun v104 ev104 hv104 => ?_)
                            replace E := zLet_s (zinc ev104 (by decide)) E
                            refine zg_goto X 305 dX0_answer_143 (by decide) ?_
                            refine zg_iinc X 1 (fun v105 => [(5, .int v105), (3, .int v104), (4, .int v22), (7, .int v21), (6, .int v19), (0, .ref a0), (1, .ref p1), (2, .int p2)]) 4 dX0_answer_305 rfl (by decide) (by decide) (by omega) (by omega) (fun _ => rfl) (fun v105 ev105 hv105 => ?_)
                            replace E := zLet_s (zinc ev105 (by decide)) E
                            refine zg_goto X 13 dX0_answer_308 (by decide) ?_
                            refine zg_sub [0, 2, 1, 5, 6, 7] rfl ?_
                            exact ihLp8 _ v105 v22 v104 hI hS E  (by omega) (by omega) 
                          · omega
                        · skip
                          replace E := zIf_f (Int.not_lt.mpr c98) E
                          refine zg_iconst X 0 dX0_answer_115 (by decide) (fun v106 _ hv106 => ?_)
                          replace E := zLet_s (zcst hv106 (by decide)) E
                          exact ret _ _ _ _ dX0_answer_116 rfl ⟨E.symm.trans hR, hS, hI⟩
            · skip
              replace E := zIf_t c24 E
              refine zg_iload_n X 4 rfl dX0_answer_63 ?_
              refine zg_if_le X 78 dX0_answer_64 (by decide) (fun c107 => ?_) (fun c107 => ?_)
              · skip
                replace E := zIf_f (Int.not_lt.mpr c107) E
                refine zg_iconst X 0 dX0_answer_78 (by decide) (fun v108 _ hv108 => ?_)
                replace E := zLet_s (zcst hv108 (by decide)) E
                exact ret _ _ _ _ dX0_answer_79 rfl ⟨E.symm.trans hR, hS, hI⟩
              · skip
                replace E := zIf_t c107 E
                refine zg_aload_n X 5 rfl dX0_answer_67 ?_
                refine fg_X0_13 X hI ha0 dX0_answer_68 (fun v109 ev109 hv109 => ?_)
                replace E := zLet_s (zgr ev109) E
                refine zg_iload_n X 4 rfl dX0_answer_71 ?_
                refine zg_iconst X 1 dX0_answer_72 (by decide) (fun v110 _ hv110 => ?_)
                replace E := zLet_s (zcst hv110 (by decide)) E
                refine zg_isub X dX0_answer_73 (by omega) (by omega) (fun v111 ev111 hv111 => ?_)
                replace E := zLet_s ev111 E
                refine ag_21 X hI hv109 (by omega) (by omega) dX0_answer_74 (fun v112 ev112 _ => ?_)
                replace E := zLet_s ev112 E
                refine zg_goto X 79 dX0_answer_75 (by decide) ?_
                exact ret _ _ _ _ dX0_answer_79 rfl ⟨E.symm.trans hR, hS, hI⟩
  refine zg_sub [0, 1, 2, 3, 4, 5] rfl ?_
  exact Lp8 10000 _ v4 v3 v1 hI hS E  (by omega) (by omega) 
set_option maxHeartbeats 4000000 in
set_option maxRecDepth 100000 in
theorem t_J6_bitCount_0f7a4 (l : Launch) (d : zD2) (L : List Nat) (kd : Nat → Nat) (σ : zS) (p1 : Int32) : zMi l yJ6_bitCount_0f7a4 (Cond.code yJ6_bitCount_0f7a4 cJ6_bitCount_0f7a4 1 (some .int) :: zWL) 0 [.int p1] d L kd σ (fun v σ2 => (v = F_J6_bitCount_0f7a4 p1 ∧ (True)) ∧ σ = σ2) := by
  refine zMi.of (own := RJ6) (by decide +kernel) rfl rfl (Nat.le_of_ble_eq_true rfl) ?_
  intro p e s m args below meth c A Q X ret
  refine zg_lv (lv2 := [(0, .int p1)]) rfl ?_
  obtain ⟨R, hR⟩ : ∃ R, R = F_J6_bitCount_0f7a4 p1 := ⟨_, rfl⟩
  have E := hR
  unfold F_J6_bitCount_0f7a4 at E
  refine zg_iload_n X 0 rfl dJ6_bitCount_0f7a4_0 ?_
  refine zg_iload_n X 0 rfl dJ6_bitCount_0f7a4_1 ?_
  refine zg_iconst X 1 dJ6_bitCount_0f7a4_2 (by decide) (fun v1 _ hv1 => ?_)
  replace E := zLet_s (zcst hv1 (by decide)) E
  refine zg_iushrW X dJ6_bitCount_0f7a4_3 (fun v2 ev2 => ?_)
  replace E := zLet_s ev2 E
  refine zg_ldcwE X wk_J6_265 dJ6_bitCount_0f7a4_4 (fun v3 ev3 => ?_)
  replace E := zLet_s ev3 E
  refine zg_iandW X dJ6_bitCount_0f7a4_7 (fun v4 ev4 => ?_)
  replace E := zLet_s ev4 E
  refine zg_isubW X dJ6_bitCount_0f7a4_8 (fun v5 ev5 => ?_)
  replace E := zLet_s ev5 E
  refine zg_istore_n X [(0, .int v5)] dJ6_bitCount_0f7a4_9 (by decide) rfl ?_
  refine zg_iload_n X 0 rfl dJ6_bitCount_0f7a4_10 ?_
  refine zg_ldcwE X wk_J6_266 dJ6_bitCount_0f7a4_11 (fun v6 ev6 => ?_)
  replace E := zLet_s ev6 E
  refine zg_iandW X dJ6_bitCount_0f7a4_14 (fun v7 ev7 => ?_)
  replace E := zLet_s ev7 E
  refine zg_iload_n X 0 rfl dJ6_bitCount_0f7a4_15 ?_
  refine zg_iconst X 2 dJ6_bitCount_0f7a4_16 (by decide) (fun v8 _ hv8 => ?_)
  replace E := zLet_s (zcst hv8 (by decide)) E
  refine zg_iushrW X dJ6_bitCount_0f7a4_17 (fun v9 ev9 => ?_)
  replace E := zLet_s ev9 E
  refine zg_ldcwE X wk_J6_266 dJ6_bitCount_0f7a4_18 (fun v10 ev10 => ?_)
  replace E := zLet_s ev10 E
  refine zg_iandW X dJ6_bitCount_0f7a4_21 (fun v11 ev11 => ?_)
  replace E := zLet_s ev11 E
  refine zg_iaddW X dJ6_bitCount_0f7a4_22 (fun v12 ev12 => ?_)
  replace E := zLet_s ev12 E
  refine zg_istore_n X [(0, .int v12)] dJ6_bitCount_0f7a4_23 (by decide) rfl ?_
  refine zg_iload_n X 0 rfl dJ6_bitCount_0f7a4_24 ?_
  refine zg_iload_n X 0 rfl dJ6_bitCount_0f7a4_25 ?_
  refine zg_iconst X 4 dJ6_bitCount_0f7a4_26 (by decide) (fun v13 _ hv13 => ?_)
  replace E := zLet_s (zcst hv13 (by decide)) E
  refine zg_iushrW X dJ6_bitCount_0f7a4_27 (fun v14 ev14 => ?_)
  replace E := zLet_s ev14 E
  refine zg_iaddW X dJ6_bitCount_0f7a4_28 (fun v15 ev15 => ?_)
  replace E := zLet_s ev15 E
  refine zg_ldcwE X wk_J6_267 dJ6_bitCount_0f7a4_29 (fun v16 ev16 => ?_)
  replace E := zLet_s ev16 E
  refine zg_iandW X dJ6_bitCount_0f7a4_32 (fun v17 ev17 => ?_)
  replace E := zLet_s ev17 E
  refine zg_istore_n X [(0, .int v17)] dJ6_bitCount_0f7a4_33 (by decide) rfl ?_
  refine zg_iload_n X 0 rfl dJ6_bitCount_0f7a4_34 ?_
  refine zg_iload_n X 0 rfl dJ6_bitCount_0f7a4_35 ?_
  refine zg_bipush X 8 dJ6_bitCount_0f7a4_36 (by decide) (fun v18 _ hv18 => ?_)
  replace E := zLet_s (zcst hv18 (by decide)) E
  refine zg_iushrW X dJ6_bitCount_0f7a4_38 (fun v19 ev19 => ?_)
  replace E := zLet_s ev19 E
  refine zg_iaddW X dJ6_bitCount_0f7a4_39 (fun v20 ev20 => ?_)
  replace E := zLet_s ev20 E
  refine zg_istore_n X [(0, .int v20)] dJ6_bitCount_0f7a4_40 (by decide) rfl ?_
  refine zg_iload_n X 0 rfl dJ6_bitCount_0f7a4_41 ?_
  refine zg_iload_n X 0 rfl dJ6_bitCount_0f7a4_42 ?_
  refine zg_bipush X 16 dJ6_bitCount_0f7a4_43 (by decide) (fun v21 _ hv21 => ?_)
  replace E := zLet_s (zcst hv21 (by decide)) E
  refine zg_iushrW X dJ6_bitCount_0f7a4_45 (fun v22 ev22 => ?_)
  replace E := zLet_s ev22 E
  refine zg_iaddW X dJ6_bitCount_0f7a4_46 (fun v23 ev23 => ?_)
  replace E := zLet_s ev23 E
  refine zg_istore_n X [(0, .int v23)] dJ6_bitCount_0f7a4_47 (by decide) rfl ?_
  refine zg_iload_n X 0 rfl dJ6_bitCount_0f7a4_48 ?_
  refine zg_bipush X 63 dJ6_bitCount_0f7a4_49 (by decide) (fun v24 _ hv24 => ?_)
  replace E := zLet_s (zcst hv24 (by decide)) E
  refine zg_iandW X dJ6_bitCount_0f7a4_51 (fun v25 ev25 => ?_)
  replace E := zLet_s ev25 E
  exact ret _ _ _ _ dJ6_bitCount_0f7a4_52 rfl ⟨⟨E.symm.trans hR, trivial⟩, rfl⟩
set_option maxHeartbeats 4000000 in
set_option maxRecDepth 100000 in
theorem t_X9_clear (l : Launch) (d : zD2) (L : List Nat) (kd : Nat → Nat) (κ : Int) (b : Nat) (σ : zS) (hI : zI κ b L kd σ) (a0 : Nat) (ha0 : zT L kd a0 9) : zMv l yX9_clear (Cond.code yX9_clear cX9_clear 3 none :: zWL) 1 [.ref a0] d L kd σ (fun σ2 => σ2 = F_X9_clear a0 σ ∧ zSm [9, 49, 50, 51] [] L kd σ σ2 ∧ (zI κ b L kd σ2)) := by
  refine zMv.of (own := RX9) (by decide +kernel) rfl rfl (Nat.le_of_ble_eq_true rfl) ?_
  intro p e s m args below meth c A Q X ret
  refine zg_lv (lv2 := [(0, .ref a0)]) rfl ?_
  obtain ⟨R, hR⟩ : ∃ R, R = F_X9_clear a0 σ := ⟨_, rfl⟩
  have E := hR
  unfold F_X9_clear at E
  have hS : zSm [9, 49, 50, 51] [] L kd σ σ := zSm.rf
  refine zg_aload_n X 0 rfl dX9_clear_0 ?_
  refine zg_iconst X 0 dX9_clear_1 (by decide) (fun v1 _ hv1 => ?_)
  replace E := zLet_s (zcst hv1 (by decide)) E
  refine fp_X9_40 X hI ha0 ⟨by omega, by omega⟩ dX9_clear_2 (fun s2 es2 hI => ?_)
  replace E := zLet_s es2 E
  have hS := hS.i ha0 es2 rfl
  refine zg_aload_n X 0 rfl dX9_clear_5 ?_
  refine zg_iconst X 0 dX9_clear_6 (by decide) (fun v3 _ hv3 => ?_)
  replace E := zLet_s (zcst hv3 (by decide)) E
  refine fp_X9_44 X hI ha0 ⟨by omega, by omega⟩ dX9_clear_7 (fun s4 es4 hI => ?_)
  replace E := zLet_s es4 E
  have hS := hS.i ha0 es4 rfl
  refine zg_iconst X 0 dX9_clear_10 (by decide) (fun v5 _ hv5 => ?_)
  replace E := zLet_s (zcst hv5 (by decide)) E
  refine zg_istore_n X [(1, .int v5), (0, .ref a0)] dX9_clear_11 (by decide) rfl ?_
  have Lp7 : ∀ (nLp7 : Nat) (τ7 : zS) (x6 : Int32), zI κ b L kd τ7 → zSm [9, 49, 50, 51] [] L kd σ τ7 → R = F_X9_clear_12 a0  nLp7 x6 τ7 → 0 ≤ x6.toInt ∧ x6.toInt ≤ 5 → (5) - x6.toInt + 1 < (nLp7 : Int) → zG d L kd A 3 p l e (k2_rm 1 (100 * 1)) s m args below meth c Q τ7 12 [(1, .int x6), (0, .ref a0)] [] := by
    intro nLp7
    induction nLp7 with
    | zero => intro τ7 x6 hI hS E  hxLp7 hm ; exact absurd hm (by omega)
    | succ nLp7 ihLp7 =>
      intro τ7 x6 hI hS E  hxLp7 hmLp7 
      rw [F_X9_clear_12] at E
      refine zg_iload_n X 0 rfl dX9_clear_12 ?_
      refine zg_iconst X 5 dX9_clear_13 (by decide) (fun v8 _ hv8 => ?_)
      replace E := zLet_s (zcst hv8 (by decide)) E
      refine zg_icmp_ge X 70 dX9_clear_14 (by decide) (fun c9 => ?_) (fun c9 => ?_)
      · skip
        replace E := zIf_f (Int.not_lt.mpr c9) E
        refine zg_aload_n X 1 rfl dX9_clear_70 ?_
        refine zg_iconst X 0 dX9_clear_71 (by decide) (fun v10 _ hv10 => ?_)
        replace E := zLet_s (zcst hv10 (by decide)) E
        refine fp_X9_56 X hI ha0 (zb_rng _) dX9_clear_72 (fun s11 es11 hI => ?_)
        replace E := zLet_s es11 E
        have hS := hS.i ha0 es11 rfl
        refine zg_aload_n X 1 rfl dX9_clear_75 ?_
        refine zg_iconst X 0 dX9_clear_76 (by decide) (fun v12 _ hv12 => ?_)
        replace E := zLet_s (zcst hv12 (by decide)) E
        refine fp_X9_59 X hI ha0 (zb_rng _) dX9_clear_77 (fun s13 es13 hI => ?_)
        replace E := zLet_s es13 E
        have hS := hS.i ha0 es13 rfl
        refine zg_aload_n X 1 rfl dX9_clear_80 ?_
        refine zg_iconst X 1 dX9_clear_81 (by decide) (fun v14 _ hv14 => ?_)
        replace E := zLet_s (zcst hv14 (by decide)) E
        refine fp_X9_62 X hI ha0 (zb_rng _) dX9_clear_82 (fun s15 es15 hI => ?_)
        replace E := zLet_s es15 E
        have hS := hS.i ha0 es15 rfl
        refine zg_aload_n X 1 rfl dX9_clear_85 ?_
        refine zg_iconst X 0 dX9_clear_86 (by decide) (fun v16 _ hv16 => ?_)
        replace E := zLet_s (zcst hv16 (by decide)) E
        refine fp_X9_65 X hI ha0 (zb_rng _) dX9_clear_87 (fun s17 es17 hI => ?_)
        replace E := zLet_s es17 E
        have hS := hS.i ha0 es17 rfl
        exact ret _ _ _ dX9_clear_90 ⟨E.symm.trans hR, hS, hI⟩
      · skip
        replace E := zIf_t c9 E
        refine zg_unt X zk_unt dX9_clear_17 (fun v18 hv18 => ?_)
        refine zg_iload_n X 0 rfl dX9_clear_20 ?_
        refine zg_untA X hv18 (by omega) (by omega) dX9_clear_21 (fun v19 ev19 => ?_)
        replace E := zLet_s ev19 E
        refine zg_istore_n X [(2, .int v19), (1, .int x6), (0, .ref a0)] dX9_clear_22 (by decide) rfl ?_
        refine zg_aload_n X 2 rfl dX9_clear_23 ?_
        refine fg_X9_34 X hI ha0 dX9_clear_24 (fun v20 ev20 hv20 => ?_)
        replace E := zLet_s (zgr ev20) E
        refine zg_iload_n X 1 rfl dX9_clear_27 ?_
        refine zg_aload_n X 2 rfl dX9_clear_28 ?_
        refine fg_X9_44 X hI ha0 dX9_clear_29 (fun v21 ev21 hv21 => ?_)
        replace E := zLet_s ev21 E
        refine as_51 X hI hv20 (by omega) (by omega) dX9_clear_32 (fun s22 es22 hI => ?_)
        replace E := zLet_s es22 E
        have hS := hS.i hv20 es22 rfl
        refine zg_aload_n X 2 rfl dX9_clear_33 ?_
        refine zg_iload_n X 0 rfl dX9_clear_34 ?_
        refine zg_iconst X (-1) dX9_clear_35 (by decide) (fun v23 _ hv23 => ?_)
        replace E := zLet_s (zcst hv23 (by decide)) E
        refine zg_icmp_ne X 43 dX9_clear_36 (by decide) (fun c24 => ?_) (fun c24 => ?_)
        · skip
          replace E := zIf_f c24 E
          refine zg_iconst X 1 dX9_clear_43 (by decide) (fun v25 _ hv25 => ?_)
          replace E := zLet_s (zcst hv25 (by decide)) E
          refine zg_iload_n X 0 rfl dX9_clear_44 ?_
          refine zg_iconst X (-1) dX9_clear_45 (by decide) (fun v26 _ hv26 => ?_)
          replace E := zLet_s (zcst hv26 (by decide)) E
          refine zg_icmp_ne X 53 dX9_clear_46 (by decide) (fun c27 => ?_) (fun c27 => ?_)
          · skip
            replace E := zIf_f c27 E
            refine zg_iload_n X 0 rfl dX9_clear_53 ?_
            refine zg_cVv (As := [.int v25, .int v19]) (st := []) X ha0 rfl (by decide) rfl (t_X9_addStep l d L kd κ b _ hI a0 ha0 v25 v19 ) mk_X9_52 mc_X9_addStep mz_X9 mi_X9_addStep ml_X9_addStep (na := 2) ⟨md_X9.1, md_X9.2, by decide +kernel⟩ rfl ⟨by decide, by decide⟩ (Nat.le_of_ble_eq_true rfl) dX9_clear_54 (fun s28 hq => ?_)
            obtain ⟨hF, hS2, hI⟩ := hq
            replace E := zLet_s hF E
            have hS := hS.tr hS2 rfl rfl
            refine zg_aload_n X 2 rfl dX9_clear_57 ?_
            refine zg_bipush X 7 dX9_clear_58 (by decide) (fun v29 _ hv29 => ?_)
            replace E := zLet_s (zcst hv29 (by decide)) E
            refine zg_iconst X 0 dX9_clear_60 (by decide) (fun v30 _ hv30 => ?_)
            replace E := zLet_s (zcst hv30 (by decide)) E
            refine zg_cVv (As := [.int v29, .int v30]) (st := []) X ha0 rfl (by decide) rfl (t_X9_addStep l d L kd κ b _ hI a0 ha0 v29 v30 ) mk_X9_52 mc_X9_addStep mz_X9 mi_X9_addStep ml_X9_addStep (na := 2) ⟨md_X9.1, md_X9.2, by decide +kernel⟩ rfl ⟨by decide, by decide⟩ (Nat.le_of_ble_eq_true rfl) dX9_clear_61 (fun s31 hq => ?_)
            obtain ⟨hF, hS2, hI⟩ := hq
            replace E := zLet_s hF E
            have hS := hS.tr hS2 rfl rfl
            refine zg_iinc X 1 (fun v32 => [(1, .int v32), (2, .int v19), (0, .ref a0)]) 1 dX9_clear_64 rfl (by decide) (by decide) (by omega) (by omega) (fun _ => rfl) (fun v32 ev32 hv32 => ?_)
            replace E := zLet_s (zinc ev32 (by decide)) E
            refine zg_goto X 12 dX9_clear_67 (by decide) ?_
            refine zg_sub [0, 2] rfl ?_
            exact ihLp7 _ v32 hI hS E  (by omega) (by omega) 
          · skip
            replace E := zIf_t c27 E
            refine zg_iconst X 0 dX9_clear_49 (by decide) (fun v33 _ hv33 => ?_)
            replace E := zLet_s (zcst hv33 (by decide)) E
            refine zg_goto X 54 dX9_clear_50 (by decide) ?_
            refine zg_cVv (As := [.int v25, .int v33]) (st := []) X ha0 rfl (by decide) rfl (t_X9_addStep l d L kd κ b _ hI a0 ha0 v25 v33 ) mk_X9_52 mc_X9_addStep mz_X9 mi_X9_addStep ml_X9_addStep (na := 2) ⟨md_X9.1, md_X9.2, by decide +kernel⟩ rfl ⟨by decide, by decide⟩ (Nat.le_of_ble_eq_true rfl) dX9_clear_54 (fun s34 hq => ?_)
            obtain ⟨hF, hS2, hI⟩ := hq
            replace E := zLet_s hF E
            have hS := hS.tr hS2 rfl rfl
            refine zg_aload_n X 2 rfl dX9_clear_57 ?_
            refine zg_bipush X 7 dX9_clear_58 (by decide) (fun v35 _ hv35 => ?_)
            replace E := zLet_s (zcst hv35 (by decide)) E
            refine zg_iconst X 0 dX9_clear_60 (by decide) (fun v36 _ hv36 => ?_)
            replace E := zLet_s (zcst hv36 (by decide)) E
            refine zg_cVv (As := [.int v35, .int v36]) (st := []) X ha0 rfl (by decide) rfl (t_X9_addStep l d L kd κ b _ hI a0 ha0 v35 v36 ) mk_X9_52 mc_X9_addStep mz_X9 mi_X9_addStep ml_X9_addStep (na := 2) ⟨md_X9.1, md_X9.2, by decide +kernel⟩ rfl ⟨by decide, by decide⟩ (Nat.le_of_ble_eq_true rfl) dX9_clear_61 (fun s37 hq => ?_)
            obtain ⟨hF, hS2, hI⟩ := hq
            replace E := zLet_s hF E
            have hS := hS.tr hS2 rfl rfl
            refine zg_iinc X 1 (fun v38 => [(1, .int v38), (2, .int v19), (0, .ref a0)]) 1 dX9_clear_64 rfl (by decide) (by decide) (by omega) (by omega) (fun _ => rfl) (fun v38 ev38 hv38 => ?_)
            replace E := zLet_s (zinc ev38 (by decide)) E
            refine zg_goto X 12 dX9_clear_67 (by decide) ?_
            refine zg_sub [0, 2] rfl ?_
            exact ihLp7 _ v38 hI hS E  (by omega) (by omega) 
        · skip
          replace E := zIf_t c24 E
          refine zg_iconst X 0 dX9_clear_39 (by decide) (fun v39 _ hv39 => ?_)
          replace E := zLet_s (zcst hv39 (by decide)) E
          refine zg_goto X 44 dX9_clear_40 (by decide) ?_
          refine zg_iload_n X 0 rfl dX9_clear_44 ?_
          refine zg_iconst X (-1) dX9_clear_45 (by decide) (fun v40 _ hv40 => ?_)
          replace E := zLet_s (zcst hv40 (by decide)) E
          refine zg_icmp_ne X 53 dX9_clear_46 (by decide) (fun c41 => ?_) (fun c41 => ?_)
          · omega
          · skip
            replace E := zIf_t c41 E
            refine zg_iconst X 0 dX9_clear_49 (by decide) (fun v42 _ hv42 => ?_)
            replace E := zLet_s (zcst hv42 (by decide)) E
            refine zg_goto X 54 dX9_clear_50 (by decide) ?_
            refine zg_cVv (As := [.int v39, .int v42]) (st := []) X ha0 rfl (by decide) rfl (t_X9_addStep l d L kd κ b _ hI a0 ha0 v39 v42 ) mk_X9_52 mc_X9_addStep mz_X9 mi_X9_addStep ml_X9_addStep (na := 2) ⟨md_X9.1, md_X9.2, by decide +kernel⟩ rfl ⟨by decide, by decide⟩ (Nat.le_of_ble_eq_true rfl) dX9_clear_54 (fun s43 hq => ?_)
            obtain ⟨hF, hS2, hI⟩ := hq
            replace E := zLet_s hF E
            have hS := hS.tr hS2 rfl rfl
            refine zg_aload_n X 2 rfl dX9_clear_57 ?_
            refine zg_bipush X 7 dX9_clear_58 (by decide) (fun v44 _ hv44 => ?_)
            replace E := zLet_s (zcst hv44 (by decide)) E
            refine zg_iconst X 0 dX9_clear_60 (by decide) (fun v45 _ hv45 => ?_)
            replace E := zLet_s (zcst hv45 (by decide)) E
            refine zg_cVv (As := [.int v44, .int v45]) (st := []) X ha0 rfl (by decide) rfl (t_X9_addStep l d L kd κ b _ hI a0 ha0 v44 v45 ) mk_X9_52 mc_X9_addStep mz_X9 mi_X9_addStep ml_X9_addStep (na := 2) ⟨md_X9.1, md_X9.2, by decide +kernel⟩ rfl ⟨by decide, by decide⟩ (Nat.le_of_ble_eq_true rfl) dX9_clear_61 (fun s46 hq => ?_)
            obtain ⟨hF, hS2, hI⟩ := hq
            replace E := zLet_s hF E
            have hS := hS.tr hS2 rfl rfl
            refine zg_iinc X 1 (fun v47 => [(1, .int v47), (2, .int v19), (0, .ref a0)]) 1 dX9_clear_64 rfl (by decide) (by decide) (by omega) (by omega) (fun _ => rfl) (fun v47 ev47 hv47 => ?_)
            replace E := zLet_s (zinc ev47 (by decide)) E
            refine zg_goto X 12 dX9_clear_67 (by decide) ?_
            refine zg_sub [0, 2] rfl ?_
            exact ihLp7 _ v47 hI hS E  (by omega) (by omega) 
  refine zg_sub [0, 1] rfl ?_
  exact Lp7 10000 _ v5 hI hS E  (by omega) (by omega) 
set_option maxHeartbeats 4000000 in
set_option maxRecDepth 100000 in
theorem t_X1_begin (l : Launch) (d : zD2) (L : List Nat) (kd : Nat → Nat) (κ : Int) (b : Nat) (σ : zS) (hI : zI κ b L kd σ) (a0 : Nat) (ha0 : zT L kd a0 1) (p1 : Nat) (hp1 : zT L kd p1 9) : zMv l yX1_begin (Cond.code yX1_begin cX1_begin 2 none :: zWL) 1 [.ref a0, .ref p1] d L kd σ (fun σ2 => σ2 = F_X1_begin a0 p1 σ ∧ zSm [1, 22, 23, 24] [] L kd σ σ2 ∧ (zI κ b L kd σ2)) := by
  refine zMv.of (own := RX1) (by decide +kernel) rfl rfl (Nat.le_of_ble_eq_true rfl) ?_
  intro p e s m args below meth c A Q X ret
  refine zg_lv (lv2 := [(0, .ref a0), (1, .ref p1)]) rfl ?_
  obtain ⟨R, hR⟩ : ∃ R, R = F_X1_begin a0 p1 σ := ⟨_, rfl⟩
  have E := hR
  unfold F_X1_begin at E
  have hS : zSm [1, 22, 23, 24] [] L kd σ σ := zSm.rf
  refine zg_aload_n X 1 rfl dX1_begin_0 ?_
  refine fg_X1_31 X hI hp1 dX1_begin_1 (fun v1 ev1 hv1 => ?_)
  replace E := zLet_s (zgr ev1) E
  refine zg_iconst X 0 dX1_begin_4 (by decide) (fun v2 _ hv2 => ?_)
  replace E := zLet_s (zcst hv2 (by decide)) E
  refine zg_aload_n X 0 rfl dX1_begin_5 ?_
  refine fg_X1_9 X hI ha0 dX1_begin_6 (fun v3 ev3 hv3 => ?_)
  replace E := zLet_s (zgr ev3) E
  refine zg_iconst X 0 dX1_begin_9 (by decide) (fun v4 _ hv4 => ?_)
  replace E := zLet_s (zcst hv4 (by decide)) E
  refine zg_bipush X 12 dX1_begin_10 (by decide) (fun v5 _ hv5 => ?_)
  replace E := zLet_s (zcst hv5 (by decide)) E
  refine zg_copy (k := 45) (k2 := 22) (n := 12) X wj_X1_34 hI hv1 hv3 rfl rfl (lo := 0) (hi := 11) (fun _ => rfl) (by decide) (by decide) (fun j h1 h2 => h1 ) (by omega) (by omega) (by omega) ⟨by decide, Nat.le_of_ble_eq_true rfl⟩ dX1_begin_12 (fun s6 es6 hI => ?_)
  replace E := zLet_s es6 E
  have hS := hS.c hv3 es6 rfl
  refine zg_aload_n X 0 rfl dX1_begin_15 ?_
  refine fg_X1_15 X hI ha0 dX1_begin_16 (fun v7 ev7 hv7 => ?_)
  replace E := zLet_s (zgr ev7) E
  refine zg_iconst X 0 dX1_begin_19 (by decide) (fun v8 _ hv8 => ?_)
  replace E := zLet_s (zcst hv8 (by decide)) E
  refine zg_cSv (As := [.ref v7, .int v8]) (st := []) X (t_fill l d L kd κ b _ hI 23 v7 hv7 v8 rfl (fun _ => rfl) (by decide)) mk_X1_40 mc_J7_fill_53178 mz_J7 ms_J7_fill_53178 (na := 2) ⟨md_J7.1, md_J7.2, by decide +kernel⟩ rfl ⟨by decide, by decide⟩ (Nat.le_of_ble_eq_true rfl) dX1_begin_20 (fun s9 hq => ?_)
  obtain ⟨hF, hI⟩ := hq
  replace E := zLet_s hF E
  have hS := hS.fil hv7 hF rfl
  refine zg_aload_n X 0 rfl dX1_begin_23 ?_
  refine fg_X1_18 X hI ha0 dX1_begin_24 (fun v10 ev10 hv10 => ?_)
  replace E := zLet_s (zgr ev10) E
  refine zg_iconst X 0 dX1_begin_27 (by decide) (fun v11 _ hv11 => ?_)
  replace E := zLet_s (zcst hv11 (by decide)) E
  refine zg_cSv (As := [.ref v10, .int v11]) (st := []) X (t_fill l d L kd κ b _ hI 24 v10 hv10 v11 rfl (fun _ => rfl) (by decide)) mk_X1_40 mc_J7_fill_53178 mz_J7 ms_J7_fill_53178 (na := 2) ⟨md_J7.1, md_J7.2, by decide +kernel⟩ rfl ⟨by decide, by decide⟩ (Nat.le_of_ble_eq_true rfl) dX1_begin_28 (fun s12 hq => ?_)
  obtain ⟨hF, hI⟩ := hq
  replace E := zLet_s hF E
  have hS := hS.fil hv10 hF rfl
  refine zg_aload_n X 0 rfl dX1_begin_31 ?_
  refine zg_iconst X 0 dX1_begin_32 (by decide) (fun v13 _ hv13 => ?_)
  replace E := zLet_s (zcst hv13 (by decide)) E
  refine fp_X1_21 X hI ha0 (zb_rng _) dX1_begin_33 (fun s14 es14 hI => ?_)
  replace E := zLet_s es14 E
  have hS := hS.i ha0 es14 rfl
  refine zg_aload_n X 0 rfl dX1_begin_36 ?_
  refine zg_iconst X 0 dX1_begin_37 (by decide) (fun v15 _ hv15 => ?_)
  replace E := zLet_s (zcst hv15 (by decide)) E
  refine fp_X1_25 X hI ha0 (zb_rng _) dX1_begin_38 (fun s16 es16 hI => ?_)
  replace E := zLet_s es16 E
  have hS := hS.i ha0 es16 rfl
  refine zg_aload_n X 0 rfl dX1_begin_41 ?_
  refine zg_iconst X 0 dX1_begin_42 (by decide) (fun v17 _ hv17 => ?_)
  replace E := zLet_s (zcst hv17 (by decide)) E
  refine fp_X1_28 X hI ha0 ⟨by omega, by omega⟩ dX1_begin_43 (fun s18 es18 hI => ?_)
  replace E := zLet_s es18 E
  have hS := hS.i ha0 es18 rfl
  exact ret _ _ _ dX1_begin_46 ⟨E.symm.trans hR, hS, hI⟩
set_option maxHeartbeats 4000000 in
set_option maxRecDepth 100000 in
theorem t_X6_isSource (l : Launch) (d : zD2) (L : List Nat) (kd : Nat → Nat) (κ : Int) (b : Nat) (σ : zS) (hI : zI κ b L kd σ) (a0 : Nat) (ha0 : zT L kd a0 6) (p1 : Int32) : zMi l yX6_isSource (Cond.code yX6_isSource cX6_isSource 2 (some .boolean) :: zWL) 0 [.ref a0, .int p1] d L kd σ (fun v σ2 => (v, σ2) = F_X6_isSource a0 p1 σ ∧ zSm [] [] L kd σ σ2 ∧ (((v.toInt = 1 ∧ 1 ≤ p1.toInt ∧ p1.toInt ≤ 11) ∨ v.toInt = 0) ∧ zI κ b L kd σ2)) := by
  refine zMi.of (own := RX6) (by decide +kernel) rfl rfl (Nat.le_of_ble_eq_true rfl) ?_
  intro p e s m args below meth c A Q X ret
  refine zg_lv (lv2 := [(0, .ref a0), (1, .int p1)]) rfl ?_
  obtain ⟨R, hR⟩ : ∃ R, R = F_X6_isSource a0 p1 σ := ⟨_, rfl⟩
  have E := hR
  unfold F_X6_isSource at E
  have hS : zSm [] [] L kd σ σ := zSm.rf
  refine zg_iload_n X 1 rfl dX6_isSource_0 ?_
  refine zg_if_le X 25 dX6_isSource_1 (by decide) (fun c1 => ?_) (fun c1 => ?_)
  · skip
    replace E := zIf_f (Int.not_lt.mpr c1) E
    refine zg_iconst X 0 dX6_isSource_25 (by decide) (fun v2 _ hv2 => ?_)
    replace E := zLet_s (zcst hv2 (by decide)) E
    exact ret _ _ _ _ dX6_isSource_26 (zb_bool ⟨by omega, by omega⟩) ⟨E.symm.trans hR, hS, ⟨by omega, hI⟩⟩
  · skip
    replace E := zIf_t c1 E
    refine zg_iload_n X 1 rfl dX6_isSource_4 ?_
    refine zg_aload_n X 0 rfl dX6_isSource_5 ?_
    refine fg_X6_9 X hI ha0 dX6_isSource_6 (fun v3 ev3 hv3 => ?_)
    replace E := zLet_s ev3 E
    have zp1_z4 := zb_rng p1
    refine zg_icmp_ge X 25 dX6_isSource_9 (by decide) (fun c5 => ?_) (fun c5 => ?_)
    · skip
      replace E := zIf_f (Int.not_lt.mpr c5) E
      refine zg_iconst X 0 dX6_isSource_25 (by decide) (fun v6 _ hv6 => ?_)
      replace E := zLet_s (zcst hv6 (by decide)) E
      exact ret _ _ _ _ dX6_isSource_26 (zb_bool ⟨by omega, by omega⟩) ⟨E.symm.trans hR, hS, ⟨by omega, hI⟩⟩
    · skip
      replace E := zIf_t c5 E
      refine zg_aload_n X 0 rfl dX6_isSource_12 ?_
      refine fg_X6_25 X hI ha0 dX6_isSource_13 (fun v7 ev7 hv7 => ?_)
      replace E := zLet_s (zgr ev7) E
      refine zg_iload_n X 1 rfl dX6_isSource_16 ?_
      refine ag_36 X hI hv7 (by omega) (by omega) dX6_isSource_17 (fun v8 ev8 _ => ?_)
      replace E := zLet_s ev8 E
      refine zg_if_ne X 25 dX6_isSource_18 (by decide) (fun c9 => ?_) (fun c9 => ?_)
      · skip
        replace E := zIf_f c9 E
        refine zg_iconst X 0 dX6_isSource_25 (by decide) (fun v10 _ hv10 => ?_)
        replace E := zLet_s (zcst hv10 (by decide)) E
        exact ret _ _ _ _ dX6_isSource_26 (zb_bool ⟨by omega, by omega⟩) ⟨E.symm.trans hR, hS, ⟨by omega, hI⟩⟩
      · skip
        replace E := zIf_t c9 E
        refine zg_iconst X 1 dX6_isSource_21 (by decide) (fun v11 _ hv11 => ?_)
        replace E := zLet_s (zcst hv11 (by decide)) E
        refine zg_goto X 26 dX6_isSource_22 (by decide) ?_
        exact ret _ _ _ _ dX6_isSource_26 (zb_bool ⟨by omega, by omega⟩) ⟨E.symm.trans hR, hS, ⟨by omega, hI⟩⟩
set_option maxHeartbeats 4000000 in
set_option maxRecDepth 100000 in
theorem t_X6_sources (l : Launch) (d : zD2) (L : List Nat) (kd : Nat → Nat) (κ : Int) (b : Nat) (σ : zS) (hI : zI κ b L kd σ) (a0 : Nat) (ha0 : zT L kd a0 6) : zMi l yX6_sources (Cond.code yX6_sources cX6_sources 3 (some .int) :: zWL) 1 [.ref a0] d L kd σ (fun v σ2 => (v, σ2) = F_X6_sources a0 σ ∧ zSm [] [] L kd σ σ2 ∧ (zI κ b L kd σ2)) := by
  refine zMi.of (own := RX6) (by decide +kernel) rfl rfl (Nat.le_of_ble_eq_true rfl) ?_
  intro p e s m args below meth c A Q X ret
  refine zg_lv (lv2 := [(0, .ref a0)]) rfl ?_
  obtain ⟨R, hR⟩ : ∃ R, R = F_X6_sources a0 σ := ⟨_, rfl⟩
  have E := hR
  unfold F_X6_sources at E
  have hS : zSm [] [] L kd σ σ := zSm.rf
  refine zg_iconst X 0 dX6_sources_0 (by decide) (fun v1 _ hv1 => ?_)
  replace E := zLet_s (zcst hv1 (by decide)) E
  refine zg_istore_n X [(1, .int v1), (0, .ref a0)] dX6_sources_1 (by decide) rfl ?_
  refine zg_iconst X 1 dX6_sources_2 (by decide) (fun v2 _ hv2 => ?_)
  replace E := zLet_s (zcst hv2 (by decide)) E
  refine zg_istore_n X [(2, .int v2), (1, .int v1), (0, .ref a0)] dX6_sources_3 (by decide) rfl ?_
  have Lp5 : ∀ (nLp5 : Nat) (τ5 : zS) (x3 : Int32) (x4 : Int32), zI κ b L kd τ5 → zSm [] [] L kd σ τ5 → R = F_X6_sources_4 a0  nLp5 x3 x4 τ5 → 1 ≤ x3.toInt ∧ x3.toInt ≤ 12 → (12) - x3.toInt + 1 < (nLp5 : Int) → zG d L kd A 3 p l e (k2_rm 1 (100 * 1)) s m args below meth c Q τ5 4 [(2, .int x3), (1, .int x4), (0, .ref a0)] [] := by
    intro nLp5
    induction nLp5 with
    | zero => intro τ5 x3 x4 hI hS E  hxLp5 hm ; exact absurd hm (by omega)
    | succ nLp5 ihLp5 =>
      intro τ5 x3 x4 hI hS E  hxLp5 hmLp5 
      rw [F_X6_sources_4] at E
      refine zg_iload_n X 0 rfl dX6_sources_4 ?_
      refine zg_aload_n X 2 rfl dX6_sources_5 ?_
      refine fg_X6_9 X hI ha0 dX6_sources_6 (fun v6 ev6 hv6 => ?_)
      replace E := zLet_s ev6 E
      refine zg_icmp_ge X 34 dX6_sources_9 (by decide) (fun c7 => ?_) (fun c7 => ?_)
      · skip
        replace E := zIf_f (Int.not_lt.mpr c7) E
        refine zg_iload_n X 1 rfl dX6_sources_34 ?_
        exact ret _ _ _ _ dX6_sources_35 rfl ⟨E.symm.trans hR, hS, hI⟩
      · skip
        replace E := zIf_t c7 E
        refine zg_aload_n X 2 rfl dX6_sources_12 ?_
        refine fg_X6_25 X hI ha0 dX6_sources_13 (fun v8 ev8 hv8 => ?_)
        replace E := zLet_s (zgr ev8) E
        refine zg_iload_n X 0 rfl dX6_sources_16 ?_
        refine ag_36 X hI hv8 (by omega) (by omega) dX6_sources_17 (fun v9 ev9 _ => ?_)
        replace E := zLet_s ev9 E
        refine zg_if_ne X 28 dX6_sources_18 (by decide) (fun c10 => ?_) (fun c10 => ?_)
        · skip
          replace E := zIf_f c10 E
          refine zg_iinc X 1 (fun v11 => [(2, .int v11), (1, .int x4), (0, .ref a0)]) 0 dX6_sources_28 rfl (by decide) (by decide) (by omega) (by omega) (fun _ => rfl) (fun v11 ev11 hv11 => ?_)
          replace E := zLet_s (zinc ev11 (by decide)) E
          refine zg_goto X 4 dX6_sources_31 (by decide) ?_
          refine zg_sub [0, 1, 2] rfl ?_
          exact ihLp5 _ v11 x4 hI hS E  (by omega) (by omega) 
        · skip
          replace E := zIf_t c10 E
          refine zg_iload_n X 1 rfl dX6_sources_21 ?_
          refine zg_iload_n X 0 rfl dX6_sources_22 ?_
          refine zg_cSNi (As := [.int x3]) (st := [.int x4]) X (t_X10_bit l d L kd _ x3 ) mk_X6_44 mc_X10_bit mz_X10 ms_X10_bit (na := 1) ⟨md_X10.1, md_X10.2, by decide +kernel⟩ rfl ⟨by decide, by decide⟩ (Nat.le_of_ble_eq_true rfl) dX6_sources_23 (fun v12 σ2 hq => ?_)
          obtain ⟨⟨hF, hv12⟩, rfl⟩ := hq
          replace E := zLet_s hF E
          refine zg_iorW X dX6_sources_26 (fun v13 ev13 => ?_)
          replace E := zLet_s ev13 E
          refine zg_istore_n X [(1, .int v13), (2, .int x3), (0, .ref a0)] dX6_sources_27 (by decide) rfl ?_
          refine zg_iinc X 1 (fun v14 => [(2, .int v14), (1, .int v13), (0, .ref a0)]) 1 dX6_sources_28 rfl (by decide) (by decide) (by omega) (by omega) (fun _ => rfl) (fun v14 ev14 hv14 => ?_)
          replace E := zLet_s (zinc ev14 (by decide)) E
          refine zg_goto X 4 dX6_sources_31 (by decide) ?_
          refine zg_sub [0, 1, 2] rfl ?_
          exact ihLp5 _ v14 v13 hI hS E  (by omega) (by omega) 
  refine zg_sub [0, 1, 2] rfl ?_
  exact Lp5 10000 _ v2 v1 hI hS E  (by omega) (by omega) 
set_option maxHeartbeats 4000000 in
set_option maxRecDepth 100000 in
theorem t_X6_comingBy (l : Launch) (d : zD2) (L : List Nat) (kd : Nat → Nat) (κ : Int) (b : Nat) (σ : zS) (hI : zI κ b L kd σ) (a0 : Nat) (ha0 : zT L kd a0 6) (p1 : Int32) : zMi l yX6_comingBy (Cond.code yX6_comingBy cX6_comingBy 4 (some .int) :: zWL) 2 [.ref a0, .int p1] d L kd σ (fun v σ2 => (v, σ2) = F_X6_comingBy a0 p1 σ ∧ zSm [] [] L kd σ σ2 ∧ (zI κ b L kd σ2)) := by
  refine zMi.of (own := RX6) (by decide +kernel) rfl rfl (Nat.le_of_ble_eq_true rfl) ?_
  intro p e s m args below meth c A Q X ret
  refine zg_lv (lv2 := [(0, .ref a0), (1, .int p1)]) rfl ?_
  obtain ⟨R, hR⟩ : ∃ R, R = F_X6_comingBy a0 p1 σ := ⟨_, rfl⟩
  have E := hR
  unfold F_X6_comingBy at E
  have hS : zSm [] [] L kd σ σ := zSm.rf
  refine zg_iconst X 0 dX6_comingBy_0 (by decide) (fun v1 _ hv1 => ?_)
  replace E := zLet_s (zcst hv1 (by decide)) E
  refine zg_istore_n X [(2, .int v1), (0, .ref a0), (1, .int p1)] dX6_comingBy_1 (by decide) rfl ?_
  refine zg_iconst X 0 dX6_comingBy_2 (by decide) (fun v2 _ hv2 => ?_)
  replace E := zLet_s (zcst hv2 (by decide)) E
  refine zg_istore_n X [(3, .int v2), (2, .int v1), (0, .ref a0), (1, .int p1)] dX6_comingBy_3 (by decide) rfl ?_
  have Lp5 : ∀ (nLp5 : Nat) (τ5 : zS) (x3 : Int32) (x4 : Int32), zI κ b L kd τ5 → zSm [] [] L kd σ τ5 → R = F_X6_comingBy_4 a0 p1  nLp5 x3 x4 τ5 → 0 ≤ x3.toInt ∧ x3.toInt ≤ 12 → (12) - x3.toInt + 1 < (nLp5 : Int) → zG d L kd A 4 p l e (k2_rm 2 (100 * 2)) s m args below meth c Q τ5 4 [(3, .int x3), (2, .int x4), (0, .ref a0), (1, .int p1)] [] := by
    intro nLp5
    induction nLp5 with
    | zero => intro τ5 x3 x4 hI hS E  hxLp5 hm ; exact absurd hm (by omega)
    | succ nLp5 ihLp5 =>
      intro τ5 x3 x4 hI hS E  hxLp5 hmLp5 
      rw [F_X6_comingBy_4] at E
      refine zg_iload_n X 0 rfl dX6_comingBy_4 ?_
      refine zg_aload_n X 2 rfl dX6_comingBy_5 ?_
      refine fg_X6_9 X hI ha0 dX6_comingBy_6 (fun v6 ev6 hv6 => ?_)
      replace E := zLet_s ev6 E
      refine zg_icmp_ge X 38 dX6_comingBy_9 (by decide) (fun c7 => ?_) (fun c7 => ?_)
      · skip
        replace E := zIf_f (Int.not_lt.mpr c7) E
        refine zg_iload_n X 1 rfl dX6_comingBy_38 ?_
        exact ret _ _ _ _ dX6_comingBy_39 rfl ⟨E.symm.trans hR, hS, hI⟩
      · skip
        replace E := zIf_t c7 E
        refine zg_aload_n X 2 rfl dX6_comingBy_12 ?_
        refine fg_X6_31 X hI ha0 dX6_comingBy_13 (fun v8 ev8 hv8 => ?_)
        replace E := zLet_s (zgr ev8) E
        refine zg_iload_n X 0 rfl dX6_comingBy_16 ?_
        refine ag_38 X hI hv8 (by omega) (by omega) dX6_comingBy_17 (fun v9 ev9 _ => ?_)
        replace E := zLet_s ev9 E
        refine zg_iload_n X 3 rfl dX6_comingBy_18 ?_
        refine zg_cSNi (As := [.int v9, .int p1]) (st := []) X (t_X10_has l d L kd _ v9 p1 ) mk_X6_63 mc_X10_has mz_X10 ms_X10_has (na := 2) ⟨md_X10.1, md_X10.2, by decide +kernel⟩ rfl ⟨by decide, by decide⟩ (Nat.le_of_ble_eq_true rfl) dX6_comingBy_19 (fun v10 σ2 hq => ?_)
        obtain ⟨⟨hF, hv10⟩, rfl⟩ := hq
        replace E := zLet_s hF E
        refine zg_if_eq X 32 dX6_comingBy_22 (by decide) (fun c11 => ?_) (fun c11 => ?_)
        · skip
          replace E := zIf_t c11 E
          refine zg_iinc X 1 (fun v12 => [(3, .int v12), (2, .int x4), (0, .ref a0), (1, .int p1)]) 0 dX6_comingBy_32 rfl (by decide) (by decide) (by omega) (by omega) (fun _ => rfl) (fun v12 ev12 hv12 => ?_)
          replace E := zLet_s (zinc ev12 (by decide)) E
          refine zg_goto X 4 dX6_comingBy_35 (by decide) ?_
          refine zg_sub [0, 1, 2, 3] rfl ?_
          exact ihLp5 _ v12 x4 hI hS E  (by omega) (by omega) 
        · skip
          replace E := zIf_f c11 E
          refine zg_iload_n X 1 rfl dX6_comingBy_25 ?_
          refine zg_iload_n X 0 rfl dX6_comingBy_26 ?_
          refine zg_cSNi (As := [.int x3]) (st := [.int x4]) X (t_X10_bit l d L kd _ x3 ) mk_X6_44 mc_X10_bit mz_X10 ms_X10_bit (na := 1) ⟨md_X10.1, md_X10.2, by decide +kernel⟩ rfl ⟨by decide, by decide⟩ (Nat.le_of_ble_eq_true rfl) dX6_comingBy_27 (fun v13 σ2 hq => ?_)
          obtain ⟨⟨hF, hv13⟩, rfl⟩ := hq
          replace E := zLet_s hF E
          refine zg_iorW X dX6_comingBy_30 (fun v14 ev14 => ?_)
          replace E := zLet_s ev14 E
          refine zg_istore_n X [(2, .int v14), (3, .int x3), (0, .ref a0), (1, .int p1)] dX6_comingBy_31 (by decide) rfl ?_
          refine zg_iinc X 1 (fun v15 => [(3, .int v15), (2, .int v14), (0, .ref a0), (1, .int p1)]) 1 dX6_comingBy_32 rfl (by decide) (by decide) (by omega) (by omega) (fun _ => rfl) (fun v15 ev15 hv15 => ?_)
          replace E := zLet_s (zinc ev15 (by decide)) E
          refine zg_goto X 4 dX6_comingBy_35 (by decide) ?_
          refine zg_sub [0, 1, 2, 3] rfl ?_
          exact ihLp5 _ v15 v14 hI hS E  (by omega) (by omega) 
  refine zg_sub [0, 1, 2, 3] rfl ?_
  exact Lp5 10000 _ v2 v1 hI hS E  (by omega) (by omega) 
set_option maxHeartbeats 4000000 in
set_option maxRecDepth 100000 in
theorem t_X6_greatestFar (l : Launch) (d : zD2) (L : List Nat) (kd : Nat → Nat) (κ : Int) (b : Nat) (σ : zS) (hI : zI κ b L kd σ) (a0 : Nat) (ha0 : zT L kd a0 6) : zMi l yX6_greatestFar (Cond.code yX6_greatestFar cX6_greatestFar 3 (some .int) :: zWL) 1 [.ref a0] d L kd σ (fun v σ2 => (v, σ2) = F_X6_greatestFar a0 σ ∧ zSm [] [] L kd σ σ2 ∧ (zI κ b L kd σ2)) := by
  refine zMi.of (own := RX6) (by decide +kernel) rfl rfl (Nat.le_of_ble_eq_true rfl) ?_
  intro p e s m args below meth c A Q X ret
  refine zg_lv (lv2 := [(0, .ref a0)]) rfl ?_
  obtain ⟨R, hR⟩ : ∃ R, R = F_X6_greatestFar a0 σ := ⟨_, rfl⟩
  have E := hR
  unfold F_X6_greatestFar at E
  have hS : zSm [] [] L kd σ σ := zSm.rf
  refine zg_iconst X 0 dX6_greatestFar_0 (by decide) (fun v1 _ hv1 => ?_)
  replace E := zLet_s (zcst hv1 (by decide)) E
  refine zg_istore_n X [(1, .int v1), (0, .ref a0)] dX6_greatestFar_1 (by decide) rfl ?_
  refine zg_iconst X 0 dX6_greatestFar_2 (by decide) (fun v2 _ hv2 => ?_)
  replace E := zLet_s (zcst hv2 (by decide)) E
  refine zg_istore_n X [(2, .int v2), (1, .int v1), (0, .ref a0)] dX6_greatestFar_3 (by decide) rfl ?_
  have Lp5 : ∀ (nLp5 : Nat) (τ5 : zS) (x3 : Int32) (x4 : Int32), zI κ b L kd τ5 → zSm [] [] L kd σ τ5 → R = F_X6_greatestFar_4 a0  nLp5 x3 x4 τ5 → 0 ≤ x3.toInt ∧ x3.toInt ≤ 12 → (12) - x3.toInt + 1 < (nLp5 : Int) → zG d L kd A 3 p l e (k2_rm 1 (100 * 1)) s m args below meth c Q τ5 4 [(2, .int x3), (1, .int x4), (0, .ref a0)] [] := by
    intro nLp5
    induction nLp5 with
    | zero => intro τ5 x3 x4 hI hS E  hxLp5 hm ; exact absurd hm (by omega)
    | succ nLp5 ihLp5 =>
      intro τ5 x3 x4 hI hS E  hxLp5 hmLp5 
      rw [F_X6_greatestFar_4] at E
      refine zg_iload_n X 0 rfl dX6_greatestFar_4 ?_
      refine zg_aload_n X 2 rfl dX6_greatestFar_5 ?_
      refine fg_X6_9 X hI ha0 dX6_greatestFar_6 (fun v6 ev6 hv6 => ?_)
      replace E := zLet_s ev6 E
      refine zg_icmp_ge X 29 dX6_greatestFar_9 (by decide) (fun c7 => ?_) (fun c7 => ?_)
      · skip
        replace E := zIf_f (Int.not_lt.mpr c7) E
        refine zg_iload_n X 1 rfl dX6_greatestFar_29 ?_
        exact ret _ _ _ _ dX6_greatestFar_30 rfl ⟨E.symm.trans hR, hS, hI⟩
      · skip
        replace E := zIf_t c7 E
        refine zg_iload_n X 1 rfl dX6_greatestFar_12 ?_
        refine zg_aload_n X 2 rfl dX6_greatestFar_13 ?_
        refine fg_X6_22 X hI ha0 dX6_greatestFar_14 (fun v8 ev8 hv8 => ?_)
        replace E := zLet_s (zgr ev8) E
        refine zg_iload_n X 0 rfl dX6_greatestFar_17 ?_
        refine ag_35 X hI hv8 (by omega) (by omega) dX6_greatestFar_18 (fun v9 ev9 _ => ?_)
        replace E := zLet_s ev9 E
        refine zg_max X wj_X6_67 ⟨by decide, Nat.le_of_ble_eq_true rfl⟩ dX6_greatestFar_19 (fun v10 hv10 => ?_)
        replace E := zLet_s (zmax_e hv10) E
        refine zg_istore_n X [(1, .int v10), (2, .int x3), (0, .ref a0)] dX6_greatestFar_22 (by decide) rfl ?_
        refine zg_iinc X 1 (fun v11 => [(2, .int v11), (1, .int v10), (0, .ref a0)]) 1 dX6_greatestFar_23 rfl (by decide) (by decide) (by omega) (by omega) (fun _ => rfl) (fun v11 ev11 hv11 => ?_)
        replace E := zLet_s (zinc ev11 (by decide)) E
        refine zg_goto X 4 dX6_greatestFar_26 (by decide) ?_
        refine zg_sub [0, 1, 2] rfl ?_
        exact ihLp5 _ v11 v10 hI hS E  (by omega) (by omega) 
  refine zg_sub [0, 1, 2] rfl ?_
  exact Lp5 10000 _ v2 v1 hI hS E  (by omega) (by omega) 
set_option maxHeartbeats 4000000 in
set_option maxRecDepth 100000 in
theorem t_X6_deepest (l : Launch) (d : zD2) (L : List Nat) (kd : Nat → Nat) (κ : Int) (b : Nat) (σ : zS) (hI : zI κ b L kd σ) (a0 : Nat) (ha0 : zT L kd a0 6) : zMi l yX6_deepest (Cond.code yX6_deepest cX6_deepest 3 (some .int) :: zWL) 1 [.ref a0] d L kd σ (fun v σ2 => (v, σ2) = F_X6_deepest a0 σ ∧ zSm [] [] L kd σ σ2 ∧ (zI κ b L kd σ2)) := by
  refine zMi.of (own := RX6) (by decide +kernel) rfl rfl (Nat.le_of_ble_eq_true rfl) ?_
  intro p e s m args below meth c A Q X ret
  refine zg_lv (lv2 := [(0, .ref a0)]) rfl ?_
  obtain ⟨R, hR⟩ : ∃ R, R = F_X6_deepest a0 σ := ⟨_, rfl⟩
  have E := hR
  unfold F_X6_deepest at E
  have hS : zSm [] [] L kd σ σ := zSm.rf
  refine zg_iconst X 0 dX6_deepest_0 (by decide) (fun v1 _ hv1 => ?_)
  replace E := zLet_s (zcst hv1 (by decide)) E
  refine zg_istore_n X [(1, .int v1), (0, .ref a0)] dX6_deepest_1 (by decide) rfl ?_
  refine zg_iconst X 1 dX6_deepest_2 (by decide) (fun v2 _ hv2 => ?_)
  replace E := zLet_s (zcst hv2 (by decide)) E
  refine zg_istore_n X [(2, .int v2), (1, .int v1), (0, .ref a0)] dX6_deepest_3 (by decide) rfl ?_
  have Lp5 : ∀ (nLp5 : Nat) (τ5 : zS) (x3 : Int32) (x4 : Int32), zI κ b L kd τ5 → zSm [] [] L kd σ τ5 → R = F_X6_deepest_4 a0  nLp5 x3 x4 τ5 → 1 ≤ x3.toInt ∧ x3.toInt ≤ 12 → (12) - x3.toInt + 1 < (nLp5 : Int) → zG d L kd A 3 p l e (k2_rm 1 (100 * 1)) s m args below meth c Q τ5 4 [(2, .int x3), (1, .int x4), (0, .ref a0)] [] := by
    intro nLp5
    induction nLp5 with
    | zero => intro τ5 x3 x4 hI hS E  hxLp5 hm ; exact absurd hm (by omega)
    | succ nLp5 ihLp5 =>
      intro τ5 x3 x4 hI hS E  hxLp5 hmLp5 
      rw [F_X6_deepest_4] at E
      refine zg_iload_n X 0 rfl dX6_deepest_4 ?_
      refine zg_aload_n X 2 rfl dX6_deepest_5 ?_
      refine fg_X6_9 X hI ha0 dX6_deepest_6 (fun v6 ev6 hv6 => ?_)
      replace E := zLet_s ev6 E
      refine zg_icmp_ge X 32 dX6_deepest_9 (by decide) (fun c7 => ?_) (fun c7 => ?_)
      · skip
        replace E := zIf_f (Int.not_lt.mpr c7) E
        refine zg_iload_n X 1 rfl dX6_deepest_32 ?_
        exact ret _ _ _ _ dX6_deepest_33 rfl ⟨E.symm.trans hR, hS, hI⟩
      · skip
        replace E := zIf_t c7 E
        refine zg_iload_n X 1 rfl dX6_deepest_12 ?_
        refine zg_aload_n X 2 rfl dX6_deepest_13 ?_
        refine fg_X6_31 X hI ha0 dX6_deepest_14 (fun v8 ev8 hv8 => ?_)
        replace E := zLet_s (zgr ev8) E
        refine zg_iload_n X 0 rfl dX6_deepest_17 ?_
        refine ag_38 X hI hv8 (by omega) (by omega) dX6_deepest_18 (fun v9 ev9 _ => ?_)
        replace E := zLet_s ev9 E
        refine zg_cSi (As := [.int v9]) (st := [.int x4]) X (t_J6_bitCount_0f7a4 l d L kd _ v9 ) mk_X6_73 mc_J6_bitCount_0f7a4 mz_J6 ms_J6_bitCount_0f7a4 (na := 1) ⟨md_J6.1, md_J6.2, by decide +kernel⟩ rfl ⟨by decide, by decide⟩ (Nat.le_of_ble_eq_true rfl) dX6_deepest_19 (fun v10 σ2 hq => ?_)
        obtain ⟨⟨hF, hv10⟩, rfl⟩ := hq
        replace E := zLet_s hF E
        refine zg_max X wj_X6_67 ⟨by decide, Nat.le_of_ble_eq_true rfl⟩ dX6_deepest_22 (fun v11 hv11 => ?_)
        replace E := zLet_s (zmax_e hv11) E
        refine zg_istore_n X [(1, .int v11), (2, .int x3), (0, .ref a0)] dX6_deepest_25 (by decide) rfl ?_
        refine zg_iinc X 1 (fun v12 => [(2, .int v12), (1, .int v11), (0, .ref a0)]) 1 dX6_deepest_26 rfl (by decide) (by decide) (by omega) (by omega) (fun _ => rfl) (fun v12 ev12 hv12 => ?_)
        replace E := zLet_s (zinc ev12 (by decide)) E
        refine zg_goto X 4 dX6_deepest_29 (by decide) ?_
        refine zg_sub [0, 1, 2] rfl ?_
        exact ihLp5 _ v12 v11 hI hS E  (by omega) (by omega) 
  refine zg_sub [0, 1, 2] rfl ?_
  exact Lp5 10000 _ v2 v1 hI hS E  (by omega) (by omega) 
set_option maxHeartbeats 4000000 in
set_option maxRecDepth 100000 in
theorem t_X6_tourOf (l : Launch) (d : zD2) (L : List Nat) (kd : Nat → Nat) (κ : Int) (b : Nat) (σ : zS) (hI : zI κ b L kd σ) (a0 : Nat) (ha0 : zT L kd a0 6) (p1 : Int32) : zMi l yX6_tourOf (Cond.code yX6_tourOf cX6_tourOf 6 (some .int) :: zWL) 2 [.ref a0, .int p1] d L kd σ (fun v σ2 => (v, σ2) = F_X6_tourOf a0 p1 σ ∧ zSm [] [] L kd σ σ2 ∧ (zI κ b L kd σ2)) := by
  refine zMi.of (own := RX6) (by decide +kernel) rfl rfl (Nat.le_of_ble_eq_true rfl) ?_
  intro p e s m args below meth c A Q X ret
  refine zg_lv (lv2 := [(0, .ref a0), (1, .int p1)]) rfl ?_
  obtain ⟨R, hR⟩ : ∃ R, R = F_X6_tourOf a0 p1 σ := ⟨_, rfl⟩
  have E := hR
  unfold F_X6_tourOf at E
  have hS : zSm [] [] L kd σ σ := zSm.rf
  refine zg_iconst X 0 dX6_tourOf_0 (by decide) (fun v1 _ hv1 => ?_)
  replace E := zLet_s (zcst hv1 (by decide)) E
  refine zg_istore_n X [(2, .int v1), (0, .ref a0), (1, .int p1)] dX6_tourOf_1 (by decide) rfl ?_
  refine zg_iconst X 0 dX6_tourOf_2 (by decide) (fun v2 _ hv2 => ?_)
  replace E := zLet_s (zcst hv2 (by decide)) E
  refine zg_istore_n X [(3, .int v2), (2, .int v1), (0, .ref a0), (1, .int p1)] dX6_tourOf_3 (by decide) rfl ?_
  refine zg_iconst X 1 dX6_tourOf_4 (by decide) (fun v3 _ hv3 => ?_)
  replace E := zLet_s (zcst hv3 (by decide)) E
  refine zg_istore X [(4, .int v3), (3, .int v2), (2, .int v1), (0, .ref a0), (1, .int p1)] dX6_tourOf_5 (by decide) rfl ?_
  have Lp7 : ∀ (nLp7 : Nat) (τ7 : zS) (x4 : Int32) (x5 : Int32) (x6 : Int32), zI κ b L kd τ7 → zSm [] [] L kd σ τ7 → R = F_X6_tourOf_7 a0 p1  nLp7 x4 x5 x6 τ7 → 1 ≤ x4.toInt ∧ x4.toInt ≤ 12 → (12) - x4.toInt + 1 < (nLp7 : Int) → zG d L kd A 6 p l e (k2_rm 2 (100 * 2)) s m args below meth c Q τ7 7 [(4, .int x4), (3, .int x5), (2, .int x6), (0, .ref a0), (1, .int p1)] [] := by
    intro nLp7
    induction nLp7 with
    | zero => intro τ7 x4 x5 x6 hI hS E  hxLp7 hm ; exact absurd hm (by omega)
    | succ nLp7 ihLp7 =>
      intro τ7 x4 x5 x6 hI hS E  hxLp7 hmLp7 
      rw [F_X6_tourOf_7] at E
      refine zg_iload X 0 rfl dX6_tourOf_7 ?_
      refine zg_aload_n X 3 rfl dX6_tourOf_9 ?_
      refine fg_X6_9 X hI ha0 dX6_tourOf_10 (fun v8 ev8 hv8 => ?_)
      replace E := zLet_s ev8 E
      refine zg_icmp_ge X 53 dX6_tourOf_13 (by decide) (fun c9 => ?_) (fun c9 => ?_)
      · skip
        replace E := zIf_f (Int.not_lt.mpr c9) E
        refine zg_iconst X 0 dX6_tourOf_53 (by decide) (fun v10 _ hv10 => ?_)
        replace E := zLet_s (zcst hv10 (by decide)) E
        refine zg_istore X [(4, .int v10), (3, .int x5), (2, .int x6), (0, .ref a0), (1, .int p1)] dX6_tourOf_54 (by decide) rfl ?_
        refine zg_iconst X 1 dX6_tourOf_56 (by decide) (fun v11 _ hv11 => ?_)
        replace E := zLet_s (zcst hv11 (by decide)) E
        refine zg_istore X [(5, .int v11), (4, .int v10), (3, .int x5), (2, .int x6), (0, .ref a0), (1, .int p1)] dX6_tourOf_57 (by decide) rfl ?_
        have Lp14 : ∀ (nLp14 : Nat) (τ14 : zS) (x12 : Int32) (x13 : Int32), zI κ b L kd τ14 → zSm [] [] L kd σ τ14 → R = F_X6_tourOf_59 x5 x6 a0 p1 (F_X6_tourOf_7 a0 p1  nLp7) nLp14 x12 x13 τ14 → 1 ≤ x12.toInt ∧ x12.toInt ≤ 12 → (12) - x12.toInt + 1 < (nLp14 : Int) → zG d L kd A 6 p l e (k2_rm 2 (100 * 2)) s m args below meth c Q τ14 59 [(5, .int x12), (4, .int x13), (3, .int x5), (2, .int x6), (0, .ref a0), (1, .int p1)] [] := by
          intro nLp14
          induction nLp14 with
          | zero => intro τ14 x12 x13 hI hS E  hxLp14 hm ; exact absurd hm (by omega)
          | succ nLp14 ihLp14 =>
            intro τ14 x12 x13 hI hS E  hxLp14 hmLp14 
            rw [F_X6_tourOf_59] at E
            refine zg_iload X 0 rfl dX6_tourOf_59 ?_
            refine zg_aload_n X 4 rfl dX6_tourOf_61 ?_
            refine fg_X6_9 X hI ha0 dX6_tourOf_62 (fun v15 ev15 hv15 => ?_)
            replace E := zLet_s ev15 E
            refine zg_icmp_ge X 95 dX6_tourOf_65 (by decide) (fun c16 => ?_) (fun c16 => ?_)
            · skip
              replace E := zIf_f (Int.not_lt.mpr c16) E
              refine zg_iconst X 2 dX6_tourOf_95 (by decide) (fun v17 _ hv17 => ?_)
              replace E := zLet_s (zcst hv17 (by decide)) E
              refine zg_iload X 1 rfl dX6_tourOf_96 ?_
              refine zg_imulW X dX6_tourOf_98 (fun v18 ev18 => ?_)
              replace E := zLet_s ev18 E
              refine zg_iload_n X 2 rfl dX6_tourOf_99 ?_
              refine zg_isubW X dX6_tourOf_100 (fun v19 ev19 => ?_)
              replace E := zLet_s ev19 E
              exact ret _ _ _ _ dX6_tourOf_101 rfl ⟨E.symm.trans hR, hS, hI⟩
            · skip
              replace E := zIf_t c16 E
              refine zg_iload_n X 3 rfl dX6_tourOf_68 ?_
              refine zg_iload X 0 rfl dX6_tourOf_69 ?_
              refine zg_cSNi (As := [.int x6, .int x12]) (st := []) X (t_X10_has l d L kd _ x6 x12 ) mk_X6_63 mc_X10_has mz_X10 ms_X10_has (na := 2) ⟨md_X10.1, md_X10.2, by decide +kernel⟩ rfl ⟨by decide, by decide⟩ (Nat.le_of_ble_eq_true rfl) dX6_tourOf_71 (fun v20 σ2 hq => ?_)
              obtain ⟨⟨hF, hv20⟩, rfl⟩ := hq
              replace E := zLet_s hF E
              refine zg_if_eq X 89 dX6_tourOf_74 (by decide) (fun c21 => ?_) (fun c21 => ?_)
              · skip
                replace E := zIf_t c21 E
                refine zg_iinc X 1 (fun v22 => [(5, .int v22), (4, .int x13), (3, .int x5), (2, .int x6), (0, .ref a0), (1, .int p1)]) 0 dX6_tourOf_89 rfl (by decide) (by decide) (by omega) (by omega) (fun _ => rfl) (fun v22 ev22 hv22 => ?_)
                replace E := zLet_s (zinc ev22 (by decide)) E
                refine zg_goto X 59 dX6_tourOf_92 (by decide) ?_
                refine zg_sub [0, 1, 2, 3, 4, 5] rfl ?_
                exact ihLp14 _ v22 x13 hI hS E  (by omega) (by omega) 
              · skip
                replace E := zIf_f c21 E
                refine zg_iload X 1 rfl dX6_tourOf_77 ?_
                refine zg_aload_n X 4 rfl dX6_tourOf_79 ?_
                refine fg_X6_15 X hI ha0 dX6_tourOf_80 (fun v23 ev23 hv23 => ?_)
                replace E := zLet_s (zgr ev23) E
                refine zg_iload X 0 rfl dX6_tourOf_83 ?_
                refine ag_33 X hI hv23 (by omega) (by omega) dX6_tourOf_85 (fun v24 ev24 _ => ?_)
                replace E := zLet_s ev24 E
                refine zg_iaddW X dX6_tourOf_86 (fun v25 ev25 => ?_)
                replace E := zLet_s ev25 E
                refine zg_istore X [(4, .int v25), (5, .int x12), (3, .int x5), (2, .int x6), (0, .ref a0), (1, .int p1)] dX6_tourOf_87 (by decide) rfl ?_
                refine zg_iinc X 1 (fun v26 => [(5, .int v26), (4, .int v25), (3, .int x5), (2, .int x6), (0, .ref a0), (1, .int p1)]) 1 dX6_tourOf_89 rfl (by decide) (by decide) (by omega) (by omega) (fun _ => rfl) (fun v26 ev26 hv26 => ?_)
                replace E := zLet_s (zinc ev26 (by decide)) E
                refine zg_goto X 59 dX6_tourOf_92 (by decide) ?_
                refine zg_sub [0, 1, 2, 3, 4, 5] rfl ?_
                exact ihLp14 _ v26 v25 hI hS E  (by omega) (by omega) 
        refine zg_sub [0, 1, 2, 3, 4, 5] rfl ?_
        exact Lp14 10000 _ v11 v10 hI hS E  (by omega) (by omega) 
      · skip
        replace E := zIf_t c9 E
        refine zg_iload_n X 4 rfl dX6_tourOf_16 ?_
        refine zg_iload X 0 rfl dX6_tourOf_17 ?_
        refine zg_cSNi (As := [.int p1, .int x4]) (st := []) X (t_X10_has l d L kd _ p1 x4 ) mk_X6_63 mc_X10_has mz_X10 ms_X10_has (na := 2) ⟨md_X10.1, md_X10.2, by decide +kernel⟩ rfl ⟨by decide, by decide⟩ (Nat.le_of_ble_eq_true rfl) dX6_tourOf_19 (fun v27 σ2 hq => ?_)
        obtain ⟨⟨hF, hv27⟩, rfl⟩ := hq
        replace E := zLet_s hF E
        refine zg_if_eq X 47 dX6_tourOf_22 (by decide) (fun c28 => ?_) (fun c28 => ?_)
        · skip
          replace E := zIf_t c28 E
          refine zg_iinc X 1 (fun v29 => [(4, .int v29), (3, .int x5), (2, .int x6), (0, .ref a0), (1, .int p1)]) 0 dX6_tourOf_47 rfl (by decide) (by decide) (by omega) (by omega) (fun _ => rfl) (fun v29 ev29 hv29 => ?_)
          replace E := zLet_s (zinc ev29 (by decide)) E
          refine zg_goto X 7 dX6_tourOf_50 (by decide) ?_
          refine zg_sub [0, 1, 2, 3, 4] rfl ?_
          exact ihLp7 _ v29 x5 x6 hI hS E  (by omega) (by omega) 
        · skip
          replace E := zIf_f c28 E
          refine zg_iload_n X 2 rfl dX6_tourOf_25 ?_
          refine zg_aload_n X 3 rfl dX6_tourOf_26 ?_
          refine fg_X6_31 X hI ha0 dX6_tourOf_27 (fun v30 ev30 hv30 => ?_)
          replace E := zLet_s (zgr ev30) E
          refine zg_iload X 0 rfl dX6_tourOf_30 ?_
          refine ag_38 X hI hv30 (by omega) (by omega) dX6_tourOf_32 (fun v31 ev31 _ => ?_)
          replace E := zLet_s ev31 E
          refine zg_iorW X dX6_tourOf_33 (fun v32 ev32 => ?_)
          replace E := zLet_s ev32 E
          refine zg_istore_n X [(2, .int v32), (4, .int x4), (3, .int x5), (0, .ref a0), (1, .int p1)] dX6_tourOf_34 (by decide) rfl ?_
          refine zg_iload_n X 2 rfl dX6_tourOf_35 ?_
          refine zg_aload_n X 3 rfl dX6_tourOf_36 ?_
          refine fg_X6_22 X hI ha0 dX6_tourOf_37 (fun v33 ev33 hv33 => ?_)
          replace E := zLet_s (zgr ev33) E
          refine zg_iload X 1 rfl dX6_tourOf_40 ?_
          refine ag_35 X hI hv33 (by omega) (by omega) dX6_tourOf_42 (fun v34 ev34 _ => ?_)
          replace E := zLet_s ev34 E
          refine zg_max X wj_X6_67 ⟨by decide, Nat.le_of_ble_eq_true rfl⟩ dX6_tourOf_43 (fun v35 hv35 => ?_)
          replace E := zLet_s (zmax_e hv35) E
          refine zg_istore_n X [(3, .int v35), (2, .int v32), (4, .int x4), (0, .ref a0), (1, .int p1)] dX6_tourOf_46 (by decide) rfl ?_
          refine zg_iinc X 1 (fun v36 => [(4, .int v36), (3, .int v35), (2, .int v32), (0, .ref a0), (1, .int p1)]) 2 dX6_tourOf_47 rfl (by decide) (by decide) (by omega) (by omega) (fun _ => rfl) (fun v36 ev36 hv36 => ?_)
          replace E := zLet_s (zinc ev36 (by decide)) E
          refine zg_goto X 7 dX6_tourOf_50 (by decide) ?_
          refine zg_sub [0, 1, 2, 3, 4] rfl ?_
          exact ihLp7 _ v36 v35 v32 hI hS E  (by omega) (by omega) 
  refine zg_sub [0, 1, 2, 3, 4] rfl ?_
  exact Lp7 10000 _ v3 v2 v1 hI hS E  (by omega) (by omega) 
set_option maxHeartbeats 4000000 in
set_option maxRecDepth 100000 in
theorem t_X6_meeting (l : Launch) (d : zD2) (L : List Nat) (kd : Nat → Nat) (κ : Int) (b : Nat) (σ : zS) (hI : zI κ b L kd σ) (a0 : Nat) (ha0 : zT L kd a0 6) (p1 : Int32) (p2 : Int32) (hq0 : 0 ≤ p1.toInt ∧ p1.toInt ≤ 11) (hq1 : 0 ≤ p2.toInt ∧ p2.toInt ≤ 11) : zMi l yX6_meeting (Cond.code yX6_meeting cX6_meeting 6 (some .int) :: zWL) 2 [.ref a0, .int p1, .int p2] d L kd σ (fun v σ2 => (v, σ2) = F_X6_meeting a0 p1 p2 σ ∧ zSm [] [] L kd σ σ2 ∧ ((0 ≤ v.toInt ∧ v.toInt ≤ 11) ∧ zI κ b L kd σ2)) := by
  refine zMi.of (own := RX6) (by decide +kernel) rfl rfl (Nat.le_of_ble_eq_true rfl) ?_
  intro p e s m args below meth c A Q X ret
  refine zg_lv (lv2 := [(0, .ref a0), (1, .int p1), (2, .int p2)]) rfl ?_
  obtain ⟨R, hR⟩ : ∃ R, R = F_X6_meeting a0 p1 p2 σ := ⟨_, rfl⟩
  have E := hR
  unfold F_X6_meeting at E
  have hS : zSm [] [] L kd σ σ := zSm.rf
  refine zg_aload_n X 0 rfl dX6_meeting_0 ?_
  refine fg_X6_31 X hI ha0 dX6_meeting_1 (fun v1 ev1 hv1 => ?_)
  replace E := zLet_s (zgr ev1) E
  refine zg_iload_n X 1 rfl dX6_meeting_4 ?_
  refine ag_38 X hI hv1 (by omega) (by omega) dX6_meeting_5 (fun v2 ev2 _ => ?_)
  replace E := zLet_s ev2 E
  refine zg_aload_n X 0 rfl dX6_meeting_6 ?_
  refine fg_X6_31 X hI ha0 dX6_meeting_7 (fun v3 ev3 hv3 => ?_)
  replace E := zLet_s (zgr ev3) E
  refine zg_iload_n X 2 rfl dX6_meeting_10 ?_
  refine ag_38 X hI hv3 (by omega) (by omega) dX6_meeting_11 (fun v4 ev4 _ => ?_)
  replace E := zLet_s ev4 E
  refine zg_iandW X dX6_meeting_12 (fun v5 ev5 => ?_)
  replace E := zLet_s ev5 E
  refine zg_istore_n X [(3, .int v5), (0, .ref a0), (1, .int p1), (2, .int p2)] dX6_meeting_13 (by decide) rfl ?_
  refine zg_iconst X 0 dX6_meeting_14 (by decide) (fun v6 _ hv6 => ?_)
  replace E := zLet_s (zcst hv6 (by decide)) E
  refine zg_istore X [(4, .int v6), (3, .int v5), (0, .ref a0), (1, .int p1), (2, .int p2)] dX6_meeting_15 (by decide) rfl ?_
  refine zg_iconst X 1 dX6_meeting_17 (by decide) (fun v7 _ hv7 => ?_)
  replace E := zLet_s (zcst hv7 (by decide)) E
  refine zg_istore X [(5, .int v7), (4, .int v6), (3, .int v5), (0, .ref a0), (1, .int p1), (2, .int p2)] dX6_meeting_18 (by decide) rfl ?_
  have Lp10 : ∀ (nLp10 : Nat) (τ10 : zS) (x8 : Int32) (x9 : Int32), zI κ b L kd τ10 → zSm [] [] L kd σ τ10 → R = F_X6_meeting_20 v5 a0 p1 p2  nLp10 x8 x9 τ10 → 0 ≤ x9.toInt ∧ x9.toInt ≤ 11 ∧ 1 ≤ x8.toInt ∧ x8.toInt ≤ 12 → (12) - x8.toInt + 1 < (nLp10 : Int) → zG d L kd A 6 p l e (k2_rm 2 (100 * 2)) s m args below meth c Q τ10 20 [(5, .int x8), (4, .int x9), (3, .int v5), (0, .ref a0), (1, .int p1), (2, .int p2)] [] := by
    intro nLp10
    induction nLp10 with
    | zero => intro τ10 x8 x9 hI hS E  hxLp10 hm ; exact absurd hm (by omega)
    | succ nLp10 ihLp10 =>
      intro τ10 x8 x9 hI hS E  hxLp10 hmLp10 
      rw [F_X6_meeting_20] at E
      refine zg_iload X 0 rfl dX6_meeting_20 ?_
      refine zg_aload_n X 3 rfl dX6_meeting_22 ?_
      refine fg_X6_9 X hI ha0 dX6_meeting_23 (fun v11 ev11 hv11 => ?_)
      replace E := zLet_s ev11 E
      refine zg_icmp_ge X 65 dX6_meeting_26 (by decide) (fun c12 => ?_) (fun c12 => ?_)
      · skip
        replace E := zIf_f (Int.not_lt.mpr c12) E
        refine zg_iload X 1 rfl dX6_meeting_65 ?_
        exact ret _ _ _ _ dX6_meeting_67 rfl ⟨E.symm.trans hR, hS, ⟨⟨by omega, by omega⟩, hI⟩⟩
      · skip
        replace E := zIf_t c12 E
        refine zg_iload_n X 2 rfl dX6_meeting_29 ?_
        refine zg_iload X 0 rfl dX6_meeting_30 ?_
        refine zg_cSNi (As := [.int v5, .int x8]) (st := []) X (t_X10_has l d L kd _ v5 x8 ) mk_X6_63 mc_X10_has mz_X10 ms_X10_has (na := 2) ⟨md_X10.1, md_X10.2, by decide +kernel⟩ rfl ⟨by decide, by decide⟩ (Nat.le_of_ble_eq_true rfl) dX6_meeting_32 (fun v13 σ2 hq => ?_)
        obtain ⟨⟨hF, hv13⟩, rfl⟩ := hq
        replace E := zLet_s hF E
        refine zg_if_eq X 59 dX6_meeting_35 (by decide) (fun c14 => ?_) (fun c14 => ?_)
        · skip
          replace E := zIf_t c14 E
          refine zg_iinc X 1 (fun v15 => [(5, .int v15), (4, .int x9), (3, .int v5), (0, .ref a0), (1, .int p1), (2, .int p2)]) 0 dX6_meeting_59 rfl (by decide) (by decide) (by omega) (by omega) (fun _ => rfl) (fun v15 ev15 hv15 => ?_)
          replace E := zLet_s (zinc ev15 (by decide)) E
          refine zg_goto X 20 dX6_meeting_62 (by decide) ?_
          refine zg_sub [0, 1, 2, 3, 4, 5] rfl ?_
          exact ihLp10 _ v15 x9 hI hS E  (by omega) (by omega) 
        · skip
          replace E := zIf_f c14 E
          refine zg_aload_n X 3 rfl dX6_meeting_38 ?_
          refine fg_X6_22 X hI ha0 dX6_meeting_39 (fun v16 ev16 hv16 => ?_)
          replace E := zLet_s (zgr ev16) E
          refine zg_iload X 0 rfl dX6_meeting_42 ?_
          refine ag_35 X hI hv16 (by omega) (by omega) dX6_meeting_44 (fun v17 ev17 _ => ?_)
          replace E := zLet_s ev17 E
          refine zg_aload_n X 3 rfl dX6_meeting_45 ?_
          refine fg_X6_22 X hI ha0 dX6_meeting_46 (fun v18 ev18 hv18 => ?_)
          replace E := zLet_s (zgr ev18) E
          refine zg_iload X 1 rfl dX6_meeting_49 ?_
          refine ag_35 X hI hv18 (by omega) (by omega) dX6_meeting_51 (fun v19 ev19 _ => ?_)
          replace E := zLet_s ev19 E
          have zv17_z20 := zb_rng v17
          have zv19_z21 := zb_rng v19
          refine zg_icmp_le X 59 dX6_meeting_52 (by decide) (fun c22 => ?_) (fun c22 => ?_)
          · skip
            replace E := zIf_f (Int.not_lt.mpr c22) E
            refine zg_iinc X 1 (fun v23 => [(5, .int v23), (4, .int x9), (3, .int v5), (0, .ref a0), (1, .int p1), (2, .int p2)]) 0 dX6_meeting_59 rfl (by decide) (by decide) (by omega) (by omega) (fun _ => rfl) (fun v23 ev23 hv23 => ?_)
            replace E := zLet_s (zinc ev23 (by decide)) E
            refine zg_goto X 20 dX6_meeting_62 (by decide) ?_
            refine zg_sub [0, 1, 2, 3, 4, 5] rfl ?_
            exact ihLp10 _ v23 x9 hI hS E  (by omega) (by omega) 
          · skip
            replace E := zIf_t c22 E
            refine zg_iload X 0 rfl dX6_meeting_55 ?_
            refine zg_istore X [(4, .int x8), (5, .int x8), (3, .int v5), (0, .ref a0), (1, .int p1), (2, .int p2)] dX6_meeting_57 (by decide) rfl ?_
            refine zg_iinc X 1 (fun v24 => [(5, .int v24), (4, .int x8), (3, .int v5), (0, .ref a0), (1, .int p1), (2, .int p2)]) 1 dX6_meeting_59 rfl (by decide) (by decide) (by omega) (by omega) (fun _ => rfl) (fun v24 ev24 hv24 => ?_)
            replace E := zLet_s (zinc ev24 (by decide)) E
            refine zg_goto X 20 dX6_meeting_62 (by decide) ?_
            refine zg_sub [0, 1, 2, 3, 4, 5] rfl ?_
            exact ihLp10 _ v24 x8 hI hS E  (by omega) (by omega) 
  refine zg_sub [0, 1, 2, 3, 4, 5] rfl ?_
  exact Lp10 10000 _ v7 v6 hI hS E  (by omega) (by omega) 
set_option maxHeartbeats 4000000 in
set_option maxRecDepth 100000 in
theorem t_X6_orderOf (l : Launch) (d : zD2) (L : List Nat) (kd : Nat → Nat) (κ : Int) (b : Nat) (σ : zS) (hI : zI κ b L kd σ) (a0 : Nat) (ha0 : zT L kd a0 6) (p1 : Nat) (hp1 : zT L kd p1 1) (p2 : Int32) (hq0 : 0 ≤ p2.toInt ∧ p2.toInt ≤ 11) : zMi l yX6_orderOf (Cond.code yX6_orderOf cX6_orderOf 7 (some .int) :: zWL) 0 [.ref a0, .ref p1, .int p2] d L kd σ (fun v σ2 => (v, σ2) = F_X6_orderOf a0 p1 p2 σ ∧ zSm [37] [] L kd σ σ2 ∧ (zI κ b L kd σ2)) := by
  refine zMi.of (own := RX6) (by decide +kernel) rfl rfl (Nat.le_of_ble_eq_true rfl) ?_
  intro p e s m args below meth c A Q X ret
  refine zg_lv (lv2 := [(0, .ref a0), (1, .ref p1), (2, .int p2)]) rfl ?_
  obtain ⟨R, hR⟩ : ∃ R, R = F_X6_orderOf a0 p1 p2 σ := ⟨_, rfl⟩
  have E := hR
  unfold F_X6_orderOf at E
  have hS : zSm [37] [] L kd σ σ := zSm.rf
  refine zg_aload_n X 0 rfl dX6_orderOf_0 ?_
  refine fg_X6_9 X hI ha0 dX6_orderOf_1 (fun v1 ev1 hv1 => ?_)
  replace E := zLet_s ev1 E
  refine zg_iconst X 1 dX6_orderOf_4 (by decide) (fun v2 _ hv2 => ?_)
  replace E := zLet_s (zcst hv2 (by decide)) E
  refine zg_isub X dX6_orderOf_5 (by omega) (by omega) (fun v3 ev3 hv3 => ?_)
  replace E := zLet_s ev3 E
  refine zg_istore_n X [(3, .int v3), (0, .ref a0), (1, .ref p1), (2, .int p2)] dX6_orderOf_6 (by decide) rfl ?_
  have Lp5 : ∀ (nLp5 : Nat) (τ5 : zS) (x4 : Int32), zI κ b L kd τ5 → zSm [37] [] L kd σ τ5 → R = F_X6_orderOf_7 a0 p1 p2  nLp5 x4 τ5 → (-1) ≤ x4.toInt ∧ x4.toInt ≤ 11 → x4.toInt + 2 < (nLp5 : Int) → zG d L kd A 7 p l e (k2_rm 0 (100 * 0)) s m args below meth c Q τ5 7 [(3, .int x4), (0, .ref a0), (1, .ref p1), (2, .int p2)] [] := by
    intro nLp5
    induction nLp5 with
    | zero => intro τ5 x4 hI hS E  hxLp5 hm ; exact absurd hm (by omega)
    | succ nLp5 ihLp5 =>
      intro τ5 x4 hI hS E  hxLp5 hmLp5 
      rw [F_X6_orderOf_7] at E
      refine zg_iload_n X 0 rfl dX6_orderOf_7 ?_
      refine zg_if_lt X 126 dX6_orderOf_8 (by decide) (fun c6 => ?_) (fun c6 => ?_)
      · skip
        replace E := zIf_t c6 E
        refine zg_aload_n X 1 rfl dX6_orderOf_126 ?_
        refine fg_X6_28 X hI ha0 dX6_orderOf_127 (fun v7 ev7 hv7 => ?_)
        replace E := zLet_s (zgr ev7) E
        refine zg_iload_n X 3 rfl dX6_orderOf_130 ?_
        refine ag_37 X hI hv7 (by omega) (by omega) dX6_orderOf_131 (fun v8 ev8 _ => ?_)
        replace E := zLet_s ev8 E
        exact ret _ _ _ _ dX6_orderOf_132 rfl ⟨E.symm.trans hR, hS, hI⟩
      · skip
        replace E := zIf_f (Int.not_lt.mpr c6) E
        refine zg_iconst X 0 dX6_orderOf_11 (by decide) (fun v9 _ hv9 => ?_)
        replace E := zLet_s (zcst hv9 (by decide)) E
        refine zg_istore X [(4, .int v9), (3, .int x4), (0, .ref a0), (1, .ref p1), (2, .int p2)] dX6_orderOf_12 (by decide) rfl ?_
        refine zg_iconst X 0 dX6_orderOf_14 (by decide) (fun v10 _ hv10 => ?_)
        replace E := zLet_s (zcst hv10 (by decide)) E
        refine zg_istore X [(5, .int v10), (4, .int v9), (3, .int x4), (0, .ref a0), (1, .ref p1), (2, .int p2)] dX6_orderOf_15 (by decide) rfl ?_
        refine zg_iconst X 1 dX6_orderOf_17 (by decide) (fun v11 _ hv11 => ?_)
        replace E := zLet_s (zcst hv11 (by decide)) E
        refine zg_istore X [(6, .int v11), (5, .int v10), (4, .int v9), (3, .int x4), (0, .ref a0), (1, .ref p1), (2, .int p2)] dX6_orderOf_18 (by decide) rfl ?_
        have Lp15 : ∀ (nLp15 : Nat) (τ15 : zS) (x12 : Int32) (x13 : Int32) (x14 : Int32), zI κ b L kd τ15 → zSm [37] [] L kd σ τ15 → R = F_X6_orderOf_20 x4 a0 p1 p2 (F_X6_orderOf_7 a0 p1 p2  nLp5) nLp15 x12 x13 x14 τ15 → 1 ≤ x12.toInt ∧ x12.toInt ≤ 12 → (12) - x12.toInt + 1 < (nLp15 : Int) → zG d L kd A 7 p l e (k2_rm 0 (100 * 0)) s m args below meth c Q τ15 20 [(6, .int x12), (5, .int x13), (4, .int x14), (3, .int x4), (0, .ref a0), (1, .ref p1), (2, .int p2)] [] := by
          intro nLp15
          induction nLp15 with
          | zero => intro τ15 x12 x13 x14 hI hS E  hxLp15 hm ; exact absurd hm (by omega)
          | succ nLp15 ihLp15 =>
            intro τ15 x12 x13 x14 hI hS E  hxLp15 hmLp15 
            rw [F_X6_orderOf_20] at E
            refine zg_iload X 0 rfl dX6_orderOf_20 ?_
            refine zg_aload_n X 4 rfl dX6_orderOf_22 ?_
            refine fg_X6_9 X hI ha0 dX6_orderOf_23 (fun v16 ev16 hv16 => ?_)
            replace E := zLet_s ev16 E
            refine zg_icmp_ge X 94 dX6_orderOf_26 (by decide) (fun c17 => ?_) (fun c17 => ?_)
            · skip
              replace E := zIf_f (Int.not_lt.mpr c17) E
              refine zg_aload_n X 4 rfl dX6_orderOf_94 ?_
              refine fg_X6_28 X hI ha0 dX6_orderOf_95 (fun v18 ev18 hv18 => ?_)
              replace E := zLet_s (zgr ev18) E
              refine zg_aload_n X 4 rfl dX6_orderOf_98 ?_
              refine fg_X6_19 X hI ha0 dX6_orderOf_99 (fun v19 ev19 hv19 => ?_)
              replace E := zLet_s (zgr ev19) E
              refine zg_iload_n X 3 rfl dX6_orderOf_102 ?_
              refine ag_34 X hI hv19 (by omega) (by omega) dX6_orderOf_103 (fun v20 ev20 hv20 => ?_)
              replace E := zLet_s ev20 E
              refine zg_iload X 1 rfl dX6_orderOf_104 ?_
              refine zg_iconst X 1 dX6_orderOf_106 (by decide) (fun v21 _ hv21 => ?_)
              replace E := zLet_s (zcst hv21 (by decide)) E
              refine zg_icmp_ne X 115 dX6_orderOf_107 (by decide) (fun c22 => ?_) (fun c22 => ?_)
              · skip
                replace E := zIf_f c22 E
                refine zg_iload X 2 rfl dX6_orderOf_115 ?_
                refine zg_iconst X 1 dX6_orderOf_117 (by decide) (fun v23 _ hv23 => ?_)
                replace E := zLet_s (zcst hv23 (by decide)) E
                refine zg_iaddW X dX6_orderOf_118 (fun v24 ev24 => ?_)
                replace E := zLet_s ev24 E
                refine as_37 X hI hv18 (by omega) (by omega) dX6_orderOf_119 (fun s25 es25 hI => ?_)
                replace E := zLet_s es25 E
                have hS := hS.i hv18 es25 rfl
                have e26 : v16 = s25.1 a0 0 := by rw [es25]; exact zm_k hv18 ha0 (by decide) ev16
                refine zg_iinc X (-1) (fun v27 => [(3, .int v27), (6, .int x12), (5, .int x13), (4, .int x14), (0, .ref a0), (1, .ref p1), (2, .int p2)]) 3 dX6_orderOf_120 rfl (by decide) (by decide) (by omega) (by omega) (fun _ => rfl) (fun v27 ev27 hv27 => ?_)
                replace E := zLet_s (zinc ev27 (by decide)) E
                refine zg_goto X 7 dX6_orderOf_123 (by decide) ?_
                refine zg_sub [0, 4, 5, 6] rfl ?_
                exact ihLp5 _ v27 hI hS E  (by omega) (by omega) 
              · skip
                replace E := zIf_t c22 E
                refine zg_iload X 2 rfl dX6_orderOf_110 ?_
                refine zg_goto X 119 dX6_orderOf_112 (by decide) ?_
                refine as_37 X hI hv18 (by omega) (by omega) dX6_orderOf_119 (fun s28 es28 hI => ?_)
                replace E := zLet_s es28 E
                have hS := hS.i hv18 es28 rfl
                have e29 : v16 = s28.1 a0 0 := by rw [es28]; exact zm_k hv18 ha0 (by decide) ev16
                refine zg_iinc X (-1) (fun v30 => [(3, .int v30), (6, .int x12), (5, .int x13), (4, .int x14), (0, .ref a0), (1, .ref p1), (2, .int p2)]) 3 dX6_orderOf_120 rfl (by decide) (by decide) (by omega) (by omega) (fun _ => rfl) (fun v30 ev30 hv30 => ?_)
                replace E := zLet_s (zinc ev30 (by decide)) E
                refine zg_goto X 7 dX6_orderOf_123 (by decide) ?_
                refine zg_sub [0, 4, 5, 6] rfl ?_
                exact ihLp5 _ v30 hI hS E  (by omega) (by omega) 
            · skip
              replace E := zIf_t c17 E
              refine zg_aload_n X 5 rfl dX6_orderOf_29 ?_
              refine fg_X6_48 X hI hp1 dX6_orderOf_30 (fun v31 ev31 hv31 => ?_)
              replace E := zLet_s (zgr ev31) E
              refine zg_iload X 0 rfl dX6_orderOf_33 ?_
              refine ag_22 X hI hv31 (by omega) (by omega) dX6_orderOf_35 (fun v32 ev32 hv32 => ?_)
              replace E := zLet_s ev32 E
              refine zg_aload_n X 4 rfl dX6_orderOf_36 ?_
              refine fg_X6_19 X hI ha0 dX6_orderOf_37 (fun v33 ev33 hv33 => ?_)
              replace E := zLet_s (zgr ev33) E
              refine zg_iload_n X 3 rfl dX6_orderOf_40 ?_
              refine ag_34 X hI hv33 (by omega) (by omega) dX6_orderOf_41 (fun v34 ev34 hv34 => ?_)
              replace E := zLet_s ev34 E
              refine zg_icmp_ne X 88 dX6_orderOf_42 (by decide) (fun c35 => ?_) (fun c35 => ?_)
              · skip
                replace E := zIf_f c35 E
                refine zg_iinc X 1 (fun v36 => [(6, .int v36), (5, .int x13), (4, .int x14), (3, .int x4), (0, .ref a0), (1, .ref p1), (2, .int p2)]) 0 dX6_orderOf_88 rfl (by decide) (by decide) (by omega) (by omega) (fun _ => rfl) (fun v36 ev36 hv36 => ?_)
                replace E := zLet_s (zinc ev36 (by decide)) E
                refine zg_goto X 20 dX6_orderOf_91 (by decide) ?_
                refine zg_sub [0, 1, 2, 3, 4, 5, 6] rfl ?_
                exact ihLp15 _ v36 x13 x14 hI hS E  (by omega) (by omega) 
              · skip
                replace E := zIf_t c35 E
                refine zg_aload_n X 4 rfl dX6_orderOf_45 ?_
                refine fg_X6_28 X hI ha0 dX6_orderOf_46 (fun v37 ev37 hv37 => ?_)
                replace E := zLet_s (zgr ev37) E
                refine zg_iload X 0 rfl dX6_orderOf_49 ?_
                refine ag_37 X hI hv37 (by omega) (by omega) dX6_orderOf_51 (fun v38 ev38 _ => ?_)
                replace E := zLet_s ev38 E
                refine zg_iload X 2 rfl dX6_orderOf_52 ?_
                have zv38_z39 := zb_rng v38
                have zx14_z40 := zb_rng x14
                refine zg_icmp_lt X 88 dX6_orderOf_54 (by decide) (fun c41 => ?_) (fun c41 => ?_)
                · skip
                  replace E := zIf_t c41 E
                  refine zg_iinc X 1 (fun v42 => [(6, .int v42), (5, .int x13), (4, .int x14), (3, .int x4), (0, .ref a0), (1, .ref p1), (2, .int p2)]) 0 dX6_orderOf_88 rfl (by decide) (by decide) (by omega) (by omega) (fun _ => rfl) (fun v42 ev42 hv42 => ?_)
                  replace E := zLet_s (zinc ev42 (by decide)) E
                  refine zg_goto X 20 dX6_orderOf_91 (by decide) ?_
                  refine zg_sub [0, 1, 2, 3, 4, 5, 6] rfl ?_
                  exact ihLp15 _ v42 x13 x14 hI hS E  (by omega) (by omega) 
                · skip
                  replace E := zIf_f (Int.not_lt.mpr c41) E
                  refine zg_aload_n X 4 rfl dX6_orderOf_57 ?_
                  refine fg_X6_28 X hI ha0 dX6_orderOf_58 (fun v43 ev43 hv43 => ?_)
                  replace E := zLet_s (zgr ev43) E
                  refine zg_iload X 0 rfl dX6_orderOf_61 ?_
                  refine ag_37 X hI hv43 (by omega) (by omega) dX6_orderOf_63 (fun v44 ev44 _ => ?_)
                  replace E := zLet_s ev44 E
                  refine zg_iload X 2 rfl dX6_orderOf_64 ?_
                  refine zg_icmp_ne X 76 dX6_orderOf_66 (by decide) (fun c45 => ?_) (fun c45 => ?_)
                  · skip
                    replace E := zIf_f c45 E
                    refine zg_iconst X 1 dX6_orderOf_76 (by decide) (fun v46 _ hv46 => ?_)
                    replace E := zLet_s (zcst hv46 (by decide)) E
                    refine zg_istore X [(5, .int v46), (6, .int x12), (4, .int x14), (3, .int x4), (0, .ref a0), (1, .ref p1), (2, .int p2)] dX6_orderOf_77 (by decide) rfl ?_
                    refine zg_aload_n X 4 rfl dX6_orderOf_79 ?_
                    refine fg_X6_28 X hI ha0 dX6_orderOf_80 (fun v47 ev47 hv47 => ?_)
                    replace E := zLet_s (zgr ev47) E
                    refine zg_iload X 1 rfl dX6_orderOf_83 ?_
                    refine ag_37 X hI hv47 (by omega) (by omega) dX6_orderOf_85 (fun v48 ev48 _ => ?_)
                    replace E := zLet_s ev48 E
                    refine zg_istore X [(4, .int v48), (5, .int v46), (6, .int x12), (3, .int x4), (0, .ref a0), (1, .ref p1), (2, .int p2)] dX6_orderOf_86 (by decide) rfl ?_
                    refine zg_iinc X 1 (fun v49 => [(6, .int v49), (4, .int v48), (5, .int v46), (3, .int x4), (0, .ref a0), (1, .ref p1), (2, .int p2)]) 2 dX6_orderOf_88 rfl (by decide) (by decide) (by omega) (by omega) (fun _ => rfl) (fun v49 ev49 hv49 => ?_)
                    replace E := zLet_s (zinc ev49 (by decide)) E
                    refine zg_goto X 20 dX6_orderOf_91 (by decide) ?_
                    refine zg_sub [0, 2, 1, 3, 4, 5, 6] rfl ?_
                    exact ihLp15 _ v49 v46 v48 hI hS E  (by omega) (by omega) 
                  · skip
                    replace E := zIf_t c45 E
                    refine zg_iload X 1 rfl dX6_orderOf_69 ?_
                    refine zg_iconst X 1 dX6_orderOf_71 (by decide) (fun v50 _ hv50 => ?_)
                    replace E := zLet_s (zcst hv50 (by decide)) E
                    refine zg_iaddW X dX6_orderOf_72 (fun v51 ev51 => ?_)
                    replace E := zLet_s ev51 E
                    refine zg_goto X 77 dX6_orderOf_73 (by decide) ?_
                    refine zg_istore X [(5, .int v51), (6, .int x12), (4, .int x14), (3, .int x4), (0, .ref a0), (1, .ref p1), (2, .int p2)] dX6_orderOf_77 (by decide) rfl ?_
                    refine zg_aload_n X 4 rfl dX6_orderOf_79 ?_
                    refine fg_X6_28 X hI ha0 dX6_orderOf_80 (fun v52 ev52 hv52 => ?_)
                    replace E := zLet_s (zgr ev52) E
                    refine zg_iload X 1 rfl dX6_orderOf_83 ?_
                    refine ag_37 X hI hv52 (by omega) (by omega) dX6_orderOf_85 (fun v53 ev53 _ => ?_)
                    replace E := zLet_s ev53 E
                    refine zg_istore X [(4, .int v53), (5, .int v51), (6, .int x12), (3, .int x4), (0, .ref a0), (1, .ref p1), (2, .int p2)] dX6_orderOf_86 (by decide) rfl ?_
                    refine zg_iinc X 1 (fun v54 => [(6, .int v54), (4, .int v53), (5, .int v51), (3, .int x4), (0, .ref a0), (1, .ref p1), (2, .int p2)]) 2 dX6_orderOf_88 rfl (by decide) (by decide) (by omega) (by omega) (fun _ => rfl) (fun v54 ev54 hv54 => ?_)
                    replace E := zLet_s (zinc ev54 (by decide)) E
                    refine zg_goto X 20 dX6_orderOf_91 (by decide) ?_
                    refine zg_sub [0, 2, 1, 3, 4, 5, 6] rfl ?_
                    exact ihLp15 _ v54 v51 v53 hI hS E  (by omega) (by omega) 
        refine zg_sub [0, 1, 2, 3, 4, 5, 6] rfl ?_
        exact Lp15 10000 _ v11 v10 v9 hI hS E  (by omega) (by omega) 
  refine zg_sub [0, 1, 2, 3] rfl ?_
  exact Lp5 10000 _ v3 hI hS E  (by omega) (by omega) 
set_option maxHeartbeats 4000000 in
set_option maxRecDepth 100000 in
theorem t_X6_countAbove (l : Launch) (d : zD2) (L : List Nat) (kd : Nat → Nat) (κ : Int) (b : Nat) (σ : zS) (hI : zI κ b L kd σ) (a0 : Nat) (ha0 : zT L kd a0 6) (p1 : Nat) (hp1 : zT L kd p1 1) : zMv l yX6_countAbove (Cond.code yX6_countAbove cX6_countAbove 4 none :: zWL) 1 [.ref a0, .ref p1] d L kd σ (fun σ2 => σ2 = F_X6_countAbove a0 p1 σ ∧ zSm [36] [] L kd σ σ2 ∧ (zI κ b L kd σ2)) := by
  refine zMv.of (own := RX6) (by decide +kernel) rfl rfl (Nat.le_of_ble_eq_true rfl) ?_
  intro p e s m args below meth c A Q X ret
  refine zg_lv (lv2 := [(0, .ref a0), (1, .ref p1)]) rfl ?_
  obtain ⟨R, hR⟩ : ∃ R, R = F_X6_countAbove a0 p1 σ := ⟨_, rfl⟩
  have E := hR
  unfold F_X6_countAbove at E
  have hS : zSm [36] [] L kd σ σ := zSm.rf
  refine zg_aload_n X 0 rfl dX6_countAbove_0 ?_
  refine fg_X6_25 X hI ha0 dX6_countAbove_1 (fun v1 ev1 hv1 => ?_)
  replace E := zLet_s (zgr ev1) E
  refine zg_iconst X 0 dX6_countAbove_4 (by decide) (fun v2 _ hv2 => ?_)
  replace E := zLet_s (zcst hv2 (by decide)) E
  refine zg_cSv (As := [.ref v1, .int v2]) (st := []) X (t_fill l d L kd κ b _ hI 36 v1 hv1 v2 rfl (fun _ => rfl) (by decide)) mk_X6_57 mc_J7_fill_53178 mz_J7 ms_J7_fill_53178 (na := 2) ⟨md_J7.1, md_J7.2, by decide +kernel⟩ rfl ⟨by decide, by decide⟩ (Nat.le_of_ble_eq_true rfl) dX6_countAbove_5 (fun s3 hq => ?_)
  obtain ⟨hF, hI⟩ := hq
  replace E := zLet_s hF E
  have hS := hS.fil hv1 hF rfl
  refine zg_aload_n X 0 rfl dX6_countAbove_8 ?_
  refine fg_X6_9 X hI ha0 dX6_countAbove_9 (fun v4 ev4 hv4 => ?_)
  replace E := zLet_s ev4 E
  refine zg_iconst X 1 dX6_countAbove_12 (by decide) (fun v5 _ hv5 => ?_)
  replace E := zLet_s (zcst hv5 (by decide)) E
  refine zg_isub X dX6_countAbove_13 (by omega) (by omega) (fun v6 ev6 hv6 => ?_)
  replace E := zLet_s ev6 E
  refine zg_istore_n X [(2, .int v6), (0, .ref a0), (1, .ref p1)] dX6_countAbove_14 (by decide) rfl ?_
  have Lp8 : ∀ (nLp8 : Nat) (τ8 : zS) (x7 : Int32), zI κ b L kd τ8 → zSm [36] [] L kd σ τ8 → R = F_X6_countAbove_15 a0 p1  nLp8 x7 τ8 → (-1) ≤ x7.toInt ∧ x7.toInt ≤ 11 → x7.toInt + 2 < (nLp8 : Int) → zG d L kd A 4 p l e (k2_rm 1 (100 * 1)) s m args below meth c Q τ8 15 [(2, .int x7), (0, .ref a0), (1, .ref p1)] [] := by
    intro nLp8
    induction nLp8 with
    | zero => intro τ8 x7 hI hS E  hxLp8 hm ; exact absurd hm (by omega)
    | succ nLp8 ihLp8 =>
      intro τ8 x7 hI hS E  hxLp8 hmLp8 
      rw [F_X6_countAbove_15] at E
      refine zg_iload_n X 0 rfl dX6_countAbove_15 ?_
      refine zg_if_le X 54 dX6_countAbove_16 (by decide) (fun c9 => ?_) (fun c9 => ?_)
      · skip
        replace E := zIf_f (Int.not_lt.mpr c9) E
        exact ret _ _ _ dX6_countAbove_54 ⟨E.symm.trans hR, hS, hI⟩
      · skip
        replace E := zIf_t c9 E
        refine zg_aload_n X 1 rfl dX6_countAbove_19 ?_
        refine fg_X6_19 X hI ha0 dX6_countAbove_20 (fun v10 ev10 hv10 => ?_)
        replace E := zLet_s (zgr ev10) E
        refine zg_iload_n X 0 rfl dX6_countAbove_23 ?_
        refine ag_34 X hI hv10 (by omega) (by omega) dX6_countAbove_24 (fun v11 ev11 hv11 => ?_)
        replace E := zLet_s ev11 E
        refine zg_istore_n X [(3, .int v11), (2, .int x7), (0, .ref a0), (1, .ref p1)] dX6_countAbove_25 (by decide) rfl ?_
        refine zg_aload_n X 2 rfl dX6_countAbove_26 ?_
        refine fg_X6_25 X hI ha0 dX6_countAbove_27 (fun v12 ev12 hv12 => ?_)
        replace E := zLet_s (zgr ev12) E
        refine zg_aload_n X 3 rfl dX6_countAbove_30 ?_
        refine fg_X6_48 X hI hp1 dX6_countAbove_31 (fun v13 ev13 hv13 => ?_)
        replace E := zLet_s (zgr ev13) E
        refine zg_iload_n X 0 rfl dX6_countAbove_34 ?_
        refine ag_22 X hI hv13 (by omega) (by omega) dX6_countAbove_35 (fun v14 ev14 hv14 => ?_)
        replace E := zLet_s ev14 E
        refine zg_dup2 X dX6_countAbove_36 rfl rfl ?_
        refine ag_36 X hI hv12 (by omega) (by omega) dX6_countAbove_37 (fun v15 ev15 _ => ?_)
        replace E := zLet_s ev15 E
        refine zg_aload_n X 2 rfl dX6_countAbove_38 ?_
        refine fg_X6_25 X hI ha0 dX6_countAbove_39 (fun v16 ev16 hv16 => ?_)
        replace E := zLet_s (zgr ev16) E
        refine zg_iload_n X 0 rfl dX6_countAbove_42 ?_
        refine ag_36 X hI hv16 (by omega) (by omega) dX6_countAbove_43 (fun v17 ev17 _ => ?_)
        replace E := zLet_s ev17 E
        refine zg_iconst X 1 dX6_countAbove_44 (by decide) (fun v18 _ hv18 => ?_)
        replace E := zLet_s (zcst hv18 (by decide)) E
        refine zg_iaddW X dX6_countAbove_45 (fun v19 ev19 => ?_)
        replace E := zLet_s ev19 E
        refine zg_iaddW X dX6_countAbove_46 (fun v20 ev20 => ?_)
        replace E := zLet_s ev20 E
        refine as_36 X hI hv12 (by omega) (by omega) dX6_countAbove_47 (fun s21 es21 hI => ?_)
        replace E := zLet_s es21 E
        have hS := hS.i hv12 es21 rfl
        refine zg_iinc X (-1) (fun v22 => [(2, .int v22), (3, .int v11), (0, .ref a0), (1, .ref p1)]) 1 dX6_countAbove_48 rfl (by decide) (by decide) (by omega) (by omega) (fun _ => rfl) (fun v22 ev22 hv22 => ?_)
        replace E := zLet_s (zinc ev22 (by decide)) E
        refine zg_goto X 15 dX6_countAbove_51 (by decide) ?_
        refine zg_sub [0, 2, 3] rfl ?_
        exact ihLp8 _ v22 hI hS E  (by omega) (by omega) 
  refine zg_sub [0, 1, 2] rfl ?_
  exact Lp8 10000 _ v6 hI hS E  (by omega) (by omega) 
set_option maxHeartbeats 4000000 in
set_option maxRecDepth 100000 in
theorem t_X6_form (l : Launch) (d : zD2) (L : List Nat) (kd : Nat → Nat) (κ : Int) (b : Nat) (σ : zS) (hI : zI κ b L kd σ) (a0 : Nat) (ha0 : zT L kd a0 6) (p1 : Nat) (hp1 : zT L kd p1 9) (p2 : Nat) (hp2 : zT L kd p2 1) : zMv l yX6_form (Cond.code yX6_form cX6_form 7 none :: zWL) 2 [.ref a0, .ref p1, .ref p2] d L kd σ (fun σ2 => σ2 = F_X6_form a0 p1 p2 σ ∧ zSm [6, 33, 34, 35, 36, 38] [] L kd σ σ2 ∧ (zI κ b L kd σ2)) := by
  refine zMv.of (own := RX6) (by decide +kernel) rfl rfl (Nat.le_of_ble_eq_true rfl) ?_
  intro p e s m args below meth c A Q X ret
  refine zg_lv (lv2 := [(0, .ref a0), (1, .ref p1), (2, .ref p2)]) rfl ?_
  obtain ⟨R, hR⟩ : ∃ R, R = F_X6_form a0 p1 p2 σ := ⟨_, rfl⟩
  have E := hR
  unfold F_X6_form at E
  have hS : zSm [6, 33, 34, 35, 36, 38] [] L kd σ σ := zSm.rf
  refine zg_aload_n X 0 rfl dX6_form_0 ?_
  refine zg_aload_n X 1 rfl dX6_form_1 ?_
  refine fg_X6_34 X hI hp1 dX6_form_2 (fun v1 ev1 hv1 => ?_)
  replace E := zLet_s ev1 E
  refine fp_X6_9 X hI ha0 ⟨by omega, by omega⟩ dX6_form_5 (fun s2 es2 hI => ?_)
  replace E := zLet_s es2 E
  have hS := hS.i ha0 es2 rfl
  have e3 : v1 = s2.1 a0 0 := by rw [es2]; exact zm_s
  refine zg_aload_n X 1 rfl dX6_form_8 ?_
  refine fg_X6_37 X hI hp1 dX6_form_9 (fun v4 ev4 hv4 => ?_)
  replace E := zLet_s (zgr ev4) E
  refine zg_iconst X 0 dX6_form_12 (by decide) (fun v5 _ hv5 => ?_)
  replace E := zLet_s (zcst hv5 (by decide)) E
  refine zg_aload_n X 0 rfl dX6_form_13 ?_
  refine fg_X6_15 X hI ha0 dX6_form_14 (fun v6 ev6 hv6 => ?_)
  replace E := zLet_s (zgr ev6) E
  refine zg_iconst X 0 dX6_form_17 (by decide) (fun v7 _ hv7 => ?_)
  replace E := zLet_s (zcst hv7 (by decide)) E
  refine zg_bipush X 12 dX6_form_18 (by decide) (fun v8 _ hv8 => ?_)
  replace E := zLet_s (zcst hv8 (by decide)) E
  refine zg_copy (k := 46) (k2 := 33) (n := 12) X wj_X6_38 hI hv4 hv6 rfl rfl (lo := (-2147483648)) (hi := 2147483647) (fun _ => rfl) (by decide) (by decide) (fun j h1 h2 => h1 ) (by omega) (by omega) (by omega) ⟨by decide, Nat.le_of_ble_eq_true rfl⟩ dX6_form_20 (fun s9 es9 hI => ?_)
  replace E := zLet_s es9 E
  have hS := hS.c hv6 es9 rfl
  refine zg_aload_n X 0 rfl dX6_form_23 ?_
  refine fg_X6_9 X hI ha0 dX6_form_24 (fun v10 ev10 hv10 => ?_)
  replace E := zLet_s ev10 E
  refine zg_if_le X 34 dX6_form_27 (by decide) (fun c11 => ?_) (fun c11 => ?_)
  · skip
    replace E := zIf_f (Int.not_lt.mpr c11) E
    refine zg_iconst X 0 dX6_form_34 (by decide) (fun v12 _ hv12 => ?_)
    replace E := zLet_s (zcst hv12 (by decide)) E
    refine zg_istore_n X [(3, .int v12), (0, .ref a0), (1, .ref p1), (2, .ref p2)] dX6_form_35 (by decide) rfl ?_
    refine zg_aload_n X 1 rfl dX6_form_36 ?_
    refine fg_X6_19 X hI ha0 dX6_form_37 (fun v13 ev13 hv13 => ?_)
    replace E := zLet_s (zgr ev13) E
    refine zg_iconst X 0 dX6_form_40 (by decide) (fun v14 _ hv14 => ?_)
    replace E := zLet_s (zcst hv14 (by decide)) E
    refine zg_iconst X 0 dX6_form_41 (by decide) (fun v15 _ hv15 => ?_)
    replace E := zLet_s (zcst hv15 (by decide)) E
    refine as_34 X hI hv13 (by omega) (by omega) ⟨by omega, by omega⟩ dX6_form_42 (fun s16 es16 hI => ?_)
    replace E := zLet_s es16 E
    have hS := hS.i hv13 es16 rfl
    have e17 : v10 = s16.1 a0 0 := by rw [es16]; exact zm_k hv13 ha0 (by decide) ev10
    refine zg_aload_n X 1 rfl dX6_form_43 ?_
    refine fg_X6_22 X hI ha0 dX6_form_44 (fun v18 ev18 hv18 => ?_)
    replace E := zLet_s (zgr ev18) E
    refine zg_iconst X 0 dX6_form_47 (by decide) (fun v19 _ hv19 => ?_)
    replace E := zLet_s (zcst hv19 (by decide)) E
    refine zg_iconst X 0 dX6_form_48 (by decide) (fun v20 _ hv20 => ?_)
    replace E := zLet_s (zcst hv20 (by decide)) E
    refine as_35 X hI hv18 (by omega) (by omega) dX6_form_49 (fun s21 es21 hI => ?_)
    replace E := zLet_s es21 E
    have hS := hS.i hv18 es21 rfl
    have e22 : v10 = s21.1 a0 0 := by rw [es21]; exact zm_k hv18 ha0 (by decide) e17
    refine zg_aload_n X 1 rfl dX6_form_50 ?_
    refine fg_X6_31 X hI ha0 dX6_form_51 (fun v23 ev23 hv23 => ?_)
    replace E := zLet_s (zgr ev23) E
    refine zg_iconst X 0 dX6_form_54 (by decide) (fun v24 _ hv24 => ?_)
    replace E := zLet_s (zcst hv24 (by decide)) E
    refine zg_iconst X 0 dX6_form_55 (by decide) (fun v25 _ hv25 => ?_)
    replace E := zLet_s (zcst hv25 (by decide)) E
    refine zg_cSNi (As := [.int v25]) (st := [.int v24, .ref v23]) X (t_X10_bit l d L kd _ v25 ) mk_X6_44 mc_X10_bit mz_X10 ms_X10_bit (na := 1) ⟨md_X10.1, md_X10.2, by decide +kernel⟩ rfl ⟨by decide, by decide⟩ (Nat.le_of_ble_eq_true rfl) dX6_form_56 (fun v26 σ2 hq => ?_)
    obtain ⟨⟨hF, hv26⟩, rfl⟩ := hq
    replace E := zLet_s hF E
    refine as_38 X hI hv23 (by omega) (by omega) dX6_form_59 (fun s27 es27 hI => ?_)
    replace E := zLet_s es27 E
    have hS := hS.i hv23 es27 rfl
    have e28 : v10 = s27.1 a0 0 := by rw [es27]; exact zm_k hv23 ha0 (by decide) e22
    refine zg_iconst X 0 dX6_form_60 (by decide) (fun v29 _ hv29 => ?_)
    replace E := zLet_s (zcst hv29 (by decide)) E
    refine zg_istore X [(4, .int v29), (3, .int v12), (0, .ref a0), (1, .ref p1), (2, .ref p2)] dX6_form_61 (by decide) rfl ?_
    have Lp32 : ∀ (nLp32 : Nat) (τ32 : zS) (x30 : Int32) (x31 : Int32), zI κ b L kd τ32 → zSm [6, 33, 34, 35, 36, 38] [] L kd σ τ32 → R = F_X6_form_63 a0 p1 p2  nLp32 x30 x31 τ32 → 0 ≤ x31.toInt ∧ x31.toInt ≤ 12 ∧ 0 ≤ x30.toInt ∧ x30.toInt ≤ 12 → (12) - x30.toInt + 1 < (nLp32 : Int) → zG d L kd A 7 p l e (k2_rm 2 (100 * 2)) s m args below meth c Q τ32 63 [(4, .int x30), (3, .int x31), (0, .ref a0), (1, .ref p1), (2, .ref p2)] [] := by
      intro nLp32
      induction nLp32 with
      | zero => intro τ32 x30 x31 hI hS E  hxLp32 hm ; exact absurd hm (by omega)
      | succ nLp32 ihLp32 =>
        intro τ32 x30 x31 hI hS E  hxLp32 hmLp32 
        rw [F_X6_form_63] at E
        refine zg_iload X 0 rfl dX6_form_63 ?_
        refine zg_iload_n X 1 rfl dX6_form_65 ?_
        refine zg_icmp_ge X 175 dX6_form_66 (by decide) (fun c33 => ?_) (fun c33 => ?_)
        · skip
          replace E := zIf_f (Int.not_lt.mpr c33) E
          refine zg_aload_n X 2 rfl dX6_form_175 ?_
          refine zg_aload_n X 4 rfl dX6_form_176 ?_
          refine zg_cVv (As := [.ref p2]) (st := []) X ha0 rfl (by decide) rfl (t_X6_countAbove l d L kd κ b _ hI a0 ha0 p2 hp2 ) mk_X6_53 mc_X6_countAbove mz_X6 mi_X6_countAbove ml_X6_countAbove (na := 1) ⟨md_X6.1, md_X6.2, by decide +kernel⟩ rfl ⟨by decide, by decide⟩ (Nat.le_of_ble_eq_true rfl) dX6_form_177 (fun s34 hq => ?_)
          obtain ⟨hF, hS2, hI⟩ := hq
          replace E := zLet_s hF E
          have hS := hS.tr hS2 rfl rfl
          exact ret _ _ _ dX6_form_180 ⟨E.symm.trans hR, hS, hI⟩
        · skip
          replace E := zIf_t c33 E
          refine zg_aload_n X 2 rfl dX6_form_69 ?_
          refine fg_X6_19 X hI ha0 dX6_form_70 (fun v35 ev35 hv35 => ?_)
          replace E := zLet_s (zgr ev35) E
          refine zg_iload X 0 rfl dX6_form_73 ?_
          refine ag_34 X hI hv35 (by omega) (by omega) dX6_form_75 (fun v36 ev36 hv36 => ?_)
          replace E := zLet_s ev36 E
          refine zg_istore X [(5, .int v36), (4, .int x30), (3, .int x31), (0, .ref a0), (1, .ref p1), (2, .ref p2)] dX6_form_76 (by decide) rfl ?_
          refine zg_iconst X 1 dX6_form_78 (by decide) (fun v37 _ hv37 => ?_)
          replace E := zLet_s (zcst hv37 (by decide)) E
          refine zg_istore X [(6, .int v37), (5, .int v36), (4, .int x30), (3, .int x31), (0, .ref a0), (1, .ref p1), (2, .ref p2)] dX6_form_79 (by decide) rfl ?_
          have Lp40 : ∀ (nLp40 : Nat) (τ40 : zS) (x38 : Int32) (x39 : Int32), zI κ b L kd τ40 → zSm [6, 33, 34, 35, 36, 38] [] L kd σ τ40 → R = F_X6_form_81 v36 x30 a0 p1 p2 (F_X6_form_63 a0 p1 p2  nLp32) nLp40 x38 x39 τ40 → 0 ≤ x39.toInt ∧ x39.toInt ≤ 12 ∧ 1 ≤ x38.toInt ∧ x38.toInt ≤ 12 → (12) - x38.toInt + 1 < (nLp40 : Int) → zG d L kd A 7 p l e (k2_rm 2 (100 * 2)) s m args below meth c Q τ40 81 [(6, .int x38), (5, .int v36), (4, .int x30), (3, .int x39), (0, .ref a0), (1, .ref p1), (2, .ref p2)] [] := by
            intro nLp40
            induction nLp40 with
            | zero => intro τ40 x38 x39 hI hS E  hxLp40 hm ; exact absurd hm (by omega)
            | succ nLp40 ihLp40 =>
              intro τ40 x38 x39 hI hS E  hxLp40 hmLp40 
              rw [F_X6_form_81] at E
              refine zg_iload X 0 rfl dX6_form_81 ?_
              refine zg_aload_n X 4 rfl dX6_form_83 ?_
              refine fg_X6_9 X hI ha0 dX6_form_84 (fun v41 ev41 hv41 => ?_)
              replace E := zLet_s ev41 E
              refine zg_icmp_ge X 169 dX6_form_87 (by decide) (fun c42 => ?_) (fun c42 => ?_)
              · skip
                replace E := zIf_f (Int.not_lt.mpr c42) E
                refine zg_iinc X 1 (fun v43 => [(4, .int v43), (6, .int x38), (5, .int v36), (3, .int x39), (0, .ref a0), (1, .ref p1), (2, .ref p2)]) 2 dX6_form_169 rfl (by decide) (by decide) (by omega) (by omega) (fun _ => rfl) (fun v43 ev43 hv43 => ?_)
                replace E := zLet_s (zinc ev43 (by decide)) E
                refine zg_goto X 63 dX6_form_172 (by decide) ?_
                refine zg_sub [0, 3, 4, 5, 6] rfl ?_
                exact ihLp32 _ v43 x39 hI hS E  (by omega) (by omega) 
              · skip
                replace E := zIf_t c42 E
                refine zg_iload_n X 3 rfl dX6_form_90 ?_
                refine zg_aload_n X 4 rfl dX6_form_91 ?_
                refine fg_X6_9 X hI ha0 dX6_form_92 (fun v44 ev44 hv44 => ?_)
                replace E := zLet_s ev44 E
                have mv44 : v44.toInt = v41.toInt := by rw [ev44, ← ev41]
                refine zg_icmp_ge X 169 dX6_form_95 (by decide) (fun c45 => ?_) (fun c45 => ?_)
                · skip
                  replace E := zIf_f (Int.not_lt.mpr c45) E
                  refine zg_iinc X 1 (fun v46 => [(4, .int v46), (6, .int x38), (5, .int v36), (3, .int x39), (0, .ref a0), (1, .ref p1), (2, .ref p2)]) 2 dX6_form_169 rfl (by decide) (by decide) (by omega) (by omega) (fun _ => rfl) (fun v46 ev46 hv46 => ?_)
                  replace E := zLet_s (zinc ev46 (by decide)) E
                  refine zg_goto X 63 dX6_form_172 (by decide) ?_
                  refine zg_sub [0, 3, 4, 5, 6] rfl ?_
                  exact ihLp32 _ v46 x39 hI hS E  (by omega) (by omega) 
                · skip
                  replace E := zIf_t c45 E
                  refine zg_aload_n X 6 rfl dX6_form_98 ?_
                  refine fg_X6_48 X hI hp2 dX6_form_99 (fun v47 ev47 hv47 => ?_)
                  replace E := zLet_s (zgr ev47) E
                  refine zg_iload X 0 rfl dX6_form_102 ?_
                  refine ag_22 X hI hv47 (by omega) (by omega) dX6_form_104 (fun v48 ev48 hv48 => ?_)
                  replace E := zLet_s ev48 E
                  refine zg_iload X 1 rfl dX6_form_105 ?_
                  refine zg_icmp_ne X 163 dX6_form_107 (by decide) (fun c49 => ?_) (fun c49 => ?_)
                  · skip
                    replace E := zIf_f c49 E
                    refine zg_iinc X 1 (fun v50 => [(6, .int v50), (5, .int v36), (4, .int x30), (3, .int x39), (0, .ref a0), (1, .ref p1), (2, .ref p2)]) 0 dX6_form_163 rfl (by decide) (by decide) (by omega) (by omega) (fun _ => rfl) (fun v50 ev50 hv50 => ?_)
                    replace E := zLet_s (zinc ev50 (by decide)) E
                    refine zg_goto X 81 dX6_form_166 (by decide) ?_
                    refine zg_sub [0, 1, 2, 3, 4, 5, 6] rfl ?_
                    exact ihLp40 _ v50 x39 hI hS E  (by omega) (by omega) 
                  · skip
                    replace E := zIf_t c49 E
                    refine zg_aload_n X 4 rfl dX6_form_110 ?_
                    refine fg_X6_22 X hI ha0 dX6_form_111 (fun v51 ev51 hv51 => ?_)
                    replace E := zLet_s (zgr ev51) E
                    refine zg_iload X 0 rfl dX6_form_114 ?_
                    refine zg_aload_n X 4 rfl dX6_form_116 ?_
                    refine fg_X6_22 X hI ha0 dX6_form_117 (fun v52 ev52 hv52 => ?_)
                    replace E := zLet_s (zgr ev52) E
                    refine zg_iload X 1 rfl dX6_form_120 ?_
                    refine ag_35 X hI hv52 (by omega) (by omega) dX6_form_122 (fun v53 ev53 _ => ?_)
                    replace E := zLet_s ev53 E
                    refine zg_aload_n X 4 rfl dX6_form_123 ?_
                    refine fg_X6_15 X hI ha0 dX6_form_124 (fun v54 ev54 hv54 => ?_)
                    replace E := zLet_s (zgr ev54) E
                    refine zg_iload X 0 rfl dX6_form_127 ?_
                    refine ag_33 X hI hv54 (by omega) (by omega) dX6_form_129 (fun v55 ev55 _ => ?_)
                    replace E := zLet_s ev55 E
                    refine zg_iaddW X dX6_form_130 (fun v56 ev56 => ?_)
                    replace E := zLet_s ev56 E
                    refine as_35 X hI hv51 (by omega) (by omega) dX6_form_131 (fun s57 es57 hI => ?_)
                    replace E := zLet_s es57 E
                    have hS := hS.i hv51 es57 rfl
                    have e58 : v44 = s57.1 a0 0 := by rw [es57]; exact zm_k hv51 ha0 (by decide) ev44
                    refine zg_aload_n X 4 rfl dX6_form_132 ?_
                    refine fg_X6_31 X hI ha0 dX6_form_133 (fun v59 ev59 hv59 => ?_)
                    replace E := zLet_s (zgr ev59) E
                    refine zg_iload X 0 rfl dX6_form_136 ?_
                    refine zg_aload_n X 4 rfl dX6_form_138 ?_
                    refine fg_X6_31 X hI ha0 dX6_form_139 (fun v60 ev60 hv60 => ?_)
                    replace E := zLet_s (zgr ev60) E
                    refine zg_iload X 1 rfl dX6_form_142 ?_
                    refine ag_38 X hI hv60 (by omega) (by omega) dX6_form_144 (fun v61 ev61 _ => ?_)
                    replace E := zLet_s ev61 E
                    refine zg_iload X 0 rfl dX6_form_145 ?_
                    refine zg_cSNi (As := [.int x38]) (st := [.int v61, .int x38, .ref v59]) X (t_X10_bit l d L kd _ x38 ) mk_X6_44 mc_X10_bit mz_X10 ms_X10_bit (na := 1) ⟨md_X10.1, md_X10.2, by decide +kernel⟩ rfl ⟨by decide, by decide⟩ (Nat.le_of_ble_eq_true rfl) dX6_form_147 (fun v62 σ2 hq => ?_)
                    obtain ⟨⟨hF, hv62⟩, rfl⟩ := hq
                    replace E := zLet_s hF E
                    refine zg_iorW X dX6_form_150 (fun v63 ev63 => ?_)
                    replace E := zLet_s ev63 E
                    refine as_38 X hI hv59 (by omega) (by omega) dX6_form_151 (fun s64 es64 hI => ?_)
                    replace E := zLet_s es64 E
                    have hS := hS.i hv59 es64 rfl
                    have e65 : v44 = s64.1 a0 0 := by rw [es64]; exact zm_k hv59 ha0 (by decide) e58
                    refine zg_aload_n X 4 rfl dX6_form_152 ?_
                    refine fg_X6_19 X hI ha0 dX6_form_153 (fun v66 ev66 hv66 => ?_)
                    replace E := zLet_s (zgr ev66) E
                    refine zg_iload_n X 3 rfl dX6_form_156 ?_
                    refine zg_iload X 0 rfl dX6_form_157 ?_
                    refine as_34 X hI hv66 (by omega) (by omega) ⟨by omega, by omega⟩ dX6_form_159 (fun s67 es67 hI => ?_)
                    replace E := zLet_s es67 E
                    have hS := hS.i hv66 es67 rfl
                    have e68 : v44 = s67.1 a0 0 := by rw [es67]; exact zm_k hv66 ha0 (by decide) e65
                    refine zg_iinc X 1 (fun v69 => [(3, .int v69), (6, .int x38), (5, .int v36), (4, .int x30), (0, .ref a0), (1, .ref p1), (2, .ref p2)]) 3 dX6_form_160 rfl (by decide) (by decide) (by omega) (by omega) (fun _ => rfl) (fun v69 ev69 hv69 => ?_)
                    replace E := zLet_s (zinc ev69 (by decide)) E
                    refine zg_iinc X 1 (fun v70 => [(6, .int v70), (3, .int v69), (5, .int v36), (4, .int x30), (0, .ref a0), (1, .ref p1), (2, .ref p2)]) 1 dX6_form_163 rfl (by decide) (by decide) (by omega) (by omega) (fun _ => rfl) (fun v70 ev70 hv70 => ?_)
                    replace E := zLet_s (zinc ev70 (by decide)) E
                    refine zg_goto X 81 dX6_form_166 (by decide) ?_
                    refine zg_sub [0, 2, 3, 1, 4, 5, 6] rfl ?_
                    exact ihLp40 _ v70 v69 hI hS E  (by omega) (by omega) 
          refine zg_sub [0, 1, 2, 3, 4, 5, 6] rfl ?_
          exact Lp40 10000 _ v37 x31 hI hS E  (by omega) (by omega) 
    refine zg_sub [0, 1, 2, 3, 4] rfl ?_
    exact Lp32 10000 _ v29 v12 hI hS E  (by omega) (by omega) 
  · skip
    replace E := zIf_t c11 E
    refine zg_iconst X 1 dX6_form_30 (by decide) (fun v71 _ hv71 => ?_)
    replace E := zLet_s (zcst hv71 (by decide)) E
    refine zg_goto X 35 dX6_form_31 (by decide) ?_
    refine zg_istore_n X [(3, .int v71), (0, .ref a0), (1, .ref p1), (2, .ref p2)] dX6_form_35 (by decide) rfl ?_
    refine zg_aload_n X 1 rfl dX6_form_36 ?_
    refine fg_X6_19 X hI ha0 dX6_form_37 (fun v72 ev72 hv72 => ?_)
    replace E := zLet_s (zgr ev72) E
    refine zg_iconst X 0 dX6_form_40 (by decide) (fun v73 _ hv73 => ?_)
    replace E := zLet_s (zcst hv73 (by decide)) E
    refine zg_iconst X 0 dX6_form_41 (by decide) (fun v74 _ hv74 => ?_)
    replace E := zLet_s (zcst hv74 (by decide)) E
    refine as_34 X hI hv72 (by omega) (by omega) ⟨by omega, by omega⟩ dX6_form_42 (fun s75 es75 hI => ?_)
    replace E := zLet_s es75 E
    have hS := hS.i hv72 es75 rfl
    have e76 : v10 = s75.1 a0 0 := by rw [es75]; exact zm_k hv72 ha0 (by decide) ev10
    refine zg_aload_n X 1 rfl dX6_form_43 ?_
    refine fg_X6_22 X hI ha0 dX6_form_44 (fun v77 ev77 hv77 => ?_)
    replace E := zLet_s (zgr ev77) E
    refine zg_iconst X 0 dX6_form_47 (by decide) (fun v78 _ hv78 => ?_)
    replace E := zLet_s (zcst hv78 (by decide)) E
    refine zg_iconst X 0 dX6_form_48 (by decide) (fun v79 _ hv79 => ?_)
    replace E := zLet_s (zcst hv79 (by decide)) E
    refine as_35 X hI hv77 (by omega) (by omega) dX6_form_49 (fun s80 es80 hI => ?_)
    replace E := zLet_s es80 E
    have hS := hS.i hv77 es80 rfl
    have e81 : v10 = s80.1 a0 0 := by rw [es80]; exact zm_k hv77 ha0 (by decide) e76
    refine zg_aload_n X 1 rfl dX6_form_50 ?_
    refine fg_X6_31 X hI ha0 dX6_form_51 (fun v82 ev82 hv82 => ?_)
    replace E := zLet_s (zgr ev82) E
    refine zg_iconst X 0 dX6_form_54 (by decide) (fun v83 _ hv83 => ?_)
    replace E := zLet_s (zcst hv83 (by decide)) E
    refine zg_iconst X 0 dX6_form_55 (by decide) (fun v84 _ hv84 => ?_)
    replace E := zLet_s (zcst hv84 (by decide)) E
    refine zg_cSNi (As := [.int v84]) (st := [.int v83, .ref v82]) X (t_X10_bit l d L kd _ v84 ) mk_X6_44 mc_X10_bit mz_X10 ms_X10_bit (na := 1) ⟨md_X10.1, md_X10.2, by decide +kernel⟩ rfl ⟨by decide, by decide⟩ (Nat.le_of_ble_eq_true rfl) dX6_form_56 (fun v85 σ2 hq => ?_)
    obtain ⟨⟨hF, hv85⟩, rfl⟩ := hq
    replace E := zLet_s hF E
    refine as_38 X hI hv82 (by omega) (by omega) dX6_form_59 (fun s86 es86 hI => ?_)
    replace E := zLet_s es86 E
    have hS := hS.i hv82 es86 rfl
    have e87 : v10 = s86.1 a0 0 := by rw [es86]; exact zm_k hv82 ha0 (by decide) e81
    refine zg_iconst X 0 dX6_form_60 (by decide) (fun v88 _ hv88 => ?_)
    replace E := zLet_s (zcst hv88 (by decide)) E
    refine zg_istore X [(4, .int v88), (3, .int v71), (0, .ref a0), (1, .ref p1), (2, .ref p2)] dX6_form_61 (by decide) rfl ?_
    have Lp91 : ∀ (nLp91 : Nat) (τ91 : zS) (x89 : Int32) (x90 : Int32), zI κ b L kd τ91 → zSm [6, 33, 34, 35, 36, 38] [] L kd σ τ91 → R = F_X6_form_63_1 a0 p1 p2  nLp91 x89 x90 τ91 → 0 ≤ x90.toInt ∧ x90.toInt ≤ 12 ∧ 0 ≤ x89.toInt ∧ x89.toInt ≤ 12 → (12) - x89.toInt + 1 < (nLp91 : Int) → zG d L kd A 7 p l e (k2_rm 2 (100 * 2)) s m args below meth c Q τ91 63 [(4, .int x89), (3, .int x90), (0, .ref a0), (1, .ref p1), (2, .ref p2)] [] := by
      intro nLp91
      induction nLp91 with
      | zero => intro τ91 x89 x90 hI hS E  hxLp91 hm ; exact absurd hm (by omega)
      | succ nLp91 ihLp91 =>
        intro τ91 x89 x90 hI hS E  hxLp91 hmLp91 
        rw [F_X6_form_63_1] at E
        refine zg_iload X 0 rfl dX6_form_63 ?_
        refine zg_iload_n X 1 rfl dX6_form_65 ?_
        refine zg_icmp_ge X 175 dX6_form_66 (by decide) (fun c92 => ?_) (fun c92 => ?_)
        · skip
          replace E := zIf_f (Int.not_lt.mpr c92) E
          refine zg_aload_n X 2 rfl dX6_form_175 ?_
          refine zg_aload_n X 4 rfl dX6_form_176 ?_
          refine zg_cVv (As := [.ref p2]) (st := []) X ha0 rfl (by decide) rfl (t_X6_countAbove l d L kd κ b _ hI a0 ha0 p2 hp2 ) mk_X6_53 mc_X6_countAbove mz_X6 mi_X6_countAbove ml_X6_countAbove (na := 1) ⟨md_X6.1, md_X6.2, by decide +kernel⟩ rfl ⟨by decide, by decide⟩ (Nat.le_of_ble_eq_true rfl) dX6_form_177 (fun s93 hq => ?_)
          obtain ⟨hF, hS2, hI⟩ := hq
          replace E := zLet_s hF E
          have hS := hS.tr hS2 rfl rfl
          exact ret _ _ _ dX6_form_180 ⟨E.symm.trans hR, hS, hI⟩
        · skip
          replace E := zIf_t c92 E
          refine zg_aload_n X 2 rfl dX6_form_69 ?_
          refine fg_X6_19 X hI ha0 dX6_form_70 (fun v94 ev94 hv94 => ?_)
          replace E := zLet_s (zgr ev94) E
          refine zg_iload X 0 rfl dX6_form_73 ?_
          refine ag_34 X hI hv94 (by omega) (by omega) dX6_form_75 (fun v95 ev95 hv95 => ?_)
          replace E := zLet_s ev95 E
          refine zg_istore X [(5, .int v95), (4, .int x89), (3, .int x90), (0, .ref a0), (1, .ref p1), (2, .ref p2)] dX6_form_76 (by decide) rfl ?_
          refine zg_iconst X 1 dX6_form_78 (by decide) (fun v96 _ hv96 => ?_)
          replace E := zLet_s (zcst hv96 (by decide)) E
          refine zg_istore X [(6, .int v96), (5, .int v95), (4, .int x89), (3, .int x90), (0, .ref a0), (1, .ref p1), (2, .ref p2)] dX6_form_79 (by decide) rfl ?_
          have Lp99 : ∀ (nLp99 : Nat) (τ99 : zS) (x97 : Int32) (x98 : Int32), zI κ b L kd τ99 → zSm [6, 33, 34, 35, 36, 38] [] L kd σ τ99 → R = F_X6_form_81_1 v95 x89 a0 p1 p2 (F_X6_form_63_1 a0 p1 p2  nLp91) nLp99 x97 x98 τ99 → 0 ≤ x98.toInt ∧ x98.toInt ≤ 12 ∧ 1 ≤ x97.toInt ∧ x97.toInt ≤ 12 → (12) - x97.toInt + 1 < (nLp99 : Int) → zG d L kd A 7 p l e (k2_rm 2 (100 * 2)) s m args below meth c Q τ99 81 [(6, .int x97), (5, .int v95), (4, .int x89), (3, .int x98), (0, .ref a0), (1, .ref p1), (2, .ref p2)] [] := by
            intro nLp99
            induction nLp99 with
            | zero => intro τ99 x97 x98 hI hS E  hxLp99 hm ; exact absurd hm (by omega)
            | succ nLp99 ihLp99 =>
              intro τ99 x97 x98 hI hS E  hxLp99 hmLp99 
              rw [F_X6_form_81_1] at E
              refine zg_iload X 0 rfl dX6_form_81 ?_
              refine zg_aload_n X 4 rfl dX6_form_83 ?_
              refine fg_X6_9 X hI ha0 dX6_form_84 (fun v100 ev100 hv100 => ?_)
              replace E := zLet_s ev100 E
              refine zg_icmp_ge X 169 dX6_form_87 (by decide) (fun c101 => ?_) (fun c101 => ?_)
              · skip
                replace E := zIf_f (Int.not_lt.mpr c101) E
                refine zg_iinc X 1 (fun v102 => [(4, .int v102), (6, .int x97), (5, .int v95), (3, .int x98), (0, .ref a0), (1, .ref p1), (2, .ref p2)]) 2 dX6_form_169 rfl (by decide) (by decide) (by omega) (by omega) (fun _ => rfl) (fun v102 ev102 hv102 => ?_)
                replace E := zLet_s (zinc ev102 (by decide)) E
                refine zg_goto X 63 dX6_form_172 (by decide) ?_
                refine zg_sub [0, 3, 4, 5, 6] rfl ?_
                exact ihLp91 _ v102 x98 hI hS E  (by omega) (by omega) 
              · skip
                replace E := zIf_t c101 E
                refine zg_iload_n X 3 rfl dX6_form_90 ?_
                refine zg_aload_n X 4 rfl dX6_form_91 ?_
                refine fg_X6_9 X hI ha0 dX6_form_92 (fun v103 ev103 hv103 => ?_)
                replace E := zLet_s ev103 E
                have mv103 : v103.toInt = v100.toInt := by rw [ev103, ← ev100]
                refine zg_icmp_ge X 169 dX6_form_95 (by decide) (fun c104 => ?_) (fun c104 => ?_)
                · skip
                  replace E := zIf_f (Int.not_lt.mpr c104) E
                  refine zg_iinc X 1 (fun v105 => [(4, .int v105), (6, .int x97), (5, .int v95), (3, .int x98), (0, .ref a0), (1, .ref p1), (2, .ref p2)]) 2 dX6_form_169 rfl (by decide) (by decide) (by omega) (by omega) (fun _ => rfl) (fun v105 ev105 hv105 => ?_)
                  replace E := zLet_s (zinc ev105 (by decide)) E
                  refine zg_goto X 63 dX6_form_172 (by decide) ?_
                  refine zg_sub [0, 3, 4, 5, 6] rfl ?_
                  exact ihLp91 _ v105 x98 hI hS E  (by omega) (by omega) 
                · skip
                  replace E := zIf_t c104 E
                  refine zg_aload_n X 6 rfl dX6_form_98 ?_
                  refine fg_X6_48 X hI hp2 dX6_form_99 (fun v106 ev106 hv106 => ?_)
                  replace E := zLet_s (zgr ev106) E
                  refine zg_iload X 0 rfl dX6_form_102 ?_
                  refine ag_22 X hI hv106 (by omega) (by omega) dX6_form_104 (fun v107 ev107 hv107 => ?_)
                  replace E := zLet_s ev107 E
                  refine zg_iload X 1 rfl dX6_form_105 ?_
                  refine zg_icmp_ne X 163 dX6_form_107 (by decide) (fun c108 => ?_) (fun c108 => ?_)
                  · skip
                    replace E := zIf_f c108 E
                    refine zg_iinc X 1 (fun v109 => [(6, .int v109), (5, .int v95), (4, .int x89), (3, .int x98), (0, .ref a0), (1, .ref p1), (2, .ref p2)]) 0 dX6_form_163 rfl (by decide) (by decide) (by omega) (by omega) (fun _ => rfl) (fun v109 ev109 hv109 => ?_)
                    replace E := zLet_s (zinc ev109 (by decide)) E
                    refine zg_goto X 81 dX6_form_166 (by decide) ?_
                    refine zg_sub [0, 1, 2, 3, 4, 5, 6] rfl ?_
                    exact ihLp99 _ v109 x98 hI hS E  (by omega) (by omega) 
                  · skip
                    replace E := zIf_t c108 E
                    refine zg_aload_n X 4 rfl dX6_form_110 ?_
                    refine fg_X6_22 X hI ha0 dX6_form_111 (fun v110 ev110 hv110 => ?_)
                    replace E := zLet_s (zgr ev110) E
                    refine zg_iload X 0 rfl dX6_form_114 ?_
                    refine zg_aload_n X 4 rfl dX6_form_116 ?_
                    refine fg_X6_22 X hI ha0 dX6_form_117 (fun v111 ev111 hv111 => ?_)
                    replace E := zLet_s (zgr ev111) E
                    refine zg_iload X 1 rfl dX6_form_120 ?_
                    refine ag_35 X hI hv111 (by omega) (by omega) dX6_form_122 (fun v112 ev112 _ => ?_)
                    replace E := zLet_s ev112 E
                    refine zg_aload_n X 4 rfl dX6_form_123 ?_
                    refine fg_X6_15 X hI ha0 dX6_form_124 (fun v113 ev113 hv113 => ?_)
                    replace E := zLet_s (zgr ev113) E
                    refine zg_iload X 0 rfl dX6_form_127 ?_
                    refine ag_33 X hI hv113 (by omega) (by omega) dX6_form_129 (fun v114 ev114 _ => ?_)
                    replace E := zLet_s ev114 E
                    refine zg_iaddW X dX6_form_130 (fun v115 ev115 => ?_)
                    replace E := zLet_s ev115 E
                    refine as_35 X hI hv110 (by omega) (by omega) dX6_form_131 (fun s116 es116 hI => ?_)
                    replace E := zLet_s es116 E
                    have hS := hS.i hv110 es116 rfl
                    have e117 : v103 = s116.1 a0 0 := by rw [es116]; exact zm_k hv110 ha0 (by decide) ev103
                    refine zg_aload_n X 4 rfl dX6_form_132 ?_
                    refine fg_X6_31 X hI ha0 dX6_form_133 (fun v118 ev118 hv118 => ?_)
                    replace E := zLet_s (zgr ev118) E
                    refine zg_iload X 0 rfl dX6_form_136 ?_
                    refine zg_aload_n X 4 rfl dX6_form_138 ?_
                    refine fg_X6_31 X hI ha0 dX6_form_139 (fun v119 ev119 hv119 => ?_)
                    replace E := zLet_s (zgr ev119) E
                    refine zg_iload X 1 rfl dX6_form_142 ?_
                    refine ag_38 X hI hv119 (by omega) (by omega) dX6_form_144 (fun v120 ev120 _ => ?_)
                    replace E := zLet_s ev120 E
                    refine zg_iload X 0 rfl dX6_form_145 ?_
                    refine zg_cSNi (As := [.int x97]) (st := [.int v120, .int x97, .ref v118]) X (t_X10_bit l d L kd _ x97 ) mk_X6_44 mc_X10_bit mz_X10 ms_X10_bit (na := 1) ⟨md_X10.1, md_X10.2, by decide +kernel⟩ rfl ⟨by decide, by decide⟩ (Nat.le_of_ble_eq_true rfl) dX6_form_147 (fun v121 σ2 hq => ?_)
                    obtain ⟨⟨hF, hv121⟩, rfl⟩ := hq
                    replace E := zLet_s hF E
                    refine zg_iorW X dX6_form_150 (fun v122 ev122 => ?_)
                    replace E := zLet_s ev122 E
                    refine as_38 X hI hv118 (by omega) (by omega) dX6_form_151 (fun s123 es123 hI => ?_)
                    replace E := zLet_s es123 E
                    have hS := hS.i hv118 es123 rfl
                    have e124 : v103 = s123.1 a0 0 := by rw [es123]; exact zm_k hv118 ha0 (by decide) e117
                    refine zg_aload_n X 4 rfl dX6_form_152 ?_
                    refine fg_X6_19 X hI ha0 dX6_form_153 (fun v125 ev125 hv125 => ?_)
                    replace E := zLet_s (zgr ev125) E
                    refine zg_iload_n X 3 rfl dX6_form_156 ?_
                    refine zg_iload X 0 rfl dX6_form_157 ?_
                    refine as_34 X hI hv125 (by omega) (by omega) ⟨by omega, by omega⟩ dX6_form_159 (fun s126 es126 hI => ?_)
                    replace E := zLet_s es126 E
                    have hS := hS.i hv125 es126 rfl
                    have e127 : v103 = s126.1 a0 0 := by rw [es126]; exact zm_k hv125 ha0 (by decide) e124
                    refine zg_iinc X 1 (fun v128 => [(3, .int v128), (6, .int x97), (5, .int v95), (4, .int x89), (0, .ref a0), (1, .ref p1), (2, .ref p2)]) 3 dX6_form_160 rfl (by decide) (by decide) (by omega) (by omega) (fun _ => rfl) (fun v128 ev128 hv128 => ?_)
                    replace E := zLet_s (zinc ev128 (by decide)) E
                    refine zg_iinc X 1 (fun v129 => [(6, .int v129), (3, .int v128), (5, .int v95), (4, .int x89), (0, .ref a0), (1, .ref p1), (2, .ref p2)]) 1 dX6_form_163 rfl (by decide) (by decide) (by omega) (by omega) (fun _ => rfl) (fun v129 ev129 hv129 => ?_)
                    replace E := zLet_s (zinc ev129 (by decide)) E
                    refine zg_goto X 81 dX6_form_166 (by decide) ?_
                    refine zg_sub [0, 2, 3, 1, 4, 5, 6] rfl ?_
                    exact ihLp99 _ v129 v128 hI hS E  (by omega) (by omega) 
          refine zg_sub [0, 1, 2, 3, 4, 5, 6] rfl ?_
          exact Lp99 10000 _ v96 x90 hI hS E  (by omega) (by omega) 
    refine zg_sub [0, 1, 2, 3, 4] rfl ?_
    exact Lp91 10000 _ v88 v71 hI hS E  (by omega) (by omega) 
set_option maxHeartbeats 4000000 in
set_option maxRecDepth 100000 in
theorem t_X5_tells (l : Launch) (d : zD2) (L : List Nat) (kd : Nat → Nat) (κ : Int) (σ : zS) (hI : zI κ 1 L kd σ) (a0 : Nat) (ha0 : zT L kd a0 5) (p1 : Int32) (p2 : Int32) (p3 : Int32) (hq0 : 0 ≤ p1.toInt ∧ p1.toInt ≤ 4) (hq1 : 0 ≤ p2.toInt ∧ p2.toInt ≤ 11) : zMi l yX5_tells (Cond.code yX5_tells cX5_tells 5 (some .int) :: zWL) 1 [.ref a0, .int p1, .int p2, .int p3] d L kd σ (fun v σ2 => (v, σ2) = F_X5_tells a0 p1 p2 p3 σ ∧ zSm [20, 21] [] L kd σ σ2 ∧ (zI κ 1 L kd σ2)) := by
  refine zMi.of (own := RX5) (by decide +kernel) rfl rfl (Nat.le_of_ble_eq_true rfl) ?_
  intro p e s m args below meth c A Q X ret
  refine zg_lv (lv2 := [(0, .ref a0), (1, .int p1), (2, .int p2), (3, .int p3)]) rfl ?_
  obtain ⟨R, hR⟩ : ∃ R, R = F_X5_tells a0 p1 p2 p3 σ := ⟨_, rfl⟩
  have E := hR
  unfold F_X5_tells at E
  have hS : zSm [20, 21] [] L kd σ σ := zSm.rf
  refine zg_aload_n X 0 rfl dX5_tells_0 ?_
  refine fg_X5_21 X hI ha0 dX5_tells_1 (fun v1 ev1 hv1 => ?_)
  replace E := zLet_s (zgr ev1) E
  refine fg_X5_96 X hI hv1 dX5_tells_4 (fun v2 ev2 hv2 => ?_)
  replace E := zLet_s (zgr ev2) E
  refine zg_astore X [(4, .ref v2), (0, .ref a0), (1, .int p1), (2, .int p2), (3, .int p3)] dX5_tells_7 (by decide) rfl ?_
  refine zg_aload X 0 rfl dX5_tells_9 ?_
  refine zg_iconst X 0 dX5_tells_11 (by decide) (fun v3 _ hv3 => ?_)
  replace E := zLet_s (zcst hv3 (by decide)) E
  refine zg_aload_n X 1 rfl dX5_tells_12 ?_
  refine fg_X5_35 X hI ha0 dX5_tells_13 (fun v4 ev4 hv4 => ?_)
  replace E := zLet_s (zgr ev4) E
  refine fg_X5_99 X hI hv4 dX5_tells_16 (fun v5 ev5 hv5 => ?_)
  replace E := zLet_s (zgr ev5) E
  refine zg_iload_n X 3 rfl dX5_tells_19 ?_
  refine ag_47 X hI hv5 (by omega) (by omega) dX5_tells_20 (fun v6 ev6 _ => ?_)
  replace E := zLet_s ev6 E
  refine as_20 X hI hv2 (by omega) (by omega) dX5_tells_21 (fun s7 es7 hI => ?_)
  replace E := zLet_s es7 E
  have hS := hS.i hv2 es7 rfl
  refine zg_aload X 0 rfl dX5_tells_22 ?_
  refine zg_iconst X 1 dX5_tells_24 (by decide) (fun v8 _ hv8 => ?_)
  replace E := zLet_s (zcst hv8 (by decide)) E
  refine zg_aload_n X 1 rfl dX5_tells_25 ?_
  refine fg_X5_12 X hI ha0 dX5_tells_26 (fun v9 ev9 hv9 => ?_)
  replace E := zLet_s (zgr ev9) E
  refine fg_X5_102 X hI hv9 dX5_tells_29 (fun v10 ev10 hv10 => ?_)
  replace E := zLet_s (zgr ev10) E
  refine zg_iload_n X 3 rfl dX5_tells_32 ?_
  refine ag_35 X hI hv10 (by omega) (by omega) dX5_tells_33 (fun v11 ev11 _ => ?_)
  replace E := zLet_s ev11 E
  refine as_20 X hI hv2 (by omega) (by omega) dX5_tells_34 (fun s12 es12 hI => ?_)
  replace E := zLet_s es12 E
  have hS := hS.i hv2 es12 rfl
  refine zg_aload X 0 rfl dX5_tells_35 ?_
  refine zg_iconst X 2 dX5_tells_37 (by decide) (fun v13 _ hv13 => ?_)
  replace E := zLet_s (zcst hv13 (by decide)) E
  refine zg_aload_n X 1 rfl dX5_tells_38 ?_
  refine fg_X5_35 X hI ha0 dX5_tells_39 (fun v14 ev14 hv14 => ?_)
  replace E := zLet_s (zgr ev14) E
  refine fg_X5_105 X hI hv14 dX5_tells_42 (fun v15 ev15 hv15 => ?_)
  replace E := zLet_s (zgr ev15) E
  refine zg_iload_n X 3 rfl dX5_tells_45 ?_
  refine ag_48 X hI hv15 (by omega) (by omega) dX5_tells_46 (fun v16 ev16 _ => ?_)
  replace E := zLet_s ev16 E
  refine as_20 X hI hv2 (by omega) (by omega) dX5_tells_47 (fun s17 es17 hI => ?_)
  replace E := zLet_s es17 E
  have hS := hS.i hv2 es17 rfl
  refine zg_aload X 0 rfl dX5_tells_48 ?_
  refine zg_iconst X 3 dX5_tells_50 (by decide) (fun v18 _ hv18 => ?_)
  replace E := zLet_s (zcst hv18 (by decide)) E
  refine zg_aload_n X 1 rfl dX5_tells_51 ?_
  refine fg_X5_39 X hI ha0 dX5_tells_52 (fun v19 ev19 hv19 => ?_)
  replace E := zLet_s (zgr ev19) E
  refine zg_cVi (As := []) (st := [.int v18, .ref v2]) X hv19 rfl (by decide) rfl (t_X1_moon l d L kd κ 1 _ hI v19 hv19 ) mk_X5_108 mc_X1_moon mz_X1 mi_X1_moon ml_X1_moon (na := 0) ⟨md_X1.1, md_X1.2, by decide +kernel⟩ rfl ⟨by decide, by decide⟩ (Nat.le_of_ble_eq_true rfl) dX5_tells_55 (fun v20 s21 hq => ?_)
  obtain ⟨hF, hS2, hI⟩ := hq
  replace E := zLet2_s hF E
  have hS := hS.tr hS2 rfl rfl
  refine as_20 X hI hv2 (by omega) (by omega) dX5_tells_58 (fun s22 es22 hI => ?_)
  replace E := zLet_s es22 E
  have hS := hS.i hv2 es22 rfl
  refine zg_aload X 0 rfl dX5_tells_59 ?_
  refine zg_iconst X 4 dX5_tells_61 (by decide) (fun v23 _ hv23 => ?_)
  replace E := zLet_s (zcst hv23 (by decide)) E
  refine zg_iload_n X 4 rfl dX5_tells_62 ?_
  refine as_20 X hI hv2 (by omega) (by omega) dX5_tells_63 (fun s24 es24 hI => ?_)
  replace E := zLet_s es24 E
  have hS := hS.i hv2 es24 rfl
  refine zg_aload X 0 rfl dX5_tells_64 ?_
  refine zg_iconst X 5 dX5_tells_66 (by decide) (fun v25 _ hv25 => ?_)
  replace E := zLet_s (zcst hv25 (by decide)) E
  refine zg_aload_n X 1 rfl dX5_tells_67 ?_
  refine fg_X5_35 X hI ha0 dX5_tells_68 (fun v26 ev26 hv26 => ?_)
  replace E := zLet_s (zgr ev26) E
  refine fg_X5_112 X hI hv26 dX5_tells_71 (fun v27 ev27 hv27 => ?_)
  replace E := zLet_s (zgr ev27) E
  refine zg_iload_n X 3 rfl dX5_tells_74 ?_
  refine ag_46 X hI hv27 (by omega) (by omega) dX5_tells_75 (fun v28 ev28 _ => ?_)
  replace E := zLet_s ev28 E
  refine as_20 X hI hv2 (by omega) (by omega) dX5_tells_76 (fun s29 es29 hI => ?_)
  replace E := zLet_s es29 E
  have hS := hS.i hv2 es29 rfl
  refine zg_aload X 0 rfl dX5_tells_77 ?_
  refine zg_bipush X 6 dX5_tells_79 (by decide) (fun v30 _ hv30 => ?_)
  replace E := zLet_s (zcst hv30 (by decide)) E
  refine zg_aload_n X 1 rfl dX5_tells_81 ?_
  refine fg_X5_39 X hI ha0 dX5_tells_82 (fun v31 ev31 hv31 => ?_)
  replace E := zLet_s (zgr ev31) E
  refine fg_X5_115 X hI hv31 dX5_tells_85 (fun v32 ev32 hv32 => ?_)
  replace E := zLet_s (zgr ev32) E
  refine zg_iload_n X 3 rfl dX5_tells_88 ?_
  refine ag_23 X hI hv32 (by omega) (by omega) dX5_tells_89 (fun v33 ev33 _ => ?_)
  replace E := zLet_s ev33 E
  refine as_20 X hI hv2 (by omega) (by omega) dX5_tells_90 (fun s34 es34 hI => ?_)
  replace E := zLet_s es34 E
  have hS := hS.i hv2 es34 rfl
  refine zg_aload X 0 rfl dX5_tells_91 ?_
  refine zg_bipush X 7 dX5_tells_93 (by decide) (fun v35 _ hv35 => ?_)
  replace E := zLet_s (zcst hv35 (by decide)) E
  refine zg_iload_n X 3 rfl dX5_tells_95 ?_
  refine as_20 X hI hv2 (by omega) (by omega) dX5_tells_96 (fun s36 es36 hI => ?_)
  replace E := zLet_s es36 E
  have hS := hS.i hv2 es36 rfl
  refine zg_aload X 0 rfl dX5_tells_97 ?_
  refine zg_bipush X 8 dX5_tells_99 (by decide) (fun v37 _ hv37 => ?_)
  replace E := zLet_s (zcst hv37 (by decide)) E
  refine zg_aload_n X 1 rfl dX5_tells_101 ?_
  refine fg_X5_12 X hI ha0 dX5_tells_102 (fun v38 ev38 hv38 => ?_)
  replace E := zLet_s (zgr ev38) E
  refine fg_X5_118 X hI hv38 dX5_tells_105 (fun v39 ev39 hv39 => ?_)
  replace E := zLet_s (zgr ev39) E
  refine zg_iload_n X 3 rfl dX5_tells_108 ?_
  refine ag_36 X hI hv39 (by omega) (by omega) dX5_tells_109 (fun v40 ev40 _ => ?_)
  replace E := zLet_s ev40 E
  refine as_20 X hI hv2 (by omega) (by omega) dX5_tells_110 (fun s41 es41 hI => ?_)
  replace E := zLet_s es41 E
  have hS := hS.i hv2 es41 rfl
  refine zg_aload_n X 1 rfl dX5_tells_111 ?_
  refine fg_X5_21 X hI ha0 dX5_tells_112 (fun v42 ev42 hv42 => ?_)
  replace E := zLet_s (zgr ev42) E
  refine zg_aload_n X 1 rfl dX5_tells_115 ?_
  refine fg_X5_35 X hI ha0 dX5_tells_116 (fun v43 ev43 hv43 => ?_)
  replace E := zLet_s (zgr ev43) E
  refine zg_iload_n X 2 rfl dX5_tells_119 ?_
  refine zg_cVi (As := [.ref v43, .int p1]) (st := []) X hv42 rfl (by decide) rfl (t_X0_answer l d L kd κ 1 _ hI v42 hv42 v43 hv43 p1 (by omega)) mk_X5_121 mc_X0_answer mz_X0 mi_X0_answer ml_X0_answer (na := 2) ⟨md_X0.1, md_X0.2, by decide +kernel⟩ rfl ⟨by decide, by decide⟩ (Nat.le_of_ble_eq_true rfl) dX5_tells_120 (fun v44 s45 hq => ?_)
  obtain ⟨hF, hS2, hI⟩ := hq
  replace E := zLet2_s hF E
  have hS := hS.tr hS2 rfl rfl
  exact ret _ _ _ _ dX5_tells_123 rfl ⟨E.symm.trans hR, hS, hI⟩
set_option maxHeartbeats 4000000 in
set_option maxRecDepth 100000 in
theorem t_X5_dried (l : Launch) (d : zD2) (L : List Nat) (kd : Nat → Nat) (κ : Int) (σ : zS) (hI : zI κ 1 L kd σ) (a0 : Nat) (ha0 : zT L kd a0 5) (p1 : Int32) (hq0 : 0 ≤ p1.toInt ∧ p1.toInt ≤ 11) : zMi l yX5_dried (Cond.code yX5_dried cX5_dried 2 (some .int) :: zWL) 2 [.ref a0, .int p1] d L kd σ (fun v σ2 => (v, σ2) = F_X5_dried a0 p1 σ ∧ zSm [20, 21] [] L kd σ σ2 ∧ (zI κ 1 L kd σ2)) := by
  refine zMi.of (own := RX5) (by decide +kernel) rfl rfl (Nat.le_of_ble_eq_true rfl) ?_
  intro p e s m args below meth c A Q X ret
  refine zg_lv (lv2 := [(0, .ref a0), (1, .int p1)]) rfl ?_
  obtain ⟨R, hR⟩ : ∃ R, R = F_X5_dried a0 p1 σ := ⟨_, rfl⟩
  have E := hR
  unfold F_X5_dried at E
  have hS : zSm [20, 21] [] L kd σ σ := zSm.rf
  refine zg_aload_n X 0 rfl dX5_dried_0 ?_
  refine zg_iconst X 1 dX5_dried_1 (by decide) (fun v1 _ hv1 => ?_)
  replace E := zLet_s (zcst hv1 (by decide)) E
  refine zg_iload_n X 1 rfl dX5_dried_2 ?_
  refine zg_aload_n X 0 rfl dX5_dried_3 ?_
  refine fg_X5_29 X hI ha0 dX5_dried_4 (fun v2 ev2 hv2 => ?_)
  replace E := zLet_s (zgr ev2) E
  refine zg_iload_n X 1 rfl dX5_dried_7 ?_
  refine ag_31 X hI hv2 (by omega) (by omega) dX5_dried_8 (fun v3 ev3 _ => ?_)
  replace E := zLet_s ev3 E
  refine zg_cVi (As := [.int v1, .int p1, .int v3]) (st := []) X ha0 rfl (by decide) rfl (t_X5_tells l d L kd κ _ hI a0 ha0 v1 p1 v3 (by omega) (by omega)) mk_X5_69 mc_X5_tells mz_X5 mi_X5_tells ml_X5_tells (na := 3) ⟨md_X5.1, md_X5.2, by decide +kernel⟩ rfl ⟨by decide, by decide⟩ (Nat.le_of_ble_eq_true rfl) dX5_dried_9 (fun v4 s5 hq => ?_)
  obtain ⟨hF, hS2, hI⟩ := hq
  replace E := zLet2_s hF E
  have hS := hS.tr hS2 rfl rfl
  refine zg_iconst X 0 dX5_dried_12 (by decide) (fun v6 _ hv6 => ?_)
  replace E := zLet_s (zcst hv6 (by decide)) E
  refine zg_aload_n X 0 rfl dX5_dried_13 ?_
  refine fg_X5_29 X hI ha0 dX5_dried_14 (fun v7 ev7 hv7 => ?_)
  replace E := zLet_s (zgr ev7) E
  refine zg_iload_n X 1 rfl dX5_dried_17 ?_
  refine ag_31 X hI hv7 (by omega) (by omega) dX5_dried_18 (fun v8 ev8 _ => ?_)
  replace E := zLet_s ev8 E
  refine zg_cSNi (As := [.int v4, .int v6, .int v8]) (st := []) X (t_X10_held l d L kd _ v4 v6 v8 ) mk_X5_73 mc_X10_held mz_X10 ms_X10_held (na := 3) ⟨md_X10.1, md_X10.2, by decide +kernel⟩ rfl ⟨by decide, by decide⟩ (Nat.le_of_ble_eq_true rfl) dX5_dried_19 (fun v9 σ2 hq => ?_)
  obtain ⟨⟨hF, hv9⟩, rfl⟩ := hq
  replace E := zLet_s hF E
  exact ret _ _ _ _ dX5_dried_22 rfl ⟨E.symm.trans hR, hS, hI⟩
set_option maxHeartbeats 4000000 in
set_option maxRecDepth 100000 in
theorem t_X5_run (l : Launch) (d : zD2) (L : List Nat) (kd : Nat → Nat) (κ : Int) (σ : zS) (hI : zI κ 1 L kd σ) (a0 : Nat) (ha0 : zT L kd a0 5) (p1 : Int32) : zMv l yX5_run (Cond.code yX5_run cX5_run 4 none :: zWL) 3 [.ref a0, .int p1] d L kd σ (fun σ2 => σ2 = F_X5_run a0 p1 σ ∧ zSm [20, 21, 31] [] L kd σ σ2 ∧ (zI κ 1 L kd σ2)) := by
  refine zMv.of (own := RX5) (by decide +kernel) rfl rfl (Nat.le_of_ble_eq_true rfl) ?_
  intro p e s m args below meth c A Q X ret
  refine zg_lv (lv2 := [(0, .ref a0), (1, .int p1)]) rfl ?_
  obtain ⟨R, hR⟩ : ∃ R, R = F_X5_run a0 p1 σ := ⟨_, rfl⟩
  have E := hR
  unfold F_X5_run at E
  have hS : zSm [20, 21, 31] [] L kd σ σ := zSm.rf
  refine zg_aload_n X 0 rfl dX5_run_0 ?_
  refine fg_X5_25 X hI ha0 dX5_run_1 (fun v1 ev1 hv1 => ?_)
  replace E := zLet_s (zgr ev1) E
  refine zg_iconst X 0 dX5_run_4 (by decide) (fun v2 _ hv2 => ?_)
  replace E := zLet_s (zcst hv2 (by decide)) E
  refine zg_aload_n X 0 rfl dX5_run_5 ?_
  refine fg_X5_29 X hI ha0 dX5_run_6 (fun v3 ev3 hv3 => ?_)
  replace E := zLet_s (zgr ev3) E
  refine zg_iconst X 0 dX5_run_9 (by decide) (fun v4 _ hv4 => ?_)
  replace E := zLet_s (zcst hv4 (by decide)) E
  refine zg_bipush X 12 dX5_run_10 (by decide) (fun v5 _ hv5 => ?_)
  replace E := zLet_s (zcst hv5 (by decide)) E
  refine zg_copy (k := 30) (k2 := 31) (n := 12) X wj_X5_76 hI hv1 hv3 rfl rfl (lo := (-2147483648)) (hi := 2147483647) (fun _ => rfl) (by decide) (by decide) (fun j h1 h2 => h1 ) (by omega) (by omega) (by omega) ⟨by decide, Nat.le_of_ble_eq_true rfl⟩ dX5_run_12 (fun s6 es6 hI => ?_)
  replace E := zLet_s es6 E
  have hS := hS.c hv3 es6 rfl
  refine zg_aload_n X 0 rfl dX5_run_15 ?_
  refine fg_X5_12 X hI ha0 dX5_run_16 (fun v7 ev7 hv7 => ?_)
  replace E := zLet_s (zgr ev7) E
  refine fg_X5_64 X hI hv7 dX5_run_19 (fun v8 ev8 hv8 => ?_)
  replace E := zLet_s ev8 E
  refine zg_iconst X 1 dX5_run_22 (by decide) (fun v9 _ hv9 => ?_)
  replace E := zLet_s (zcst hv9 (by decide)) E
  refine zg_isub X dX5_run_23 (by omega) (by omega) (fun v10 ev10 hv10 => ?_)
  replace E := zLet_s ev10 E
  refine zg_istore_n X [(2, .int v10), (0, .ref a0), (1, .int p1)] dX5_run_24 (by decide) rfl ?_
  have Lp12 : ∀ (nLp12 : Nat) (τ12 : zS) (x11 : Int32), zI κ 1 L kd τ12 → zSm [20, 21, 31] [] L kd σ τ12 → R = F_X5_run_25 a0 p1  nLp12 x11 τ12 → (-1) ≤ x11.toInt ∧ x11.toInt ≤ 11 → x11.toInt + 2 < (nLp12 : Int) → zG d L kd A 4 p l e (k2_rm 3 (100 * 3)) s m args below meth c Q τ12 25 [(2, .int x11), (0, .ref a0), (1, .int p1)] [] := by
    intro nLp12
    induction nLp12 with
    | zero => intro τ12 x11 hI hS E  hxLp12 hm ; exact absurd hm (by omega)
    | succ nLp12 ihLp12 =>
      intro τ12 x11 hI hS E  hxLp12 hmLp12 
      rw [F_X5_run_25] at E
      refine zg_iload_n X 0 rfl dX5_run_25 ?_
      refine zg_if_le X 82 dX5_run_26 (by decide) (fun c13 => ?_) (fun c13 => ?_)
      · skip
        replace E := zIf_f (Int.not_lt.mpr c13) E
        exact ret _ _ _ dX5_run_82 ⟨E.symm.trans hR, hS, hI⟩
      · skip
        replace E := zIf_t c13 E
        refine zg_aload_n X 1 rfl dX5_run_29 ?_
        refine fg_X5_12 X hI ha0 dX5_run_30 (fun v14 ev14 hv14 => ?_)
        replace E := zLet_s (zgr ev14) E
        refine fg_X5_82 X hI hv14 dX5_run_33 (fun v15 ev15 hv15 => ?_)
        replace E := zLet_s (zgr ev15) E
        refine zg_iload_n X 0 rfl dX5_run_36 ?_
        refine ag_34 X hI hv15 (by omega) (by omega) dX5_run_37 (fun v16 ev16 hv16 => ?_)
        replace E := zLet_s ev16 E
        refine zg_istore_n X [(3, .int v16), (2, .int x11), (0, .ref a0), (1, .int p1)] dX5_run_38 (by decide) rfl ?_
        refine zg_iload_n X 3 rfl dX5_run_39 ?_
        refine zg_iload_n X 0 rfl dX5_run_40 ?_
        refine zg_cSNi (As := [.int p1, .int v16]) (st := []) X (t_X10_has l d L kd _ p1 v16 ) mk_X5_85 mc_X10_has mz_X10 ms_X10_has (na := 2) ⟨md_X10.1, md_X10.2, by decide +kernel⟩ rfl ⟨by decide, by decide⟩ (Nat.le_of_ble_eq_true rfl) dX5_run_41 (fun v17 σ2 hq => ?_)
        obtain ⟨⟨hF, hv17⟩, rfl⟩ := hq
        replace E := zLet_s hF E
        refine zg_if_ne X 76 dX5_run_44 (by decide) (fun c18 => ?_) (fun c18 => ?_)
        · skip
          replace E := zIf_f c18 E
          refine zg_iinc X (-1) (fun v19 => [(2, .int v19), (3, .int v16), (0, .ref a0), (1, .int p1)]) 1 dX5_run_76 rfl (by decide) (by decide) (by omega) (by omega) (fun _ => rfl) (fun v19 ev19 hv19 => ?_)
          replace E := zLet_s (zinc ev19 (by decide)) E
          refine zg_goto X 25 dX5_run_79 (by decide) ?_
          refine zg_sub [0, 2, 3] rfl ?_
          exact ihLp12 _ v19 hI hS E  (by omega) (by omega) 
        · skip
          replace E := zIf_t c18 E
          refine zg_aload_n X 2 rfl dX5_run_47 ?_
          refine fg_X5_29 X hI ha0 dX5_run_48 (fun v20 ev20 hv20 => ?_)
          replace E := zLet_s (zgr ev20) E
          refine zg_aload_n X 2 rfl dX5_run_51 ?_
          refine fg_X5_39 X hI ha0 dX5_run_52 (fun v21 ev21 hv21 => ?_)
          replace E := zLet_s (zgr ev21) E
          refine fg_X5_89 X hI hv21 dX5_run_55 (fun v22 ev22 hv22 => ?_)
          replace E := zLet_s (zgr ev22) E
          refine zg_iload_n X 0 rfl dX5_run_58 ?_
          refine ag_22 X hI hv22 (by omega) (by omega) dX5_run_59 (fun v23 ev23 hv23 => ?_)
          replace E := zLet_s ev23 E
          refine zg_dup2 X dX5_run_60 rfl rfl ?_
          refine ag_31 X hI hv20 (by omega) (by omega) dX5_run_61 (fun v24 ev24 _ => ?_)
          replace E := zLet_s ev24 E
          refine zg_aload_n X 2 rfl dX5_run_62 ?_
          refine fg_X5_29 X hI ha0 dX5_run_63 (fun v25 ev25 hv25 => ?_)
          replace E := zLet_s (zgr ev25) E
          refine zg_iload_n X 0 rfl dX5_run_66 ?_
          refine ag_31 X hI hv25 (by omega) (by omega) dX5_run_67 (fun v26 ev26 _ => ?_)
          replace E := zLet_s ev26 E
          refine zg_aload_n X 2 rfl dX5_run_68 ?_
          refine zg_iload_n X 0 rfl dX5_run_69 ?_
          refine zg_cVi (As := [.int v16]) (st := [.int v26, .int v24, .int v23, .ref v20]) X ha0 rfl (by decide) rfl (t_X5_dried l d L kd κ _ hI a0 ha0 v16 (by omega)) mk_X5_92 mc_X5_dried mz_X5 mi_X5_dried ml_X5_dried (na := 1) ⟨md_X5.1, md_X5.2, by decide +kernel⟩ rfl ⟨by decide, by decide⟩ (Nat.le_of_ble_eq_true rfl) dX5_run_70 (fun v27 s28 hq => ?_)
          obtain ⟨hF, hS2, hI⟩ := hq
          replace E := zLet2_s hF E
          have hS := hS.tr hS2 rfl rfl
          refine zg_isubW X dX5_run_73 (fun v29 ev29 => ?_)
          replace E := zLet_s ev29 E
          refine zg_iaddW X dX5_run_74 (fun v30 ev30 => ?_)
          replace E := zLet_s ev30 E
          refine as_31 X hI hv20 (by omega) (by omega) dX5_run_75 (fun s31 es31 hI => ?_)
          replace E := zLet_s es31 E
          have hS := hS.i hv20 es31 rfl
          refine zg_iinc X (-1) (fun v32 => [(2, .int v32), (3, .int v16), (0, .ref a0), (1, .int p1)]) 1 dX5_run_76 rfl (by decide) (by decide) (by omega) (by omega) (fun _ => rfl) (fun v32 ev32 hv32 => ?_)
          replace E := zLet_s (zinc ev32 (by decide)) E
          refine zg_goto X 25 dX5_run_79 (by decide) ?_
          refine zg_sub [0, 2, 3] rfl ?_
          exact ihLp12 _ v32 hI hS E  (by omega) (by omega) 
  refine zg_sub [0, 1, 2] rfl ?_
  exact Lp12 10000 _ v10 hI hS E  (by omega) (by omega) 
set_option maxHeartbeats 4000000 in
set_option maxRecDepth 100000 in
theorem t_X5_rainDown (l : Launch) (d : zD2) (L : List Nat) (kd : Nat → Nat) (κ : Int) (σ : zS) (hI : zI κ 1 L kd σ) (a0 : Nat) (ha0 : zT L kd a0 5) (p1 : Int32) : zMv l yX5_rainDown (Cond.code yX5_rainDown cX5_rainDown 3 none :: zWL) 2 [.ref a0, .int p1] d L kd σ (fun σ2 => σ2 = F_X5_rainDown a0 p1 σ ∧ zSm [20, 21, 30] [] L kd σ σ2 ∧ (zI κ 1 L kd σ2)) := by
  refine zMv.of (own := RX5) (by decide +kernel) rfl rfl (Nat.le_of_ble_eq_true rfl) ?_
  intro p e s m args below meth c A Q X ret
  refine zg_lv (lv2 := [(0, .ref a0), (1, .int p1)]) rfl ?_
  obtain ⟨R, hR⟩ : ∃ R, R = F_X5_rainDown a0 p1 σ := ⟨_, rfl⟩
  have E := hR
  unfold F_X5_rainDown at E
  have hS : zSm [20, 21, 30] [] L kd σ σ := zSm.rf
  refine zg_iconst X 0 dX5_rainDown_0 (by decide) (fun v1 _ hv1 => ?_)
  replace E := zLet_s (zcst hv1 (by decide)) E
  refine zg_istore_n X [(2, .int v1), (0, .ref a0), (1, .int p1)] dX5_rainDown_1 (by decide) rfl ?_
  have Lp3 : ∀ (nLp3 : Nat) (τ3 : zS) (x2 : Int32), zI κ 1 L kd τ3 → zSm [20, 21, 30] [] L kd σ τ3 → R = F_X5_rainDown_2 a0 p1  nLp3 x2 τ3 → 0 ≤ x2.toInt ∧ x2.toInt ≤ 12 → (12) - x2.toInt + 1 < (nLp3 : Int) → zG d L kd A 3 p l e (k2_rm 2 (100 * 2)) s m args below meth c Q τ3 2 [(2, .int x2), (0, .ref a0), (1, .int p1)] [] := by
    intro nLp3
    induction nLp3 with
    | zero => intro τ3 x2 hI hS E  hxLp3 hm ; exact absurd hm (by omega)
    | succ nLp3 ihLp3 =>
      intro τ3 x2 hI hS E  hxLp3 hmLp3 
      rw [F_X5_rainDown_2] at E
      refine zg_iload_n X 0 rfl dX5_rainDown_2 ?_
      refine zg_aload_n X 1 rfl dX5_rainDown_3 ?_
      refine fg_X5_12 X hI ha0 dX5_rainDown_4 (fun v4 ev4 hv4 => ?_)
      replace E := zLet_s (zgr ev4) E
      refine fg_X5_64 X hI hv4 dX5_rainDown_7 (fun v5 ev5 hv5 => ?_)
      replace E := zLet_s ev5 E
      refine zg_icmp_ge X 41 dX5_rainDown_10 (by decide) (fun c6 => ?_) (fun c6 => ?_)
      · skip
        replace E := zIf_f (Int.not_lt.mpr c6) E
        exact ret _ _ _ dX5_rainDown_41 ⟨E.symm.trans hR, hS, hI⟩
      · skip
        replace E := zIf_t c6 E
        refine zg_aload_n X 1 rfl dX5_rainDown_13 ?_
        refine fg_X5_25 X hI ha0 dX5_rainDown_14 (fun v7 ev7 hv7 => ?_)
        replace E := zLet_s (zgr ev7) E
        refine zg_iload_n X 0 rfl dX5_rainDown_17 ?_
        refine zg_aload_n X 1 rfl dX5_rainDown_18 ?_
        refine zg_iconst X 0 dX5_rainDown_19 (by decide) (fun v8 _ hv8 => ?_)
        replace E := zLet_s (zcst hv8 (by decide)) E
        refine zg_iload_n X 0 rfl dX5_rainDown_20 ?_
        refine zg_iconst X 0 dX5_rainDown_21 (by decide) (fun v9 _ hv9 => ?_)
        replace E := zLet_s (zcst hv9 (by decide)) E
        refine zg_cVi (As := [.int v8, .int x2, .int v9]) (st := [.int x2, .ref v7]) X ha0 rfl (by decide) rfl (t_X5_tells l d L kd κ _ hI a0 ha0 v8 x2 v9 (by omega) (by omega)) mk_X5_69 mc_X5_tells mz_X5 mi_X5_tells ml_X5_tells (na := 3) ⟨md_X5.1, md_X5.2, by decide +kernel⟩ rfl ⟨by decide, by decide⟩ (Nat.le_of_ble_eq_true rfl) dX5_rainDown_22 (fun v10 s11 hq => ?_)
        obtain ⟨hF, hS2, hI⟩ := hq
        replace E := zLet2_s hF E
        have hS := hS.tr hS2 rfl rfl
        refine zg_iconst X 0 dX5_rainDown_25 (by decide) (fun v12 _ hv12 => ?_)
        replace E := zLet_s (zcst hv12 (by decide)) E
        refine zg_sipush X 999 dX5_rainDown_26 (by decide) (fun v13 _ hv13 => ?_)
        replace E := zLet_s (zcst hv13 (by decide)) E
        refine zg_cSNi (As := [.int v10, .int v12, .int v13]) (st := [.int x2, .ref v7]) X (t_X10_held l d L kd _ v10 v12 v13 ) mk_X5_73 mc_X10_held mz_X10 ms_X10_held (na := 3) ⟨md_X10.1, md_X10.2, by decide +kernel⟩ rfl ⟨by decide, by decide⟩ (Nat.le_of_ble_eq_true rfl) dX5_rainDown_29 (fun v14 σ2 hq => ?_)
        obtain ⟨⟨hF, hv14⟩, rfl⟩ := hq
        replace E := zLet_s hF E
        refine zg_iload_n X 2 rfl dX5_rainDown_32 ?_
        refine zg_iaddW X dX5_rainDown_33 (fun v15 ev15 => ?_)
        replace E := zLet_s ev15 E
        refine as_30 X hI hv7 (by omega) (by omega) dX5_rainDown_34 (fun s16 es16 hI => ?_)
        replace E := zLet_s es16 E
        have hS := hS.i hv7 es16 rfl
        refine zg_iinc X 1 (fun v17 => [(2, .int v17), (0, .ref a0), (1, .int p1)]) 0 dX5_rainDown_35 rfl (by decide) (by decide) (by omega) (by omega) (fun _ => rfl) (fun v17 ev17 hv17 => ?_)
        replace E := zLet_s (zinc ev17 (by decide)) E
        refine zg_goto X 2 dX5_rainDown_38 (by decide) ?_
        refine zg_sub [0, 1, 2] rfl ?_
        exact ihLp3 _ v17 hI hS E  (by omega) (by omega) 
  refine zg_sub [0, 1, 2] rfl ?_
  exact Lp3 10000 _ v1 hI hS E  (by omega) (by omega) 
set_option maxHeartbeats 4000000 in
set_option maxRecDepth 100000 in
theorem t_X5_fall (l : Launch) (d : zD2) (L : List Nat) (kd : Nat → Nat) (κ : Int) (σ : zS) (hI : zI κ 1 L kd σ) (a0 : Nat) (ha0 : zT L kd a0 5) (p1 : Int32) : zMv l yX5_fall (Cond.code yX5_fall cX5_fall 2 none :: zWL) 4 [.ref a0, .int p1] d L kd σ (fun σ2 => σ2 = F_X5_fall a0 p1 σ ∧ zSm [20, 21, 30, 31] [] L kd σ σ2 ∧ (zI κ 1 L kd σ2)) := by
  refine zMv.of (own := RX5) (by decide +kernel) rfl rfl (Nat.le_of_ble_eq_true rfl) ?_
  intro p e s m args below meth c A Q X ret
  refine zg_lv (lv2 := [(0, .ref a0), (1, .int p1)]) rfl ?_
  obtain ⟨R, hR⟩ : ∃ R, R = F_X5_fall a0 p1 σ := ⟨_, rfl⟩
  have E := hR
  unfold F_X5_fall at E
  have hS : zSm [20, 21, 30, 31] [] L kd σ σ := zSm.rf
  refine zg_aload_n X 0 rfl dX5_fall_0 ?_
  refine zg_iload_n X 1 rfl dX5_fall_1 ?_
  refine zg_cVv (As := [.int p1]) (st := []) X ha0 rfl (by decide) rfl (t_X5_rainDown l d L kd κ _ hI a0 ha0 p1 ) mk_X5_52 mc_X5_rainDown mz_X5 mi_X5_rainDown ml_X5_rainDown (na := 1) ⟨md_X5.1, md_X5.2, by decide +kernel⟩ rfl ⟨by decide, by decide⟩ (Nat.le_of_ble_eq_true rfl) dX5_fall_2 (fun s1 hq => ?_)
  obtain ⟨hF, hS2, hI⟩ := hq
  replace E := zLet_s hF E
  have hS := hS.tr hS2 rfl rfl
  refine zg_aload_n X 0 rfl dX5_fall_5 ?_
  refine zg_aload_n X 0 rfl dX5_fall_6 ?_
  refine fg_X5_39 X hI ha0 dX5_fall_7 (fun v2 ev2 hv2 => ?_)
  replace E := zLet_s (zgr ev2) E
  refine fg_X5_55 X hI hv2 dX5_fall_10 (fun v3 ev3 _ => ?_)
  replace E := zLet_s ev3 E
  refine zg_cVv (As := [.int v3]) (st := []) X ha0 rfl (by decide) rfl (t_X5_run l d L kd κ _ hI a0 ha0 v3 ) mk_X5_61 mc_X5_run mz_X5 mi_X5_run ml_X5_run (na := 1) ⟨md_X5.1, md_X5.2, by decide +kernel⟩ rfl ⟨by decide, by decide⟩ (Nat.le_of_ble_eq_true rfl) dX5_fall_13 (fun s4 hq => ?_)
  obtain ⟨hF, hS2, hI⟩ := hq
  replace E := zLet_s hF E
  have hS := hS.tr hS2 rfl rfl
  exact ret _ _ _ dX5_fall_16 ⟨E.symm.trans hR, hS, hI⟩
set_option maxHeartbeats 4000000 in
set_option maxRecDepth 100000 in
theorem t_X5_claimOf (l : Launch) (d : zD2) (L : List Nat) (kd : Nat → Nat) (κ : Int) (σ : zS) (hI : zI κ 1 L kd σ) (a0 : Nat) (ha0 : zT L kd a0 5) (p1 : Int32) (p2 : Int32) (hq0 : 0 ≤ p1.toInt ∧ p1.toInt ≤ 11) (hq1 : 0 ≤ p2.toInt ∧ p2.toInt ≤ 2) : zMi l yX5_claimOf (Cond.code yX5_claimOf cX5_claimOf 3 (some .int) :: zWL) 2 [.ref a0, .int p1, .int p2] d L kd σ (fun v σ2 => (v, σ2) = F_X5_claimOf a0 p1 p2 σ ∧ zSm [20, 21] [] L kd σ σ2 ∧ (zI κ 1 L kd σ2)) := by
  refine zMi.of (own := RX5) (by decide +kernel) rfl rfl (Nat.le_of_ble_eq_true rfl) ?_
  intro p e s m args below meth c A Q X ret
  refine zg_lv (lv2 := [(0, .ref a0), (1, .int p1), (2, .int p2)]) rfl ?_
  obtain ⟨R, hR⟩ : ∃ R, R = F_X5_claimOf a0 p1 p2 σ := ⟨_, rfl⟩
  have E := hR
  unfold F_X5_claimOf at E
  have hS : zSm [20, 21] [] L kd σ σ := zSm.rf
  refine zg_aload_n X 0 rfl dX5_claimOf_0 ?_
  refine zg_iconst X 2 dX5_claimOf_1 (by decide) (fun v1 _ hv1 => ?_)
  replace E := zLet_s (zcst hv1 (by decide)) E
  refine zg_iload_n X 2 rfl dX5_claimOf_2 ?_
  refine zg_iadd X dX5_claimOf_3 (by omega) (by omega) (fun v2 ev2 hv2 => ?_)
  replace E := zLet_s ev2 E
  refine zg_iload_n X 1 rfl dX5_claimOf_4 ?_
  refine zg_aload_n X 0 rfl dX5_claimOf_5 ?_
  refine fg_X5_29 X hI ha0 dX5_claimOf_6 (fun v3 ev3 hv3 => ?_)
  replace E := zLet_s (zgr ev3) E
  refine zg_iload_n X 1 rfl dX5_claimOf_9 ?_
  refine ag_31 X hI hv3 (by omega) (by omega) dX5_claimOf_10 (fun v4 ev4 _ => ?_)
  replace E := zLet_s ev4 E
  refine zg_cVi (As := [.int v2, .int p1, .int v4]) (st := []) X ha0 rfl (by decide) rfl (t_X5_tells l d L kd κ _ hI a0 ha0 v2 p1 v4 (by omega) (by omega)) mk_X5_69 mc_X5_tells mz_X5 mi_X5_tells ml_X5_tells (na := 3) ⟨md_X5.1, md_X5.2, by decide +kernel⟩ rfl ⟨by decide, by decide⟩ (Nat.le_of_ble_eq_true rfl) dX5_claimOf_11 (fun v5 s6 hq => ?_)
  obtain ⟨hF, hS2, hI⟩ := hq
  replace E := zLet2_s hF E
  have hS := hS.tr hS2 rfl rfl
  refine zg_iconst X 0 dX5_claimOf_14 (by decide) (fun v7 _ hv7 => ?_)
  replace E := zLet_s (zcst hv7 (by decide)) E
  refine zg_ldc X 99999 wk_X5_125 dX5_claimOf_15 (by decide) (fun v8 hv8 => ?_)
  replace E := zLet_s (zcst hv8 (by decide)) E
  refine zg_cSNi (As := [.int v5, .int v7, .int v8]) (st := []) X (t_X10_held l d L kd _ v5 v7 v8 ) mk_X5_73 mc_X10_held mz_X10 ms_X10_held (na := 3) ⟨md_X10.1, md_X10.2, by decide +kernel⟩ rfl ⟨by decide, by decide⟩ (Nat.le_of_ble_eq_true rfl) dX5_claimOf_17 (fun v9 σ2 hq => ?_)
  obtain ⟨⟨hF, hv9⟩, rfl⟩ := hq
  replace E := zLet_s hF E
  exact ret _ _ _ _ dX5_claimOf_20 rfl ⟨E.symm.trans hR, hS, hI⟩
set_option maxHeartbeats 4000000 in
set_option maxRecDepth 100000 in
theorem t_X5_weigh (l : Launch) (d : zD2) (L : List Nat) (kd : Nat → Nat) (κ : Int) (σ : zS) (hI : zI κ 1 L kd σ) (a0 : Nat) (ha0 : zT L kd a0 5) (p1 : Int32) (hq0 : 0 ≤ p1.toInt ∧ p1.toInt ≤ 2) : zMv l yX5_weigh (Cond.code yX5_weigh cX5_weigh 3 none :: zWL) 3 [.ref a0, .int p1] d L kd σ (fun σ2 => σ2 = F_X5_weigh a0 p1 σ ∧ zSm [20, 21, 32] [] L kd σ σ2 ∧ (zI κ 1 L kd σ2)) := by
  refine zMv.of (own := RX5) (by decide +kernel) rfl rfl (Nat.le_of_ble_eq_true rfl) ?_
  intro p e s m args below meth c A Q X ret
  refine zg_lv (lv2 := [(0, .ref a0), (1, .int p1)]) rfl ?_
  obtain ⟨R, hR⟩ : ∃ R, R = F_X5_weigh a0 p1 σ := ⟨_, rfl⟩
  have E := hR
  unfold F_X5_weigh at E
  have hS : zSm [20, 21, 32] [] L kd σ σ := zSm.rf
  refine zg_iconst X 1 dX5_weigh_0 (by decide) (fun v1 _ hv1 => ?_)
  replace E := zLet_s (zcst hv1 (by decide)) E
  refine zg_istore_n X [(2, .int v1), (0, .ref a0), (1, .int p1)] dX5_weigh_1 (by decide) rfl ?_
  have Lp3 : ∀ (nLp3 : Nat) (τ3 : zS) (x2 : Int32), zI κ 1 L kd τ3 → zSm [20, 21, 32] [] L kd σ τ3 → R = F_X5_weigh_2 a0 p1  nLp3 x2 τ3 → 1 ≤ x2.toInt ∧ x2.toInt ≤ 12 → (12) - x2.toInt + 1 < (nLp3 : Int) → zG d L kd A 3 p l e (k2_rm 3 (100 * 3)) s m args below meth c Q τ3 2 [(2, .int x2), (0, .ref a0), (1, .int p1)] [] := by
    intro nLp3
    induction nLp3 with
    | zero => intro τ3 x2 hI hS E  hxLp3 hm ; exact absurd hm (by omega)
    | succ nLp3 ihLp3 =>
      intro τ3 x2 hI hS E  hxLp3 hmLp3 
      rw [F_X5_weigh_2] at E
      refine zg_iload_n X 0 rfl dX5_weigh_2 ?_
      refine zg_aload_n X 1 rfl dX5_weigh_3 ?_
      refine fg_X5_12 X hI ha0 dX5_weigh_4 (fun v4 ev4 hv4 => ?_)
      replace E := zLet_s (zgr ev4) E
      refine fg_X5_64 X hI hv4 dX5_weigh_7 (fun v5 ev5 hv5 => ?_)
      replace E := zLet_s ev5 E
      refine zg_icmp_ge X 46 dX5_weigh_10 (by decide) (fun c6 => ?_) (fun c6 => ?_)
      · skip
        replace E := zIf_f (Int.not_lt.mpr c6) E
        exact ret _ _ _ dX5_weigh_46 ⟨E.symm.trans hR, hS, hI⟩
      · skip
        replace E := zIf_t c6 E
        refine zg_aload_n X 1 rfl dX5_weigh_13 ?_
        refine fg_X5_32 X hI ha0 dX5_weigh_14 (fun v7 ev7 hv7 => ?_)
        replace E := zLet_s (zgr ev7) E
        refine zg_iload_n X 0 rfl dX5_weigh_17 ?_
        refine zg_aload_n X 1 rfl dX5_weigh_18 ?_
        refine fg_X5_12 X hI ha0 dX5_weigh_19 (fun v8 ev8 hv8 => ?_)
        replace E := zLet_s (zgr ev8) E
        refine zg_iload_n X 0 rfl dX5_weigh_22 ?_
        refine zg_cVi (As := [.int x2]) (st := [.int x2, .ref v7]) X hv8 rfl (by decide) rfl (t_X6_isSource l d L kd κ 1 _ hI v8 hv8 x2 ) mk_X5_126 mc_X6_isSource mz_X6 mi_X6_isSource ml_X6_isSource (na := 1) ⟨md_X6.1, md_X6.2, by decide +kernel⟩ rfl ⟨by decide, by decide⟩ (Nat.le_of_ble_eq_true rfl) dX5_weigh_23 (fun v9 s10 hq => ?_)
        obtain ⟨hF, hS2, hI⟩ := hq
        replace E := zLet2_s hF E
        have hS := hS.tr hS2 rfl rfl
        obtain ⟨hv9, hI⟩ := hI
        refine zg_if_eq X 38 dX5_weigh_26 (by decide) (fun c11 => ?_) (fun c11 => ?_)
        · skip
          replace E := zIf_t c11 E
          refine zg_iconst X (-1) dX5_weigh_38 (by decide) (fun v12 _ hv12 => ?_)
          replace E := zLet_s (zcst hv12 (by decide)) E
          refine as_32 X hI hv7 (by omega) (by omega) dX5_weigh_39 (fun s13 es13 hI => ?_)
          replace E := zLet_s es13 E
          have hS := hS.i hv7 es13 rfl
          refine zg_iinc X 1 (fun v14 => [(2, .int v14), (0, .ref a0), (1, .int p1)]) 0 dX5_weigh_40 rfl (by decide) (by decide) (by omega) (by omega) (fun _ => rfl) (fun v14 ev14 hv14 => ?_)
          replace E := zLet_s (zinc ev14 (by decide)) E
          refine zg_goto X 2 dX5_weigh_43 (by decide) ?_
          refine zg_sub [0, 1, 2] rfl ?_
          exact ihLp3 _ v14 hI hS E  (by omega) (by omega) 
        · skip
          replace E := zIf_f c11 E
          refine zg_aload_n X 1 rfl dX5_weigh_29 ?_
          refine zg_iload_n X 0 rfl dX5_weigh_30 ?_
          refine zg_iload_n X 2 rfl dX5_weigh_31 ?_
          refine zg_cVi (As := [.int x2, .int p1]) (st := [.int x2, .ref v7]) X ha0 rfl (by decide) rfl (t_X5_claimOf l d L kd κ _ hI a0 ha0 x2 p1 (by omega) (by omega)) mk_X5_130 mc_X5_claimOf mz_X5 mi_X5_claimOf ml_X5_claimOf (na := 2) ⟨md_X5.1, md_X5.2, by decide +kernel⟩ rfl ⟨by decide, by decide⟩ (Nat.le_of_ble_eq_true rfl) dX5_weigh_32 (fun v15 s16 hq => ?_)
          obtain ⟨hF, hS2, hI⟩ := hq
          replace E := zLet2_s hF E
          have hS := hS.tr hS2 rfl rfl
          refine zg_goto X 39 dX5_weigh_35 (by decide) ?_
          refine as_32 X hI hv7 (by omega) (by omega) dX5_weigh_39 (fun s17 es17 hI => ?_)
          replace E := zLet_s es17 E
          have hS := hS.i hv7 es17 rfl
          refine zg_iinc X 1 (fun v18 => [(2, .int v18), (0, .ref a0), (1, .int p1)]) 0 dX5_weigh_40 rfl (by decide) (by decide) (by omega) (by omega) (fun _ => rfl) (fun v18 ev18 hv18 => ?_)
          replace E := zLet_s (zinc ev18 (by decide)) E
          refine zg_goto X 2 dX5_weigh_43 (by decide) ?_
          refine zg_sub [0, 1, 2] rfl ?_
          exact ihLp3 _ v18 hI hS E  (by omega) (by omega) 
  refine zg_sub [0, 1, 2] rfl ?_
  exact Lp3 10000 _ v1 hI hS E  (by omega) (by omega) 
set_option maxHeartbeats 4000000 in
set_option maxRecDepth 100000 in
theorem t_X5_greatestClaim (l : Launch) (d : zD2) (L : List Nat) (kd : Nat → Nat) (κ : Int) (σ : zS) (hI : zI κ 1 L kd σ) (a0 : Nat) (ha0 : zT L kd a0 5) (p1 : Int32) : zMi l yX5_greatestClaim (Cond.code yX5_greatestClaim cX5_greatestClaim 4 (some .int) :: zWL) 1 [.ref a0, .int p1] d L kd σ (fun v σ2 => (v, σ2) = F_X5_greatestClaim a0 p1 σ ∧ zSm [] [] L kd σ σ2 ∧ (((-2) ≤ v.toInt ∧ v.toInt ≤ 11) ∧ zI κ 1 L kd σ2)) := by
  refine zMi.of (own := RX5) (by decide +kernel) rfl rfl (Nat.le_of_ble_eq_true rfl) ?_
  intro p e s m args below meth c A Q X ret
  refine zg_lv (lv2 := [(0, .ref a0), (1, .int p1)]) rfl ?_
  obtain ⟨R, hR⟩ : ∃ R, R = F_X5_greatestClaim a0 p1 σ := ⟨_, rfl⟩
  have E := hR
  unfold F_X5_greatestClaim at E
  have hS : zSm [] [] L kd σ σ := zSm.rf
  refine zg_bipush X (-2) dX5_greatestClaim_0 (by decide) (fun v1 _ hv1 => ?_)
  replace E := zLet_s (zcst hv1 (by decide)) E
  refine zg_istore_n X [(2, .int v1), (0, .ref a0), (1, .int p1)] dX5_greatestClaim_2 (by decide) rfl ?_
  refine zg_iconst X 1 dX5_greatestClaim_3 (by decide) (fun v2 _ hv2 => ?_)
  replace E := zLet_s (zcst hv2 (by decide)) E
  refine zg_istore_n X [(3, .int v2), (2, .int v1), (0, .ref a0), (1, .int p1)] dX5_greatestClaim_4 (by decide) rfl ?_
  have Lp5 : ∀ (nLp5 : Nat) (τ5 : zS) (x3 : Int32) (x4 : Int32), zI κ 1 L kd τ5 → zSm [] [] L kd σ τ5 → R = F_X5_greatestClaim_5 a0 p1  nLp5 x3 x4 τ5 → (-2) ≤ x4.toInt ∧ x4.toInt ≤ 11 ∧ 1 ≤ x3.toInt ∧ x3.toInt ≤ 12 → (12) - x3.toInt + 1 < (nLp5 : Int) → zG d L kd A 4 p l e (k2_rm 1 (100 * 1)) s m args below meth c Q τ5 5 [(3, .int x3), (2, .int x4), (0, .ref a0), (1, .int p1)] [] := by
    intro nLp5
    induction nLp5 with
    | zero => intro τ5 x3 x4 hI hS E  hxLp5 hm ; exact absurd hm (by omega)
    | succ nLp5 ihLp5 =>
      intro τ5 x3 x4 hI hS E  hxLp5 hmLp5 
      rw [F_X5_greatestClaim_5] at E
      refine zg_iload_n X 0 rfl dX5_greatestClaim_5 ?_
      refine zg_aload_n X 2 rfl dX5_greatestClaim_6 ?_
      refine fg_X5_12 X hI ha0 dX5_greatestClaim_7 (fun v6 ev6 hv6 => ?_)
      replace E := zLet_s (zgr ev6) E
      refine fg_X5_64 X hI hv6 dX5_greatestClaim_10 (fun v7 ev7 hv7 => ?_)
      replace E := zLet_s ev7 E
      refine zg_icmp_ge X 59 dX5_greatestClaim_13 (by decide) (fun c8 => ?_) (fun c8 => ?_)
      · skip
        replace E := zIf_f (Int.not_lt.mpr c8) E
        refine zg_iload_n X 1 rfl dX5_greatestClaim_59 ?_
        exact ret _ _ _ _ dX5_greatestClaim_60 rfl ⟨E.symm.trans hR, hS, ⟨⟨by omega, by omega⟩, hI⟩⟩
      · skip
        replace E := zIf_t c8 E
        refine zg_iload_n X 0 rfl dX5_greatestClaim_16 ?_
        refine zg_iload_n X 3 rfl dX5_greatestClaim_17 ?_
        refine zg_icmp_eq X 53 dX5_greatestClaim_18 (by decide) (fun c9 => ?_) (fun c9 => ?_)
        · skip
          replace E := zIf_t c9 E
          refine zg_iinc X 1 (fun v10 => [(3, .int v10), (2, .int x4), (0, .ref a0), (1, .int p1)]) 0 dX5_greatestClaim_53 rfl (by decide) (by decide) (by omega) (by omega) (fun _ => rfl) (fun v10 ev10 hv10 => ?_)
          replace E := zLet_s (zinc ev10 (by decide)) E
          refine zg_goto X 5 dX5_greatestClaim_56 (by decide) ?_
          refine zg_sub [0, 1, 2, 3] rfl ?_
          exact ihLp5 _ v10 x4 hI hS E  (by omega) (by omega) 
        · skip
          replace E := zIf_f c9 E
          refine zg_aload_n X 2 rfl dX5_greatestClaim_21 ?_
          refine fg_X5_12 X hI ha0 dX5_greatestClaim_22 (fun v11 ev11 hv11 => ?_)
          replace E := zLet_s (zgr ev11) E
          refine zg_iload_n X 0 rfl dX5_greatestClaim_25 ?_
          refine zg_cVi (As := [.int x3]) (st := []) X hv11 rfl (by decide) rfl (t_X6_isSource l d L kd κ 1 _ hI v11 hv11 x3 ) mk_X5_126 mc_X6_isSource mz_X6 mi_X6_isSource ml_X6_isSource (na := 1) ⟨md_X6.1, md_X6.2, by decide +kernel⟩ rfl ⟨by decide, by decide⟩ (Nat.le_of_ble_eq_true rfl) dX5_greatestClaim_26 (fun v12 s13 hq => ?_)
          obtain ⟨hF, hS2, hI⟩ := hq
          replace E := zLet2_s hF E
          have hS := hS.tr hS2 rfl rfl
          obtain ⟨hv12, hI⟩ := hI
          refine zg_if_eq X 53 dX5_greatestClaim_29 (by decide) (fun c14 => ?_) (fun c14 => ?_)
          · skip
            replace E := zIf_t c14 E
            refine zg_iinc X 1 (fun v15 => [(3, .int v15), (2, .int x4), (0, .ref a0), (1, .int p1)]) 0 dX5_greatestClaim_53 rfl (by decide) (by decide) (by omega) (by omega) (fun _ => rfl) (fun v15 ev15 hv15 => ?_)
            replace E := zLet_s (zinc ev15 (by decide)) E
            refine zg_goto X 5 dX5_greatestClaim_56 (by decide) ?_
            refine zg_sub [0, 1, 2, 3] rfl ?_
            exact ihLp5 _ v15 x4 hI hS E  (by omega) (by omega) 
          · skip
            replace E := zIf_f c14 E
            refine zg_iload_n X 1 rfl dX5_greatestClaim_32 ?_
            refine zg_if_lt X 51 dX5_greatestClaim_33 (by decide) (fun c16 => ?_) (fun c16 => ?_)
            · skip
              replace E := zIf_t c16 E
              refine zg_iload_n X 0 rfl dX5_greatestClaim_51 ?_
              refine zg_istore_n X [(2, .int x3), (3, .int x3), (0, .ref a0), (1, .int p1)] dX5_greatestClaim_52 (by decide) rfl ?_
              refine zg_iinc X 1 (fun v17 => [(3, .int v17), (2, .int x3), (0, .ref a0), (1, .int p1)]) 1 dX5_greatestClaim_53 rfl (by decide) (by decide) (by omega) (by omega) (fun _ => rfl) (fun v17 ev17 hv17 => ?_)
              replace E := zLet_s (zinc ev17 (by decide)) E
              refine zg_goto X 5 dX5_greatestClaim_56 (by decide) ?_
              refine zg_sub [0, 1, 2, 3] rfl ?_
              exact ihLp5 _ v17 x3 hI hS E  (by omega) (by omega) 
            · skip
              replace E := zIf_f (Int.not_lt.mpr c16) E
              refine zg_aload_n X 2 rfl dX5_greatestClaim_36 ?_
              refine fg_X5_32 X hI ha0 dX5_greatestClaim_37 (fun v18 ev18 hv18 => ?_)
              replace E := zLet_s (zgr ev18) E
              refine zg_iload_n X 0 rfl dX5_greatestClaim_40 ?_
              refine ag_32 X hI hv18 (by omega) (by omega) dX5_greatestClaim_41 (fun v19 ev19 _ => ?_)
              replace E := zLet_s ev19 E
              refine zg_aload_n X 2 rfl dX5_greatestClaim_42 ?_
              refine fg_X5_32 X hI ha0 dX5_greatestClaim_43 (fun v20 ev20 hv20 => ?_)
              replace E := zLet_s (zgr ev20) E
              refine zg_iload_n X 1 rfl dX5_greatestClaim_46 ?_
              refine ag_32 X hI hv20 (by omega) (by omega) dX5_greatestClaim_47 (fun v21 ev21 _ => ?_)
              replace E := zLet_s ev21 E
              have zv19_z22 := zb_rng v19
              have zv21_z23 := zb_rng v21
              refine zg_icmp_le X 53 dX5_greatestClaim_48 (by decide) (fun c24 => ?_) (fun c24 => ?_)
              · skip
                replace E := zIf_f (Int.not_lt.mpr c24) E
                refine zg_iinc X 1 (fun v25 => [(3, .int v25), (2, .int x4), (0, .ref a0), (1, .int p1)]) 0 dX5_greatestClaim_53 rfl (by decide) (by decide) (by omega) (by omega) (fun _ => rfl) (fun v25 ev25 hv25 => ?_)
                replace E := zLet_s (zinc ev25 (by decide)) E
                refine zg_goto X 5 dX5_greatestClaim_56 (by decide) ?_
                refine zg_sub [0, 1, 2, 3] rfl ?_
                exact ihLp5 _ v25 x4 hI hS E  (by omega) (by omega) 
              · skip
                replace E := zIf_t c24 E
                refine zg_iload_n X 0 rfl dX5_greatestClaim_51 ?_
                refine zg_istore_n X [(2, .int x3), (3, .int x3), (0, .ref a0), (1, .int p1)] dX5_greatestClaim_52 (by decide) rfl ?_
                refine zg_iinc X 1 (fun v26 => [(3, .int v26), (2, .int x3), (0, .ref a0), (1, .int p1)]) 1 dX5_greatestClaim_53 rfl (by decide) (by decide) (by omega) (by omega) (fun _ => rfl) (fun v26 ev26 hv26 => ?_)
                replace E := zLet_s (zinc ev26 (by decide)) E
                refine zg_goto X 5 dX5_greatestClaim_56 (by decide) ?_
                refine zg_sub [0, 1, 2, 3] rfl ?_
                exact ihLp5 _ v26 x3 hI hS E  (by omega) (by omega) 
  refine zg_sub [0, 1, 2, 3] rfl ?_
  exact Lp5 10000 _ v2 v1 hI hS E  (by omega) (by omega) 
set_option maxHeartbeats 4000000 in
set_option maxRecDepth 100000 in
theorem t_X5_rankOf (l : Launch) (d : zD2) (L : List Nat) (kd : Nat → Nat) (κ : Int) (σ : zS) (hI : zI κ 1 L kd σ) (a0 : Nat) (ha0 : zT L kd a0 5) (p1 : Int32) (hq0 : 0 ≤ p1.toInt ∧ p1.toInt ≤ 11) : zMi l yX5_rankOf (Cond.code yX5_rankOf cX5_rankOf 4 (some .int) :: zWL) 0 [.ref a0, .int p1] d L kd σ (fun v σ2 => (v, σ2) = F_X5_rankOf a0 p1 σ ∧ zSm [] [] L kd σ σ2 ∧ (zI κ 1 L kd σ2)) := by
  refine zMi.of (own := RX5) (by decide +kernel) rfl rfl (Nat.le_of_ble_eq_true rfl) ?_
  intro p e s m args below meth c A Q X ret
  refine zg_lv (lv2 := [(0, .ref a0), (1, .int p1)]) rfl ?_
  obtain ⟨R, hR⟩ : ∃ R, R = F_X5_rankOf a0 p1 σ := ⟨_, rfl⟩
  have E := hR
  unfold F_X5_rankOf at E
  have hS : zSm [] [] L kd σ σ := zSm.rf
  refine zg_iconst X 0 dX5_rankOf_0 (by decide) (fun v1 _ hv1 => ?_)
  replace E := zLet_s (zcst hv1 (by decide)) E
  refine zg_istore_n X [(2, .int v1), (0, .ref a0), (1, .int p1)] dX5_rankOf_1 (by decide) rfl ?_
  refine zg_iconst X 1 dX5_rankOf_2 (by decide) (fun v2 _ hv2 => ?_)
  replace E := zLet_s (zcst hv2 (by decide)) E
  refine zg_istore_n X [(3, .int v2), (2, .int v1), (0, .ref a0), (1, .int p1)] dX5_rankOf_3 (by decide) rfl ?_
  have Lp5 : ∀ (nLp5 : Nat) (τ5 : zS) (x3 : Int32) (x4 : Int32), zI κ 1 L kd τ5 → zSm [] [] L kd σ τ5 → R = F_X5_rankOf_4 a0 p1  nLp5 x3 x4 τ5 → 1 ≤ x3.toInt ∧ x3.toInt ≤ 12 → (12) - x3.toInt + 1 < (nLp5 : Int) → zG d L kd A 4 p l e (k2_rm 0 (100 * 0)) s m args below meth c Q τ5 4 [(3, .int x3), (2, .int x4), (0, .ref a0), (1, .int p1)] [] := by
    intro nLp5
    induction nLp5 with
    | zero => intro τ5 x3 x4 hI hS E  hxLp5 hm ; exact absurd hm (by omega)
    | succ nLp5 ihLp5 =>
      intro τ5 x3 x4 hI hS E  hxLp5 hmLp5 
      rw [F_X5_rankOf_4] at E
      refine zg_iload_n X 0 rfl dX5_rankOf_4 ?_
      refine zg_aload_n X 2 rfl dX5_rankOf_5 ?_
      refine fg_X5_12 X hI ha0 dX5_rankOf_6 (fun v6 ev6 hv6 => ?_)
      replace E := zLet_s (zgr ev6) E
      refine fg_X5_64 X hI hv6 dX5_rankOf_9 (fun v7 ev7 hv7 => ?_)
      replace E := zLet_s ev7 E
      refine zg_icmp_ge X 59 dX5_rankOf_12 (by decide) (fun c8 => ?_) (fun c8 => ?_)
      · skip
        replace E := zIf_f (Int.not_lt.mpr c8) E
        refine zg_iload_n X 1 rfl dX5_rankOf_59 ?_
        exact ret _ _ _ _ dX5_rankOf_60 rfl ⟨E.symm.trans hR, hS, hI⟩
      · skip
        replace E := zIf_t c8 E
        refine zg_aload_n X 2 rfl dX5_rankOf_15 ?_
        refine fg_X5_32 X hI ha0 dX5_rankOf_16 (fun v9 ev9 hv9 => ?_)
        replace E := zLet_s (zgr ev9) E
        refine zg_iload_n X 0 rfl dX5_rankOf_19 ?_
        refine ag_32 X hI hv9 (by omega) (by omega) dX5_rankOf_20 (fun v10 ev10 _ => ?_)
        replace E := zLet_s ev10 E
        refine zg_aload_n X 2 rfl dX5_rankOf_21 ?_
        refine fg_X5_32 X hI ha0 dX5_rankOf_22 (fun v11 ev11 hv11 => ?_)
        replace E := zLet_s (zgr ev11) E
        refine zg_iload_n X 3 rfl dX5_rankOf_25 ?_
        refine ag_32 X hI hv11 (by omega) (by omega) dX5_rankOf_26 (fun v12 ev12 _ => ?_)
        replace E := zLet_s ev12 E
        have zv10_z13 := zb_rng v10
        have zv12_z14 := zb_rng v12
        refine zg_icmp_gt X 50 dX5_rankOf_27 (by decide) (fun c15 => ?_) (fun c15 => ?_)
        · skip
          replace E := zIf_t c15 E
          refine zg_iincW X (fun v16 => [(2, .int v16), (3, .int x3), (0, .ref a0), (1, .int p1)]) 1 dX5_rankOf_50 rfl (by decide) (fun _ => rfl) (fun v16 ev16 => ?_)
          replace E := zLet_s (zinc ev16 (by decide)) E
          refine zg_iinc X 1 (fun v17 => [(3, .int v17), (2, .int v16), (0, .ref a0), (1, .int p1)]) 1 dX5_rankOf_53 rfl (by decide) (by decide) (by omega) (by omega) (fun _ => rfl) (fun v17 ev17 hv17 => ?_)
          replace E := zLet_s (zinc ev17 (by decide)) E
          refine zg_goto X 4 dX5_rankOf_56 (by decide) ?_
          refine zg_sub [0, 1, 2, 3] rfl ?_
          exact ihLp5 _ v17 v16 hI hS E  (by omega) (by omega) 
        · skip
          replace E := zIf_f (Int.not_lt.mpr c15) E
          refine zg_aload_n X 2 rfl dX5_rankOf_30 ?_
          refine fg_X5_32 X hI ha0 dX5_rankOf_31 (fun v18 ev18 hv18 => ?_)
          replace E := zLet_s (zgr ev18) E
          refine zg_iload_n X 0 rfl dX5_rankOf_34 ?_
          refine ag_32 X hI hv18 (by omega) (by omega) dX5_rankOf_35 (fun v19 ev19 _ => ?_)
          replace E := zLet_s ev19 E
          refine zg_aload_n X 2 rfl dX5_rankOf_36 ?_
          refine fg_X5_32 X hI ha0 dX5_rankOf_37 (fun v20 ev20 hv20 => ?_)
          replace E := zLet_s (zgr ev20) E
          refine zg_iload_n X 3 rfl dX5_rankOf_40 ?_
          refine ag_32 X hI hv20 (by omega) (by omega) dX5_rankOf_41 (fun v21 ev21 _ => ?_)
          replace E := zLet_s ev21 E
          refine zg_icmp_ne X 53 dX5_rankOf_42 (by decide) (fun c22 => ?_) (fun c22 => ?_)
          · skip
            replace E := zIf_f c22 E
            refine zg_iinc X 1 (fun v23 => [(3, .int v23), (2, .int x4), (0, .ref a0), (1, .int p1)]) 0 dX5_rankOf_53 rfl (by decide) (by decide) (by omega) (by omega) (fun _ => rfl) (fun v23 ev23 hv23 => ?_)
            replace E := zLet_s (zinc ev23 (by decide)) E
            refine zg_goto X 4 dX5_rankOf_56 (by decide) ?_
            refine zg_sub [0, 1, 2, 3] rfl ?_
            exact ihLp5 _ v23 x4 hI hS E  (by omega) (by omega) 
          · skip
            replace E := zIf_t c22 E
            refine zg_iload_n X 0 rfl dX5_rankOf_45 ?_
            refine zg_iload_n X 3 rfl dX5_rankOf_46 ?_
            refine zg_icmp_ge X 53 dX5_rankOf_47 (by decide) (fun c24 => ?_) (fun c24 => ?_)
            · skip
              replace E := zIf_f (Int.not_lt.mpr c24) E
              refine zg_iinc X 1 (fun v25 => [(3, .int v25), (2, .int x4), (0, .ref a0), (1, .int p1)]) 0 dX5_rankOf_53 rfl (by decide) (by decide) (by omega) (by omega) (fun _ => rfl) (fun v25 ev25 hv25 => ?_)
              replace E := zLet_s (zinc ev25 (by decide)) E
              refine zg_goto X 4 dX5_rankOf_56 (by decide) ?_
              refine zg_sub [0, 1, 2, 3] rfl ?_
              exact ihLp5 _ v25 x4 hI hS E  (by omega) (by omega) 
            · skip
              replace E := zIf_t c24 E
              refine zg_iincW X (fun v26 => [(2, .int v26), (3, .int x3), (0, .ref a0), (1, .int p1)]) 1 dX5_rankOf_50 rfl (by decide) (fun _ => rfl) (fun v26 ev26 => ?_)
              replace E := zLet_s (zinc ev26 (by decide)) E
              refine zg_iinc X 1 (fun v27 => [(3, .int v27), (2, .int v26), (0, .ref a0), (1, .int p1)]) 1 dX5_rankOf_53 rfl (by decide) (by decide) (by omega) (by omega) (fun _ => rfl) (fun v27 ev27 hv27 => ?_)
              replace E := zLet_s (zinc ev27 (by decide)) E
              refine zg_goto X 4 dX5_rankOf_56 (by decide) ?_
              refine zg_sub [0, 1, 2, 3] rfl ?_
              exact ihLp5 _ v27 v26 hI hS E  (by omega) (by omega) 
  refine zg_sub [0, 1, 2, 3] rfl ?_
  exact Lp5 10000 _ v2 v1 hI hS E  (by omega) (by omega) 
set_option maxHeartbeats 4000000 in
set_option maxRecDepth 100000 in
theorem t_X5_winnerBy (l : Launch) (d : zD2) (L : List Nat) (kd : Nat → Nat) (κ : Int) (σ : zS) (hI : zI κ 1 L kd σ) (a0 : Nat) (ha0 : zT L kd a0 5) (p1 : Int32) (hq0 : 0 ≤ p1.toInt ∧ p1.toInt ≤ 2) : zMi l yX5_winnerBy (Cond.code yX5_winnerBy cX5_winnerBy 2 (some .int) :: zWL) 4 [.ref a0, .int p1] d L kd σ (fun v σ2 => (v, σ2) = F_X5_winnerBy a0 p1 σ ∧ zSm [20, 21, 32] [] L kd σ σ2 ∧ (((-2) ≤ v.toInt ∧ v.toInt ≤ 11) ∧ zI κ 1 L kd σ2)) := by
  refine zMi.of (own := RX5) (by decide +kernel) rfl rfl (Nat.le_of_ble_eq_true rfl) ?_
  intro p e s m args below meth c A Q X ret
  refine zg_lv (lv2 := [(0, .ref a0), (1, .int p1)]) rfl ?_
  obtain ⟨R, hR⟩ : ∃ R, R = F_X5_winnerBy a0 p1 σ := ⟨_, rfl⟩
  have E := hR
  unfold F_X5_winnerBy at E
  have hS : zSm [20, 21, 32] [] L kd σ σ := zSm.rf
  refine zg_aload_n X 0 rfl dX5_winnerBy_0 ?_
  refine zg_iload_n X 1 rfl dX5_winnerBy_1 ?_
  refine zg_cVv (As := [.int p1]) (st := []) X ha0 rfl (by decide) rfl (t_X5_weigh l d L kd κ _ hI a0 ha0 p1 (by omega)) mk_X5_134 mc_X5_weigh mz_X5 mi_X5_weigh ml_X5_weigh (na := 1) ⟨md_X5.1, md_X5.2, by decide +kernel⟩ rfl ⟨by decide, by decide⟩ (Nat.le_of_ble_eq_true rfl) dX5_winnerBy_2 (fun s1 hq => ?_)
  obtain ⟨hF, hS2, hI⟩ := hq
  replace E := zLet_s hF E
  have hS := hS.tr hS2 rfl rfl
  refine zg_aload_n X 0 rfl dX5_winnerBy_5 ?_
  refine zg_iconst X (-1) dX5_winnerBy_6 (by decide) (fun v2 _ hv2 => ?_)
  replace E := zLet_s (zcst hv2 (by decide)) E
  refine zg_cVi (As := [.int v2]) (st := []) X ha0 rfl (by decide) rfl (t_X5_greatestClaim l d L kd κ _ hI a0 ha0 v2 ) mk_X5_137 mc_X5_greatestClaim mz_X5 mi_X5_greatestClaim ml_X5_greatestClaim (na := 1) ⟨md_X5.1, md_X5.2, by decide +kernel⟩ rfl ⟨by decide, by decide⟩ (Nat.le_of_ble_eq_true rfl) dX5_winnerBy_7 (fun v3 s4 hq => ?_)
  obtain ⟨hF, hS2, hI⟩ := hq
  replace E := zLet2_s hF E
  have hS := hS.tr hS2 rfl rfl
  obtain ⟨hv3, hI⟩ := hI
  exact ret _ _ _ _ dX5_winnerBy_10 rfl ⟨E.symm.trans hR, hS, ⟨⟨by omega, by omega⟩, hI⟩⟩
set_option maxHeartbeats 4000000 in
set_option maxRecDepth 100000 in
theorem t_X5_rainsOf (l : Launch) (d : zD2) (L : List Nat) (kd : Nat → Nat) (κ : Int) (σ : zS) (hI : zI κ 1 L kd σ) (a0 : Nat) (ha0 : zT L kd a0 5) (p1 : Int32) : zMi l yX5_rainsOf (Cond.code yX5_rainsOf cX5_rainsOf 4 (some .int) :: zWL) 2 [.ref a0, .int p1] d L kd σ (fun v σ2 => (v, σ2) = F_X5_rainsOf a0 p1 σ ∧ zSm [] [] L kd σ σ2 ∧ (zI κ 1 L kd σ2)) := by
  refine zMi.of (own := RX5) (by decide +kernel) rfl rfl (Nat.le_of_ble_eq_true rfl) ?_
  intro p e s m args below meth c A Q X ret
  refine zg_lv (lv2 := [(0, .ref a0), (1, .int p1)]) rfl ?_
  obtain ⟨R, hR⟩ : ∃ R, R = F_X5_rainsOf a0 p1 σ := ⟨_, rfl⟩
  have E := hR
  unfold F_X5_rainsOf at E
  have hS : zSm [] [] L kd σ σ := zSm.rf
  refine zg_iconst X 0 dX5_rainsOf_0 (by decide) (fun v1 _ hv1 => ?_)
  replace E := zLet_s (zcst hv1 (by decide)) E
  refine zg_istore_n X [(2, .int v1), (0, .ref a0), (1, .int p1)] dX5_rainsOf_1 (by decide) rfl ?_
  refine zg_iconst X 0 dX5_rainsOf_2 (by decide) (fun v2 _ hv2 => ?_)
  replace E := zLet_s (zcst hv2 (by decide)) E
  refine zg_istore_n X [(3, .int v2), (2, .int v1), (0, .ref a0), (1, .int p1)] dX5_rainsOf_3 (by decide) rfl ?_
  have Lp5 : ∀ (nLp5 : Nat) (τ5 : zS) (x3 : Int32) (x4 : Int32), zI κ 1 L kd τ5 → zSm [] [] L kd σ τ5 → R = F_X5_rainsOf_4 a0 p1  nLp5 x3 x4 τ5 → 0 ≤ x3.toInt ∧ x3.toInt ≤ 12 → (12) - x3.toInt + 1 < (nLp5 : Int) → zG d L kd A 4 p l e (k2_rm 2 (100 * 2)) s m args below meth c Q τ5 4 [(3, .int x3), (2, .int x4), (0, .ref a0), (1, .int p1)] [] := by
    intro nLp5
    induction nLp5 with
    | zero => intro τ5 x3 x4 hI hS E  hxLp5 hm ; exact absurd hm (by omega)
    | succ nLp5 ihLp5 =>
      intro τ5 x3 x4 hI hS E  hxLp5 hmLp5 
      rw [F_X5_rainsOf_4] at E
      refine zg_iload_n X 0 rfl dX5_rainsOf_4 ?_
      refine zg_aload_n X 2 rfl dX5_rainsOf_5 ?_
      refine fg_X5_12 X hI ha0 dX5_rainsOf_6 (fun v6 ev6 hv6 => ?_)
      replace E := zLet_s (zgr ev6) E
      refine fg_X5_64 X hI hv6 dX5_rainsOf_9 (fun v7 ev7 hv7 => ?_)
      replace E := zLet_s ev7 E
      refine zg_icmp_ge X 38 dX5_rainsOf_12 (by decide) (fun c8 => ?_) (fun c8 => ?_)
      · skip
        replace E := zIf_f (Int.not_lt.mpr c8) E
        refine zg_iload_n X 1 rfl dX5_rainsOf_38 ?_
        exact ret _ _ _ _ dX5_rainsOf_39 rfl ⟨E.symm.trans hR, hS, hI⟩
      · skip
        replace E := zIf_t c8 E
        refine zg_iload_n X 3 rfl dX5_rainsOf_15 ?_
        refine zg_iload_n X 0 rfl dX5_rainsOf_16 ?_
        refine zg_cSNi (As := [.int p1, .int x3]) (st := []) X (t_X10_has l d L kd _ p1 x3 ) mk_X5_85 mc_X10_has mz_X10 ms_X10_has (na := 2) ⟨md_X10.1, md_X10.2, by decide +kernel⟩ rfl ⟨by decide, by decide⟩ (Nat.le_of_ble_eq_true rfl) dX5_rainsOf_17 (fun v9 σ2 hq => ?_)
        obtain ⟨⟨hF, hv9⟩, rfl⟩ := hq
        replace E := zLet_s hF E
        refine zg_if_eq X 32 dX5_rainsOf_20 (by decide) (fun c10 => ?_) (fun c10 => ?_)
        · skip
          replace E := zIf_t c10 E
          refine zg_iinc X 1 (fun v11 => [(3, .int v11), (2, .int x4), (0, .ref a0), (1, .int p1)]) 0 dX5_rainsOf_32 rfl (by decide) (by decide) (by omega) (by omega) (fun _ => rfl) (fun v11 ev11 hv11 => ?_)
          replace E := zLet_s (zinc ev11 (by decide)) E
          refine zg_goto X 4 dX5_rainsOf_35 (by decide) ?_
          refine zg_sub [0, 1, 2, 3] rfl ?_
          exact ihLp5 _ v11 x4 hI hS E  (by omega) (by omega) 
        · skip
          replace E := zIf_f c10 E
          refine zg_iload_n X 1 rfl dX5_rainsOf_23 ?_
          refine zg_aload_n X 2 rfl dX5_rainsOf_24 ?_
          refine fg_X5_25 X hI ha0 dX5_rainsOf_25 (fun v12 ev12 hv12 => ?_)
          replace E := zLet_s (zgr ev12) E
          refine zg_iload_n X 0 rfl dX5_rainsOf_28 ?_
          refine ag_30 X hI hv12 (by omega) (by omega) dX5_rainsOf_29 (fun v13 ev13 _ => ?_)
          replace E := zLet_s ev13 E
          refine zg_iaddW X dX5_rainsOf_30 (fun v14 ev14 => ?_)
          replace E := zLet_s ev14 E
          refine zg_istore_n X [(2, .int v14), (3, .int x3), (0, .ref a0), (1, .int p1)] dX5_rainsOf_31 (by decide) rfl ?_
          refine zg_iinc X 1 (fun v15 => [(3, .int v15), (2, .int v14), (0, .ref a0), (1, .int p1)]) 1 dX5_rainsOf_32 rfl (by decide) (by decide) (by omega) (by omega) (fun _ => rfl) (fun v15 ev15 hv15 => ?_)
          replace E := zLet_s (zinc ev15 (by decide)) E
          refine zg_goto X 4 dX5_rainsOf_35 (by decide) ?_
          refine zg_sub [0, 1, 2, 3] rfl ?_
          exact ihLp5 _ v15 v14 hI hS E  (by omega) (by omega) 
  refine zg_sub [0, 1, 2, 3] rfl ?_
  exact Lp5 10000 _ v2 v1 hI hS E  (by omega) (by omega) 
set_option maxHeartbeats 4000000 in
set_option maxRecDepth 100000 in
theorem t_X5_endMonth (l : Launch) (d : zD2) (L : List Nat) (kd : Nat → Nat) (κ : Int) (σ : zS) (hI : zI κ 1 L kd σ) (a0 : Nat) (ha0 : zT L kd a0 5) : zMv l yX5_endMonth (Cond.code yX5_endMonth cX5_endMonth 2 none :: zWL) 5 [.ref a0] d L kd σ (fun σ2 => σ2 = F_X5_endMonth a0 σ ∧ zSm [1, 20, 21, 23, 24, 32] [] L kd σ σ2 ∧ (zI κ 1 L kd σ2)) := by
  refine zMv.of (own := RX5) (by decide +kernel) rfl rfl (Nat.le_of_ble_eq_true rfl) ?_
  intro p e s m args below meth c A Q X ret
  refine zg_lv (lv2 := [(0, .ref a0)]) rfl ?_
  obtain ⟨R, hR⟩ : ∃ R, R = F_X5_endMonth a0 σ := ⟨_, rfl⟩
  have E := hR
  unfold F_X5_endMonth at E
  have hS : zSm [1, 20, 21, 23, 24, 32] [] L kd σ σ := zSm.rf
  refine zg_aload_n X 0 rfl dX5_endMonth_0 ?_
  refine zg_aload_n X 0 rfl dX5_endMonth_1 ?_
  refine fg_X5_39 X hI ha0 dX5_endMonth_2 (fun v1 ev1 hv1 => ?_)
  replace E := zLet_s (zgr ev1) E
  refine fg_X5_140 X hI hv1 dX5_endMonth_5 (fun v2 ev2 hv2 => ?_)
  replace E := zLet_s ev2 E
  refine zg_cVi (As := [.int v2]) (st := []) X ha0 rfl (by decide) rfl (t_X5_winnerBy l d L kd κ _ hI a0 ha0 v2 (by omega)) mk_X5_143 mc_X5_winnerBy mz_X5 mi_X5_winnerBy ml_X5_winnerBy (na := 1) ⟨md_X5.1, md_X5.2, by decide +kernel⟩ rfl ⟨by decide, by decide⟩ (Nat.le_of_ble_eq_true rfl) dX5_endMonth_8 (fun v3 s4 hq => ?_)
  obtain ⟨hF, hS2, hI⟩ := hq
  replace E := zLet2_s hF E
  have hS := hS.tr hS2 rfl rfl
  obtain ⟨hv3, hI⟩ := hI
  refine zg_istore_n X [(1, .int v3), (0, .ref a0)] dX5_endMonth_11 (by decide) rfl ?_
  refine zg_iload_n X 0 rfl dX5_endMonth_12 ?_
  refine zg_if_le X 31 dX5_endMonth_13 (by decide) (fun c5 => ?_) (fun c5 => ?_)
  · skip
    replace E := zIf_f (Int.not_lt.mpr c5) E
    refine zg_aload_n X 1 rfl dX5_endMonth_31 ?_
    refine fg_X5_39 X hI ha0 dX5_endMonth_32 (fun v6 ev6 hv6 => ?_)
    replace E := zLet_s (zgr ev6) E
    refine zg_dup X dX5_endMonth_35 rfl ?_
    refine fg_X5_153 X hI hv6 dX5_endMonth_36 (fun v7 ev7 _ => ?_)
    replace E := zLet_s ev7 E
    refine zg_iconst X 1 dX5_endMonth_39 (by decide) (fun v8 _ hv8 => ?_)
    replace E := zLet_s (zcst hv8 (by decide)) E
    refine zg_iaddW X dX5_endMonth_40 (fun v9 ev9 => ?_)
    replace E := zLet_s ev9 E
    refine fp_X5_153 X hI hv6 (zb_rng _) dX5_endMonth_41 (fun s10 es10 hI => ?_)
    replace E := zLet_s es10 E
    have hS := hS.i hv6 es10 rfl
    exact ret _ _ _ dX5_endMonth_44 ⟨E.symm.trans hR, hS, hI⟩
  · skip
    replace E := zIf_t c5 E
    refine zg_aload_n X 1 rfl dX5_endMonth_16 ?_
    refine fg_X5_39 X hI ha0 dX5_endMonth_17 (fun v11 ev11 hv11 => ?_)
    replace E := zLet_s (zgr ev11) E
    refine zg_iload_n X 0 rfl dX5_endMonth_20 ?_
    refine zg_aload_n X 1 rfl dX5_endMonth_21 ?_
    refine fg_X5_35 X hI ha0 dX5_endMonth_22 (fun v12 ev12 hv12 => ?_)
    replace E := zLet_s (zgr ev12) E
    refine fg_X5_146 X hI hv12 dX5_endMonth_25 (fun v13 ev13 _ => ?_)
    replace E := zLet_s ev13 E
    refine zg_cVv (As := [.int v3, .int v13]) (st := []) X hv11 rfl (by decide) rfl (t_X1_pay l d L kd κ 1 _ hI v11 hv11 v3 v13 (by omega)) mk_X5_149 mc_X1_pay mz_X1 mi_X1_pay ml_X1_pay (na := 2) ⟨md_X1.1, md_X1.2, by decide +kernel⟩ rfl ⟨by decide, by decide⟩ (Nat.le_of_ble_eq_true rfl) dX5_endMonth_28 (fun s14 hq => ?_)
    obtain ⟨hF, hS2, hI⟩ := hq
    replace E := zLet_s hF E
    have hS := hS.tr hS2 rfl rfl
    refine zg_aload_n X 1 rfl dX5_endMonth_31 ?_
    refine fg_X5_39 X hI ha0 dX5_endMonth_32 (fun v15 ev15 hv15 => ?_)
    replace E := zLet_s (zgr ev15) E
    refine zg_dup X dX5_endMonth_35 rfl ?_
    refine fg_X5_153 X hI hv15 dX5_endMonth_36 (fun v16 ev16 _ => ?_)
    replace E := zLet_s ev16 E
    refine zg_iconst X 1 dX5_endMonth_39 (by decide) (fun v17 _ hv17 => ?_)
    replace E := zLet_s (zcst hv17 (by decide)) E
    refine zg_iaddW X dX5_endMonth_40 (fun v18 ev18 => ?_)
    replace E := zLet_s ev18 E
    refine fp_X5_153 X hI hv15 (zb_rng _) dX5_endMonth_41 (fun s19 es19 hI => ?_)
    replace E := zLet_s es19 E
    have hS := hS.i hv15 es19 rfl
    exact ret _ _ _ dX5_endMonth_44 ⟨E.symm.trans hR, hS, hI⟩
set_option maxHeartbeats 4000000 in
set_option maxRecDepth 100000 in
theorem t_X5_goOn (l : Launch) (d : zD2) (L : List Nat) (kd : Nat → Nat) (κ : Int) (σ : zS) (hI : zI κ 1 L kd σ) (a0 : Nat) (ha0 : zT L kd a0 5) : zMv l yX5_goOn (Cond.code yX5_goOn cX5_goOn 1 none :: zWL) 6 [.ref a0] d L kd σ (fun σ2 => σ2 = F_X5_goOn a0 σ ∧ zSm [1, 20, 21, 23, 24, 30, 31, 32] [] L kd σ σ2 ∧ (zI κ 1 L kd σ2)) := by
  refine zMv.of (own := RX5) (by decide +kernel) rfl rfl (Nat.le_of_ble_eq_true rfl) ?_
  intro p e s m args below meth c A Q X ret
  refine zg_lv (lv2 := [(0, .ref a0)]) rfl ?_
  obtain ⟨R, hR⟩ : ∃ R, R = F_X5_goOn a0 σ := ⟨_, rfl⟩
  have E := hR
  unfold F_X5_goOn at E
  have hS : zSm [1, 20, 21, 23, 24, 30, 31, 32] [] L kd σ σ := zSm.rf
  refine zg_aload_n X 0 rfl dX5_goOn_0 ?_
  refine zg_cVv (As := []) (st := []) X ha0 rfl (by decide) rfl (t_X5_endMonth l d L kd κ _ hI a0 ha0 ) mk_X5_156 mc_X5_endMonth mz_X5 mi_X5_endMonth ml_X5_endMonth (na := 0) ⟨md_X5.1, md_X5.2, by decide +kernel⟩ rfl ⟨by decide, by decide⟩ (Nat.le_of_ble_eq_true rfl) dX5_goOn_1 (fun s1 hq => ?_)
  obtain ⟨hF, hS2, hI⟩ := hq
  replace E := zLet_s hF E
  have hS := hS.tr hS2 rfl rfl
  refine zg_aload_n X 0 rfl dX5_goOn_4 ?_
  refine zg_iconst X 0 dX5_goOn_5 (by decide) (fun v2 _ hv2 => ?_)
  replace E := zLet_s (zcst hv2 (by decide)) E
  refine zg_cVv (As := [.int v2]) (st := []) X ha0 rfl (by decide) rfl (t_X5_fall l d L kd κ _ hI a0 ha0 v2 ) mk_X5_47 mc_X5_fall mz_X5 mi_X5_fall ml_X5_fall (na := 1) ⟨md_X5.1, md_X5.2, by decide +kernel⟩ rfl ⟨by decide, by decide⟩ (Nat.le_of_ble_eq_true rfl) dX5_goOn_6 (fun s3 hq => ?_)
  obtain ⟨hF, hS2, hI⟩ := hq
  replace E := zLet_s hF E
  have hS := hS.tr hS2 rfl rfl
  exact ret _ _ _ dX5_goOn_9 ⟨E.symm.trans hR, hS, hI⟩
set_option maxHeartbeats 4000000 in
set_option maxRecDepth 100000 in
theorem t_X5_form (l : Launch) (d : zD2) (L : List Nat) (kd : Nat → Nat) (κ : Int) (b : Nat) (σ : zS) (hI : zI κ b L kd σ) (a0 : Nat) (ha0 : zT L kd a0 5) (p1 : Nat) (hp1 : zT L kd p1 9) (p2 : Nat) (hp2 : zT L kd p2 1) : zMv l yX5_form (Cond.code yX5_form cX5_form 3 none :: zWL) 3 [.ref a0, .ref p1, .ref p2] d L kd σ (fun σ2 => σ2 = F_X5_form a0 p1 p2 σ ∧ zSm [6, 33, 34, 35, 36, 38] [5] L kd σ σ2 ∧ (zI κ 1 L kd σ2)) := by
  refine zMv.of (own := RX5) (by decide +kernel) rfl rfl (Nat.le_of_ble_eq_true rfl) ?_
  intro p e s m args below meth c A Q X ret
  refine zg_lv (lv2 := [(0, .ref a0), (1, .ref p1), (2, .ref p2)]) rfl ?_
  obtain ⟨R, hR⟩ : ∃ R, R = F_X5_form a0 p1 p2 σ := ⟨_, rfl⟩
  have E := hR
  unfold F_X5_form at E
  have hS : zSm [6, 33, 34, 35, 36, 38] [5] L kd σ σ := zSm.rf
  refine zg_aload_n X 0 rfl dX5_form_0 ?_
  refine zg_aload_n X 1 rfl dX5_form_1 ?_
  have hI0 := zi_weak hI
  refine fp_X5_35 X hI0 ha0 hp1 dX5_form_2 (fun s1 es1 hI => ?_)
  replace E := zLet_s es1 E
  have hS := hS.r ha0 es1 rfl
  refine zg_aload_n X 0 rfl dX5_form_5 ?_
  refine zg_aload_n X 2 rfl dX5_form_6 ?_
  refine fp_X5_39 X hI ha0 hp2 dX5_form_7 (fun s2 es2 hI => ?_)
  replace E := zLet_s es2 E
  have hS := hS.r ha0 es2 rfl
  have hI := zi_river hI ha0 hp1 hp2 (by rw [es2, es1]; simp [zu]) (by rw [es2]; exact zu_s _ _ _ _)
  refine zg_aload_n X 0 rfl dX5_form_10 ?_
  refine fg_X5_12 X hI ha0 dX5_form_11 (fun v3 ev3 hv3 => ?_)
  replace E := zLet_s (zgr ev3) E
  refine zg_aload_n X 1 rfl dX5_form_14 ?_
  refine zg_aload_n X 2 rfl dX5_form_15 ?_
  refine zg_cVv (As := [.ref p1, .ref p2]) (st := []) X hv3 rfl (by decide) rfl (t_X6_form l d L kd κ 1 _ hI v3 hv3 p1 hp1 p2 hp2 ) mk_X5_51 mc_X6_form mz_X6 mi_X6_form ml_X6_form (na := 2) ⟨md_X6.1, md_X6.2, by decide +kernel⟩ rfl ⟨by decide, by decide⟩ (Nat.le_of_ble_eq_true rfl) dX5_form_16 (fun s4 hq => ?_)
  obtain ⟨hF, hS2, hI⟩ := hq
  replace E := zLet_s hF E
  have hS := hS.tr hS2 rfl rfl
  exact ret _ _ _ dX5_form_19 ⟨E.symm.trans hR, hS, hI⟩
set_option maxHeartbeats 4000000 in
set_option maxRecDepth 100000 in
theorem t_X5_look (l : Launch) (d : zD2) (L : List Nat) (kd : Nat → Nat) (κ : Int) (b : Nat) (σ : zS) (hI : zI κ b L kd σ) (a0 : Nat) (ha0 : zT L kd a0 5) (p1 : Nat) (hp1 : zT L kd p1 9) (p2 : Nat) (hp2 : zT L kd p2 1) : zMv l yX5_look (Cond.code yX5_look cX5_look 3 none :: zWL) 5 [.ref a0, .ref p1, .ref p2] d L kd σ (fun σ2 => σ2 = F_X5_look a0 p1 p2 σ ∧ zSm [6, 20, 21, 30, 31, 33, 34, 35, 36, 38] [5] L kd σ σ2 ∧ (zI κ 1 L kd σ2)) := by
  refine zMv.of (own := RX5) (by decide +kernel) rfl rfl (Nat.le_of_ble_eq_true rfl) ?_
  intro p e s m args below meth c A Q X ret
  refine zg_lv (lv2 := [(0, .ref a0), (1, .ref p1), (2, .ref p2)]) rfl ?_
  obtain ⟨R, hR⟩ : ∃ R, R = F_X5_look a0 p1 p2 σ := ⟨_, rfl⟩
  have E := hR
  unfold F_X5_look at E
  have hS : zSm [6, 20, 21, 30, 31, 33, 34, 35, 36, 38] [5] L kd σ σ := zSm.rf
  refine zg_aload_n X 0 rfl dX5_look_0 ?_
  refine zg_aload_n X 1 rfl dX5_look_1 ?_
  refine zg_aload_n X 2 rfl dX5_look_2 ?_
  refine zg_cVv (As := [.ref p1, .ref p2]) (st := []) X ha0 rfl (by decide) rfl (t_X5_form l d L kd κ b _ hI a0 ha0 p1 hp1 p2 hp2 ) mk_X5_43 mc_X5_form mz_X5 mi_X5_form ml_X5_form (na := 2) ⟨md_X5.1, md_X5.2, by decide +kernel⟩ rfl ⟨by decide, by decide⟩ (Nat.le_of_ble_eq_true rfl) dX5_look_3 (fun s1 hq => ?_)
  obtain ⟨hF, hS2, hI⟩ := hq
  replace E := zLet_s hF E
  have hS := hS.tr hS2 rfl rfl
  refine zg_aload_n X 0 rfl dX5_look_6 ?_
  refine zg_iconst X 0 dX5_look_7 (by decide) (fun v2 _ hv2 => ?_)
  replace E := zLet_s (zcst hv2 (by decide)) E
  refine zg_cVv (As := [.int v2]) (st := []) X ha0 rfl (by decide) rfl (t_X5_fall l d L kd κ _ hI a0 ha0 v2 ) mk_X5_47 mc_X5_fall mz_X5 mi_X5_fall ml_X5_fall (na := 1) ⟨md_X5.1, md_X5.2, by decide +kernel⟩ rfl ⟨by decide, by decide⟩ (Nat.le_of_ble_eq_true rfl) dX5_look_8 (fun s3 hq => ?_)
  obtain ⟨hF, hS2, hI⟩ := hq
  replace E := zLet_s hF E
  have hS := hS.tr hS2 rfl rfl
  exact ret _ _ _ dX5_look_11 ⟨E.symm.trans hR, hS, hI⟩
set_option maxHeartbeats 4000000 in
set_option maxRecDepth 100000 in
theorem t_X5_goThrough (l : Launch) (d : zD2) (L : List Nat) (kd : Nat → Nat) (κ : Int) (b : Nat) (σ : zS) (hI : zI κ b L kd σ) (a0 : Nat) (ha0 : zT L kd a0 5) (p1 : Nat) (hp1 : zT L kd p1 9) (p2 : Nat) (hp2 : zT L kd p2 1) (p3 : Int32) (p4 : Int32) (hq0 : p3.toInt ≤ 60) : zMv l yX5_goThrough (Cond.code yX5_goThrough cX5_goThrough 6 none :: zWL) 6 [.ref a0, .ref p1, .ref p2, .int p3, .int p4] d L kd σ (fun σ2 => σ2 = F_X5_goThrough a0 p1 p2 p3 p4 σ ∧ zSm [1, 6, 20, 21, 23, 24, 30, 31, 32, 33, 34, 35, 36, 38] [5] L kd σ σ2 ∧ (zI κ 1 L kd σ2)) := by
  refine zMv.of (own := RX5) (by decide +kernel) rfl rfl (Nat.le_of_ble_eq_true rfl) ?_
  intro p e s m args below meth c A Q X ret
  refine zg_lv (lv2 := [(0, .ref a0), (1, .ref p1), (2, .ref p2), (3, .int p3), (4, .int p4)]) rfl ?_
  obtain ⟨R, hR⟩ : ∃ R, R = F_X5_goThrough a0 p1 p2 p3 p4 σ := ⟨_, rfl⟩
  have E := hR
  unfold F_X5_goThrough at E
  have hS : zSm [1, 6, 20, 21, 23, 24, 30, 31, 32, 33, 34, 35, 36, 38] [5] L kd σ σ := zSm.rf
  refine zg_aload_n X 0 rfl dX5_goThrough_0 ?_
  refine zg_aload_n X 1 rfl dX5_goThrough_1 ?_
  refine zg_aload_n X 2 rfl dX5_goThrough_2 ?_
  refine zg_cVv (As := [.ref p1, .ref p2]) (st := []) X ha0 rfl (by decide) rfl (t_X5_form l d L kd κ b _ hI a0 ha0 p1 hp1 p2 hp2 ) mk_X5_43 mc_X5_form mz_X5 mi_X5_form ml_X5_form (na := 2) ⟨md_X5.1, md_X5.2, by decide +kernel⟩ rfl ⟨by decide, by decide⟩ (Nat.le_of_ble_eq_true rfl) dX5_goThrough_3 (fun s1 hq => ?_)
  obtain ⟨hF, hS2, hI⟩ := hq
  replace E := zLet_s hF E
  have hS := hS.tr hS2 rfl rfl
  refine zg_iconst X 0 dX5_goThrough_6 (by decide) (fun v2 _ hv2 => ?_)
  replace E := zLet_s (zcst hv2 (by decide)) E
  refine zg_istore X [(5, .int v2), (0, .ref a0), (1, .ref p1), (2, .ref p2), (3, .int p3), (4, .int p4)] dX5_goThrough_7 (by decide) rfl ?_
  have Lp4 : ∀ (nLp4 : Nat) (τ4 : zS) (x3 : Int32), zI κ 1 L kd τ4 → zSm [1, 6, 20, 21, 23, 24, 30, 31, 32, 33, 34, 35, 36, 38] [5] L kd σ τ4 → R = F_X5_goThrough_9 a0 p1 p2 p3 p4  nLp4 x3 τ4 → 0 ≤ x3.toInt ∧ x3.toInt ≤ 60 → (60) - x3.toInt + 1 < (nLp4 : Int) → zG d L kd A 6 p l e (k2_rm 6 (100 * 6)) s m args below meth c Q τ4 9 [(5, .int x3), (0, .ref a0), (1, .ref p1), (2, .ref p2), (3, .int p3), (4, .int p4)] [] := by
    intro nLp4
    induction nLp4 with
    | zero => intro τ4 x3 hI hS E  hxLp4 hm ; exact absurd hm (by omega)
    | succ nLp4 ihLp4 =>
      intro τ4 x3 hI hS E  hxLp4 hmLp4 
      rw [F_X5_goThrough_9] at E
      refine zg_iload X 0 rfl dX5_goThrough_9 ?_
      refine zg_iload_n X 4 rfl dX5_goThrough_11 ?_
      have zp3_z5 := zb_rng p3
      refine zg_icmp_ge X 50 dX5_goThrough_12 (by decide) (fun c6 => ?_) (fun c6 => ?_)
      · skip
        replace E := zIf_f (Int.not_lt.mpr c6) E
        exact ret _ _ _ dX5_goThrough_50 ⟨E.symm.trans hR, hS, hI⟩
      · skip
        replace E := zIf_t c6 E
        refine zg_aload_n X 1 rfl dX5_goThrough_15 ?_
        refine zg_aload_n X 2 rfl dX5_goThrough_16 ?_
        refine zg_iload X 5 rfl dX5_goThrough_17 ?_
        refine zg_aload_n X 3 rfl dX5_goThrough_19 ?_
        refine fg_X5_153 X hI hp2 dX5_goThrough_20 (fun v7 ev7 _ => ?_)
        replace E := zLet_s ev7 E
        refine zg_cVi (As := [.int p4, .int v7]) (st := [.ref a0]) X hp1 rfl (by decide) rfl (t_X9_isStorm l d L kd κ 1 _ hI p1 hp1 p4 v7 ) mk_X5_159 mc_X9_isStorm mz_X9 mi_X9_isStorm ml_X9_isStorm (na := 2) ⟨md_X9.1, md_X9.2, by decide +kernel⟩ rfl ⟨by decide, by decide⟩ (Nat.le_of_ble_eq_true rfl) dX5_goThrough_23 (fun v8 s9 hq => ?_)
        obtain ⟨hF, hS2, hI⟩ := hq
        replace E := zLet2_s hF E
        have hS := hS.tr hS2 rfl rfl
        obtain ⟨hv8, hI⟩ := hI
        refine zg_if_eq X 36 dX5_goThrough_26 (by decide) (fun c10 => ?_) (fun c10 => ?_)
        · skip
          replace E := zIf_t c10 E
          refine zg_iconst X 0 dX5_goThrough_36 (by decide) (fun v11 _ hv11 => ?_)
          replace E := zLet_s (zcst hv11 (by decide)) E
          refine zg_cVv (As := [.int v11]) (st := []) X ha0 rfl (by decide) rfl (t_X5_fall l d L kd κ _ hI a0 ha0 v11 ) mk_X5_47 mc_X5_fall mz_X5 mi_X5_fall ml_X5_fall (na := 1) ⟨md_X5.1, md_X5.2, by decide +kernel⟩ rfl ⟨by decide, by decide⟩ (Nat.le_of_ble_eq_true rfl) dX5_goThrough_37 (fun s12 hq => ?_)
          obtain ⟨hF, hS2, hI⟩ := hq
          replace E := zLet_s hF E
          have hS := hS.tr hS2 rfl rfl
          refine zg_aload_n X 1 rfl dX5_goThrough_40 ?_
          refine zg_cVv (As := []) (st := []) X ha0 rfl (by decide) rfl (t_X5_endMonth l d L kd κ _ hI a0 ha0 ) mk_X5_156 mc_X5_endMonth mz_X5 mi_X5_endMonth ml_X5_endMonth (na := 0) ⟨md_X5.1, md_X5.2, by decide +kernel⟩ rfl ⟨by decide, by decide⟩ (Nat.le_of_ble_eq_true rfl) dX5_goThrough_41 (fun s13 hq => ?_)
          obtain ⟨hF, hS2, hI⟩ := hq
          replace E := zLet_s hF E
          have hS := hS.tr hS2 rfl rfl
          refine zg_iinc X 1 (fun v14 => [(5, .int v14), (0, .ref a0), (1, .ref p1), (2, .ref p2), (3, .int p3), (4, .int p4)]) 0 dX5_goThrough_44 rfl (by decide) (by decide) (by omega) (by omega) (fun _ => rfl) (fun v14 ev14 hv14 => ?_)
          replace E := zLet_s (zinc ev14 (by decide)) E
          refine zg_goto X 9 dX5_goThrough_47 (by decide) ?_
          refine zg_sub [0, 1, 2, 3, 4, 5] rfl ?_
          exact ihLp4 _ v14 hI hS E  (by omega) (by omega) 
        · skip
          replace E := zIf_f c10 E
          refine zg_aload_n X 2 rfl dX5_goThrough_29 ?_
          refine fg_X5_162 X hI hp1 dX5_goThrough_30 (fun v15 ev15 _ => ?_)
          replace E := zLet_s ev15 E
          refine zg_goto X 37 dX5_goThrough_33 (by decide) ?_
          refine zg_cVv (As := [.int v15]) (st := []) X ha0 rfl (by decide) rfl (t_X5_fall l d L kd κ _ hI a0 ha0 v15 ) mk_X5_47 mc_X5_fall mz_X5 mi_X5_fall ml_X5_fall (na := 1) ⟨md_X5.1, md_X5.2, by decide +kernel⟩ rfl ⟨by decide, by decide⟩ (Nat.le_of_ble_eq_true rfl) dX5_goThrough_37 (fun s16 hq => ?_)
          obtain ⟨hF, hS2, hI⟩ := hq
          replace E := zLet_s hF E
          have hS := hS.tr hS2 rfl rfl
          refine zg_aload_n X 1 rfl dX5_goThrough_40 ?_
          refine zg_cVv (As := []) (st := []) X ha0 rfl (by decide) rfl (t_X5_endMonth l d L kd κ _ hI a0 ha0 ) mk_X5_156 mc_X5_endMonth mz_X5 mi_X5_endMonth ml_X5_endMonth (na := 0) ⟨md_X5.1, md_X5.2, by decide +kernel⟩ rfl ⟨by decide, by decide⟩ (Nat.le_of_ble_eq_true rfl) dX5_goThrough_41 (fun s17 hq => ?_)
          obtain ⟨hF, hS2, hI⟩ := hq
          replace E := zLet_s hF E
          have hS := hS.tr hS2 rfl rfl
          refine zg_iinc X 1 (fun v18 => [(5, .int v18), (0, .ref a0), (1, .ref p1), (2, .ref p2), (3, .int p3), (4, .int p4)]) 0 dX5_goThrough_44 rfl (by decide) (by decide) (by omega) (by omega) (fun _ => rfl) (fun v18 ev18 hv18 => ?_)
          replace E := zLet_s (zinc ev18 (by decide)) E
          refine zg_goto X 9 dX5_goThrough_47 (by decide) ?_
          refine zg_sub [0, 1, 2, 3, 4, 5] rfl ?_
          exact ihLp4 _ v18 hI hS E  (by omega) (by omega) 
  refine zg_sub [0, 1, 2, 3, 4, 5] rfl ?_
  exact Lp4 10000 _ v2 hI hS E  (by omega) (by omega) 
set_option maxHeartbeats 4000000 in
set_option maxRecDepth 100000 in
theorem t_X2_add (l : Launch) (d : zD2) (L : List Nat) (kd : Nat → Nat) (κ : Int) (b : Nat) (σ : zS) (hI : zI κ b L kd σ) (a0 : Nat) (ha0 : zT L kd a0 2) (p1 : Int32) (p2 : Int32) (p3 : Int32) (p4 : Int32) (hq0 : 0 ≤ p1.toInt ∧ p1.toInt ≤ 11) (hq1 : 0 ≤ p4.toInt ∧ p4.toInt ≤ 1) : zMi l yX2_add (Cond.code yX2_add cX2_add 5 (some .int) :: zWL) 0 [.ref a0, .int p1, .int p2, .int p3, .int p4] d L kd σ (fun v σ2 => (v, σ2) = F_X2_add a0 p1 p2 p3 p4 σ ∧ zSm [2, 25, 26, 27, 28] [] L kd σ σ2 ∧ (zI κ b L kd σ2)) := by
  refine zMi.of (own := RX2) (by decide +kernel) rfl rfl (Nat.le_of_ble_eq_true rfl) ?_
  intro p e s m args below meth c A Q X ret
  refine zg_lv (lv2 := [(0, .ref a0), (1, .int p1), (2, .int p2), (3, .int p3), (4, .int p4)]) rfl ?_
  obtain ⟨R, hR⟩ : ∃ R, R = F_X2_add a0 p1 p2 p3 p4 σ := ⟨_, rfl⟩
  have E := hR
  unfold F_X2_add at E
  have hS : zSm [2, 25, 26, 27, 28] [] L kd σ σ := zSm.rf
  refine zg_aload_n X 0 rfl dX2_add_0 ?_
  refine fg_X2_25 X hI ha0 dX2_add_1 (fun v1 ev1 hv1 => ?_)
  replace E := zLet_s ev1 E
  refine zg_bipush X 20 dX2_add_4 (by decide) (fun v2 _ hv2 => ?_)
  replace E := zLet_s (zcst hv2 (by decide)) E
  refine zg_icmp_lt X 11 dX2_add_6 (by decide) (fun c3 => ?_) (fun c3 => ?_)
  · skip
    replace E := zIf_t c3 E
    refine zg_aload_n X 0 rfl dX2_add_11 ?_
    refine fg_X2_11 X hI ha0 dX2_add_12 (fun v4 ev4 hv4 => ?_)
    replace E := zLet_s (zgr ev4) E
    refine zg_aload_n X 0 rfl dX2_add_15 ?_
    refine fg_X2_25 X hI ha0 dX2_add_16 (fun v5 ev5 hv5 => ?_)
    replace E := zLet_s ev5 E
    have mv5 : v5.toInt = v1.toInt := by rw [ev5, ← ev1]
    refine zg_iload_n X 1 rfl dX2_add_19 ?_
    refine as_25 X hI hv4 (by omega) (by omega) ⟨by omega, by omega⟩ dX2_add_20 (fun s6 es6 hI => ?_)
    replace E := zLet_s es6 E
    have hS := hS.i hv4 es6 rfl
    have e7 : v5 = s6.1 a0 4 := by rw [es6]; exact zm_k hv4 ha0 (by decide) ev5
    refine zg_aload_n X 0 rfl dX2_add_21 ?_
    refine fg_X2_15 X hI ha0 dX2_add_22 (fun v8 ev8 hv8 => ?_)
    replace E := zLet_s (zgr ev8) E
    refine zg_aload_n X 0 rfl dX2_add_25 ?_
    refine fg_X2_25 X hI ha0 dX2_add_26 (fun v9 ev9 hv9 => ?_)
    replace E := zLet_s ev9 E
    have mv9 : v9.toInt = v5.toInt := by rw [ev9, ← e7]
    refine zg_iload_n X 2 rfl dX2_add_29 ?_
    refine as_26 X hI hv8 (by omega) (by omega) dX2_add_30 (fun s10 es10 hI => ?_)
    replace E := zLet_s es10 E
    have hS := hS.i hv8 es10 rfl
    have e11 : v9 = s10.1 a0 4 := by rw [es10]; exact zm_k hv8 ha0 (by decide) ev9
    refine zg_aload_n X 0 rfl dX2_add_31 ?_
    refine fg_X2_18 X hI ha0 dX2_add_32 (fun v12 ev12 hv12 => ?_)
    replace E := zLet_s (zgr ev12) E
    refine zg_aload_n X 0 rfl dX2_add_35 ?_
    refine fg_X2_25 X hI ha0 dX2_add_36 (fun v13 ev13 hv13 => ?_)
    replace E := zLet_s ev13 E
    have mv13 : v13.toInt = v9.toInt := by rw [ev13, ← e11]
    refine zg_iload_n X 3 rfl dX2_add_39 ?_
    refine as_27 X hI hv12 (by omega) (by omega) dX2_add_40 (fun s14 es14 hI => ?_)
    replace E := zLet_s es14 E
    have hS := hS.i hv12 es14 rfl
    have e15 : v13 = s14.1 a0 4 := by rw [es14]; exact zm_k hv12 ha0 (by decide) ev13
    refine zg_aload_n X 0 rfl dX2_add_41 ?_
    refine fg_X2_21 X hI ha0 dX2_add_42 (fun v16 ev16 hv16 => ?_)
    replace E := zLet_s (zgr ev16) E
    refine zg_aload_n X 0 rfl dX2_add_45 ?_
    refine fg_X2_25 X hI ha0 dX2_add_46 (fun v17 ev17 hv17 => ?_)
    replace E := zLet_s ev17 E
    have mv17 : v17.toInt = v13.toInt := by rw [ev17, ← e15]
    refine zg_iload X 4 rfl dX2_add_49 ?_
    refine as_28 X hI hv16 (by omega) (by omega) ⟨by omega, by omega⟩ dX2_add_51 (fun s18 es18 hI => ?_)
    replace E := zLet_s es18 E
    have hS := hS.i hv16 es18 rfl
    have e19 : v17 = s18.1 a0 4 := by rw [es18]; exact zm_k hv16 ha0 (by decide) ev17
    refine zg_aload_n X 0 rfl dX2_add_52 ?_
    refine zg_dup X dX2_add_53 rfl ?_
    refine fg_X2_25 X hI ha0 dX2_add_54 (fun v20 ev20 hv20 => ?_)
    replace E := zLet_s ev20 E
    have mv20 : v20.toInt = v17.toInt := by rw [ev20, ← e19]
    refine zg_iconst X 1 dX2_add_57 (by decide) (fun v21 _ hv21 => ?_)
    replace E := zLet_s (zcst hv21 (by decide)) E
    refine zg_iadd X dX2_add_58 (by omega) (by omega) (fun v22 ev22 hv22 => ?_)
    replace E := zLet_s ev22 E
    refine fp_X2_25 X hI ha0 ⟨by omega, by omega⟩ dX2_add_59 (fun s23 es23 hI => ?_)
    replace E := zLet_s es23 E
    have hS := hS.i ha0 es23 rfl
    have e25 : v22 = s23.1 a0 4 := by rw [es23]; exact zm_s
    refine zg_aload_n X 0 rfl dX2_add_62 ?_
    refine fg_X2_25 X hI ha0 dX2_add_63 (fun v26 ev26 hv26 => ?_)
    replace E := zLet_s ev26 E
    have mv26 : v26.toInt = v22.toInt := by rw [ev26, ← e25]
    refine zg_iconst X 1 dX2_add_66 (by decide) (fun v27 _ hv27 => ?_)
    replace E := zLet_s (zcst hv27 (by decide)) E
    refine zg_isub X dX2_add_67 (by omega) (by omega) (fun v28 ev28 hv28 => ?_)
    replace E := zLet_s ev28 E
    exact ret _ _ _ _ dX2_add_68 rfl ⟨E.symm.trans hR, hS, hI⟩
  · skip
    replace E := zIf_f (Int.not_lt.mpr c3) E
    refine zg_iconst X (-1) dX2_add_9 (by decide) (fun v29 _ hv29 => ?_)
    replace E := zLet_s (zcst hv29 (by decide)) E
    exact ret _ _ _ _ dX2_add_10 rfl ⟨E.symm.trans hR, hS, hI⟩
set_option maxHeartbeats 4000000 in
set_option maxRecDepth 100000 in
theorem t_X2_isSo (l : Launch) (d : zD2) (L : List Nat) (kd : Nat → Nat) (κ : Int) (b : Nat) (σ : zS) (hI : zI κ b L kd σ) (a0 : Nat) (ha0 : zT L kd a0 2) (p1 : Nat) (hp1 : zT L kd p1 6) (p2 : Int32) (p3 : Int32) (hq0 : 0 ≤ p2.toInt ∧ p2.toInt ≤ 11) : zMi l yX2_isSo (Cond.code yX2_isSo cX2_isSo 8 (some .boolean) :: zWL) 2 [.ref a0, .ref p1, .int p2, .int p3] d L kd σ (fun v σ2 => (v, σ2) = F_X2_isSo a0 p1 p2 p3 σ ∧ zSm [] [] L kd σ σ2 ∧ ((0 ≤ v.toInt ∧ v.toInt ≤ 1) ∧ zI κ b L kd σ2)) := by
  refine zMi.of (own := RX2) (by decide +kernel) rfl rfl (Nat.le_of_ble_eq_true rfl) ?_
  intro p e s m args below meth c A Q X ret
  refine zg_lv (lv2 := [(0, .ref a0), (1, .ref p1), (2, .int p2), (3, .int p3)]) rfl ?_
  obtain ⟨R, hR⟩ : ∃ R, R = F_X2_isSo a0 p1 p2 p3 σ := ⟨_, rfl⟩
  have E := hR
  unfold F_X2_isSo at E
  have hS : zSm [] [] L kd σ σ := zSm.rf
  refine zg_iconst X 1 dX2_isSo_0 (by decide) (fun v1 _ hv1 => ?_)
  replace E := zLet_s (zcst hv1 (by decide)) E
  refine zg_istore X [(4, .int v1), (0, .ref a0), (1, .ref p1), (2, .int p2), (3, .int p3)] dX2_isSo_1 (by decide) rfl ?_
  refine zg_iconst X 0 dX2_isSo_3 (by decide) (fun v2 _ hv2 => ?_)
  replace E := zLet_s (zcst hv2 (by decide)) E
  refine zg_istore X [(5, .int v2), (4, .int v1), (0, .ref a0), (1, .ref p1), (2, .int p2), (3, .int p3)] dX2_isSo_4 (by decide) rfl ?_
  have Lp5 : ∀ (nLp5 : Nat) (τ5 : zS) (x3 : Int32) (x4 : Int32), zI κ b L kd τ5 → zSm [] [] L kd σ τ5 → R = F_X2_isSo_6 a0 p1 p2 p3  nLp5 x3 x4 τ5 → 0 ≤ x4.toInt ∧ x4.toInt ≤ 1 ∧ 0 ≤ x3.toInt ∧ x3.toInt ≤ 20 → 20 - x3.toInt + 1 < (nLp5 : Int) → zG d L kd A 8 p l e (k2_rm 2 (100 * 2)) s m args below meth c Q τ5 6 [(5, .int x3), (4, .int x4), (0, .ref a0), (1, .ref p1), (2, .int p2), (3, .int p3)] [] := by
    intro nLp5
    induction nLp5 with
    | zero => intro τ5 x3 x4 hI hS E  hxLp5 hm ; exact absurd hm (by omega)
    | succ nLp5 ihLp5 =>
      intro τ5 x3 x4 hI hS E  hxLp5 hmLp5 
      rw [F_X2_isSo_6] at E
      refine zg_iload X 0 rfl dX2_isSo_6 ?_
      refine zg_iload_n X 5 rfl dX2_isSo_8 ?_
      have zp3_z6 := zb_rng p3
      refine zg_icmp_ge X 120 dX2_isSo_9 (by decide) (fun c7 => ?_) (fun c7 => ?_)
      · skip
        replace E := zIf_f (Int.not_lt.mpr c7) E
        refine zg_iload X 1 rfl dX2_isSo_120 ?_
        exact ret _ _ _ _ dX2_isSo_122 (zb_bool ⟨by omega, by omega⟩) ⟨E.symm.trans hR, hS, ⟨⟨by omega, by omega⟩, hI⟩⟩
      · skip
        replace E := zIf_t c7 E
        refine zg_iload X 0 rfl dX2_isSo_12 ?_
        refine zg_aload_n X 2 rfl dX2_isSo_14 ?_
        refine fg_X2_25 X hI ha0 dX2_isSo_15 (fun v8 ev8 hv8 => ?_)
        replace E := zLet_s ev8 E
        refine zg_icmp_ge X 120 dX2_isSo_18 (by decide) (fun c9 => ?_) (fun c9 => ?_)
        · skip
          replace E := zIf_f (Int.not_lt.mpr c9) E
          refine zg_iload X 1 rfl dX2_isSo_120 ?_
          exact ret _ _ _ _ dX2_isSo_122 (zb_bool ⟨by omega, by omega⟩) ⟨E.symm.trans hR, hS, ⟨⟨by omega, by omega⟩, hI⟩⟩
        · skip
          replace E := zIf_t c9 E
          refine zg_aload_n X 3 rfl dX2_isSo_21 ?_
          refine fg_X2_46 X hI hp1 dX2_isSo_22 (fun v10 ev10 hv10 => ?_)
          replace E := zLet_s (zgr ev10) E
          refine zg_iload_n X 4 rfl dX2_isSo_25 ?_
          refine ag_35 X hI hv10 (by omega) (by omega) dX2_isSo_26 (fun v11 ev11 _ => ?_)
          replace E := zLet_s ev11 E
          refine zg_aload_n X 3 rfl dX2_isSo_27 ?_
          refine fg_X2_46 X hI hp1 dX2_isSo_28 (fun v12 ev12 hv12 => ?_)
          replace E := zLet_s (zgr ev12) E
          refine zg_aload_n X 2 rfl dX2_isSo_31 ?_
          refine fg_X2_11 X hI ha0 dX2_isSo_32 (fun v13 ev13 hv13 => ?_)
          replace E := zLet_s (zgr ev13) E
          refine zg_iload X 0 rfl dX2_isSo_35 ?_
          refine ag_25 X hI hv13 (by omega) (by omega) dX2_isSo_37 (fun v14 ev14 hv14 => ?_)
          replace E := zLet_s ev14 E
          refine ag_35 X hI hv12 (by omega) (by omega) dX2_isSo_38 (fun v15 ev15 _ => ?_)
          replace E := zLet_s ev15 E
          refine zg_isubW X dX2_isSo_39 (fun v16 ev16 => ?_)
          replace E := zLet_s ev16 E
          refine zg_istore X [(6, .int v16), (5, .int x3), (4, .int x4), (0, .ref a0), (1, .ref p1), (2, .int p2), (3, .int p3)] dX2_isSo_40 (by decide) rfl ?_
          refine zg_aload_n X 4 rfl dX2_isSo_42 ?_
          refine fg_X2_49 X hI hp1 dX2_isSo_43 (fun v17 ev17 hv17 => ?_)
          replace E := zLet_s (zgr ev17) E
          refine zg_iload_n X 5 rfl dX2_isSo_46 ?_
          refine ag_38 X hI hv17 (by omega) (by omega) dX2_isSo_47 (fun v18 ev18 _ => ?_)
          replace E := zLet_s ev18 E
          refine zg_aload_n X 3 rfl dX2_isSo_48 ?_
          refine fg_X2_11 X hI ha0 dX2_isSo_49 (fun v19 ev19 hv19 => ?_)
          replace E := zLet_s (zgr ev19) E
          refine zg_iload X 1 rfl dX2_isSo_52 ?_
          refine ag_25 X hI hv19 (by omega) (by omega) dX2_isSo_54 (fun v20 ev20 hv20 => ?_)
          replace E := zLet_s ev20 E
          refine zg_cSNi (As := [.int v18, .int v20]) (st := []) X (t_X10_has l d L kd _ v18 v20 ) mk_X2_52 mc_X10_has mz_X10 ms_X10_has (na := 2) ⟨md_X10.1, md_X10.2, by decide +kernel⟩ rfl ⟨by decide, by decide⟩ (Nat.le_of_ble_eq_true rfl) dX2_isSo_55 (fun v21 σ2 hq => ?_)
          obtain ⟨⟨hF, hv21⟩, rfl⟩ := hq
          replace E := zLet_s hF E
          refine zg_if_eq X 87 dX2_isSo_58 (by decide) (fun c22 => ?_) (fun c22 => ?_)
          · skip
            replace E := zIf_t c22 E
            refine zg_iconst X 0 dX2_isSo_87 (by decide) (fun v23 _ hv23 => ?_)
            replace E := zLet_s (zcst hv23 (by decide)) E
            refine zg_istore X [(7, .int v23), (6, .int v16), (5, .int x3), (4, .int x4), (0, .ref a0), (1, .ref p1), (2, .int p2), (3, .int p3)] dX2_isSo_88 (by decide) rfl ?_
            refine zg_iload X 3 rfl dX2_isSo_90 ?_
            refine zg_if_eq X 111 dX2_isSo_92 (by decide) (fun c24 => ?_) (fun c24 => ?_)
            · skip
              replace E := zIf_t c24 E
              refine zg_iconst X 0 dX2_isSo_111 (by decide) (fun v25 _ hv25 => ?_)
              replace E := zLet_s (zcst hv25 (by decide)) E
              refine zg_istore X [(4, .int v25), (7, .int v23), (6, .int v16), (5, .int x3), (0, .ref a0), (1, .ref p1), (2, .int p2), (3, .int p3)] dX2_isSo_112 (by decide) rfl ?_
              refine zg_iinc X 1 (fun v26 => [(5, .int v26), (4, .int v25), (7, .int v23), (6, .int v16), (0, .ref a0), (1, .ref p1), (2, .int p2), (3, .int p3)]) 3 dX2_isSo_114 rfl (by decide) (by decide) (by omega) (by omega) (fun _ => rfl) (fun v26 ev26 hv26 => ?_)
              replace E := zLet_s (zinc ev26 (by decide)) E
              refine zg_goto X 6 dX2_isSo_117 (by decide) ?_
              refine zg_sub [0, 1, 4, 5, 6, 7] rfl ?_
              exact ihLp5 _ v26 v25 hI hS E  (by omega) (by omega) 
            · skip
              replace E := zIf_f c24 E
              refine zg_iload X 0 rfl dX2_isSo_95 ?_
              refine zg_aload_n X 4 rfl dX2_isSo_97 ?_
              refine fg_X2_21 X hI ha0 dX2_isSo_98 (fun v27 ev27 hv27 => ?_)
              replace E := zLet_s (zgr ev27) E
              refine zg_iload X 2 rfl dX2_isSo_101 ?_
              refine ag_28 X hI hv27 (by omega) (by omega) dX2_isSo_103 (fun v28 ev28 hv28 => ?_)
              replace E := zLet_s ev28 E
              refine zg_icmp_ne X 111 dX2_isSo_104 (by decide) (fun c29 => ?_) (fun c29 => ?_)
              · skip
                replace E := zIf_f c29 E
                refine zg_iconst X 0 dX2_isSo_111 (by decide) (fun v30 _ hv30 => ?_)
                replace E := zLet_s (zcst hv30 (by decide)) E
                refine zg_istore X [(4, .int v30), (7, .int v23), (6, .int v16), (5, .int x3), (0, .ref a0), (1, .ref p1), (2, .int p2), (3, .int p3)] dX2_isSo_112 (by decide) rfl ?_
                refine zg_iinc X 1 (fun v31 => [(5, .int v31), (4, .int v30), (7, .int v23), (6, .int v16), (0, .ref a0), (1, .ref p1), (2, .int p2), (3, .int p3)]) 3 dX2_isSo_114 rfl (by decide) (by decide) (by omega) (by omega) (fun _ => rfl) (fun v31 ev31 hv31 => ?_)
                replace E := zLet_s (zinc ev31 (by decide)) E
                refine zg_goto X 6 dX2_isSo_117 (by decide) ?_
                refine zg_sub [0, 1, 4, 5, 6, 7] rfl ?_
                exact ihLp5 _ v31 v30 hI hS E  (by omega) (by omega) 
              · skip
                replace E := zIf_t c29 E
                refine zg_iconst X 1 dX2_isSo_107 (by decide) (fun v32 _ hv32 => ?_)
                replace E := zLet_s (zcst hv32 (by decide)) E
                refine zg_goto X 112 dX2_isSo_108 (by decide) ?_
                refine zg_istore X [(4, .int v32), (7, .int v23), (6, .int v16), (5, .int x3), (0, .ref a0), (1, .ref p1), (2, .int p2), (3, .int p3)] dX2_isSo_112 (by decide) rfl ?_
                refine zg_iinc X 1 (fun v33 => [(5, .int v33), (4, .int v32), (7, .int v23), (6, .int v16), (0, .ref a0), (1, .ref p1), (2, .int p2), (3, .int p3)]) 3 dX2_isSo_114 rfl (by decide) (by decide) (by omega) (by omega) (fun _ => rfl) (fun v33 ev33 hv33 => ?_)
                replace E := zLet_s (zinc ev33 (by decide)) E
                refine zg_goto X 6 dX2_isSo_117 (by decide) ?_
                refine zg_sub [0, 1, 4, 5, 6, 7] rfl ?_
                exact ihLp5 _ v33 v32 hI hS E  (by omega) (by omega) 
          · skip
            replace E := zIf_f c22 E
            refine zg_iload X 0 rfl dX2_isSo_61 ?_
            refine zg_aload_n X 3 rfl dX2_isSo_63 ?_
            refine fg_X2_15 X hI ha0 dX2_isSo_64 (fun v34 ev34 hv34 => ?_)
            replace E := zLet_s (zgr ev34) E
            refine zg_iload X 1 rfl dX2_isSo_67 ?_
            refine ag_26 X hI hv34 (by omega) (by omega) dX2_isSo_69 (fun v35 ev35 _ => ?_)
            replace E := zLet_s ev35 E
            refine zg_aload_n X 3 rfl dX2_isSo_70 ?_
            refine fg_X2_18 X hI ha0 dX2_isSo_71 (fun v36 ev36 hv36 => ?_)
            replace E := zLet_s (zgr ev36) E
            refine zg_iload X 1 rfl dX2_isSo_74 ?_
            refine ag_27 X hI hv36 (by omega) (by omega) dX2_isSo_76 (fun v37 ev37 _ => ?_)
            replace E := zLet_s ev37 E
            refine zg_cSNi (As := [.int v16, .int v35, .int v37]) (st := []) X (t_X10_isWithin l d L kd _ v16 v35 v37 ) mk_X2_56 mc_X10_isWithin mz_X10 ms_X10_isWithin (na := 3) ⟨md_X10.1, md_X10.2, by decide +kernel⟩ rfl ⟨by decide, by decide⟩ (Nat.le_of_ble_eq_true rfl) dX2_isSo_77 (fun v38 σ2 hq => ?_)
            obtain ⟨⟨hF, hv38⟩, rfl⟩ := hq
            replace E := zLet_s hF E
            refine zg_if_eq X 87 dX2_isSo_80 (by decide) (fun c39 => ?_) (fun c39 => ?_)
            · skip
              replace E := zIf_t c39 E
              refine zg_iconst X 0 dX2_isSo_87 (by decide) (fun v40 _ hv40 => ?_)
              replace E := zLet_s (zcst hv40 (by decide)) E
              refine zg_istore X [(7, .int v40), (6, .int v16), (5, .int x3), (4, .int x4), (0, .ref a0), (1, .ref p1), (2, .int p2), (3, .int p3)] dX2_isSo_88 (by decide) rfl ?_
              refine zg_iload X 3 rfl dX2_isSo_90 ?_
              refine zg_if_eq X 111 dX2_isSo_92 (by decide) (fun c41 => ?_) (fun c41 => ?_)
              · skip
                replace E := zIf_t c41 E
                refine zg_iconst X 0 dX2_isSo_111 (by decide) (fun v42 _ hv42 => ?_)
                replace E := zLet_s (zcst hv42 (by decide)) E
                refine zg_istore X [(4, .int v42), (7, .int v40), (6, .int v16), (5, .int x3), (0, .ref a0), (1, .ref p1), (2, .int p2), (3, .int p3)] dX2_isSo_112 (by decide) rfl ?_
                refine zg_iinc X 1 (fun v43 => [(5, .int v43), (4, .int v42), (7, .int v40), (6, .int v16), (0, .ref a0), (1, .ref p1), (2, .int p2), (3, .int p3)]) 3 dX2_isSo_114 rfl (by decide) (by decide) (by omega) (by omega) (fun _ => rfl) (fun v43 ev43 hv43 => ?_)
                replace E := zLet_s (zinc ev43 (by decide)) E
                refine zg_goto X 6 dX2_isSo_117 (by decide) ?_
                refine zg_sub [0, 1, 4, 5, 6, 7] rfl ?_
                exact ihLp5 _ v43 v42 hI hS E  (by omega) (by omega) 
              · skip
                replace E := zIf_f c41 E
                refine zg_iload X 0 rfl dX2_isSo_95 ?_
                refine zg_aload_n X 4 rfl dX2_isSo_97 ?_
                refine fg_X2_21 X hI ha0 dX2_isSo_98 (fun v44 ev44 hv44 => ?_)
                replace E := zLet_s (zgr ev44) E
                refine zg_iload X 2 rfl dX2_isSo_101 ?_
                refine ag_28 X hI hv44 (by omega) (by omega) dX2_isSo_103 (fun v45 ev45 hv45 => ?_)
                replace E := zLet_s ev45 E
                refine zg_icmp_ne X 111 dX2_isSo_104 (by decide) (fun c46 => ?_) (fun c46 => ?_)
                · skip
                  replace E := zIf_f c46 E
                  refine zg_iconst X 0 dX2_isSo_111 (by decide) (fun v47 _ hv47 => ?_)
                  replace E := zLet_s (zcst hv47 (by decide)) E
                  refine zg_istore X [(4, .int v47), (7, .int v40), (6, .int v16), (5, .int x3), (0, .ref a0), (1, .ref p1), (2, .int p2), (3, .int p3)] dX2_isSo_112 (by decide) rfl ?_
                  refine zg_iinc X 1 (fun v48 => [(5, .int v48), (4, .int v47), (7, .int v40), (6, .int v16), (0, .ref a0), (1, .ref p1), (2, .int p2), (3, .int p3)]) 3 dX2_isSo_114 rfl (by decide) (by decide) (by omega) (by omega) (fun _ => rfl) (fun v48 ev48 hv48 => ?_)
                  replace E := zLet_s (zinc ev48 (by decide)) E
                  refine zg_goto X 6 dX2_isSo_117 (by decide) ?_
                  refine zg_sub [0, 1, 4, 5, 6, 7] rfl ?_
                  exact ihLp5 _ v48 v47 hI hS E  (by omega) (by omega) 
                · skip
                  replace E := zIf_t c46 E
                  refine zg_iconst X 1 dX2_isSo_107 (by decide) (fun v49 _ hv49 => ?_)
                  replace E := zLet_s (zcst hv49 (by decide)) E
                  refine zg_goto X 112 dX2_isSo_108 (by decide) ?_
                  refine zg_istore X [(4, .int v49), (7, .int v40), (6, .int v16), (5, .int x3), (0, .ref a0), (1, .ref p1), (2, .int p2), (3, .int p3)] dX2_isSo_112 (by decide) rfl ?_
                  refine zg_iinc X 1 (fun v50 => [(5, .int v50), (4, .int v49), (7, .int v40), (6, .int v16), (0, .ref a0), (1, .ref p1), (2, .int p2), (3, .int p3)]) 3 dX2_isSo_114 rfl (by decide) (by decide) (by omega) (by omega) (fun _ => rfl) (fun v50 ev50 hv50 => ?_)
                  replace E := zLet_s (zinc ev50 (by decide)) E
                  refine zg_goto X 6 dX2_isSo_117 (by decide) ?_
                  refine zg_sub [0, 1, 4, 5, 6, 7] rfl ?_
                  exact ihLp5 _ v50 v49 hI hS E  (by omega) (by omega) 
            · skip
              replace E := zIf_f c39 E
              refine zg_iconst X 1 dX2_isSo_83 (by decide) (fun v51 _ hv51 => ?_)
              replace E := zLet_s (zcst hv51 (by decide)) E
              refine zg_goto X 88 dX2_isSo_84 (by decide) ?_
              refine zg_istore X [(7, .int v51), (6, .int v16), (5, .int x3), (4, .int x4), (0, .ref a0), (1, .ref p1), (2, .int p2), (3, .int p3)] dX2_isSo_88 (by decide) rfl ?_
              refine zg_iload X 3 rfl dX2_isSo_90 ?_
              refine zg_if_eq X 111 dX2_isSo_92 (by decide) (fun c52 => ?_) (fun c52 => ?_)
              · skip
                replace E := zIf_t c52 E
                refine zg_iconst X 0 dX2_isSo_111 (by decide) (fun v53 _ hv53 => ?_)
                replace E := zLet_s (zcst hv53 (by decide)) E
                refine zg_istore X [(4, .int v53), (7, .int v51), (6, .int v16), (5, .int x3), (0, .ref a0), (1, .ref p1), (2, .int p2), (3, .int p3)] dX2_isSo_112 (by decide) rfl ?_
                refine zg_iinc X 1 (fun v54 => [(5, .int v54), (4, .int v53), (7, .int v51), (6, .int v16), (0, .ref a0), (1, .ref p1), (2, .int p2), (3, .int p3)]) 3 dX2_isSo_114 rfl (by decide) (by decide) (by omega) (by omega) (fun _ => rfl) (fun v54 ev54 hv54 => ?_)
                replace E := zLet_s (zinc ev54 (by decide)) E
                refine zg_goto X 6 dX2_isSo_117 (by decide) ?_
                refine zg_sub [0, 1, 4, 5, 6, 7] rfl ?_
                exact ihLp5 _ v54 v53 hI hS E  (by omega) (by omega) 
              · skip
                replace E := zIf_f c52 E
                refine zg_iload X 0 rfl dX2_isSo_95 ?_
                refine zg_aload_n X 4 rfl dX2_isSo_97 ?_
                refine fg_X2_21 X hI ha0 dX2_isSo_98 (fun v55 ev55 hv55 => ?_)
                replace E := zLet_s (zgr ev55) E
                refine zg_iload X 2 rfl dX2_isSo_101 ?_
                refine ag_28 X hI hv55 (by omega) (by omega) dX2_isSo_103 (fun v56 ev56 hv56 => ?_)
                replace E := zLet_s ev56 E
                refine zg_icmp_ne X 111 dX2_isSo_104 (by decide) (fun c57 => ?_) (fun c57 => ?_)
                · skip
                  replace E := zIf_f c57 E
                  refine zg_iconst X 0 dX2_isSo_111 (by decide) (fun v58 _ hv58 => ?_)
                  replace E := zLet_s (zcst hv58 (by decide)) E
                  refine zg_istore X [(4, .int v58), (7, .int v51), (6, .int v16), (5, .int x3), (0, .ref a0), (1, .ref p1), (2, .int p2), (3, .int p3)] dX2_isSo_112 (by decide) rfl ?_
                  refine zg_iinc X 1 (fun v59 => [(5, .int v59), (4, .int v58), (7, .int v51), (6, .int v16), (0, .ref a0), (1, .ref p1), (2, .int p2), (3, .int p3)]) 3 dX2_isSo_114 rfl (by decide) (by decide) (by omega) (by omega) (fun _ => rfl) (fun v59 ev59 hv59 => ?_)
                  replace E := zLet_s (zinc ev59 (by decide)) E
                  refine zg_goto X 6 dX2_isSo_117 (by decide) ?_
                  refine zg_sub [0, 1, 4, 5, 6, 7] rfl ?_
                  exact ihLp5 _ v59 v58 hI hS E  (by omega) (by omega) 
                · skip
                  replace E := zIf_t c57 E
                  refine zg_iconst X 1 dX2_isSo_107 (by decide) (fun v60 _ hv60 => ?_)
                  replace E := zLet_s (zcst hv60 (by decide)) E
                  refine zg_goto X 112 dX2_isSo_108 (by decide) ?_
                  refine zg_istore X [(4, .int v60), (7, .int v51), (6, .int v16), (5, .int x3), (0, .ref a0), (1, .ref p1), (2, .int p2), (3, .int p3)] dX2_isSo_112 (by decide) rfl ?_
                  refine zg_iinc X 1 (fun v61 => [(5, .int v61), (4, .int v60), (7, .int v51), (6, .int v16), (0, .ref a0), (1, .ref p1), (2, .int p2), (3, .int p3)]) 3 dX2_isSo_114 rfl (by decide) (by decide) (by omega) (by omega) (fun _ => rfl) (fun v61 ev61 hv61 => ?_)
                  replace E := zLet_s (zinc ev61 (by decide)) E
                  refine zg_goto X 6 dX2_isSo_117 (by decide) ?_
                  refine zg_sub [0, 1, 4, 5, 6, 7] rfl ?_
                  exact ihLp5 _ v61 v60 hI hS E  (by omega) (by omega) 
  refine zg_sub [0, 1, 2, 3, 4, 5] rfl ?_
  exact Lp5 4294967299 _ v2 v1 hI hS E  (by omega) (by omega) 
set_option maxHeartbeats 4000000 in
set_option maxRecDepth 100000 in
theorem t_X2_left (l : Launch) (d : zD2) (L : List Nat) (kd : Nat → Nat) (κ : Int) (b : Nat) (σ : zS) (hI : zI κ b L kd σ) (a0 : Nat) (ha0 : zT L kd a0 2) (p1 : Nat) (hp1 : zT L kd p1 6) (p2 : Int32) : zMi l yX2_left (Cond.code yX2_left cX2_left 5 (some .int) :: zWL) 3 [.ref a0, .ref p1, .int p2] d L kd σ (fun v σ2 => (v, σ2) = F_X2_left a0 p1 p2 σ ∧ zSm [] [] L kd σ σ2 ∧ (zI κ b L kd σ2)) := by
  refine zMi.of (own := RX2) (by decide +kernel) rfl rfl (Nat.le_of_ble_eq_true rfl) ?_
  intro p e s m args below meth c A Q X ret
  refine zg_lv (lv2 := [(0, .ref a0), (1, .ref p1), (2, .int p2)]) rfl ?_
  obtain ⟨R, hR⟩ : ∃ R, R = F_X2_left a0 p1 p2 σ := ⟨_, rfl⟩
  have E := hR
  unfold F_X2_left at E
  have hS : zSm [] [] L kd σ σ := zSm.rf
  refine zg_iconst X 0 dX2_left_0 (by decide) (fun v1 _ hv1 => ?_)
  replace E := zLet_s (zcst hv1 (by decide)) E
  refine zg_istore_n X [(3, .int v1), (0, .ref a0), (1, .ref p1), (2, .int p2)] dX2_left_1 (by decide) rfl ?_
  refine zg_iconst X 1 dX2_left_2 (by decide) (fun v2 _ hv2 => ?_)
  replace E := zLet_s (zcst hv2 (by decide)) E
  refine zg_istore X [(4, .int v2), (3, .int v1), (0, .ref a0), (1, .ref p1), (2, .int p2)] dX2_left_3 (by decide) rfl ?_
  have Lp5 : ∀ (nLp5 : Nat) (τ5 : zS) (x3 : Int32) (x4 : Int32), zI κ b L kd τ5 → zSm [] [] L kd σ τ5 → R = F_X2_left_5 a0 p1 p2  nLp5 x3 x4 τ5 → 1 ≤ x3.toInt ∧ x3.toInt ≤ 12 → (12) - x3.toInt + 1 < (nLp5 : Int) → zG d L kd A 5 p l e (k2_rm 3 (100 * 3)) s m args below meth c Q τ5 5 [(4, .int x3), (3, .int x4), (0, .ref a0), (1, .ref p1), (2, .int p2)] [] := by
    intro nLp5
    induction nLp5 with
    | zero => intro τ5 x3 x4 hI hS E  hxLp5 hm ; exact absurd hm (by omega)
    | succ nLp5 ihLp5 =>
      intro τ5 x3 x4 hI hS E  hxLp5 hmLp5 
      rw [F_X2_left_5] at E
      refine zg_iload X 0 rfl dX2_left_5 ?_
      refine zg_aload_n X 3 rfl dX2_left_7 ?_
      refine fg_X2_29 X hI hp1 dX2_left_8 (fun v6 ev6 hv6 => ?_)
      replace E := zLet_s ev6 E
      refine zg_icmp_ge X 48 dX2_left_11 (by decide) (fun c7 => ?_) (fun c7 => ?_)
      · skip
        replace E := zIf_f (Int.not_lt.mpr c7) E
        refine zg_iload_n X 1 rfl dX2_left_48 ?_
        exact ret _ _ _ _ dX2_left_49 rfl ⟨E.symm.trans hR, hS, hI⟩
      · skip
        replace E := zIf_t c7 E
        refine zg_aload_n X 3 rfl dX2_left_14 ?_
        refine zg_iload X 0 rfl dX2_left_15 ?_
        refine zg_cVi (As := [.int x3]) (st := []) X hp1 rfl (by decide) rfl (t_X6_isSource l d L kd κ b _ hI p1 hp1 x3 ) mk_X2_34 mc_X6_isSource mz_X6 mi_X6_isSource ml_X6_isSource (na := 1) ⟨md_X6.1, md_X6.2, by decide +kernel⟩ rfl ⟨by decide, by decide⟩ (Nat.le_of_ble_eq_true rfl) dX2_left_17 (fun v8 s9 hq => ?_)
        obtain ⟨hF, hS2, hI⟩ := hq
        replace E := zLet2_s hF E
        have hS := hS.tr hS2 rfl rfl
        obtain ⟨hv8, hI⟩ := hI
        refine zg_if_eq X 42 dX2_left_20 (by decide) (fun c10 => ?_) (fun c10 => ?_)
        · skip
          replace E := zIf_t c10 E
          refine zg_iinc X 1 (fun v11 => [(4, .int v11), (3, .int x4), (0, .ref a0), (1, .ref p1), (2, .int p2)]) 0 dX2_left_42 rfl (by decide) (by decide) (by omega) (by omega) (fun _ => rfl) (fun v11 ev11 hv11 => ?_)
          replace E := zLet_s (zinc ev11 (by decide)) E
          refine zg_goto X 5 dX2_left_45 (by decide) ?_
          refine zg_sub [0, 1, 2, 3, 4] rfl ?_
          exact ihLp5 _ v11 x4 hI hS E  (by omega) (by omega) 
        · skip
          replace E := zIf_f c10 E
          refine zg_aload_n X 2 rfl dX2_left_23 ?_
          refine zg_aload_n X 3 rfl dX2_left_24 ?_
          refine zg_iload X 0 rfl dX2_left_25 ?_
          refine zg_iload_n X 4 rfl dX2_left_27 ?_
          refine zg_cVi (As := [.ref p1, .int x3, .int p2]) (st := []) X ha0 rfl (by decide) rfl (t_X2_isSo l d L kd κ b _ hI a0 ha0 p1 hp1 x3 p2 (by omega)) mk_X2_38 mc_X2_isSo mz_X2 mi_X2_isSo ml_X2_isSo (na := 3) ⟨md_X2.1, md_X2.2, by decide +kernel⟩ rfl ⟨by decide, by decide⟩ (Nat.le_of_ble_eq_true rfl) dX2_left_28 (fun v12 s13 hq => ?_)
          obtain ⟨hF, hS2, hI⟩ := hq
          replace E := zLet2_s hF E
          have hS := hS.tr hS2 rfl rfl
          obtain ⟨hv12, hI⟩ := hI
          refine zg_if_eq X 42 dX2_left_31 (by decide) (fun c14 => ?_) (fun c14 => ?_)
          · skip
            replace E := zIf_t c14 E
            refine zg_iinc X 1 (fun v15 => [(4, .int v15), (3, .int x4), (0, .ref a0), (1, .ref p1), (2, .int p2)]) 0 dX2_left_42 rfl (by decide) (by decide) (by omega) (by omega) (fun _ => rfl) (fun v15 ev15 hv15 => ?_)
            replace E := zLet_s (zinc ev15 (by decide)) E
            refine zg_goto X 5 dX2_left_45 (by decide) ?_
            refine zg_sub [0, 1, 2, 3, 4] rfl ?_
            exact ihLp5 _ v15 x4 hI hS E  (by omega) (by omega) 
          · skip
            replace E := zIf_f c14 E
            refine zg_iload_n X 1 rfl dX2_left_34 ?_
            refine zg_iload X 0 rfl dX2_left_35 ?_
            refine zg_cSNi (As := [.int x3]) (st := [.int x4]) X (t_X10_bit l d L kd _ x3 ) mk_X2_42 mc_X10_bit mz_X10 ms_X10_bit (na := 1) ⟨md_X10.1, md_X10.2, by decide +kernel⟩ rfl ⟨by decide, by decide⟩ (Nat.le_of_ble_eq_true rfl) dX2_left_37 (fun v16 σ2 hq => ?_)
            obtain ⟨⟨hF, hv16⟩, rfl⟩ := hq
            replace E := zLet_s hF E
            refine zg_iorW X dX2_left_40 (fun v17 ev17 => ?_)
            replace E := zLet_s ev17 E
            refine zg_istore_n X [(3, .int v17), (4, .int x3), (0, .ref a0), (1, .ref p1), (2, .int p2)] dX2_left_41 (by decide) rfl ?_
            refine zg_iinc X 1 (fun v18 => [(4, .int v18), (3, .int v17), (0, .ref a0), (1, .ref p1), (2, .int p2)]) 1 dX2_left_42 rfl (by decide) (by decide) (by omega) (by omega) (fun _ => rfl) (fun v18 ev18 hv18 => ?_)
            replace E := zLet_s (zinc ev18 (by decide)) E
            refine zg_goto X 5 dX2_left_45 (by decide) ?_
            refine zg_sub [0, 1, 2, 3, 4] rfl ?_
            exact ihLp5 _ v18 v17 hI hS E  (by omega) (by omega) 
  refine zg_sub [0, 1, 2, 3, 4] rfl ?_
  exact Lp5 10000 _ v2 v1 hI hS E  (by omega) (by omega)
end
-- 12.class2
section
set_option maxHeartbeats 4000000 in
set_option maxRecDepth 100000 in
theorem t_X7_append (l : Launch) (d : zD2) (L : List Nat) (kd : Nat → Nat) (κ : Int) (b : Nat) (σ : zS) (hI : zI κ b L kd σ) (a0 : Nat) (ha0 : zT L kd a0 7) (p1 : Int32) (hq0 : 0 ≤ κ ∧ κ ≤ 1996) : zMv l yX7_append (Cond.code yX7_append cX7_append 3 none :: zWL) 0 [.ref a0, .int p1] d L kd σ (fun σ2 => σ2 = F_X7_append a0 p1 σ ∧ zSm [7, 39] [] L kd σ σ2 ∧ (zI (κ + 4) b L kd σ2)) := by
  refine zMv.of (own := RX7) (by decide +kernel) rfl rfl (Nat.le_of_ble_eq_true rfl) ?_
  intro p e s m args below meth c A Q X ret
  refine zg_lv (lv2 := [(0, .ref a0), (1, .int p1)]) rfl ?_
  obtain ⟨R, hR⟩ : ∃ R, R = F_X7_append a0 p1 σ := ⟨_, rfl⟩
  have E := hR
  unfold F_X7_append at E
  have hS : zSm [7, 39] [] L kd σ σ := zSm.rf
  refine zg_bipush X 24 dX7_append_0 (by decide) (fun v1 _ hv1 => ?_)
  replace E := zLet_s (zcst hv1 (by decide)) E
  refine zg_istore_n X [(2, .int v1), (0, .ref a0), (1, .int p1)] dX7_append_2 (by decide) rfl ?_
  refine zg_iload_n X 0 rfl dX7_append_3 ?_
  refine zg_if_lt X 48 dX7_append_4 (by decide) (fun c2 => ?_) (fun c2 => ?_)
  · omega
  · skip
    replace E := zIf_f (Int.not_lt.mpr c2) E
    refine zg_aload_n X 1 rfl dX7_append_7 ?_
    refine fg_X7_15 X hI ha0 dX7_append_8 (fun v3 ev3 hv3 => ?_)
    replace E := zLet_s ev3 E
    have hkv3 := hI.2.2.1
    refine zg_aload_n X 1 rfl dX7_append_11 ?_
    refine fg_X7_9 X hI ha0 dX7_append_12 (fun v4 ev4 hv4 => ?_)
    replace E := zLet_s (zgr ev4) E
    refine zg_alen12 X hv4 rfl (by decide) dX7_append_15 (fun v5 hv5 => ?_)
    have hv5 : v5.toInt = 2000 := hv5
    replace E := zLet_s (zcst hv5 (by decide)) E
    refine zg_icmp_ge X 42 dX7_append_16 (by decide) (fun c6 => ?_) (fun c6 => ?_)
    · skip
      replace E := zIf_f (Int.not_lt.mpr c6) E
      refine zg_iinc X (-8) (fun v7 => [(2, .int v7), (0, .ref a0), (1, .int p1)]) 0 dX7_append_42 rfl (by decide) (by decide) (by omega) (by omega) (fun _ => rfl) (fun v7 ev7 hv7 => ?_)
      replace E := zLet_s (zinc ev7 (by decide)) E
      refine zg_goto X 3 dX7_append_45 (by decide) ?_
      refine zg_iload_n X 0 rfl dX7_append_3 ?_
      refine zg_if_lt X 48 dX7_append_4 (by decide) (fun c8 => ?_) (fun c8 => ?_)
      · omega
      · skip
        replace E := zIf_f (Int.not_lt.mpr c8) E
        refine zg_aload_n X 1 rfl dX7_append_7 ?_
        refine fg_X7_15 X hI ha0 dX7_append_8 (fun v9 ev9 hv9 => ?_)
        replace E := zLet_s ev9 E
        have hkv9 := hI.2.2.1
        have mv9 : v9.toInt = v3.toInt := by rw [ev9, ← ev3]
        refine zg_aload_n X 1 rfl dX7_append_11 ?_
        refine fg_X7_9 X hI ha0 dX7_append_12 (fun v10 ev10 hv10 => ?_)
        replace E := zLet_s (zgr ev10) E
        refine zg_alen12 X hv10 rfl (by decide) dX7_append_15 (fun v11 hv11 => ?_)
        have hv11 : v11.toInt = 2000 := hv11
        replace E := zLet_s (zcst hv11 (by decide)) E
        refine zg_icmp_ge X 42 dX7_append_16 (by decide) (fun c12 => ?_) (fun c12 => ?_)
        · skip
          replace E := zIf_f (Int.not_lt.mpr c12) E
          refine zg_iinc X (-8) (fun v13 => [(2, .int v13), (0, .ref a0), (1, .int p1)]) 0 dX7_append_42 rfl (by decide) (by decide) (by omega) (by omega) (fun _ => rfl) (fun v13 ev13 hv13 => ?_)
          replace E := zLet_s (zinc ev13 (by decide)) E
          refine zg_goto X 3 dX7_append_45 (by decide) ?_
          refine zg_iload_n X 0 rfl dX7_append_3 ?_
          refine zg_if_lt X 48 dX7_append_4 (by decide) (fun c14 => ?_) (fun c14 => ?_)
          · omega
          · skip
            replace E := zIf_f (Int.not_lt.mpr c14) E
            refine zg_aload_n X 1 rfl dX7_append_7 ?_
            refine fg_X7_15 X hI ha0 dX7_append_8 (fun v15 ev15 hv15 => ?_)
            replace E := zLet_s ev15 E
            have hkv15 := hI.2.2.1
            have mv15 : v15.toInt = v9.toInt := by rw [ev15, ← ev9]
            refine zg_aload_n X 1 rfl dX7_append_11 ?_
            refine fg_X7_9 X hI ha0 dX7_append_12 (fun v16 ev16 hv16 => ?_)
            replace E := zLet_s (zgr ev16) E
            refine zg_alen12 X hv16 rfl (by decide) dX7_append_15 (fun v17 hv17 => ?_)
            have hv17 : v17.toInt = 2000 := hv17
            replace E := zLet_s (zcst hv17 (by decide)) E
            refine zg_icmp_ge X 42 dX7_append_16 (by decide) (fun c18 => ?_) (fun c18 => ?_)
            · skip
              replace E := zIf_f (Int.not_lt.mpr c18) E
              refine zg_iinc X (-8) (fun v19 => [(2, .int v19), (0, .ref a0), (1, .int p1)]) 0 dX7_append_42 rfl (by decide) (by decide) (by omega) (by omega) (fun _ => rfl) (fun v19 ev19 hv19 => ?_)
              replace E := zLet_s (zinc ev19 (by decide)) E
              refine zg_goto X 3 dX7_append_45 (by decide) ?_
              refine zg_iload_n X 0 rfl dX7_append_3 ?_
              refine zg_if_lt X 48 dX7_append_4 (by decide) (fun c20 => ?_) (fun c20 => ?_)
              · omega
              · skip
                replace E := zIf_f (Int.not_lt.mpr c20) E
                refine zg_aload_n X 1 rfl dX7_append_7 ?_
                refine fg_X7_15 X hI ha0 dX7_append_8 (fun v21 ev21 hv21 => ?_)
                replace E := zLet_s ev21 E
                have hkv21 := hI.2.2.1
                have mv21 : v21.toInt = v15.toInt := by rw [ev21, ← ev15]
                refine zg_aload_n X 1 rfl dX7_append_11 ?_
                refine fg_X7_9 X hI ha0 dX7_append_12 (fun v22 ev22 hv22 => ?_)
                replace E := zLet_s (zgr ev22) E
                refine zg_alen12 X hv22 rfl (by decide) dX7_append_15 (fun v23 hv23 => ?_)
                have hv23 : v23.toInt = 2000 := hv23
                replace E := zLet_s (zcst hv23 (by decide)) E
                refine zg_icmp_ge X 42 dX7_append_16 (by decide) (fun c24 => ?_) (fun c24 => ?_)
                · skip
                  replace E := zIf_f (Int.not_lt.mpr c24) E
                  refine zg_iinc X (-8) (fun v25 => [(2, .int v25), (0, .ref a0), (1, .int p1)]) 0 dX7_append_42 rfl (by decide) (by decide) (by omega) (by omega) (fun _ => rfl) (fun v25 ev25 hv25 => ?_)
                  replace E := zLet_s (zinc ev25 (by decide)) E
                  refine zg_goto X 3 dX7_append_45 (by decide) ?_
                  refine zg_iload_n X 0 rfl dX7_append_3 ?_
                  refine zg_if_lt X 48 dX7_append_4 (by decide) (fun c26 => ?_) (fun c26 => ?_)
                  · skip
                    replace E := zIf_t c26 E
                    exact ret _ _ _ dX7_append_48 ⟨E.symm.trans hR, hS, (zi_eq (by omega) hI)⟩
                  · omega
                · omega
            · omega
        · omega
    · skip
      replace E := zIf_t c6 E
      refine zg_aload_n X 1 rfl dX7_append_19 ?_
      refine fg_X7_9 X hI ha0 dX7_append_20 (fun v27 ev27 hv27 => ?_)
      replace E := zLet_s (zgr ev27) E
      refine zg_aload_n X 1 rfl dX7_append_23 ?_
      refine fg_X7_15 X hI ha0 dX7_append_24 (fun v28 ev28 hv28 => ?_)
      replace E := zLet_s ev28 E
      have hkv28 := hI.2.2.1
      have mv28 : v28.toInt = v3.toInt := by rw [ev28, ← ev3]
      refine zg_iload_n X 2 rfl dX7_append_27 ?_
      refine zg_iload_n X 0 rfl dX7_append_28 ?_
      refine zg_iushrW X dX7_append_29 (fun v29 ev29 => ?_)
      replace E := zLet_s ev29 E
      refine zg_i2b X dX7_append_30 (fun v30 ev30 => ?_)
      replace E := zLet_s ev30 E
      refine as_39 X hI hv27 (by omega) (by omega) dX7_append_31 (fun s31 es31 hI => ?_)
      replace E := zLet_s es31 E
      have hS := hS.i hv27 es31 rfl
      have e32 : v28 = s31.1 a0 1 := by rw [es31]; exact zm_k hv27 ha0 (by decide) ev28
      refine zg_aload_n X 1 rfl dX7_append_32 ?_
      refine zg_dup X dX7_append_33 rfl ?_
      refine fg_X7_15 X hI ha0 dX7_append_34 (fun v33 ev33 hv33 => ?_)
      replace E := zLet_s ev33 E
      have hkv33 := hI.2.2.1
      have mv33 : v33.toInt = v28.toInt := by rw [ev33, ← e32]
      refine zg_iconst X 1 dX7_append_37 (by decide) (fun v34 _ hv34 => ?_)
      replace E := zLet_s (zcst hv34 (by decide)) E
      refine zg_iadd X dX7_append_38 (by omega) (by omega) (fun v35 ev35 hv35 => ?_)
      replace E := zLet_s ev35 E
      refine fq_X7_15 X ha0 dX7_append_39 (fun s36 es36 => ?_)
      replace E := zLet_s es36 E
      have hS := hS.i ha0 es36 rfl
      have hI : zI v35.toInt b L kd s36 := by rw [es36]; exact zi_tape hI ha0 (by omega) (by omega)
      refine zg_iinc X (-8) (fun v37 => [(2, .int v37), (0, .ref a0), (1, .int p1)]) 0 dX7_append_42 rfl (by decide) (by decide) (by omega) (by omega) (fun _ => rfl) (fun v37 ev37 hv37 => ?_)
      replace E := zLet_s (zinc ev37 (by decide)) E
      refine zg_goto X 3 dX7_append_45 (by decide) ?_
      refine zg_iload_n X 0 rfl dX7_append_3 ?_
      refine zg_if_lt X 48 dX7_append_4 (by decide) (fun c38 => ?_) (fun c38 => ?_)
      · omega
      · skip
        replace E := zIf_f (Int.not_lt.mpr c38) E
        refine zg_aload_n X 1 rfl dX7_append_7 ?_
        refine fg_X7_15 X hI ha0 dX7_append_8 (fun v39 ev39 hv39 => ?_)
        replace E := zLet_s ev39 E
        have hkv39 := hI.2.2.1
        refine zg_aload_n X 1 rfl dX7_append_11 ?_
        refine fg_X7_9 X hI ha0 dX7_append_12 (fun v40 ev40 hv40 => ?_)
        replace E := zLet_s (zgr ev40) E
        refine zg_alen12 X hv40 rfl (by decide) dX7_append_15 (fun v41 hv41 => ?_)
        have hv41 : v41.toInt = 2000 := hv41
        replace E := zLet_s (zcst hv41 (by decide)) E
        refine zg_icmp_ge X 42 dX7_append_16 (by decide) (fun c42 => ?_) (fun c42 => ?_)
        · skip
          replace E := zIf_f (Int.not_lt.mpr c42) E
          refine zg_iinc X (-8) (fun v43 => [(2, .int v43), (0, .ref a0), (1, .int p1)]) 0 dX7_append_42 rfl (by decide) (by decide) (by omega) (by omega) (fun _ => rfl) (fun v43 ev43 hv43 => ?_)
          replace E := zLet_s (zinc ev43 (by decide)) E
          refine zg_goto X 3 dX7_append_45 (by decide) ?_
          refine zg_iload_n X 0 rfl dX7_append_3 ?_
          refine zg_if_lt X 48 dX7_append_4 (by decide) (fun c44 => ?_) (fun c44 => ?_)
          · omega
          · skip
            replace E := zIf_f (Int.not_lt.mpr c44) E
            refine zg_aload_n X 1 rfl dX7_append_7 ?_
            refine fg_X7_15 X hI ha0 dX7_append_8 (fun v45 ev45 hv45 => ?_)
            replace E := zLet_s ev45 E
            have hkv45 := hI.2.2.1
            have mv45 : v45.toInt = v39.toInt := by rw [ev45, ← ev39]
            refine zg_aload_n X 1 rfl dX7_append_11 ?_
            refine fg_X7_9 X hI ha0 dX7_append_12 (fun v46 ev46 hv46 => ?_)
            replace E := zLet_s (zgr ev46) E
            refine zg_alen12 X hv46 rfl (by decide) dX7_append_15 (fun v47 hv47 => ?_)
            have hv47 : v47.toInt = 2000 := hv47
            replace E := zLet_s (zcst hv47 (by decide)) E
            refine zg_icmp_ge X 42 dX7_append_16 (by decide) (fun c48 => ?_) (fun c48 => ?_)
            · skip
              replace E := zIf_f (Int.not_lt.mpr c48) E
              refine zg_iinc X (-8) (fun v49 => [(2, .int v49), (0, .ref a0), (1, .int p1)]) 0 dX7_append_42 rfl (by decide) (by decide) (by omega) (by omega) (fun _ => rfl) (fun v49 ev49 hv49 => ?_)
              replace E := zLet_s (zinc ev49 (by decide)) E
              refine zg_goto X 3 dX7_append_45 (by decide) ?_
              refine zg_iload_n X 0 rfl dX7_append_3 ?_
              refine zg_if_lt X 48 dX7_append_4 (by decide) (fun c50 => ?_) (fun c50 => ?_)
              · omega
              · skip
                replace E := zIf_f (Int.not_lt.mpr c50) E
                refine zg_aload_n X 1 rfl dX7_append_7 ?_
                refine fg_X7_15 X hI ha0 dX7_append_8 (fun v51 ev51 hv51 => ?_)
                replace E := zLet_s ev51 E
                have hkv51 := hI.2.2.1
                have mv51 : v51.toInt = v45.toInt := by rw [ev51, ← ev45]
                refine zg_aload_n X 1 rfl dX7_append_11 ?_
                refine fg_X7_9 X hI ha0 dX7_append_12 (fun v52 ev52 hv52 => ?_)
                replace E := zLet_s (zgr ev52) E
                refine zg_alen12 X hv52 rfl (by decide) dX7_append_15 (fun v53 hv53 => ?_)
                have hv53 : v53.toInt = 2000 := hv53
                replace E := zLet_s (zcst hv53 (by decide)) E
                refine zg_icmp_ge X 42 dX7_append_16 (by decide) (fun c54 => ?_) (fun c54 => ?_)
                · skip
                  replace E := zIf_f (Int.not_lt.mpr c54) E
                  refine zg_iinc X (-8) (fun v55 => [(2, .int v55), (0, .ref a0), (1, .int p1)]) 0 dX7_append_42 rfl (by decide) (by decide) (by omega) (by omega) (fun _ => rfl) (fun v55 ev55 hv55 => ?_)
                  replace E := zLet_s (zinc ev55 (by decide)) E
                  refine zg_goto X 3 dX7_append_45 (by decide) ?_
                  refine zg_iload_n X 0 rfl dX7_append_3 ?_
                  refine zg_if_lt X 48 dX7_append_4 (by decide) (fun c56 => ?_) (fun c56 => ?_)
                  · skip
                    replace E := zIf_t c56 E
                    exact ret _ _ _ dX7_append_48 ⟨E.symm.trans hR, hS, (zi_eq (by omega) hI)⟩
                  · omega
                · omega
            · omega
        · skip
          replace E := zIf_t c42 E
          refine zg_aload_n X 1 rfl dX7_append_19 ?_
          refine fg_X7_9 X hI ha0 dX7_append_20 (fun v57 ev57 hv57 => ?_)
          replace E := zLet_s (zgr ev57) E
          refine zg_aload_n X 1 rfl dX7_append_23 ?_
          refine fg_X7_15 X hI ha0 dX7_append_24 (fun v58 ev58 hv58 => ?_)
          replace E := zLet_s ev58 E
          have hkv58 := hI.2.2.1
          have mv58 : v58.toInt = v39.toInt := by rw [ev58, ← ev39]
          refine zg_iload_n X 2 rfl dX7_append_27 ?_
          refine zg_iload_n X 0 rfl dX7_append_28 ?_
          refine zg_iushrW X dX7_append_29 (fun v59 ev59 => ?_)
          replace E := zLet_s ev59 E
          refine zg_i2b X dX7_append_30 (fun v60 ev60 => ?_)
          replace E := zLet_s ev60 E
          refine as_39 X hI hv57 (by omega) (by omega) dX7_append_31 (fun s61 es61 hI => ?_)
          replace E := zLet_s es61 E
          have hS := hS.i hv57 es61 rfl
          have e62 : v58 = s61.1 a0 1 := by rw [es61]; exact zm_k hv57 ha0 (by decide) ev58
          refine zg_aload_n X 1 rfl dX7_append_32 ?_
          refine zg_dup X dX7_append_33 rfl ?_
          refine fg_X7_15 X hI ha0 dX7_append_34 (fun v63 ev63 hv63 => ?_)
          replace E := zLet_s ev63 E
          have hkv63 := hI.2.2.1
          have mv63 : v63.toInt = v58.toInt := by rw [ev63, ← e62]
          refine zg_iconst X 1 dX7_append_37 (by decide) (fun v64 _ hv64 => ?_)
          replace E := zLet_s (zcst hv64 (by decide)) E
          refine zg_iadd X dX7_append_38 (by omega) (by omega) (fun v65 ev65 hv65 => ?_)
          replace E := zLet_s ev65 E
          refine fq_X7_15 X ha0 dX7_append_39 (fun s66 es66 => ?_)
          replace E := zLet_s es66 E
          have hS := hS.i ha0 es66 rfl
          have hI : zI v65.toInt b L kd s66 := by rw [es66]; exact zi_tape hI ha0 (by omega) (by omega)
          refine zg_iinc X (-8) (fun v67 => [(2, .int v67), (0, .ref a0), (1, .int p1)]) 0 dX7_append_42 rfl (by decide) (by decide) (by omega) (by omega) (fun _ => rfl) (fun v67 ev67 hv67 => ?_)
          replace E := zLet_s (zinc ev67 (by decide)) E
          refine zg_goto X 3 dX7_append_45 (by decide) ?_
          refine zg_iload_n X 0 rfl dX7_append_3 ?_
          refine zg_if_lt X 48 dX7_append_4 (by decide) (fun c68 => ?_) (fun c68 => ?_)
          · omega
          · skip
            replace E := zIf_f (Int.not_lt.mpr c68) E
            refine zg_aload_n X 1 rfl dX7_append_7 ?_
            refine fg_X7_15 X hI ha0 dX7_append_8 (fun v69 ev69 hv69 => ?_)
            replace E := zLet_s ev69 E
            have hkv69 := hI.2.2.1
            refine zg_aload_n X 1 rfl dX7_append_11 ?_
            refine fg_X7_9 X hI ha0 dX7_append_12 (fun v70 ev70 hv70 => ?_)
            replace E := zLet_s (zgr ev70) E
            refine zg_alen12 X hv70 rfl (by decide) dX7_append_15 (fun v71 hv71 => ?_)
            have hv71 : v71.toInt = 2000 := hv71
            replace E := zLet_s (zcst hv71 (by decide)) E
            refine zg_icmp_ge X 42 dX7_append_16 (by decide) (fun c72 => ?_) (fun c72 => ?_)
            · skip
              replace E := zIf_f (Int.not_lt.mpr c72) E
              refine zg_iinc X (-8) (fun v73 => [(2, .int v73), (0, .ref a0), (1, .int p1)]) 0 dX7_append_42 rfl (by decide) (by decide) (by omega) (by omega) (fun _ => rfl) (fun v73 ev73 hv73 => ?_)
              replace E := zLet_s (zinc ev73 (by decide)) E
              refine zg_goto X 3 dX7_append_45 (by decide) ?_
              refine zg_iload_n X 0 rfl dX7_append_3 ?_
              refine zg_if_lt X 48 dX7_append_4 (by decide) (fun c74 => ?_) (fun c74 => ?_)
              · omega
              · skip
                replace E := zIf_f (Int.not_lt.mpr c74) E
                refine zg_aload_n X 1 rfl dX7_append_7 ?_
                refine fg_X7_15 X hI ha0 dX7_append_8 (fun v75 ev75 hv75 => ?_)
                replace E := zLet_s ev75 E
                have hkv75 := hI.2.2.1
                have mv75 : v75.toInt = v69.toInt := by rw [ev75, ← ev69]
                refine zg_aload_n X 1 rfl dX7_append_11 ?_
                refine fg_X7_9 X hI ha0 dX7_append_12 (fun v76 ev76 hv76 => ?_)
                replace E := zLet_s (zgr ev76) E
                refine zg_alen12 X hv76 rfl (by decide) dX7_append_15 (fun v77 hv77 => ?_)
                have hv77 : v77.toInt = 2000 := hv77
                replace E := zLet_s (zcst hv77 (by decide)) E
                refine zg_icmp_ge X 42 dX7_append_16 (by decide) (fun c78 => ?_) (fun c78 => ?_)
                · skip
                  replace E := zIf_f (Int.not_lt.mpr c78) E
                  refine zg_iinc X (-8) (fun v79 => [(2, .int v79), (0, .ref a0), (1, .int p1)]) 0 dX7_append_42 rfl (by decide) (by decide) (by omega) (by omega) (fun _ => rfl) (fun v79 ev79 hv79 => ?_)
                  replace E := zLet_s (zinc ev79 (by decide)) E
                  refine zg_goto X 3 dX7_append_45 (by decide) ?_
                  refine zg_iload_n X 0 rfl dX7_append_3 ?_
                  refine zg_if_lt X 48 dX7_append_4 (by decide) (fun c80 => ?_) (fun c80 => ?_)
                  · skip
                    replace E := zIf_t c80 E
                    exact ret _ _ _ dX7_append_48 ⟨E.symm.trans hR, hS, (zi_eq (by omega) hI)⟩
                  · omega
                · omega
            · skip
              replace E := zIf_t c72 E
              refine zg_aload_n X 1 rfl dX7_append_19 ?_
              refine fg_X7_9 X hI ha0 dX7_append_20 (fun v81 ev81 hv81 => ?_)
              replace E := zLet_s (zgr ev81) E
              refine zg_aload_n X 1 rfl dX7_append_23 ?_
              refine fg_X7_15 X hI ha0 dX7_append_24 (fun v82 ev82 hv82 => ?_)
              replace E := zLet_s ev82 E
              have hkv82 := hI.2.2.1
              have mv82 : v82.toInt = v69.toInt := by rw [ev82, ← ev69]
              refine zg_iload_n X 2 rfl dX7_append_27 ?_
              refine zg_iload_n X 0 rfl dX7_append_28 ?_
              refine zg_iushrW X dX7_append_29 (fun v83 ev83 => ?_)
              replace E := zLet_s ev83 E
              refine zg_i2b X dX7_append_30 (fun v84 ev84 => ?_)
              replace E := zLet_s ev84 E
              refine as_39 X hI hv81 (by omega) (by omega) dX7_append_31 (fun s85 es85 hI => ?_)
              replace E := zLet_s es85 E
              have hS := hS.i hv81 es85 rfl
              have e86 : v82 = s85.1 a0 1 := by rw [es85]; exact zm_k hv81 ha0 (by decide) ev82
              refine zg_aload_n X 1 rfl dX7_append_32 ?_
              refine zg_dup X dX7_append_33 rfl ?_
              refine fg_X7_15 X hI ha0 dX7_append_34 (fun v87 ev87 hv87 => ?_)
              replace E := zLet_s ev87 E
              have hkv87 := hI.2.2.1
              have mv87 : v87.toInt = v82.toInt := by rw [ev87, ← e86]
              refine zg_iconst X 1 dX7_append_37 (by decide) (fun v88 _ hv88 => ?_)
              replace E := zLet_s (zcst hv88 (by decide)) E
              refine zg_iadd X dX7_append_38 (by omega) (by omega) (fun v89 ev89 hv89 => ?_)
              replace E := zLet_s ev89 E
              refine fq_X7_15 X ha0 dX7_append_39 (fun s90 es90 => ?_)
              replace E := zLet_s es90 E
              have hS := hS.i ha0 es90 rfl
              have hI : zI v89.toInt b L kd s90 := by rw [es90]; exact zi_tape hI ha0 (by omega) (by omega)
              refine zg_iinc X (-8) (fun v91 => [(2, .int v91), (0, .ref a0), (1, .int p1)]) 0 dX7_append_42 rfl (by decide) (by decide) (by omega) (by omega) (fun _ => rfl) (fun v91 ev91 hv91 => ?_)
              replace E := zLet_s (zinc ev91 (by decide)) E
              refine zg_goto X 3 dX7_append_45 (by decide) ?_
              refine zg_iload_n X 0 rfl dX7_append_3 ?_
              refine zg_if_lt X 48 dX7_append_4 (by decide) (fun c92 => ?_) (fun c92 => ?_)
              · omega
              · skip
                replace E := zIf_f (Int.not_lt.mpr c92) E
                refine zg_aload_n X 1 rfl dX7_append_7 ?_
                refine fg_X7_15 X hI ha0 dX7_append_8 (fun v93 ev93 hv93 => ?_)
                replace E := zLet_s ev93 E
                have hkv93 := hI.2.2.1
                refine zg_aload_n X 1 rfl dX7_append_11 ?_
                refine fg_X7_9 X hI ha0 dX7_append_12 (fun v94 ev94 hv94 => ?_)
                replace E := zLet_s (zgr ev94) E
                refine zg_alen12 X hv94 rfl (by decide) dX7_append_15 (fun v95 hv95 => ?_)
                have hv95 : v95.toInt = 2000 := hv95
                replace E := zLet_s (zcst hv95 (by decide)) E
                refine zg_icmp_ge X 42 dX7_append_16 (by decide) (fun c96 => ?_) (fun c96 => ?_)
                · skip
                  replace E := zIf_f (Int.not_lt.mpr c96) E
                  refine zg_iinc X (-8) (fun v97 => [(2, .int v97), (0, .ref a0), (1, .int p1)]) 0 dX7_append_42 rfl (by decide) (by decide) (by omega) (by omega) (fun _ => rfl) (fun v97 ev97 hv97 => ?_)
                  replace E := zLet_s (zinc ev97 (by decide)) E
                  refine zg_goto X 3 dX7_append_45 (by decide) ?_
                  refine zg_iload_n X 0 rfl dX7_append_3 ?_
                  refine zg_if_lt X 48 dX7_append_4 (by decide) (fun c98 => ?_) (fun c98 => ?_)
                  · skip
                    replace E := zIf_t c98 E
                    exact ret _ _ _ dX7_append_48 ⟨E.symm.trans hR, hS, (zi_eq (by omega) hI)⟩
                  · omega
                · skip
                  replace E := zIf_t c96 E
                  refine zg_aload_n X 1 rfl dX7_append_19 ?_
                  refine fg_X7_9 X hI ha0 dX7_append_20 (fun v99 ev99 hv99 => ?_)
                  replace E := zLet_s (zgr ev99) E
                  refine zg_aload_n X 1 rfl dX7_append_23 ?_
                  refine fg_X7_15 X hI ha0 dX7_append_24 (fun v100 ev100 hv100 => ?_)
                  replace E := zLet_s ev100 E
                  have hkv100 := hI.2.2.1
                  have mv100 : v100.toInt = v93.toInt := by rw [ev100, ← ev93]
                  refine zg_iload_n X 2 rfl dX7_append_27 ?_
                  refine zg_iload_n X 0 rfl dX7_append_28 ?_
                  refine zg_iushrW X dX7_append_29 (fun v101 ev101 => ?_)
                  replace E := zLet_s ev101 E
                  refine zg_i2b X dX7_append_30 (fun v102 ev102 => ?_)
                  replace E := zLet_s ev102 E
                  refine as_39 X hI hv99 (by omega) (by omega) dX7_append_31 (fun s103 es103 hI => ?_)
                  replace E := zLet_s es103 E
                  have hS := hS.i hv99 es103 rfl
                  have e104 : v100 = s103.1 a0 1 := by rw [es103]; exact zm_k hv99 ha0 (by decide) ev100
                  refine zg_aload_n X 1 rfl dX7_append_32 ?_
                  refine zg_dup X dX7_append_33 rfl ?_
                  refine fg_X7_15 X hI ha0 dX7_append_34 (fun v105 ev105 hv105 => ?_)
                  replace E := zLet_s ev105 E
                  have hkv105 := hI.2.2.1
                  have mv105 : v105.toInt = v100.toInt := by rw [ev105, ← e104]
                  refine zg_iconst X 1 dX7_append_37 (by decide) (fun v106 _ hv106 => ?_)
                  replace E := zLet_s (zcst hv106 (by decide)) E
                  refine zg_iadd X dX7_append_38 (by omega) (by omega) (fun v107 ev107 hv107 => ?_)
                  replace E := zLet_s ev107 E
                  refine fq_X7_15 X ha0 dX7_append_39 (fun s108 es108 => ?_)
                  replace E := zLet_s es108 E
                  have hS := hS.i ha0 es108 rfl
                  have hI : zI v107.toInt b L kd s108 := by rw [es108]; exact zi_tape hI ha0 (by omega) (by omega)
                  refine zg_iinc X (-8) (fun v109 => [(2, .int v109), (0, .ref a0), (1, .int p1)]) 0 dX7_append_42 rfl (by decide) (by decide) (by omega) (by omega) (fun _ => rfl) (fun v109 ev109 hv109 => ?_)
                  replace E := zLet_s (zinc ev109 (by decide)) E
                  refine zg_goto X 3 dX7_append_45 (by decide) ?_
                  refine zg_iload_n X 0 rfl dX7_append_3 ?_
                  refine zg_if_lt X 48 dX7_append_4 (by decide) (fun c110 => ?_) (fun c110 => ?_)
                  · skip
                    replace E := zIf_t c110 E
                    exact ret _ _ _ dX7_append_48 ⟨E.symm.trans hR, hS, (zi_eq (by omega) hI)⟩
                  · omega
set_option maxHeartbeats 4000000 in
set_option maxRecDepth 100000 in
theorem t_X10_isPlace (l : Launch) (d : zD2) (L : List Nat) (kd : Nat → Nat) (κ : Int) (b : Nat) (σ : zS) (hI : zI κ b L kd σ) (a0 : Nat) (ha0 : zT L kd a0 10) (p1 : Int32) : zMi l yX10_isPlace (Cond.code yX10_isPlace cX10_isPlace 2 (some .boolean) :: zWL) 1 [.ref a0, .int p1] d L kd σ (fun v σ2 => (v, σ2) = F_X10_isPlace a0 p1 σ ∧ zSm [] [] L kd σ σ2 ∧ (((v.toInt = 1 ∧ 0 ≤ p1.toInt ∧ p1.toInt ≤ 11) ∨ v.toInt = 0) ∧ zI κ b L kd σ2)) := by
  refine zMi.of (own := RX10) (by decide +kernel) rfl rfl (Nat.le_of_ble_eq_true rfl) ?_
  intro p e s m args below meth c A Q X ret
  refine zg_lv (lv2 := [(0, .ref a0), (1, .int p1)]) rfl ?_
  obtain ⟨R, hR⟩ : ∃ R, R = F_X10_isPlace a0 p1 σ := ⟨_, rfl⟩
  have E := hR
  unfold F_X10_isPlace at E
  have hS : zSm [] [] L kd σ σ := zSm.rf
  refine zg_iload_n X 1 rfl dX10_isPlace_0 ?_
  refine zg_iconst X 0 dX10_isPlace_1 (by decide) (fun v1 _ hv1 => ?_)
  replace E := zLet_s (zcst hv1 (by decide)) E
  refine zg_aload_n X 0 rfl dX10_isPlace_2 ?_
  refine fg_X10_70 X hI ha0 dX10_isPlace_3 (fun v2 ev2 hv2 => ?_)
  replace E := zLet_s (zgr ev2) E
  refine fg_X10_175 X hI hv2 dX10_isPlace_6 (fun v3 ev3 hv3 => ?_)
  replace E := zLet_s ev3 E
  refine zg_iconst X 1 dX10_isPlace_9 (by decide) (fun v4 _ hv4 => ?_)
  replace E := zLet_s (zcst hv4 (by decide)) E
  refine zg_isub X dX10_isPlace_10 (by omega) (by omega) (fun v5 ev5 hv5 => ?_)
  replace E := zLet_s ev5 E
  refine zg_cSi (As := [.int p1, .int v1, .int v5]) (st := []) X (t_X10_isWithin l d L kd _ p1 v1 v5 ) mk_X10_229 mc_X10_isWithin mz_X10 ms_X10_isWithin (na := 3) ⟨md_X10.1, md_X10.2, by decide +kernel⟩ rfl ⟨by decide, by decide⟩ (Nat.le_of_ble_eq_true rfl) dX10_isPlace_11 (fun v6 σ2 hq => ?_)
  obtain ⟨⟨hF, hv6⟩, rfl⟩ := hq
  replace E := zLet_s hF E
  exact ret _ _ _ _ dX10_isPlace_14 (zb_bool ⟨by omega, by omega⟩) ⟨E.symm.trans hR, hS, ⟨by omega, hI⟩⟩
set_option maxHeartbeats 4000000 in
set_option maxRecDepth 100000 in
theorem t_X10_isLaw (l : Launch) (d : zD2) (L : List Nat) (kd : Nat → Nat) (κ : Int) (b : Nat) (σ : zS) (hI : zI κ b L kd σ) (a0 : Nat) (ha0 : zT L kd a0 10) (p1 : Int32) : zMi l yX10_isLaw (Cond.code yX10_isLaw cX10_isLaw 2 (some .boolean) :: zWL) 1 [.ref a0, .int p1] d L kd σ (fun v σ2 => (v, σ2) = F_X10_isLaw a0 p1 σ ∧ zSm [] [] L kd σ σ2 ∧ (((v.toInt = 1 ∧ 0 ≤ p1.toInt ∧ p1.toInt ≤ 2) ∨ v.toInt = 0) ∧ zI κ b L kd σ2)) := by
  refine zMi.of (own := RX10) (by decide +kernel) rfl rfl (Nat.le_of_ble_eq_true rfl) ?_
  intro p e s m args below meth c A Q X ret
  refine zg_lv (lv2 := [(0, .ref a0), (1, .int p1)]) rfl ?_
  obtain ⟨R, hR⟩ : ∃ R, R = F_X10_isLaw a0 p1 σ := ⟨_, rfl⟩
  have E := hR
  unfold F_X10_isLaw at E
  have hS : zSm [] [] L kd σ σ := zSm.rf
  refine zg_iload_n X 1 rfl dX10_isLaw_0 ?_
  refine zg_iconst X 0 dX10_isLaw_1 (by decide) (fun v1 _ hv1 => ?_)
  replace E := zLet_s (zcst hv1 (by decide)) E
  refine zg_iconst X 2 dX10_isLaw_2 (by decide) (fun v2 _ hv2 => ?_)
  replace E := zLet_s (zcst hv2 (by decide)) E
  refine zg_cSi (As := [.int p1, .int v1, .int v2]) (st := []) X (t_X10_isWithin l d L kd _ p1 v1 v2 ) mk_X10_229 mc_X10_isWithin mz_X10 ms_X10_isWithin (na := 3) ⟨md_X10.1, md_X10.2, by decide +kernel⟩ rfl ⟨by decide, by decide⟩ (Nat.le_of_ble_eq_true rfl) dX10_isLaw_3 (fun v3 σ2 hq => ?_)
  obtain ⟨⟨hF, hv3⟩, rfl⟩ := hq
  replace E := zLet_s hF E
  exact ret _ _ _ _ dX10_isLaw_6 (zb_bool ⟨by omega, by omega⟩) ⟨E.symm.trans hR, hS, ⟨by omega, hI⟩⟩
set_option maxHeartbeats 4000000 in
set_option maxRecDepth 100000 in
theorem t_X10_hasMouth (l : Launch) (d : zD2) (L : List Nat) (kd : Nat → Nat) (κ : Int) (b : Nat) (σ : zS) (hI : zI κ b L kd σ) (a0 : Nat) (ha0 : zT L kd a0 10) : zMi l yX10_hasMouth (Cond.code yX10_hasMouth cX10_hasMouth 1 (some .boolean) :: zWL) 0 [.ref a0] d L kd σ (fun v σ2 => (v, σ2) = F_X10_hasMouth a0 σ ∧ zSm [] [] L kd σ σ2 ∧ ((0 ≤ v.toInt ∧ v.toInt ≤ 1) ∧ zI κ b L kd σ2)) := by
  refine zMi.of (own := RX10) (by decide +kernel) rfl rfl (Nat.le_of_ble_eq_true rfl) ?_
  intro p e s m args below meth c A Q X ret
  refine zg_lv (lv2 := [(0, .ref a0)]) rfl ?_
  obtain ⟨R, hR⟩ : ∃ R, R = F_X10_hasMouth a0 σ := ⟨_, rfl⟩
  have E := hR
  unfold F_X10_hasMouth at E
  have hS : zSm [] [] L kd σ σ := zSm.rf
  refine zg_aload_n X 0 rfl dX10_hasMouth_0 ?_
  refine fg_X10_70 X hI ha0 dX10_hasMouth_1 (fun v1 ev1 hv1 => ?_)
  replace E := zLet_s (zgr ev1) E
  refine fg_X10_175 X hI hv1 dX10_hasMouth_4 (fun v2 ev2 hv2 => ?_)
  replace E := zLet_s ev2 E
  refine zg_if_le X 14 dX10_hasMouth_7 (by decide) (fun c3 => ?_) (fun c3 => ?_)
  · skip
    replace E := zIf_f (Int.not_lt.mpr c3) E
    refine zg_iconst X 0 dX10_hasMouth_14 (by decide) (fun v4 _ hv4 => ?_)
    replace E := zLet_s (zcst hv4 (by decide)) E
    exact ret _ _ _ _ dX10_hasMouth_15 (zb_bool ⟨by omega, by omega⟩) ⟨E.symm.trans hR, hS, ⟨⟨by omega, by omega⟩, hI⟩⟩
  · skip
    replace E := zIf_t c3 E
    refine zg_iconst X 1 dX10_hasMouth_10 (by decide) (fun v5 _ hv5 => ?_)
    replace E := zLet_s (zcst hv5 (by decide)) E
    refine zg_goto X 15 dX10_hasMouth_11 (by decide) ?_
    exact ret _ _ _ _ dX10_hasMouth_15 (zb_bool ⟨by omega, by omega⟩) ⟨E.symm.trans hR, hS, ⟨⟨by omega, by omega⟩, hI⟩⟩
set_option maxHeartbeats 4000000 in
set_option maxRecDepth 100000 in
theorem t_X10_mouthFlow (l : Launch) (d : zD2) (L : List Nat) (kd : Nat → Nat) (κ : Int) (b : Nat) (σ : zS) (hI : zI κ b L kd σ) (a0 : Nat) (ha0 : zT L kd a0 10) : zMi l yX10_mouthFlow (Cond.code yX10_mouthFlow cX10_mouthFlow 1 (some .int) :: zWL) 1 [.ref a0] d L kd σ (fun v σ2 => (v, σ2) = F_X10_mouthFlow a0 σ ∧ zSm [] [] L kd σ σ2 ∧ (zI κ b L kd σ2)) := by
  refine zMi.of (own := RX10) (by decide +kernel) rfl rfl (Nat.le_of_ble_eq_true rfl) ?_
  intro p e s m args below meth c A Q X ret
  refine zg_lv (lv2 := [(0, .ref a0)]) rfl ?_
  obtain ⟨R, hR⟩ : ∃ R, R = F_X10_mouthFlow a0 σ := ⟨_, rfl⟩
  have E := hR
  unfold F_X10_mouthFlow at E
  have hS : zSm [] [] L kd σ σ := zSm.rf
  refine zg_aload_n X 0 rfl dX10_mouthFlow_0 ?_
  refine zg_cVi (As := []) (st := []) X ha0 rfl (by decide) rfl (t_X10_hasMouth l d L kd κ b _ hI a0 ha0 ) mk_X10_277 mc_X10_hasMouth mz_X10 mi_X10_hasMouth ml_X10_hasMouth (na := 0) ⟨md_X10.1, md_X10.2, by decide +kernel⟩ rfl ⟨by decide, by decide⟩ (Nat.le_of_ble_eq_true rfl) dX10_mouthFlow_1 (fun v1 s2 hq => ?_)
  obtain ⟨hF, hS2, hI⟩ := hq
  replace E := zLet2_s hF E
  have hS := hS.tr hS2 rfl rfl
  obtain ⟨hv1, hI⟩ := hI
  refine zg_if_eq X 19 dX10_mouthFlow_4 (by decide) (fun c3 => ?_) (fun c3 => ?_)
  · skip
    replace E := zIf_t c3 E
    refine zg_iconst X 0 dX10_mouthFlow_19 (by decide) (fun v4 _ hv4 => ?_)
    replace E := zLet_s (zcst hv4 (by decide)) E
    exact ret _ _ _ _ dX10_mouthFlow_20 rfl ⟨E.symm.trans hR, hS, hI⟩
  · skip
    replace E := zIf_f c3 E
    refine zg_aload_n X 0 rfl dX10_mouthFlow_7 ?_
    refine fg_X10_26 X hI ha0 dX10_mouthFlow_8 (fun v5 ev5 hv5 => ?_)
    replace E := zLet_s (zgr ev5) E
    refine fg_X10_135 X hI hv5 dX10_mouthFlow_11 (fun v6 ev6 hv6 => ?_)
    replace E := zLet_s (zgr ev6) E
    refine zg_iconst X 0 dX10_mouthFlow_14 (by decide) (fun v7 _ hv7 => ?_)
    replace E := zLet_s (zcst hv7 (by decide)) E
    refine ag_31 X hI hv6 (by omega) (by omega) dX10_mouthFlow_15 (fun v8 ev8 _ => ?_)
    replace E := zLet_s ev8 E
    refine zg_goto X 20 dX10_mouthFlow_16 (by decide) ?_
    exact ret _ _ _ _ dX10_mouthFlow_20 rfl ⟨E.symm.trans hR, hS, hI⟩
set_option maxHeartbeats 4000000 in
set_option maxRecDepth 100000 in
theorem t_X10_look (l : Launch) (d : zD2) (L : List Nat) (kd : Nat → Nat) (κ : Int) (b : Nat) (σ : zS) (hI : zI κ b L kd σ) (a0 : Nat) (ha0 : zT L kd a0 10) : zMv l yX10_look (Cond.code yX10_look cX10_look 1 none :: zWL) 6 [.ref a0] d L kd σ (fun σ2 => σ2 = F_X10_look a0 σ ∧ zSm [6, 20, 21, 30, 31, 33, 34, 35, 36, 38] [5] L kd σ σ2 ∧ (zI κ 1 L kd σ2)) := by
  refine zMv.of (own := RX10) (by decide +kernel) rfl rfl (Nat.le_of_ble_eq_true rfl) ?_
  intro p e s m args below meth c A Q X ret
  refine zg_lv (lv2 := [(0, .ref a0)]) rfl ?_
  obtain ⟨R, hR⟩ : ∃ R, R = F_X10_look a0 σ := ⟨_, rfl⟩
  have E := hR
  unfold F_X10_look at E
  have hS : zSm [6, 20, 21, 30, 31, 33, 34, 35, 36, 38] [5] L kd σ σ := zSm.rf
  refine zg_aload_n X 0 rfl dX10_look_0 ?_
  refine fg_X10_26 X hI ha0 dX10_look_1 (fun v1 ev1 hv1 => ?_)
  replace E := zLet_s (zgr ev1) E
  refine zg_aload_n X 0 rfl dX10_look_4 ?_
  refine fg_X10_70 X hI ha0 dX10_look_5 (fun v2 ev2 hv2 => ?_)
  replace E := zLet_s (zgr ev2) E
  refine zg_aload_n X 0 rfl dX10_look_8 ?_
  refine fg_X10_52 X hI ha0 dX10_look_9 (fun v3 ev3 hv3 => ?_)
  replace E := zLet_s (zgr ev3) E
  refine zg_cVv (As := [.ref v2, .ref v3]) (st := []) X hv1 rfl (by decide) rfl (t_X5_look l d L kd κ b _ hI v1 hv1 v2 hv2 v3 hv3 ) mk_X10_271 mc_X5_look mz_X5 mi_X5_look ml_X5_look (na := 2) ⟨md_X5.1, md_X5.2, by decide +kernel⟩ rfl ⟨by decide, by decide⟩ (Nat.le_of_ble_eq_true rfl) dX10_look_12 (fun s4 hq => ?_)
  obtain ⟨hF, hS2, hI⟩ := hq
  replace E := zLet_s hF E
  have hS := hS.tr hS2 rfl rfl
  exact ret _ _ _ dX10_look_15 ⟨E.symm.trans hR, hS, hI⟩
set_option maxHeartbeats 4000000 in
set_option maxRecDepth 100000 in
theorem t_X10_isContest (l : Launch) (d : zD2) (L : List Nat) (kd : Nat → Nat) (κ : Int) (b : Nat) (σ : zS) (hI : zI κ b L kd σ) (a0 : Nat) (ha0 : zT L kd a0 10) (p1 : Int32) (p2 : Int32) : zMi l yX10_isContest (Cond.code yX10_isContest cX10_isContest 3 (some .boolean) :: zWL) 6 [.ref a0, .int p1, .int p2] d L kd σ (fun v σ2 => (v, σ2) = F_X10_isContest a0 p1 p2 σ ∧ zSm [6, 20, 21, 30, 31, 33, 34, 35, 36, 38] [5] L kd σ σ2 ∧ (((v.toInt = 1 ∧ 1 ≤ p1.toInt ∧ p1.toInt ≤ 11 ∧ 0 ≤ p2.toInt ∧ p2.toInt ≤ 2) ∨ v.toInt = 0) ∧ zI κ 1 L kd σ2)) := by
  refine zMi.of (own := RX10) (by decide +kernel) rfl rfl (Nat.le_of_ble_eq_true rfl) ?_
  intro p e s m args below meth c A Q X ret
  refine zg_lv (lv2 := [(0, .ref a0), (1, .int p1), (2, .int p2)]) rfl ?_
  obtain ⟨R, hR⟩ : ∃ R, R = F_X10_isContest a0 p1 p2 σ := ⟨_, rfl⟩
  have E := hR
  unfold F_X10_isContest at E
  have hS : zSm [6, 20, 21, 30, 31, 33, 34, 35, 36, 38] [5] L kd σ σ := zSm.rf
  refine zg_aload_n X 0 rfl dX10_isContest_0 ?_
  refine fg_X10_26 X hI ha0 dX10_isContest_1 (fun v1 ev1 hv1 => ?_)
  replace E := zLet_s (zgr ev1) E
  refine zg_aload_n X 0 rfl dX10_isContest_4 ?_
  refine fg_X10_70 X hI ha0 dX10_isContest_5 (fun v2 ev2 hv2 => ?_)
  replace E := zLet_s (zgr ev2) E
  refine zg_aload_n X 0 rfl dX10_isContest_8 ?_
  refine fg_X10_52 X hI ha0 dX10_isContest_9 (fun v3 ev3 hv3 => ?_)
  replace E := zLet_s (zgr ev3) E
  refine zg_cVv (As := [.ref v2, .ref v3]) (st := []) X hv1 rfl (by decide) rfl (t_X5_look l d L kd κ b _ hI v1 hv1 v2 hv2 v3 hv3 ) mk_X10_271 mc_X5_look mz_X5 mi_X5_look ml_X5_look (na := 2) ⟨md_X5.1, md_X5.2, by decide +kernel⟩ rfl ⟨by decide, by decide⟩ (Nat.le_of_ble_eq_true rfl) dX10_isContest_12 (fun s4 hq => ?_)
  obtain ⟨hF, hS2, hI⟩ := hq
  replace E := zLet_s hF E
  have hS := hS.tr hS2 rfl rfl
  refine zg_aload_n X 0 rfl dX10_isContest_15 ?_
  refine zg_iload_n X 2 rfl dX10_isContest_16 ?_
  refine zg_cVi (As := [.int p2]) (st := []) X ha0 rfl (by decide) rfl (t_X10_isLaw l d L kd κ 1 _ hI a0 ha0 p2 ) mk_X10_169 mc_X10_isLaw mz_X10 mi_X10_isLaw ml_X10_isLaw (na := 1) ⟨md_X10.1, md_X10.2, by decide +kernel⟩ rfl ⟨by decide, by decide⟩ (Nat.le_of_ble_eq_true rfl) dX10_isContest_17 (fun v5 s6 hq => ?_)
  obtain ⟨hF, hS2, hI⟩ := hq
  replace E := zLet2_s hF E
  have hS := hS.tr hS2 rfl rfl
  obtain ⟨hv5, hI⟩ := hI
  refine zg_if_eq X 38 dX10_isContest_20 (by decide) (fun c7 => ?_) (fun c7 => ?_)
  · skip
    replace E := zIf_t c7 E
    refine zg_iconst X 0 dX10_isContest_38 (by decide) (fun v8 _ hv8 => ?_)
    replace E := zLet_s (zcst hv8 (by decide)) E
    exact ret _ _ _ _ dX10_isContest_39 (zb_bool ⟨by omega, by omega⟩) ⟨E.symm.trans hR, hS, ⟨by omega, hI⟩⟩
  · skip
    replace E := zIf_f c7 E
    refine zg_aload_n X 0 rfl dX10_isContest_23 ?_
    refine fg_X10_34 X hI ha0 dX10_isContest_24 (fun v9 ev9 hv9 => ?_)
    replace E := zLet_s (zgr ev9) E
    refine zg_iload_n X 1 rfl dX10_isContest_27 ?_
    refine zg_cVi (As := [.int p1]) (st := []) X hv9 rfl (by decide) rfl (t_X6_isSource l d L kd κ 1 _ hI v9 hv9 p1 ) mk_X10_146 mc_X6_isSource mz_X6 mi_X6_isSource ml_X6_isSource (na := 1) ⟨md_X6.1, md_X6.2, by decide +kernel⟩ rfl ⟨by decide, by decide⟩ (Nat.le_of_ble_eq_true rfl) dX10_isContest_28 (fun v10 s11 hq => ?_)
    obtain ⟨hF, hS2, hI⟩ := hq
    replace E := zLet2_s hF E
    have hS := hS.tr hS2 rfl rfl
    obtain ⟨hv10, hI⟩ := hI
    refine zg_if_eq X 38 dX10_isContest_31 (by decide) (fun c12 => ?_) (fun c12 => ?_)
    · skip
      replace E := zIf_t c12 E
      refine zg_iconst X 0 dX10_isContest_38 (by decide) (fun v13 _ hv13 => ?_)
      replace E := zLet_s (zcst hv13 (by decide)) E
      exact ret _ _ _ _ dX10_isContest_39 (zb_bool ⟨by omega, by omega⟩) ⟨E.symm.trans hR, hS, ⟨by omega, hI⟩⟩
    · skip
      replace E := zIf_f c12 E
      refine zg_iconst X 1 dX10_isContest_34 (by decide) (fun v14 _ hv14 => ?_)
      replace E := zLet_s (zcst hv14 (by decide)) E
      refine zg_goto X 39 dX10_isContest_35 (by decide) ?_
      exact ret _ _ _ _ dX10_isContest_39 (zb_bool ⟨by omega, by omega⟩) ⟨E.symm.trans hR, hS, ⟨by omega, hI⟩⟩
set_option maxHeartbeats 4000000 in
set_option maxRecDepth 100000 in
theorem t_X10_beginAnew (l : Launch) (d : zD2) (L : List Nat) (kd : Nat → Nat) (κ : Int) (b : Nat) (σ : zS) (hI : zI κ b L kd σ) (a0 : Nat) (ha0 : zT L kd a0 10) : zMv l yX10_beginAnew (Cond.code yX10_beginAnew cX10_beginAnew 1 none :: zWL) 2 [.ref a0] d L kd σ (fun σ2 => σ2 = F_X10_beginAnew a0 σ ∧ zSm [1, 2, 4, 10, 22, 23, 24] [] L kd σ σ2 ∧ (zI κ b L kd σ2)) := by
  refine zMv.of (own := RX10) (by decide +kernel) rfl rfl (Nat.le_of_ble_eq_true rfl) ?_
  intro p e s m args below meth c A Q X ret
  refine zg_lv (lv2 := [(0, .ref a0)]) rfl ?_
  obtain ⟨R, hR⟩ : ∃ R, R = F_X10_beginAnew a0 σ := ⟨_, rfl⟩
  have E := hR
  unfold F_X10_beginAnew at E
  have hS : zSm [1, 2, 4, 10, 22, 23, 24] [] L kd σ σ := zSm.rf
  refine zg_aload_n X 0 rfl dX10_beginAnew_0 ?_
  refine fg_X10_52 X hI ha0 dX10_beginAnew_1 (fun v1 ev1 hv1 => ?_)
  replace E := zLet_s (zgr ev1) E
  refine zg_aload_n X 0 rfl dX10_beginAnew_4 ?_
  refine fg_X10_70 X hI ha0 dX10_beginAnew_5 (fun v2 ev2 hv2 => ?_)
  replace E := zLet_s (zgr ev2) E
  refine zg_cVv (As := [.ref v2]) (st := []) X hv1 rfl (by decide) rfl (t_X1_begin l d L kd κ b _ hI v1 hv1 v2 hv2 ) mk_X10_103 mc_X1_begin mz_X1 mi_X1_begin ml_X1_begin (na := 1) ⟨md_X1.1, md_X1.2, by decide +kernel⟩ rfl ⟨by decide, by decide⟩ (Nat.le_of_ble_eq_true rfl) dX10_beginAnew_8 (fun s3 hq => ?_)
  obtain ⟨hF, hS2, hI⟩ := hq
  replace E := zLet_s hF E
  have hS := hS.tr hS2 rfl rfl
  refine zg_aload_n X 0 rfl dX10_beginAnew_11 ?_
  refine fg_X10_38 X hI ha0 dX10_beginAnew_12 (fun v4 ev4 hv4 => ?_)
  replace E := zLet_s (zgr ev4) E
  refine zg_iconst X 0 dX10_beginAnew_15 (by decide) (fun v5 _ hv5 => ?_)
  replace E := zLet_s (zcst hv5 (by decide)) E
  refine fp_X10_107 X hI hv4 ⟨by omega, by omega⟩ dX10_beginAnew_16 (fun s6 es6 hI => ?_)
  replace E := zLet_s es6 E
  have hS := hS.i hv4 es6 rfl
  refine zg_aload_n X 0 rfl dX10_beginAnew_19 ?_
  refine fg_X10_45 X hI ha0 dX10_beginAnew_20 (fun v7 ev7 hv7 => ?_)
  replace E := zLet_s (zgr ev7) E
  refine zg_iconst X 0 dX10_beginAnew_23 (by decide) (fun v8 _ hv8 => ?_)
  replace E := zLet_s (zcst hv8 (by decide)) E
  refine fp_X10_108 X hI hv7 ⟨by omega, by omega⟩ dX10_beginAnew_24 (fun s9 es9 hI => ?_)
  replace E := zLet_s es9 E
  have hS := hS.i hv7 es9 rfl
  refine zg_aload_n X 0 rfl dX10_beginAnew_27 ?_
  refine zg_iconst X 0 dX10_beginAnew_28 (by decide) (fun v10 _ hv10 => ?_)
  replace E := zLet_s (zcst hv10 (by decide)) E
  refine fp_X10_77 X hI ha0 (zb_rng _) dX10_beginAnew_29 (fun s11 es11 hI => ?_)
  replace E := zLet_s es11 E
  have hS := hS.i ha0 es11 rfl
  exact ret _ _ _ dX10_beginAnew_32 ⟨E.symm.trans hR, hS, hI⟩
set_option maxHeartbeats 4000000 in
set_option maxRecDepth 100000 in
theorem t_X10_sumOf (l : Launch) (d : zD2) (L : List Nat) (kd : Nat → Nat) (κ : Int) (b : Nat) (σ : zS) (hI : zI κ b L kd σ) (a0 : Nat) (ha0 : zT L kd a0 10) (kp1 : Nat) (p1 : Nat) (hp1 : zT L kd p1 kp1) (hkp1 : zb kp1 = 13) (hzp1 : 12 ≤ zn kp1) : zMi l yX10_sumOf (Cond.code yX10_sumOf cX10_sumOf 4 (some .int) :: zWL) 0 [.ref a0, .ref p1] d L kd σ (fun v σ2 => (v, σ2) = F_X10_sumOf a0 p1 σ ∧ zSm [] [] L kd σ σ2 ∧ (zI κ b L kd σ2)) := by
  refine zMi.of (own := RX10) (by decide +kernel) rfl rfl (Nat.le_of_ble_eq_true rfl) ?_
  intro p e s m args below meth c A Q X ret
  refine zg_lv (lv2 := [(0, .ref a0), (1, .ref p1)]) rfl ?_
  obtain ⟨R, hR⟩ : ∃ R, R = F_X10_sumOf a0 p1 σ := ⟨_, rfl⟩
  have E := hR
  unfold F_X10_sumOf at E
  have hS : zSm [] [] L kd σ σ := zSm.rf
  refine zg_iconst X 0 dX10_sumOf_0 (by decide) (fun v1 _ hv1 => ?_)
  replace E := zLet_s (zcst hv1 (by decide)) E
  refine zg_istore_n X [(2, .int v1), (0, .ref a0), (1, .ref p1)] dX10_sumOf_1 (by decide) rfl ?_
  refine zg_iconst X 0 dX10_sumOf_2 (by decide) (fun v2 _ hv2 => ?_)
  replace E := zLet_s (zcst hv2 (by decide)) E
  refine zg_istore_n X [(3, .int v2), (2, .int v1), (0, .ref a0), (1, .ref p1)] dX10_sumOf_3 (by decide) rfl ?_
  have Lp5 : ∀ (nLp5 : Nat) (τ5 : zS) (x3 : Int32) (x4 : Int32), zI κ b L kd τ5 → zSm [] [] L kd σ τ5 → R = F_X10_sumOf_4 a0 p1  nLp5 x3 x4 τ5 → 0 ≤ x3.toInt ∧ x3.toInt ≤ 12 → (12) - x3.toInt + 1 < (nLp5 : Int) → zG d L kd A 4 p l e (k2_rm 0 (100 * 0)) s m args below meth c Q τ5 4 [(3, .int x3), (2, .int x4), (0, .ref a0), (1, .ref p1)] [] := by
    intro nLp5
    induction nLp5 with
    | zero => intro τ5 x3 x4 hI hS E  hxLp5 hm ; exact absurd hm (by omega)
    | succ nLp5 ihLp5 =>
      intro τ5 x3 x4 hI hS E  hxLp5 hmLp5 
      rw [F_X10_sumOf_4] at E
      refine zg_iload_n X 0 rfl dX10_sumOf_4 ?_
      refine zg_aload_n X 2 rfl dX10_sumOf_5 ?_
      refine fg_X10_70 X hI ha0 dX10_sumOf_6 (fun v6 ev6 hv6 => ?_)
      replace E := zLet_s (zgr ev6) E
      refine fg_X10_175 X hI hv6 dX10_sumOf_9 (fun v7 ev7 hv7 => ?_)
      replace E := zLet_s ev7 E
      refine zg_icmp_ge X 27 dX10_sumOf_12 (by decide) (fun c8 => ?_) (fun c8 => ?_)
      · skip
        replace E := zIf_f (Int.not_lt.mpr c8) E
        refine zg_iload_n X 1 rfl dX10_sumOf_27 ?_
        exact ret _ _ _ _ dX10_sumOf_28 rfl ⟨E.symm.trans hR, hS, hI⟩
      · skip
        replace E := zIf_t c8 E
        refine zg_iload_n X 1 rfl dX10_sumOf_15 ?_
        refine zg_aload_n X 3 rfl dX10_sumOf_16 ?_
        refine zg_iload_n X 0 rfl dX10_sumOf_17 ?_
        refine zg_iald X hp1 hkp1 (by omega) (by omega) dX10_sumOf_18 ?_
        refine zg_topi (fun v9 ev9 => ?_)
        replace E := zLet_s ev9 E
        refine zg_iaddW X dX10_sumOf_19 (fun v10 ev10 => ?_)
        replace E := zLet_s ev10 E
        refine zg_istore_n X [(2, .int v10), (3, .int x3), (0, .ref a0), (1, .ref p1)] dX10_sumOf_20 (by decide) rfl ?_
        refine zg_iinc X 1 (fun v11 => [(3, .int v11), (2, .int v10), (0, .ref a0), (1, .ref p1)]) 1 dX10_sumOf_21 rfl (by decide) (by decide) (by omega) (by omega) (fun _ => rfl) (fun v11 ev11 hv11 => ?_)
        replace E := zLet_s (zinc ev11 (by decide)) E
        refine zg_goto X 4 dX10_sumOf_24 (by decide) ?_
        refine zg_sub [0, 1, 2, 3] rfl ?_
        exact ihLp5 _ v11 v10 hI hS E  (by omega) (by omega) 
  refine zg_sub [0, 1, 2, 3] rfl ?_
  exact Lp5 10000 _ v2 v1 hI hS E  (by omega) (by omega) 
set_option maxHeartbeats 4000000 in
set_option maxRecDepth 100000 in
theorem t_X10_turnedPlaces (l : Launch) (d : zD2) (L : List Nat) (kd : Nat → Nat) (κ : Int) (b : Nat) (σ : zS) (hI : zI κ b L kd σ) (a0 : Nat) (ha0 : zT L kd a0 10) : zMi l yX10_turnedPlaces (Cond.code yX10_turnedPlaces cX10_turnedPlaces 3 (some .int) :: zWL) 1 [.ref a0] d L kd σ (fun v σ2 => (v, σ2) = F_X10_turnedPlaces a0 σ ∧ zSm [] [] L kd σ σ2 ∧ (zI κ b L kd σ2)) := by
  refine zMi.of (own := RX10) (by decide +kernel) rfl rfl (Nat.le_of_ble_eq_true rfl) ?_
  intro p e s m args below meth c A Q X ret
  refine zg_lv (lv2 := [(0, .ref a0)]) rfl ?_
  obtain ⟨R, hR⟩ : ∃ R, R = F_X10_turnedPlaces a0 σ := ⟨_, rfl⟩
  have E := hR
  unfold F_X10_turnedPlaces at E
  have hS : zSm [] [] L kd σ σ := zSm.rf
  refine zg_iconst X 0 dX10_turnedPlaces_0 (by decide) (fun v1 _ hv1 => ?_)
  replace E := zLet_s (zcst hv1 (by decide)) E
  refine zg_istore_n X [(1, .int v1), (0, .ref a0)] dX10_turnedPlaces_1 (by decide) rfl ?_
  refine zg_iconst X 1 dX10_turnedPlaces_2 (by decide) (fun v2 _ hv2 => ?_)
  replace E := zLet_s (zcst hv2 (by decide)) E
  refine zg_istore_n X [(2, .int v2), (1, .int v1), (0, .ref a0)] dX10_turnedPlaces_3 (by decide) rfl ?_
  have Lp5 : ∀ (nLp5 : Nat) (τ5 : zS) (x3 : Int32) (x4 : Int32), zI κ b L kd τ5 → zSm [] [] L kd σ τ5 → R = F_X10_turnedPlaces_4 a0  nLp5 x3 x4 τ5 → 1 ≤ x3.toInt ∧ x3.toInt ≤ 12 → (12) - x3.toInt + 1 < (nLp5 : Int) → zG d L kd A 3 p l e (k2_rm 1 (100 * 1)) s m args below meth c Q τ5 4 [(2, .int x3), (1, .int x4), (0, .ref a0)] [] := by
    intro nLp5
    induction nLp5 with
    | zero => intro τ5 x3 x4 hI hS E  hxLp5 hm ; exact absurd hm (by omega)
    | succ nLp5 ihLp5 =>
      intro τ5 x3 x4 hI hS E  hxLp5 hmLp5 
      rw [F_X10_turnedPlaces_4] at E
      refine zg_iload_n X 0 rfl dX10_turnedPlaces_4 ?_
      refine zg_aload_n X 2 rfl dX10_turnedPlaces_5 ?_
      refine fg_X10_70 X hI ha0 dX10_turnedPlaces_6 (fun v6 ev6 hv6 => ?_)
      replace E := zLet_s (zgr ev6) E
      refine fg_X10_175 X hI hv6 dX10_turnedPlaces_9 (fun v7 ev7 hv7 => ?_)
      replace E := zLet_s ev7 E
      refine zg_icmp_ge X 49 dX10_turnedPlaces_12 (by decide) (fun c8 => ?_) (fun c8 => ?_)
      · skip
        replace E := zIf_f (Int.not_lt.mpr c8) E
        refine zg_iload_n X 1 rfl dX10_turnedPlaces_49 ?_
        exact ret _ _ _ _ dX10_turnedPlaces_50 rfl ⟨E.symm.trans hR, hS, hI⟩
      · skip
        replace E := zIf_t c8 E
        refine zg_aload_n X 2 rfl dX10_turnedPlaces_15 ?_
        refine fg_X10_52 X hI ha0 dX10_turnedPlaces_16 (fun v9 ev9 hv9 => ?_)
        replace E := zLet_s (zgr ev9) E
        refine fg_X10_116 X hI hv9 dX10_turnedPlaces_19 (fun v10 ev10 hv10 => ?_)
        replace E := zLet_s (zgr ev10) E
        refine zg_iload_n X 0 rfl dX10_turnedPlaces_22 ?_
        refine ag_22 X hI hv10 (by omega) (by omega) dX10_turnedPlaces_23 (fun v11 ev11 hv11 => ?_)
        replace E := zLet_s ev11 E
        refine zg_aload_n X 2 rfl dX10_turnedPlaces_24 ?_
        refine fg_X10_70 X hI ha0 dX10_turnedPlaces_25 (fun v12 ev12 hv12 => ?_)
        replace E := zLet_s (zgr ev12) E
        refine fg_X10_215 X hI hv12 dX10_turnedPlaces_28 (fun v13 ev13 hv13 => ?_)
        replace E := zLet_s (zgr ev13) E
        refine zg_iload_n X 0 rfl dX10_turnedPlaces_31 ?_
        refine ag_45 X hI hv13 (by omega) (by omega) dX10_turnedPlaces_32 (fun v14 ev14 hv14 => ?_)
        replace E := zLet_s ev14 E
        refine zg_icmp_eq X 43 dX10_turnedPlaces_33 (by decide) (fun c15 => ?_) (fun c15 => ?_)
        · skip
          replace E := zIf_t c15 E
          refine zg_iinc X 1 (fun v16 => [(2, .int v16), (1, .int x4), (0, .ref a0)]) 0 dX10_turnedPlaces_43 rfl (by decide) (by decide) (by omega) (by omega) (fun _ => rfl) (fun v16 ev16 hv16 => ?_)
          replace E := zLet_s (zinc ev16 (by decide)) E
          refine zg_goto X 4 dX10_turnedPlaces_46 (by decide) ?_
          refine zg_sub [0, 1, 2] rfl ?_
          exact ihLp5 _ v16 x4 hI hS E  (by omega) (by omega) 
        · skip
          replace E := zIf_f c15 E
          refine zg_iload_n X 1 rfl dX10_turnedPlaces_36 ?_
          refine zg_iload_n X 0 rfl dX10_turnedPlaces_37 ?_
          refine zg_cSi (As := [.int x3]) (st := [.int x4]) X (t_X10_bit l d L kd _ x3 ) mk_X10_216 mc_X10_bit mz_X10 ms_X10_bit (na := 1) ⟨md_X10.1, md_X10.2, by decide +kernel⟩ rfl ⟨by decide, by decide⟩ (Nat.le_of_ble_eq_true rfl) dX10_turnedPlaces_38 (fun v17 σ2 hq => ?_)
          obtain ⟨⟨hF, hv17⟩, rfl⟩ := hq
          replace E := zLet_s hF E
          refine zg_iorW X dX10_turnedPlaces_41 (fun v18 ev18 => ?_)
          replace E := zLet_s ev18 E
          refine zg_istore_n X [(1, .int v18), (2, .int x3), (0, .ref a0)] dX10_turnedPlaces_42 (by decide) rfl ?_
          refine zg_iinc X 1 (fun v19 => [(2, .int v19), (1, .int v18), (0, .ref a0)]) 1 dX10_turnedPlaces_43 rfl (by decide) (by decide) (by omega) (by omega) (fun _ => rfl) (fun v19 ev19 hv19 => ?_)
          replace E := zLet_s (zinc ev19 (by decide)) E
          refine zg_goto X 4 dX10_turnedPlaces_46 (by decide) ?_
          refine zg_sub [0, 1, 2] rfl ?_
          exact ihLp5 _ v19 v18 hI hS E  (by omega) (by omega) 
  refine zg_sub [0, 1, 2] rfl ?_
  exact Lp5 10000 _ v2 v1 hI hS E  (by omega) (by omega) 
set_option maxHeartbeats 4000000 in
set_option maxRecDepth 100000 in
theorem t_X10_isTurn (l : Launch) (d : zD2) (L : List Nat) (kd : Nat → Nat) (κ : Int) (b : Nat) (σ : zS) (hI : zI κ b L kd σ) (a0 : Nat) (ha0 : zT L kd a0 10) (p1 : Int32) (p2 : Int32) : zMi l yX10_isTurn (Cond.code yX10_isTurn cX10_isTurn 3 (some .boolean) :: zWL) 2 [.ref a0, .int p1, .int p2] d L kd σ (fun v σ2 => (v, σ2) = F_X10_isTurn a0 p1 p2 σ ∧ zSm [] [] L kd σ σ2 ∧ (((v.toInt = 1 ∧ 1 ≤ p1.toInt ∧ p1.toInt ≤ 11 ∧ 0 ≤ p2.toInt ∧ p2.toInt ≤ 11) ∨ v.toInt = 0) ∧ zI κ b L kd σ2)) := by
  refine zMi.of (own := RX10) (by decide +kernel) rfl rfl (Nat.le_of_ble_eq_true rfl) ?_
  intro p e s m args below meth c A Q X ret
  refine zg_lv (lv2 := [(0, .ref a0), (1, .int p1), (2, .int p2)]) rfl ?_
  obtain ⟨R, hR⟩ : ∃ R, R = F_X10_isTurn a0 p1 p2 σ := ⟨_, rfl⟩
  have E := hR
  unfold F_X10_isTurn at E
  have hS : zSm [] [] L kd σ σ := zSm.rf
  refine zg_iload_n X 1 rfl dX10_isTurn_0 ?_
  refine zg_if_eq X 49 dX10_isTurn_1 (by decide) (fun c1 => ?_) (fun c1 => ?_)
  · skip
    replace E := zIf_t c1 E
    refine zg_iconst X 0 dX10_isTurn_49 (by decide) (fun v2 _ hv2 => ?_)
    replace E := zLet_s (zcst hv2 (by decide)) E
    exact ret _ _ _ _ dX10_isTurn_50 (zb_bool ⟨by omega, by omega⟩) ⟨E.symm.trans hR, hS, ⟨by omega, hI⟩⟩
  · skip
    replace E := zIf_f c1 E
    refine zg_aload_n X 0 rfl dX10_isTurn_4 ?_
    refine zg_iload_n X 1 rfl dX10_isTurn_5 ?_
    refine zg_cVi (As := [.int p1]) (st := []) X ha0 rfl (by decide) rfl (t_X10_isPlace l d L kd κ b _ hI a0 ha0 p1 ) mk_X10_109 mc_X10_isPlace mz_X10 mi_X10_isPlace ml_X10_isPlace (na := 1) ⟨md_X10.1, md_X10.2, by decide +kernel⟩ rfl ⟨by decide, by decide⟩ (Nat.le_of_ble_eq_true rfl) dX10_isTurn_6 (fun v3 s4 hq => ?_)
    obtain ⟨hF, hS2, hI⟩ := hq
    replace E := zLet2_s hF E
    have hS := hS.tr hS2 rfl rfl
    obtain ⟨hv3, hI⟩ := hI
    refine zg_if_eq X 49 dX10_isTurn_9 (by decide) (fun c5 => ?_) (fun c5 => ?_)
    · skip
      replace E := zIf_t c5 E
      refine zg_iconst X 0 dX10_isTurn_49 (by decide) (fun v6 _ hv6 => ?_)
      replace E := zLet_s (zcst hv6 (by decide)) E
      exact ret _ _ _ _ dX10_isTurn_50 (zb_bool ⟨by omega, by omega⟩) ⟨E.symm.trans hR, hS, ⟨by omega, hI⟩⟩
    · skip
      replace E := zIf_f c5 E
      refine zg_aload_n X 0 rfl dX10_isTurn_12 ?_
      refine zg_iload_n X 2 rfl dX10_isTurn_13 ?_
      refine zg_cVi (As := [.int p2]) (st := []) X ha0 rfl (by decide) rfl (t_X10_isPlace l d L kd κ b _ hI a0 ha0 p2 ) mk_X10_109 mc_X10_isPlace mz_X10 mi_X10_isPlace ml_X10_isPlace (na := 1) ⟨md_X10.1, md_X10.2, by decide +kernel⟩ rfl ⟨by decide, by decide⟩ (Nat.le_of_ble_eq_true rfl) dX10_isTurn_14 (fun v7 s8 hq => ?_)
      obtain ⟨hF, hS2, hI⟩ := hq
      replace E := zLet2_s hF E
      have hS := hS.tr hS2 rfl rfl
      obtain ⟨hv7, hI⟩ := hI
      refine zg_if_eq X 49 dX10_isTurn_17 (by decide) (fun c9 => ?_) (fun c9 => ?_)
      · skip
        replace E := zIf_t c9 E
        refine zg_iconst X 0 dX10_isTurn_49 (by decide) (fun v10 _ hv10 => ?_)
        replace E := zLet_s (zcst hv10 (by decide)) E
        exact ret _ _ _ _ dX10_isTurn_50 (zb_bool ⟨by omega, by omega⟩) ⟨E.symm.trans hR, hS, ⟨by omega, hI⟩⟩
      · skip
        replace E := zIf_f c9 E
        refine zg_aload_n X 0 rfl dX10_isTurn_20 ?_
        refine fg_X10_52 X hI ha0 dX10_isTurn_21 (fun v11 ev11 hv11 => ?_)
        replace E := zLet_s (zgr ev11) E
        refine fg_X10_116 X hI hv11 dX10_isTurn_24 (fun v12 ev12 hv12 => ?_)
        replace E := zLet_s (zgr ev12) E
        refine zg_iload_n X 1 rfl dX10_isTurn_27 ?_
        refine ag_22 X hI hv12 (by omega) (by omega) dX10_isTurn_28 (fun v13 ev13 hv13 => ?_)
        replace E := zLet_s ev13 E
        refine zg_iload_n X 2 rfl dX10_isTurn_29 ?_
        refine zg_icmp_eq X 49 dX10_isTurn_30 (by decide) (fun c14 => ?_) (fun c14 => ?_)
        · skip
          replace E := zIf_t c14 E
          refine zg_iconst X 0 dX10_isTurn_49 (by decide) (fun v15 _ hv15 => ?_)
          replace E := zLet_s (zcst hv15 (by decide)) E
          exact ret _ _ _ _ dX10_isTurn_50 (zb_bool ⟨by omega, by omega⟩) ⟨E.symm.trans hR, hS, ⟨by omega, hI⟩⟩
        · skip
          replace E := zIf_f c14 E
          refine zg_aload_n X 0 rfl dX10_isTurn_33 ?_
          refine fg_X10_52 X hI ha0 dX10_isTurn_34 (fun v16 ev16 hv16 => ?_)
          replace E := zLet_s (zgr ev16) E
          refine zg_iload_n X 2 rfl dX10_isTurn_37 ?_
          refine zg_iload_n X 1 rfl dX10_isTurn_38 ?_
          refine zg_cVi (As := [.int p2, .int p1]) (st := []) X hv16 rfl (by decide) rfl (t_X1_comesBy l d L kd κ b _ hI v16 hv16 p2 p1 (by omega)) mk_X10_226 mc_X1_comesBy mz_X1 mi_X1_comesBy ml_X1_comesBy (na := 2) ⟨md_X1.1, md_X1.2, by decide +kernel⟩ rfl ⟨by decide, by decide⟩ (Nat.le_of_ble_eq_true rfl) dX10_isTurn_39 (fun v17 s18 hq => ?_)
          obtain ⟨hF, hS2, hI⟩ := hq
          replace E := zLet2_s hF E
          have hS := hS.tr hS2 rfl rfl
          obtain ⟨hv17, hI⟩ := hI
          refine zg_if_ne X 49 dX10_isTurn_42 (by decide) (fun c19 => ?_) (fun c19 => ?_)
          · skip
            replace E := zIf_f c19 E
            refine zg_iconst X 0 dX10_isTurn_49 (by decide) (fun v20 _ hv20 => ?_)
            replace E := zLet_s (zcst hv20 (by decide)) E
            exact ret _ _ _ _ dX10_isTurn_50 (zb_bool ⟨by omega, by omega⟩) ⟨E.symm.trans hR, hS, ⟨by omega, hI⟩⟩
          · skip
            replace E := zIf_t c19 E
            refine zg_iconst X 1 dX10_isTurn_45 (by decide) (fun v21 _ hv21 => ?_)
            replace E := zLet_s (zcst hv21 (by decide)) E
            refine zg_goto X 50 dX10_isTurn_46 (by decide) ?_
            exact ret _ _ _ _ dX10_isTurn_50 (zb_bool ⟨by omega, by omega⟩) ⟨E.symm.trans hR, hS, ⟨by omega, hI⟩⟩
set_option maxHeartbeats 4000000 in
set_option maxRecDepth 100000 in
theorem t_X10_castVotes (l : Launch) (d : zD2) (L : List Nat) (kd : Nat → Nat) (κ : Int) (σ : zS) (hI : zI κ 1 L kd σ) (a0 : Nat) (ha0 : zT L kd a0 10) : zMv l yX10_castVotes (Cond.code yX10_castVotes cX10_castVotes 4 none :: zWL) 4 [.ref a0] d L kd σ (fun σ2 => σ2 = F_X10_castVotes a0 σ ∧ zSm [20, 21, 32, 53] [] L kd σ σ2 ∧ (zI κ 1 L kd σ2)) := by
  refine zMv.of (own := RX10) (by decide +kernel) rfl rfl (Nat.le_of_ble_eq_true rfl) ?_
  intro p e s m args below meth c A Q X ret
  refine zg_lv (lv2 := [(0, .ref a0)]) rfl ?_
  obtain ⟨R, hR⟩ : ∃ R, R = F_X10_castVotes a0 σ := ⟨_, rfl⟩
  have E := hR
  unfold F_X10_castVotes at E
  have hS : zSm [20, 21, 32, 53] [] L kd σ σ := zSm.rf
  refine zg_iconst X 0 dX10_castVotes_0 (by decide) (fun v1 _ hv1 => ?_)
  replace E := zLet_s (zcst hv1 (by decide)) E
  refine zg_istore_n X [(1, .int v1), (0, .ref a0)] dX10_castVotes_1 (by decide) rfl ?_
  have Lp3 : ∀ (nLp3 : Nat) (τ3 : zS) (x2 : Int32), zI κ 1 L kd τ3 → zSm [20, 21, 32, 53] [] L kd σ τ3 → R = F_X10_castVotes_2 a0  nLp3 x2 τ3 → 0 ≤ x2.toInt ∧ x2.toInt ≤ 3 → (3) - x2.toInt + 1 < (nLp3 : Int) → zG d L kd A 4 p l e (k2_rm 4 (100 * 4)) s m args below meth c Q τ3 2 [(1, .int x2), (0, .ref a0)] [] := by
    intro nLp3
    induction nLp3 with
    | zero => intro τ3 x2 hI hS E  hxLp3 hm ; exact absurd hm (by omega)
    | succ nLp3 ihLp3 =>
      intro τ3 x2 hI hS E  hxLp3 hmLp3 
      rw [F_X10_castVotes_2] at E
      refine zg_iload_n X 0 rfl dX10_castVotes_2 ?_
      refine zg_iconst X 3 dX10_castVotes_3 (by decide) (fun v4 _ hv4 => ?_)
      replace E := zLet_s (zcst hv4 (by decide)) E
      refine zg_icmp_ge X 77 dX10_castVotes_4 (by decide) (fun c5 => ?_) (fun c5 => ?_)
      · skip
        replace E := zIf_f (Int.not_lt.mpr c5) E
        exact ret _ _ _ dX10_castVotes_77 ⟨E.symm.trans hR, hS, hI⟩
      · skip
        replace E := zIf_t c5 E
        refine zg_aload_n X 1 rfl dX10_castVotes_7 ?_
        refine fg_X10_26 X hI ha0 dX10_castVotes_8 (fun v6 ev6 hv6 => ?_)
        replace E := zLet_s (zgr ev6) E
        refine zg_iload_n X 0 rfl dX10_castVotes_11 ?_
        refine zg_cVv (As := [.int x2]) (st := []) X hv6 rfl (by decide) rfl (t_X5_weigh l d L kd κ _ hI v6 hv6 x2 (by omega)) mk_X10_247 mc_X5_weigh mz_X5 mi_X5_weigh ml_X5_weigh (na := 1) ⟨md_X5.1, md_X5.2, by decide +kernel⟩ rfl ⟨by decide, by decide⟩ (Nat.le_of_ble_eq_true rfl) dX10_castVotes_12 (fun s7 hq => ?_)
        obtain ⟨hF, hS2, hI⟩ := hq
        replace E := zLet_s hF E
        have hS := hS.tr hS2 rfl rfl
        refine zg_iconst X 1 dX10_castVotes_15 (by decide) (fun v8 _ hv8 => ?_)
        replace E := zLet_s (zcst hv8 (by decide)) E
        refine zg_istore_n X [(2, .int v8), (1, .int x2), (0, .ref a0)] dX10_castVotes_16 (by decide) rfl ?_
        have Lp10 : ∀ (nLp10 : Nat) (τ10 : zS) (x9 : Int32), zI κ 1 L kd τ10 → zSm [20, 21, 32, 53] [] L kd σ τ10 → R = F_X10_castVotes_17 x2 a0 (F_X10_castVotes_2 a0  nLp3) nLp10 x9 τ10 → 1 ≤ x9.toInt ∧ x9.toInt ≤ 12 → (12) - x9.toInt + 1 < (nLp10 : Int) → zG d L kd A 4 p l e (k2_rm 4 (100 * 4)) s m args below meth c Q τ10 17 [(2, .int x9), (1, .int x2), (0, .ref a0)] [] := by
          intro nLp10
          induction nLp10 with
          | zero => intro τ10 x9 hI hS E  hxLp10 hm ; exact absurd hm (by omega)
          | succ nLp10 ihLp10 =>
            intro τ10 x9 hI hS E  hxLp10 hmLp10 
            rw [F_X10_castVotes_17] at E
            refine zg_iload_n X 0 rfl dX10_castVotes_17 ?_
            refine zg_aload_n X 2 rfl dX10_castVotes_18 ?_
            refine fg_X10_70 X hI ha0 dX10_castVotes_19 (fun v11 ev11 hv11 => ?_)
            replace E := zLet_s (zgr ev11) E
            refine fg_X10_175 X hI hv11 dX10_castVotes_22 (fun v12 ev12 hv12 => ?_)
            replace E := zLet_s ev12 E
            refine zg_icmp_ge X 71 dX10_castVotes_25 (by decide) (fun c13 => ?_) (fun c13 => ?_)
            · skip
              replace E := zIf_f (Int.not_lt.mpr c13) E
              refine zg_iinc X 1 (fun v14 => [(1, .int v14), (2, .int x9), (0, .ref a0)]) 1 dX10_castVotes_71 rfl (by decide) (by decide) (by omega) (by omega) (fun _ => rfl) (fun v14 ev14 hv14 => ?_)
              replace E := zLet_s (zinc ev14 (by decide)) E
              refine zg_goto X 2 dX10_castVotes_74 (by decide) ?_
              refine zg_sub [0, 2] rfl ?_
              exact ihLp3 _ v14 hI hS E  (by omega) (by omega) 
            · skip
              replace E := zIf_t c13 E
              refine zg_iconst X 3 dX10_castVotes_28 (by decide) (fun v15 _ hv15 => ?_)
              replace E := zLet_s (zcst hv15 (by decide)) E
              refine zg_aload_n X 2 rfl dX10_castVotes_29 ?_
              refine fg_X10_26 X hI ha0 dX10_castVotes_30 (fun v16 ev16 hv16 => ?_)
              replace E := zLet_s (zgr ev16) E
              refine zg_iload_n X 0 rfl dX10_castVotes_33 ?_
              refine zg_cVi (As := [.int x9]) (st := [.int v15]) X hv16 rfl (by decide) rfl (t_X5_rankOf l d L kd κ _ hI v16 hv16 x9 (by omega)) mk_X10_253 mc_X5_rankOf mz_X5 mi_X5_rankOf ml_X5_rankOf (na := 1) ⟨md_X5.1, md_X5.2, by decide +kernel⟩ rfl ⟨by decide, by decide⟩ (Nat.le_of_ble_eq_true rfl) dX10_castVotes_34 (fun v17 s18 hq => ?_)
              obtain ⟨hF, hS2, hI⟩ := hq
              replace E := zLet2_s hF E
              have hS := hS.tr hS2 rfl rfl
              refine zg_imulW X dX10_castVotes_37 (fun v19 ev19 => ?_)
              replace E := zLet_s ev19 E
              refine zg_iload_n X 1 rfl dX10_castVotes_38 ?_
              refine zg_iaddW X dX10_castVotes_39 (fun v20 ev20 => ?_)
              replace E := zLet_s ev20 E
              refine zg_istore_n X [(3, .int v20), (2, .int x9), (1, .int x2), (0, .ref a0)] dX10_castVotes_40 (by decide) rfl ?_
              refine zg_aload_n X 3 rfl dX10_castVotes_41 ?_
              refine fg_X10_63 X hI ha0 dX10_castVotes_42 (fun v21 ev21 hv21 => ?_)
              replace E := zLet_s (zgr ev21) E
              refine zg_iload_n X 1 rfl dX10_castVotes_45 ?_
              refine zg_iload_n X 2 rfl dX10_castVotes_46 ?_
              refine zg_if_ne X 54 dX10_castVotes_47 (by decide) (fun c22 => ?_) (fun c22 => ?_)
              · skip
                replace E := zIf_f c22 E
                refine zg_aload_n X 3 rfl dX10_castVotes_54 ?_
                refine fg_X10_63 X hI ha0 dX10_castVotes_55 (fun v23 ev23 hv23 => ?_)
                replace E := zLet_s (zgr ev23) E
                refine zg_iload_n X 1 rfl dX10_castVotes_58 ?_
                refine ag_53 X hI hv23 (by omega) (by omega) dX10_castVotes_59 (fun v24 ev24 _ => ?_)
                replace E := zLet_s ev24 E
                refine zg_iload_n X 0 rfl dX10_castVotes_60 ?_
                refine zg_min X wj_X10_262 ⟨by decide, Nat.le_of_ble_eq_true rfl⟩ dX10_castVotes_61 (fun v25 hv25 => ?_)
                replace E := zLet_s (zmin_e hv25) E
                refine as_53 X hI hv21 (by omega) (by omega) dX10_castVotes_64 (fun s26 es26 hI => ?_)
                replace E := zLet_s es26 E
                have hS := hS.i hv21 es26 rfl
                refine zg_iinc X 1 (fun v27 => [(2, .int v27), (3, .int v20), (1, .int x2), (0, .ref a0)]) 1 dX10_castVotes_65 rfl (by decide) (by decide) (by omega) (by omega) (fun _ => rfl) (fun v27 ev27 hv27 => ?_)
                replace E := zLet_s (zinc ev27 (by decide)) E
                refine zg_goto X 17 dX10_castVotes_68 (by decide) ?_
                refine zg_sub [0, 2, 3] rfl ?_
                exact ihLp10 _ v27 hI hS E  (by omega) (by omega) 
              · skip
                replace E := zIf_t c22 E
                refine zg_iload_n X 0 rfl dX10_castVotes_50 ?_
                refine zg_goto X 64 dX10_castVotes_51 (by decide) ?_
                refine as_53 X hI hv21 (by omega) (by omega) dX10_castVotes_64 (fun s28 es28 hI => ?_)
                replace E := zLet_s es28 E
                have hS := hS.i hv21 es28 rfl
                refine zg_iinc X 1 (fun v29 => [(2, .int v29), (3, .int v20), (1, .int x2), (0, .ref a0)]) 1 dX10_castVotes_65 rfl (by decide) (by decide) (by omega) (by omega) (fun _ => rfl) (fun v29 ev29 hv29 => ?_)
                replace E := zLet_s (zinc ev29 (by decide)) E
                refine zg_goto X 17 dX10_castVotes_68 (by decide) ?_
                refine zg_sub [0, 2, 3] rfl ?_
                exact ihLp10 _ v29 hI hS E  (by omega) (by omega) 
        refine zg_sub [0, 1, 2] rfl ?_
        exact Lp10 10000 _ v8 hI hS E  (by omega) (by omega) 
  refine zg_sub [0, 1] rfl ?_
  exact Lp3 10000 _ v1 hI hS E  (by omega) (by omega) 
set_option maxHeartbeats 4000000 in
set_option maxRecDepth 100000 in
theorem t_X10_votesFor (l : Launch) (d : zD2) (L : List Nat) (kd : Nat → Nat) (κ : Int) (b : Nat) (σ : zS) (hI : zI κ b L kd σ) (a0 : Nat) (ha0 : zT L kd a0 10) (p1 : Int32) : zMi l yX10_votesFor (Cond.code yX10_votesFor cX10_votesFor 4 (some .int) :: zWL) 1 [.ref a0, .int p1] d L kd σ (fun v σ2 => (v, σ2) = F_X10_votesFor a0 p1 σ ∧ zSm [] [] L kd σ σ2 ∧ (zI κ b L kd σ2)) := by
  refine zMi.of (own := RX10) (by decide +kernel) rfl rfl (Nat.le_of_ble_eq_true rfl) ?_
  intro p e s m args below meth c A Q X ret
  refine zg_lv (lv2 := [(0, .ref a0), (1, .int p1)]) rfl ?_
  obtain ⟨R, hR⟩ : ∃ R, R = F_X10_votesFor a0 p1 σ := ⟨_, rfl⟩
  have E := hR
  unfold F_X10_votesFor at E
  have hS : zSm [] [] L kd σ σ := zSm.rf
  refine zg_iconst X 0 dX10_votesFor_0 (by decide) (fun v1 _ hv1 => ?_)
  replace E := zLet_s (zcst hv1 (by decide)) E
  refine zg_istore_n X [(2, .int v1), (0, .ref a0), (1, .int p1)] dX10_votesFor_1 (by decide) rfl ?_
  refine zg_iconst X 1 dX10_votesFor_2 (by decide) (fun v2 _ hv2 => ?_)
  replace E := zLet_s (zcst hv2 (by decide)) E
  refine zg_istore_n X [(3, .int v2), (2, .int v1), (0, .ref a0), (1, .int p1)] dX10_votesFor_3 (by decide) rfl ?_
  have Lp5 : ∀ (nLp5 : Nat) (τ5 : zS) (x3 : Int32) (x4 : Int32), zI κ b L kd τ5 → zSm [] [] L kd σ τ5 → R = F_X10_votesFor_4 a0 p1  nLp5 x3 x4 τ5 → 1 ≤ x3.toInt ∧ x3.toInt ≤ 12 → (12) - x3.toInt + 1 < (nLp5 : Int) → zG d L kd A 4 p l e (k2_rm 1 (100 * 1)) s m args below meth c Q τ5 4 [(3, .int x3), (2, .int x4), (0, .ref a0), (1, .int p1)] [] := by
    intro nLp5
    induction nLp5 with
    | zero => intro τ5 x3 x4 hI hS E  hxLp5 hm ; exact absurd hm (by omega)
    | succ nLp5 ihLp5 =>
      intro τ5 x3 x4 hI hS E  hxLp5 hmLp5 
      rw [F_X10_votesFor_4] at E
      refine zg_iload_n X 0 rfl dX10_votesFor_4 ?_
      refine zg_aload_n X 2 rfl dX10_votesFor_5 ?_
      refine fg_X10_70 X hI ha0 dX10_votesFor_6 (fun v6 ev6 hv6 => ?_)
      replace E := zLet_s (zgr ev6) E
      refine fg_X10_175 X hI hv6 dX10_votesFor_9 (fun v7 ev7 hv7 => ?_)
      replace E := zLet_s ev7 E
      refine zg_icmp_ge X 47 dX10_votesFor_12 (by decide) (fun c8 => ?_) (fun c8 => ?_)
      · skip
        replace E := zIf_f (Int.not_lt.mpr c8) E
        refine zg_iload_n X 1 rfl dX10_votesFor_47 ?_
        exact ret _ _ _ _ dX10_votesFor_48 rfl ⟨E.symm.trans hR, hS, hI⟩
      · skip
        replace E := zIf_t c8 E
        refine zg_aload_n X 2 rfl dX10_votesFor_15 ?_
        refine fg_X10_34 X hI ha0 dX10_votesFor_16 (fun v9 ev9 hv9 => ?_)
        replace E := zLet_s (zgr ev9) E
        refine zg_iload_n X 0 rfl dX10_votesFor_19 ?_
        refine zg_cVi (As := [.int x3]) (st := []) X hv9 rfl (by decide) rfl (t_X6_isSource l d L kd κ b _ hI v9 hv9 x3 ) mk_X10_146 mc_X6_isSource mz_X6 mi_X6_isSource ml_X6_isSource (na := 1) ⟨md_X6.1, md_X6.2, by decide +kernel⟩ rfl ⟨by decide, by decide⟩ (Nat.le_of_ble_eq_true rfl) dX10_votesFor_20 (fun v10 s11 hq => ?_)
        obtain ⟨hF, hS2, hI⟩ := hq
        replace E := zLet2_s hF E
        have hS := hS.tr hS2 rfl rfl
        obtain ⟨hv10, hI⟩ := hI
        refine zg_if_eq X 41 dX10_votesFor_23 (by decide) (fun c12 => ?_) (fun c12 => ?_)
        · skip
          replace E := zIf_t c12 E
          refine zg_iinc X 1 (fun v13 => [(3, .int v13), (2, .int x4), (0, .ref a0), (1, .int p1)]) 0 dX10_votesFor_41 rfl (by decide) (by decide) (by omega) (by omega) (fun _ => rfl) (fun v13 ev13 hv13 => ?_)
          replace E := zLet_s (zinc ev13 (by decide)) E
          refine zg_goto X 4 dX10_votesFor_44 (by decide) ?_
          refine zg_sub [0, 1, 2, 3] rfl ?_
          exact ihLp5 _ v13 x4 hI hS E  (by omega) (by omega) 
        · skip
          replace E := zIf_f c12 E
          refine zg_aload_n X 2 rfl dX10_votesFor_26 ?_
          refine fg_X10_63 X hI ha0 dX10_votesFor_27 (fun v14 ev14 hv14 => ?_)
          replace E := zLet_s (zgr ev14) E
          refine zg_iload_n X 0 rfl dX10_votesFor_30 ?_
          refine ag_53 X hI hv14 (by omega) (by omega) dX10_votesFor_31 (fun v15 ev15 _ => ?_)
          replace E := zLet_s ev15 E
          refine zg_iconst X 3 dX10_votesFor_32 (by decide) (fun v16 _ hv16 => ?_)
          replace E := zLet_s (zcst hv16 (by decide)) E
          refine zg_iremW X dX10_votesFor_33 (by omega) (fun v17 ev17 => ?_)
          replace E := zLet_s ev17 E
          have hv17 := zb_rem (x := v15) (y := v16) 3 (by omega) (by omega)
          rw [← ev17] at hv17
          refine zg_iload_n X 3 rfl dX10_votesFor_34 ?_
          refine zg_icmp_ne X 41 dX10_votesFor_35 (by decide) (fun c18 => ?_) (fun c18 => ?_)
          · skip
            replace E := zIf_f c18 E
            refine zg_iinc X 1 (fun v19 => [(3, .int v19), (2, .int x4), (0, .ref a0), (1, .int p1)]) 0 dX10_votesFor_41 rfl (by decide) (by decide) (by omega) (by omega) (fun _ => rfl) (fun v19 ev19 hv19 => ?_)
            replace E := zLet_s (zinc ev19 (by decide)) E
            refine zg_goto X 4 dX10_votesFor_44 (by decide) ?_
            refine zg_sub [0, 1, 2, 3] rfl ?_
            exact ihLp5 _ v19 x4 hI hS E  (by omega) (by omega) 
          · skip
            replace E := zIf_t c18 E
            refine zg_iincW X (fun v20 => [(2, .int v20), (3, .int x3), (0, .ref a0), (1, .int p1)]) 1 dX10_votesFor_38 rfl (by decide) (fun _ => rfl) (fun v20 ev20 => ?_)
            replace E := zLet_s (zinc ev20 (by decide)) E
            refine zg_iinc X 1 (fun v21 => [(3, .int v21), (2, .int v20), (0, .ref a0), (1, .int p1)]) 1 dX10_votesFor_41 rfl (by decide) (by decide) (by omega) (by omega) (fun _ => rfl) (fun v21 ev21 hv21 => ?_)
            replace E := zLet_s (zinc ev21 (by decide)) E
            refine zg_goto X 4 dX10_votesFor_44 (by decide) ?_
            refine zg_sub [0, 1, 2, 3] rfl ?_
            exact ihLp5 _ v21 v20 hI hS E  (by omega) (by omega) 
  refine zg_sub [0, 1, 2, 3] rfl ?_
  exact Lp5 10000 _ v2 v1 hI hS E  (by omega) (by omega) 
set_option maxHeartbeats 4000000 in
set_option maxRecDepth 100000 in
theorem t_X10_winsTurned (l : Launch) (d : zD2) (L : List Nat) (kd : Nat → Nat) (κ : Int) (b : Nat) (σ : zS) (hI : zI κ b L kd σ) (a0 : Nat) (ha0 : zT L kd a0 10) (p1 : Int32) (p2 : Int32) (p3 : Int32) (p4 : Int32) (hq0 : 0 ≤ p2.toInt ∧ p2.toInt ≤ 2) (hq1 : 0 ≤ p3.toInt ∧ p3.toInt ≤ 11) (hq2 : 0 ≤ p4.toInt ∧ p4.toInt ≤ 11) : zMi l yX10_winsTurned (Cond.code yX10_winsTurned cX10_winsTurned 5 (some .boolean) :: zWL) 6 [.ref a0, .int p1, .int p2, .int p3, .int p4] d L kd σ (fun v σ2 => (v, σ2) = F_X10_winsTurned a0 p1 p2 p3 p4 σ ∧ zSm [1, 6, 20, 21, 22, 23, 24, 30, 31, 32, 33, 34, 35, 36, 38] [5] L kd σ σ2 ∧ ((0 ≤ v.toInt ∧ v.toInt ≤ 1) ∧ zI κ 1 L kd σ2)) := by
  refine zMi.of (own := RX10) (by decide +kernel) rfl rfl (Nat.le_of_ble_eq_true rfl) ?_
  intro p e s m args below meth c A Q X ret
  refine zg_lv (lv2 := [(0, .ref a0), (1, .int p1), (2, .int p2), (3, .int p3), (4, .int p4)]) rfl ?_
  obtain ⟨R, hR⟩ : ∃ R, R = F_X10_winsTurned a0 p1 p2 p3 p4 σ := ⟨_, rfl⟩
  have E := hR
  unfold F_X10_winsTurned at E
  have hS : zSm [1, 6, 20, 21, 22, 23, 24, 30, 31, 32, 33, 34, 35, 36, 38] [5] L kd σ σ := zSm.rf
  refine zg_aload_n X 0 rfl dX10_winsTurned_0 ?_
  refine fg_X10_56 X hI ha0 dX10_winsTurned_1 (fun v1 ev1 hv1 => ?_)
  replace E := zLet_s (zgr ev1) E
  refine zg_aload_n X 0 rfl dX10_winsTurned_4 ?_
  refine fg_X10_52 X hI ha0 dX10_winsTurned_5 (fun v2 ev2 hv2 => ?_)
  replace E := zLet_s (zgr ev2) E
  refine zg_cVv (As := [.ref v2]) (st := []) X hv1 rfl (by decide) rfl (t_X1_copy l d L kd κ b _ hI v1 hv1 v2 hv2 ) mk_X10_241 mc_X1_copy mz_X1 mi_X1_copy ml_X1_copy (na := 1) ⟨md_X1.1, md_X1.2, by decide +kernel⟩ rfl ⟨by decide, by decide⟩ (Nat.le_of_ble_eq_true rfl) dX10_winsTurned_8 (fun s3 hq => ?_)
  obtain ⟨hF, hS2, hI⟩ := hq
  replace E := zLet_s hF E
  have hS := hS.tr hS2 rfl rfl
  refine zg_aload_n X 0 rfl dX10_winsTurned_11 ?_
  refine fg_X10_56 X hI ha0 dX10_winsTurned_12 (fun v4 ev4 hv4 => ?_)
  replace E := zLet_s (zgr ev4) E
  refine fg_X10_116 X hI hv4 dX10_winsTurned_15 (fun v5 ev5 hv5 => ?_)
  replace E := zLet_s (zgr ev5) E
  refine zg_iload_n X 3 rfl dX10_winsTurned_18 ?_
  refine zg_iload X 4 rfl dX10_winsTurned_19 ?_
  refine as_22 X hI hv5 (by omega) (by omega) ⟨by omega, by omega⟩ dX10_winsTurned_21 (fun s6 es6 hI => ?_)
  replace E := zLet_s es6 E
  have hS := hS.i hv5 es6 rfl
  refine zg_aload_n X 0 rfl dX10_winsTurned_22 ?_
  refine fg_X10_26 X hI ha0 dX10_winsTurned_23 (fun v7 ev7 hv7 => ?_)
  replace E := zLet_s (zgr ev7) E
  refine zg_aload_n X 0 rfl dX10_winsTurned_26 ?_
  refine fg_X10_70 X hI ha0 dX10_winsTurned_27 (fun v8 ev8 hv8 => ?_)
  replace E := zLet_s (zgr ev8) E
  refine zg_aload_n X 0 rfl dX10_winsTurned_30 ?_
  refine fg_X10_56 X hI ha0 dX10_winsTurned_31 (fun v9 ev9 hv9 => ?_)
  replace E := zLet_s (zgr ev9) E
  refine zg_cVv (As := [.ref v8, .ref v9]) (st := []) X hv7 rfl (by decide) rfl (t_X5_look l d L kd κ b _ hI v7 hv7 v8 hv8 v9 hv9 ) mk_X10_271 mc_X5_look mz_X5 mi_X5_look ml_X5_look (na := 2) ⟨md_X5.1, md_X5.2, by decide +kernel⟩ rfl ⟨by decide, by decide⟩ (Nat.le_of_ble_eq_true rfl) dX10_winsTurned_34 (fun s10 hq => ?_)
  obtain ⟨hF, hS2, hI⟩ := hq
  replace E := zLet_s hF E
  have hS := hS.tr hS2 rfl rfl
  refine zg_aload_n X 0 rfl dX10_winsTurned_37 ?_
  refine fg_X10_26 X hI ha0 dX10_winsTurned_38 (fun v11 ev11 hv11 => ?_)
  replace E := zLet_s (zgr ev11) E
  refine zg_iload_n X 2 rfl dX10_winsTurned_41 ?_
  refine zg_cVi (As := [.int p2]) (st := []) X hv11 rfl (by decide) rfl (t_X5_winnerBy l d L kd κ _ hI v11 hv11 p2 (by omega)) mk_X10_172 mc_X5_winnerBy mz_X5 mi_X5_winnerBy ml_X5_winnerBy (na := 1) ⟨md_X5.1, md_X5.2, by decide +kernel⟩ rfl ⟨by decide, by decide⟩ (Nat.le_of_ble_eq_true rfl) dX10_winsTurned_42 (fun v12 s13 hq => ?_)
  obtain ⟨hF, hS2, hI⟩ := hq
  replace E := zLet2_s hF E
  have hS := hS.tr hS2 rfl rfl
  obtain ⟨hv12, hI⟩ := hI
  refine zg_iload_n X 1 rfl dX10_winsTurned_45 ?_
  refine zg_icmp_ne X 53 dX10_winsTurned_46 (by decide) (fun c14 => ?_) (fun c14 => ?_)
  · skip
    replace E := zIf_f c14 E
    refine zg_iconst X 0 dX10_winsTurned_53 (by decide) (fun v15 _ hv15 => ?_)
    replace E := zLet_s (zcst hv15 (by decide)) E
    exact ret _ _ _ _ dX10_winsTurned_54 (zb_bool ⟨by omega, by omega⟩) ⟨E.symm.trans hR, hS, ⟨⟨by omega, by omega⟩, hI⟩⟩
  · skip
    replace E := zIf_t c14 E
    refine zg_iconst X 1 dX10_winsTurned_49 (by decide) (fun v16 _ hv16 => ?_)
    replace E := zLet_s (zcst hv16 (by decide)) E
    refine zg_goto X 54 dX10_winsTurned_50 (by decide) ?_
    exact ret _ _ _ _ dX10_winsTurned_54 (zb_bool ⟨by omega, by omega⟩) ⟨E.symm.trans hR, hS, ⟨⟨by omega, by omega⟩, hI⟩⟩
set_option maxHeartbeats 4000000 in
set_option maxRecDepth 100000 in
theorem t_X10_isAhead (l : Launch) (d : zD2) (L : List Nat) (kd : Nat → Nat) (σ : zS) (p1 : Int32) (p2 : Int32) : zMi l yX10_isAhead (Cond.code yX10_isAhead cX10_isAhead 4 (some .boolean) :: zWL) 1 [.int p1, .int p2] d L kd σ (fun v σ2 => (v = F_X10_isAhead p1 p2 ∧ ((0 ≤ v.toInt ∧ v.toInt ≤ 1))) ∧ σ = σ2) := by
  refine zMi.of (own := RX10) (by decide +kernel) rfl rfl (Nat.le_of_ble_eq_true rfl) ?_
  intro p e s m args below meth c A Q X ret
  refine zg_lv (lv2 := [(0, .int p1), (1, .int p2)]) rfl ?_
  obtain ⟨R, hR⟩ : ∃ R, R = F_X10_isAhead p1 p2 := ⟨_, rfl⟩
  have E := hR
  unfold F_X10_isAhead at E
  refine zg_iload_n X 1 rfl dX10_isAhead_0 ?_
  refine zg_cSi (As := [.int p2]) (st := []) X (t_J6_bitCount_0f7a4 l d L kd _ p2 ) mk_X10_198 mc_J6_bitCount_0f7a4 mz_J6 ms_J6_bitCount_0f7a4 (na := 1) ⟨md_J6.1, md_J6.2, by decide +kernel⟩ rfl ⟨by decide, by decide⟩ (Nat.le_of_ble_eq_true rfl) dX10_isAhead_1 (fun v1 σ2 hq => ?_)
  obtain ⟨⟨hF, hv1⟩, rfl⟩ := hq
  replace E := zLet_s hF E
  refine zg_iload_n X 0 rfl dX10_isAhead_4 ?_
  refine zg_cSi (As := [.int p1]) (st := [.int v1]) X (t_J6_bitCount_0f7a4 l d L kd _ p1 ) mk_X10_198 mc_J6_bitCount_0f7a4 mz_J6 ms_J6_bitCount_0f7a4 (na := 1) ⟨md_J6.1, md_J6.2, by decide +kernel⟩ rfl ⟨by decide, by decide⟩ (Nat.le_of_ble_eq_true rfl) dX10_isAhead_5 (fun v2 σ2 hq => ?_)
  obtain ⟨⟨hF, hv2⟩, rfl⟩ := hq
  replace E := zLet_s hF E
  refine zg_isubW X dX10_isAhead_8 (fun v3 ev3 => ?_)
  replace E := zLet_s ev3 E
  refine zg_istore_n X [(2, .int v3), (0, .int p1), (1, .int p2)] dX10_isAhead_9 (by decide) rfl ?_
  refine zg_iload_n X 1 rfl dX10_isAhead_10 ?_
  refine zg_iload_n X 2 rfl dX10_isAhead_11 ?_
  refine zg_ixorW X dX10_isAhead_12 (fun v4 ev4 => ?_)
  replace E := zLet_s ev4 E
  refine zg_iload_n X 1 rfl dX10_isAhead_13 ?_
  refine zg_iload_n X 2 rfl dX10_isAhead_14 ?_
  refine zg_ixorW X dX10_isAhead_15 (fun v5 ev5 => ?_)
  replace E := zLet_s ev5 E
  refine zg_inegW X dX10_isAhead_16 (fun v6 ev6 => ?_)
  replace E := zLet_s ev6 E
  refine zg_iandW X dX10_isAhead_17 (fun v7 ev7 => ?_)
  replace E := zLet_s ev7 E
  refine zg_istore_n X [(3, .int v7), (2, .int v3), (0, .int p1), (1, .int p2)] dX10_isAhead_18 (by decide) rfl ?_
  refine zg_iload_n X 3 rfl dX10_isAhead_19 ?_
  refine zg_iconst X (-1) dX10_isAhead_20 (by decide) (fun v8 _ hv8 => ?_)
  replace E := zLet_s (zcst hv8 (by decide)) E
  refine zg_icmp_eq X 38 dX10_isAhead_21 (by decide) (fun c9 => ?_) (fun c9 => ?_)
  · skip
    replace E := zIf_t c9 E
    refine zg_iconst X 1 dX10_isAhead_38 (by decide) (fun v10 _ hv10 => ?_)
    replace E := zLet_s (zcst hv10 (by decide)) E
    refine zg_goto X 43 dX10_isAhead_39 (by decide) ?_
    exact ret _ _ _ _ dX10_isAhead_43 (zb_bool ⟨by omega, by omega⟩) ⟨⟨E.symm.trans hR, ⟨by omega, by omega⟩⟩, rfl⟩
  · skip
    replace E := zIf_f c9 E
    refine zg_iload_n X 1 rfl dX10_isAhead_24 ?_
    refine zg_if_gt X 38 dX10_isAhead_25 (by decide) (fun c11 => ?_) (fun c11 => ?_)
    · skip
      replace E := zIf_t c11 E
      refine zg_iconst X 1 dX10_isAhead_38 (by decide) (fun v12 _ hv12 => ?_)
      replace E := zLet_s (zcst hv12 (by decide)) E
      refine zg_goto X 43 dX10_isAhead_39 (by decide) ?_
      exact ret _ _ _ _ dX10_isAhead_43 (zb_bool ⟨by omega, by omega⟩) ⟨⟨E.symm.trans hR, ⟨by omega, by omega⟩⟩, rfl⟩
    · skip
      replace E := zIf_f (Int.not_lt.mpr c11) E
      refine zg_iload_n X 1 rfl dX10_isAhead_28 ?_
      refine zg_if_ne X 42 dX10_isAhead_29 (by decide) (fun c13 => ?_) (fun c13 => ?_)
      · skip
        replace E := zIf_f c13 E
        refine zg_iconst X 0 dX10_isAhead_42 (by decide) (fun v14 _ hv14 => ?_)
        replace E := zLet_s (zcst hv14 (by decide)) E
        exact ret _ _ _ _ dX10_isAhead_43 (zb_bool ⟨by omega, by omega⟩) ⟨⟨E.symm.trans hR, ⟨by omega, by omega⟩⟩, rfl⟩
      · skip
        replace E := zIf_t c13 E
        refine zg_iload_n X 2 rfl dX10_isAhead_32 ?_
        refine zg_iload_n X 0 rfl dX10_isAhead_33 ?_
        refine zg_iandW X dX10_isAhead_34 (fun v15 ev15 => ?_)
        replace E := zLet_s ev15 E
        refine zg_if_eq X 42 dX10_isAhead_35 (by decide) (fun c16 => ?_) (fun c16 => ?_)
        · skip
          replace E := zIf_t c16 E
          refine zg_iconst X 0 dX10_isAhead_42 (by decide) (fun v17 _ hv17 => ?_)
          replace E := zLet_s (zcst hv17 (by decide)) E
          exact ret _ _ _ _ dX10_isAhead_43 (zb_bool ⟨by omega, by omega⟩) ⟨⟨E.symm.trans hR, ⟨by omega, by omega⟩⟩, rfl⟩
        · skip
          replace E := zIf_f c16 E
          refine zg_iconst X 1 dX10_isAhead_38 (by decide) (fun v18 _ hv18 => ?_)
          replace E := zLet_s (zcst hv18 (by decide)) E
          refine zg_goto X 43 dX10_isAhead_39 (by decide) ?_
          exact ret _ _ _ _ dX10_isAhead_43 (zb_bool ⟨by omega, by omega⟩) ⟨⟨E.symm.trans hR, ⟨by omega, by omega⟩⟩, rfl⟩
set_option maxHeartbeats 4000000 in
set_option maxRecDepth 100000 in
theorem t_X10_lossOf (l : Launch) (d : zD2) (L : List Nat) (kd : Nat → Nat) (κ : Int) (σ : zS) (hI : zI κ 1 L kd σ) (a0 : Nat) (ha0 : zT L kd a0 10) (p1 : Int32) (hq0 : 0 ≤ p1.toInt ∧ p1.toInt ≤ 11) : zMi l yX10_lossOf (Cond.code yX10_lossOf cX10_lossOf 3 (some .int) :: zWL) 4 [.ref a0, .int p1] d L kd σ (fun v σ2 => (v, σ2) = F_X10_lossOf a0 p1 σ ∧ zSm [20, 21, 31] [] L kd σ σ2 ∧ (zI κ 1 L kd σ2)) := by
  refine zMi.of (own := RX10) (by decide +kernel) rfl rfl (Nat.le_of_ble_eq_true rfl) ?_
  intro p e s m args below meth c A Q X ret
  refine zg_lv (lv2 := [(0, .ref a0), (1, .int p1)]) rfl ?_
  obtain ⟨R, hR⟩ : ∃ R, R = F_X10_lossOf a0 p1 σ := ⟨_, rfl⟩
  have E := hR
  unfold F_X10_lossOf at E
  have hS : zSm [20, 21, 31] [] L kd σ σ := zSm.rf
  refine zg_aload_n X 0 rfl dX10_lossOf_0 ?_
  refine zg_cVi (As := []) (st := []) X ha0 rfl (by decide) rfl (t_X10_mouthFlow l d L kd κ 1 _ hI a0 ha0 ) mk_X10_191 mc_X10_mouthFlow mz_X10 mi_X10_mouthFlow ml_X10_mouthFlow (na := 0) ⟨md_X10.1, md_X10.2, by decide +kernel⟩ rfl ⟨by decide, by decide⟩ (Nat.le_of_ble_eq_true rfl) dX10_lossOf_1 (fun v1 s2 hq => ?_)
  obtain ⟨hF, hS2, hI⟩ := hq
  replace E := zLet2_s hF E
  have hS := hS.tr hS2 rfl rfl
  refine zg_istore_n X [(2, .int v1), (0, .ref a0), (1, .int p1)] dX10_lossOf_4 (by decide) rfl ?_
  refine zg_aload_n X 1 rfl dX10_lossOf_5 ?_
  refine fg_X10_26 X hI ha0 dX10_lossOf_6 (fun v3 ev3 hv3 => ?_)
  replace E := zLet_s (zgr ev3) E
  refine zg_aload_n X 1 rfl dX10_lossOf_9 ?_
  refine fg_X10_52 X hI ha0 dX10_lossOf_10 (fun v4 ev4 hv4 => ?_)
  replace E := zLet_s (zgr ev4) E
  refine fg_X10_128 X hI hv4 dX10_lossOf_13 (fun v5 ev5 _ => ?_)
  replace E := zLet_s ev5 E
  refine zg_iload_n X 2 rfl dX10_lossOf_16 ?_
  refine zg_cSi (As := [.int p1]) (st := [.int v5, .ref v3]) X (t_X10_bit l d L kd _ p1 ) mk_X10_216 mc_X10_bit mz_X10 ms_X10_bit (na := 1) ⟨md_X10.1, md_X10.2, by decide +kernel⟩ rfl ⟨by decide, by decide⟩ (Nat.le_of_ble_eq_true rfl) dX10_lossOf_17 (fun v6 σ2 hq => ?_)
  obtain ⟨⟨hF, hv6⟩, rfl⟩ := hq
  replace E := zLet_s hF E
  refine zg_iorW X dX10_lossOf_20 (fun v7 ev7 => ?_)
  replace E := zLet_s ev7 E
  refine zg_cVv (As := [.int v7]) (st := []) X hv3 rfl (by decide) rfl (t_X5_run l d L kd κ _ hI v3 hv3 v7 ) mk_X10_274 mc_X5_run mz_X5 mi_X5_run ml_X5_run (na := 1) ⟨md_X5.1, md_X5.2, by decide +kernel⟩ rfl ⟨by decide, by decide⟩ (Nat.le_of_ble_eq_true rfl) dX10_lossOf_21 (fun s8 hq => ?_)
  obtain ⟨hF, hS2, hI⟩ := hq
  replace E := zLet_s hF E
  have hS := hS.tr hS2 rfl rfl
  refine zg_iload_n X 0 rfl dX10_lossOf_24 ?_
  refine zg_aload_n X 1 rfl dX10_lossOf_25 ?_
  refine zg_cVi (As := []) (st := [.int v1]) X ha0 rfl (by decide) rfl (t_X10_mouthFlow l d L kd κ 1 _ hI a0 ha0 ) mk_X10_191 mc_X10_mouthFlow mz_X10 mi_X10_mouthFlow ml_X10_mouthFlow (na := 0) ⟨md_X10.1, md_X10.2, by decide +kernel⟩ rfl ⟨by decide, by decide⟩ (Nat.le_of_ble_eq_true rfl) dX10_lossOf_26 (fun v9 s10 hq => ?_)
  obtain ⟨hF, hS2, hI⟩ := hq
  replace E := zLet2_s hF E
  have hS := hS.tr hS2 rfl rfl
  refine zg_isubW X dX10_lossOf_29 (fun v11 ev11 => ?_)
  replace E := zLet_s ev11 E
  exact ret _ _ _ _ dX10_lossOf_30 rfl ⟨E.symm.trans hR, hS, hI⟩
set_option maxHeartbeats 4000000 in
set_option maxRecDepth 100000 in
theorem t_X10_greatestInto (l : Launch) (d : zD2) (L : List Nat) (kd : Nat → Nat) (κ : Int) (σ : zS) (hI : zI κ 1 L kd σ) (a0 : Nat) (ha0 : zT L kd a0 10) (p1 : Int32) : zMi l yX10_greatestInto (Cond.code yX10_greatestInto cX10_greatestInto 4 (some .int) :: zWL) 0 [.ref a0, .int p1] d L kd σ (fun v σ2 => (v, σ2) = F_X10_greatestInto a0 p1 σ ∧ zSm [] [] L kd σ σ2 ∧ (((-1) ≤ v.toInt ∧ v.toInt ≤ 11) ∧ zI κ 1 L kd σ2)) := by
  refine zMi.of (own := RX10) (by decide +kernel) rfl rfl (Nat.le_of_ble_eq_true rfl) ?_
  intro p e s m args below meth c A Q X ret
  refine zg_lv (lv2 := [(0, .ref a0), (1, .int p1)]) rfl ?_
  obtain ⟨R, hR⟩ : ∃ R, R = F_X10_greatestInto a0 p1 σ := ⟨_, rfl⟩
  have E := hR
  unfold F_X10_greatestInto at E
  have hS : zSm [] [] L kd σ σ := zSm.rf
  refine zg_iconst X (-1) dX10_greatestInto_0 (by decide) (fun v1 _ hv1 => ?_)
  replace E := zLet_s (zcst hv1 (by decide)) E
  refine zg_istore_n X [(2, .int v1), (0, .ref a0), (1, .int p1)] dX10_greatestInto_1 (by decide) rfl ?_
  refine zg_iconst X 1 dX10_greatestInto_2 (by decide) (fun v2 _ hv2 => ?_)
  replace E := zLet_s (zcst hv2 (by decide)) E
  refine zg_istore_n X [(3, .int v2), (2, .int v1), (0, .ref a0), (1, .int p1)] dX10_greatestInto_3 (by decide) rfl ?_
  have Lp5 : ∀ (nLp5 : Nat) (τ5 : zS) (x3 : Int32) (x4 : Int32), zI κ 1 L kd τ5 → zSm [] [] L kd σ τ5 → R = F_X10_greatestInto_4 a0 p1  nLp5 x3 x4 τ5 → (-1) ≤ x4.toInt ∧ x4.toInt ≤ 11 ∧ 1 ≤ x3.toInt ∧ x3.toInt ≤ 12 → (12) - x3.toInt + 1 < (nLp5 : Int) → zG d L kd A 4 p l e (k2_rm 0 (100 * 0)) s m args below meth c Q τ5 4 [(3, .int x3), (2, .int x4), (0, .ref a0), (1, .int p1)] [] := by
    intro nLp5
    induction nLp5 with
    | zero => intro τ5 x3 x4 hI hS E  hxLp5 hm ; exact absurd hm (by omega)
    | succ nLp5 ihLp5 =>
      intro τ5 x3 x4 hI hS E  hxLp5 hmLp5 
      rw [F_X10_greatestInto_4] at E
      refine zg_iload_n X 0 rfl dX10_greatestInto_4 ?_
      refine zg_aload_n X 2 rfl dX10_greatestInto_5 ?_
      refine fg_X10_70 X hI ha0 dX10_greatestInto_6 (fun v6 ev6 hv6 => ?_)
      replace E := zLet_s (zgr ev6) E
      refine fg_X10_175 X hI hv6 dX10_greatestInto_9 (fun v7 ev7 hv7 => ?_)
      replace E := zLet_s ev7 E
      refine zg_icmp_ge X 62 dX10_greatestInto_12 (by decide) (fun c8 => ?_) (fun c8 => ?_)
      · skip
        replace E := zIf_f (Int.not_lt.mpr c8) E
        refine zg_iload_n X 1 rfl dX10_greatestInto_62 ?_
        exact ret _ _ _ _ dX10_greatestInto_63 rfl ⟨E.symm.trans hR, hS, ⟨⟨by omega, by omega⟩, hI⟩⟩
      · skip
        replace E := zIf_t c8 E
        refine zg_aload_n X 2 rfl dX10_greatestInto_15 ?_
        refine fg_X10_52 X hI ha0 dX10_greatestInto_16 (fun v9 ev9 hv9 => ?_)
        replace E := zLet_s (zgr ev9) E
        refine fg_X10_116 X hI hv9 dX10_greatestInto_19 (fun v10 ev10 hv10 => ?_)
        replace E := zLet_s (zgr ev10) E
        refine zg_iload_n X 0 rfl dX10_greatestInto_22 ?_
        refine ag_22 X hI hv10 (by omega) (by omega) dX10_greatestInto_23 (fun v11 ev11 hv11 => ?_)
        replace E := zLet_s ev11 E
        refine zg_iload_n X 3 rfl dX10_greatestInto_24 ?_
        refine zg_icmp_ne X 56 dX10_greatestInto_25 (by decide) (fun c12 => ?_) (fun c12 => ?_)
        · skip
          replace E := zIf_f c12 E
          refine zg_iinc X 1 (fun v13 => [(3, .int v13), (2, .int x4), (0, .ref a0), (1, .int p1)]) 0 dX10_greatestInto_56 rfl (by decide) (by decide) (by omega) (by omega) (fun _ => rfl) (fun v13 ev13 hv13 => ?_)
          replace E := zLet_s (zinc ev13 (by decide)) E
          refine zg_goto X 4 dX10_greatestInto_59 (by decide) ?_
          refine zg_sub [0, 1, 2, 3] rfl ?_
          exact ihLp5 _ v13 x4 hI hS E  (by omega) (by omega) 
        · skip
          replace E := zIf_t c12 E
          refine zg_iload_n X 1 rfl dX10_greatestInto_28 ?_
          refine zg_iconst X (-1) dX10_greatestInto_29 (by decide) (fun v14 _ hv14 => ?_)
          replace E := zLet_s (zcst hv14 (by decide)) E
          refine zg_icmp_eq X 54 dX10_greatestInto_30 (by decide) (fun c15 => ?_) (fun c15 => ?_)
          · skip
            replace E := zIf_t c15 E
            refine zg_iload_n X 0 rfl dX10_greatestInto_54 ?_
            refine zg_istore_n X [(2, .int x3), (3, .int x3), (0, .ref a0), (1, .int p1)] dX10_greatestInto_55 (by decide) rfl ?_
            refine zg_iinc X 1 (fun v16 => [(3, .int v16), (2, .int x3), (0, .ref a0), (1, .int p1)]) 1 dX10_greatestInto_56 rfl (by decide) (by decide) (by omega) (by omega) (fun _ => rfl) (fun v16 ev16 hv16 => ?_)
            replace E := zLet_s (zinc ev16 (by decide)) E
            refine zg_goto X 4 dX10_greatestInto_59 (by decide) ?_
            refine zg_sub [0, 1, 2, 3] rfl ?_
            exact ihLp5 _ v16 x3 hI hS E  (by omega) (by omega) 
          · skip
            replace E := zIf_f c15 E
            refine zg_aload_n X 2 rfl dX10_greatestInto_33 ?_
            refine fg_X10_26 X hI ha0 dX10_greatestInto_34 (fun v17 ev17 hv17 => ?_)
            replace E := zLet_s (zgr ev17) E
            refine fg_X10_135 X hI hv17 dX10_greatestInto_37 (fun v18 ev18 hv18 => ?_)
            replace E := zLet_s (zgr ev18) E
            refine zg_iload_n X 0 rfl dX10_greatestInto_40 ?_
            refine ag_31 X hI hv18 (by omega) (by omega) dX10_greatestInto_41 (fun v19 ev19 _ => ?_)
            replace E := zLet_s ev19 E
            refine zg_aload_n X 2 rfl dX10_greatestInto_42 ?_
            refine fg_X10_26 X hI ha0 dX10_greatestInto_43 (fun v20 ev20 hv20 => ?_)
            replace E := zLet_s (zgr ev20) E
            refine fg_X10_135 X hI hv20 dX10_greatestInto_46 (fun v21 ev21 hv21 => ?_)
            replace E := zLet_s (zgr ev21) E
            refine zg_iload_n X 1 rfl dX10_greatestInto_49 ?_
            refine ag_31 X hI hv21 (by omega) (by omega) dX10_greatestInto_50 (fun v22 ev22 _ => ?_)
            replace E := zLet_s ev22 E
            have zv19_z23 := zb_rng v19
            have zv22_z24 := zb_rng v22
            refine zg_icmp_le X 56 dX10_greatestInto_51 (by decide) (fun c25 => ?_) (fun c25 => ?_)
            · skip
              replace E := zIf_f (Int.not_lt.mpr c25) E
              refine zg_iinc X 1 (fun v26 => [(3, .int v26), (2, .int x4), (0, .ref a0), (1, .int p1)]) 0 dX10_greatestInto_56 rfl (by decide) (by decide) (by omega) (by omega) (fun _ => rfl) (fun v26 ev26 hv26 => ?_)
              replace E := zLet_s (zinc ev26 (by decide)) E
              refine zg_goto X 4 dX10_greatestInto_59 (by decide) ?_
              refine zg_sub [0, 1, 2, 3] rfl ?_
              exact ihLp5 _ v26 x4 hI hS E  (by omega) (by omega) 
            · skip
              replace E := zIf_t c25 E
              refine zg_iload_n X 0 rfl dX10_greatestInto_54 ?_
              refine zg_istore_n X [(2, .int x3), (3, .int x3), (0, .ref a0), (1, .int p1)] dX10_greatestInto_55 (by decide) rfl ?_
              refine zg_iinc X 1 (fun v27 => [(3, .int v27), (2, .int x3), (0, .ref a0), (1, .int p1)]) 1 dX10_greatestInto_56 rfl (by decide) (by decide) (by omega) (by omega) (fun _ => rfl) (fun v27 ev27 hv27 => ?_)
              replace E := zLet_s (zinc ev27 (by decide)) E
              refine zg_goto X 4 dX10_greatestInto_59 (by decide) ?_
              refine zg_sub [0, 1, 2, 3] rfl ?_
              exact ihLp5 _ v27 x3 hI hS E  (by omega) (by omega) 
  refine zg_sub [0, 1, 2, 3] rfl ?_
  exact Lp5 10000 _ v2 v1 hI hS E  (by omega) (by omega) 
set_option maxHeartbeats 4000000 in
set_option maxRecDepth 100000 in
theorem t_X10_tryFromNow (l : Launch) (d : zD2) (L : List Nat) (kd : Nat → Nat) (κ : Int) (b : Nat) (σ : zS) (hI : zI κ b L kd σ) (a0 : Nat) (ha0 : zT L kd a0 10) : zMv l yX10_tryFromNow (Cond.code yX10_tryFromNow cX10_tryFromNow 1 none :: zWL) 6 [.ref a0] d L kd σ (fun σ2 => σ2 = F_X10_tryFromNow a0 σ ∧ zSm [1, 6, 20, 21, 22, 23, 24, 30, 31, 33, 34, 35, 36, 38] [5] L kd σ σ2 ∧ (zI κ 1 L kd σ2)) := by
  refine zMv.of (own := RX10) (by decide +kernel) rfl rfl (Nat.le_of_ble_eq_true rfl) ?_
  intro p e s m args below meth c A Q X ret
  refine zg_lv (lv2 := [(0, .ref a0)]) rfl ?_
  obtain ⟨R, hR⟩ : ∃ R, R = F_X10_tryFromNow a0 σ := ⟨_, rfl⟩
  have E := hR
  unfold F_X10_tryFromNow at E
  have hS : zSm [1, 6, 20, 21, 22, 23, 24, 30, 31, 33, 34, 35, 36, 38] [5] L kd σ σ := zSm.rf
  refine zg_aload_n X 0 rfl dX10_tryFromNow_0 ?_
  refine fg_X10_56 X hI ha0 dX10_tryFromNow_1 (fun v1 ev1 hv1 => ?_)
  replace E := zLet_s (zgr ev1) E
  refine zg_aload_n X 0 rfl dX10_tryFromNow_4 ?_
  refine fg_X10_52 X hI ha0 dX10_tryFromNow_5 (fun v2 ev2 hv2 => ?_)
  replace E := zLet_s (zgr ev2) E
  refine zg_cVv (As := [.ref v2]) (st := []) X hv1 rfl (by decide) rfl (t_X1_copy l d L kd κ b _ hI v1 hv1 v2 hv2 ) mk_X10_241 mc_X1_copy mz_X1 mi_X1_copy ml_X1_copy (na := 1) ⟨md_X1.1, md_X1.2, by decide +kernel⟩ rfl ⟨by decide, by decide⟩ (Nat.le_of_ble_eq_true rfl) dX10_tryFromNow_8 (fun s3 hq => ?_)
  obtain ⟨hF, hS2, hI⟩ := hq
  replace E := zLet_s hF E
  have hS := hS.tr hS2 rfl rfl
  refine zg_aload_n X 0 rfl dX10_tryFromNow_11 ?_
  refine fg_X10_26 X hI ha0 dX10_tryFromNow_12 (fun v4 ev4 hv4 => ?_)
  replace E := zLet_s (zgr ev4) E
  refine zg_aload_n X 0 rfl dX10_tryFromNow_15 ?_
  refine fg_X10_70 X hI ha0 dX10_tryFromNow_16 (fun v5 ev5 hv5 => ?_)
  replace E := zLet_s (zgr ev5) E
  refine zg_aload_n X 0 rfl dX10_tryFromNow_19 ?_
  refine fg_X10_56 X hI ha0 dX10_tryFromNow_20 (fun v6 ev6 hv6 => ?_)
  replace E := zLet_s (zgr ev6) E
  refine zg_cVv (As := [.ref v5, .ref v6]) (st := []) X hv4 rfl (by decide) rfl (t_X5_look l d L kd κ b _ hI v4 hv4 v5 hv5 v6 hv6 ) mk_X10_271 mc_X5_look mz_X5 mi_X5_look ml_X5_look (na := 2) ⟨md_X5.1, md_X5.2, by decide +kernel⟩ rfl ⟨by decide, by decide⟩ (Nat.le_of_ble_eq_true rfl) dX10_tryFromNow_23 (fun s7 hq => ?_)
  obtain ⟨hF, hS2, hI⟩ := hq
  replace E := zLet_s hF E
  have hS := hS.tr hS2 rfl rfl
  exact ret _ _ _ dX10_tryFromNow_26 ⟨E.symm.trans hR, hS, hI⟩
set_option maxHeartbeats 4000000 in
set_option maxRecDepth 100000 in
theorem t_X10_tallied (l : Launch) (d : zD2) (L : List Nat) (kd : Nat → Nat) (κ : Int) (b : Nat) (σ : zS) (hI : zI κ b L kd σ) (a0 : Nat) (ha0 : zT L kd a0 10) : zMi l yX10_tallied (Cond.code yX10_tallied cX10_tallied 3 (some .int) :: zWL) 0 [.ref a0] d L kd σ (fun v σ2 => (v, σ2) = F_X10_tallied a0 σ ∧ zSm [] [] L kd σ σ2 ∧ (zI κ b L kd σ2)) := by
  refine zMi.of (own := RX10) (by decide +kernel) rfl rfl (Nat.le_of_ble_eq_true rfl) ?_
  intro p e s m args below meth c A Q X ret
  refine zg_lv (lv2 := [(0, .ref a0)]) rfl ?_
  obtain ⟨R, hR⟩ : ∃ R, R = F_X10_tallied a0 σ := ⟨_, rfl⟩
  have E := hR
  unfold F_X10_tallied at E
  have hS : zSm [] [] L kd σ σ := zSm.rf
  refine zg_iconst X 0 dX10_tallied_0 (by decide) (fun v1 _ hv1 => ?_)
  replace E := zLet_s (zcst hv1 (by decide)) E
  refine zg_istore_n X [(1, .int v1), (0, .ref a0)] dX10_tallied_1 (by decide) rfl ?_
  refine zg_iconst X 1 dX10_tallied_2 (by decide) (fun v2 _ hv2 => ?_)
  replace E := zLet_s (zcst hv2 (by decide)) E
  refine zg_istore_n X [(2, .int v2), (1, .int v1), (0, .ref a0)] dX10_tallied_3 (by decide) rfl ?_
  have Lp5 : ∀ (nLp5 : Nat) (τ5 : zS) (x3 : Int32) (x4 : Int32), zI κ b L kd τ5 → zSm [] [] L kd σ τ5 → R = F_X10_tallied_4 a0  nLp5 x3 x4 τ5 → 1 ≤ x3.toInt ∧ x3.toInt ≤ 12 → (12) - x3.toInt + 1 < (nLp5 : Int) → zG d L kd A 3 p l e (k2_rm 0 (100 * 0)) s m args below meth c Q τ5 4 [(2, .int x3), (1, .int x4), (0, .ref a0)] [] := by
    intro nLp5
    induction nLp5 with
    | zero => intro τ5 x3 x4 hI hS E  hxLp5 hm ; exact absurd hm (by omega)
    | succ nLp5 ihLp5 =>
      intro τ5 x3 x4 hI hS E  hxLp5 hmLp5 
      rw [F_X10_tallied_4] at E
      refine zg_iload_n X 0 rfl dX10_tallied_4 ?_
      refine zg_aload_n X 2 rfl dX10_tallied_5 ?_
      refine fg_X10_70 X hI ha0 dX10_tallied_6 (fun v6 ev6 hv6 => ?_)
      replace E := zLet_s (zgr ev6) E
      refine fg_X10_175 X hI hv6 dX10_tallied_9 (fun v7 ev7 hv7 => ?_)
      replace E := zLet_s ev7 E
      refine zg_icmp_ge X 33 dX10_tallied_12 (by decide) (fun c8 => ?_) (fun c8 => ?_)
      · skip
        replace E := zIf_f (Int.not_lt.mpr c8) E
        refine zg_iload_n X 1 rfl dX10_tallied_33 ?_
        exact ret _ _ _ _ dX10_tallied_34 rfl ⟨E.symm.trans hR, hS, hI⟩
      · skip
        replace E := zIf_t c8 E
        refine zg_aload_n X 2 rfl dX10_tallied_15 ?_
        refine fg_X10_63 X hI ha0 dX10_tallied_16 (fun v9 ev9 hv9 => ?_)
        replace E := zLet_s (zgr ev9) E
        refine zg_iload_n X 0 rfl dX10_tallied_19 ?_
        refine ag_53 X hI hv9 (by omega) (by omega) dX10_tallied_20 (fun v10 ev10 _ => ?_)
        replace E := zLet_s ev10 E
        refine zg_if_le X 27 dX10_tallied_21 (by decide) (fun c11 => ?_) (fun c11 => ?_)
        · skip
          replace E := zIf_f (Int.not_lt.mpr c11) E
          refine zg_iinc X 1 (fun v12 => [(2, .int v12), (1, .int x4), (0, .ref a0)]) 0 dX10_tallied_27 rfl (by decide) (by decide) (by omega) (by omega) (fun _ => rfl) (fun v12 ev12 hv12 => ?_)
          replace E := zLet_s (zinc ev12 (by decide)) E
          refine zg_goto X 4 dX10_tallied_30 (by decide) ?_
          refine zg_sub [0, 1, 2] rfl ?_
          exact ihLp5 _ v12 x4 hI hS E  (by omega) (by omega) 
        · skip
          replace E := zIf_t c11 E
          refine zg_iincW X (fun v13 => [(1, .int v13), (2, .int x3), (0, .ref a0)]) 1 dX10_tallied_24 rfl (by decide) (fun _ => rfl) (fun v13 ev13 => ?_)
          replace E := zLet_s (zinc ev13 (by decide)) E
          refine zg_iinc X 1 (fun v14 => [(2, .int v14), (1, .int v13), (0, .ref a0)]) 1 dX10_tallied_27 rfl (by decide) (by decide) (by omega) (by omega) (fun _ => rfl) (fun v14 ev14 hv14 => ?_)
          replace E := zLet_s (zinc ev14 (by decide)) E
          refine zg_goto X 4 dX10_tallied_30 (by decide) ?_
          refine zg_sub [0, 1, 2] rfl ?_
          exact ihLp5 _ v14 v13 hI hS E  (by omega) (by omega) 
  refine zg_sub [0, 1, 2] rfl ?_
  exact Lp5 10000 _ v2 v1 hI hS E  (by omega) (by omega) 
set_option maxHeartbeats 4000000 in
set_option maxRecDepth 100000 in
theorem t_X10_mostTallied (l : Launch) (d : zD2) (L : List Nat) (kd : Nat → Nat) (κ : Int) (b : Nat) (σ : zS) (hI : zI κ b L kd σ) (a0 : Nat) (ha0 : zT L kd a0 10) : zMi l yX10_mostTallied (Cond.code yX10_mostTallied cX10_mostTallied 3 (some .int) :: zWL) 0 [.ref a0] d L kd σ (fun v σ2 => (v, σ2) = F_X10_mostTallied a0 σ ∧ zSm [] [] L kd σ σ2 ∧ (((-2) ≤ v.toInt ∧ v.toInt ≤ 11) ∧ zI κ b L kd σ2)) := by
  refine zMi.of (own := RX10) (by decide +kernel) rfl rfl (Nat.le_of_ble_eq_true rfl) ?_
  intro p e s m args below meth c A Q X ret
  refine zg_lv (lv2 := [(0, .ref a0)]) rfl ?_
  obtain ⟨R, hR⟩ : ∃ R, R = F_X10_mostTallied a0 σ := ⟨_, rfl⟩
  have E := hR
  unfold F_X10_mostTallied at E
  have hS : zSm [] [] L kd σ σ := zSm.rf
  refine zg_bipush X (-2) dX10_mostTallied_0 (by decide) (fun v1 _ hv1 => ?_)
  replace E := zLet_s (zcst hv1 (by decide)) E
  refine zg_istore_n X [(1, .int v1), (0, .ref a0)] dX10_mostTallied_2 (by decide) rfl ?_
  refine zg_iconst X 1 dX10_mostTallied_3 (by decide) (fun v2 _ hv2 => ?_)
  replace E := zLet_s (zcst hv2 (by decide)) E
  refine zg_istore_n X [(2, .int v2), (1, .int v1), (0, .ref a0)] dX10_mostTallied_4 (by decide) rfl ?_
  have Lp5 : ∀ (nLp5 : Nat) (τ5 : zS) (x3 : Int32) (x4 : Int32), zI κ b L kd τ5 → zSm [] [] L kd σ τ5 → R = F_X10_mostTallied_5 a0  nLp5 x3 x4 τ5 → (-2) ≤ x4.toInt ∧ x4.toInt ≤ 11 ∧ 1 ≤ x3.toInt ∧ x3.toInt ≤ 12 → (12) - x3.toInt + 1 < (nLp5 : Int) → zG d L kd A 3 p l e (k2_rm 0 (100 * 0)) s m args below meth c Q τ5 5 [(2, .int x3), (1, .int x4), (0, .ref a0)] [] := by
    intro nLp5
    induction nLp5 with
    | zero => intro τ5 x3 x4 hI hS E  hxLp5 hm ; exact absurd hm (by omega)
    | succ nLp5 ihLp5 =>
      intro τ5 x3 x4 hI hS E  hxLp5 hmLp5 
      rw [F_X10_mostTallied_5] at E
      refine zg_iload_n X 0 rfl dX10_mostTallied_5 ?_
      refine zg_aload_n X 2 rfl dX10_mostTallied_6 ?_
      refine fg_X10_70 X hI ha0 dX10_mostTallied_7 (fun v6 ev6 hv6 => ?_)
      replace E := zLet_s (zgr ev6) E
      refine fg_X10_175 X hI hv6 dX10_mostTallied_10 (fun v7 ev7 hv7 => ?_)
      replace E := zLet_s ev7 E
      refine zg_icmp_ge X 47 dX10_mostTallied_13 (by decide) (fun c8 => ?_) (fun c8 => ?_)
      · skip
        replace E := zIf_f (Int.not_lt.mpr c8) E
        refine zg_iload_n X 1 rfl dX10_mostTallied_47 ?_
        exact ret _ _ _ _ dX10_mostTallied_48 rfl ⟨E.symm.trans hR, hS, ⟨⟨by omega, by omega⟩, hI⟩⟩
      · skip
        replace E := zIf_t c8 E
        refine zg_aload_n X 2 rfl dX10_mostTallied_16 ?_
        refine fg_X10_63 X hI ha0 dX10_mostTallied_17 (fun v9 ev9 hv9 => ?_)
        replace E := zLet_s (zgr ev9) E
        refine zg_iload_n X 0 rfl dX10_mostTallied_20 ?_
        refine ag_53 X hI hv9 (by omega) (by omega) dX10_mostTallied_21 (fun v10 ev10 _ => ?_)
        replace E := zLet_s ev10 E
        refine zg_iload_n X 1 rfl dX10_mostTallied_22 ?_
        refine zg_if_ge X 30 dX10_mostTallied_23 (by decide) (fun c11 => ?_) (fun c11 => ?_)
        · skip
          replace E := zIf_f (Int.not_lt.mpr c11) E
          refine zg_aload_n X 2 rfl dX10_mostTallied_30 ?_
          refine fg_X10_63 X hI ha0 dX10_mostTallied_31 (fun v12 ev12 hv12 => ?_)
          replace E := zLet_s (zgr ev12) E
          refine zg_iload_n X 1 rfl dX10_mostTallied_34 ?_
          refine ag_53 X hI hv12 (by omega) (by omega) dX10_mostTallied_35 (fun v13 ev13 _ => ?_)
          replace E := zLet_s ev13 E
          have zv10_z14 := zb_rng v10
          have zv13_z15 := zb_rng v13
          refine zg_icmp_le X 41 dX10_mostTallied_36 (by decide) (fun c16 => ?_) (fun c16 => ?_)
          · skip
            replace E := zIf_f (Int.not_lt.mpr c16) E
            refine zg_iinc X 1 (fun v17 => [(2, .int v17), (1, .int x4), (0, .ref a0)]) 0 dX10_mostTallied_41 rfl (by decide) (by decide) (by omega) (by omega) (fun _ => rfl) (fun v17 ev17 hv17 => ?_)
            replace E := zLet_s (zinc ev17 (by decide)) E
            refine zg_goto X 5 dX10_mostTallied_44 (by decide) ?_
            refine zg_sub [0, 1, 2] rfl ?_
            exact ihLp5 _ v17 x4 hI hS E  (by omega) (by omega) 
          · skip
            replace E := zIf_t c16 E
            refine zg_iload_n X 0 rfl dX10_mostTallied_39 ?_
            refine zg_istore_n X [(1, .int x3), (2, .int x3), (0, .ref a0)] dX10_mostTallied_40 (by decide) rfl ?_
            refine zg_iinc X 1 (fun v18 => [(2, .int v18), (1, .int x3), (0, .ref a0)]) 1 dX10_mostTallied_41 rfl (by decide) (by decide) (by omega) (by omega) (fun _ => rfl) (fun v18 ev18 hv18 => ?_)
            replace E := zLet_s (zinc ev18 (by decide)) E
            refine zg_goto X 5 dX10_mostTallied_44 (by decide) ?_
            refine zg_sub [0, 1, 2] rfl ?_
            exact ihLp5 _ v18 x3 hI hS E  (by omega) (by omega) 
        · skip
          replace E := zIf_t c11 E
          refine zg_iconst X 0 dX10_mostTallied_26 (by decide) (fun v19 _ hv19 => ?_)
          replace E := zLet_s (zcst hv19 (by decide)) E
          refine zg_goto X 36 dX10_mostTallied_27 (by decide) ?_
          have zv10_z20 := zb_rng v10
          refine zg_icmp_le X 41 dX10_mostTallied_36 (by decide) (fun c21 => ?_) (fun c21 => ?_)
          · skip
            replace E := zIf_f (Int.not_lt.mpr c21) E
            refine zg_iinc X 1 (fun v22 => [(2, .int v22), (1, .int x4), (0, .ref a0)]) 0 dX10_mostTallied_41 rfl (by decide) (by decide) (by omega) (by omega) (fun _ => rfl) (fun v22 ev22 hv22 => ?_)
            replace E := zLet_s (zinc ev22 (by decide)) E
            refine zg_goto X 5 dX10_mostTallied_44 (by decide) ?_
            refine zg_sub [0, 1, 2] rfl ?_
            exact ihLp5 _ v22 x4 hI hS E  (by omega) (by omega) 
          · skip
            replace E := zIf_t c21 E
            refine zg_iload_n X 0 rfl dX10_mostTallied_39 ?_
            refine zg_istore_n X [(1, .int x3), (2, .int x3), (0, .ref a0)] dX10_mostTallied_40 (by decide) rfl ?_
            refine zg_iinc X 1 (fun v23 => [(2, .int v23), (1, .int x3), (0, .ref a0)]) 1 dX10_mostTallied_41 rfl (by decide) (by decide) (by omega) (by omega) (fun _ => rfl) (fun v23 ev23 hv23 => ?_)
            replace E := zLet_s (zinc ev23 (by decide)) E
            refine zg_goto X 5 dX10_mostTallied_44 (by decide) ?_
            refine zg_sub [0, 1, 2] rfl ?_
            exact ihLp5 _ v23 x3 hI hS E  (by omega) (by omega) 
  refine zg_sub [0, 1, 2] rfl ?_
  exact Lp5 10000 _ v2 v1 hI hS E  (by omega) (by omega) 
set_option maxHeartbeats 4000000 in
set_option maxRecDepth 100000 in
theorem t_X10_hasWonMost (l : Launch) (d : zD2) (L : List Nat) (kd : Nat → Nat) (κ : Int) (b : Nat) (σ : zS) (hI : zI κ b L kd σ) (a0 : Nat) (ha0 : zT L kd a0 10) (p1 : Int32) (hq0 : 0 ≤ p1.toInt ∧ p1.toInt ≤ 11) : zMi l yX10_hasWonMost (Cond.code yX10_hasWonMost cX10_hasWonMost 4 (some .boolean) :: zWL) 1 [.ref a0, .int p1] d L kd σ (fun v σ2 => (v, σ2) = F_X10_hasWonMost a0 p1 σ ∧ zSm [] [] L kd σ σ2 ∧ ((0 ≤ v.toInt ∧ v.toInt ≤ 1) ∧ zI κ b L kd σ2)) := by
  refine zMi.of (own := RX10) (by decide +kernel) rfl rfl (Nat.le_of_ble_eq_true rfl) ?_
  intro p e s m args below meth c A Q X ret
  refine zg_lv (lv2 := [(0, .ref a0), (1, .int p1)]) rfl ?_
  obtain ⟨R, hR⟩ : ∃ R, R = F_X10_hasWonMost a0 p1 σ := ⟨_, rfl⟩
  have E := hR
  unfold F_X10_hasWonMost at E
  have hS : zSm [] [] L kd σ σ := zSm.rf
  refine zg_iconst X 1 dX10_hasWonMost_0 (by decide) (fun v1 _ hv1 => ?_)
  replace E := zLet_s (zcst hv1 (by decide)) E
  refine zg_istore_n X [(2, .int v1), (0, .ref a0), (1, .int p1)] dX10_hasWonMost_1 (by decide) rfl ?_
  refine zg_iconst X 1 dX10_hasWonMost_2 (by decide) (fun v2 _ hv2 => ?_)
  replace E := zLet_s (zcst hv2 (by decide)) E
  refine zg_istore_n X [(3, .int v2), (2, .int v1), (0, .ref a0), (1, .int p1)] dX10_hasWonMost_3 (by decide) rfl ?_
  have Lp5 : ∀ (nLp5 : Nat) (τ5 : zS) (x3 : Int32) (x4 : Int32), zI κ b L kd τ5 → zSm [] [] L kd σ τ5 → R = F_X10_hasWonMost_4 a0 p1  nLp5 x3 x4 τ5 → 0 ≤ x4.toInt ∧ x4.toInt ≤ 1 ∧ 1 ≤ x3.toInt ∧ x3.toInt ≤ 12 → (12) - x3.toInt + 1 < (nLp5 : Int) → zG d L kd A 4 p l e (k2_rm 1 (100 * 1)) s m args below meth c Q τ5 4 [(3, .int x3), (2, .int x4), (0, .ref a0), (1, .int p1)] [] := by
    intro nLp5
    induction nLp5 with
    | zero => intro τ5 x3 x4 hI hS E  hxLp5 hm ; exact absurd hm (by omega)
    | succ nLp5 ihLp5 =>
      intro τ5 x3 x4 hI hS E  hxLp5 hmLp5 
      rw [F_X10_hasWonMost_4] at E
      refine zg_iload_n X 0 rfl dX10_hasWonMost_4 ?_
      refine zg_aload_n X 2 rfl dX10_hasWonMost_5 ?_
      refine fg_X10_70 X hI ha0 dX10_hasWonMost_6 (fun v6 ev6 hv6 => ?_)
      replace E := zLet_s (zgr ev6) E
      refine fg_X10_175 X hI hv6 dX10_hasWonMost_9 (fun v7 ev7 hv7 => ?_)
      replace E := zLet_s ev7 E
      refine zg_icmp_ge X 60 dX10_hasWonMost_12 (by decide) (fun c8 => ?_) (fun c8 => ?_)
      · skip
        replace E := zIf_f (Int.not_lt.mpr c8) E
        refine zg_iload_n X 1 rfl dX10_hasWonMost_60 ?_
        exact ret _ _ _ _ dX10_hasWonMost_61 (zb_bool ⟨by omega, by omega⟩) ⟨E.symm.trans hR, hS, ⟨⟨by omega, by omega⟩, hI⟩⟩
      · skip
        replace E := zIf_t c8 E
        refine zg_iload_n X 0 rfl dX10_hasWonMost_15 ?_
        refine zg_iload_n X 3 rfl dX10_hasWonMost_16 ?_
        refine zg_icmp_eq X 54 dX10_hasWonMost_17 (by decide) (fun c9 => ?_) (fun c9 => ?_)
        · skip
          replace E := zIf_t c9 E
          refine zg_iinc X 1 (fun v10 => [(3, .int v10), (2, .int x4), (0, .ref a0), (1, .int p1)]) 0 dX10_hasWonMost_54 rfl (by decide) (by decide) (by omega) (by omega) (fun _ => rfl) (fun v10 ev10 hv10 => ?_)
          replace E := zLet_s (zinc ev10 (by decide)) E
          refine zg_goto X 4 dX10_hasWonMost_57 (by decide) ?_
          refine zg_sub [0, 1, 2, 3] rfl ?_
          exact ihLp5 _ v10 x4 hI hS E  (by omega) (by omega) 
        · skip
          replace E := zIf_f c9 E
          refine zg_aload_n X 2 rfl dX10_hasWonMost_20 ?_
          refine fg_X10_34 X hI ha0 dX10_hasWonMost_21 (fun v11 ev11 hv11 => ?_)
          replace E := zLet_s (zgr ev11) E
          refine zg_iload_n X 0 rfl dX10_hasWonMost_24 ?_
          refine zg_cVi (As := [.int x3]) (st := []) X hv11 rfl (by decide) rfl (t_X6_isSource l d L kd κ b _ hI v11 hv11 x3 ) mk_X10_146 mc_X6_isSource mz_X6 mi_X6_isSource ml_X6_isSource (na := 1) ⟨md_X6.1, md_X6.2, by decide +kernel⟩ rfl ⟨by decide, by decide⟩ (Nat.le_of_ble_eq_true rfl) dX10_hasWonMost_25 (fun v12 s13 hq => ?_)
          obtain ⟨hF, hS2, hI⟩ := hq
          replace E := zLet2_s hF E
          have hS := hS.tr hS2 rfl rfl
          obtain ⟨hv12, hI⟩ := hI
          refine zg_if_eq X 54 dX10_hasWonMost_28 (by decide) (fun c14 => ?_) (fun c14 => ?_)
          · skip
            replace E := zIf_t c14 E
            refine zg_iinc X 1 (fun v15 => [(3, .int v15), (2, .int x4), (0, .ref a0), (1, .int p1)]) 0 dX10_hasWonMost_54 rfl (by decide) (by decide) (by omega) (by omega) (fun _ => rfl) (fun v15 ev15 hv15 => ?_)
            replace E := zLet_s (zinc ev15 (by decide)) E
            refine zg_goto X 4 dX10_hasWonMost_57 (by decide) ?_
            refine zg_sub [0, 1, 2, 3] rfl ?_
            exact ihLp5 _ v15 x4 hI hS E  (by omega) (by omega) 
          · skip
            replace E := zIf_f c14 E
            refine zg_aload_n X 2 rfl dX10_hasWonMost_31 ?_
            refine fg_X10_56 X hI ha0 dX10_hasWonMost_32 (fun v16 ev16 hv16 => ?_)
            replace E := zLet_s (zgr ev16) E
            refine fg_X10_149 X hI hv16 dX10_hasWonMost_35 (fun v17 ev17 hv17 => ?_)
            replace E := zLet_s (zgr ev17) E
            refine zg_iload_n X 0 rfl dX10_hasWonMost_38 ?_
            refine ag_23 X hI hv17 (by omega) (by omega) dX10_hasWonMost_39 (fun v18 ev18 _ => ?_)
            replace E := zLet_s ev18 E
            refine zg_aload_n X 2 rfl dX10_hasWonMost_40 ?_
            refine fg_X10_56 X hI ha0 dX10_hasWonMost_41 (fun v19 ev19 hv19 => ?_)
            replace E := zLet_s (zgr ev19) E
            refine fg_X10_149 X hI hv19 dX10_hasWonMost_44 (fun v20 ev20 hv20 => ?_)
            replace E := zLet_s (zgr ev20) E
            refine zg_iload_n X 3 rfl dX10_hasWonMost_47 ?_
            refine ag_23 X hI hv20 (by omega) (by omega) dX10_hasWonMost_48 (fun v21 ev21 _ => ?_)
            replace E := zLet_s ev21 E
            have zv18_z22 := zb_rng v18
            have zv21_z23 := zb_rng v21
            refine zg_icmp_lt X 54 dX10_hasWonMost_49 (by decide) (fun c24 => ?_) (fun c24 => ?_)
            · skip
              replace E := zIf_t c24 E
              refine zg_iinc X 1 (fun v25 => [(3, .int v25), (2, .int x4), (0, .ref a0), (1, .int p1)]) 0 dX10_hasWonMost_54 rfl (by decide) (by decide) (by omega) (by omega) (fun _ => rfl) (fun v25 ev25 hv25 => ?_)
              replace E := zLet_s (zinc ev25 (by decide)) E
              refine zg_goto X 4 dX10_hasWonMost_57 (by decide) ?_
              refine zg_sub [0, 1, 2, 3] rfl ?_
              exact ihLp5 _ v25 x4 hI hS E  (by omega) (by omega) 
            · skip
              replace E := zIf_f (Int.not_lt.mpr c24) E
              refine zg_iconst X 0 dX10_hasWonMost_52 (by decide) (fun v26 _ hv26 => ?_)
              replace E := zLet_s (zcst hv26 (by decide)) E
              refine zg_istore_n X [(2, .int v26), (3, .int x3), (0, .ref a0), (1, .int p1)] dX10_hasWonMost_53 (by decide) rfl ?_
              refine zg_iinc X 1 (fun v27 => [(3, .int v27), (2, .int v26), (0, .ref a0), (1, .int p1)]) 1 dX10_hasWonMost_54 rfl (by decide) (by decide) (by omega) (by omega) (fun _ => rfl) (fun v27 ev27 hv27 => ?_)
              replace E := zLet_s (zinc ev27 (by decide)) E
              refine zg_goto X 4 dX10_hasWonMost_57 (by decide) ?_
              refine zg_sub [0, 1, 2, 3] rfl ?_
              exact ihLp5 _ v27 v26 hI hS E  (by omega) (by omega) 
  refine zg_sub [0, 1, 2, 3] rfl ?_
  exact Lp5 10000 _ v2 v1 hI hS E  (by omega) (by omega) 
set_option maxHeartbeats 4000000 in
set_option maxRecDepth 100000 in
theorem t_X10_leftAtWorst (l : Launch) (d : zD2) (L : List Nat) (kd : Nat → Nat) (κ : Int) (b : Nat) (σ : zS) (hI : zI κ b L kd σ) (a0 : Nat) (ha0 : zT L kd a0 10) (p1 : Int32) (p2 : Int32) : zMi l yX10_leftAtWorst (Cond.code yX10_leftAtWorst cX10_leftAtWorst 4 (some .int) :: zWL) 3 [.ref a0, .int p1, .int p2] d L kd σ (fun v σ2 => (v, σ2) = F_X10_leftAtWorst a0 p1 p2 σ ∧ zSm [] [] L kd σ σ2 ∧ (zI κ b L kd σ2)) := by
  refine zMi.of (own := RX10) (by decide +kernel) rfl rfl (Nat.le_of_ble_eq_true rfl) ?_
  intro p e s m args below meth c A Q X ret
  refine zg_lv (lv2 := [(0, .ref a0), (1, .int p1), (2, .int p2)]) rfl ?_
  obtain ⟨R, hR⟩ : ∃ R, R = F_X10_leftAtWorst a0 p1 p2 σ := ⟨_, rfl⟩
  have E := hR
  unfold F_X10_leftAtWorst at E
  have hS : zSm [] [] L kd σ σ := zSm.rf
  refine zg_iload_n X 1 rfl dX10_leftAtWorst_0 ?_
  refine zg_aload_n X 0 rfl dX10_leftAtWorst_1 ?_
  refine fg_X10_34 X hI ha0 dX10_leftAtWorst_2 (fun v1 ev1 hv1 => ?_)
  replace E := zLet_s (zgr ev1) E
  refine zg_iload_n X 2 rfl dX10_leftAtWorst_5 ?_
  refine zg_cVi (As := [.int p2]) (st := [.int p1]) X hv1 rfl (by decide) rfl (t_X6_comingBy l d L kd κ b _ hI v1 hv1 p2 ) mk_X10_324 mc_X6_comingBy mz_X6 mi_X6_comingBy ml_X6_comingBy (na := 1) ⟨md_X6.1, md_X6.2, by decide +kernel⟩ rfl ⟨by decide, by decide⟩ (Nat.le_of_ble_eq_true rfl) dX10_leftAtWorst_6 (fun v2 s3 hq => ?_)
  obtain ⟨hF, hS2, hI⟩ := hq
  replace E := zLet2_s hF E
  have hS := hS.tr hS2 rfl rfl
  refine zg_iandW X dX10_leftAtWorst_9 (fun v4 ev4 => ?_)
  replace E := zLet_s ev4 E
  refine zg_istore_n X [(3, .int v4), (0, .ref a0), (1, .int p1), (2, .int p2)] dX10_leftAtWorst_10 (by decide) rfl ?_
  refine zg_iload_n X 0 rfl dX10_leftAtWorst_11 ?_
  refine zg_cSi (As := [.int v4]) (st := []) X (t_J6_bitCount_0f7a4 l d L kd _ v4 ) mk_X10_198 mc_J6_bitCount_0f7a4 mz_J6 ms_J6_bitCount_0f7a4 (na := 1) ⟨md_J6.1, md_J6.2, by decide +kernel⟩ rfl ⟨by decide, by decide⟩ (Nat.le_of_ble_eq_true rfl) dX10_leftAtWorst_12 (fun v5 σ2 hq => ?_)
  obtain ⟨⟨hF, hv5⟩, rfl⟩ := hq
  replace E := zLet_s hF E
  refine zg_iload_n X 2 rfl dX10_leftAtWorst_15 ?_
  refine zg_iload_n X 0 rfl dX10_leftAtWorst_16 ?_
  refine zg_iconst X (-1) dX10_leftAtWorst_17 (by decide) (fun v6 _ hv6 => ?_)
  replace E := zLet_s (zcst hv6 (by decide)) E
  refine zg_ixorW X dX10_leftAtWorst_18 (fun v7 ev7 => ?_)
  replace E := zLet_s ev7 E
  refine zg_iandW X dX10_leftAtWorst_19 (fun v8 ev8 => ?_)
  replace E := zLet_s ev8 E
  refine zg_cSi (As := [.int v8]) (st := [.int v5]) X (t_J6_bitCount_0f7a4 l d L kd _ v8 ) mk_X10_198 mc_J6_bitCount_0f7a4 mz_J6 ms_J6_bitCount_0f7a4 (na := 1) ⟨md_J6.1, md_J6.2, by decide +kernel⟩ rfl ⟨by decide, by decide⟩ (Nat.le_of_ble_eq_true rfl) dX10_leftAtWorst_20 (fun v9 σ2 hq => ?_)
  obtain ⟨⟨hF, hv9⟩, rfl⟩ := hq
  replace E := zLet_s hF E
  refine zg_max X wj_X10_333 ⟨by decide, Nat.le_of_ble_eq_true rfl⟩ dX10_leftAtWorst_23 (fun v10 hv10 => ?_)
  replace E := zLet_s (zmax_e hv10) E
  exact ret _ _ _ _ dX10_leftAtWorst_26 rfl ⟨E.symm.trans hR, hS, hI⟩
end
