set_option maxHeartbeats 4000000 in
set_option maxRecDepth 100000 in
theorem t_X10_fewestDams (l : Launch) (d : zD2) (L : List Nat) (kd : Nat → Nat) (κ : Int) (σ : zS) (hI : zI κ 1 L kd σ) (a0 : Nat) (ha0 : zT L kd a0 10) (p1 : Int32) : zMi l yX10_fewestDams (Cond.code yX10_fewestDams cX10_fewestDams 5 (some .int) :: zWL) 4 [.ref a0, .int p1] d L kd σ (fun _ σ2 => zI κ 1 L kd σ2) := by
  refine zMi.of (own := RX10) (by decide +kernel) rfl rfl (Nat.le_of_ble_eq_true rfl) ?_
  intro p e s m args below meth c A Q X ret
  refine zg_lv (lv2 := [(0, .ref a0), (1, .int p1)]) rfl ?_
  refine zg_aload_n X 0 rfl dX10_fewestDams_0 ?_
  refine fg_X10_70 X hI ha0 dX10_fewestDams_1 (fun v1 _ hv1 => ?_)
  refine fg_X10_175 X hI hv1 dX10_fewestDams_4 (fun v2 _ hv2 => ?_)
  refine zg_cSi (As := [.int v2]) (st := []) X (t_X10_bit l d L kd _ v2 ) mk_X10_216 mc_X10_bit mz_X10 ms_X10_bit (na := 1) ⟨md_X10.1, md_X10.2, by decide +kernel⟩ rfl ⟨by decide, by decide⟩ (Nat.le_of_ble_eq_true rfl) dX10_fewestDams_7 (fun v3 σ2 hq => ?_)
  obtain ⟨hv3, rfl⟩ := hq
  have hbit := hv3 (by omega) (by omega)
  refine zg_iconst X 1 dX10_fewestDams_10 (by decide) (fun v4 _ hv4 => ?_)
  refine zg_isub X dX10_fewestDams_11 (by omega) (by omega) (fun v5 _ hv5 => ?_)
  refine zg_aload_n X 0 rfl dX10_fewestDams_12 ?_
  refine fg_X10_52 X hI ha0 dX10_fewestDams_13 (fun v6 _ hv6 => ?_)
  refine fg_X10_128 X hI hv6 dX10_fewestDams_16 (fun v7 ev7 _ => ?_)
  refine zg_iconst X 0 dX10_fewestDams_19 (by decide) (fun v8 _ hv8 => ?_)
  refine zg_cSi (As := [.int v8]) (st := [.int v7, .int v5]) X (t_X10_bit l d L kd _ v8 ) mk_X10_216 mc_X10_bit mz_X10 ms_X10_bit (na := 1) ⟨md_X10.1, md_X10.2, by decide +kernel⟩ rfl ⟨by decide, by decide⟩ (Nat.le_of_ble_eq_true rfl) dX10_fewestDams_20 (fun v9 σ2 hq => ?_)
  obtain ⟨hv9, rfl⟩ := hq
  refine zg_iorW X dX10_fewestDams_23 (fun v10 _ => ?_)
  refine zg_iconst X (-1) dX10_fewestDams_24 (by decide) (fun v11 _ hv11 => ?_)
  refine zg_ixorW X dX10_fewestDams_25 (fun v12 _ => ?_)
  have hand := zb_and v5 v12 (by omega)
  refine zg_iandW X dX10_fewestDams_26 (fun v13 ev13 => ?_)
  rw [← ev13] at hand
  refine zg_istore_n X [(2, .int v13), (0, .ref a0), (1, .int p1)] dX10_fewestDams_27 (by decide) rfl ?_
  refine zg_iconst X (-1) dX10_fewestDams_28 (by decide) (fun v14 _ hv14 => ?_)
  refine zg_istore_n X [(3, .int v14), (2, .int v13), (0, .ref a0), (1, .int p1)] dX10_fewestDams_29 (by decide) rfl ?_
  refine zg_iconst X 0 dX10_fewestDams_30 (by decide) (fun v15 _ hv15 => ?_)
  refine zg_istore X [(4, .int v15), (3, .int v14), (2, .int v13), (0, .ref a0), (1, .int p1)] dX10_fewestDams_31 (by decide) rfl ?_
  have Lp18 : ∀ (n : Nat) (σ : zS) (x16 : Int32) (x17 : Int32), zI κ 1 L kd σ → 0 ≤ x16.toInt ∧ x16.toInt ≤ 4096 → (2147483647) - x16.toInt + 1 < (n : Int) → zG d L kd A 5 p l e (k2_rm 4 (100 * 4)) s m args below meth c Q σ 33 [(4, .int x16), (3, .int x17), (2, .int v13), (0, .ref a0), (1, .int p1)] [] := by
    intro n
    induction n with
    | zero => intro σ x16 x17 hI  hxLp18 hm; exact absurd hm (by omega)
    | succ n ihLp18 =>
      intro σ x16 x17 hI  hxLp18 hmLp18
      refine zg_iload X 0 rfl dX10_fewestDams_33 ?_
      refine zg_iload_n X 2 rfl dX10_fewestDams_35 ?_
      have zv13_z19 := zb_rng v13
      refine zg_icmp_gt X 104 dX10_fewestDams_36 (by decide) (fun c20 => ?_) (fun c20 => ?_)
      · skip
        refine zg_iload_n X 1 rfl dX10_fewestDams_104 ?_
        exact ret _ _ _ _ dX10_fewestDams_105 rfl hI
      · skip
        refine zg_iload X 0 rfl dX10_fewestDams_39 ?_
        refine zg_iload_n X 2 rfl dX10_fewestDams_41 ?_
        refine zg_iconst X (-1) dX10_fewestDams_42 (by decide) (fun v21 _ hv21 => ?_)
        refine zg_ixorW X dX10_fewestDams_43 (fun v22 _ => ?_)
        refine zg_iandW X dX10_fewestDams_44 (fun v23 _ => ?_)
        refine zg_if_ne X 98 dX10_fewestDams_45 (by decide) (fun c24 => ?_) (fun c24 => ?_)
        · skip
          refine zg_iinc X 1 (fun v25 => [(4, .int v25), (3, .int x17), (2, .int v13), (0, .ref a0), (1, .int p1)]) 0 dX10_fewestDams_98 rfl (by decide) (by decide) (by omega) (by omega) (fun _ => rfl) (fun v25 _ hv25 => ?_)
          refine zg_goto X 33 dX10_fewestDams_101 (by decide) ?_
          refine zg_sub [0, 1, 2, 3, 4] rfl ?_
          exact ihLp18 _ v25 x17 hI  (by omega) (by omega)
        · skip
          refine zg_iload X 0 rfl dX10_fewestDams_48 ?_
          refine zg_cSi (As := [.int x16]) (st := []) X (t_J6_bitCount_0f7a4 l d L kd _ x16 ) mk_X10_198 mc_J6_bitCount_0f7a4 mz_J6 ms_J6_bitCount_0f7a4 (na := 1) ⟨md_J6.1, md_J6.2, by decide +kernel⟩ rfl ⟨by decide, by decide⟩ (Nat.le_of_ble_eq_true rfl) dX10_fewestDams_50 (fun v26 σ2 hq => ?_)
          obtain ⟨hv26, rfl⟩ := hq
          refine zg_iconst X 3 dX10_fewestDams_53 (by decide) (fun v27 _ hv27 => ?_)
          have zv26_z28 := zb_rng v26
          refine zg_icmp_gt X 98 dX10_fewestDams_54 (by decide) (fun c29 => ?_) (fun c29 => ?_)
          · skip
            refine zg_iinc X 1 (fun v30 => [(4, .int v30), (3, .int x17), (2, .int v13), (0, .ref a0), (1, .int p1)]) 0 dX10_fewestDams_98 rfl (by decide) (by decide) (by omega) (by omega) (fun _ => rfl) (fun v30 _ hv30 => ?_)
            refine zg_goto X 33 dX10_fewestDams_101 (by decide) ?_
            refine zg_sub [0, 1, 2, 3, 4] rfl ?_
            exact ihLp18 _ v30 x17 hI  (by omega) (by omega)
          · skip
            refine zg_iload X 0 rfl dX10_fewestDams_57 ?_
            refine zg_iload_n X 1 rfl dX10_fewestDams_59 ?_
            refine zg_cSi (As := [.int x16, .int x17]) (st := []) X (t_X10_isAhead l d L kd _ x16 x17 ) mk_X10_287 mc_X10_isAhead mz_X10 ms_X10_isAhead (na := 2) ⟨md_X10.1, md_X10.2, by decide +kernel⟩ rfl ⟨by decide, by decide⟩ (Nat.le_of_ble_eq_true rfl) dX10_fewestDams_60 (fun v31 σ2 hq => ?_)
            obtain ⟨hv31, rfl⟩ := hq
            refine zg_if_eq X 98 dX10_fewestDams_63 (by decide) (fun c32 => ?_) (fun c32 => ?_)
            · skip
              refine zg_iinc X 1 (fun v33 => [(4, .int v33), (3, .int x17), (2, .int v13), (0, .ref a0), (1, .int p1)]) 0 dX10_fewestDams_98 rfl (by decide) (by decide) (by omega) (by omega) (fun _ => rfl) (fun v33 _ hv33 => ?_)
              refine zg_goto X 33 dX10_fewestDams_101 (by decide) ?_
              refine zg_sub [0, 1, 2, 3, 4] rfl ?_
              exact ihLp18 _ v33 x17 hI  (by omega) (by omega)
            · skip
              refine zg_aload_n X 3 rfl dX10_fewestDams_66 ?_
              refine fg_X10_26 X hI ha0 dX10_fewestDams_67 (fun v34 _ hv34 => ?_)
              refine zg_aload_n X 3 rfl dX10_fewestDams_70 ?_
              refine fg_X10_52 X hI ha0 dX10_fewestDams_71 (fun v35 _ hv35 => ?_)
              refine fg_X10_128 X hI hv35 dX10_fewestDams_74 (fun v36 ev36 _ => ?_)
              refine zg_iload X 0 rfl dX10_fewestDams_77 ?_
              refine zg_iorW X dX10_fewestDams_79 (fun v37 _ => ?_)
              refine zg_cVv (As := [.int v37]) (st := []) X hv34 rfl (by decide) rfl (t_X5_run l d L kd κ _ hI v34 hv34 v37 ) mk_X10_274 mc_X5_run mz_X5 mi_X5_run ml_X5_run (na := 1) ⟨md_X5.1, md_X5.2, by decide +kernel⟩ rfl ⟨by decide, by decide⟩ (Nat.le_of_ble_eq_true rfl) dX10_fewestDams_80 (fun σ hI => ?_)
              refine zg_aload_n X 3 rfl dX10_fewestDams_83 ?_
              refine zg_cVi (As := []) (st := []) X ha0 rfl (by decide) rfl (t_X10_mouthFlow l d L kd κ 1 _ hI a0 ha0 ) mk_X10_191 mc_X10_mouthFlow mz_X10 mi_X10_mouthFlow ml_X10_mouthFlow (na := 0) ⟨md_X10.1, md_X10.2, by decide +kernel⟩ rfl ⟨by decide, by decide⟩ (Nat.le_of_ble_eq_true rfl) dX10_fewestDams_84 (fun v38 σ hI => ?_)
              refine zg_iload_n X 4 rfl dX10_fewestDams_87 ?_
              have zv38_z39 := zb_rng v38
              have zp1_z40 := zb_rng p1
              refine zg_icmp_gt X 96 dX10_fewestDams_88 (by decide) (fun c41 => ?_) (fun c41 => ?_)
              · skip
                refine zg_iload_n X 1 rfl dX10_fewestDams_96 ?_
                refine zg_istore_n X [(3, .int x17), (4, .int x16), (2, .int v13), (0, .ref a0), (1, .int p1)] dX10_fewestDams_97 (by decide) rfl ?_
                refine zg_iinc X 1 (fun v42 => [(4, .int v42), (3, .int x17), (2, .int v13), (0, .ref a0), (1, .int p1)]) 1 dX10_fewestDams_98 rfl (by decide) (by decide) (by omega) (by omega) (fun _ => rfl) (fun v42 _ hv42 => ?_)
                refine zg_goto X 33 dX10_fewestDams_101 (by decide) ?_
                refine zg_sub [0, 1, 2, 3, 4] rfl ?_
                exact ihLp18 _ v42 x17 hI  (by omega) (by omega)
              · skip
                refine zg_iload X 0 rfl dX10_fewestDams_91 ?_
                refine zg_goto X 97 dX10_fewestDams_93 (by decide) ?_
                refine zg_istore_n X [(3, .int x16), (4, .int x16), (2, .int v13), (0, .ref a0), (1, .int p1)] dX10_fewestDams_97 (by decide) rfl ?_
                refine zg_iinc X 1 (fun v43 => [(4, .int v43), (3, .int x16), (2, .int v13), (0, .ref a0), (1, .int p1)]) 1 dX10_fewestDams_98 rfl (by decide) (by decide) (by omega) (by omega) (fun _ => rfl) (fun v43 _ hv43 => ?_)
                refine zg_goto X 33 dX10_fewestDams_101 (by decide) ?_
                refine zg_sub [0, 1, 2, 3, 4] rfl ?_
                exact ihLp18 _ v43 x16 hI  (by omega) (by omega)
  refine zg_sub [0, 1, 2, 3, 4] rfl ?_
  exact Lp18 (((2147483647) - v15.toInt + 1).toNat + 1) _ v15 v14 hI  (by omega) (by omega)
set_option maxHeartbeats 4000000 in
set_option maxRecDepth 100000 in
theorem t_X10_place (l : Launch) (d : zD2) (L : List Nat) (kd : Nat → Nat) (κ : Int) (σ : zS) (hI : zI κ 0 L kd σ) (a0 : Nat) (ha0 : zT L kd a0 10) : zMi l yX10_place (Cond.code yX10_place cX10_place 1 (some .int) :: zWL) 0 [.ref a0] d L kd σ (fun _ σ2 => zI κ 0 L kd σ2) := by
  refine zMi.of (own := RX10) (by decide +kernel) rfl rfl (Nat.le_of_ble_eq_true rfl) ?_
  intro p e s m args below meth c A Q X ret
  refine zg_lv (lv2 := [(0, .ref a0)]) rfl ?_
  refine zg_aload_n X 0 rfl dX10_place_0 ?_
  refine fg_X10_81 X hI ha0 dX10_place_1 (fun v1 _ _ => ?_)
  exact ret _ _ _ _ dX10_place_4 rfl hI
set_option maxHeartbeats 4000000 in
set_option maxRecDepth 100000 in
theorem t_X10_spot (l : Launch) (d : zD2) (L : List Nat) (kd : Nat → Nat) (κ : Int) (σ : zS) (hI : zI κ 0 L kd σ) (a0 : Nat) (ha0 : zT L kd a0 10) (p1 : Int32) (p2 : Int32) : zMi l yX10_spot (Cond.code yX10_spot cX10_spot 3 (some .int) :: zWL) 7 [.ref a0, .int p1, .int p2] d L kd σ (fun _ σ2 => zI κ 0 L kd σ2) := by
  refine zMi.of (own := RX10) (by decide +kernel) rfl rfl (Nat.le_of_ble_eq_true rfl) ?_
  intro p e s m args below meth c A Q X ret
  refine zg_lv (lv2 := [(0, .ref a0), (1, .int p1), (2, .int p2)]) rfl ?_
  refine zg_aload_n X 0 rfl dX10_spot_0 ?_
  refine zg_iload_n X 1 rfl dX10_spot_1 ?_
  refine zg_cVi (As := [.int p1]) (st := []) X ha0 rfl (by decide) rfl (t_X10_isPlace l d L kd κ 0 _ hI a0 ha0 p1 ) mk_X10_109 mc_X10_isPlace mz_X10 mi_X10_isPlace ml_X10_isPlace (na := 1) ⟨md_X10.1, md_X10.2, by decide +kernel⟩ rfl ⟨by decide, by decide⟩ (Nat.le_of_ble_eq_true rfl) dX10_spot_2 (fun v1 σ hI => ?_)
  obtain ⟨hv1, hI⟩ := hI
  refine zg_if_eq X 18 dX10_spot_5 (by decide) (fun c2 => ?_) (fun c2 => ?_)
  · skip
    refine zg_iconst X (-1) dX10_spot_18 (by decide) (fun v3 _ hv3 => ?_)
    exact ret _ _ _ _ dX10_spot_19 rfl hI
  · skip
    refine zg_iload_n X 2 rfl dX10_spot_8 ?_
    refine zg_if_lt X 18 dX10_spot_9 (by decide) (fun c4 => ?_) (fun c4 => ?_)
    · skip
      refine zg_iconst X (-1) dX10_spot_18 (by decide) (fun v5 _ hv5 => ?_)
      exact ret _ _ _ _ dX10_spot_19 rfl hI
    · skip
      refine zg_iload_n X 2 rfl dX10_spot_12 ?_
      refine zg_bipush X 12 dX10_spot_13 (by decide) (fun v6 _ hv6 => ?_)
      have zp2_z7 := zb_rng p2
      refine zg_icmp_le X 20 dX10_spot_15 (by decide) (fun c8 => ?_) (fun c8 => ?_)
      · skip
        refine zg_aload_n X 0 rfl dX10_spot_20 ?_
        refine zg_cVv (As := []) (st := []) X ha0 rfl (by decide) rfl (t_X10_look l d L kd κ 0 _ hI a0 ha0 ) mk_X10_113 mc_X10_look mz_X10 mi_X10_look ml_X10_look (na := 0) ⟨md_X10.1, md_X10.2, by decide +kernel⟩ rfl ⟨by decide, by decide⟩ (Nat.le_of_ble_eq_true rfl) dX10_spot_21 (fun σ hI => ?_)
        refine zg_iload_n X 2 rfl dX10_spot_24 ?_
        by_cases q9 : p2.toInt = 0
        · refine zg_tabIn X 88 0 dX10_spot_25 q9 (by decide) (by decide) rfl (by decide) ?_
          refine zg_iload_n X 1 rfl dX10_spot_88 ?_
          refine zg_if_ne X 97 dX10_spot_89 (by decide) (fun c10 => ?_) (fun c10 => ?_)
          · skip
            refine zg_aload_n X 0 rfl dX10_spot_97 ?_
            refine fg_X10_52 X hI ha0 dX10_spot_98 (fun v11 _ hv11 => ?_)
            refine fg_X10_116 X hI hv11 dX10_spot_101 (fun v12 _ hv12 => ?_)
            refine zg_iload_n X 1 rfl dX10_spot_104 ?_
            refine ag_22 X hI hv12 (by omega) (by omega) dX10_spot_105 (fun v13 _ hv13 => ?_)
            exact ret _ _ _ _ dX10_spot_106 rfl (zi_weak hI)
          · skip
            refine zg_bipush X (-2) dX10_spot_92 (by decide) (fun v14 _ hv14 => ?_)
            refine zg_goto X 106 dX10_spot_94 (by decide) ?_
            exact ret _ _ _ _ dX10_spot_106 rfl (zi_weak hI)
        · skip
          by_cases q15 : p2.toInt = 1
          · refine zg_tabIn X 107 1 dX10_spot_25 q15 (by decide) (by decide) rfl (by decide) ?_
            refine zg_aload_n X 0 rfl dX10_spot_107 ?_
            refine fg_X10_70 X hI ha0 dX10_spot_108 (fun v16 _ hv16 => ?_)
            refine fg_X10_119 X hI hv16 dX10_spot_111 (fun v17 _ hv17 => ?_)
            refine zg_iload_n X 1 rfl dX10_spot_114 ?_
            refine ag_46 X hI hv17 (by omega) (by omega) dX10_spot_115 (fun v18 _ _ => ?_)
            exact ret _ _ _ _ dX10_spot_116 rfl (zi_weak hI)
          · skip
            by_cases q19 : p2.toInt = 2
            · refine zg_tabIn X 117 2 dX10_spot_25 q19 (by decide) (by decide) rfl (by decide) ?_
              refine zg_aload_n X 0 rfl dX10_spot_117 ?_
              refine fg_X10_70 X hI ha0 dX10_spot_118 (fun v20 _ hv20 => ?_)
              refine fg_X10_122 X hI hv20 dX10_spot_121 (fun v21 _ hv21 => ?_)
              refine zg_iload_n X 1 rfl dX10_spot_124 ?_
              refine ag_47 X hI hv21 (by omega) (by omega) dX10_spot_125 (fun v22 _ _ => ?_)
              exact ret _ _ _ _ dX10_spot_126 rfl (zi_weak hI)
            · skip
              by_cases q23 : p2.toInt = 3
              · refine zg_tabIn X 127 3 dX10_spot_25 q23 (by decide) (by decide) rfl (by decide) ?_
                refine zg_aload_n X 0 rfl dX10_spot_127 ?_
                refine fg_X10_70 X hI ha0 dX10_spot_128 (fun v24 _ hv24 => ?_)
                refine fg_X10_125 X hI hv24 dX10_spot_131 (fun v25 _ hv25 => ?_)
                refine zg_iload_n X 1 rfl dX10_spot_134 ?_
                refine ag_48 X hI hv25 (by omega) (by omega) dX10_spot_135 (fun v26 _ _ => ?_)
                exact ret _ _ _ _ dX10_spot_136 rfl (zi_weak hI)
              · skip
                by_cases q27 : p2.toInt = 4
                · refine zg_tabIn X 137 4 dX10_spot_25 q27 (by decide) (by decide) rfl (by decide) ?_
                  refine zg_aload_n X 0 rfl dX10_spot_137 ?_
                  refine fg_X10_52 X hI ha0 dX10_spot_138 (fun v28 _ hv28 => ?_)
                  refine fg_X10_128 X hI hv28 dX10_spot_141 (fun v29 _ _ => ?_)
                  refine zg_iload_n X 1 rfl dX10_spot_144 ?_
                  refine zg_cSi (As := [.int v29, .int p1]) (st := []) X (t_X10_has l d L kd _ v29 p1 ) mk_X10_131 mc_X10_has mz_X10 ms_X10_has (na := 2) ⟨md_X10.1, md_X10.2, by decide +kernel⟩ rfl ⟨by decide, by decide⟩ (Nat.le_of_ble_eq_true rfl) dX10_spot_145 (fun v30 σ2 hq => ?_)
                  obtain ⟨hv30, rfl⟩ := hq
                  refine zg_if_eq X 155 dX10_spot_148 (by decide) (fun c31 => ?_) (fun c31 => ?_)
                  · skip
                    refine zg_iconst X 0 dX10_spot_155 (by decide) (fun v32 _ hv32 => ?_)
                    exact ret _ _ _ _ dX10_spot_156 rfl (zi_weak hI)
                  · skip
                    refine zg_iconst X 1 dX10_spot_151 (by decide) (fun v33 _ hv33 => ?_)
                    refine zg_goto X 156 dX10_spot_152 (by decide) ?_
                    exact ret _ _ _ _ dX10_spot_156 rfl (zi_weak hI)
                · skip
                  by_cases q34 : p2.toInt = 5
                  · refine zg_tabIn X 157 5 dX10_spot_25 q34 (by decide) (by decide) rfl (by decide) ?_
                    refine zg_aload_n X 0 rfl dX10_spot_157 ?_
                    refine fg_X10_26 X hI ha0 dX10_spot_158 (fun v35 _ hv35 => ?_)
                    refine fg_X10_135 X hI hv35 dX10_spot_161 (fun v36 _ hv36 => ?_)
                    refine zg_iload_n X 1 rfl dX10_spot_164 ?_
                    refine ag_31 X hI hv36 (by omega) (by omega) dX10_spot_165 (fun v37 _ _ => ?_)
                    exact ret _ _ _ _ dX10_spot_166 rfl (zi_weak hI)
                  · skip
                    by_cases q38 : p2.toInt = 6
                    · refine zg_tabIn X 167 6 dX10_spot_25 q38 (by decide) (by decide) rfl (by decide) ?_
                      refine zg_aload_n X 0 rfl dX10_spot_167 ?_
                      refine fg_X10_34 X hI ha0 dX10_spot_168 (fun v39 _ hv39 => ?_)
                      refine fg_X10_138 X hI hv39 dX10_spot_171 (fun v40 _ hv40 => ?_)
                      refine zg_iload_n X 1 rfl dX10_spot_174 ?_
                      refine ag_35 X hI hv40 (by omega) (by omega) dX10_spot_175 (fun v41 _ _ => ?_)
                      exact ret _ _ _ _ dX10_spot_176 rfl (zi_weak hI)
                    · skip
                      by_cases q42 : p2.toInt = 7
                      · refine zg_tabIn X 177 7 dX10_spot_25 q42 (by decide) (by decide) rfl (by decide) ?_
                        refine zg_aload_n X 0 rfl dX10_spot_177 ?_
                        refine fg_X10_34 X hI ha0 dX10_spot_178 (fun v43 _ hv43 => ?_)
                        refine fg_X10_143 X hI hv43 dX10_spot_181 (fun v44 _ hv44 => ?_)
                        refine zg_iload_n X 1 rfl dX10_spot_184 ?_
                        refine ag_36 X hI hv44 (by omega) (by omega) dX10_spot_185 (fun v45 _ _ => ?_)
                        exact ret _ _ _ _ dX10_spot_186 rfl (zi_weak hI)
                      · skip
                        by_cases q46 : p2.toInt = 8
                        · refine zg_tabIn X 187 8 dX10_spot_25 q46 (by decide) (by decide) rfl (by decide) ?_
                          refine zg_aload_n X 0 rfl dX10_spot_187 ?_
                          refine fg_X10_34 X hI ha0 dX10_spot_188 (fun v47 _ hv47 => ?_)
                          refine zg_iload_n X 1 rfl dX10_spot_191 ?_
                          refine zg_cVi (As := [.int p1]) (st := []) X hv47 rfl (by decide) rfl (t_X6_isSource l d L kd κ 1 _ hI v47 hv47 p1 ) mk_X10_146 mc_X6_isSource mz_X6 mi_X6_isSource ml_X6_isSource (na := 1) ⟨md_X6.1, md_X6.2, by decide +kernel⟩ rfl ⟨by decide, by decide⟩ (Nat.le_of_ble_eq_true rfl) dX10_spot_192 (fun v48 σ hI => ?_)
                          obtain ⟨hv48, hI⟩ := hI
                          refine zg_if_eq X 202 dX10_spot_195 (by decide) (fun c49 => ?_) (fun c49 => ?_)
                          · skip
                            refine zg_iconst X 0 dX10_spot_202 (by decide) (fun v50 _ hv50 => ?_)
                            exact ret _ _ _ _ dX10_spot_203 rfl (zi_weak hI)
                          · skip
                            refine zg_iconst X 1 dX10_spot_198 (by decide) (fun v51 _ hv51 => ?_)
                            refine zg_goto X 203 dX10_spot_199 (by decide) ?_
                            exact ret _ _ _ _ dX10_spot_203 rfl (zi_weak hI)
                        · skip
                          by_cases q52 : p2.toInt = 9
                          · refine zg_tabIn X 204 9 dX10_spot_25 q52 (by decide) (by decide) rfl (by decide) ?_
                            refine zg_aload_n X 0 rfl dX10_spot_204 ?_
                            refine fg_X10_52 X hI ha0 dX10_spot_205 (fun v53 _ hv53 => ?_)
                            refine fg_X10_149 X hI hv53 dX10_spot_208 (fun v54 _ hv54 => ?_)
                            refine zg_iload_n X 1 rfl dX10_spot_211 ?_
                            refine ag_23 X hI hv54 (by omega) (by omega) dX10_spot_212 (fun v55 _ _ => ?_)
                            exact ret _ _ _ _ dX10_spot_213 rfl (zi_weak hI)
                          · skip
                            by_cases q56 : p2.toInt = 10
                            · refine zg_tabIn X 214 10 dX10_spot_25 q56 (by decide) (by decide) rfl (by decide) ?_
                              refine zg_aload_n X 0 rfl dX10_spot_214 ?_
                              refine fg_X10_52 X hI ha0 dX10_spot_215 (fun v57 _ hv57 => ?_)
                              refine fg_X10_152 X hI hv57 dX10_spot_218 (fun v58 _ hv58 => ?_)
                              refine zg_iload_n X 1 rfl dX10_spot_221 ?_
                              refine ag_24 X hI hv58 (by omega) (by omega) dX10_spot_222 (fun v59 _ _ => ?_)
                              exact ret _ _ _ _ dX10_spot_223 rfl (zi_weak hI)
                            · skip
                              by_cases q60 : p2.toInt = 11
                              · refine zg_tabIn X 224 11 dX10_spot_25 q60 (by decide) (by decide) rfl (by decide) ?_
                                refine zg_aload_n X 0 rfl dX10_spot_224 ?_
                                refine fg_X10_26 X hI ha0 dX10_spot_225 (fun v61 _ hv61 => ?_)
                                refine fg_X10_155 X hI hv61 dX10_spot_228 (fun v62 _ hv62 => ?_)
                                refine zg_iload_n X 1 rfl dX10_spot_231 ?_
                                refine ag_30 X hI hv62 (by omega) (by omega) dX10_spot_232 (fun v63 _ _ => ?_)
                                exact ret _ _ _ _ dX10_spot_233 rfl (zi_weak hI)
                              · skip
                                refine zg_tabOut X 234 dX10_spot_25 (by omega) (by decide) ?_
                                refine zg_aload_n X 0 rfl dX10_spot_234 ?_
                                refine fg_X10_26 X hI ha0 dX10_spot_235 (fun v64 _ hv64 => ?_)
                                refine zg_iload_n X 1 rfl dX10_spot_238 ?_
                                refine zg_cVi (As := [.int p1]) (st := []) X hv64 rfl (by decide) rfl (t_X5_dried l d L kd κ _ hI v64 hv64 p1 (by omega)) mk_X10_158 mc_X5_dried mz_X5 mi_X5_dried ml_X5_dried (na := 1) ⟨md_X5.1, md_X5.2, by decide +kernel⟩ rfl ⟨by decide, by decide⟩ (Nat.le_of_ble_eq_true rfl) dX10_spot_239 (fun v65 σ hI => ?_)
                                exact ret _ _ _ _ dX10_spot_242 rfl (zi_weak hI)
      · skip
        refine zg_iconst X (-1) dX10_spot_18 (by decide) (fun v66 _ hv66 => ?_)
        exact ret _ _ _ _ dX10_spot_19 rfl hI
set_option maxHeartbeats 4000000 in
set_option maxRecDepth 100000 in
theorem t_X10_claim (l : Launch) (d : zD2) (L : List Nat) (kd : Nat → Nat) (κ : Int) (σ : zS) (hI : zI κ 0 L kd σ) (a0 : Nat) (ha0 : zT L kd a0 10) (p1 : Int32) (p2 : Int32) : zMi l yX10_claim (Cond.code yX10_claim cX10_claim 3 (some .int) :: zWL) 7 [.ref a0, .int p1, .int p2] d L kd σ (fun _ σ2 => zI κ 0 L kd σ2) := by
  refine zMi.of (own := RX10) (by decide +kernel) rfl rfl (Nat.le_of_ble_eq_true rfl) ?_
  intro p e s m args below meth c A Q X ret
  refine zg_lv (lv2 := [(0, .ref a0), (1, .int p1), (2, .int p2)]) rfl ?_
  refine zg_aload_n X 0 rfl dX10_claim_0 ?_
  refine zg_iload_n X 1 rfl dX10_claim_1 ?_
  refine zg_iload_n X 2 rfl dX10_claim_2 ?_
  refine zg_cVi (As := [.int p1, .int p2]) (st := []) X ha0 rfl (by decide) rfl (t_X10_isContest l d L kd κ 0 _ hI a0 ha0 p1 p2 ) mk_X10_162 mc_X10_isContest mz_X10 mi_X10_isContest ml_X10_isContest (na := 2) ⟨md_X10.1, md_X10.2, by decide +kernel⟩ rfl ⟨by decide, by decide⟩ (Nat.le_of_ble_eq_true rfl) dX10_claim_3 (fun v1 σ hI => ?_)
  obtain ⟨hv1, hI⟩ := hI
  refine zg_if_eq X 21 dX10_claim_6 (by decide) (fun c2 => ?_) (fun c2 => ?_)
  · skip
    refine zg_iconst X (-1) dX10_claim_21 (by decide) (fun v3 _ hv3 => ?_)
    exact ret _ _ _ _ dX10_claim_22 rfl (zi_weak hI)
  · skip
    refine zg_aload_n X 0 rfl dX10_claim_9 ?_
    refine fg_X10_26 X hI ha0 dX10_claim_10 (fun v4 _ hv4 => ?_)
    refine zg_iload_n X 1 rfl dX10_claim_13 ?_
    refine zg_iload_n X 2 rfl dX10_claim_14 ?_
    refine zg_cVi (As := [.int p1, .int p2]) (st := []) X hv4 rfl (by decide) rfl (t_X5_claimOf l d L kd κ _ hI v4 hv4 p1 p2 (by omega) (by omega)) mk_X10_165 mc_X5_claimOf mz_X5 mi_X5_claimOf ml_X5_claimOf (na := 2) ⟨md_X5.1, md_X5.2, by decide +kernel⟩ rfl ⟨by decide, by decide⟩ (Nat.le_of_ble_eq_true rfl) dX10_claim_15 (fun v5 σ hI => ?_)
    refine zg_goto X 22 dX10_claim_18 (by decide) ?_
    exact ret _ _ _ _ dX10_claim_22 rfl (zi_weak hI)
set_option maxHeartbeats 4000000 in
set_option maxRecDepth 100000 in
theorem t_X10_winner (l : Launch) (d : zD2) (L : List Nat) (kd : Nat → Nat) (κ : Int) (σ : zS) (hI : zI κ 0 L kd σ) (a0 : Nat) (ha0 : zT L kd a0 10) (p1 : Int32) : zMi l yX10_winner (Cond.code yX10_winner cX10_winner 2 (some .int) :: zWL) 7 [.ref a0, .int p1] d L kd σ (fun _ σ2 => zI κ 0 L kd σ2) := by
  refine zMi.of (own := RX10) (by decide +kernel) rfl rfl (Nat.le_of_ble_eq_true rfl) ?_
  intro p e s m args below meth c A Q X ret
  refine zg_lv (lv2 := [(0, .ref a0), (1, .int p1)]) rfl ?_
  refine zg_aload_n X 0 rfl dX10_winner_0 ?_
  refine zg_iload_n X 1 rfl dX10_winner_1 ?_
  refine zg_cVi (As := [.int p1]) (st := []) X ha0 rfl (by decide) rfl (t_X10_isLaw l d L kd κ 0 _ hI a0 ha0 p1 ) mk_X10_169 mc_X10_isLaw mz_X10 mi_X10_isLaw ml_X10_isLaw (na := 1) ⟨md_X10.1, md_X10.2, by decide +kernel⟩ rfl ⟨by decide, by decide⟩ (Nat.le_of_ble_eq_true rfl) dX10_winner_2 (fun v1 σ hI => ?_)
  obtain ⟨hv1, hI⟩ := hI
  refine zg_if_ne X 10 dX10_winner_5 (by decide) (fun c2 => ?_) (fun c2 => ?_)
  · skip
    refine zg_aload_n X 0 rfl dX10_winner_10 ?_
    refine zg_cVv (As := []) (st := []) X ha0 rfl (by decide) rfl (t_X10_look l d L kd κ 0 _ hI a0 ha0 ) mk_X10_113 mc_X10_look mz_X10 mi_X10_look ml_X10_look (na := 0) ⟨md_X10.1, md_X10.2, by decide +kernel⟩ rfl ⟨by decide, by decide⟩ (Nat.le_of_ble_eq_true rfl) dX10_winner_11 (fun σ hI => ?_)
    refine zg_aload_n X 0 rfl dX10_winner_14 ?_
    refine fg_X10_26 X hI ha0 dX10_winner_15 (fun v3 _ hv3 => ?_)
    refine zg_iload_n X 1 rfl dX10_winner_18 ?_
    refine zg_cVi (As := [.int p1]) (st := []) X hv3 rfl (by decide) rfl (t_X5_winnerBy l d L kd κ _ hI v3 hv3 p1 (by omega)) mk_X10_172 mc_X5_winnerBy mz_X5 mi_X5_winnerBy ml_X5_winnerBy (na := 1) ⟨md_X5.1, md_X5.2, by decide +kernel⟩ rfl ⟨by decide, by decide⟩ (Nat.le_of_ble_eq_true rfl) dX10_winner_19 (fun v4 σ hI => ?_)
    obtain ⟨hv4, hI⟩ := hI
    exact ret _ _ _ _ dX10_winner_22 rfl (zi_weak hI)
  · skip
    refine zg_iconst X (-1) dX10_winner_8 (by decide) (fun v5 _ hv5 => ?_)
    exact ret _ _ _ _ dX10_winner_9 rfl hI
set_option maxHeartbeats 4000000 in
set_option maxRecDepth 100000 in
theorem t_X10_count (l : Launch) (d : zD2) (L : List Nat) (kd : Nat → Nat) (κ : Int) (σ : zS) (hI : zI κ 0 L kd σ) (a0 : Nat) (ha0 : zT L kd a0 10) (p1 : Int32) : zMi l yX10_count (Cond.code yX10_count cX10_count 2 (some .int) :: zWL) 7 [.ref a0, .int p1] d L kd σ (fun _ σ2 => zI κ 0 L kd σ2) := by
  refine zMi.of (own := RX10) (by decide +kernel) rfl rfl (Nat.le_of_ble_eq_true rfl) ?_
  intro p e s m args below meth c A Q X ret
  refine zg_lv (lv2 := [(0, .ref a0), (1, .int p1)]) rfl ?_
  refine zg_aload_n X 0 rfl dX10_count_0 ?_
  refine zg_cVv (As := []) (st := []) X ha0 rfl (by decide) rfl (t_X10_look l d L kd κ 0 _ hI a0 ha0 ) mk_X10_113 mc_X10_look mz_X10 mi_X10_look ml_X10_look (na := 0) ⟨md_X10.1, md_X10.2, by decide +kernel⟩ rfl ⟨by decide, by decide⟩ (Nat.le_of_ble_eq_true rfl) dX10_count_1 (fun σ hI => ?_)
  refine zg_iload_n X 1 rfl dX10_count_4 ?_
  by_cases q1 : p1.toInt = 0
  · refine zg_tabIn X 88 0 dX10_count_5 q1 (by decide) (by decide) rfl (by decide) ?_
    refine zg_aload_n X 0 rfl dX10_count_88 ?_
    refine fg_X10_70 X hI ha0 dX10_count_89 (fun v2 _ hv2 => ?_)
    refine fg_X10_175 X hI hv2 dX10_count_92 (fun v3 _ hv3 => ?_)
    exact ret _ _ _ _ dX10_count_95 rfl (zi_weak hI)
  · skip
    by_cases q4 : p1.toInt = 1
    · refine zg_tabIn X 96 1 dX10_count_5 q4 (by decide) (by decide) rfl (by decide) ?_
      refine zg_aload_n X 0 rfl dX10_count_96 ?_
      refine fg_X10_52 X hI ha0 dX10_count_97 (fun v5 _ hv5 => ?_)
      refine fg_X10_178 X hI hv5 dX10_count_100 (fun v6 ev6 _ => ?_)
      exact ret _ _ _ _ dX10_count_103 rfl (zi_weak hI)
    · skip
      by_cases q7 : p1.toInt = 2
      · refine zg_tabIn X 104 2 dX10_count_5 q7 (by decide) (by decide) rfl (by decide) ?_
        refine zg_aload_n X 0 rfl dX10_count_104 ?_
        refine fg_X10_52 X hI ha0 dX10_count_105 (fun v8 _ hv8 => ?_)
        refine zg_cVi (As := []) (st := []) X hv8 rfl (by decide) rfl (t_X1_moon l d L kd κ 1 _ hI v8 hv8 ) mk_X10_181 mc_X1_moon mz_X1 mi_X1_moon ml_X1_moon (na := 0) ⟨md_X1.1, md_X1.2, by decide +kernel⟩ rfl ⟨by decide, by decide⟩ (Nat.le_of_ble_eq_true rfl) dX10_count_108 (fun v9 σ hI => ?_)
        exact ret _ _ _ _ dX10_count_111 rfl (zi_weak hI)
      · skip
        by_cases q10 : p1.toInt = 3
        · refine zg_tabIn X 112 3 dX10_count_5 q10 (by decide) (by decide) rfl (by decide) ?_
          refine zg_aload_n X 0 rfl dX10_count_112 ?_
          refine fg_X10_52 X hI ha0 dX10_count_113 (fun v11 _ hv11 => ?_)
          refine fg_X10_185 X hI hv11 dX10_count_116 (fun v12 _ hv12 => ?_)
          exact ret _ _ _ _ dX10_count_119 rfl (zi_weak hI)
        · skip
          by_cases q13 : p1.toInt = 4
          · refine zg_tabIn X 120 4 dX10_count_5 q13 (by decide) (by decide) rfl (by decide) ?_
            refine zg_aload_n X 0 rfl dX10_count_120 ?_
            refine fg_X10_34 X hI ha0 dX10_count_121 (fun v14 _ hv14 => ?_)
            refine zg_cVi (As := []) (st := []) X hv14 rfl (by decide) rfl (t_X6_sources l d L kd κ 1 _ hI v14 hv14 ) mk_X10_188 mc_X6_sources mz_X6 mi_X6_sources ml_X6_sources (na := 0) ⟨md_X6.1, md_X6.2, by decide +kernel⟩ rfl ⟨by decide, by decide⟩ (Nat.le_of_ble_eq_true rfl) dX10_count_124 (fun v15 σ hI => ?_)
            exact ret _ _ _ _ dX10_count_127 rfl (zi_weak hI)
          · skip
            by_cases q16 : p1.toInt = 5
            · refine zg_tabIn X 128 5 dX10_count_5 q16 (by decide) (by decide) rfl (by decide) ?_
              refine zg_aload_n X 0 rfl dX10_count_128 ?_
              refine fg_X10_52 X hI ha0 dX10_count_129 (fun v17 _ hv17 => ?_)
              refine fg_X10_128 X hI hv17 dX10_count_132 (fun v18 _ _ => ?_)
              exact ret _ _ _ _ dX10_count_135 rfl (zi_weak hI)
            · skip
              by_cases q19 : p1.toInt = 6
              · refine zg_tabIn X 136 6 dX10_count_5 q19 (by decide) (by decide) rfl (by decide) ?_
                refine zg_aload_n X 0 rfl dX10_count_136 ?_
                refine zg_cVi (As := []) (st := []) X ha0 rfl (by decide) rfl (t_X10_mouthFlow l d L kd κ 1 _ hI a0 ha0 ) mk_X10_191 mc_X10_mouthFlow mz_X10 mi_X10_mouthFlow ml_X10_mouthFlow (na := 0) ⟨md_X10.1, md_X10.2, by decide +kernel⟩ rfl ⟨by decide, by decide⟩ (Nat.le_of_ble_eq_true rfl) dX10_count_137 (fun v20 σ hI => ?_)
                exact ret _ _ _ _ dX10_count_140 rfl (zi_weak hI)
              · skip
                by_cases q21 : p1.toInt = 7
                · refine zg_tabIn X 141 7 dX10_count_5 q21 (by decide) (by decide) rfl (by decide) ?_
                  refine zg_aload_n X 0 rfl dX10_count_141 ?_
                  refine zg_aload_n X 0 rfl dX10_count_142 ?_
                  refine fg_X10_52 X hI ha0 dX10_count_143 (fun v22 _ hv22 => ?_)
                  refine fg_X10_152 X hI hv22 dX10_count_146 (fun v23 _ hv23 => ?_)
                  refine zg_cVi (As := [.ref v23]) (st := []) X ha0 rfl (by decide) rfl (t_X10_sumOf l d L kd κ 1 _ hI a0 ha0 24 v23 hv23 rfl (by decide) ) mk_X10_194 mc_X10_sumOf mz_X10 mi_X10_sumOf ml_X10_sumOf (na := 1) ⟨md_X10.1, md_X10.2, by decide +kernel⟩ rfl ⟨by decide, by decide⟩ (Nat.le_of_ble_eq_true rfl) dX10_count_149 (fun v24 σ hI => ?_)
                  exact ret _ _ _ _ dX10_count_152 rfl (zi_weak hI)
                · skip
                  by_cases q25 : p1.toInt = 8
                  · refine zg_tabIn X 153 8 dX10_count_5 q25 (by decide) (by decide) rfl (by decide) ?_
                    refine zg_aload_n X 0 rfl dX10_count_153 ?_
                    refine fg_X10_10 X hI ha0 dX10_count_154 (fun v26 _ hv26 => ?_)
                    refine fg_X10_84 X hI hv26 dX10_count_157 (fun v27 _ hv27 => ?_)
                    have hkv27 := hI.2.2.1
                    exact ret _ _ _ _ dX10_count_160 rfl (zi_weak hI)
                  · skip
                    by_cases q28 : p1.toInt = 9
                    · refine zg_tabIn X 161 9 dX10_count_5 q28 (by decide) (by decide) rfl (by decide) ?_
                      refine zg_aload_n X 0 rfl dX10_count_161 ?_
                      refine fg_X10_38 X hI ha0 dX10_count_162 (fun v29 _ hv29 => ?_)
                      refine fg_X10_107 X hI hv29 dX10_count_165 (fun v30 _ hv30 => ?_)
                      exact ret _ _ _ _ dX10_count_168 rfl (zi_weak hI)
                    · skip
                      by_cases q31 : p1.toInt = 10
                      · refine zg_tabIn X 169 10 dX10_count_5 q31 (by decide) (by decide) rfl (by decide) ?_
                        refine zg_aload_n X 0 rfl dX10_count_169 ?_
                        refine fg_X10_45 X hI ha0 dX10_count_170 (fun v32 _ hv32 => ?_)
                        refine fg_X10_108 X hI hv32 dX10_count_173 (fun v33 _ hv33 => ?_)
                        exact ret _ _ _ _ dX10_count_176 rfl (zi_weak hI)
                      · skip
                        by_cases q34 : p1.toInt = 11
                        · refine zg_tabIn X 177 11 dX10_count_5 q34 (by decide) (by decide) rfl (by decide) ?_
                          refine zg_aload_n X 0 rfl dX10_count_177 ?_
                          refine fg_X10_77 X hI ha0 dX10_count_178 (fun v35 _ _ => ?_)
                          refine zg_cSi (As := [.int v35]) (st := []) X (t_J6_bitCount_0f7a4 l d L kd _ v35 ) mk_X10_198 mc_J6_bitCount_0f7a4 mz_J6 ms_J6_bitCount_0f7a4 (na := 1) ⟨md_J6.1, md_J6.2, by decide +kernel⟩ rfl ⟨by decide, by decide⟩ (Nat.le_of_ble_eq_true rfl) dX10_count_181 (fun v36 σ2 hq => ?_)
                          obtain ⟨hv36, rfl⟩ := hq
                          exact ret _ _ _ _ dX10_count_184 rfl (zi_weak hI)
                        · skip
                          by_cases q37 : p1.toInt = 12
                          · refine zg_tabIn X 185 12 dX10_count_5 q37 (by decide) (by decide) rfl (by decide) ?_
                            refine zg_aload_n X 0 rfl dX10_count_185 ?_
                            refine fg_X10_70 X hI ha0 dX10_count_186 (fun v38 _ hv38 => ?_)
                            refine zg_aload_n X 0 rfl dX10_count_189 ?_
                            refine fg_X10_70 X hI ha0 dX10_count_190 (fun v39 _ hv39 => ?_)
                            refine fg_X10_203 X hI hv39 dX10_count_193 (fun v40 _ _ => ?_)
                            refine zg_aload_n X 0 rfl dX10_count_196 ?_
                            refine fg_X10_52 X hI ha0 dX10_count_197 (fun v41 _ hv41 => ?_)
                            refine fg_X10_178 X hI hv41 dX10_count_200 (fun v42 ev42 _ => ?_)
                            refine zg_cVi (As := [.int v40, .int v42]) (st := []) X hv38 rfl (by decide) rfl (t_X9_isStorm l d L kd κ 1 _ hI v38 hv38 v40 v42 ) mk_X10_206 mc_X9_isStorm mz_X9 mi_X9_isStorm ml_X9_isStorm (na := 2) ⟨md_X9.1, md_X9.2, by decide +kernel⟩ rfl ⟨by decide, by decide⟩ (Nat.le_of_ble_eq_true rfl) dX10_count_203 (fun v43 σ hI => ?_)
                            obtain ⟨hv43, hI⟩ := hI
                            refine zg_if_eq X 213 dX10_count_206 (by decide) (fun c44 => ?_) (fun c44 => ?_)
                            · skip
                              refine zg_iconst X 0 dX10_count_213 (by decide) (fun v45 _ hv45 => ?_)
                              exact ret _ _ _ _ dX10_count_214 rfl (zi_weak hI)
                            · skip
                              refine zg_iconst X 1 dX10_count_209 (by decide) (fun v46 _ hv46 => ?_)
                              refine zg_goto X 214 dX10_count_210 (by decide) ?_
                              exact ret _ _ _ _ dX10_count_214 rfl (zi_weak hI)
                          · skip
                            by_cases q47 : p1.toInt = 13
                            · refine zg_tabIn X 215 13 dX10_count_5 q47 (by decide) (by decide) rfl (by decide) ?_
                              refine zg_aload_n X 0 rfl dX10_count_215 ?_
                              refine zg_aload_n X 0 rfl dX10_count_216 ?_
                              refine fg_X10_70 X hI ha0 dX10_count_217 (fun v48 _ hv48 => ?_)
                              refine fg_X10_119 X hI hv48 dX10_count_220 (fun v49 _ hv49 => ?_)
                              refine zg_cVi (As := [.ref v49]) (st := []) X ha0 rfl (by decide) rfl (t_X10_sumOf l d L kd κ 1 _ hI a0 ha0 46 v49 hv49 rfl (by decide) ) mk_X10_194 mc_X10_sumOf mz_X10 mi_X10_sumOf ml_X10_sumOf (na := 1) ⟨md_X10.1, md_X10.2, by decide +kernel⟩ rfl ⟨by decide, by decide⟩ (Nat.le_of_ble_eq_true rfl) dX10_count_223 (fun v50 σ hI => ?_)
                              exact ret _ _ _ _ dX10_count_226 rfl (zi_weak hI)
                            · skip
                              by_cases q51 : p1.toInt = 14
                              · refine zg_tabIn X 227 14 dX10_count_5 q51 (by decide) (by decide) rfl (by decide) ?_
                                refine zg_aload_n X 0 rfl dX10_count_227 ?_
                                refine zg_cVi (As := []) (st := []) X ha0 rfl (by decide) rfl (t_X10_turnedPlaces l d L kd κ 1 _ hI a0 ha0 ) mk_X10_209 mc_X10_turnedPlaces mz_X10 mi_X10_turnedPlaces ml_X10_turnedPlaces (na := 0) ⟨md_X10.1, md_X10.2, by decide +kernel⟩ rfl ⟨by decide, by decide⟩ (Nat.le_of_ble_eq_true rfl) dX10_count_228 (fun v52 σ hI => ?_)
                                exact ret _ _ _ _ dX10_count_231 rfl (zi_weak hI)
                              · skip
                                by_cases q53 : p1.toInt = 15
                                · refine zg_tabIn X 232 15 dX10_count_5 q53 (by decide) (by decide) rfl (by decide) ?_
                                  refine zg_aload_n X 0 rfl dX10_count_232 ?_
                                  refine zg_aload_n X 0 rfl dX10_count_233 ?_
                                  refine fg_X10_70 X hI ha0 dX10_count_234 (fun v54 _ hv54 => ?_)
                                  refine fg_X10_122 X hI hv54 dX10_count_237 (fun v55 _ hv55 => ?_)
                                  refine zg_cVi (As := [.ref v55]) (st := []) X ha0 rfl (by decide) rfl (t_X10_sumOf l d L kd κ 1 _ hI a0 ha0 47 v55 hv55 rfl (by decide) ) mk_X10_194 mc_X10_sumOf mz_X10 mi_X10_sumOf ml_X10_sumOf (na := 1) ⟨md_X10.1, md_X10.2, by decide +kernel⟩ rfl ⟨by decide, by decide⟩ (Nat.le_of_ble_eq_true rfl) dX10_count_240 (fun v56 σ hI => ?_)
                                  exact ret _ _ _ _ dX10_count_243 rfl (zi_weak hI)
                                · skip
                                  by_cases q57 : p1.toInt = 16
                                  · refine zg_tabIn X 244 16 dX10_count_5 q57 (by decide) (by decide) rfl (by decide) ?_
                                    refine zg_aload_n X 0 rfl dX10_count_244 ?_
                                    refine fg_X10_34 X hI ha0 dX10_count_245 (fun v58 _ hv58 => ?_)
                                    refine zg_cVi (As := []) (st := []) X hv58 rfl (by decide) rfl (t_X6_greatestFar l d L kd κ 1 _ hI v58 hv58 ) mk_X10_212 mc_X6_greatestFar mz_X6 mi_X6_greatestFar ml_X6_greatestFar (na := 0) ⟨md_X6.1, md_X6.2, by decide +kernel⟩ rfl ⟨by decide, by decide⟩ (Nat.le_of_ble_eq_true rfl) dX10_count_248 (fun v59 σ hI => ?_)
                                    exact ret _ _ _ _ dX10_count_251 rfl (zi_weak hI)
                                  · skip
                                    refine zg_tabOut X 252 dX10_count_5 (by omega) (by decide) ?_
                                    refine zg_iconst X (-1) dX10_count_252 (by decide) (fun v60 _ hv60 => ?_)
                                    exact ret _ _ _ _ dX10_count_253 rfl (zi_weak hI)
set_option maxHeartbeats 4000000 in
set_option maxRecDepth 100000 in
theorem t_X10_dam (l : Launch) (d : zD2) (L : List Nat) (kd : Nat → Nat) (κ : Int) (σ : zS) (hI : zI κ 0 L kd σ) (a0 : Nat) (ha0 : zT L kd a0 10) (p1 : Int32) (p2 : Int32) (hp0 : 0 ≤ p2.toInt ∧ p2.toInt ≤ 1) : zMi l yX10_dam (Cond.code yX10_dam cX10_dam 3 (some .boolean) :: zWL) 3 [.ref a0, .int p1, .int p2] d L kd σ (fun v σ2 => (0 ≤ v.toInt ∧ v.toInt ≤ 1) ∧ zI κ 0 L kd σ2) := by
  refine zMi.of (own := RX10) (by decide +kernel) rfl rfl (Nat.le_of_ble_eq_true rfl) ?_
  intro p e s m args below meth c A Q X ret
  refine zg_lv (lv2 := [(0, .ref a0), (1, .int p1), (2, .int p2)]) rfl ?_
  refine zg_iload_n X 1 rfl dX10_dam_0 ?_
  refine zg_if_eq X 27 dX10_dam_1 (by decide) (fun c1 => ?_) (fun c1 => ?_)
  · skip
    refine zg_iconst X 0 dX10_dam_27 (by decide) (fun v2 _ hv2 => ?_)
    exact ret _ _ _ _ dX10_dam_28 (zb_bool ⟨by omega, by omega⟩) ⟨⟨by omega, by omega⟩, hI⟩
  · skip
    refine zg_aload_n X 0 rfl dX10_dam_4 ?_
    refine zg_iload_n X 1 rfl dX10_dam_5 ?_
    refine zg_cVi (As := [.int p1]) (st := []) X ha0 rfl (by decide) rfl (t_X10_isPlace l d L kd κ 0 _ hI a0 ha0 p1 ) mk_X10_109 mc_X10_isPlace mz_X10 mi_X10_isPlace ml_X10_isPlace (na := 1) ⟨md_X10.1, md_X10.2, by decide +kernel⟩ rfl ⟨by decide, by decide⟩ (Nat.le_of_ble_eq_true rfl) dX10_dam_6 (fun v3 σ hI => ?_)
    obtain ⟨hv3, hI⟩ := hI
    refine zg_if_eq X 27 dX10_dam_9 (by decide) (fun c4 => ?_) (fun c4 => ?_)
    · skip
      refine zg_iconst X 0 dX10_dam_27 (by decide) (fun v5 _ hv5 => ?_)
      exact ret _ _ _ _ dX10_dam_28 (zb_bool ⟨by omega, by omega⟩) ⟨⟨by omega, by omega⟩, hI⟩
    · skip
      refine zg_aload_n X 0 rfl dX10_dam_12 ?_
      refine fg_X10_52 X hI ha0 dX10_dam_13 (fun v6 _ hv6 => ?_)
      refine fg_X10_128 X hI hv6 dX10_dam_16 (fun v7 ev7 _ => ?_)
      refine zg_iload_n X 1 rfl dX10_dam_19 ?_
      refine zg_cSi (As := [.int v7, .int p1]) (st := []) X (t_X10_has l d L kd _ v7 p1 ) mk_X10_131 mc_X10_has mz_X10 ms_X10_has (na := 2) ⟨md_X10.1, md_X10.2, by decide +kernel⟩ rfl ⟨by decide, by decide⟩ (Nat.le_of_ble_eq_true rfl) dX10_dam_20 (fun v8 σ2 hq => ?_)
      obtain ⟨hv8, rfl⟩ := hq
      refine zg_iload_n X 2 rfl dX10_dam_23 ?_
      refine zg_icmp_ne X 29 dX10_dam_24 (by decide) (fun c9 => ?_) (fun c9 => ?_)
      · skip
        refine zg_aload_n X 0 rfl dX10_dam_29 ?_
        refine fg_X10_38 X hI ha0 dX10_dam_30 (fun v10 _ hv10 => ?_)
        refine zg_aload_n X 0 rfl dX10_dam_33 ?_
        refine fg_X10_52 X hI ha0 dX10_dam_34 (fun v11 _ hv11 => ?_)
        refine zg_cVv (As := [.ref v11]) (st := []) X hv10 rfl (by decide) rfl (t_X4_push l d L kd κ 0 _ hI v10 hv10 v11 hv11 ) mk_X10_219 mc_X4_push mz_X4 mi_X4_push ml_X4_push (na := 1) ⟨md_X4.1, md_X4.2, by decide +kernel⟩ rfl ⟨by decide, by decide⟩ (Nat.le_of_ble_eq_true rfl) dX10_dam_37 (fun σ hI => ?_)
        refine zg_aload_n X 0 rfl dX10_dam_40 ?_
        refine fg_X10_52 X hI ha0 dX10_dam_41 (fun v12 _ hv12 => ?_)
        refine zg_dup X dX10_dam_44 rfl ?_
        refine fg_X10_128 X hI hv12 dX10_dam_45 (fun v13 ev13 _ => ?_)
        refine zg_iload_n X 1 rfl dX10_dam_48 ?_
        refine zg_cSi (As := [.int p1]) (st := [.int v13, .ref v12]) X (t_X10_bit l d L kd _ p1 ) mk_X10_216 mc_X10_bit mz_X10 ms_X10_bit (na := 1) ⟨md_X10.1, md_X10.2, by decide +kernel⟩ rfl ⟨by decide, by decide⟩ (Nat.le_of_ble_eq_true rfl) dX10_dam_49 (fun v14 σ2 hq => ?_)
        obtain ⟨hv14, rfl⟩ := hq
        refine zg_ixorW X dX10_dam_52 (fun v15 _ => ?_)
        refine fp_X10_128 X hI hv12 (zb_rng _) dX10_dam_53 (fun s16 es16 hI => ?_)
        have e18 : v15 = s16.1 v12 3 := by rw [es16]; exact zm_s
        refine zg_iconst X 1 dX10_dam_56 (by decide) (fun v19 _ hv19 => ?_)
        exact ret _ _ _ _ dX10_dam_57 (zb_bool ⟨by omega, by omega⟩) ⟨⟨by omega, by omega⟩, hI⟩
      · skip
        refine zg_iconst X 0 dX10_dam_27 (by decide) (fun v20 _ hv20 => ?_)
        exact ret _ _ _ _ dX10_dam_28 (zb_bool ⟨by omega, by omega⟩) ⟨⟨by omega, by omega⟩, hI⟩
set_option maxHeartbeats 4000000 in
set_option maxRecDepth 100000 in
theorem t_X10_turn (l : Launch) (d : zD2) (L : List Nat) (kd : Nat → Nat) (κ : Int) (σ : zS) (hI : zI κ 0 L kd σ) (a0 : Nat) (ha0 : zT L kd a0 10) (p1 : Int32) (p2 : Int32) : zMi l yX10_turn (Cond.code yX10_turn cX10_turn 3 (some .boolean) :: zWL) 3 [.ref a0, .int p1, .int p2] d L kd σ (fun v σ2 => (0 ≤ v.toInt ∧ v.toInt ≤ 1) ∧ zI κ 0 L kd σ2) := by
  refine zMi.of (own := RX10) (by decide +kernel) rfl rfl (Nat.le_of_ble_eq_true rfl) ?_
  intro p e s m args below meth c A Q X ret
  refine zg_lv (lv2 := [(0, .ref a0), (1, .int p1), (2, .int p2)]) rfl ?_
  refine zg_aload_n X 0 rfl dX10_turn_0 ?_
  refine zg_iload_n X 1 rfl dX10_turn_1 ?_
  refine zg_iload_n X 2 rfl dX10_turn_2 ?_
  refine zg_cVi (As := [.int p1, .int p2]) (st := []) X ha0 rfl (by decide) rfl (t_X10_isTurn l d L kd κ 0 _ hI a0 ha0 p1 p2 ) mk_X10_223 mc_X10_isTurn mz_X10 mi_X10_isTurn ml_X10_isTurn (na := 2) ⟨md_X10.1, md_X10.2, by decide +kernel⟩ rfl ⟨by decide, by decide⟩ (Nat.le_of_ble_eq_true rfl) dX10_turn_3 (fun v1 σ hI => ?_)
  obtain ⟨hv1, hI⟩ := hI
  refine zg_if_ne X 11 dX10_turn_6 (by decide) (fun c2 => ?_) (fun c2 => ?_)
  · skip
    refine zg_aload_n X 0 rfl dX10_turn_11 ?_
    refine fg_X10_38 X hI ha0 dX10_turn_12 (fun v3 _ hv3 => ?_)
    refine zg_aload_n X 0 rfl dX10_turn_15 ?_
    refine fg_X10_52 X hI ha0 dX10_turn_16 (fun v4 _ hv4 => ?_)
    refine zg_cVv (As := [.ref v4]) (st := []) X hv3 rfl (by decide) rfl (t_X4_push l d L kd κ 0 _ hI v3 hv3 v4 hv4 ) mk_X10_219 mc_X4_push mz_X4 mi_X4_push ml_X4_push (na := 1) ⟨md_X4.1, md_X4.2, by decide +kernel⟩ rfl ⟨by decide, by decide⟩ (Nat.le_of_ble_eq_true rfl) dX10_turn_19 (fun σ hI => ?_)
    refine zg_aload_n X 0 rfl dX10_turn_22 ?_
    refine fg_X10_52 X hI ha0 dX10_turn_23 (fun v5 _ hv5 => ?_)
    refine fg_X10_116 X hI hv5 dX10_turn_26 (fun v6 _ hv6 => ?_)
    refine zg_iload_n X 1 rfl dX10_turn_29 ?_
    refine zg_iload_n X 2 rfl dX10_turn_30 ?_
    refine as_22 X hI hv6 (by omega) (by omega) ⟨by omega, by omega⟩ dX10_turn_31 (fun s7 es7 hI => ?_)
    refine zg_iconst X 1 dX10_turn_32 (by decide) (fun v8 _ hv8 => ?_)
    exact ret _ _ _ _ dX10_turn_33 (zb_bool ⟨by omega, by omega⟩) ⟨⟨by omega, by omega⟩, hI⟩
  · skip
    refine zg_iconst X 0 dX10_turn_9 (by decide) (fun v9 _ hv9 => ?_)
    exact ret _ _ _ _ dX10_turn_10 (zb_bool ⟨by omega, by omega⟩) ⟨⟨by omega, by omega⟩, hI⟩
set_option maxHeartbeats 4000000 in
set_option maxRecDepth 100000 in
theorem t_X10_rule (l : Launch) (d : zD2) (L : List Nat) (kd : Nat → Nat) (κ : Int) (σ : zS) (hI : zI κ 0 L kd σ) (a0 : Nat) (ha0 : zT L kd a0 10) (p1 : Int32) : zMi l yX10_rule (Cond.code yX10_rule cX10_rule 2 (some .boolean) :: zWL) 3 [.ref a0, .int p1] d L kd σ (fun v σ2 => (0 ≤ v.toInt ∧ v.toInt ≤ 1) ∧ zI κ 0 L kd σ2) := by
  refine zMi.of (own := RX10) (by decide +kernel) rfl rfl (Nat.le_of_ble_eq_true rfl) ?_
  intro p e s m args below meth c A Q X ret
  refine zg_lv (lv2 := [(0, .ref a0), (1, .int p1)]) rfl ?_
  refine zg_aload_n X 0 rfl dX10_rule_0 ?_
  refine zg_iload_n X 1 rfl dX10_rule_1 ?_
  refine zg_cVi (As := [.int p1]) (st := []) X ha0 rfl (by decide) rfl (t_X10_isLaw l d L kd κ 0 _ hI a0 ha0 p1 ) mk_X10_169 mc_X10_isLaw mz_X10 mi_X10_isLaw ml_X10_isLaw (na := 1) ⟨md_X10.1, md_X10.2, by decide +kernel⟩ rfl ⟨by decide, by decide⟩ (Nat.le_of_ble_eq_true rfl) dX10_rule_2 (fun v1 σ hI => ?_)
  obtain ⟨hv1, hI⟩ := hI
  refine zg_if_eq X 19 dX10_rule_5 (by decide) (fun c2 => ?_) (fun c2 => ?_)
  · skip
    refine zg_iconst X 0 dX10_rule_19 (by decide) (fun v3 _ hv3 => ?_)
    exact ret _ _ _ _ dX10_rule_20 (zb_bool ⟨by omega, by omega⟩) ⟨⟨by omega, by omega⟩, hI⟩
  · skip
    refine zg_aload_n X 0 rfl dX10_rule_8 ?_
    refine fg_X10_52 X hI ha0 dX10_rule_9 (fun v4 _ hv4 => ?_)
    refine fg_X10_185 X hI hv4 dX10_rule_12 (fun v5 _ hv5 => ?_)
    refine zg_iload_n X 1 rfl dX10_rule_15 ?_
    refine zg_icmp_ne X 21 dX10_rule_16 (by decide) (fun c6 => ?_) (fun c6 => ?_)
    · skip
      refine zg_aload_n X 0 rfl dX10_rule_21 ?_
      refine fg_X10_38 X hI ha0 dX10_rule_22 (fun v7 _ hv7 => ?_)
      refine zg_aload_n X 0 rfl dX10_rule_25 ?_
      refine fg_X10_52 X hI ha0 dX10_rule_26 (fun v8 _ hv8 => ?_)
      refine zg_cVv (As := [.ref v8]) (st := []) X hv7 rfl (by decide) rfl (t_X4_push l d L kd κ 0 _ hI v7 hv7 v8 hv8 ) mk_X10_219 mc_X4_push mz_X4 mi_X4_push ml_X4_push (na := 1) ⟨md_X4.1, md_X4.2, by decide +kernel⟩ rfl ⟨by decide, by decide⟩ (Nat.le_of_ble_eq_true rfl) dX10_rule_29 (fun σ hI => ?_)
      refine zg_aload_n X 0 rfl dX10_rule_32 ?_
      refine fg_X10_52 X hI ha0 dX10_rule_33 (fun v9 _ hv9 => ?_)
      refine zg_iload_n X 1 rfl dX10_rule_36 ?_
      refine fp_X10_185 X hI hv9 ⟨by omega, by omega⟩ dX10_rule_37 (fun s10 es10 hI => ?_)
      refine zg_iconst X 1 dX10_rule_40 (by decide) (fun v11 _ hv11 => ?_)
      exact ret _ _ _ _ dX10_rule_41 (zb_bool ⟨by omega, by omega⟩) ⟨⟨by omega, by omega⟩, hI⟩
    · skip
      refine zg_iconst X 0 dX10_rule_19 (by decide) (fun v12 _ hv12 => ?_)
      exact ret _ _ _ _ dX10_rule_20 (zb_bool ⟨by omega, by omega⟩) ⟨⟨by omega, by omega⟩, hI⟩
set_option maxHeartbeats 4000000 in
set_option maxRecDepth 100000 in
theorem t_X10_months (l : Launch) (d : zD2) (L : List Nat) (kd : Nat → Nat) (κ : Int) (σ : zS) (hI : zI κ 0 L kd σ) (a0 : Nat) (ha0 : zT L kd a0 10) (p1 : Int32) : zMi l yX10_months (Cond.code yX10_months cX10_months 2 (some .int) :: zWL) 7 [.ref a0, .int p1] d L kd σ (fun _ σ2 => zI κ 0 L kd σ2) := by
  refine zMi.of (own := RX10) (by decide +kernel) rfl rfl (Nat.le_of_ble_eq_true rfl) ?_
  intro p e s m args below meth c A Q X ret
  refine zg_lv (lv2 := [(0, .ref a0), (1, .int p1)]) rfl ?_
  refine zg_iload_n X 1 rfl dX10_months_0 ?_
  refine zg_iconst X 0 dX10_months_1 (by decide) (fun v1 _ hv1 => ?_)
  refine zg_bipush X 60 dX10_months_2 (by decide) (fun v2 _ hv2 => ?_)
  refine zg_cSi (As := [.int p1, .int v1, .int v2]) (st := []) X (t_X10_isWithin l d L kd _ p1 v1 v2 ) mk_X10_229 mc_X10_isWithin mz_X10 ms_X10_isWithin (na := 3) ⟨md_X10.1, md_X10.2, by decide +kernel⟩ rfl ⟨by decide, by decide⟩ (Nat.le_of_ble_eq_true rfl) dX10_months_4 (fun v3 σ2 hq => ?_)
  obtain ⟨hv3, rfl⟩ := hq
  refine zg_if_ne X 12 dX10_months_7 (by decide) (fun c4 => ?_) (fun c4 => ?_)
  · skip
    refine zg_iload_n X 1 rfl dX10_months_12 ?_
    refine zg_if_le X 50 dX10_months_13 (by decide) (fun c5 => ?_) (fun c5 => ?_)
    · skip
      refine zg_aload_n X 0 rfl dX10_months_50 ?_
      refine fg_X10_52 X hI ha0 dX10_months_51 (fun v6 _ hv6 => ?_)
      refine fg_X10_178 X hI hv6 dX10_months_54 (fun v7 _ _ => ?_)
      exact ret _ _ _ _ dX10_months_57 rfl hI
    · skip
      refine zg_aload_n X 0 rfl dX10_months_16 ?_
      refine fg_X10_38 X hI ha0 dX10_months_17 (fun v8 _ hv8 => ?_)
      refine zg_aload_n X 0 rfl dX10_months_20 ?_
      refine fg_X10_52 X hI ha0 dX10_months_21 (fun v9 _ hv9 => ?_)
      refine zg_cVv (As := [.ref v9]) (st := []) X hv8 rfl (by decide) rfl (t_X4_push l d L kd κ 0 _ hI v8 hv8 v9 hv9 ) mk_X10_219 mc_X4_push mz_X4 mi_X4_push ml_X4_push (na := 1) ⟨md_X4.1, md_X4.2, by decide +kernel⟩ rfl ⟨by decide, by decide⟩ (Nat.le_of_ble_eq_true rfl) dX10_months_24 (fun σ hI => ?_)
      refine zg_aload_n X 0 rfl dX10_months_27 ?_
      refine fg_X10_26 X hI ha0 dX10_months_28 (fun v10 _ hv10 => ?_)
      refine zg_aload_n X 0 rfl dX10_months_31 ?_
      refine fg_X10_70 X hI ha0 dX10_months_32 (fun v11 _ hv11 => ?_)
      refine zg_aload_n X 0 rfl dX10_months_35 ?_
      refine fg_X10_52 X hI ha0 dX10_months_36 (fun v12 _ hv12 => ?_)
      refine zg_iload_n X 1 rfl dX10_months_39 ?_
      refine zg_aload_n X 0 rfl dX10_months_40 ?_
      refine fg_X10_70 X hI ha0 dX10_months_41 (fun v13 _ hv13 => ?_)
      refine fg_X10_203 X hI hv13 dX10_months_44 (fun v14 _ _ => ?_)
      refine zg_cVv (As := [.ref v11, .ref v12, .int p1, .int v14]) (st := []) X hv10 rfl (by decide) rfl (t_X5_goThrough l d L kd κ 0 _ hI v10 hv10 v11 hv11 v12 hv12 p1 v14 (by omega)) mk_X10_233 mc_X5_goThrough mz_X5 mi_X5_goThrough ml_X5_goThrough (na := 4) ⟨md_X5.1, md_X5.2, by decide +kernel⟩ rfl ⟨by decide, by decide⟩ (Nat.le_of_ble_eq_true rfl) dX10_months_47 (fun σ hI => ?_)
      refine zg_aload_n X 0 rfl dX10_months_50 ?_
      refine fg_X10_52 X hI ha0 dX10_months_51 (fun v15 _ hv15 => ?_)
      refine fg_X10_178 X hI hv15 dX10_months_54 (fun v16 _ _ => ?_)
      exact ret _ _ _ _ dX10_months_57 rfl (zi_weak hI)
  · skip
    refine zg_iconst X (-1) dX10_months_10 (by decide) (fun v17 _ hv17 => ?_)
    exact ret _ _ _ _ dX10_months_11 rfl hI
set_option maxHeartbeats 4000000 in
set_option maxRecDepth 100000 in
theorem t_X10_undo (l : Launch) (d : zD2) (L : List Nat) (kd : Nat → Nat) (κ : Int) (σ : zS) (hI : zI κ 0 L kd σ) (a0 : Nat) (ha0 : zT L kd a0 10) : zMi l yX10_undo (Cond.code yX10_undo cX10_undo 1 (some .boolean) :: zWL) 3 [.ref a0] d L kd σ (fun v σ2 => (0 ≤ v.toInt ∧ v.toInt ≤ 1) ∧ zI κ 0 L kd σ2) := by
  refine zMi.of (own := RX10) (by decide +kernel) rfl rfl (Nat.le_of_ble_eq_true rfl) ?_
  intro p e s m args below meth c A Q X ret
  refine zg_lv (lv2 := [(0, .ref a0)]) rfl ?_
  refine zg_aload_n X 0 rfl dX10_undo_0 ?_
  refine fg_X10_38 X hI ha0 dX10_undo_1 (fun v1 _ hv1 => ?_)
  refine zg_aload_n X 0 rfl dX10_undo_4 ?_
  refine fg_X10_52 X hI ha0 dX10_undo_5 (fun v2 _ hv2 => ?_)
  refine zg_cVi (As := [.ref v2]) (st := []) X hv1 rfl (by decide) rfl (t_X4_pop l d L kd κ 0 _ hI v1 hv1 v2 hv2 ) mk_X10_237 mc_X4_pop mz_X4 mi_X4_pop ml_X4_pop (na := 1) ⟨md_X4.1, md_X4.2, by decide +kernel⟩ rfl ⟨by decide, by decide⟩ (Nat.le_of_ble_eq_true rfl) dX10_undo_8 (fun v3 σ hI => ?_)
  obtain ⟨hv3, hI⟩ := hI
  exact ret _ _ _ _ dX10_undo_11 (zb_bool ⟨by omega, by omega⟩) ⟨⟨by omega, by omega⟩, hI⟩
set_option maxHeartbeats 4000000 in
set_option maxRecDepth 100000 in
theorem t_X10_hold (l : Launch) (d : zD2) (L : List Nat) (kd : Nat → Nat) (κ : Int) (σ : zS) (hI : zI κ 0 L kd σ) (a0 : Nat) (ha0 : zT L kd a0 10) (p1 : Int32) : zMi l yX10_hold (Cond.code yX10_hold cX10_hold 2 (some .boolean) :: zWL) 2 [.ref a0, .int p1] d L kd σ (fun v σ2 => ((v.toInt = 1 ∧ 0 ≤ p1.toInt ∧ p1.toInt ≤ 2) ∨ (v.toInt = 0 ∧ (p1.toInt < 0 ∨ 2 < p1.toInt))) ∧ zI κ 0 L kd σ2) := by
  refine zMi.of (own := RX10) (by decide +kernel) rfl rfl (Nat.le_of_ble_eq_true rfl) ?_
  intro p e s m args below meth c A Q X ret
  refine zg_lv (lv2 := [(0, .ref a0), (1, .int p1)]) rfl ?_
  refine zg_iload_n X 1 rfl dX10_hold_0 ?_
  refine zg_iconst X 0 dX10_hold_1 (by decide) (fun v1 _ hv1 => ?_)
  refine zg_iconst X 2 dX10_hold_2 (by decide) (fun v2 _ hv2 => ?_)
  refine zg_cSi (As := [.int p1, .int v1, .int v2]) (st := []) X (t_X10_isWithin l d L kd _ p1 v1 v2 ) mk_X10_229 mc_X10_isWithin mz_X10 ms_X10_isWithin (na := 3) ⟨md_X10.1, md_X10.2, by decide +kernel⟩ rfl ⟨by decide, by decide⟩ (Nat.le_of_ble_eq_true rfl) dX10_hold_3 (fun v3 σ2 hq => ?_)
  obtain ⟨hv3, rfl⟩ := hq
  refine zg_if_ne X 11 dX10_hold_6 (by decide) (fun c4 => ?_) (fun c4 => ?_)
  · skip
    refine zg_aload_n X 0 rfl dX10_hold_11 ?_
    refine fg_X10_59 X hI ha0 dX10_hold_12 (fun v5 _ hv5 => ?_)
    refine zg_iload_n X 1 rfl dX10_hold_15 ?_
    refine ag_52 X hI hv5 (by omega) (by omega) dX10_hold_16 (fun v6 _ hv6 => ?_)
    refine zg_aload_n X 0 rfl dX10_hold_17 ?_
    refine fg_X10_52 X hI ha0 dX10_hold_18 (fun v7 _ hv7 => ?_)
    refine zg_cVv (As := [.ref v7]) (st := []) X hv6 rfl (by decide) rfl (t_X1_copy l d L kd κ 0 _ hI v6 hv6 v7 hv7 ) mk_X10_241 mc_X1_copy mz_X1 mi_X1_copy ml_X1_copy (na := 1) ⟨md_X1.1, md_X1.2, by decide +kernel⟩ rfl ⟨by decide, by decide⟩ (Nat.le_of_ble_eq_true rfl) dX10_hold_21 (fun σ hI => ?_)
    refine zg_aload_n X 0 rfl dX10_hold_24 ?_
    refine zg_dup X dX10_hold_25 rfl ?_
    refine fg_X10_77 X hI ha0 dX10_hold_26 (fun v8 _ _ => ?_)
    refine zg_iload_n X 1 rfl dX10_hold_29 ?_
    refine zg_cSi (As := [.int p1]) (st := [.int v8, .ref a0]) X (t_X10_bit l d L kd _ p1 ) mk_X10_216 mc_X10_bit mz_X10 ms_X10_bit (na := 1) ⟨md_X10.1, md_X10.2, by decide +kernel⟩ rfl ⟨by decide, by decide⟩ (Nat.le_of_ble_eq_true rfl) dX10_hold_30 (fun v9 σ2 hq => ?_)
    obtain ⟨hv9, rfl⟩ := hq
    refine zg_iorW X dX10_hold_33 (fun v10 _ => ?_)
    refine fp_X10_77 X hI ha0 (zb_rng _) dX10_hold_34 (fun s11 es11 hI => ?_)
    refine zg_iconst X 1 dX10_hold_37 (by decide) (fun v12 _ hv12 => ?_)
    exact ret _ _ _ _ dX10_hold_38 (zb_bool ⟨by omega, by omega⟩) ⟨by omega, hI⟩
  · skip
    refine zg_iconst X 0 dX10_hold_9 (by decide) (fun v13 _ hv13 => ?_)
    exact ret _ _ _ _ dX10_hold_10 (zb_bool ⟨by omega, by omega⟩) ⟨by omega, hI⟩
set_option maxHeartbeats 4000000 in
set_option maxRecDepth 100000 in
theorem t_X10_restore (l : Launch) (d : zD2) (L : List Nat) (kd : Nat → Nat) (κ : Int) (σ : zS) (hI : zI κ 0 L kd σ) (a0 : Nat) (ha0 : zT L kd a0 10) (p1 : Int32) : zMi l yX10_restore (Cond.code yX10_restore cX10_restore 2 (some .boolean) :: zWL) 2 [.ref a0, .int p1] d L kd σ (fun v σ2 => (0 ≤ v.toInt ∧ v.toInt ≤ 1) ∧ zI κ 0 L kd σ2) := by
  refine zMi.of (own := RX10) (by decide +kernel) rfl rfl (Nat.le_of_ble_eq_true rfl) ?_
  intro p e s m args below meth c A Q X ret
  refine zg_lv (lv2 := [(0, .ref a0), (1, .int p1)]) rfl ?_
  refine zg_iload_n X 1 rfl dX10_restore_0 ?_
  refine zg_iconst X 0 dX10_restore_1 (by decide) (fun v1 _ hv1 => ?_)
  refine zg_iconst X 2 dX10_restore_2 (by decide) (fun v2 _ hv2 => ?_)
  refine zg_cSi (As := [.int p1, .int v1, .int v2]) (st := []) X (t_X10_isWithin l d L kd _ p1 v1 v2 ) mk_X10_229 mc_X10_isWithin mz_X10 ms_X10_isWithin (na := 3) ⟨md_X10.1, md_X10.2, by decide +kernel⟩ rfl ⟨by decide, by decide⟩ (Nat.le_of_ble_eq_true rfl) dX10_restore_3 (fun v3 σ2 hq => ?_)
  obtain ⟨hv3, rfl⟩ := hq
  refine zg_if_eq X 20 dX10_restore_6 (by decide) (fun c4 => ?_) (fun c4 => ?_)
  · skip
    refine zg_iconst X 0 dX10_restore_20 (by decide) (fun v5 _ hv5 => ?_)
    exact ret _ _ _ _ dX10_restore_21 (zb_bool ⟨by omega, by omega⟩) ⟨⟨by omega, by omega⟩, hI⟩
  · skip
    refine zg_aload_n X 0 rfl dX10_restore_9 ?_
    refine fg_X10_77 X hI ha0 dX10_restore_10 (fun v6 _ _ => ?_)
    refine zg_iload_n X 1 rfl dX10_restore_13 ?_
    refine zg_cSi (As := [.int v6, .int p1]) (st := []) X (t_X10_has l d L kd _ v6 p1 ) mk_X10_131 mc_X10_has mz_X10 ms_X10_has (na := 2) ⟨md_X10.1, md_X10.2, by decide +kernel⟩ rfl ⟨by decide, by decide⟩ (Nat.le_of_ble_eq_true rfl) dX10_restore_14 (fun v7 σ2 hq => ?_)
    obtain ⟨hv7, rfl⟩ := hq
    refine zg_if_ne X 22 dX10_restore_17 (by decide) (fun c8 => ?_) (fun c8 => ?_)
    · skip
      refine zg_aload_n X 0 rfl dX10_restore_22 ?_
      refine fg_X10_52 X hI ha0 dX10_restore_23 (fun v9 _ hv9 => ?_)
      refine zg_aload_n X 0 rfl dX10_restore_26 ?_
      refine fg_X10_59 X hI ha0 dX10_restore_27 (fun v10 _ hv10 => ?_)
      refine zg_iload_n X 1 rfl dX10_restore_30 ?_
      refine ag_52 X hI hv10 (by omega) (by omega) dX10_restore_31 (fun v11 _ hv11 => ?_)
      refine zg_cVv (As := [.ref v11]) (st := []) X hv9 rfl (by decide) rfl (t_X1_copy l d L kd κ 0 _ hI v9 hv9 v11 hv11 ) mk_X10_241 mc_X1_copy mz_X1 mi_X1_copy ml_X1_copy (na := 1) ⟨md_X1.1, md_X1.2, by decide +kernel⟩ rfl ⟨by decide, by decide⟩ (Nat.le_of_ble_eq_true rfl) dX10_restore_32 (fun σ hI => ?_)
      refine zg_aload_n X 0 rfl dX10_restore_35 ?_
      refine fg_X10_38 X hI ha0 dX10_restore_36 (fun v12 _ hv12 => ?_)
      refine zg_iconst X 0 dX10_restore_39 (by decide) (fun v13 _ hv13 => ?_)
      refine fp_X10_107 X hI hv12 ⟨by omega, by omega⟩ dX10_restore_40 (fun s14 es14 hI => ?_)
      refine zg_iconst X 1 dX10_restore_43 (by decide) (fun v15 _ hv15 => ?_)
      exact ret _ _ _ _ dX10_restore_44 (zb_bool ⟨by omega, by omega⟩) ⟨⟨by omega, by omega⟩, hI⟩
    · skip
      refine zg_iconst X 0 dX10_restore_20 (by decide) (fun v16 _ hv16 => ?_)
      exact ret _ _ _ _ dX10_restore_21 (zb_bool ⟨by omega, by omega⟩) ⟨⟨by omega, by omega⟩, hI⟩
set_option maxHeartbeats 4000000 in
set_option maxRecDepth 100000 in
theorem t_X10_behind (l : Launch) (d : zD2) (L : List Nat) (kd : Nat → Nat) (κ : Int) (σ : zS) (hI : zI κ 0 L kd σ) (a0 : Nat) (ha0 : zT L kd a0 10) (p1 : Int32) (p2 : Int32) : zMi l yX10_behind (Cond.code yX10_behind cX10_behind 4 (some .int) :: zWL) 7 [.ref a0, .int p1, .int p2] d L kd σ (fun _ σ2 => zI κ 0 L kd σ2) := by
  refine zMi.of (own := RX10) (by decide +kernel) rfl rfl (Nat.le_of_ble_eq_true rfl) ?_
  intro p e s m args below meth c A Q X ret
  refine zg_lv (lv2 := [(0, .ref a0), (1, .int p1), (2, .int p2)]) rfl ?_
  refine zg_aload_n X 0 rfl dX10_behind_0 ?_
  refine zg_iload_n X 1 rfl dX10_behind_1 ?_
  refine zg_iload_n X 2 rfl dX10_behind_2 ?_
  refine zg_cVi (As := [.int p1, .int p2]) (st := []) X ha0 rfl (by decide) rfl (t_X10_isContest l d L kd κ 0 _ hI a0 ha0 p1 p2 ) mk_X10_162 mc_X10_isContest mz_X10 mi_X10_isContest ml_X10_isContest (na := 2) ⟨md_X10.1, md_X10.2, by decide +kernel⟩ rfl ⟨by decide, by decide⟩ (Nat.le_of_ble_eq_true rfl) dX10_behind_3 (fun v1 σ hI => ?_)
  obtain ⟨hv1, hI⟩ := hI
  refine zg_if_ne X 11 dX10_behind_6 (by decide) (fun c2 => ?_) (fun c2 => ?_)
  · skip
    refine zg_aload_n X 0 rfl dX10_behind_11 ?_
    refine fg_X10_26 X hI ha0 dX10_behind_12 (fun v3 _ hv3 => ?_)
    refine zg_iload_n X 2 rfl dX10_behind_15 ?_
    refine zg_cVi (As := [.int p2]) (st := []) X hv3 rfl (by decide) rfl (t_X5_winnerBy l d L kd κ _ hI v3 hv3 p2 (by omega)) mk_X10_172 mc_X5_winnerBy mz_X5 mi_X5_winnerBy ml_X5_winnerBy (na := 1) ⟨md_X5.1, md_X5.2, by decide +kernel⟩ rfl ⟨by decide, by decide⟩ (Nat.le_of_ble_eq_true rfl) dX10_behind_16 (fun v4 σ hI => ?_)
    obtain ⟨hv4, hI⟩ := hI
    refine zg_istore_n X [(3, .int v4), (0, .ref a0), (1, .int p1), (2, .int p2)] dX10_behind_19 (by decide) rfl ?_
    refine zg_iload_n X 0 rfl dX10_behind_20 ?_
    refine zg_if_ge X 28 dX10_behind_21 (by decide) (fun c5 => ?_) (fun c5 => ?_)
    · skip
      refine zg_aload_n X 1 rfl dX10_behind_28 ?_
      refine fg_X10_26 X hI ha0 dX10_behind_29 (fun v6 _ hv6 => ?_)
      refine fg_X10_244 X hI hv6 dX10_behind_32 (fun v7 _ hv7 => ?_)
      refine zg_iload_n X 0 rfl dX10_behind_35 ?_
      refine ag_32 X hI hv7 (by omega) (by omega) dX10_behind_36 (fun v8 _ _ => ?_)
      refine zg_aload_n X 1 rfl dX10_behind_37 ?_
      refine fg_X10_26 X hI ha0 dX10_behind_38 (fun v9 _ hv9 => ?_)
      refine fg_X10_244 X hI hv9 dX10_behind_41 (fun v10 _ hv10 => ?_)
      refine zg_iload_n X 2 rfl dX10_behind_44 ?_
      refine ag_32 X hI hv10 (by omega) (by omega) dX10_behind_45 (fun v11 _ _ => ?_)
      refine zg_isubW X dX10_behind_46 (fun v12 _ => ?_)
      exact ret _ _ _ _ dX10_behind_47 rfl (zi_weak hI)
    · skip
      refine zg_iconst X (-1) dX10_behind_24 (by decide) (fun v13 _ hv13 => ?_)
      refine zg_goto X 47 dX10_behind_25 (by decide) ?_
      exact ret _ _ _ _ dX10_behind_47 rfl (zi_weak hI)
  · skip
    refine zg_iconst X (-1) dX10_behind_9 (by decide) (fun v14 _ hv14 => ?_)
    exact ret _ _ _ _ dX10_behind_10 rfl (zi_weak hI)
set_option maxHeartbeats 4000000 in
set_option maxRecDepth 100000 in
theorem t_X10_margin (l : Launch) (d : zD2) (L : List Nat) (kd : Nat → Nat) (κ : Int) (σ : zS) (hI : zI κ 0 L kd σ) (a0 : Nat) (ha0 : zT L kd a0 10) (p1 : Int32) : zMi l yX10_margin (Cond.code yX10_margin cX10_margin 4 (some .int) :: zWL) 7 [.ref a0, .int p1] d L kd σ (fun _ σ2 => zI κ 0 L kd σ2) := by
  refine zMi.of (own := RX10) (by decide +kernel) rfl rfl (Nat.le_of_ble_eq_true rfl) ?_
  intro p e s m args below meth c A Q X ret
  refine zg_lv (lv2 := [(0, .ref a0), (1, .int p1)]) rfl ?_
  refine zg_aload_n X 0 rfl dX10_margin_0 ?_
  refine zg_iload_n X 1 rfl dX10_margin_1 ?_
  refine zg_cVi (As := [.int p1]) (st := []) X ha0 rfl (by decide) rfl (t_X10_isLaw l d L kd κ 0 _ hI a0 ha0 p1 ) mk_X10_169 mc_X10_isLaw mz_X10 mi_X10_isLaw ml_X10_isLaw (na := 1) ⟨md_X10.1, md_X10.2, by decide +kernel⟩ rfl ⟨by decide, by decide⟩ (Nat.le_of_ble_eq_true rfl) dX10_margin_2 (fun v1 σ hI => ?_)
  obtain ⟨hv1, hI⟩ := hI
  refine zg_if_ne X 10 dX10_margin_5 (by decide) (fun c2 => ?_) (fun c2 => ?_)
  · skip
    refine zg_aload_n X 0 rfl dX10_margin_10 ?_
    refine zg_cVv (As := []) (st := []) X ha0 rfl (by decide) rfl (t_X10_look l d L kd κ 0 _ hI a0 ha0 ) mk_X10_113 mc_X10_look mz_X10 mi_X10_look ml_X10_look (na := 0) ⟨md_X10.1, md_X10.2, by decide +kernel⟩ rfl ⟨by decide, by decide⟩ (Nat.le_of_ble_eq_true rfl) dX10_margin_11 (fun σ hI => ?_)
    refine zg_aload_n X 0 rfl dX10_margin_14 ?_
    refine fg_X10_26 X hI ha0 dX10_margin_15 (fun v3 _ hv3 => ?_)
    refine zg_iload_n X 1 rfl dX10_margin_18 ?_
    refine zg_cVv (As := [.int p1]) (st := []) X hv3 rfl (by decide) rfl (t_X5_weigh l d L kd κ _ hI v3 hv3 p1 (by omega)) mk_X10_247 mc_X5_weigh mz_X5 mi_X5_weigh ml_X5_weigh (na := 1) ⟨md_X5.1, md_X5.2, by decide +kernel⟩ rfl ⟨by decide, by decide⟩ (Nat.le_of_ble_eq_true rfl) dX10_margin_19 (fun σ hI => ?_)
    refine zg_aload_n X 0 rfl dX10_margin_22 ?_
    refine fg_X10_26 X hI ha0 dX10_margin_23 (fun v4 _ hv4 => ?_)
    refine zg_iconst X (-1) dX10_margin_26 (by decide) (fun v5 _ hv5 => ?_)
    refine zg_cVi (As := [.int v5]) (st := []) X hv4 rfl (by decide) rfl (t_X5_greatestClaim l d L kd κ _ hI v4 hv4 v5 ) mk_X10_250 mc_X5_greatestClaim mz_X5 mi_X5_greatestClaim ml_X5_greatestClaim (na := 1) ⟨md_X5.1, md_X5.2, by decide +kernel⟩ rfl ⟨by decide, by decide⟩ (Nat.le_of_ble_eq_true rfl) dX10_margin_27 (fun v6 σ hI => ?_)
    obtain ⟨hv6, hI⟩ := hI
    refine zg_istore_n X [(2, .int v6), (0, .ref a0), (1, .int p1)] dX10_margin_30 (by decide) rfl ?_
    refine zg_aload_n X 1 rfl dX10_margin_31 ?_
    refine fg_X10_26 X hI ha0 dX10_margin_32 (fun v7 _ hv7 => ?_)
    refine zg_iload_n X 0 rfl dX10_margin_35 ?_
    refine zg_cVi (As := [.int v6]) (st := []) X hv7 rfl (by decide) rfl (t_X5_greatestClaim l d L kd κ _ hI v7 hv7 v6 ) mk_X10_250 mc_X5_greatestClaim mz_X5 mi_X5_greatestClaim ml_X5_greatestClaim (na := 1) ⟨md_X5.1, md_X5.2, by decide +kernel⟩ rfl ⟨by decide, by decide⟩ (Nat.le_of_ble_eq_true rfl) dX10_margin_36 (fun v8 σ hI => ?_)
    obtain ⟨hv8, hI⟩ := hI
    refine zg_istore_n X [(3, .int v8), (2, .int v6), (0, .ref a0), (1, .int p1)] dX10_margin_39 (by decide) rfl ?_
    refine zg_iload_n X 1 rfl dX10_margin_40 ?_
    refine zg_if_lt X 48 dX10_margin_41 (by decide) (fun c9 => ?_) (fun c9 => ?_)
    · skip
      refine zg_bipush X (-2) dX10_margin_48 (by decide) (fun v10 _ hv10 => ?_)
      refine zg_goto X 72 dX10_margin_50 (by decide) ?_
      exact ret _ _ _ _ dX10_margin_72 rfl (zi_weak hI)
    · skip
      refine zg_iload_n X 0 rfl dX10_margin_44 ?_
      refine zg_if_ge X 53 dX10_margin_45 (by decide) (fun c11 => ?_) (fun c11 => ?_)
      · skip
        refine zg_aload_n X 2 rfl dX10_margin_53 ?_
        refine fg_X10_26 X hI ha0 dX10_margin_54 (fun v12 _ hv12 => ?_)
        refine fg_X10_244 X hI hv12 dX10_margin_57 (fun v13 _ hv13 => ?_)
        refine zg_iload_n X 1 rfl dX10_margin_60 ?_
        refine ag_32 X hI hv13 (by omega) (by omega) dX10_margin_61 (fun v14 _ _ => ?_)
        refine zg_aload_n X 2 rfl dX10_margin_62 ?_
        refine fg_X10_26 X hI ha0 dX10_margin_63 (fun v15 _ hv15 => ?_)
        refine fg_X10_244 X hI hv15 dX10_margin_66 (fun v16 _ hv16 => ?_)
        refine zg_iload_n X 0 rfl dX10_margin_69 ?_
        refine ag_32 X hI hv16 (by omega) (by omega) dX10_margin_70 (fun v17 _ _ => ?_)
        refine zg_isubW X dX10_margin_71 (fun v18 _ => ?_)
        exact ret _ _ _ _ dX10_margin_72 rfl (zi_weak hI)
      · skip
        refine zg_bipush X (-2) dX10_margin_48 (by decide) (fun v19 _ hv19 => ?_)
        refine zg_goto X 72 dX10_margin_50 (by decide) ?_
        exact ret _ _ _ _ dX10_margin_72 rfl (zi_weak hI)
  · skip
    refine zg_iconst X (-1) dX10_margin_8 (by decide) (fun v20 _ hv20 => ?_)
    exact ret _ _ _ _ dX10_margin_9 rfl hI
set_option maxHeartbeats 4000000 in
set_option maxRecDepth 100000 in
theorem t_X10_rank (l : Launch) (d : zD2) (L : List Nat) (kd : Nat → Nat) (κ : Int) (σ : zS) (hI : zI κ 0 L kd σ) (a0 : Nat) (ha0 : zT L kd a0 10) (p1 : Int32) (p2 : Int32) : zMi l yX10_rank (Cond.code yX10_rank cX10_rank 3 (some .int) :: zWL) 7 [.ref a0, .int p1, .int p2] d L kd σ (fun _ σ2 => zI κ 0 L kd σ2) := by
  refine zMi.of (own := RX10) (by decide +kernel) rfl rfl (Nat.le_of_ble_eq_true rfl) ?_
  intro p e s m args below meth c A Q X ret
  refine zg_lv (lv2 := [(0, .ref a0), (1, .int p1), (2, .int p2)]) rfl ?_
  refine zg_aload_n X 0 rfl dX10_rank_0 ?_
  refine zg_iload_n X 1 rfl dX10_rank_1 ?_
  refine zg_iload_n X 2 rfl dX10_rank_2 ?_
  refine zg_cVi (As := [.int p1, .int p2]) (st := []) X ha0 rfl (by decide) rfl (t_X10_isContest l d L kd κ 0 _ hI a0 ha0 p1 p2 ) mk_X10_162 mc_X10_isContest mz_X10 mi_X10_isContest ml_X10_isContest (na := 2) ⟨md_X10.1, md_X10.2, by decide +kernel⟩ rfl ⟨by decide, by decide⟩ (Nat.le_of_ble_eq_true rfl) dX10_rank_3 (fun v1 σ hI => ?_)
  obtain ⟨hv1, hI⟩ := hI
  refine zg_if_ne X 11 dX10_rank_6 (by decide) (fun c2 => ?_) (fun c2 => ?_)
  · skip
    refine zg_aload_n X 0 rfl dX10_rank_11 ?_
    refine fg_X10_26 X hI ha0 dX10_rank_12 (fun v3 _ hv3 => ?_)
    refine zg_iload_n X 2 rfl dX10_rank_15 ?_
    refine zg_cVv (As := [.int p2]) (st := []) X hv3 rfl (by decide) rfl (t_X5_weigh l d L kd κ _ hI v3 hv3 p2 (by omega)) mk_X10_247 mc_X5_weigh mz_X5 mi_X5_weigh ml_X5_weigh (na := 1) ⟨md_X5.1, md_X5.2, by decide +kernel⟩ rfl ⟨by decide, by decide⟩ (Nat.le_of_ble_eq_true rfl) dX10_rank_16 (fun σ hI => ?_)
    refine zg_aload_n X 0 rfl dX10_rank_19 ?_
    refine fg_X10_26 X hI ha0 dX10_rank_20 (fun v4 _ hv4 => ?_)
    refine zg_iload_n X 1 rfl dX10_rank_23 ?_
    refine zg_cVi (As := [.int p1]) (st := []) X hv4 rfl (by decide) rfl (t_X5_rankOf l d L kd κ _ hI v4 hv4 p1 (by omega)) mk_X10_253 mc_X5_rankOf mz_X5 mi_X5_rankOf ml_X5_rankOf (na := 1) ⟨md_X5.1, md_X5.2, by decide +kernel⟩ rfl ⟨by decide, by decide⟩ (Nat.le_of_ble_eq_true rfl) dX10_rank_24 (fun v5 σ hI => ?_)
    exact ret _ _ _ _ dX10_rank_27 rfl (zi_weak hI)
  · skip
    refine zg_iconst X (-1) dX10_rank_9 (by decide) (fun v6 _ hv6 => ?_)
    exact ret _ _ _ _ dX10_rank_10 rfl (zi_weak hI)
set_option maxHeartbeats 4000000 in
set_option maxRecDepth 100000 in
theorem t_X10_vote (l : Launch) (d : zD2) (L : List Nat) (kd : Nat → Nat) (κ : Int) (σ : zS) (hI : zI κ 0 L kd σ) (a0 : Nat) (ha0 : zT L kd a0 10) (p1 : Int32) : zMi l yX10_vote (Cond.code yX10_vote cX10_vote 4 (some .int) :: zWL) 7 [.ref a0, .int p1] d L kd σ (fun _ σ2 => zI κ 0 L kd σ2) := by
  refine zMi.of (own := RX10) (by decide +kernel) rfl rfl (Nat.le_of_ble_eq_true rfl) ?_
  intro p e s m args below meth c A Q X ret
  refine zg_lv (lv2 := [(0, .ref a0), (1, .int p1)]) rfl ?_
  refine zg_iload_n X 1 rfl dX10_vote_0 ?_
  refine zg_iconst X 0 dX10_vote_1 (by decide) (fun v1 _ hv1 => ?_)
  refine zg_iconst X 1 dX10_vote_2 (by decide) (fun v2 _ hv2 => ?_)
  refine zg_cSi (As := [.int p1, .int v1, .int v2]) (st := []) X (t_X10_isWithin l d L kd _ p1 v1 v2 ) mk_X10_229 mc_X10_isWithin mz_X10 ms_X10_isWithin (na := 3) ⟨md_X10.1, md_X10.2, by decide +kernel⟩ rfl ⟨by decide, by decide⟩ (Nat.le_of_ble_eq_true rfl) dX10_vote_3 (fun v3 σ2 hq => ?_)
  obtain ⟨hv3, rfl⟩ := hq
  refine zg_if_ne X 11 dX10_vote_6 (by decide) (fun c4 => ?_) (fun c4 => ?_)
  · skip
    refine zg_aload_n X 0 rfl dX10_vote_11 ?_
    refine zg_cVv (As := []) (st := []) X ha0 rfl (by decide) rfl (t_X10_look l d L kd κ 0 _ hI a0 ha0 ) mk_X10_113 mc_X10_look mz_X10 mi_X10_look ml_X10_look (na := 0) ⟨md_X10.1, md_X10.2, by decide +kernel⟩ rfl ⟨by decide, by decide⟩ (Nat.le_of_ble_eq_true rfl) dX10_vote_12 (fun σ hI => ?_)
    refine zg_aload_n X 0 rfl dX10_vote_15 ?_
    refine fg_X10_34 X hI ha0 dX10_vote_16 (fun v5 _ hv5 => ?_)
    refine zg_cVi (As := []) (st := []) X hv5 rfl (by decide) rfl (t_X6_sources l d L kd κ 1 _ hI v5 hv5 ) mk_X10_188 mc_X6_sources mz_X6 mi_X6_sources ml_X6_sources (na := 0) ⟨md_X6.1, md_X6.2, by decide +kernel⟩ rfl ⟨by decide, by decide⟩ (Nat.le_of_ble_eq_true rfl) dX10_vote_19 (fun v6 σ hI => ?_)
    refine zg_if_ne X 28 dX10_vote_22 (by decide) (fun c7 => ?_) (fun c7 => ?_)
    · skip
      refine zg_aload_n X 0 rfl dX10_vote_28 ?_
      refine zg_cVv (As := []) (st := []) X ha0 rfl (by decide) rfl (t_X10_castVotes l d L kd κ _ hI a0 ha0 ) mk_X10_256 mc_X10_castVotes mz_X10 mi_X10_castVotes ml_X10_castVotes (na := 0) ⟨md_X10.1, md_X10.2, by decide +kernel⟩ rfl ⟨by decide, by decide⟩ (Nat.le_of_ble_eq_true rfl) dX10_vote_29 (fun σ hI => ?_)
      refine zg_iconst X 0 dX10_vote_32 (by decide) (fun v8 _ hv8 => ?_)
      refine zg_istore_n X [(2, .int v8), (0, .ref a0), (1, .int p1)] dX10_vote_33 (by decide) rfl ?_
      refine zg_iconst X 1 dX10_vote_34 (by decide) (fun v9 _ hv9 => ?_)
      refine zg_istore_n X [(3, .int v9), (2, .int v8), (0, .ref a0), (1, .int p1)] dX10_vote_35 (by decide) rfl ?_
      have Lp12 : ∀ (n : Nat) (σ : zS) (x10 : Int32) (x11 : Int32), zI κ 1 L kd σ → 1 ≤ x10.toInt ∧ x10.toInt ≤ 3 → (3) - x10.toInt + 1 < (n : Int) → zG d L kd A 4 p l e (k2_rm 7 (100 * 7)) s m args below meth c Q σ 36 [(3, .int x10), (2, .int x11), (0, .ref a0), (1, .int p1)] [] := by
        intro n
        induction n with
        | zero => intro σ x10 x11 hI  hxLp12 hm; exact absurd hm (by omega)
        | succ n ihLp12 =>
          intro σ x10 x11 hI  hxLp12 hmLp12
          refine zg_iload_n X 0 rfl dX10_vote_36 ?_
          refine zg_iconst X 3 dX10_vote_37 (by decide) (fun v13 _ hv13 => ?_)
          refine zg_icmp_ge X 62 dX10_vote_38 (by decide) (fun c14 => ?_) (fun c14 => ?_)
          · skip
            refine zg_iload_n X 3 rfl dX10_vote_62 ?_
            refine zg_if_ne X 70 dX10_vote_63 (by decide) (fun c15 => ?_) (fun c15 => ?_)
            · skip
              refine zg_aload_n X 2 rfl dX10_vote_70 ?_
              refine zg_iload_n X 1 rfl dX10_vote_71 ?_
              refine zg_cVi (As := [.int x11]) (st := []) X ha0 rfl (by decide) rfl (t_X10_votesFor l d L kd κ 1 _ hI a0 ha0 x11 ) mk_X10_259 mc_X10_votesFor mz_X10 mi_X10_votesFor ml_X10_votesFor (na := 1) ⟨md_X10.1, md_X10.2, by decide +kernel⟩ rfl ⟨by decide, by decide⟩ (Nat.le_of_ble_eq_true rfl) dX10_vote_72 (fun v16 σ hI => ?_)
              exact ret _ _ _ _ dX10_vote_75 rfl (zi_weak hI)
            · skip
              refine zg_iload_n X 1 rfl dX10_vote_66 ?_
              refine zg_goto X 75 dX10_vote_67 (by decide) ?_
              exact ret _ _ _ _ dX10_vote_75 rfl (zi_weak hI)
          · skip
            refine zg_aload_n X 2 rfl dX10_vote_41 ?_
            refine zg_iload_n X 0 rfl dX10_vote_42 ?_
            refine zg_cVi (As := [.int x10]) (st := []) X ha0 rfl (by decide) rfl (t_X10_votesFor l d L kd κ 1 _ hI a0 ha0 x10 ) mk_X10_259 mc_X10_votesFor mz_X10 mi_X10_votesFor ml_X10_votesFor (na := 1) ⟨md_X10.1, md_X10.2, by decide +kernel⟩ rfl ⟨by decide, by decide⟩ (Nat.le_of_ble_eq_true rfl) dX10_vote_43 (fun v17 σ hI => ?_)
            refine zg_aload_n X 2 rfl dX10_vote_46 ?_
            refine zg_iload_n X 1 rfl dX10_vote_47 ?_
            refine zg_cVi (As := [.int x11]) (st := [.int v17]) X ha0 rfl (by decide) rfl (t_X10_votesFor l d L kd κ 1 _ hI a0 ha0 x11 ) mk_X10_259 mc_X10_votesFor mz_X10 mi_X10_votesFor ml_X10_votesFor (na := 1) ⟨md_X10.1, md_X10.2, by decide +kernel⟩ rfl ⟨by decide, by decide⟩ (Nat.le_of_ble_eq_true rfl) dX10_vote_48 (fun v18 σ hI => ?_)
            have zv17_z19 := zb_rng v17
            have zv18_z20 := zb_rng v18
            refine zg_icmp_le X 56 dX10_vote_51 (by decide) (fun c21 => ?_) (fun c21 => ?_)
            · skip
              refine zg_iinc X 1 (fun v22 => [(3, .int v22), (2, .int x11), (0, .ref a0), (1, .int p1)]) 0 dX10_vote_56 rfl (by decide) (by decide) (by omega) (by omega) (fun _ => rfl) (fun v22 _ hv22 => ?_)
              refine zg_goto X 36 dX10_vote_59 (by decide) ?_
              refine zg_sub [0, 1, 2, 3] rfl ?_
              exact ihLp12 _ v22 x11 hI  (by omega) (by omega)
            · skip
              refine zg_iload_n X 0 rfl dX10_vote_54 ?_
              refine zg_istore_n X [(2, .int x10), (3, .int x10), (0, .ref a0), (1, .int p1)] dX10_vote_55 (by decide) rfl ?_
              refine zg_iinc X 1 (fun v23 => [(3, .int v23), (2, .int x10), (0, .ref a0), (1, .int p1)]) 1 dX10_vote_56 rfl (by decide) (by decide) (by omega) (by omega) (fun _ => rfl) (fun v23 _ hv23 => ?_)
              refine zg_goto X 36 dX10_vote_59 (by decide) ?_
              refine zg_sub [0, 1, 2, 3] rfl ?_
              exact ihLp12 _ v23 x10 hI  (by omega) (by omega)
      refine zg_sub [0, 1, 2, 3] rfl ?_
      exact Lp12 (((3) - v9.toInt + 1).toNat + 1) _ v9 v8 hI  (by omega) (by omega)
    · skip
      refine zg_bipush X (-2) dX10_vote_25 (by decide) (fun v24 _ hv24 => ?_)
      exact ret _ _ _ _ dX10_vote_27 rfl (zi_weak hI)
  · skip
    refine zg_iconst X (-1) dX10_vote_9 (by decide) (fun v25 _ hv25 => ?_)
    exact ret _ _ _ _ dX10_vote_10 rfl hI
set_option maxHeartbeats 4000000 in
set_option maxRecDepth 100000 in
theorem t_X10_richest (l : Launch) (d : zD2) (L : List Nat) (kd : Nat → Nat) (κ : Int) (σ : zS) (hI : zI κ 0 L kd σ) (a0 : Nat) (ha0 : zT L kd a0 10) (p1 : Int32) : zMi l yX10_richest (Cond.code yX10_richest cX10_richest 4 (some .int) :: zWL) 1 [.ref a0, .int p1] d L kd σ (fun _ σ2 => zI κ 0 L kd σ2) := by
  refine zMi.of (own := RX10) (by decide +kernel) rfl rfl (Nat.le_of_ble_eq_true rfl) ?_
  intro p e s m args below meth c A Q X ret
  refine zg_lv (lv2 := [(0, .ref a0), (1, .int p1)]) rfl ?_
  refine zg_iload_n X 1 rfl dX10_richest_0 ?_
  refine zg_iconst X 0 dX10_richest_1 (by decide) (fun v1 _ hv1 => ?_)
  refine zg_iconst X 1 dX10_richest_2 (by decide) (fun v2 _ hv2 => ?_)
  refine zg_cSi (As := [.int p1, .int v1, .int v2]) (st := []) X (t_X10_isWithin l d L kd _ p1 v1 v2 ) mk_X10_229 mc_X10_isWithin mz_X10 ms_X10_isWithin (na := 3) ⟨md_X10.1, md_X10.2, by decide +kernel⟩ rfl ⟨by decide, by decide⟩ (Nat.le_of_ble_eq_true rfl) dX10_richest_3 (fun v3 σ2 hq => ?_)
  obtain ⟨hv3, rfl⟩ := hq
  refine zg_if_ne X 11 dX10_richest_6 (by decide) (fun c4 => ?_) (fun c4 => ?_)
  · skip
    refine zg_iconst X 0 dX10_richest_11 (by decide) (fun v5 _ hv5 => ?_)
    refine zg_istore_n X [(2, .int v5), (0, .ref a0), (1, .int p1)] dX10_richest_12 (by decide) rfl ?_
    refine zg_iconst X 1 dX10_richest_13 (by decide) (fun v6 _ hv6 => ?_)
    refine zg_istore_n X [(3, .int v6), (2, .int v5), (0, .ref a0), (1, .int p1)] dX10_richest_14 (by decide) rfl ?_
    have Lp9 : ∀ (n : Nat) (σ : zS) (x7 : Int32) (x8 : Int32), zI κ 0 L kd σ → 0 ≤ x8.toInt ∧ x8.toInt ≤ 11 ∧ 1 ≤ x7.toInt ∧ x7.toInt ≤ 12 → (12) - x7.toInt + 1 < (n : Int) → zG d L kd A 4 p l e (k2_rm 1 (100 * 1)) s m args below meth c Q σ 15 [(3, .int x7), (2, .int x8), (0, .ref a0), (1, .int p1)] [] := by
      intro n
      induction n with
      | zero => intro σ x7 x8 hI  hxLp9 hm; exact absurd hm (by omega)
      | succ n ihLp9 =>
        intro σ x7 x8 hI  hxLp9 hmLp9
        refine zg_iload_n X 0 rfl dX10_richest_15 ?_
        refine zg_aload_n X 2 rfl dX10_richest_16 ?_
        refine fg_X10_70 X hI ha0 dX10_richest_17 (fun v10 _ hv10 => ?_)
        refine fg_X10_175 X hI hv10 dX10_richest_20 (fun v11 _ hv11 => ?_)
        refine zg_icmp_ge X 55 dX10_richest_23 (by decide) (fun c12 => ?_) (fun c12 => ?_)
        · skip
          refine zg_aload_n X 2 rfl dX10_richest_55 ?_
          refine fg_X10_52 X hI ha0 dX10_richest_56 (fun v13 _ hv13 => ?_)
          refine fg_X10_152 X hI hv13 dX10_richest_59 (fun v14 _ hv14 => ?_)
          refine zg_iload_n X 1 rfl dX10_richest_62 ?_
          refine ag_24 X hI hv14 (by omega) (by omega) dX10_richest_63 (fun v15 _ _ => ?_)
          refine zg_if_ne X 70 dX10_richest_64 (by decide) (fun c16 => ?_) (fun c16 => ?_)
          · skip
            refine zg_iload_n X 3 rfl dX10_richest_70 ?_
            refine zg_if_ne X 78 dX10_richest_71 (by decide) (fun c17 => ?_) (fun c17 => ?_)
            · skip
              refine zg_aload_n X 2 rfl dX10_richest_78 ?_
              refine fg_X10_52 X hI ha0 dX10_richest_79 (fun v18 _ hv18 => ?_)
              refine fg_X10_152 X hI hv18 dX10_richest_82 (fun v19 _ hv19 => ?_)
              refine zg_iload_n X 1 rfl dX10_richest_85 ?_
              refine ag_24 X hI hv19 (by omega) (by omega) dX10_richest_86 (fun v20 _ _ => ?_)
              exact ret _ _ _ _ dX10_richest_87 rfl hI
            · skip
              refine zg_iload_n X 1 rfl dX10_richest_74 ?_
              refine zg_goto X 87 dX10_richest_75 (by decide) ?_
              exact ret _ _ _ _ dX10_richest_87 rfl hI
          · skip
            refine zg_bipush X (-2) dX10_richest_67 (by decide) (fun v21 _ hv21 => ?_)
            exact ret _ _ _ _ dX10_richest_69 rfl hI
        · skip
          refine zg_aload_n X 2 rfl dX10_richest_26 ?_
          refine fg_X10_52 X hI ha0 dX10_richest_27 (fun v22 _ hv22 => ?_)
          refine fg_X10_152 X hI hv22 dX10_richest_30 (fun v23 _ hv23 => ?_)
          refine zg_iload_n X 0 rfl dX10_richest_33 ?_
          refine ag_24 X hI hv23 (by omega) (by omega) dX10_richest_34 (fun v24 _ _ => ?_)
          refine zg_aload_n X 2 rfl dX10_richest_35 ?_
          refine fg_X10_52 X hI ha0 dX10_richest_36 (fun v25 _ hv25 => ?_)
          refine fg_X10_152 X hI hv25 dX10_richest_39 (fun v26 _ hv26 => ?_)
          refine zg_iload_n X 1 rfl dX10_richest_42 ?_
          refine ag_24 X hI hv26 (by omega) (by omega) dX10_richest_43 (fun v27 _ _ => ?_)
          have zv24_z28 := zb_rng v24
          have zv27_z29 := zb_rng v27
          refine zg_icmp_le X 49 dX10_richest_44 (by decide) (fun c30 => ?_) (fun c30 => ?_)
          · skip
            refine zg_iinc X 1 (fun v31 => [(3, .int v31), (2, .int x8), (0, .ref a0), (1, .int p1)]) 0 dX10_richest_49 rfl (by decide) (by decide) (by omega) (by omega) (fun _ => rfl) (fun v31 _ hv31 => ?_)
            refine zg_goto X 15 dX10_richest_52 (by decide) ?_
            refine zg_sub [0, 1, 2, 3] rfl ?_
            exact ihLp9 _ v31 x8 hI  (by omega) (by omega)
          · skip
            refine zg_iload_n X 0 rfl dX10_richest_47 ?_
            refine zg_istore_n X [(2, .int x7), (3, .int x7), (0, .ref a0), (1, .int p1)] dX10_richest_48 (by decide) rfl ?_
            refine zg_iinc X 1 (fun v32 => [(3, .int v32), (2, .int x7), (0, .ref a0), (1, .int p1)]) 1 dX10_richest_49 rfl (by decide) (by decide) (by omega) (by omega) (fun _ => rfl) (fun v32 _ hv32 => ?_)
            refine zg_goto X 15 dX10_richest_52 (by decide) ?_
            refine zg_sub [0, 1, 2, 3] rfl ?_
            exact ihLp9 _ v32 x7 hI  (by omega) (by omega)
    refine zg_sub [0, 1, 2, 3] rfl ?_
    exact Lp9 (((12) - v6.toInt + 1).toNat + 1) _ v6 v5 hI  (by omega) (by omega)
  · skip
    refine zg_iconst X (-1) dX10_richest_9 (by decide) (fun v33 _ hv33 => ?_)
    exact ret _ _ _ _ dX10_richest_10 rfl hI
set_option maxHeartbeats 4000000 in
set_option maxRecDepth 100000 in
theorem t_X10_turnFor (l : Launch) (d : zD2) (L : List Nat) (kd : Nat → Nat) (κ : Int) (σ : zS) (hI : zI κ 0 L kd σ) (a0 : Nat) (ha0 : zT L kd a0 10) (p1 : Int32) (p2 : Int32) : zMi l yX10_turnFor (Cond.code yX10_turnFor cX10_turnFor 5 (some .int) :: zWL) 7 [.ref a0, .int p1, .int p2] d L kd σ (fun _ σ2 => zI κ 0 L kd σ2) := by
  refine zMi.of (own := RX10) (by decide +kernel) rfl rfl (Nat.le_of_ble_eq_true rfl) ?_
  intro p e s m args below meth c A Q X ret
  refine zg_lv (lv2 := [(0, .ref a0), (1, .int p1), (2, .int p2)]) rfl ?_
  refine zg_aload_n X 0 rfl dX10_turnFor_0 ?_
  refine zg_iload_n X 1 rfl dX10_turnFor_1 ?_
  refine zg_iload_n X 2 rfl dX10_turnFor_2 ?_
  refine zg_cVi (As := [.int p1, .int p2]) (st := []) X ha0 rfl (by decide) rfl (t_X10_isContest l d L kd κ 0 _ hI a0 ha0 p1 p2 ) mk_X10_162 mc_X10_isContest mz_X10 mi_X10_isContest ml_X10_isContest (na := 2) ⟨md_X10.1, md_X10.2, by decide +kernel⟩ rfl ⟨by decide, by decide⟩ (Nat.le_of_ble_eq_true rfl) dX10_turnFor_3 (fun v1 σ hI => ?_)
  obtain ⟨hv1, hI⟩ := hI
  refine zg_if_ne X 11 dX10_turnFor_6 (by decide) (fun c2 => ?_) (fun c2 => ?_)
  · skip
    refine zg_iconst X 1 dX10_turnFor_11 (by decide) (fun v3 _ hv3 => ?_)
    refine zg_istore_n X [(3, .int v3), (0, .ref a0), (1, .int p1), (2, .int p2)] dX10_turnFor_12 (by decide) rfl ?_
    have Lp5 : ∀ (n : Nat) (σ : zS) (x4 : Int32), zI κ 1 L kd σ → 1 ≤ x4.toInt ∧ x4.toInt ≤ 12 → (12) - x4.toInt + 1 < (n : Int) → zG d L kd A 5 p l e (k2_rm 7 (100 * 7)) s m args below meth c Q σ 13 [(3, .int x4), (0, .ref a0), (1, .int p1), (2, .int p2)] [] := by
      intro n
      induction n with
      | zero => intro σ x4 hI  hxLp5 hm; exact absurd hm (by omega)
      | succ n ihLp5 =>
        intro σ x4 hI  hxLp5 hmLp5
        refine zg_iload_n X 0 rfl dX10_turnFor_13 ?_
        refine zg_aload_n X 1 rfl dX10_turnFor_14 ?_
        refine fg_X10_70 X hI ha0 dX10_turnFor_15 (fun v6 _ hv6 => ?_)
        refine fg_X10_175 X hI hv6 dX10_turnFor_18 (fun v7 ev7 hv7 => ?_)
        refine zg_icmp_ge X 86 dX10_turnFor_21 (by decide) (fun c8 => ?_) (fun c8 => ?_)
        · skip
          refine zg_bipush X (-2) dX10_turnFor_86 (by decide) (fun v9 _ hv9 => ?_)
          exact ret _ _ _ _ dX10_turnFor_88 rfl (zi_weak hI)
        · skip
          refine zg_iconst X 0 dX10_turnFor_24 (by decide) (fun v10 _ hv10 => ?_)
          refine zg_istore X [(4, .int v10), (3, .int x4), (0, .ref a0), (1, .int p1), (2, .int p2)] dX10_turnFor_25 (by decide) rfl ?_
          have Lp12 : ∀ (n : Nat) (σ : zS) (x11 : Int32), zI κ 1 L kd σ → 0 ≤ x11.toInt ∧ x11.toInt ≤ 12 → (12) - x11.toInt + 1 < (n : Int) → zG d L kd A 5 p l e (k2_rm 7 (100 * 7)) s m args below meth c Q σ 27 [(4, .int x11), (3, .int x4), (0, .ref a0), (1, .int p1), (2, .int p2)] [] := by
            intro n
            induction n with
            | zero => intro σ x11 hI  hxLp12 hm; exact absurd hm (by omega)
            | succ n ihLp12 =>
              intro σ x11 hI  hxLp12 hmLp12
              refine zg_iload X 0 rfl dX10_turnFor_27 ?_
              refine zg_aload_n X 2 rfl dX10_turnFor_29 ?_
              refine fg_X10_70 X hI ha0 dX10_turnFor_30 (fun v13 _ hv13 => ?_)
              refine fg_X10_175 X hI hv13 dX10_turnFor_33 (fun v14 ev14 hv14 => ?_)
              refine zg_icmp_ge X 80 dX10_turnFor_36 (by decide) (fun c15 => ?_) (fun c15 => ?_)
              · skip
                refine zg_iinc X 1 (fun v16 => [(3, .int v16), (4, .int x11), (0, .ref a0), (1, .int p1), (2, .int p2)]) 1 dX10_turnFor_80 rfl (by decide) (by decide) (by omega) (by omega) (fun _ => rfl) (fun v16 _ hv16 => ?_)
                refine zg_goto X 13 dX10_turnFor_83 (by decide) ?_
                refine zg_sub [0, 2, 3, 4] rfl ?_
                exact ihLp5 _ v16 hI  (by omega) (by omega)
              · skip
                refine zg_iload_n X 1 rfl dX10_turnFor_39 ?_
                refine zg_iload_n X 3 rfl dX10_turnFor_40 ?_
                refine zg_icmp_eq X 74 dX10_turnFor_41 (by decide) (fun c17 => ?_) (fun c17 => ?_)
                · skip
                  refine zg_iinc X 1 (fun v18 => [(4, .int v18), (3, .int x4), (0, .ref a0), (1, .int p1), (2, .int p2)]) 0 dX10_turnFor_74 rfl (by decide) (by decide) (by omega) (by omega) (fun _ => rfl) (fun v18 _ hv18 => ?_)
                  refine zg_goto X 27 dX10_turnFor_77 (by decide) ?_
                  refine zg_sub [0, 1, 2, 3, 4] rfl ?_
                  exact ihLp12 _ v18 hI  (by omega) (by omega)
                · skip
                  refine zg_aload_n X 2 rfl dX10_turnFor_44 ?_
                  refine zg_iload_n X 1 rfl dX10_turnFor_45 ?_
                  refine zg_iload X 0 rfl dX10_turnFor_46 ?_
                  refine zg_cVi (As := [.int x4, .int x11]) (st := []) X ha0 rfl (by decide) rfl (t_X10_isTurn l d L kd κ 1 _ hI a0 ha0 x4 x11 ) mk_X10_223 mc_X10_isTurn mz_X10 mi_X10_isTurn ml_X10_isTurn (na := 2) ⟨md_X10.1, md_X10.2, by decide +kernel⟩ rfl ⟨by decide, by decide⟩ (Nat.le_of_ble_eq_true rfl) dX10_turnFor_48 (fun v19 σ hI => ?_)
                  obtain ⟨hv19, hI⟩ := hI
                  refine zg_if_eq X 74 dX10_turnFor_51 (by decide) (fun c20 => ?_) (fun c20 => ?_)
                  · skip
                    refine zg_iinc X 1 (fun v21 => [(4, .int v21), (3, .int x4), (0, .ref a0), (1, .int p1), (2, .int p2)]) 0 dX10_turnFor_74 rfl (by decide) (by decide) (by omega) (by omega) (fun _ => rfl) (fun v21 _ hv21 => ?_)
                    refine zg_goto X 27 dX10_turnFor_77 (by decide) ?_
                    refine zg_sub [0, 1, 2, 3, 4] rfl ?_
                    exact ihLp12 _ v21 hI  (by omega) (by omega)
                  · skip
                    refine zg_aload_n X 2 rfl dX10_turnFor_54 ?_
                    refine zg_iload_n X 3 rfl dX10_turnFor_55 ?_
                    refine zg_iload_n X 4 rfl dX10_turnFor_56 ?_
                    refine zg_iload_n X 1 rfl dX10_turnFor_57 ?_
                    refine zg_iload X 0 rfl dX10_turnFor_58 ?_
                    refine zg_cVi (As := [.int p1, .int p2, .int x4, .int x11]) (st := []) X ha0 rfl (by decide) rfl (t_X10_winsTurned l d L kd κ 1 _ hI a0 ha0 p1 p2 x4 x11 (by omega) (by omega) (by omega)) mk_X10_267 mc_X10_winsTurned mz_X10 mi_X10_winsTurned ml_X10_winsTurned (na := 4) ⟨md_X10.1, md_X10.2, by decide +kernel⟩ rfl ⟨by decide, by decide⟩ (Nat.le_of_ble_eq_true rfl) dX10_turnFor_60 (fun v22 σ hI => ?_)
                    obtain ⟨hv22, hI⟩ := hI
                    refine zg_if_eq X 74 dX10_turnFor_63 (by decide) (fun c23 => ?_) (fun c23 => ?_)
                    · skip
                      refine zg_iinc X 1 (fun v24 => [(4, .int v24), (3, .int x4), (0, .ref a0), (1, .int p1), (2, .int p2)]) 0 dX10_turnFor_74 rfl (by decide) (by decide) (by omega) (by omega) (fun _ => rfl) (fun v24 _ hv24 => ?_)
                      refine zg_goto X 27 dX10_turnFor_77 (by decide) ?_
                      refine zg_sub [0, 1, 2, 3, 4] rfl ?_
                      exact ihLp12 _ v24 hI  (by omega) (by omega)
                    · skip
                      refine zg_bipush X 100 dX10_turnFor_66 (by decide) (fun v25 _ hv25 => ?_)
                      refine zg_iload_n X 1 rfl dX10_turnFor_68 ?_
                      refine zg_imulW X dX10_turnFor_69 (fun v26 _ => ?_)
                      refine zg_iload X 0 rfl dX10_turnFor_70 ?_
                      refine zg_iaddW X dX10_turnFor_72 (fun v27 _ => ?_)
                      exact ret _ _ _ _ dX10_turnFor_73 rfl (zi_weak hI)
          refine zg_sub [0, 1, 2, 3, 4] rfl ?_
          exact Lp12 (((12) - v10.toInt + 1).toNat + 1) _ v10 hI  (by omega) (by omega)
    refine zg_sub [0, 1, 2, 3] rfl ?_
    exact Lp5 (((12) - v3.toInt + 1).toNat + 1) _ v3 hI  (by omega) (by omega)
  · skip
    refine zg_iconst X (-1) dX10_turnFor_9 (by decide) (fun v28 _ hv28 => ?_)
    exact ret _ _ _ _ dX10_turnFor_10 rfl (zi_weak hI)
set_option maxHeartbeats 4000000 in
set_option maxRecDepth 100000 in
theorem t_X10_damFor (l : Launch) (d : zD2) (L : List Nat) (kd : Nat → Nat) (κ : Int) (σ : zS) (hI : zI κ 0 L kd σ) (a0 : Nat) (ha0 : zT L kd a0 10) (p1 : Int32) (p2 : Int32) : zMi l yX10_damFor (Cond.code yX10_damFor cX10_damFor 4 (some .int) :: zWL) 7 [.ref a0, .int p1, .int p2] d L kd σ (fun _ σ2 => zI κ 0 L kd σ2) := by
  refine zMi.of (own := RX10) (by decide +kernel) rfl rfl (Nat.le_of_ble_eq_true rfl) ?_
  intro p e s m args below meth c A Q X ret
  refine zg_lv (lv2 := [(0, .ref a0), (1, .int p1), (2, .int p2)]) rfl ?_
  refine zg_aload_n X 0 rfl dX10_damFor_0 ?_
  refine zg_iload_n X 1 rfl dX10_damFor_1 ?_
  refine zg_iload_n X 2 rfl dX10_damFor_2 ?_
  refine zg_cVi (As := [.int p1, .int p2]) (st := []) X ha0 rfl (by decide) rfl (t_X10_isContest l d L kd κ 0 _ hI a0 ha0 p1 p2 ) mk_X10_162 mc_X10_isContest mz_X10 mi_X10_isContest ml_X10_isContest (na := 2) ⟨md_X10.1, md_X10.2, by decide +kernel⟩ rfl ⟨by decide, by decide⟩ (Nat.le_of_ble_eq_true rfl) dX10_damFor_3 (fun v1 σ hI => ?_)
  obtain ⟨hv1, hI⟩ := hI
  refine zg_if_ne X 11 dX10_damFor_6 (by decide) (fun c2 => ?_) (fun c2 => ?_)
  · skip
    refine zg_iconst X 1 dX10_damFor_11 (by decide) (fun v3 _ hv3 => ?_)
    refine zg_istore_n X [(3, .int v3), (0, .ref a0), (1, .int p1), (2, .int p2)] dX10_damFor_12 (by decide) rfl ?_
    have Lp5 : ∀ (n : Nat) (σ : zS) (x4 : Int32), zI κ 1 L kd σ → 1 ≤ x4.toInt ∧ x4.toInt ≤ 12 → (12) - x4.toInt + 1 < (n : Int) → zG d L kd A 4 p l e (k2_rm 7 (100 * 7)) s m args below meth c Q σ 13 [(3, .int x4), (0, .ref a0), (1, .int p1), (2, .int p2)] [] := by
      intro n
      induction n with
      | zero => intro σ x4 hI  hxLp5 hm; exact absurd hm (by omega)
      | succ n ihLp5 =>
        intro σ x4 hI  hxLp5 hmLp5
        refine zg_iload_n X 0 rfl dX10_damFor_13 ?_
        refine zg_aload_n X 1 rfl dX10_damFor_14 ?_
        refine fg_X10_70 X hI ha0 dX10_damFor_15 (fun v6 _ hv6 => ?_)
        refine fg_X10_175 X hI hv6 dX10_damFor_18 (fun v7 _ hv7 => ?_)
        refine zg_icmp_ge X 77 dX10_damFor_21 (by decide) (fun c8 => ?_) (fun c8 => ?_)
        · skip
          refine zg_bipush X (-2) dX10_damFor_77 (by decide) (fun v9 _ hv9 => ?_)
          exact ret _ _ _ _ dX10_damFor_79 rfl (zi_weak hI)
        · skip
          refine zg_aload_n X 1 rfl dX10_damFor_24 ?_
          refine fg_X10_52 X hI ha0 dX10_damFor_25 (fun v10 _ hv10 => ?_)
          refine fg_X10_128 X hI hv10 dX10_damFor_28 (fun v11 ev11 _ => ?_)
          refine zg_iload_n X 0 rfl dX10_damFor_31 ?_
          refine zg_cSi (As := [.int v11, .int x4]) (st := []) X (t_X10_has l d L kd _ v11 x4 ) mk_X10_131 mc_X10_has mz_X10 ms_X10_has (na := 2) ⟨md_X10.1, md_X10.2, by decide +kernel⟩ rfl ⟨by decide, by decide⟩ (Nat.le_of_ble_eq_true rfl) dX10_damFor_32 (fun v12 σ2 hq => ?_)
          obtain ⟨hv12, rfl⟩ := hq
          refine zg_if_ne X 71 dX10_damFor_35 (by decide) (fun c13 => ?_) (fun c13 => ?_)
          · skip
            refine zg_iinc X 1 (fun v14 => [(3, .int v14), (0, .ref a0), (1, .int p1), (2, .int p2)]) 0 dX10_damFor_71 rfl (by decide) (by decide) (by omega) (by omega) (fun _ => rfl) (fun v14 _ hv14 => ?_)
            refine zg_goto X 13 dX10_damFor_74 (by decide) ?_
            refine zg_sub [0, 1, 2, 3] rfl ?_
            exact ihLp5 _ v14 hI  (by omega) (by omega)
          · skip
            refine zg_aload_n X 1 rfl dX10_damFor_38 ?_
            refine fg_X10_26 X hI ha0 dX10_damFor_39 (fun v15 _ hv15 => ?_)
            refine zg_aload_n X 1 rfl dX10_damFor_42 ?_
            refine fg_X10_52 X hI ha0 dX10_damFor_43 (fun v16 _ hv16 => ?_)
            refine fg_X10_128 X hI hv16 dX10_damFor_46 (fun v17 ev17 _ => ?_)
            refine zg_iload_n X 0 rfl dX10_damFor_49 ?_
            refine zg_cSi (As := [.int x4]) (st := [.int v17, .ref v15]) X (t_X10_bit l d L kd _ x4 ) mk_X10_216 mc_X10_bit mz_X10 ms_X10_bit (na := 1) ⟨md_X10.1, md_X10.2, by decide +kernel⟩ rfl ⟨by decide, by decide⟩ (Nat.le_of_ble_eq_true rfl) dX10_damFor_50 (fun v18 σ2 hq => ?_)
            obtain ⟨hv18, rfl⟩ := hq
            refine zg_iorW X dX10_damFor_53 (fun v19 _ => ?_)
            refine zg_cVv (As := [.int v19]) (st := []) X hv15 rfl (by decide) rfl (t_X5_run l d L kd κ _ hI v15 hv15 v19 ) mk_X10_274 mc_X5_run mz_X5 mi_X5_run ml_X5_run (na := 1) ⟨md_X5.1, md_X5.2, by decide +kernel⟩ rfl ⟨by decide, by decide⟩ (Nat.le_of_ble_eq_true rfl) dX10_damFor_54 (fun σ hI => ?_)
            refine zg_aload_n X 1 rfl dX10_damFor_57 ?_
            refine fg_X10_26 X hI ha0 dX10_damFor_58 (fun v20 _ hv20 => ?_)
            refine zg_iload_n X 3 rfl dX10_damFor_61 ?_
            refine zg_cVi (As := [.int p2]) (st := []) X hv20 rfl (by decide) rfl (t_X5_winnerBy l d L kd κ _ hI v20 hv20 p2 (by omega)) mk_X10_172 mc_X5_winnerBy mz_X5 mi_X5_winnerBy ml_X5_winnerBy (na := 1) ⟨md_X5.1, md_X5.2, by decide +kernel⟩ rfl ⟨by decide, by decide⟩ (Nat.le_of_ble_eq_true rfl) dX10_damFor_62 (fun v21 σ hI => ?_)
            obtain ⟨hv21, hI⟩ := hI
            refine zg_iload_n X 2 rfl dX10_damFor_65 ?_
            refine zg_icmp_ne X 71 dX10_damFor_66 (by decide) (fun c22 => ?_) (fun c22 => ?_)
            · skip
              refine zg_iinc X 1 (fun v23 => [(3, .int v23), (0, .ref a0), (1, .int p1), (2, .int p2)]) 0 dX10_damFor_71 rfl (by decide) (by decide) (by omega) (by omega) (fun _ => rfl) (fun v23 _ hv23 => ?_)
              refine zg_goto X 13 dX10_damFor_74 (by decide) ?_
              refine zg_sub [0, 1, 2, 3] rfl ?_
              exact ihLp5 _ v23 hI  (by omega) (by omega)
            · skip
              refine zg_iload_n X 0 rfl dX10_damFor_69 ?_
              exact ret _ _ _ _ dX10_damFor_70 rfl (zi_weak hI)
    refine zg_sub [0, 1, 2, 3] rfl ?_
    exact Lp5 (((12) - v3.toInt + 1).toNat + 1) _ v3 hI  (by omega) (by omega)
  · skip
    refine zg_iconst X (-1) dX10_damFor_9 (by decide) (fun v24 _ hv24 => ?_)
    exact ret _ _ _ _ dX10_damFor_10 rfl (zi_weak hI)
set_option maxHeartbeats 4000000 in
set_option maxRecDepth 100000 in
theorem t_X10_loss (l : Launch) (d : zD2) (L : List Nat) (kd : Nat → Nat) (κ : Int) (σ : zS) (hI : zI κ 0 L kd σ) (a0 : Nat) (ha0 : zT L kd a0 10) (p1 : Int32) : zMi l yX10_loss (Cond.code yX10_loss cX10_loss 2 (some .int) :: zWL) 7 [.ref a0, .int p1] d L kd σ (fun _ σ2 => zI κ 0 L kd σ2) := by
  refine zMi.of (own := RX10) (by decide +kernel) rfl rfl (Nat.le_of_ble_eq_true rfl) ?_
  intro p e s m args below meth c A Q X ret
  refine zg_lv (lv2 := [(0, .ref a0), (1, .int p1)]) rfl ?_
  refine zg_iload_n X 1 rfl dX10_loss_0 ?_
  refine zg_if_eq X 12 dX10_loss_1 (by decide) (fun c1 => ?_) (fun c1 => ?_)
  · skip
    refine zg_iconst X (-1) dX10_loss_12 (by decide) (fun v2 _ hv2 => ?_)
    exact ret _ _ _ _ dX10_loss_13 rfl hI
  · skip
    refine zg_aload_n X 0 rfl dX10_loss_4 ?_
    refine zg_iload_n X 1 rfl dX10_loss_5 ?_
    refine zg_cVi (As := [.int p1]) (st := []) X ha0 rfl (by decide) rfl (t_X10_isPlace l d L kd κ 0 _ hI a0 ha0 p1 ) mk_X10_109 mc_X10_isPlace mz_X10 mi_X10_isPlace ml_X10_isPlace (na := 1) ⟨md_X10.1, md_X10.2, by decide +kernel⟩ rfl ⟨by decide, by decide⟩ (Nat.le_of_ble_eq_true rfl) dX10_loss_6 (fun v3 σ hI => ?_)
    obtain ⟨hv3, hI⟩ := hI
    refine zg_if_ne X 14 dX10_loss_9 (by decide) (fun c4 => ?_) (fun c4 => ?_)
    · skip
      refine zg_aload_n X 0 rfl dX10_loss_14 ?_
      refine zg_cVv (As := []) (st := []) X ha0 rfl (by decide) rfl (t_X10_look l d L kd κ 0 _ hI a0 ha0 ) mk_X10_113 mc_X10_look mz_X10 mi_X10_look ml_X10_look (na := 0) ⟨md_X10.1, md_X10.2, by decide +kernel⟩ rfl ⟨by decide, by decide⟩ (Nat.le_of_ble_eq_true rfl) dX10_loss_15 (fun σ hI => ?_)
      refine zg_aload_n X 0 rfl dX10_loss_18 ?_
      refine zg_iload_n X 1 rfl dX10_loss_19 ?_
      refine zg_cVi (As := [.int p1]) (st := []) X ha0 rfl (by decide) rfl (t_X10_lossOf l d L kd κ _ hI a0 ha0 p1 (by omega)) mk_X10_290 mc_X10_lossOf mz_X10 mi_X10_lossOf ml_X10_lossOf (na := 1) ⟨md_X10.1, md_X10.2, by decide +kernel⟩ rfl ⟨by decide, by decide⟩ (Nat.le_of_ble_eq_true rfl) dX10_loss_20 (fun v5 σ hI => ?_)
      exact ret _ _ _ _ dX10_loss_23 rfl (zi_weak hI)
    · skip
      refine zg_iconst X (-1) dX10_loss_12 (by decide) (fun v6 _ hv6 => ?_)
      exact ret _ _ _ _ dX10_loss_13 rfl hI
set_option maxHeartbeats 4000000 in
set_option maxRecDepth 100000 in
theorem t_X10_part (l : Launch) (d : zD2) (L : List Nat) (kd : Nat → Nat) (κ : Int) (σ : zS) (hI : zI κ 0 L kd σ) (a0 : Nat) (ha0 : zT L kd a0 10) (p1 : Int32) : zMi l yX10_part (Cond.code yX10_part cX10_part 3 (some .int) :: zWL) 7 [.ref a0, .int p1] d L kd σ (fun _ σ2 => zI κ 0 L kd σ2) := by
  refine zMi.of (own := RX10) (by decide +kernel) rfl rfl (Nat.le_of_ble_eq_true rfl) ?_
  intro p e s m args below meth c A Q X ret
  refine zg_lv (lv2 := [(0, .ref a0), (1, .int p1)]) rfl ?_
  refine zg_iload_n X 1 rfl dX10_part_0 ?_
  refine zg_if_eq X 12 dX10_part_1 (by decide) (fun c1 => ?_) (fun c1 => ?_)
  · skip
    refine zg_iconst X (-1) dX10_part_12 (by decide) (fun v2 _ hv2 => ?_)
    exact ret _ _ _ _ dX10_part_13 rfl hI
  · skip
    refine zg_aload_n X 0 rfl dX10_part_4 ?_
    refine zg_iload_n X 1 rfl dX10_part_5 ?_
    refine zg_cVi (As := [.int p1]) (st := []) X ha0 rfl (by decide) rfl (t_X10_isPlace l d L kd κ 0 _ hI a0 ha0 p1 ) mk_X10_109 mc_X10_isPlace mz_X10 mi_X10_isPlace ml_X10_isPlace (na := 1) ⟨md_X10.1, md_X10.2, by decide +kernel⟩ rfl ⟨by decide, by decide⟩ (Nat.le_of_ble_eq_true rfl) dX10_part_6 (fun v3 σ hI => ?_)
    obtain ⟨hv3, hI⟩ := hI
    refine zg_if_ne X 14 dX10_part_9 (by decide) (fun c4 => ?_) (fun c4 => ?_)
    · skip
      refine zg_aload_n X 0 rfl dX10_part_14 ?_
      refine zg_cVv (As := []) (st := []) X ha0 rfl (by decide) rfl (t_X10_look l d L kd κ 0 _ hI a0 ha0 ) mk_X10_113 mc_X10_look mz_X10 mi_X10_look ml_X10_look (na := 0) ⟨md_X10.1, md_X10.2, by decide +kernel⟩ rfl ⟨by decide, by decide⟩ (Nat.le_of_ble_eq_true rfl) dX10_part_15 (fun σ hI => ?_)
      refine zg_aload_n X 0 rfl dX10_part_18 ?_
      refine zg_cVi (As := []) (st := []) X ha0 rfl (by decide) rfl (t_X10_mouthFlow l d L kd κ 1 _ hI a0 ha0 ) mk_X10_191 mc_X10_mouthFlow mz_X10 mi_X10_mouthFlow ml_X10_mouthFlow (na := 0) ⟨md_X10.1, md_X10.2, by decide +kernel⟩ rfl ⟨by decide, by decide⟩ (Nat.le_of_ble_eq_true rfl) dX10_part_19 (fun v5 σ hI => ?_)
      refine zg_istore_n X [(2, .int v5), (0, .ref a0), (1, .int p1)] dX10_part_22 (by decide) rfl ?_
      refine zg_iload_n X 0 rfl dX10_part_23 ?_
      refine zg_if_ne X 31 dX10_part_24 (by decide) (fun c6 => ?_) (fun c6 => ?_)
      · skip
        refine zg_aload_n X 1 rfl dX10_part_31 ?_
        refine zg_iload_n X 2 rfl dX10_part_32 ?_
        refine zg_cVi (As := [.int p1]) (st := []) X ha0 rfl (by decide) rfl (t_X10_lossOf l d L kd κ _ hI a0 ha0 p1 (by omega)) mk_X10_290 mc_X10_lossOf mz_X10 mi_X10_lossOf ml_X10_lossOf (na := 1) ⟨md_X10.1, md_X10.2, by decide +kernel⟩ rfl ⟨by decide, by decide⟩ (Nat.le_of_ble_eq_true rfl) dX10_part_33 (fun v7 σ hI => ?_)
        refine zg_sipush X 1000 dX10_part_36 (by decide) (fun v8 _ hv8 => ?_)
        refine zg_imulW X dX10_part_39 (fun v9 _ => ?_)
        refine zg_iload_n X 0 rfl dX10_part_40 ?_
        refine zg_idivW X dX10_part_41 (by omega) (fun v10 _ => ?_)
        exact ret _ _ _ _ dX10_part_42 rfl (zi_weak hI)
      · skip
        refine zg_iconst X 0 dX10_part_27 (by decide) (fun v11 _ hv11 => ?_)
        refine zg_goto X 42 dX10_part_28 (by decide) ?_
        exact ret _ _ _ _ dX10_part_42 rfl (zi_weak hI)
    · skip
      refine zg_iconst X (-1) dX10_part_12 (by decide) (fun v12 _ hv12 => ?_)
      exact ret _ _ _ _ dX10_part_13 rfl hI
set_option maxHeartbeats 4000000 in
set_option maxRecDepth 100000 in
theorem t_X10_main (l : Launch) (d : zD2) (L : List Nat) (kd : Nat → Nat) (κ : Int) (σ : zS) (hI : zI κ 0 L kd σ) (a0 : Nat) (ha0 : zT L kd a0 10) (p1 : Int32) : zMi l yX10_main (Cond.code yX10_main cX10_main 4 (some .int) :: zWL) 7 [.ref a0, .int p1] d L kd σ (fun _ σ2 => zI κ 0 L kd σ2) := by
  refine zMi.of (own := RX10) (by decide +kernel) rfl rfl (Nat.le_of_ble_eq_true rfl) ?_
  intro p e s m args below meth c A Q X ret
  refine zg_lv (lv2 := [(0, .ref a0), (1, .int p1)]) rfl ?_
  refine zg_aload_n X 0 rfl dX10_main_0 ?_
  refine zg_cVi (As := []) (st := []) X ha0 rfl (by decide) rfl (t_X10_hasMouth l d L kd κ 0 _ hI a0 ha0 ) mk_X10_277 mc_X10_hasMouth mz_X10 mi_X10_hasMouth ml_X10_hasMouth (na := 0) ⟨md_X10.1, md_X10.2, by decide +kernel⟩ rfl ⟨by decide, by decide⟩ (Nat.le_of_ble_eq_true rfl) dX10_main_1 (fun v1 σ hI => ?_)
  obtain ⟨hv1, hI⟩ := hI
  refine zg_if_eq X 11 dX10_main_4 (by decide) (fun c2 => ?_) (fun c2 => ?_)
  · skip
    refine zg_iconst X (-1) dX10_main_11 (by decide) (fun v3 _ hv3 => ?_)
    exact ret _ _ _ _ dX10_main_12 rfl hI
  · skip
    refine zg_iload_n X 1 rfl dX10_main_7 ?_
    refine zg_if_ge X 13 dX10_main_8 (by decide) (fun c4 => ?_) (fun c4 => ?_)
    · skip
      refine zg_aload_n X 0 rfl dX10_main_13 ?_
      refine zg_cVv (As := []) (st := []) X ha0 rfl (by decide) rfl (t_X10_look l d L kd κ 0 _ hI a0 ha0 ) mk_X10_113 mc_X10_look mz_X10 mi_X10_look ml_X10_look (na := 0) ⟨md_X10.1, md_X10.2, by decide +kernel⟩ rfl ⟨by decide, by decide⟩ (Nat.le_of_ble_eq_true rfl) dX10_main_14 (fun σ hI => ?_)
      refine zg_iconst X 0 dX10_main_17 (by decide) (fun v5 _ hv5 => ?_)
      refine zg_istore_n X [(2, .int v5), (0, .ref a0), (1, .int p1)] dX10_main_18 (by decide) rfl ?_
      refine zg_iconst X 0 dX10_main_19 (by decide) (fun v6 _ hv6 => ?_)
      refine zg_istore_n X [(3, .int v6), (2, .int v5), (0, .ref a0), (1, .int p1)] dX10_main_20 (by decide) rfl ?_
      have Lp9 : ∀ (n : Nat) (σ : zS) (x7 : Int32) (x8 : Int32), zI κ 1 L kd σ → (-1) ≤ x8.toInt ∧ x8.toInt ≤ 11 ∧ 0 ≤ x7.toInt ∧ x7.toInt ≤ 2147483647 → (2147483647) - x7.toInt + 1 < (n : Int) → zG d L kd A 4 p l e (k2_rm 7 (100 * 7)) s m args below meth c Q σ 21 [(3, .int x7), (2, .int x8), (0, .ref a0), (1, .int p1)] [] := by
        intro n
        induction n with
        | zero => intro σ x7 x8 hI  hxLp9 hm; exact absurd hm (by omega)
        | succ n ihLp9 =>
          intro σ x7 x8 hI  hxLp9 hmLp9
          refine zg_iload_n X 0 rfl dX10_main_21 ?_
          refine zg_iload_n X 3 rfl dX10_main_22 ?_
          have zx7_z10 := zb_rng x7
          have zp1_z11 := zb_rng p1
          refine zg_icmp_ge X 43 dX10_main_23 (by decide) (fun c12 => ?_) (fun c12 => ?_)
          · skip
            refine zg_iload_n X 1 rfl dX10_main_43 ?_
            exact ret _ _ _ _ dX10_main_44 rfl (zi_weak hI)
          · skip
            refine zg_iload_n X 1 rfl dX10_main_26 ?_
            refine zg_iconst X (-1) dX10_main_27 (by decide) (fun v13 _ hv13 => ?_)
            refine zg_icmp_eq X 43 dX10_main_28 (by decide) (fun c14 => ?_) (fun c14 => ?_)
            · skip
              refine zg_iload_n X 1 rfl dX10_main_43 ?_
              exact ret _ _ _ _ dX10_main_44 rfl (zi_weak hI)
            · skip
              refine zg_aload_n X 2 rfl dX10_main_31 ?_
              refine zg_iload_n X 1 rfl dX10_main_32 ?_
              refine zg_cVi (As := [.int x8]) (st := []) X ha0 rfl (by decide) rfl (t_X10_greatestInto l d L kd κ _ hI a0 ha0 x8 ) mk_X10_293 mc_X10_greatestInto mz_X10 mi_X10_greatestInto ml_X10_greatestInto (na := 1) ⟨md_X10.1, md_X10.2, by decide +kernel⟩ rfl ⟨by decide, by decide⟩ (Nat.le_of_ble_eq_true rfl) dX10_main_33 (fun v15 σ hI => ?_)
              obtain ⟨hv15, hI⟩ := hI
              refine zg_istore_n X [(2, .int v15), (3, .int x7), (0, .ref a0), (1, .int p1)] dX10_main_36 (by decide) rfl ?_
              refine zg_iinc X 1 (fun v16 => [(3, .int v16), (2, .int v15), (0, .ref a0), (1, .int p1)]) 1 dX10_main_37 rfl (by decide) (by decide) (by omega) (by omega) (fun _ => rfl) (fun v16 _ hv16 => ?_)
              refine zg_goto X 21 dX10_main_40 (by decide) ?_
              refine zg_sub [0, 1, 2, 3] rfl ?_
              exact ihLp9 _ v16 v15 hI  (by omega) (by omega)
      refine zg_sub [0, 1, 2, 3] rfl ?_
      exact Lp9 (((2147483647) - v6.toInt + 1).toNat + 1) _ v6 v5 hI  (by omega) (by omega)
    · skip
      refine zg_iconst X (-1) dX10_main_11 (by decide) (fun v17 _ hv17 => ?_)
      exact ret _ _ _ _ dX10_main_12 rfl hI
set_option maxHeartbeats 4000000 in
set_option maxRecDepth 100000 in
theorem t_X10_agree (l : Launch) (d : zD2) (L : List Nat) (kd : Nat → Nat) (κ : Int) (σ : zS) (hI : zI κ 0 L kd σ) (a0 : Nat) (ha0 : zT L kd a0 10) (p1 : Int32) : zMi l yX10_agree (Cond.code yX10_agree cX10_agree 5 (some .int) :: zWL) 7 [.ref a0, .int p1] d L kd σ (fun _ σ2 => zI κ 0 L kd σ2) := by
  refine zMi.of (own := RX10) (by decide +kernel) rfl rfl (Nat.le_of_ble_eq_true rfl) ?_
  intro p e s m args below meth c A Q X ret
  refine zg_lv (lv2 := [(0, .ref a0), (1, .int p1)]) rfl ?_
  refine zg_iload_n X 1 rfl dX10_agree_0 ?_
  refine zg_iconst X 1 dX10_agree_1 (by decide) (fun v1 _ hv1 => ?_)
  refine zg_bipush X 24 dX10_agree_2 (by decide) (fun v2 _ hv2 => ?_)
  refine zg_cSi (As := [.int p1, .int v1, .int v2]) (st := []) X (t_X10_isWithin l d L kd _ p1 v1 v2 ) mk_X10_229 mc_X10_isWithin mz_X10 ms_X10_isWithin (na := 3) ⟨md_X10.1, md_X10.2, by decide +kernel⟩ rfl ⟨by decide, by decide⟩ (Nat.le_of_ble_eq_true rfl) dX10_agree_4 (fun v3 σ2 hq => ?_)
  obtain ⟨hv3, rfl⟩ := hq
  refine zg_if_ne X 12 dX10_agree_7 (by decide) (fun c4 => ?_) (fun c4 => ?_)
  · skip
    refine zg_iconst X 0 dX10_agree_12 (by decide) (fun v5 _ hv5 => ?_)
    refine zg_istore_n X [(2, .int v5), (0, .ref a0), (1, .int p1)] dX10_agree_13 (by decide) rfl ?_
    refine zg_aload_n X 1 rfl dX10_agree_14 ?_
    refine zg_cVv (As := []) (st := []) X ha0 rfl (by decide) rfl (t_X10_tryFromNow l d L kd κ 0 _ hI a0 ha0 ) mk_X10_296 mc_X10_tryFromNow mz_X10 mi_X10_tryFromNow ml_X10_tryFromNow (na := 0) ⟨md_X10.1, md_X10.2, by decide +kernel⟩ rfl ⟨by decide, by decide⟩ (Nat.le_of_ble_eq_true rfl) dX10_agree_15 (fun σ hI => ?_)
    refine zg_iconst X 0 dX10_agree_18 (by decide) (fun v6 _ hv6 => ?_)
    refine zg_istore_n X [(3, .int v6), (2, .int v5), (0, .ref a0), (1, .int p1)] dX10_agree_19 (by decide) rfl ?_
    have Lp9 : ∀ (n : Nat) (σ : zS) (x7 : Int32) (x8 : Int32), zI κ 1 L kd σ → 0 ≤ x7.toInt ∧ x7.toInt ≤ 2147483647 → (2147483647) - x7.toInt + 1 < (n : Int) → zG d L kd A 5 p l e (k2_rm 7 (100 * 7)) s m args below meth c Q σ 20 [(3, .int x7), (2, .int x8), (0, .ref a0), (1, .int p1)] [] := by
      intro n
      induction n with
      | zero => intro σ x7 x8 hI  hxLp9 hm; exact absurd hm (by omega)
      | succ n ihLp9 =>
        intro σ x7 x8 hI  hxLp9 hmLp9
        refine zg_iload_n X 0 rfl dX10_agree_20 ?_
        refine zg_iload_n X 3 rfl dX10_agree_21 ?_
        have zx7_z10 := zb_rng x7
        have zp1_z11 := zb_rng p1
        refine zg_icmp_ge X 82 dX10_agree_22 (by decide) (fun c12 => ?_) (fun c12 => ?_)
        · skip
          refine zg_iload_n X 1 rfl dX10_agree_82 ?_
          exact ret _ _ _ _ dX10_agree_83 rfl (zi_weak hI)
        · skip
          refine zg_aload_n X 2 rfl dX10_agree_25 ?_
          refine fg_X10_26 X hI ha0 dX10_agree_26 (fun v13 _ hv13 => ?_)
          refine zg_iconst X 0 dX10_agree_29 (by decide) (fun v14 _ hv14 => ?_)
          refine zg_cVi (As := [.int v14]) (st := []) X hv13 rfl (by decide) rfl (t_X5_winnerBy l d L kd κ _ hI v13 hv13 v14 (by omega)) mk_X10_172 mc_X5_winnerBy mz_X5 mi_X5_winnerBy ml_X5_winnerBy (na := 1) ⟨md_X5.1, md_X5.2, by decide +kernel⟩ rfl ⟨by decide, by decide⟩ (Nat.le_of_ble_eq_true rfl) dX10_agree_30 (fun v15 σ hI => ?_)
          obtain ⟨hv15, hI⟩ := hI
          refine zg_istore X [(4, .int v15), (3, .int x7), (2, .int x8), (0, .ref a0), (1, .int p1)] dX10_agree_33 (by decide) rfl ?_
          refine zg_iload X 0 rfl dX10_agree_35 ?_
          refine zg_if_le X 69 dX10_agree_37 (by decide) (fun c16 => ?_) (fun c16 => ?_)
          · skip
            refine zg_aload_n X 3 rfl dX10_agree_69 ?_
            refine fg_X10_26 X hI ha0 dX10_agree_70 (fun v17 _ hv17 => ?_)
            refine zg_cVv (As := []) (st := []) X hv17 rfl (by decide) rfl (t_X5_goOn l d L kd κ _ hI v17 hv17 ) mk_X10_299 mc_X5_goOn mz_X5 mi_X5_goOn ml_X5_goOn (na := 0) ⟨md_X5.1, md_X5.2, by decide +kernel⟩ rfl ⟨by decide, by decide⟩ (Nat.le_of_ble_eq_true rfl) dX10_agree_73 (fun σ hI => ?_)
            refine zg_iinc X 1 (fun v18 => [(3, .int v18), (4, .int v15), (2, .int x8), (0, .ref a0), (1, .int p1)]) 1 dX10_agree_76 rfl (by decide) (by decide) (by omega) (by omega) (fun _ => rfl) (fun v18 _ hv18 => ?_)
            refine zg_goto X 20 dX10_agree_79 (by decide) ?_
            refine zg_sub [0, 2, 3, 4] rfl ?_
            exact ihLp9 _ v18 x8 hI  (by omega) (by omega)
          · skip
            refine zg_iload X 0 rfl dX10_agree_40 ?_
            refine zg_aload_n X 3 rfl dX10_agree_42 ?_
            refine fg_X10_26 X hI ha0 dX10_agree_43 (fun v19 _ hv19 => ?_)
            refine zg_iconst X 1 dX10_agree_46 (by decide) (fun v20 _ hv20 => ?_)
            refine zg_cVi (As := [.int v20]) (st := [.int v15]) X hv19 rfl (by decide) rfl (t_X5_winnerBy l d L kd κ _ hI v19 hv19 v20 (by omega)) mk_X10_172 mc_X5_winnerBy mz_X5 mi_X5_winnerBy ml_X5_winnerBy (na := 1) ⟨md_X5.1, md_X5.2, by decide +kernel⟩ rfl ⟨by decide, by decide⟩ (Nat.le_of_ble_eq_true rfl) dX10_agree_47 (fun v21 σ hI => ?_)
            obtain ⟨hv21, hI⟩ := hI
            refine zg_icmp_ne X 69 dX10_agree_50 (by decide) (fun c22 => ?_) (fun c22 => ?_)
            · skip
              refine zg_aload_n X 3 rfl dX10_agree_69 ?_
              refine fg_X10_26 X hI ha0 dX10_agree_70 (fun v23 _ hv23 => ?_)
              refine zg_cVv (As := []) (st := []) X hv23 rfl (by decide) rfl (t_X5_goOn l d L kd κ _ hI v23 hv23 ) mk_X10_299 mc_X5_goOn mz_X5 mi_X5_goOn ml_X5_goOn (na := 0) ⟨md_X5.1, md_X5.2, by decide +kernel⟩ rfl ⟨by decide, by decide⟩ (Nat.le_of_ble_eq_true rfl) dX10_agree_73 (fun σ hI => ?_)
              refine zg_iinc X 1 (fun v24 => [(3, .int v24), (4, .int v15), (2, .int x8), (0, .ref a0), (1, .int p1)]) 1 dX10_agree_76 rfl (by decide) (by decide) (by omega) (by omega) (fun _ => rfl) (fun v24 _ hv24 => ?_)
              refine zg_goto X 20 dX10_agree_79 (by decide) ?_
              refine zg_sub [0, 2, 3, 4] rfl ?_
              exact ihLp9 _ v24 x8 hI  (by omega) (by omega)
            · skip
              refine zg_iload X 0 rfl dX10_agree_53 ?_
              refine zg_aload_n X 3 rfl dX10_agree_55 ?_
              refine fg_X10_26 X hI ha0 dX10_agree_56 (fun v25 _ hv25 => ?_)
              refine zg_iconst X 2 dX10_agree_59 (by decide) (fun v26 _ hv26 => ?_)
              refine zg_cVi (As := [.int v26]) (st := [.int v15]) X hv25 rfl (by decide) rfl (t_X5_winnerBy l d L kd κ _ hI v25 hv25 v26 (by omega)) mk_X10_172 mc_X5_winnerBy mz_X5 mi_X5_winnerBy ml_X5_winnerBy (na := 1) ⟨md_X5.1, md_X5.2, by decide +kernel⟩ rfl ⟨by decide, by decide⟩ (Nat.le_of_ble_eq_true rfl) dX10_agree_60 (fun v27 σ hI => ?_)
              obtain ⟨hv27, hI⟩ := hI
              refine zg_icmp_ne X 69 dX10_agree_63 (by decide) (fun c28 => ?_) (fun c28 => ?_)
              · skip
                refine zg_aload_n X 3 rfl dX10_agree_69 ?_
                refine fg_X10_26 X hI ha0 dX10_agree_70 (fun v29 _ hv29 => ?_)
                refine zg_cVv (As := []) (st := []) X hv29 rfl (by decide) rfl (t_X5_goOn l d L kd κ _ hI v29 hv29 ) mk_X10_299 mc_X5_goOn mz_X5 mi_X5_goOn ml_X5_goOn (na := 0) ⟨md_X5.1, md_X5.2, by decide +kernel⟩ rfl ⟨by decide, by decide⟩ (Nat.le_of_ble_eq_true rfl) dX10_agree_73 (fun σ hI => ?_)
                refine zg_iinc X 1 (fun v30 => [(3, .int v30), (4, .int v15), (2, .int x8), (0, .ref a0), (1, .int p1)]) 1 dX10_agree_76 rfl (by decide) (by decide) (by omega) (by omega) (fun _ => rfl) (fun v30 _ hv30 => ?_)
                refine zg_goto X 20 dX10_agree_79 (by decide) ?_
                refine zg_sub [0, 2, 3, 4] rfl ?_
                exact ihLp9 _ v30 x8 hI  (by omega) (by omega)
              · skip
                refine zg_iincW X (fun v31 => [(2, .int v31), (4, .int v15), (3, .int x7), (0, .ref a0), (1, .int p1)]) 2 dX10_agree_66 rfl (by decide) (fun _ => rfl) (fun v31 _ => ?_)
                refine zg_aload_n X 3 rfl dX10_agree_69 ?_
                refine fg_X10_26 X hI ha0 dX10_agree_70 (fun v32 _ hv32 => ?_)
                refine zg_cVv (As := []) (st := []) X hv32 rfl (by decide) rfl (t_X5_goOn l d L kd κ _ hI v32 hv32 ) mk_X10_299 mc_X5_goOn mz_X5 mi_X5_goOn ml_X5_goOn (na := 0) ⟨md_X5.1, md_X5.2, by decide +kernel⟩ rfl ⟨by decide, by decide⟩ (Nat.le_of_ble_eq_true rfl) dX10_agree_73 (fun σ hI => ?_)
                refine zg_iinc X 1 (fun v33 => [(3, .int v33), (2, .int v31), (4, .int v15), (0, .ref a0), (1, .int p1)]) 2 dX10_agree_76 rfl (by decide) (by decide) (by omega) (by omega) (fun _ => rfl) (fun v33 _ hv33 => ?_)
                refine zg_goto X 20 dX10_agree_79 (by decide) ?_
                refine zg_sub [0, 1, 3, 4] rfl ?_
                exact ihLp9 _ v33 v31 hI  (by omega) (by omega)
    refine zg_sub [0, 1, 2, 3] rfl ?_
    exact Lp9 (((2147483647) - v6.toInt + 1).toNat + 1) _ v6 v5 hI  (by omega) (by omega)
  · skip
    refine zg_iconst X (-1) dX10_agree_10 (by decide) (fun v34 _ hv34 => ?_)
    exact ret _ _ _ _ dX10_agree_11 rfl hI
set_option maxHeartbeats 4000000 in
set_option maxRecDepth 100000 in
theorem t_X10_driest (l : Launch) (d : zD2) (L : List Nat) (kd : Nat → Nat) (κ : Int) (σ : zS) (hI : zI κ 0 L kd σ) (a0 : Nat) (ha0 : zT L kd a0 10) (p1 : Int32) (p2 : Int32) : zMi l yX10_driest (Cond.code yX10_driest cX10_driest 6 (some .int) :: zWL) 7 [.ref a0, .int p1, .int p2] d L kd σ (fun _ σ2 => zI κ 0 L kd σ2) := by
  refine zMi.of (own := RX10) (by decide +kernel) rfl rfl (Nat.le_of_ble_eq_true rfl) ?_
  intro p e s m args below meth c A Q X ret
  refine zg_lv (lv2 := [(0, .ref a0), (1, .int p1), (2, .int p2)]) rfl ?_
  refine zg_aload_n X 0 rfl dX10_driest_0 ?_
  refine zg_cVi (As := []) (st := []) X ha0 rfl (by decide) rfl (t_X10_hasMouth l d L kd κ 0 _ hI a0 ha0 ) mk_X10_277 mc_X10_hasMouth mz_X10 mi_X10_hasMouth ml_X10_hasMouth (na := 0) ⟨md_X10.1, md_X10.2, by decide +kernel⟩ rfl ⟨by decide, by decide⟩ (Nat.le_of_ble_eq_true rfl) dX10_driest_1 (fun v1 σ hI => ?_)
  obtain ⟨hv1, hI⟩ := hI
  refine zg_if_eq X 26 dX10_driest_4 (by decide) (fun c2 => ?_) (fun c2 => ?_)
  · skip
    refine zg_iconst X (-1) dX10_driest_26 (by decide) (fun v3 _ hv3 => ?_)
    exact ret _ _ _ _ dX10_driest_27 rfl hI
  · skip
    refine zg_iload_n X 1 rfl dX10_driest_7 ?_
    refine zg_iconst X 1 dX10_driest_8 (by decide) (fun v4 _ hv4 => ?_)
    refine zg_bipush X 24 dX10_driest_9 (by decide) (fun v5 _ hv5 => ?_)
    refine zg_cSi (As := [.int p1, .int v4, .int v5]) (st := []) X (t_X10_isWithin l d L kd _ p1 v4 v5 ) mk_X10_229 mc_X10_isWithin mz_X10 ms_X10_isWithin (na := 3) ⟨md_X10.1, md_X10.2, by decide +kernel⟩ rfl ⟨by decide, by decide⟩ (Nat.le_of_ble_eq_true rfl) dX10_driest_11 (fun v6 σ2 hq => ?_)
    obtain ⟨hv6, rfl⟩ := hq
    refine zg_if_eq X 26 dX10_driest_14 (by decide) (fun c7 => ?_) (fun c7 => ?_)
    · skip
      refine zg_iconst X (-1) dX10_driest_26 (by decide) (fun v8 _ hv8 => ?_)
      exact ret _ _ _ _ dX10_driest_27 rfl hI
    · skip
      refine zg_iload_n X 2 rfl dX10_driest_17 ?_
      refine zg_iconst X 0 dX10_driest_18 (by decide) (fun v9 _ hv9 => ?_)
      refine zg_iconst X 1 dX10_driest_19 (by decide) (fun v10 _ hv10 => ?_)
      refine zg_cSi (As := [.int p2, .int v9, .int v10]) (st := []) X (t_X10_isWithin l d L kd _ p2 v9 v10 ) mk_X10_229 mc_X10_isWithin mz_X10 ms_X10_isWithin (na := 3) ⟨md_X10.1, md_X10.2, by decide +kernel⟩ rfl ⟨by decide, by decide⟩ (Nat.le_of_ble_eq_true rfl) dX10_driest_20 (fun v11 σ2 hq => ?_)
      obtain ⟨hv11, rfl⟩ := hq
      refine zg_if_ne X 28 dX10_driest_23 (by decide) (fun c12 => ?_) (fun c12 => ?_)
      · skip
        refine zg_iconst X 0 dX10_driest_28 (by decide) (fun v13 _ hv13 => ?_)
        refine zg_istore_n X [(3, .int v13), (0, .ref a0), (1, .int p1), (2, .int p2)] dX10_driest_29 (by decide) rfl ?_
        refine zg_aload_n X 1 rfl dX10_driest_30 ?_
        refine zg_cVv (As := []) (st := []) X ha0 rfl (by decide) rfl (t_X10_tryFromNow l d L kd κ 0 _ hI a0 ha0 ) mk_X10_296 mc_X10_tryFromNow mz_X10 mi_X10_tryFromNow ml_X10_tryFromNow (na := 0) ⟨md_X10.1, md_X10.2, by decide +kernel⟩ rfl ⟨by decide, by decide⟩ (Nat.le_of_ble_eq_true rfl) dX10_driest_31 (fun σ hI => ?_)
        refine zg_aload_n X 1 rfl dX10_driest_34 ?_
        refine zg_cVi (As := []) (st := []) X ha0 rfl (by decide) rfl (t_X10_mouthFlow l d L kd κ 1 _ hI a0 ha0 ) mk_X10_191 mc_X10_mouthFlow mz_X10 mi_X10_mouthFlow ml_X10_mouthFlow (na := 0) ⟨md_X10.1, md_X10.2, by decide +kernel⟩ rfl ⟨by decide, by decide⟩ (Nat.le_of_ble_eq_true rfl) dX10_driest_35 (fun v14 σ hI => ?_)
        refine zg_istore X [(4, .int v14), (3, .int v13), (0, .ref a0), (1, .int p1), (2, .int p2)] dX10_driest_38 (by decide) rfl ?_
        refine zg_iconst X 1 dX10_driest_40 (by decide) (fun v15 _ hv15 => ?_)
        refine zg_istore X [(5, .int v15), (4, .int v14), (3, .int v13), (0, .ref a0), (1, .int p1), (2, .int p2)] dX10_driest_41 (by decide) rfl ?_
        have Lp19 : ∀ (n : Nat) (σ : zS) (x16 : Int32) (x17 : Int32) (x18 : Int32), zI κ 1 L kd σ → 1 ≤ x16.toInt ∧ x16.toInt ≤ 2147483647 → (2147483647) - x16.toInt + 1 < (n : Int) → zG d L kd A 6 p l e (k2_rm 7 (100 * 7)) s m args below meth c Q σ 43 [(5, .int x16), (4, .int x17), (3, .int x18), (0, .ref a0), (1, .int p1), (2, .int p2)] [] := by
          intro n
          induction n with
          | zero => intro σ x16 x17 x18 hI  hxLp19 hm; exact absurd hm (by omega)
          | succ n ihLp19 =>
            intro σ x16 x17 x18 hI  hxLp19 hmLp19
            refine zg_iload X 0 rfl dX10_driest_43 ?_
            refine zg_iload_n X 4 rfl dX10_driest_45 ?_
            have zx16_z20 := zb_rng x16
            have zp1_z21 := zb_rng p1
            refine zg_icmp_ge X 80 dX10_driest_46 (by decide) (fun c22 => ?_) (fun c22 => ?_)
            · skip
              refine zg_iload_n X 5 rfl dX10_driest_80 ?_
              refine zg_if_ne X 88 dX10_driest_81 (by decide) (fun c23 => ?_) (fun c23 => ?_)
              · skip
                refine zg_iload X 1 rfl dX10_driest_88 ?_
                exact ret _ _ _ _ dX10_driest_90 rfl (zi_weak hI)
              · skip
                refine zg_iload_n X 2 rfl dX10_driest_84 ?_
                refine zg_goto X 90 dX10_driest_85 (by decide) ?_
                exact ret _ _ _ _ dX10_driest_90 rfl (zi_weak hI)
            · skip
              refine zg_aload_n X 3 rfl dX10_driest_49 ?_
              refine fg_X10_26 X hI ha0 dX10_driest_50 (fun v24 _ hv24 => ?_)
              refine zg_cVv (As := []) (st := []) X hv24 rfl (by decide) rfl (t_X5_goOn l d L kd κ _ hI v24 hv24 ) mk_X10_299 mc_X5_goOn mz_X5 mi_X5_goOn ml_X5_goOn (na := 0) ⟨md_X5.1, md_X5.2, by decide +kernel⟩ rfl ⟨by decide, by decide⟩ (Nat.le_of_ble_eq_true rfl) dX10_driest_53 (fun σ hI => ?_)
              refine zg_aload_n X 3 rfl dX10_driest_56 ?_
              refine zg_cVi (As := []) (st := []) X ha0 rfl (by decide) rfl (t_X10_mouthFlow l d L kd κ 1 _ hI a0 ha0 ) mk_X10_191 mc_X10_mouthFlow mz_X10 mi_X10_mouthFlow ml_X10_mouthFlow (na := 0) ⟨md_X10.1, md_X10.2, by decide +kernel⟩ rfl ⟨by decide, by decide⟩ (Nat.le_of_ble_eq_true rfl) dX10_driest_57 (fun v25 σ hI => ?_)
              refine zg_iload X 1 rfl dX10_driest_60 ?_
              have zv25_z26 := zb_rng v25
              have zx17_z27 := zb_rng x17
              refine zg_icmp_ge X 74 dX10_driest_62 (by decide) (fun c28 => ?_) (fun c28 => ?_)
              · skip
                refine zg_iinc X 1 (fun v29 => [(5, .int v29), (4, .int x17), (3, .int x18), (0, .ref a0), (1, .int p1), (2, .int p2)]) 0 dX10_driest_74 rfl (by decide) (by decide) (by omega) (by omega) (fun _ => rfl) (fun v29 _ hv29 => ?_)
                refine zg_goto X 43 dX10_driest_77 (by decide) ?_
                refine zg_sub [0, 1, 2, 3, 4, 5] rfl ?_
                exact ihLp19 _ v29 x17 x18 hI  (by omega) (by omega)
              · skip
                refine zg_aload_n X 3 rfl dX10_driest_65 ?_
                refine zg_cVi (As := []) (st := []) X ha0 rfl (by decide) rfl (t_X10_mouthFlow l d L kd κ 1 _ hI a0 ha0 ) mk_X10_191 mc_X10_mouthFlow mz_X10 mi_X10_mouthFlow ml_X10_mouthFlow (na := 0) ⟨md_X10.1, md_X10.2, by decide +kernel⟩ rfl ⟨by decide, by decide⟩ (Nat.le_of_ble_eq_true rfl) dX10_driest_66 (fun v30 σ hI => ?_)
                refine zg_istore X [(4, .int v30), (5, .int x16), (3, .int x18), (0, .ref a0), (1, .int p1), (2, .int p2)] dX10_driest_69 (by decide) rfl ?_
                refine zg_iload X 1 rfl dX10_driest_71 ?_
                refine zg_istore_n X [(3, .int x16), (4, .int v30), (5, .int x16), (0, .ref a0), (1, .int p1), (2, .int p2)] dX10_driest_73 (by decide) rfl ?_
                refine zg_iinc X 1 (fun v31 => [(5, .int v31), (3, .int x16), (4, .int v30), (0, .ref a0), (1, .int p1), (2, .int p2)]) 2 dX10_driest_74 rfl (by decide) (by decide) (by omega) (by omega) (fun _ => rfl) (fun v31 _ hv31 => ?_)
                refine zg_goto X 43 dX10_driest_77 (by decide) ?_
                refine zg_sub [0, 2, 1, 3, 4, 5] rfl ?_
                exact ihLp19 _ v31 v30 x16 hI  (by omega) (by omega)
        refine zg_sub [0, 1, 2, 3, 4, 5] rfl ?_
        exact Lp19 (((2147483647) - v15.toInt + 1).toNat + 1) _ v15 v14 v13 hI  (by omega) (by omega)
      · skip
        refine zg_iconst X (-1) dX10_driest_26 (by decide) (fun v32 _ hv32 => ?_)
        exact ret _ _ _ _ dX10_driest_27 rfl hI
set_option maxHeartbeats 4000000 in
set_option maxRecDepth 100000 in
theorem t_X10_reign (l : Launch) (d : zD2) (L : List Nat) (kd : Nat → Nat) (κ : Int) (σ : zS) (hI : zI κ 0 L kd σ) (a0 : Nat) (ha0 : zT L kd a0 10) (p1 : Int32) (p2 : Int32) (p3 : Int32) : zMi l yX10_reign (Cond.code yX10_reign cX10_reign 6 (some .int) :: zWL) 7 [.ref a0, .int p1, .int p2, .int p3] d L kd σ (fun _ σ2 => zI κ 0 L kd σ2) := by
  refine zMi.of (own := RX10) (by decide +kernel) rfl rfl (Nat.le_of_ble_eq_true rfl) ?_
  intro p e s m args below meth c A Q X ret
  refine zg_lv (lv2 := [(0, .ref a0), (1, .int p1), (2, .int p2), (3, .int p3)]) rfl ?_
  refine zg_aload_n X 0 rfl dX10_reign_0 ?_
  refine zg_iload_n X 1 rfl dX10_reign_1 ?_
  refine zg_cVi (As := [.int p1]) (st := []) X ha0 rfl (by decide) rfl (t_X10_isLaw l d L kd κ 0 _ hI a0 ha0 p1 ) mk_X10_169 mc_X10_isLaw mz_X10 mi_X10_isLaw ml_X10_isLaw (na := 1) ⟨md_X10.1, md_X10.2, by decide +kernel⟩ rfl ⟨by decide, by decide⟩ (Nat.le_of_ble_eq_true rfl) dX10_reign_2 (fun v1 σ hI => ?_)
  obtain ⟨hv1, hI⟩ := hI
  refine zg_if_eq X 27 dX10_reign_5 (by decide) (fun c2 => ?_) (fun c2 => ?_)
  · skip
    refine zg_iconst X (-1) dX10_reign_27 (by decide) (fun v3 _ hv3 => ?_)
    exact ret _ _ _ _ dX10_reign_28 rfl hI
  · skip
    refine zg_iload_n X 2 rfl dX10_reign_8 ?_
    refine zg_iconst X 1 dX10_reign_9 (by decide) (fun v4 _ hv4 => ?_)
    refine zg_bipush X 24 dX10_reign_10 (by decide) (fun v5 _ hv5 => ?_)
    refine zg_cSi (As := [.int p2, .int v4, .int v5]) (st := []) X (t_X10_isWithin l d L kd _ p2 v4 v5 ) mk_X10_229 mc_X10_isWithin mz_X10 ms_X10_isWithin (na := 3) ⟨md_X10.1, md_X10.2, by decide +kernel⟩ rfl ⟨by decide, by decide⟩ (Nat.le_of_ble_eq_true rfl) dX10_reign_12 (fun v6 σ2 hq => ?_)
    obtain ⟨hv6, rfl⟩ := hq
    refine zg_if_eq X 27 dX10_reign_15 (by decide) (fun c7 => ?_) (fun c7 => ?_)
    · skip
      refine zg_iconst X (-1) dX10_reign_27 (by decide) (fun v8 _ hv8 => ?_)
      exact ret _ _ _ _ dX10_reign_28 rfl hI
    · skip
      refine zg_iload_n X 3 rfl dX10_reign_18 ?_
      refine zg_iconst X 0 dX10_reign_19 (by decide) (fun v9 _ hv9 => ?_)
      refine zg_iconst X 1 dX10_reign_20 (by decide) (fun v10 _ hv10 => ?_)
      refine zg_cSi (As := [.int p3, .int v9, .int v10]) (st := []) X (t_X10_isWithin l d L kd _ p3 v9 v10 ) mk_X10_229 mc_X10_isWithin mz_X10 ms_X10_isWithin (na := 3) ⟨md_X10.1, md_X10.2, by decide +kernel⟩ rfl ⟨by decide, by decide⟩ (Nat.le_of_ble_eq_true rfl) dX10_reign_21 (fun v11 σ2 hq => ?_)
      obtain ⟨hv11, rfl⟩ := hq
      refine zg_if_ne X 29 dX10_reign_24 (by decide) (fun c12 => ?_) (fun c12 => ?_)
      · skip
        refine zg_aload_n X 0 rfl dX10_reign_29 ?_
        refine fg_X10_63 X hI ha0 dX10_reign_30 (fun v13 _ hv13 => ?_)
        refine zg_iconst X 0 dX10_reign_33 (by decide) (fun v14 _ hv14 => ?_)
        refine zg_cSv (As := [.ref v13, .int v14]) (st := []) X (t_fill l d L kd κ 0 _ hI 53 v13 hv13 v14 rfl (fun _ => rfl) (by decide)) mk_X10_302 mc_J7_fill_53178 mz_J7 ms_J7_fill_53178 (na := 2) ⟨md_J7.1, md_J7.2, by decide +kernel⟩ rfl ⟨by decide, by decide⟩ (Nat.le_of_ble_eq_true rfl) dX10_reign_34 (fun σ hI => ?_)
        refine zg_aload_n X 0 rfl dX10_reign_37 ?_
        refine zg_cVv (As := []) (st := []) X ha0 rfl (by decide) rfl (t_X10_tryFromNow l d L kd κ 0 _ hI a0 ha0 ) mk_X10_296 mc_X10_tryFromNow mz_X10 mi_X10_tryFromNow ml_X10_tryFromNow (na := 0) ⟨md_X10.1, md_X10.2, by decide +kernel⟩ rfl ⟨by decide, by decide⟩ (Nat.le_of_ble_eq_true rfl) dX10_reign_38 (fun σ hI => ?_)
        refine zg_iconst X 0 dX10_reign_41 (by decide) (fun v15 _ hv15 => ?_)
        refine zg_istore X [(4, .int v15), (0, .ref a0), (1, .int p1), (2, .int p2), (3, .int p3)] dX10_reign_42 (by decide) rfl ?_
        have Lp17 : ∀ (n : Nat) (σ : zS) (x16 : Int32), zI κ 1 L kd σ → 0 ≤ x16.toInt ∧ x16.toInt ≤ 2147483647 → (2147483647) - x16.toInt + 1 < (n : Int) → zG d L kd A 6 p l e (k2_rm 7 (100 * 7)) s m args below meth c Q σ 44 [(4, .int x16), (0, .ref a0), (1, .int p1), (2, .int p2), (3, .int p3)] [] := by
          intro n
          induction n with
          | zero => intro σ x16 hI  hxLp17 hm; exact absurd hm (by omega)
          | succ n ihLp17 =>
            intro σ x16 hI  hxLp17 hmLp17
            refine zg_iload X 0 rfl dX10_reign_44 ?_
            refine zg_iload_n X 3 rfl dX10_reign_46 ?_
            have zx16_z18 := zb_rng x16
            have zp2_z19 := zb_rng p2
            refine zg_icmp_ge X 89 dX10_reign_47 (by decide) (fun c20 => ?_) (fun c20 => ?_)
            · skip
              refine zg_iload_n X 4 rfl dX10_reign_89 ?_
              refine zg_if_ne X 100 dX10_reign_90 (by decide) (fun c21 => ?_) (fun c21 => ?_)
              · skip
                refine zg_aload_n X 1 rfl dX10_reign_100 ?_
                refine zg_cVi (As := []) (st := []) X ha0 rfl (by decide) rfl (t_X10_mostTallied l d L kd κ 1 _ hI a0 ha0 ) mk_X10_311 mc_X10_mostTallied mz_X10 mi_X10_mostTallied ml_X10_mostTallied (na := 0) ⟨md_X10.1, md_X10.2, by decide +kernel⟩ rfl ⟨by decide, by decide⟩ (Nat.le_of_ble_eq_true rfl) dX10_reign_101 (fun v22 σ hI => ?_)
                obtain ⟨hv22, hI⟩ := hI
                exact ret _ _ _ _ dX10_reign_104 rfl (zi_weak hI)
              · skip
                refine zg_aload_n X 1 rfl dX10_reign_93 ?_
                refine zg_cVi (As := []) (st := []) X ha0 rfl (by decide) rfl (t_X10_tallied l d L kd κ 1 _ hI a0 ha0 ) mk_X10_308 mc_X10_tallied mz_X10 mi_X10_tallied ml_X10_tallied (na := 0) ⟨md_X10.1, md_X10.2, by decide +kernel⟩ rfl ⟨by decide, by decide⟩ (Nat.le_of_ble_eq_true rfl) dX10_reign_94 (fun v23 σ hI => ?_)
                refine zg_goto X 104 dX10_reign_97 (by decide) ?_
                exact ret _ _ _ _ dX10_reign_104 rfl (zi_weak hI)
            · skip
              refine zg_aload_n X 1 rfl dX10_reign_50 ?_
              refine fg_X10_26 X hI ha0 dX10_reign_51 (fun v24 _ hv24 => ?_)
              refine zg_iload_n X 2 rfl dX10_reign_54 ?_
              refine zg_cVi (As := [.int p1]) (st := []) X hv24 rfl (by decide) rfl (t_X5_winnerBy l d L kd κ _ hI v24 hv24 p1 (by omega)) mk_X10_172 mc_X5_winnerBy mz_X5 mi_X5_winnerBy ml_X5_winnerBy (na := 1) ⟨md_X5.1, md_X5.2, by decide +kernel⟩ rfl ⟨by decide, by decide⟩ (Nat.le_of_ble_eq_true rfl) dX10_reign_55 (fun v25 σ hI => ?_)
              obtain ⟨hv25, hI⟩ := hI
              refine zg_istore X [(5, .int v25), (4, .int x16), (0, .ref a0), (1, .int p1), (2, .int p2), (3, .int p3)] dX10_reign_58 (by decide) rfl ?_
              refine zg_iload X 0 rfl dX10_reign_60 ?_
              refine zg_if_le X 76 dX10_reign_62 (by decide) (fun c26 => ?_) (fun c26 => ?_)
              · skip
                refine zg_aload_n X 2 rfl dX10_reign_76 ?_
                refine fg_X10_26 X hI ha0 dX10_reign_77 (fun v27 _ hv27 => ?_)
                refine zg_cVv (As := []) (st := []) X hv27 rfl (by decide) rfl (t_X5_goOn l d L kd κ _ hI v27 hv27 ) mk_X10_299 mc_X5_goOn mz_X5 mi_X5_goOn ml_X5_goOn (na := 0) ⟨md_X5.1, md_X5.2, by decide +kernel⟩ rfl ⟨by decide, by decide⟩ (Nat.le_of_ble_eq_true rfl) dX10_reign_80 (fun σ hI => ?_)
                refine zg_iinc X 1 (fun v28 => [(4, .int v28), (5, .int v25), (0, .ref a0), (1, .int p1), (2, .int p2), (3, .int p3)]) 1 dX10_reign_83 rfl (by decide) (by decide) (by omega) (by omega) (fun _ => rfl) (fun v28 _ hv28 => ?_)
                refine zg_goto X 44 dX10_reign_86 (by decide) ?_
                refine zg_sub [0, 2, 3, 4, 5] rfl ?_
                exact ihLp17 _ v28 hI  (by omega) (by omega)
              · skip
                refine zg_aload_n X 2 rfl dX10_reign_65 ?_
                refine fg_X10_63 X hI ha0 dX10_reign_66 (fun v29 _ hv29 => ?_)
                refine zg_iload X 0 rfl dX10_reign_69 ?_
                refine zg_dup2 X dX10_reign_71 rfl rfl ?_
                refine ag_53 X hI hv29 (by omega) (by omega) dX10_reign_72 (fun v30 _ _ => ?_)
                refine zg_iconst X 1 dX10_reign_73 (by decide) (fun v31 _ hv31 => ?_)
                refine zg_iaddW X dX10_reign_74 (fun v32 _ => ?_)
                refine as_53 X hI hv29 (by omega) (by omega) dX10_reign_75 (fun s33 es33 hI => ?_)
                refine zg_aload_n X 2 rfl dX10_reign_76 ?_
                refine fg_X10_26 X hI ha0 dX10_reign_77 (fun v34 _ hv34 => ?_)
                refine zg_cVv (As := []) (st := []) X hv34 rfl (by decide) rfl (t_X5_goOn l d L kd κ _ hI v34 hv34 ) mk_X10_299 mc_X5_goOn mz_X5 mi_X5_goOn ml_X5_goOn (na := 0) ⟨md_X5.1, md_X5.2, by decide +kernel⟩ rfl ⟨by decide, by decide⟩ (Nat.le_of_ble_eq_true rfl) dX10_reign_80 (fun σ hI => ?_)
                refine zg_iinc X 1 (fun v35 => [(4, .int v35), (5, .int v25), (0, .ref a0), (1, .int p1), (2, .int p2), (3, .int p3)]) 1 dX10_reign_83 rfl (by decide) (by decide) (by omega) (by omega) (fun _ => rfl) (fun v35 _ hv35 => ?_)
                refine zg_goto X 44 dX10_reign_86 (by decide) ?_
                refine zg_sub [0, 2, 3, 4, 5] rfl ?_
                exact ihLp17 _ v35 hI  (by omega) (by omega)
        refine zg_sub [0, 1, 2, 3, 4] rfl ?_
        exact Lp17 (((2147483647) - v15.toInt + 1).toNat + 1) _ v15 hI  (by omega) (by omega)
      · skip
        refine zg_iconst X (-1) dX10_reign_27 (by decide) (fun v36 _ hv36 => ?_)
        exact ret _ _ _ _ dX10_reign_28 rfl hI
set_option maxHeartbeats 4000000 in
set_option maxRecDepth 100000 in
theorem t_X10_when (l : Launch) (d : zD2) (L : List Nat) (kd : Nat → Nat) (κ : Int) (σ : zS) (hI : zI κ 0 L kd σ) (a0 : Nat) (ha0 : zT L kd a0 10) (p1 : Int32) : zMi l yX10_when (Cond.code yX10_when cX10_when 3 (some .int) :: zWL) 7 [.ref a0, .int p1] d L kd σ (fun _ σ2 => zI κ 0 L kd σ2) := by
  refine zMi.of (own := RX10) (by decide +kernel) rfl rfl (Nat.le_of_ble_eq_true rfl) ?_
  intro p e s m args below meth c A Q X ret
  refine zg_lv (lv2 := [(0, .ref a0), (1, .int p1)]) rfl ?_
  refine zg_aload_n X 0 rfl dX10_when_0 ?_
  refine zg_cVv (As := []) (st := []) X ha0 rfl (by decide) rfl (t_X10_look l d L kd κ 0 _ hI a0 ha0 ) mk_X10_113 mc_X10_look mz_X10 mi_X10_look ml_X10_look (na := 0) ⟨md_X10.1, md_X10.2, by decide +kernel⟩ rfl ⟨by decide, by decide⟩ (Nat.le_of_ble_eq_true rfl) dX10_when_1 (fun σ hI => ?_)
  refine zg_aload_n X 0 rfl dX10_when_4 ?_
  refine fg_X10_34 X hI ha0 dX10_when_5 (fun v1 _ hv1 => ?_)
  refine zg_iload_n X 1 rfl dX10_when_8 ?_
  refine zg_cVi (As := [.int p1]) (st := []) X hv1 rfl (by decide) rfl (t_X6_isSource l d L kd κ 1 _ hI v1 hv1 p1 ) mk_X10_146 mc_X6_isSource mz_X6 mi_X6_isSource ml_X6_isSource (na := 1) ⟨md_X6.1, md_X6.2, by decide +kernel⟩ rfl ⟨by decide, by decide⟩ (Nat.le_of_ble_eq_true rfl) dX10_when_9 (fun v2 σ hI => ?_)
  obtain ⟨hv2, hI⟩ := hI
  refine zg_if_ne X 17 dX10_when_12 (by decide) (fun c3 => ?_) (fun c3 => ?_)
  · skip
    refine zg_aload_n X 0 rfl dX10_when_17 ?_
    refine zg_cVv (As := []) (st := []) X ha0 rfl (by decide) rfl (t_X10_tryFromNow l d L kd κ 1 _ hI a0 ha0 ) mk_X10_296 mc_X10_tryFromNow mz_X10 mi_X10_tryFromNow ml_X10_tryFromNow (na := 0) ⟨md_X10.1, md_X10.2, by decide +kernel⟩ rfl ⟨by decide, by decide⟩ (Nat.le_of_ble_eq_true rfl) dX10_when_18 (fun σ hI => ?_)
    refine zg_iconst X 1 dX10_when_21 (by decide) (fun v4 _ hv4 => ?_)
    refine zg_istore_n X [(2, .int v4), (0, .ref a0), (1, .int p1)] dX10_when_22 (by decide) rfl ?_
    have Lp6 : ∀ (n : Nat) (σ : zS) (x5 : Int32), zI κ 1 L kd σ → 1 ≤ x5.toInt ∧ x5.toInt ≤ 61 → (61) - x5.toInt + 1 < (n : Int) → zG d L kd A 3 p l e (k2_rm 7 (100 * 7)) s m args below meth c Q σ 23 [(2, .int x5), (0, .ref a0), (1, .int p1)] [] := by
      intro n
      induction n with
      | zero => intro σ x5 hI  hxLp6 hm; exact absurd hm (by omega)
      | succ n ihLp6 =>
        intro σ x5 hI  hxLp6 hmLp6
        refine zg_iload_n X 0 rfl dX10_when_23 ?_
        refine zg_bipush X 60 dX10_when_24 (by decide) (fun v7 _ hv7 => ?_)
        refine zg_icmp_gt X 65 dX10_when_26 (by decide) (fun c8 => ?_) (fun c8 => ?_)
        · skip
          refine zg_bipush X (-2) dX10_when_65 (by decide) (fun v9 _ hv9 => ?_)
          exact ret _ _ _ _ dX10_when_67 rfl (zi_weak hI)
        · skip
          refine zg_aload_n X 1 rfl dX10_when_29 ?_
          refine fg_X10_26 X hI ha0 dX10_when_30 (fun v10 _ hv10 => ?_)
          refine zg_cVv (As := []) (st := []) X hv10 rfl (by decide) rfl (t_X5_goOn l d L kd κ _ hI v10 hv10 ) mk_X10_299 mc_X5_goOn mz_X5 mi_X5_goOn ml_X5_goOn (na := 0) ⟨md_X5.1, md_X5.2, by decide +kernel⟩ rfl ⟨by decide, by decide⟩ (Nat.le_of_ble_eq_true rfl) dX10_when_33 (fun σ hI => ?_)
          refine zg_aload_n X 1 rfl dX10_when_36 ?_
          refine fg_X10_56 X hI ha0 dX10_when_37 (fun v11 _ hv11 => ?_)
          refine fg_X10_149 X hI hv11 dX10_when_40 (fun v12 _ hv12 => ?_)
          refine zg_iload_n X 2 rfl dX10_when_43 ?_
          refine ag_23 X hI hv12 (by omega) (by omega) dX10_when_44 (fun v13 _ _ => ?_)
          refine zg_aload_n X 1 rfl dX10_when_45 ?_
          refine fg_X10_52 X hI ha0 dX10_when_46 (fun v14 _ hv14 => ?_)
          refine fg_X10_149 X hI hv14 dX10_when_49 (fun v15 _ hv15 => ?_)
          refine zg_iload_n X 2 rfl dX10_when_52 ?_
          refine ag_23 X hI hv15 (by omega) (by omega) dX10_when_53 (fun v16 _ _ => ?_)
          have zv13_z17 := zb_rng v13
          have zv16_z18 := zb_rng v16
          refine zg_icmp_le X 59 dX10_when_54 (by decide) (fun c19 => ?_) (fun c19 => ?_)
          · skip
            refine zg_iinc X 1 (fun v20 => [(2, .int v20), (0, .ref a0), (1, .int p1)]) 0 dX10_when_59 rfl (by decide) (by decide) (by omega) (by omega) (fun _ => rfl) (fun v20 _ hv20 => ?_)
            refine zg_goto X 23 dX10_when_62 (by decide) ?_
            refine zg_sub [0, 1, 2] rfl ?_
            exact ihLp6 _ v20 hI  (by omega) (by omega)
          · skip
            refine zg_iload_n X 0 rfl dX10_when_57 ?_
            exact ret _ _ _ _ dX10_when_58 rfl (zi_weak hI)
    refine zg_sub [0, 1, 2] rfl ?_
    exact Lp6 (((61) - v4.toInt + 1).toNat + 1) _ v4 hI  (by omega) (by omega)
  · skip
    refine zg_iconst X (-1) dX10_when_15 (by decide) (fun v21 _ hv21 => ?_)
    exact ret _ _ _ _ dX10_when_16 rfl (zi_weak hI)
set_option maxHeartbeats 4000000 in
set_option maxRecDepth 100000 in
theorem t_X10_then (l : Launch) (d : zD2) (L : List Nat) (kd : Nat → Nat) (κ : Int) (σ : zS) (hI : zI κ 0 L kd σ) (a0 : Nat) (ha0 : zT L kd a0 10) (p1 : Int32) (p2 : Int32) (p3 : Int32) : zMi l yX10_then (Cond.code yX10_then cX10_then 4 (some .int) :: zWL) 7 [.ref a0, .int p1, .int p2, .int p3] d L kd σ (fun _ σ2 => zI κ 0 L kd σ2) := by
  refine zMi.of (own := RX10) (by decide +kernel) rfl rfl (Nat.le_of_ble_eq_true rfl) ?_
  intro p e s m args below meth c A Q X ret
  refine zg_lv (lv2 := [(0, .ref a0), (1, .int p1), (2, .int p2), (3, .int p3)]) rfl ?_
  refine zg_aload_n X 0 rfl dX10_then_0 ?_
  refine zg_cVv (As := []) (st := []) X ha0 rfl (by decide) rfl (t_X10_look l d L kd κ 0 _ hI a0 ha0 ) mk_X10_113 mc_X10_look mz_X10 mi_X10_look ml_X10_look (na := 0) ⟨md_X10.1, md_X10.2, by decide +kernel⟩ rfl ⟨by decide, by decide⟩ (Nat.le_of_ble_eq_true rfl) dX10_then_1 (fun σ hI => ?_)
  refine zg_aload_n X 0 rfl dX10_then_4 ?_
  refine fg_X10_34 X hI ha0 dX10_then_5 (fun v1 _ hv1 => ?_)
  refine zg_iload_n X 1 rfl dX10_then_8 ?_
  refine zg_cVi (As := [.int p1]) (st := []) X hv1 rfl (by decide) rfl (t_X6_isSource l d L kd κ 1 _ hI v1 hv1 p1 ) mk_X10_146 mc_X6_isSource mz_X6 mi_X6_isSource ml_X6_isSource (na := 1) ⟨md_X6.1, md_X6.2, by decide +kernel⟩ rfl ⟨by decide, by decide⟩ (Nat.le_of_ble_eq_true rfl) dX10_then_9 (fun v2 σ hI => ?_)
  obtain ⟨hv2, hI⟩ := hI
  refine zg_if_eq X 34 dX10_then_12 (by decide) (fun c3 => ?_) (fun c3 => ?_)
  · skip
    refine zg_iconst X (-1) dX10_then_34 (by decide) (fun v4 _ hv4 => ?_)
    exact ret _ _ _ _ dX10_then_35 rfl (zi_weak hI)
  · skip
    refine zg_iload_n X 2 rfl dX10_then_15 ?_
    refine zg_iconst X 0 dX10_then_16 (by decide) (fun v5 _ hv5 => ?_)
    refine zg_bipush X 60 dX10_then_17 (by decide) (fun v6 _ hv6 => ?_)
    refine zg_cSi (As := [.int p2, .int v5, .int v6]) (st := []) X (t_X10_isWithin l d L kd _ p2 v5 v6 ) mk_X10_229 mc_X10_isWithin mz_X10 ms_X10_isWithin (na := 3) ⟨md_X10.1, md_X10.2, by decide +kernel⟩ rfl ⟨by decide, by decide⟩ (Nat.le_of_ble_eq_true rfl) dX10_then_19 (fun v7 σ2 hq => ?_)
    obtain ⟨hv7, rfl⟩ := hq
    refine zg_if_eq X 34 dX10_then_22 (by decide) (fun c8 => ?_) (fun c8 => ?_)
    · skip
      refine zg_iconst X (-1) dX10_then_34 (by decide) (fun v9 _ hv9 => ?_)
      exact ret _ _ _ _ dX10_then_35 rfl (zi_weak hI)
    · skip
      refine zg_iload_n X 3 rfl dX10_then_25 ?_
      refine zg_iconst X 0 dX10_then_26 (by decide) (fun v10 _ hv10 => ?_)
      refine zg_iconst X 1 dX10_then_27 (by decide) (fun v11 _ hv11 => ?_)
      refine zg_cSi (As := [.int p3, .int v10, .int v11]) (st := []) X (t_X10_isWithin l d L kd _ p3 v10 v11 ) mk_X10_229 mc_X10_isWithin mz_X10 ms_X10_isWithin (na := 3) ⟨md_X10.1, md_X10.2, by decide +kernel⟩ rfl ⟨by decide, by decide⟩ (Nat.le_of_ble_eq_true rfl) dX10_then_28 (fun v12 σ2 hq => ?_)
      obtain ⟨hv12, rfl⟩ := hq
      refine zg_if_ne X 36 dX10_then_31 (by decide) (fun c13 => ?_) (fun c13 => ?_)
      · skip
        refine zg_aload_n X 0 rfl dX10_then_36 ?_
        refine fg_X10_56 X hI ha0 dX10_then_37 (fun v14 _ hv14 => ?_)
        refine zg_aload_n X 0 rfl dX10_then_40 ?_
        refine fg_X10_52 X hI ha0 dX10_then_41 (fun v15 _ hv15 => ?_)
        refine zg_cVv (As := [.ref v15]) (st := []) X hv14 rfl (by decide) rfl (t_X1_copy l d L kd κ 1 _ hI v14 hv14 v15 hv15 ) mk_X10_241 mc_X1_copy mz_X1 mi_X1_copy ml_X1_copy (na := 1) ⟨md_X1.1, md_X1.2, by decide +kernel⟩ rfl ⟨by decide, by decide⟩ (Nat.le_of_ble_eq_true rfl) dX10_then_44 (fun σ hI => ?_)
        refine zg_aload_n X 0 rfl dX10_then_47 ?_
        refine fg_X10_26 X hI ha0 dX10_then_48 (fun v16 _ hv16 => ?_)
        refine zg_aload_n X 0 rfl dX10_then_51 ?_
        refine fg_X10_70 X hI ha0 dX10_then_52 (fun v17 _ hv17 => ?_)
        refine zg_aload_n X 0 rfl dX10_then_55 ?_
        refine fg_X10_56 X hI ha0 dX10_then_56 (fun v18 _ hv18 => ?_)
        refine zg_iload_n X 2 rfl dX10_then_59 ?_
        refine zg_aload_n X 0 rfl dX10_then_60 ?_
        refine fg_X10_70 X hI ha0 dX10_then_61 (fun v19 _ hv19 => ?_)
        refine fg_X10_203 X hI hv19 dX10_then_64 (fun v20 _ _ => ?_)
        refine zg_cVv (As := [.ref v17, .ref v18, .int p2, .int v20]) (st := []) X hv16 rfl (by decide) rfl (t_X5_goThrough l d L kd κ 1 _ hI v16 hv16 v17 hv17 v18 hv18 p2 v20 (by omega)) mk_X10_233 mc_X5_goThrough mz_X5 mi_X5_goThrough ml_X5_goThrough (na := 4) ⟨md_X5.1, md_X5.2, by decide +kernel⟩ rfl ⟨by decide, by decide⟩ (Nat.le_of_ble_eq_true rfl) dX10_then_67 (fun σ hI => ?_)
        refine zg_iload_n X 3 rfl dX10_then_70 ?_
        refine zg_if_ne X 86 dX10_then_71 (by decide) (fun c21 => ?_) (fun c21 => ?_)
        · skip
          refine zg_aload_n X 0 rfl dX10_then_86 ?_
          refine fg_X10_56 X hI ha0 dX10_then_87 (fun v22 _ hv22 => ?_)
          refine fg_X10_152 X hI hv22 dX10_then_90 (fun v23 _ hv23 => ?_)
          refine zg_iload_n X 1 rfl dX10_then_93 ?_
          refine ag_24 X hI hv23 (by omega) (by omega) dX10_then_94 (fun v24 _ _ => ?_)
          exact ret _ _ _ _ dX10_then_95 rfl (zi_weak hI)
        · skip
          refine zg_aload_n X 0 rfl dX10_then_74 ?_
          refine fg_X10_56 X hI ha0 dX10_then_75 (fun v25 _ hv25 => ?_)
          refine fg_X10_149 X hI hv25 dX10_then_78 (fun v26 _ hv26 => ?_)
          refine zg_iload_n X 1 rfl dX10_then_81 ?_
          refine ag_23 X hI hv26 (by omega) (by omega) dX10_then_82 (fun v27 _ _ => ?_)
          refine zg_goto X 95 dX10_then_83 (by decide) ?_
          exact ret _ _ _ _ dX10_then_95 rfl (zi_weak hI)
      · skip
        refine zg_iconst X (-1) dX10_then_34 (by decide) (fun v28 _ hv28 => ?_)
        exact ret _ _ _ _ dX10_then_35 rfl (zi_weak hI)
set_option maxHeartbeats 4000000 in
set_option maxRecDepth 100000 in
theorem t_X10_flowIn (l : Launch) (d : zD2) (L : List Nat) (kd : Nat → Nat) (κ : Int) (σ : zS) (hI : zI κ 0 L kd σ) (a0 : Nat) (ha0 : zT L kd a0 10) (p1 : Int32) : zMi l yX10_flowIn (Cond.code yX10_flowIn cX10_flowIn 2 (some .int) :: zWL) 7 [.ref a0, .int p1] d L kd σ (fun _ σ2 => zI κ 0 L kd σ2) := by
  refine zMi.of (own := RX10) (by decide +kernel) rfl rfl (Nat.le_of_ble_eq_true rfl) ?_
  intro p e s m args below meth c A Q X ret
  refine zg_lv (lv2 := [(0, .ref a0), (1, .int p1)]) rfl ?_
  refine zg_aload_n X 0 rfl dX10_flowIn_0 ?_
  refine zg_cVi (As := []) (st := []) X ha0 rfl (by decide) rfl (t_X10_hasMouth l d L kd κ 0 _ hI a0 ha0 ) mk_X10_277 mc_X10_hasMouth mz_X10 mi_X10_hasMouth ml_X10_hasMouth (na := 0) ⟨md_X10.1, md_X10.2, by decide +kernel⟩ rfl ⟨by decide, by decide⟩ (Nat.le_of_ble_eq_true rfl) dX10_flowIn_1 (fun v1 σ hI => ?_)
  obtain ⟨hv1, hI⟩ := hI
  refine zg_if_eq X 17 dX10_flowIn_4 (by decide) (fun c2 => ?_) (fun c2 => ?_)
  · skip
    refine zg_iconst X (-1) dX10_flowIn_17 (by decide) (fun v3 _ hv3 => ?_)
    exact ret _ _ _ _ dX10_flowIn_18 rfl hI
  · skip
    refine zg_iload_n X 1 rfl dX10_flowIn_7 ?_
    refine zg_iconst X 0 dX10_flowIn_8 (by decide) (fun v4 _ hv4 => ?_)
    refine zg_bipush X 60 dX10_flowIn_9 (by decide) (fun v5 _ hv5 => ?_)
    refine zg_cSi (As := [.int p1, .int v4, .int v5]) (st := []) X (t_X10_isWithin l d L kd _ p1 v4 v5 ) mk_X10_229 mc_X10_isWithin mz_X10 ms_X10_isWithin (na := 3) ⟨md_X10.1, md_X10.2, by decide +kernel⟩ rfl ⟨by decide, by decide⟩ (Nat.le_of_ble_eq_true rfl) dX10_flowIn_11 (fun v6 σ2 hq => ?_)
    obtain ⟨hv6, rfl⟩ := hq
    refine zg_if_ne X 19 dX10_flowIn_14 (by decide) (fun c7 => ?_) (fun c7 => ?_)
    · skip
      refine zg_aload_n X 0 rfl dX10_flowIn_19 ?_
      refine fg_X10_56 X hI ha0 dX10_flowIn_20 (fun v8 _ hv8 => ?_)
      refine zg_aload_n X 0 rfl dX10_flowIn_23 ?_
      refine fg_X10_52 X hI ha0 dX10_flowIn_24 (fun v9 _ hv9 => ?_)
      refine zg_cVv (As := [.ref v9]) (st := []) X hv8 rfl (by decide) rfl (t_X1_copy l d L kd κ 0 _ hI v8 hv8 v9 hv9 ) mk_X10_241 mc_X1_copy mz_X1 mi_X1_copy ml_X1_copy (na := 1) ⟨md_X1.1, md_X1.2, by decide +kernel⟩ rfl ⟨by decide, by decide⟩ (Nat.le_of_ble_eq_true rfl) dX10_flowIn_27 (fun σ hI => ?_)
      refine zg_aload_n X 0 rfl dX10_flowIn_30 ?_
      refine fg_X10_26 X hI ha0 dX10_flowIn_31 (fun v10 _ hv10 => ?_)
      refine zg_aload_n X 0 rfl dX10_flowIn_34 ?_
      refine fg_X10_70 X hI ha0 dX10_flowIn_35 (fun v11 _ hv11 => ?_)
      refine zg_aload_n X 0 rfl dX10_flowIn_38 ?_
      refine fg_X10_56 X hI ha0 dX10_flowIn_39 (fun v12 _ hv12 => ?_)
      refine zg_iload_n X 1 rfl dX10_flowIn_42 ?_
      refine zg_aload_n X 0 rfl dX10_flowIn_43 ?_
      refine fg_X10_70 X hI ha0 dX10_flowIn_44 (fun v13 _ hv13 => ?_)
      refine fg_X10_203 X hI hv13 dX10_flowIn_47 (fun v14 _ _ => ?_)
      refine zg_cVv (As := [.ref v11, .ref v12, .int p1, .int v14]) (st := []) X hv10 rfl (by decide) rfl (t_X5_goThrough l d L kd κ 0 _ hI v10 hv10 v11 hv11 v12 hv12 p1 v14 (by omega)) mk_X10_233 mc_X5_goThrough mz_X5 mi_X5_goThrough ml_X5_goThrough (na := 4) ⟨md_X5.1, md_X5.2, by decide +kernel⟩ rfl ⟨by decide, by decide⟩ (Nat.le_of_ble_eq_true rfl) dX10_flowIn_50 (fun σ hI => ?_)
      refine zg_aload_n X 0 rfl dX10_flowIn_53 ?_
      refine fg_X10_26 X hI ha0 dX10_flowIn_54 (fun v15 _ hv15 => ?_)
      refine zg_aload_n X 0 rfl dX10_flowIn_57 ?_
      refine fg_X10_70 X hI ha0 dX10_flowIn_58 (fun v16 _ hv16 => ?_)
      refine zg_aload_n X 0 rfl dX10_flowIn_61 ?_
      refine fg_X10_56 X hI ha0 dX10_flowIn_62 (fun v17 _ hv17 => ?_)
      refine zg_cVv (As := [.ref v16, .ref v17]) (st := []) X hv15 rfl (by decide) rfl (t_X5_look l d L kd κ 1 _ hI v15 hv15 v16 hv16 v17 hv17 ) mk_X10_271 mc_X5_look mz_X5 mi_X5_look ml_X5_look (na := 2) ⟨md_X5.1, md_X5.2, by decide +kernel⟩ rfl ⟨by decide, by decide⟩ (Nat.le_of_ble_eq_true rfl) dX10_flowIn_65 (fun σ hI => ?_)
      refine zg_aload_n X 0 rfl dX10_flowIn_68 ?_
      refine zg_cVi (As := []) (st := []) X ha0 rfl (by decide) rfl (t_X10_mouthFlow l d L kd κ 1 _ hI a0 ha0 ) mk_X10_191 mc_X10_mouthFlow mz_X10 mi_X10_mouthFlow ml_X10_mouthFlow (na := 0) ⟨md_X10.1, md_X10.2, by decide +kernel⟩ rfl ⟨by decide, by decide⟩ (Nat.le_of_ble_eq_true rfl) dX10_flowIn_69 (fun v18 σ hI => ?_)
      exact ret _ _ _ _ dX10_flowIn_72 rfl (zi_weak hI)
    · skip
      refine zg_iconst X (-1) dX10_flowIn_17 (by decide) (fun v19 _ hv19 => ?_)
      exact ret _ _ _ _ dX10_flowIn_18 rfl hI
set_option maxHeartbeats 4000000 in
set_option maxRecDepth 100000 in
theorem t_X10_year (l : Launch) (d : zD2) (L : List Nat) (kd : Nat → Nat) (κ : Int) (σ : zS) (hI : zI κ 0 L kd σ) (a0 : Nat) (ha0 : zT L kd a0 10) (p1 : Int32) (p2 : Int32) (p3 : Int32) : zMi l yX10_year (Cond.code yX10_year cX10_year 6 (some .int) :: zWL) 7 [.ref a0, .int p1, .int p2, .int p3] d L kd σ (fun _ σ2 => zI κ 0 L kd σ2) := by
  refine zMi.of (own := RX10) (by decide +kernel) rfl rfl (Nat.le_of_ble_eq_true rfl) ?_
  intro p e s m args below meth c A Q X ret
  refine zg_lv (lv2 := [(0, .ref a0), (1, .int p1), (2, .int p2), (3, .int p3)]) rfl ?_
  refine zg_aload_n X 0 rfl dX10_year_0 ?_
  refine zg_cVv (As := []) (st := []) X ha0 rfl (by decide) rfl (t_X10_look l d L kd κ 0 _ hI a0 ha0 ) mk_X10_113 mc_X10_look mz_X10 mi_X10_look ml_X10_look (na := 0) ⟨md_X10.1, md_X10.2, by decide +kernel⟩ rfl ⟨by decide, by decide⟩ (Nat.le_of_ble_eq_true rfl) dX10_year_1 (fun σ hI => ?_)
  refine zg_aload_n X 0 rfl dX10_year_4 ?_
  refine fg_X10_34 X hI ha0 dX10_year_5 (fun v1 _ hv1 => ?_)
  refine zg_iload_n X 1 rfl dX10_year_8 ?_
  refine zg_cVi (As := [.int p1]) (st := []) X hv1 rfl (by decide) rfl (t_X6_isSource l d L kd κ 1 _ hI v1 hv1 p1 ) mk_X10_146 mc_X6_isSource mz_X6 mi_X6_isSource ml_X6_isSource (na := 1) ⟨md_X6.1, md_X6.2, by decide +kernel⟩ rfl ⟨by decide, by decide⟩ (Nat.le_of_ble_eq_true rfl) dX10_year_9 (fun v2 σ hI => ?_)
  obtain ⟨hv2, hI⟩ := hI
  refine zg_if_eq X 35 dX10_year_12 (by decide) (fun c3 => ?_) (fun c3 => ?_)
  · skip
    refine zg_iconst X (-1) dX10_year_35 (by decide) (fun v4 _ hv4 => ?_)
    exact ret _ _ _ _ dX10_year_36 rfl (zi_weak hI)
  · skip
    refine zg_iload_n X 2 rfl dX10_year_15 ?_
    refine zg_iconst X 0 dX10_year_16 (by decide) (fun v5 _ hv5 => ?_)
    refine zg_bipush X 60 dX10_year_17 (by decide) (fun v6 _ hv6 => ?_)
    refine zg_cSi (As := [.int p2, .int v5, .int v6]) (st := []) X (t_X10_isWithin l d L kd _ p2 v5 v6 ) mk_X10_229 mc_X10_isWithin mz_X10 ms_X10_isWithin (na := 3) ⟨md_X10.1, md_X10.2, by decide +kernel⟩ rfl ⟨by decide, by decide⟩ (Nat.le_of_ble_eq_true rfl) dX10_year_19 (fun v7 σ2 hq => ?_)
    obtain ⟨hv7, rfl⟩ := hq
    refine zg_if_eq X 35 dX10_year_22 (by decide) (fun c8 => ?_) (fun c8 => ?_)
    · skip
      refine zg_iconst X (-1) dX10_year_35 (by decide) (fun v9 _ hv9 => ?_)
      exact ret _ _ _ _ dX10_year_36 rfl (zi_weak hI)
    · skip
      refine zg_iload_n X 3 rfl dX10_year_25 ?_
      refine zg_iconst X 1 dX10_year_26 (by decide) (fun v10 _ hv10 => ?_)
      refine zg_bipush X 20 dX10_year_27 (by decide) (fun v11 _ hv11 => ?_)
      refine zg_cSi (As := [.int p3, .int v10, .int v11]) (st := []) X (t_X10_isWithin l d L kd _ p3 v10 v11 ) mk_X10_229 mc_X10_isWithin mz_X10 ms_X10_isWithin (na := 3) ⟨md_X10.1, md_X10.2, by decide +kernel⟩ rfl ⟨by decide, by decide⟩ (Nat.le_of_ble_eq_true rfl) dX10_year_29 (fun v12 σ2 hq => ?_)
      obtain ⟨hv12, rfl⟩ := hq
      refine zg_if_ne X 37 dX10_year_32 (by decide) (fun c13 => ?_) (fun c13 => ?_)
      · skip
        refine zg_iconst X 0 dX10_year_37 (by decide) (fun v14 _ hv14 => ?_)
        refine zg_istore X [(4, .int v14), (0, .ref a0), (1, .int p1), (2, .int p2), (3, .int p3)] dX10_year_38 (by decide) rfl ?_
        refine zg_iconst X 0 dX10_year_40 (by decide) (fun v15 _ hv15 => ?_)
        refine zg_istore X [(5, .int v15), (4, .int v14), (0, .ref a0), (1, .int p1), (2, .int p2), (3, .int p3)] dX10_year_41 (by decide) rfl ?_
        have Lp18 : ∀ (n : Nat) (σ : zS) (x16 : Int32) (x17 : Int32), zI κ 1 L kd σ → 0 ≤ x16.toInt ∧ x16.toInt ≤ 2147483647 → (2147483647) - x16.toInt + 1 < (n : Int) → zG d L kd A 6 p l e (k2_rm 7 (100 * 7)) s m args below meth c Q σ 43 [(5, .int x16), (4, .int x17), (0, .ref a0), (1, .int p1), (2, .int p2), (3, .int p3)] [] := by
          intro n
          induction n with
          | zero => intro σ x16 x17 hI  hxLp18 hm; exact absurd hm (by omega)
          | succ n ihLp18 =>
            intro σ x16 x17 hI  hxLp18 hmLp18
            refine zg_iload X 0 rfl dX10_year_43 ?_
            refine zg_iload_n X 5 rfl dX10_year_45 ?_
            have zx16_z19 := zb_rng x16
            have zp3_z20 := zb_rng p3
            refine zg_icmp_ge X 103 dX10_year_46 (by decide) (fun c21 => ?_) (fun c21 => ?_)
            · skip
              refine zg_iload X 1 rfl dX10_year_103 ?_
              exact ret _ _ _ _ dX10_year_105 rfl (zi_weak hI)
            · skip
              refine zg_aload_n X 2 rfl dX10_year_49 ?_
              refine fg_X10_56 X hI ha0 dX10_year_50 (fun v22 _ hv22 => ?_)
              refine zg_aload_n X 2 rfl dX10_year_53 ?_
              refine fg_X10_52 X hI ha0 dX10_year_54 (fun v23 _ hv23 => ?_)
              refine zg_cVv (As := [.ref v23]) (st := []) X hv22 rfl (by decide) rfl (t_X1_copy l d L kd κ 1 _ hI v22 hv22 v23 hv23 ) mk_X10_241 mc_X1_copy mz_X1 mi_X1_copy ml_X1_copy (na := 1) ⟨md_X1.1, md_X1.2, by decide +kernel⟩ rfl ⟨by decide, by decide⟩ (Nat.le_of_ble_eq_true rfl) dX10_year_57 (fun σ hI => ?_)
              refine zg_aload_n X 2 rfl dX10_year_60 ?_
              refine fg_X10_26 X hI ha0 dX10_year_61 (fun v24 _ hv24 => ?_)
              refine zg_aload_n X 2 rfl dX10_year_64 ?_
              refine fg_X10_70 X hI ha0 dX10_year_65 (fun v25 _ hv25 => ?_)
              refine zg_aload_n X 2 rfl dX10_year_68 ?_
              refine fg_X10_56 X hI ha0 dX10_year_69 (fun v26 _ hv26 => ?_)
              refine zg_iload_n X 4 rfl dX10_year_72 ?_
              refine zg_aload_n X 2 rfl dX10_year_73 ?_
              refine fg_X10_70 X hI ha0 dX10_year_74 (fun v27 _ hv27 => ?_)
              refine fg_X10_203 X hI hv27 dX10_year_77 (fun v28 _ _ => ?_)
              refine zg_iload X 0 rfl dX10_year_80 ?_
              refine zg_iaddW X dX10_year_82 (fun v29 _ => ?_)
              refine zg_cVv (As := [.ref v25, .ref v26, .int p2, .int v29]) (st := []) X hv24 rfl (by decide) rfl (t_X5_goThrough l d L kd κ 1 _ hI v24 hv24 v25 hv25 v26 hv26 p2 v29 (by omega)) mk_X10_233 mc_X5_goThrough mz_X5 mi_X5_goThrough ml_X5_goThrough (na := 4) ⟨md_X5.1, md_X5.2, by decide +kernel⟩ rfl ⟨by decide, by decide⟩ (Nat.le_of_ble_eq_true rfl) dX10_year_83 (fun σ hI => ?_)
              refine zg_aload_n X 2 rfl dX10_year_86 ?_
              refine zg_iload_n X 3 rfl dX10_year_87 ?_
              refine zg_cVi (As := [.int p1]) (st := []) X ha0 rfl (by decide) rfl (t_X10_hasWonMost l d L kd κ 1 _ hI a0 ha0 p1 (by omega)) mk_X10_314 mc_X10_hasWonMost mz_X10 mi_X10_hasWonMost ml_X10_hasWonMost (na := 1) ⟨md_X10.1, md_X10.2, by decide +kernel⟩ rfl ⟨by decide, by decide⟩ (Nat.le_of_ble_eq_true rfl) dX10_year_88 (fun v30 σ hI => ?_)
              obtain ⟨hv30, hI⟩ := hI
              refine zg_if_eq X 97 dX10_year_91 (by decide) (fun c31 => ?_) (fun c31 => ?_)
              · skip
                refine zg_iinc X 1 (fun v32 => [(5, .int v32), (4, .int x17), (0, .ref a0), (1, .int p1), (2, .int p2), (3, .int p3)]) 0 dX10_year_97 rfl (by decide) (by decide) (by omega) (by omega) (fun _ => rfl) (fun v32 _ hv32 => ?_)
                refine zg_goto X 43 dX10_year_100 (by decide) ?_
                refine zg_sub [0, 1, 2, 3, 4, 5] rfl ?_
                exact ihLp18 _ v32 x17 hI  (by omega) (by omega)
              · skip
                refine zg_iincW X (fun v33 => [(4, .int v33), (5, .int x16), (0, .ref a0), (1, .int p1), (2, .int p2), (3, .int p3)]) 1 dX10_year_94 rfl (by decide) (fun _ => rfl) (fun v33 _ => ?_)
                refine zg_iinc X 1 (fun v34 => [(5, .int v34), (4, .int v33), (0, .ref a0), (1, .int p1), (2, .int p2), (3, .int p3)]) 1 dX10_year_97 rfl (by decide) (by decide) (by omega) (by omega) (fun _ => rfl) (fun v34 _ hv34 => ?_)
                refine zg_goto X 43 dX10_year_100 (by decide) ?_
                refine zg_sub [0, 1, 2, 3, 4, 5] rfl ?_
                exact ihLp18 _ v34 v33 hI  (by omega) (by omega)
        refine zg_sub [0, 1, 2, 3, 4, 5] rfl ?_
        exact Lp18 (((2147483647) - v15.toInt + 1).toNat + 1) _ v15 v14 hI  (by omega) (by omega)
      · skip
        refine zg_iconst X (-1) dX10_year_35 (by decide) (fun v35 _ hv35 => ?_)
        exact ret _ _ _ _ dX10_year_36 rfl (zi_weak hI)
set_option maxHeartbeats 4000000 in
set_option maxRecDepth 100000 in
theorem t_X10_depth (l : Launch) (d : zD2) (L : List Nat) (kd : Nat → Nat) (κ : Int) (σ : zS) (hI : zI κ 0 L kd σ) (a0 : Nat) (ha0 : zT L kd a0 10) : zMi l yX10_depth (Cond.code yX10_depth cX10_depth 1 (some .int) :: zWL) 7 [.ref a0] d L kd σ (fun _ σ2 => zI κ 0 L kd σ2) := by
  refine zMi.of (own := RX10) (by decide +kernel) rfl rfl (Nat.le_of_ble_eq_true rfl) ?_
  intro p e s m args below meth c A Q X ret
  refine zg_lv (lv2 := [(0, .ref a0)]) rfl ?_
  refine zg_aload_n X 0 rfl dX10_depth_0 ?_
  refine zg_cVv (As := []) (st := []) X ha0 rfl (by decide) rfl (t_X10_look l d L kd κ 0 _ hI a0 ha0 ) mk_X10_113 mc_X10_look mz_X10 mi_X10_look ml_X10_look (na := 0) ⟨md_X10.1, md_X10.2, by decide +kernel⟩ rfl ⟨by decide, by decide⟩ (Nat.le_of_ble_eq_true rfl) dX10_depth_1 (fun σ hI => ?_)
  refine zg_aload_n X 0 rfl dX10_depth_4 ?_
  refine fg_X10_34 X hI ha0 dX10_depth_5 (fun v1 _ hv1 => ?_)
  refine zg_cVi (As := []) (st := []) X hv1 rfl (by decide) rfl (t_X6_deepest l d L kd κ 1 _ hI v1 hv1 ) mk_X10_317 mc_X6_deepest mz_X6 mi_X6_deepest ml_X6_deepest (na := 0) ⟨md_X6.1, md_X6.2, by decide +kernel⟩ rfl ⟨by decide, by decide⟩ (Nat.le_of_ble_eq_true rfl) dX10_depth_8 (fun v2 σ hI => ?_)
  exact ret _ _ _ _ dX10_depth_11 rfl (zi_weak hI)
set_option maxHeartbeats 4000000 in
set_option maxRecDepth 100000 in
theorem t_X10_order (l : Launch) (d : zD2) (L : List Nat) (kd : Nat → Nat) (κ : Int) (σ : zS) (hI : zI κ 0 L kd σ) (a0 : Nat) (ha0 : zT L kd a0 10) (p1 : Int32) : zMi l yX10_order (Cond.code yX10_order cX10_order 2 (some .int) :: zWL) 7 [.ref a0, .int p1] d L kd σ (fun _ σ2 => zI κ 0 L kd σ2) := by
  refine zMi.of (own := RX10) (by decide +kernel) rfl rfl (Nat.le_of_ble_eq_true rfl) ?_
  intro p e s m args below meth c A Q X ret
  refine zg_lv (lv2 := [(0, .ref a0), (1, .int p1)]) rfl ?_
  refine zg_aload_n X 0 rfl dX10_order_0 ?_
  refine zg_iload_n X 1 rfl dX10_order_1 ?_
  refine zg_cVi (As := [.int p1]) (st := []) X ha0 rfl (by decide) rfl (t_X10_isPlace l d L kd κ 0 _ hI a0 ha0 p1 ) mk_X10_109 mc_X10_isPlace mz_X10 mi_X10_isPlace ml_X10_isPlace (na := 1) ⟨md_X10.1, md_X10.2, by decide +kernel⟩ rfl ⟨by decide, by decide⟩ (Nat.le_of_ble_eq_true rfl) dX10_order_2 (fun v1 σ hI => ?_)
  obtain ⟨hv1, hI⟩ := hI
  refine zg_if_ne X 10 dX10_order_5 (by decide) (fun c2 => ?_) (fun c2 => ?_)
  · skip
    refine zg_aload_n X 0 rfl dX10_order_10 ?_
    refine zg_cVv (As := []) (st := []) X ha0 rfl (by decide) rfl (t_X10_look l d L kd κ 0 _ hI a0 ha0 ) mk_X10_113 mc_X10_look mz_X10 mi_X10_look ml_X10_look (na := 0) ⟨md_X10.1, md_X10.2, by decide +kernel⟩ rfl ⟨by decide, by decide⟩ (Nat.le_of_ble_eq_true rfl) dX10_order_11 (fun σ hI => ?_)
    refine zg_aload_n X 0 rfl dX10_order_14 ?_
    refine fg_X10_34 X hI ha0 dX10_order_15 (fun v3 _ hv3 => ?_)
    refine zg_aload_n X 0 rfl dX10_order_18 ?_
    refine fg_X10_52 X hI ha0 dX10_order_19 (fun v4 _ hv4 => ?_)
    refine zg_iload_n X 1 rfl dX10_order_22 ?_
    refine zg_cVi (As := [.ref v4, .int p1]) (st := []) X hv3 rfl (by decide) rfl (t_X6_orderOf l d L kd κ 1 _ hI v3 hv3 v4 hv4 p1 (by omega)) mk_X10_320 mc_X6_orderOf mz_X6 mi_X6_orderOf ml_X6_orderOf (na := 2) ⟨md_X6.1, md_X6.2, by decide +kernel⟩ rfl ⟨by decide, by decide⟩ (Nat.le_of_ble_eq_true rfl) dX10_order_23 (fun v5 σ hI => ?_)
    exact ret _ _ _ _ dX10_order_26 rfl (zi_weak hI)
  · skip
    refine zg_iconst X (-1) dX10_order_8 (by decide) (fun v6 _ hv6 => ?_)
    exact ret _ _ _ _ dX10_order_9 rfl hI
set_option maxHeartbeats 4000000 in
set_option maxRecDepth 100000 in
theorem t_X10_basin (l : Launch) (d : zD2) (L : List Nat) (kd : Nat → Nat) (κ : Int) (σ : zS) (hI : zI κ 0 L kd σ) (a0 : Nat) (ha0 : zT L kd a0 10) (p1 : Int32) (p2 : Int32) : zMi l yX10_basin (Cond.code yX10_basin cX10_basin 4 (some .int) :: zWL) 7 [.ref a0, .int p1, .int p2] d L kd σ (fun _ σ2 => zI κ 0 L kd σ2) := by
  refine zMi.of (own := RX10) (by decide +kernel) rfl rfl (Nat.le_of_ble_eq_true rfl) ?_
  intro p e s m args below meth c A Q X ret
  refine zg_lv (lv2 := [(0, .ref a0), (1, .int p1), (2, .int p2)]) rfl ?_
  refine zg_aload_n X 0 rfl dX10_basin_0 ?_
  refine zg_iload_n X 1 rfl dX10_basin_1 ?_
  refine zg_cVi (As := [.int p1]) (st := []) X ha0 rfl (by decide) rfl (t_X10_isPlace l d L kd κ 0 _ hI a0 ha0 p1 ) mk_X10_109 mc_X10_isPlace mz_X10 mi_X10_isPlace ml_X10_isPlace (na := 1) ⟨md_X10.1, md_X10.2, by decide +kernel⟩ rfl ⟨by decide, by decide⟩ (Nat.le_of_ble_eq_true rfl) dX10_basin_2 (fun v1 σ hI => ?_)
  obtain ⟨hv1, hI⟩ := hI
  refine zg_if_eq X 17 dX10_basin_5 (by decide) (fun c2 => ?_) (fun c2 => ?_)
  · skip
    refine zg_iconst X (-1) dX10_basin_17 (by decide) (fun v3 _ hv3 => ?_)
    exact ret _ _ _ _ dX10_basin_18 rfl hI
  · skip
    refine zg_iload_n X 2 rfl dX10_basin_8 ?_
    refine zg_iconst X 0 dX10_basin_9 (by decide) (fun v4 _ hv4 => ?_)
    refine zg_iconst X 1 dX10_basin_10 (by decide) (fun v5 _ hv5 => ?_)
    refine zg_cSi (As := [.int p2, .int v4, .int v5]) (st := []) X (t_X10_isWithin l d L kd _ p2 v4 v5 ) mk_X10_229 mc_X10_isWithin mz_X10 ms_X10_isWithin (na := 3) ⟨md_X10.1, md_X10.2, by decide +kernel⟩ rfl ⟨by decide, by decide⟩ (Nat.le_of_ble_eq_true rfl) dX10_basin_11 (fun v6 σ2 hq => ?_)
    obtain ⟨hv6, rfl⟩ := hq
    refine zg_if_ne X 19 dX10_basin_14 (by decide) (fun c7 => ?_) (fun c7 => ?_)
    · skip
      refine zg_aload_n X 0 rfl dX10_basin_19 ?_
      refine zg_cVv (As := []) (st := []) X ha0 rfl (by decide) rfl (t_X10_look l d L kd κ 0 _ hI a0 ha0 ) mk_X10_113 mc_X10_look mz_X10 mi_X10_look ml_X10_look (na := 0) ⟨md_X10.1, md_X10.2, by decide +kernel⟩ rfl ⟨by decide, by decide⟩ (Nat.le_of_ble_eq_true rfl) dX10_basin_20 (fun σ hI => ?_)
      refine zg_aload_n X 0 rfl dX10_basin_23 ?_
      refine fg_X10_34 X hI ha0 dX10_basin_24 (fun v8 _ hv8 => ?_)
      refine zg_iload_n X 1 rfl dX10_basin_27 ?_
      refine zg_cVi (As := [.int p1]) (st := []) X hv8 rfl (by decide) rfl (t_X6_comingBy l d L kd κ 1 _ hI v8 hv8 p1 ) mk_X10_324 mc_X6_comingBy mz_X6 mi_X6_comingBy ml_X6_comingBy (na := 1) ⟨md_X6.1, md_X6.2, by decide +kernel⟩ rfl ⟨by decide, by decide⟩ (Nat.le_of_ble_eq_true rfl) dX10_basin_28 (fun v9 σ hI => ?_)
      refine zg_istore_n X [(3, .int v9), (0, .ref a0), (1, .int p1), (2, .int p2)] dX10_basin_31 (by decide) rfl ?_
      refine zg_iload_n X 3 rfl dX10_basin_32 ?_
      refine zg_if_ne X 40 dX10_basin_33 (by decide) (fun c10 => ?_) (fun c10 => ?_)
      · skip
        refine zg_aload_n X 1 rfl dX10_basin_40 ?_
        refine fg_X10_26 X hI ha0 dX10_basin_41 (fun v11 _ hv11 => ?_)
        refine zg_iload_n X 0 rfl dX10_basin_44 ?_
        refine zg_cVi (As := [.int v9]) (st := []) X hv11 rfl (by decide) rfl (t_X5_rainsOf l d L kd κ _ hI v11 hv11 v9 ) mk_X10_327 mc_X5_rainsOf mz_X5 mi_X5_rainsOf ml_X5_rainsOf (na := 1) ⟨md_X5.1, md_X5.2, by decide +kernel⟩ rfl ⟨by decide, by decide⟩ (Nat.le_of_ble_eq_true rfl) dX10_basin_45 (fun v12 σ hI => ?_)
        exact ret _ _ _ _ dX10_basin_48 rfl (zi_weak hI)
      · skip
        refine zg_iload_n X 0 rfl dX10_basin_36 ?_
        refine zg_goto X 48 dX10_basin_37 (by decide) ?_
        exact ret _ _ _ _ dX10_basin_48 rfl (zi_weak hI)
    · skip
      refine zg_iconst X (-1) dX10_basin_17 (by decide) (fun v13 _ hv13 => ?_)
      exact ret _ _ _ _ dX10_basin_18 rfl hI
set_option maxHeartbeats 4000000 in
set_option maxRecDepth 100000 in
theorem t_X10_tour (l : Launch) (d : zD2) (L : List Nat) (kd : Nat → Nat) (κ : Int) (σ : zS) (hI : zI κ 0 L kd σ) (a0 : Nat) (ha0 : zT L kd a0 10) : zMi l yX10_tour (Cond.code yX10_tour cX10_tour 1 (some .int) :: zWL) 7 [.ref a0] d L kd σ (fun _ σ2 => zI κ 0 L kd σ2) := by
  refine zMi.of (own := RX10) (by decide +kernel) rfl rfl (Nat.le_of_ble_eq_true rfl) ?_
  intro p e s m args below meth c A Q X ret
  refine zg_lv (lv2 := [(0, .ref a0)]) rfl ?_
  refine zg_aload_n X 0 rfl dX10_tour_0 ?_
  refine zg_cVv (As := []) (st := []) X ha0 rfl (by decide) rfl (t_X10_look l d L kd κ 0 _ hI a0 ha0 ) mk_X10_113 mc_X10_look mz_X10 mi_X10_look ml_X10_look (na := 0) ⟨md_X10.1, md_X10.2, by decide +kernel⟩ rfl ⟨by decide, by decide⟩ (Nat.le_of_ble_eq_true rfl) dX10_tour_1 (fun σ hI => ?_)
  refine zg_aload_n X 0 rfl dX10_tour_4 ?_
  refine fg_X10_34 X hI ha0 dX10_tour_5 (fun v1 _ hv1 => ?_)
  refine zg_aload_n X 0 rfl dX10_tour_8 ?_
  refine fg_X10_34 X hI ha0 dX10_tour_9 (fun v2 _ hv2 => ?_)
  refine zg_cVi (As := []) (st := [.ref v1]) X hv2 rfl (by decide) rfl (t_X6_sources l d L kd κ 1 _ hI v2 hv2 ) mk_X10_188 mc_X6_sources mz_X6 mi_X6_sources ml_X6_sources (na := 0) ⟨md_X6.1, md_X6.2, by decide +kernel⟩ rfl ⟨by decide, by decide⟩ (Nat.le_of_ble_eq_true rfl) dX10_tour_12 (fun v3 σ hI => ?_)
  refine zg_cVi (As := [.int v3]) (st := []) X hv1 rfl (by decide) rfl (t_X6_tourOf l d L kd κ 1 _ hI v1 hv1 v3 ) mk_X10_330 mc_X6_tourOf mz_X6 mi_X6_tourOf ml_X6_tourOf (na := 1) ⟨md_X6.1, md_X6.2, by decide +kernel⟩ rfl ⟨by decide, by decide⟩ (Nat.le_of_ble_eq_true rfl) dX10_tour_15 (fun v4 σ hI => ?_)
  exact ret _ _ _ _ dX10_tour_18 rfl (zi_weak hI)
set_option maxHeartbeats 4000000 in
set_option maxRecDepth 100000 in
theorem t_X10_parted (l : Launch) (d : zD2) (L : List Nat) (kd : Nat → Nat) (κ : Int) (σ : zS) (hI : zI κ 0 L kd σ) (a0 : Nat) (ha0 : zT L kd a0 10) : zMi l yX10_parted (Cond.code yX10_parted cX10_parted 4 (some .int) :: zWL) 7 [.ref a0] d L kd σ (fun _ σ2 => zI κ 0 L kd σ2) := by
  refine zMi.of (own := RX10) (by decide +kernel) rfl rfl (Nat.le_of_ble_eq_true rfl) ?_
  intro p e s m args below meth c A Q X ret
  refine zg_lv (lv2 := [(0, .ref a0)]) rfl ?_
  refine zg_aload_n X 0 rfl dX10_parted_0 ?_
  refine zg_cVv (As := []) (st := []) X ha0 rfl (by decide) rfl (t_X10_look l d L kd κ 0 _ hI a0 ha0 ) mk_X10_113 mc_X10_look mz_X10 mi_X10_look ml_X10_look (na := 0) ⟨md_X10.1, md_X10.2, by decide +kernel⟩ rfl ⟨by decide, by decide⟩ (Nat.le_of_ble_eq_true rfl) dX10_parted_1 (fun σ hI => ?_)
  refine zg_aload_n X 0 rfl dX10_parted_4 ?_
  refine fg_X10_34 X hI ha0 dX10_parted_5 (fun v1 _ hv1 => ?_)
  refine zg_cVi (As := []) (st := []) X hv1 rfl (by decide) rfl (t_X6_sources l d L kd κ 1 _ hI v1 hv1 ) mk_X10_188 mc_X6_sources mz_X6 mi_X6_sources ml_X6_sources (na := 0) ⟨md_X6.1, md_X6.2, by decide +kernel⟩ rfl ⟨by decide, by decide⟩ (Nat.le_of_ble_eq_true rfl) dX10_parted_8 (fun v2 σ hI => ?_)
  refine zg_istore_n X [(1, .int v2), (0, .ref a0)] dX10_parted_11 (by decide) rfl ?_
  refine zg_aload_n X 1 rfl dX10_parted_12 ?_
  refine fg_X10_34 X hI ha0 dX10_parted_13 (fun v3 _ hv3 => ?_)
  refine zg_iload_n X 0 rfl dX10_parted_16 ?_
  refine zg_cVi (As := [.int v2]) (st := []) X hv3 rfl (by decide) rfl (t_X6_tourOf l d L kd κ 1 _ hI v3 hv3 v2 ) mk_X10_330 mc_X6_tourOf mz_X6 mi_X6_tourOf ml_X6_tourOf (na := 1) ⟨md_X6.1, md_X6.2, by decide +kernel⟩ rfl ⟨by decide, by decide⟩ (Nat.le_of_ble_eq_true rfl) dX10_parted_17 (fun v4 σ hI => ?_)
  refine zg_istore_n X [(2, .int v4), (1, .int v2), (0, .ref a0)] dX10_parted_20 (by decide) rfl ?_
  refine zg_iconst X 0 dX10_parted_21 (by decide) (fun v5 _ hv5 => ?_)
  refine zg_istore_n X [(3, .int v5), (2, .int v4), (1, .int v2), (0, .ref a0)] dX10_parted_22 (by decide) rfl ?_
  have Lp8 : ∀ (n : Nat) (σ : zS) (x6 : Int32) (x7 : Int32), zI κ 1 L kd σ → 0 ≤ x6.toInt ∧ x6.toInt ≤ 2147483647 → (2147483647) - x6.toInt + 1 < (n : Int) → zG d L kd A 4 p l e (k2_rm 7 (100 * 7)) s m args below meth c Q σ 23 [(3, .int x6), (2, .int x7), (1, .int v2), (0, .ref a0)] [] := by
    intro n
    induction n with
    | zero => intro σ x6 x7 hI  hxLp8 hm; exact absurd hm (by omega)
    | succ n ihLp8 =>
      intro σ x6 x7 hI  hxLp8 hmLp8
      refine zg_iload_n X 0 rfl dX10_parted_23 ?_
      refine zg_iload_n X 2 rfl dX10_parted_24 ?_
      have zx6_z9 := zb_rng x6
      have zv2_z10 := zb_rng v2
      refine zg_icmp_ge X 69 dX10_parted_25 (by decide) (fun c11 => ?_) (fun c11 => ?_)
      · skip
        refine zg_iload_n X 1 rfl dX10_parted_69 ?_
        exact ret _ _ _ _ dX10_parted_70 rfl (zi_weak hI)
      · skip
        refine zg_iload_n X 0 rfl dX10_parted_28 ?_
        refine zg_iload_n X 2 rfl dX10_parted_29 ?_
        refine zg_iandW X dX10_parted_30 (fun v12 _ => ?_)
        refine zg_iload_n X 0 rfl dX10_parted_31 ?_
        refine zg_icmp_ne X 63 dX10_parted_32 (by decide) (fun c13 => ?_) (fun c13 => ?_)
        · skip
          refine zg_iinc X 1 (fun v14 => [(3, .int v14), (2, .int x7), (1, .int v2), (0, .ref a0)]) 0 dX10_parted_63 rfl (by decide) (by decide) (by omega) (by omega) (fun _ => rfl) (fun v14 _ hv14 => ?_)
          refine zg_goto X 23 dX10_parted_66 (by decide) ?_
          refine zg_sub [0, 1, 2, 3] rfl ?_
          exact ihLp8 _ v14 x7 hI  (by omega) (by omega)
        · skip
          refine zg_iload_n X 1 rfl dX10_parted_35 ?_
          refine zg_aload_n X 3 rfl dX10_parted_36 ?_
          refine fg_X10_34 X hI ha0 dX10_parted_37 (fun v15 _ hv15 => ?_)
          refine zg_iload_n X 0 rfl dX10_parted_40 ?_
          refine zg_cVi (As := [.int x6]) (st := [.int x7]) X hv15 rfl (by decide) rfl (t_X6_tourOf l d L kd κ 1 _ hI v15 hv15 x6 ) mk_X10_330 mc_X6_tourOf mz_X6 mi_X6_tourOf ml_X6_tourOf (na := 1) ⟨md_X6.1, md_X6.2, by decide +kernel⟩ rfl ⟨by decide, by decide⟩ (Nat.le_of_ble_eq_true rfl) dX10_parted_41 (fun v16 σ hI => ?_)
          refine zg_aload_n X 3 rfl dX10_parted_44 ?_
          refine fg_X10_34 X hI ha0 dX10_parted_45 (fun v17 _ hv17 => ?_)
          refine zg_iload_n X 2 rfl dX10_parted_48 ?_
          refine zg_iload_n X 0 rfl dX10_parted_49 ?_
          refine zg_iconst X (-1) dX10_parted_50 (by decide) (fun v18 _ hv18 => ?_)
          refine zg_ixorW X dX10_parted_51 (fun v19 _ => ?_)
          refine zg_iandW X dX10_parted_52 (fun v20 _ => ?_)
          refine zg_cVi (As := [.int v20]) (st := [.int v16, .int x7]) X hv17 rfl (by decide) rfl (t_X6_tourOf l d L kd κ 1 _ hI v17 hv17 v20 ) mk_X10_330 mc_X6_tourOf mz_X6 mi_X6_tourOf ml_X6_tourOf (na := 1) ⟨md_X6.1, md_X6.2, by decide +kernel⟩ rfl ⟨by decide, by decide⟩ (Nat.le_of_ble_eq_true rfl) dX10_parted_53 (fun v21 σ hI => ?_)
          refine zg_max X wj_X10_333 ⟨by decide, Nat.le_of_ble_eq_true rfl⟩ dX10_parted_56 (fun v22 hv22 => ?_)
          refine zg_min X wj_X10_262 ⟨by decide, Nat.le_of_ble_eq_true rfl⟩ dX10_parted_59 (fun v23 hv23 => ?_)
          refine zg_istore_n X [(2, .int v23), (3, .int x6), (1, .int v2), (0, .ref a0)] dX10_parted_62 (by decide) rfl ?_
          refine zg_iinc X 1 (fun v24 => [(3, .int v24), (2, .int v23), (1, .int v2), (0, .ref a0)]) 1 dX10_parted_63 rfl (by decide) (by decide) (by omega) (by omega) (fun _ => rfl) (fun v24 _ hv24 => ?_)
          refine zg_goto X 23 dX10_parted_66 (by decide) ?_
          refine zg_sub [0, 1, 2, 3] rfl ?_
          exact ihLp8 _ v24 v23 hI  (by omega) (by omega)
  refine zg_sub [0, 1, 2, 3] rfl ?_
  exact Lp8 (((2147483647) - v5.toInt + 1).toNat + 1) _ v5 v4 hI  (by omega) (by omega)
set_option maxHeartbeats 4000000 in
set_option maxRecDepth 100000 in
theorem t_X10_meet (l : Launch) (d : zD2) (L : List Nat) (kd : Nat → Nat) (κ : Int) (σ : zS) (hI : zI κ 0 L kd σ) (a0 : Nat) (ha0 : zT L kd a0 10) (p1 : Int32) (p2 : Int32) (p3 : Int32) : zMi l yX10_meet (Cond.code yX10_meet cX10_meet 5 (some .int) :: zWL) 7 [.ref a0, .int p1, .int p2, .int p3] d L kd σ (fun _ σ2 => zI κ 0 L kd σ2) := by
  refine zMi.of (own := RX10) (by decide +kernel) rfl rfl (Nat.le_of_ble_eq_true rfl) ?_
  intro p e s m args below meth c A Q X ret
  refine zg_lv (lv2 := [(0, .ref a0), (1, .int p1), (2, .int p2), (3, .int p3)]) rfl ?_
  refine zg_aload_n X 0 rfl dX10_meet_0 ?_
  refine zg_iload_n X 1 rfl dX10_meet_1 ?_
  refine zg_cVi (As := [.int p1]) (st := []) X ha0 rfl (by decide) rfl (t_X10_isPlace l d L kd κ 0 _ hI a0 ha0 p1 ) mk_X10_109 mc_X10_isPlace mz_X10 mi_X10_isPlace ml_X10_isPlace (na := 1) ⟨md_X10.1, md_X10.2, by decide +kernel⟩ rfl ⟨by decide, by decide⟩ (Nat.le_of_ble_eq_true rfl) dX10_meet_2 (fun v1 σ hI => ?_)
  obtain ⟨hv1, hI⟩ := hI
  refine zg_if_eq X 25 dX10_meet_5 (by decide) (fun c2 => ?_) (fun c2 => ?_)
  · skip
    refine zg_iconst X (-1) dX10_meet_25 (by decide) (fun v3 _ hv3 => ?_)
    exact ret _ _ _ _ dX10_meet_26 rfl hI
  · skip
    refine zg_aload_n X 0 rfl dX10_meet_8 ?_
    refine zg_iload_n X 2 rfl dX10_meet_9 ?_
    refine zg_cVi (As := [.int p2]) (st := []) X ha0 rfl (by decide) rfl (t_X10_isPlace l d L kd κ 0 _ hI a0 ha0 p2 ) mk_X10_109 mc_X10_isPlace mz_X10 mi_X10_isPlace ml_X10_isPlace (na := 1) ⟨md_X10.1, md_X10.2, by decide +kernel⟩ rfl ⟨by decide, by decide⟩ (Nat.le_of_ble_eq_true rfl) dX10_meet_10 (fun v4 σ hI => ?_)
    obtain ⟨hv4, hI⟩ := hI
    refine zg_if_eq X 25 dX10_meet_13 (by decide) (fun c5 => ?_) (fun c5 => ?_)
    · skip
      refine zg_iconst X (-1) dX10_meet_25 (by decide) (fun v6 _ hv6 => ?_)
      exact ret _ _ _ _ dX10_meet_26 rfl hI
    · skip
      refine zg_iload_n X 3 rfl dX10_meet_16 ?_
      refine zg_iconst X 0 dX10_meet_17 (by decide) (fun v7 _ hv7 => ?_)
      refine zg_iconst X 1 dX10_meet_18 (by decide) (fun v8 _ hv8 => ?_)
      refine zg_cSi (As := [.int p3, .int v7, .int v8]) (st := []) X (t_X10_isWithin l d L kd _ p3 v7 v8 ) mk_X10_229 mc_X10_isWithin mz_X10 ms_X10_isWithin (na := 3) ⟨md_X10.1, md_X10.2, by decide +kernel⟩ rfl ⟨by decide, by decide⟩ (Nat.le_of_ble_eq_true rfl) dX10_meet_19 (fun v9 σ2 hq => ?_)
      obtain ⟨hv9, rfl⟩ := hq
      refine zg_if_ne X 27 dX10_meet_22 (by decide) (fun c10 => ?_) (fun c10 => ?_)
      · skip
        refine zg_aload_n X 0 rfl dX10_meet_27 ?_
        refine zg_cVv (As := []) (st := []) X ha0 rfl (by decide) rfl (t_X10_look l d L kd κ 0 _ hI a0 ha0 ) mk_X10_113 mc_X10_look mz_X10 mi_X10_look ml_X10_look (na := 0) ⟨md_X10.1, md_X10.2, by decide +kernel⟩ rfl ⟨by decide, by decide⟩ (Nat.le_of_ble_eq_true rfl) dX10_meet_28 (fun σ hI => ?_)
        refine zg_aload_n X 0 rfl dX10_meet_31 ?_
        refine fg_X10_34 X hI ha0 dX10_meet_32 (fun v11 _ hv11 => ?_)
        refine zg_iload_n X 1 rfl dX10_meet_35 ?_
        refine zg_iload_n X 2 rfl dX10_meet_36 ?_
        refine zg_cVi (As := [.int p1, .int p2]) (st := []) X hv11 rfl (by decide) rfl (t_X6_meeting l d L kd κ 1 _ hI v11 hv11 p1 p2 (by omega) (by omega)) mk_X10_336 mc_X6_meeting mz_X6 mi_X6_meeting ml_X6_meeting (na := 2) ⟨md_X6.1, md_X6.2, by decide +kernel⟩ rfl ⟨by decide, by decide⟩ (Nat.le_of_ble_eq_true rfl) dX10_meet_37 (fun v12 σ hI => ?_)
        obtain ⟨hv12, hI⟩ := hI
        refine zg_istore X [(4, .int v12), (0, .ref a0), (1, .int p1), (2, .int p2), (3, .int p3)] dX10_meet_40 (by decide) rfl ?_
        refine zg_iload_n X 4 rfl dX10_meet_42 ?_
        refine zg_if_ne X 51 dX10_meet_43 (by decide) (fun c13 => ?_) (fun c13 => ?_)
        · skip
          refine zg_aload_n X 1 rfl dX10_meet_51 ?_
          refine fg_X10_34 X hI ha0 dX10_meet_52 (fun v14 _ hv14 => ?_)
          refine fg_X10_138 X hI hv14 dX10_meet_55 (fun v15 _ hv15 => ?_)
          refine zg_iload_n X 2 rfl dX10_meet_58 ?_
          refine ag_35 X hI hv15 (by omega) (by omega) dX10_meet_59 (fun v16 _ _ => ?_)
          refine zg_aload_n X 1 rfl dX10_meet_60 ?_
          refine fg_X10_34 X hI ha0 dX10_meet_61 (fun v17 _ hv17 => ?_)
          refine fg_X10_138 X hI hv17 dX10_meet_64 (fun v18 _ hv18 => ?_)
          refine zg_iload_n X 3 rfl dX10_meet_67 ?_
          refine ag_35 X hI hv18 (by omega) (by omega) dX10_meet_68 (fun v19 _ _ => ?_)
          refine zg_iaddW X dX10_meet_69 (fun v20 _ => ?_)
          refine zg_iconst X 2 dX10_meet_70 (by decide) (fun v21 _ hv21 => ?_)
          refine zg_aload_n X 1 rfl dX10_meet_71 ?_
          refine fg_X10_34 X hI ha0 dX10_meet_72 (fun v22 _ hv22 => ?_)
          refine fg_X10_138 X hI hv22 dX10_meet_75 (fun v23 _ hv23 => ?_)
          refine zg_iload X 0 rfl dX10_meet_78 ?_
          refine ag_35 X hI hv23 (by omega) (by omega) dX10_meet_80 (fun v24 _ _ => ?_)
          refine zg_imulW X dX10_meet_81 (fun v25 _ => ?_)
          refine zg_isubW X dX10_meet_82 (fun v26 _ => ?_)
          exact ret _ _ _ _ dX10_meet_83 rfl (zi_weak hI)
        · skip
          refine zg_iload X 0 rfl dX10_meet_46 ?_
          refine zg_goto X 83 dX10_meet_48 (by decide) ?_
          exact ret _ _ _ _ dX10_meet_83 rfl (zi_weak hI)
      · skip
        refine zg_iconst X (-1) dX10_meet_25 (by decide) (fun v27 _ hv27 => ?_)
        exact ret _ _ _ _ dX10_meet_26 rfl hI
set_option maxHeartbeats 4000000 in
set_option maxRecDepth 100000 in
theorem t_X10_tell (l : Launch) (d : zD2) (L : List Nat) (kd : Nat → Nat) (κ : Int) (σ : zS) (hI : zI κ 0 L kd σ) (a0 : Nat) (ha0 : zT L kd a0 10) (p1 : Int32) (p2 : Int32) (p3 : Int32) (p4 : Int32) (hp0 : 0 ≤ p4.toInt ∧ p4.toInt ≤ 1) : zMi l yX10_tell (Cond.code yX10_tell cX10_tell 5 (some .int) :: zWL) 2 [.ref a0, .int p1, .int p2, .int p3, .int p4] d L kd σ (fun _ σ2 => zI κ 0 L kd σ2) := by
  refine zMi.of (own := RX10) (by decide +kernel) rfl rfl (Nat.le_of_ble_eq_true rfl) ?_
  intro p e s m args below meth c A Q X ret
  refine zg_lv (lv2 := [(0, .ref a0), (1, .int p1), (2, .int p2), (3, .int p3), (4, .int p4)]) rfl ?_
  refine zg_aload_n X 0 rfl dX10_tell_0 ?_
  refine zg_iload_n X 1 rfl dX10_tell_1 ?_
  refine zg_cVi (As := [.int p1]) (st := []) X ha0 rfl (by decide) rfl (t_X10_isPlace l d L kd κ 0 _ hI a0 ha0 p1 ) mk_X10_109 mc_X10_isPlace mz_X10 mi_X10_isPlace ml_X10_isPlace (na := 1) ⟨md_X10.1, md_X10.2, by decide +kernel⟩ rfl ⟨by decide, by decide⟩ (Nat.le_of_ble_eq_true rfl) dX10_tell_2 (fun v1 σ hI => ?_)
  obtain ⟨hv1, hI⟩ := hI
  refine zg_if_eq X 30 dX10_tell_5 (by decide) (fun c2 => ?_) (fun c2 => ?_)
  · skip
    refine zg_iconst X (-1) dX10_tell_30 (by decide) (fun v3 _ hv3 => ?_)
    exact ret _ _ _ _ dX10_tell_31 rfl hI
  · skip
    refine zg_iload_n X 2 rfl dX10_tell_8 ?_
    refine zg_iconst X 0 dX10_tell_9 (by decide) (fun v4 _ hv4 => ?_)
    refine zg_sipush X 9999 dX10_tell_10 (by decide) (fun v5 _ hv5 => ?_)
    refine zg_cSi (As := [.int p2, .int v4, .int v5]) (st := []) X (t_X10_isWithin l d L kd _ p2 v4 v5 ) mk_X10_229 mc_X10_isWithin mz_X10 ms_X10_isWithin (na := 3) ⟨md_X10.1, md_X10.2, by decide +kernel⟩ rfl ⟨by decide, by decide⟩ (Nat.le_of_ble_eq_true rfl) dX10_tell_13 (fun v6 σ2 hq => ?_)
    obtain ⟨hv6, rfl⟩ := hq
    refine zg_if_eq X 30 dX10_tell_16 (by decide) (fun c7 => ?_) (fun c7 => ?_)
    · skip
      refine zg_iconst X (-1) dX10_tell_30 (by decide) (fun v8 _ hv8 => ?_)
      exact ret _ _ _ _ dX10_tell_31 rfl hI
    · skip
      refine zg_iload_n X 3 rfl dX10_tell_19 ?_
      refine zg_iload_n X 2 rfl dX10_tell_20 ?_
      refine zg_sipush X 9999 dX10_tell_21 (by decide) (fun v9 _ hv9 => ?_)
      refine zg_cSi (As := [.int p3, .int p2, .int v9]) (st := []) X (t_X10_isWithin l d L kd _ p3 p2 v9 ) mk_X10_229 mc_X10_isWithin mz_X10 ms_X10_isWithin (na := 3) ⟨md_X10.1, md_X10.2, by decide +kernel⟩ rfl ⟨by decide, by decide⟩ (Nat.le_of_ble_eq_true rfl) dX10_tell_24 (fun v10 σ2 hq => ?_)
      obtain ⟨hv10, rfl⟩ := hq
      refine zg_if_ne X 32 dX10_tell_27 (by decide) (fun c11 => ?_) (fun c11 => ?_)
      · skip
        refine zg_aload_n X 0 rfl dX10_tell_32 ?_
        refine fg_X10_45 X hI ha0 dX10_tell_33 (fun v12 _ hv12 => ?_)
        refine zg_iload_n X 1 rfl dX10_tell_36 ?_
        refine zg_iload_n X 2 rfl dX10_tell_37 ?_
        refine zg_iload_n X 3 rfl dX10_tell_38 ?_
        refine zg_iload X 4 rfl dX10_tell_39 ?_
        refine zg_cVi (As := [.int p1, .int p2, .int p3, .int p4]) (st := []) X hv12 rfl (by decide) rfl (t_X2_add l d L kd κ 0 _ hI v12 hv12 p1 p2 p3 p4 (by omega) (by omega)) mk_X10_339 mc_X2_add mz_X2 mi_X2_add ml_X2_add (na := 4) ⟨md_X2.1, md_X2.2, by decide +kernel⟩ rfl ⟨by decide, by decide⟩ (Nat.le_of_ble_eq_true rfl) dX10_tell_41 (fun v13 σ hI => ?_)
        exact ret _ _ _ _ dX10_tell_44 rfl hI
      · skip
        refine zg_iconst X (-1) dX10_tell_30 (by decide) (fun v14 _ hv14 => ?_)
        exact ret _ _ _ _ dX10_tell_31 rfl hI
set_option maxHeartbeats 4000000 in
set_option maxRecDepth 100000 in
theorem t_X10_forget (l : Launch) (d : zD2) (L : List Nat) (kd : Nat → Nat) (κ : Int) (σ : zS) (hI : zI κ 0 L kd σ) (a0 : Nat) (ha0 : zT L kd a0 10) : zMi l yX10_forget (Cond.code yX10_forget cX10_forget 2 (some .int) :: zWL) 0 [.ref a0] d L kd σ (fun _ σ2 => zI κ 0 L kd σ2) := by
  refine zMi.of (own := RX10) (by decide +kernel) rfl rfl (Nat.le_of_ble_eq_true rfl) ?_
  intro p e s m args below meth c A Q X ret
  refine zg_lv (lv2 := [(0, .ref a0)]) rfl ?_
  refine zg_aload_n X 0 rfl dX10_forget_0 ?_
  refine fg_X10_45 X hI ha0 dX10_forget_1 (fun v1 _ hv1 => ?_)
  refine fg_X10_108 X hI hv1 dX10_forget_4 (fun v2 _ hv2 => ?_)
  refine zg_istore_n X [(1, .int v2), (0, .ref a0)] dX10_forget_7 (by decide) rfl ?_
  refine zg_aload_n X 1 rfl dX10_forget_8 ?_
  refine fg_X10_45 X hI ha0 dX10_forget_9 (fun v3 _ hv3 => ?_)
  refine zg_iconst X 0 dX10_forget_12 (by decide) (fun v4 _ hv4 => ?_)
  refine fp_X10_108 X hI hv3 ⟨by omega, by omega⟩ dX10_forget_13 (fun s5 es5 hI => ?_)
  refine zg_iload_n X 0 rfl dX10_forget_16 ?_
  exact ret _ _ _ _ dX10_forget_17 rfl hI
set_option maxHeartbeats 4000000 in
set_option maxRecDepth 100000 in
theorem t_X10_dyed (l : Launch) (d : zD2) (L : List Nat) (kd : Nat → Nat) (κ : Int) (σ : zS) (hI : zI κ 0 L kd σ) (a0 : Nat) (ha0 : zT L kd a0 10) (p1 : Int32) (p2 : Int32) : zMi l yX10_dyed (Cond.code yX10_dyed cX10_dyed 4 (some .int) :: zWL) 7 [.ref a0, .int p1, .int p2] d L kd σ (fun _ σ2 => zI κ 0 L kd σ2) := by
  refine zMi.of (own := RX10) (by decide +kernel) rfl rfl (Nat.le_of_ble_eq_true rfl) ?_
  intro p e s m args below meth c A Q X ret
  refine zg_lv (lv2 := [(0, .ref a0), (1, .int p1), (2, .int p2)]) rfl ?_
  refine zg_iload_n X 1 rfl dX10_dyed_0 ?_
  refine zg_iconst X 0 dX10_dyed_1 (by decide) (fun v1 _ hv1 => ?_)
  refine zg_aload_n X 0 rfl dX10_dyed_2 ?_
  refine fg_X10_45 X hI ha0 dX10_dyed_3 (fun v2 _ hv2 => ?_)
  refine fg_X10_108 X hI hv2 dX10_dyed_6 (fun v3 _ hv3 => ?_)
  refine zg_cSi (As := [.int p1, .int v1, .int v3]) (st := []) X (t_X10_isWithin l d L kd _ p1 v1 v3 ) mk_X10_229 mc_X10_isWithin mz_X10 ms_X10_isWithin (na := 3) ⟨md_X10.1, md_X10.2, by decide +kernel⟩ rfl ⟨by decide, by decide⟩ (Nat.le_of_ble_eq_true rfl) dX10_dyed_9 (fun v4 σ2 hq => ?_)
  obtain ⟨hv4, rfl⟩ := hq
  refine zg_if_eq X 24 dX10_dyed_12 (by decide) (fun c5 => ?_) (fun c5 => ?_)
  · skip
    refine zg_iconst X (-1) dX10_dyed_24 (by decide) (fun v6 _ hv6 => ?_)
    exact ret _ _ _ _ dX10_dyed_25 rfl hI
  · skip
    refine zg_iload_n X 2 rfl dX10_dyed_15 ?_
    refine zg_iconst X 0 dX10_dyed_16 (by decide) (fun v7 _ hv7 => ?_)
    refine zg_iconst X 1 dX10_dyed_17 (by decide) (fun v8 _ hv8 => ?_)
    refine zg_cSi (As := [.int p2, .int v7, .int v8]) (st := []) X (t_X10_isWithin l d L kd _ p2 v7 v8 ) mk_X10_229 mc_X10_isWithin mz_X10 ms_X10_isWithin (na := 3) ⟨md_X10.1, md_X10.2, by decide +kernel⟩ rfl ⟨by decide, by decide⟩ (Nat.le_of_ble_eq_true rfl) dX10_dyed_18 (fun v9 σ2 hq => ?_)
    obtain ⟨hv9, rfl⟩ := hq
    refine zg_if_ne X 26 dX10_dyed_21 (by decide) (fun c10 => ?_) (fun c10 => ?_)
    · skip
      refine zg_aload_n X 0 rfl dX10_dyed_26 ?_
      refine zg_cVv (As := []) (st := []) X ha0 rfl (by decide) rfl (t_X10_look l d L kd κ 0 _ hI a0 ha0 ) mk_X10_113 mc_X10_look mz_X10 mi_X10_look ml_X10_look (na := 0) ⟨md_X10.1, md_X10.2, by decide +kernel⟩ rfl ⟨by decide, by decide⟩ (Nat.le_of_ble_eq_true rfl) dX10_dyed_27 (fun σ hI => ?_)
      refine zg_aload_n X 0 rfl dX10_dyed_30 ?_
      refine fg_X10_45 X hI ha0 dX10_dyed_31 (fun v11 _ hv11 => ?_)
      refine zg_aload_n X 0 rfl dX10_dyed_34 ?_
      refine fg_X10_34 X hI ha0 dX10_dyed_35 (fun v12 _ hv12 => ?_)
      refine zg_iload_n X 1 rfl dX10_dyed_38 ?_
      refine zg_cVi (As := [.ref v12, .int p1]) (st := []) X hv11 rfl (by decide) rfl (t_X2_left l d L kd κ 1 _ hI v11 hv11 v12 hv12 p1 ) mk_X10_343 mc_X2_left mz_X2 mi_X2_left ml_X2_left (na := 2) ⟨md_X2.1, md_X2.2, by decide +kernel⟩ rfl ⟨by decide, by decide⟩ (Nat.le_of_ble_eq_true rfl) dX10_dyed_39 (fun v13 σ hI => ?_)
      refine zg_istore_n X [(3, .int v13), (0, .ref a0), (1, .int p1), (2, .int p2)] dX10_dyed_42 (by decide) rfl ?_
      refine zg_iload_n X 3 rfl dX10_dyed_43 ?_
      refine zg_if_ne X 54 dX10_dyed_44 (by decide) (fun c14 => ?_) (fun c14 => ?_)
      · skip
        refine zg_iload_n X 0 rfl dX10_dyed_54 ?_
        exact ret _ _ _ _ dX10_dyed_55 rfl (zi_weak hI)
      · skip
        refine zg_iload_n X 0 rfl dX10_dyed_47 ?_
        refine zg_cSi (As := [.int v13]) (st := []) X (t_J6_bitCount_0f7a4 l d L kd _ v13 ) mk_X10_198 mc_J6_bitCount_0f7a4 mz_J6 ms_J6_bitCount_0f7a4 (na := 1) ⟨md_J6.1, md_J6.2, by decide +kernel⟩ rfl ⟨by decide, by decide⟩ (Nat.le_of_ble_eq_true rfl) dX10_dyed_48 (fun v15 σ2 hq => ?_)
        obtain ⟨hv15, rfl⟩ := hq
        refine zg_goto X 55 dX10_dyed_51 (by decide) ?_
        exact ret _ _ _ _ dX10_dyed_55 rfl (zi_weak hI)
    · skip
      refine zg_iconst X (-1) dX10_dyed_24 (by decide) (fun v16 _ hv16 => ?_)
      exact ret _ _ _ _ dX10_dyed_25 rfl hI
set_option maxHeartbeats 4000000 in
set_option maxRecDepth 100000 in
theorem t_X10_watch (l : Launch) (d : zD2) (L : List Nat) (kd : Nat → Nat) (κ : Int) (σ : zS) (hI : zI κ 0 L kd σ) (a0 : Nat) (ha0 : zT L kd a0 10) (p1 : Int32) : zMi l yX10_watch (Cond.code yX10_watch cX10_watch 5 (some .int) :: zWL) 7 [.ref a0, .int p1] d L kd σ (fun _ σ2 => zI κ 0 L kd σ2) := by
  refine zMi.of (own := RX10) (by decide +kernel) rfl rfl (Nat.le_of_ble_eq_true rfl) ?_
  intro p e s m args below meth c A Q X ret
  refine zg_lv (lv2 := [(0, .ref a0), (1, .int p1)]) rfl ?_
  refine zg_iload_n X 1 rfl dX10_watch_0 ?_
  refine zg_iconst X 0 dX10_watch_1 (by decide) (fun v1 _ hv1 => ?_)
  refine zg_aload_n X 0 rfl dX10_watch_2 ?_
  refine fg_X10_45 X hI ha0 dX10_watch_3 (fun v2 _ hv2 => ?_)
  refine fg_X10_108 X hI hv2 dX10_watch_6 (fun v3 _ hv3 => ?_)
  refine zg_cSi (As := [.int p1, .int v1, .int v3]) (st := []) X (t_X10_isWithin l d L kd _ p1 v1 v3 ) mk_X10_229 mc_X10_isWithin mz_X10 ms_X10_isWithin (na := 3) ⟨md_X10.1, md_X10.2, by decide +kernel⟩ rfl ⟨by decide, by decide⟩ (Nat.le_of_ble_eq_true rfl) dX10_watch_9 (fun v4 σ2 hq => ?_)
  obtain ⟨hv4, rfl⟩ := hq
  refine zg_if_ne X 17 dX10_watch_12 (by decide) (fun c5 => ?_) (fun c5 => ?_)
  · skip
    refine zg_aload_n X 0 rfl dX10_watch_17 ?_
    refine zg_cVv (As := []) (st := []) X ha0 rfl (by decide) rfl (t_X10_look l d L kd κ 0 _ hI a0 ha0 ) mk_X10_113 mc_X10_look mz_X10 mi_X10_look ml_X10_look (na := 0) ⟨md_X10.1, md_X10.2, by decide +kernel⟩ rfl ⟨by decide, by decide⟩ (Nat.le_of_ble_eq_true rfl) dX10_watch_18 (fun σ hI => ?_)
    refine zg_aload_n X 0 rfl dX10_watch_21 ?_
    refine fg_X10_45 X hI ha0 dX10_watch_22 (fun v6 _ hv6 => ?_)
    refine zg_aload_n X 0 rfl dX10_watch_25 ?_
    refine fg_X10_34 X hI ha0 dX10_watch_26 (fun v7 _ hv7 => ?_)
    refine zg_iload_n X 1 rfl dX10_watch_29 ?_
    refine zg_cVi (As := [.ref v7, .int p1]) (st := []) X hv6 rfl (by decide) rfl (t_X2_left l d L kd κ 1 _ hI v6 hv6 v7 hv7 p1 ) mk_X10_343 mc_X2_left mz_X2 mi_X2_left ml_X2_left (na := 2) ⟨md_X2.1, md_X2.2, by decide +kernel⟩ rfl ⟨by decide, by decide⟩ (Nat.le_of_ble_eq_true rfl) dX10_watch_30 (fun v8 σ hI => ?_)
    refine zg_istore_n X [(2, .int v8), (0, .ref a0), (1, .int p1)] dX10_watch_33 (by decide) rfl ?_
    refine zg_iload_n X 0 rfl dX10_watch_34 ?_
    refine zg_if_ne X 41 dX10_watch_35 (by decide) (fun c9 => ?_) (fun c9 => ?_)
    · skip
      refine zg_iconst X 0 dX10_watch_41 (by decide) (fun v10 _ hv10 => ?_)
      refine zg_istore_n X [(3, .int v10), (2, .int v8), (0, .ref a0), (1, .int p1)] dX10_watch_42 (by decide) rfl ?_
      refine zg_iconst X 1 dX10_watch_43 (by decide) (fun v11 _ hv11 => ?_)
      refine zg_istore X [(4, .int v11), (3, .int v10), (2, .int v8), (0, .ref a0), (1, .int p1)] dX10_watch_44 (by decide) rfl ?_
      have Lp14 : ∀ (n : Nat) (σ : zS) (x12 : Int32) (x13 : Int32), zI κ 1 L kd σ → 0 ≤ x13.toInt ∧ x13.toInt ≤ 11 ∧ 1 ≤ x12.toInt ∧ x12.toInt ≤ 12 → (12) - x12.toInt + 1 < (n : Int) → zG d L kd A 5 p l e (k2_rm 7 (100 * 7)) s m args below meth c Q σ 46 [(4, .int x12), (3, .int x13), (2, .int v8), (0, .ref a0), (1, .int p1)] [] := by
        intro n
        induction n with
        | zero => intro σ x12 x13 hI  hxLp14 hm; exact absurd hm (by omega)
        | succ n ihLp14 =>
          intro σ x12 x13 hI  hxLp14 hmLp14
          refine zg_iload X 0 rfl dX10_watch_46 ?_
          refine zg_aload_n X 3 rfl dX10_watch_48 ?_
          refine fg_X10_70 X hI ha0 dX10_watch_49 (fun v15 _ hv15 => ?_)
          refine fg_X10_175 X hI hv15 dX10_watch_52 (fun v16 _ hv16 => ?_)
          refine zg_icmp_ge X 83 dX10_watch_55 (by decide) (fun c17 => ?_) (fun c17 => ?_)
          · skip
            refine zg_iload_n X 1 rfl dX10_watch_83 ?_
            exact ret _ _ _ _ dX10_watch_84 rfl (zi_weak hI)
          · skip
            refine zg_aload_n X 3 rfl dX10_watch_58 ?_
            refine zg_iload_n X 2 rfl dX10_watch_59 ?_
            refine zg_iload X 0 rfl dX10_watch_60 ?_
            refine zg_cVi (As := [.int v8, .int x12]) (st := []) X ha0 rfl (by decide) rfl (t_X10_leftAtWorst l d L kd κ 1 _ hI a0 ha0 v8 x12 ) mk_X10_347 mc_X10_leftAtWorst mz_X10 mi_X10_leftAtWorst ml_X10_leftAtWorst (na := 2) ⟨md_X10.1, md_X10.2, by decide +kernel⟩ rfl ⟨by decide, by decide⟩ (Nat.le_of_ble_eq_true rfl) dX10_watch_62 (fun v18 σ hI => ?_)
            refine zg_aload_n X 3 rfl dX10_watch_65 ?_
            refine zg_iload_n X 2 rfl dX10_watch_66 ?_
            refine zg_iload_n X 1 rfl dX10_watch_67 ?_
            refine zg_cVi (As := [.int v8, .int x13]) (st := [.int v18]) X ha0 rfl (by decide) rfl (t_X10_leftAtWorst l d L kd κ 1 _ hI a0 ha0 v8 x13 ) mk_X10_347 mc_X10_leftAtWorst mz_X10 mi_X10_leftAtWorst ml_X10_leftAtWorst (na := 2) ⟨md_X10.1, md_X10.2, by decide +kernel⟩ rfl ⟨by decide, by decide⟩ (Nat.le_of_ble_eq_true rfl) dX10_watch_68 (fun v19 σ hI => ?_)
            have zv18_z20 := zb_rng v18
            have zv19_z21 := zb_rng v19
            refine zg_icmp_ge X 77 dX10_watch_71 (by decide) (fun c22 => ?_) (fun c22 => ?_)
            · skip
              refine zg_iinc X 1 (fun v23 => [(4, .int v23), (3, .int x13), (2, .int v8), (0, .ref a0), (1, .int p1)]) 0 dX10_watch_77 rfl (by decide) (by decide) (by omega) (by omega) (fun _ => rfl) (fun v23 _ hv23 => ?_)
              refine zg_goto X 46 dX10_watch_80 (by decide) ?_
              refine zg_sub [0, 1, 2, 3, 4] rfl ?_
              exact ihLp14 _ v23 x13 hI  (by omega) (by omega)
            · skip
              refine zg_iload X 0 rfl dX10_watch_74 ?_
              refine zg_istore_n X [(3, .int x12), (4, .int x12), (2, .int v8), (0, .ref a0), (1, .int p1)] dX10_watch_76 (by decide) rfl ?_
              refine zg_iinc X 1 (fun v24 => [(4, .int v24), (3, .int x12), (2, .int v8), (0, .ref a0), (1, .int p1)]) 1 dX10_watch_77 rfl (by decide) (by decide) (by omega) (by omega) (fun _ => rfl) (fun v24 _ hv24 => ?_)
              refine zg_goto X 46 dX10_watch_80 (by decide) ?_
              refine zg_sub [0, 1, 2, 3, 4] rfl ?_
              exact ihLp14 _ v24 x12 hI  (by omega) (by omega)
      refine zg_sub [0, 1, 2, 3, 4] rfl ?_
      exact Lp14 (((12) - v11.toInt + 1).toNat + 1) _ v11 v10 hI  (by omega) (by omega)
    · skip
      refine zg_bipush X (-2) dX10_watch_38 (by decide) (fun v25 _ hv25 => ?_)
      exact ret _ _ _ _ dX10_watch_40 rfl (zi_weak hI)
  · skip
    refine zg_iconst X (-1) dX10_watch_15 (by decide) (fun v26 _ hv26 => ?_)
    exact ret _ _ _ _ dX10_watch_16 rfl hI
set_option maxHeartbeats 4000000 in
set_option maxRecDepth 100000 in
theorem t_X10_dams (l : Launch) (d : zD2) (L : List Nat) (kd : Nat → Nat) (κ : Int) (σ : zS) (hI : zI κ 0 L kd σ) (a0 : Nat) (ha0 : zT L kd a0 10) (p1 : Int32) (p2 : Int32) : zMi l yX10_dams (Cond.code yX10_dams cX10_dams 4 (some .int) :: zWL) 7 [.ref a0, .int p1, .int p2] d L kd σ (fun _ σ2 => zI κ 0 L kd σ2) := by
  refine zMi.of (own := RX10) (by decide +kernel) rfl rfl (Nat.le_of_ble_eq_true rfl) ?_
  intro p e s m args below meth c A Q X ret
  refine zg_lv (lv2 := [(0, .ref a0), (1, .int p1), (2, .int p2)]) rfl ?_
  refine zg_aload_n X 0 rfl dX10_dams_0 ?_
  refine zg_cVi (As := []) (st := []) X ha0 rfl (by decide) rfl (t_X10_hasMouth l d L kd κ 0 _ hI a0 ha0 ) mk_X10_277 mc_X10_hasMouth mz_X10 mi_X10_hasMouth ml_X10_hasMouth (na := 0) ⟨md_X10.1, md_X10.2, by decide +kernel⟩ rfl ⟨by decide, by decide⟩ (Nat.le_of_ble_eq_true rfl) dX10_dams_1 (fun v1 σ hI => ?_)
  obtain ⟨hv1, hI⟩ := hI
  refine zg_if_eq X 27 dX10_dams_4 (by decide) (fun c2 => ?_) (fun c2 => ?_)
  · skip
    refine zg_iconst X (-1) dX10_dams_27 (by decide) (fun v3 _ hv3 => ?_)
    exact ret _ _ _ _ dX10_dams_28 rfl hI
  · skip
    refine zg_iload_n X 1 rfl dX10_dams_7 ?_
    refine zg_iconst X 0 dX10_dams_8 (by decide) (fun v4 _ hv4 => ?_)
    refine zg_sipush X 9999 dX10_dams_9 (by decide) (fun v5 _ hv5 => ?_)
    refine zg_cSi (As := [.int p1, .int v4, .int v5]) (st := []) X (t_X10_isWithin l d L kd _ p1 v4 v5 ) mk_X10_229 mc_X10_isWithin mz_X10 ms_X10_isWithin (na := 3) ⟨md_X10.1, md_X10.2, by decide +kernel⟩ rfl ⟨by decide, by decide⟩ (Nat.le_of_ble_eq_true rfl) dX10_dams_12 (fun v6 σ2 hq => ?_)
    obtain ⟨hv6, rfl⟩ := hq
    refine zg_if_eq X 27 dX10_dams_15 (by decide) (fun c7 => ?_) (fun c7 => ?_)
    · skip
      refine zg_iconst X (-1) dX10_dams_27 (by decide) (fun v8 _ hv8 => ?_)
      exact ret _ _ _ _ dX10_dams_28 rfl hI
    · skip
      refine zg_iload_n X 2 rfl dX10_dams_18 ?_
      refine zg_iconst X (-1) dX10_dams_19 (by decide) (fun v9 _ hv9 => ?_)
      refine zg_iconst X 2 dX10_dams_20 (by decide) (fun v10 _ hv10 => ?_)
      refine zg_cSi (As := [.int p2, .int v9, .int v10]) (st := []) X (t_X10_isWithin l d L kd _ p2 v9 v10 ) mk_X10_229 mc_X10_isWithin mz_X10 ms_X10_isWithin (na := 3) ⟨md_X10.1, md_X10.2, by decide +kernel⟩ rfl ⟨by decide, by decide⟩ (Nat.le_of_ble_eq_true rfl) dX10_dams_21 (fun v11 σ2 hq => ?_)
      obtain ⟨hv11, rfl⟩ := hq
      refine zg_if_ne X 29 dX10_dams_24 (by decide) (fun c12 => ?_) (fun c12 => ?_)
      · skip
        refine zg_aload_n X 0 rfl dX10_dams_29 ?_
        refine zg_cVv (As := []) (st := []) X ha0 rfl (by decide) rfl (t_X10_look l d L kd κ 0 _ hI a0 ha0 ) mk_X10_113 mc_X10_look mz_X10 mi_X10_look ml_X10_look (na := 0) ⟨md_X10.1, md_X10.2, by decide +kernel⟩ rfl ⟨by decide, by decide⟩ (Nat.le_of_ble_eq_true rfl) dX10_dams_30 (fun σ hI => ?_)
        refine zg_aload_n X 0 rfl dX10_dams_33 ?_
        refine zg_iload_n X 1 rfl dX10_dams_34 ?_
        refine zg_cVi (As := [.int p1]) (st := []) X ha0 rfl (by decide) rfl (t_X10_fewestDams l d L kd κ _ hI a0 ha0 p1 ) mk_X10_281 mc_X10_fewestDams mz_X10 mi_X10_fewestDams ml_X10_fewestDams (na := 1) ⟨md_X10.1, md_X10.2, by decide +kernel⟩ rfl ⟨by decide, by decide⟩ (Nat.le_of_ble_eq_true rfl) dX10_dams_35 (fun v13 σ hI => ?_)
        refine zg_istore_n X [(3, .int v13), (0, .ref a0), (1, .int p1), (2, .int p2)] dX10_dams_38 (by decide) rfl ?_
        refine zg_iload_n X 0 rfl dX10_dams_39 ?_
        refine zg_iconst X (-1) dX10_dams_40 (by decide) (fun v14 _ hv14 => ?_)
        refine zg_icmp_ne X 47 dX10_dams_41 (by decide) (fun c15 => ?_) (fun c15 => ?_)
        · skip
          refine zg_iload_n X 3 rfl dX10_dams_47 ?_
          refine zg_iconst X (-1) dX10_dams_48 (by decide) (fun v16 _ hv16 => ?_)
          refine zg_icmp_ne X 59 dX10_dams_49 (by decide) (fun c17 => ?_) (fun c17 => ?_)
          · skip
            refine zg_iload_n X 0 rfl dX10_dams_59 ?_
            refine zg_iload_n X 3 rfl dX10_dams_60 ?_
            refine zg_cSi (As := [.int v13, .int p2]) (st := []) X (t_X10_bitAt l d L kd _ v13 p2 ) mk_X10_284 mc_X10_bitAt mz_X10 ms_X10_bitAt (na := 2) ⟨md_X10.1, md_X10.2, by decide +kernel⟩ rfl ⟨by decide, by decide⟩ (Nat.le_of_ble_eq_true rfl) dX10_dams_61 (fun v18 σ2 hq => ?_)
            obtain ⟨hv18, rfl⟩ := hq
            exact ret _ _ _ _ dX10_dams_64 rfl (zi_weak hI)
          · skip
            refine zg_iload_n X 0 rfl dX10_dams_52 ?_
            refine zg_cSi (As := [.int v13]) (st := []) X (t_J6_bitCount_0f7a4 l d L kd _ v13 ) mk_X10_198 mc_J6_bitCount_0f7a4 mz_J6 ms_J6_bitCount_0f7a4 (na := 1) ⟨md_J6.1, md_J6.2, by decide +kernel⟩ rfl ⟨by decide, by decide⟩ (Nat.le_of_ble_eq_true rfl) dX10_dams_53 (fun v19 σ2 hq => ?_)
            obtain ⟨hv19, rfl⟩ := hq
            refine zg_goto X 64 dX10_dams_56 (by decide) ?_
            exact ret _ _ _ _ dX10_dams_64 rfl (zi_weak hI)
        · skip
          refine zg_bipush X (-2) dX10_dams_44 (by decide) (fun v20 _ hv20 => ?_)
          exact ret _ _ _ _ dX10_dams_46 rfl (zi_weak hI)
      · skip
        refine zg_iconst X (-1) dX10_dams_27 (by decide) (fun v21 _ hv21 => ?_)
        exact ret _ _ _ _ dX10_dams_28 rfl hI
set_option maxHeartbeats 4000000 in
set_option maxRecDepth 100000 in
theorem t_X10_back (l : Launch) (d : zD2) (L : List Nat) (kd : Nat → Nat) (κ : Int) (σ : zS) (hI : zI κ 0 L kd σ) (a0 : Nat) (ha0 : zT L kd a0 10) (p1 : Int32) : zMi l yX10_back (Cond.code yX10_back cX10_back 2 (some .int) :: zWL) 0 [.ref a0, .int p1] d L kd σ (fun v σ2 => (v.toInt = -1 ∧ (p1.toInt < 0 ∨ κ < p1.toInt) ∧ zI κ 0 L kd σ2) ∨ (v.toInt = κ - p1.toInt ∧ 0 ≤ p1.toInt ∧ p1.toInt ≤ κ ∧ zI (κ - p1.toInt) 0 L kd σ2)) := by
  refine zMi.of (own := RX10) (by decide +kernel) rfl rfl (Nat.le_of_ble_eq_true rfl) ?_
  intro p e s m args below meth c A Q X ret
  refine zg_lv (lv2 := [(0, .ref a0), (1, .int p1)]) rfl ?_
  refine zg_iload_n X 1 rfl dX10_back_0 ?_
  refine zg_if_lt X 15 dX10_back_1 (by decide) (fun c1 => ?_) (fun c1 => ?_)
  · skip
    refine zg_iconst X (-1) dX10_back_15 (by decide) (fun v2 _ hv2 => ?_)
    exact ret _ _ _ _ dX10_back_16 rfl (Or.inl ⟨by omega, by omega, hI⟩)
  · skip
    refine zg_iload_n X 1 rfl dX10_back_4 ?_
    refine zg_aload_n X 0 rfl dX10_back_5 ?_
    refine fg_X10_10 X hI ha0 dX10_back_6 (fun v3 _ hv3 => ?_)
    refine fg_X10_84 X hI hv3 dX10_back_9 (fun v4 ev4 hv4 => ?_)
    have hkv4 := hI.2.2.1
    have zp1_z5 := zb_rng p1
    refine zg_icmp_le X 17 dX10_back_12 (by decide) (fun c6 => ?_) (fun c6 => ?_)
    · skip
      refine zg_aload_n X 0 rfl dX10_back_17 ?_
      refine fg_X10_10 X hI ha0 dX10_back_18 (fun v7 _ hv7 => ?_)
      refine zg_dup X dX10_back_21 rfl ?_
      refine fg_X10_84 X hI hv7 dX10_back_22 (fun v8 ev8 hv8 => ?_)
      have hkv8 := hI.2.2.1
      refine zg_iload_n X 1 rfl dX10_back_25 ?_
      refine zg_isub X dX10_back_26 (by omega) (by omega) (fun v9 _ hv9 => ?_)
      refine fq_X10_84 X hv7 dX10_back_27 (fun s10 es10 => ?_)
      have hI : zI v9.toInt 0 L kd s10 := by rw [es10]; exact zi_tape hI hv7 (by omega) (by omega)
      refine zg_aload_n X 0 rfl dX10_back_30 ?_
      refine fg_X10_10 X hI ha0 dX10_back_31 (fun v11 _ hv11 => ?_)
      refine fg_X10_84 X hI hv11 dX10_back_34 (fun v12 ev12 hv12 => ?_)
      have hkv12 := hI.2.2.1
      exact ret _ _ _ _ dX10_back_37 rfl (Or.inr ⟨by omega, by omega, by omega, zi_eq (by omega) hI⟩)
    · skip
      refine zg_iconst X (-1) dX10_back_15 (by decide) (fun v13 _ hv13 => ?_)
      exact ret _ _ _ _ dX10_back_16 rfl (Or.inl ⟨by omega, by omega, hI⟩)
set_option maxHeartbeats 4000000 in
set_option maxRecDepth 100000 in
theorem t_X10_feed (l : Launch) (d : zD2) (L : List Nat) (kd : Nat → Nat) (κ : Int) (σ : zS) (hI : zI κ 0 L kd σ) (a0 : Nat) (ha0 : zT L kd a0 10) (p1 : Int32) (p2 : Int32) (p3 : Int32) (p4 : Int32) (p5 : Int32) : zMi l yX10_feed (Cond.code yX10_feed cX10_feed 6 (some .int) :: zWL) 1 [.ref a0, .int p1, .int p2, .int p3, .int p4, .int p5] d L kd σ (fun v σ2 => (v.toInt = -1 ∧ 2000 < κ + 20 ∧ zI κ 0 L kd σ2) ∨ (v.toInt = κ + 20 ∧ κ + 20 ≤ 2000 ∧ zI (κ + 20) 0 L kd σ2)) := by
  refine zMi.of (own := RX10) (by decide +kernel) rfl rfl (Nat.le_of_ble_eq_true rfl) ?_
  intro p e s m args below meth c A Q X ret
  refine zg_lv (lv2 := [(0, .ref a0), (1, .int p1), (2, .int p2), (3, .int p3), (4, .int p4), (5, .int p5)]) rfl ?_
  refine zg_aload_n X 0 rfl dX10_feed_0 ?_
  refine fg_X10_10 X hI ha0 dX10_feed_1 (fun v1 _ hv1 => ?_)
  refine fg_X10_84 X hI hv1 dX10_feed_4 (fun v2 ev2 hv2 => ?_)
  have hkv2 := hI.2.2.1
  refine zg_bipush X 20 dX10_feed_7 (by decide) (fun v3 _ hv3 => ?_)
  refine zg_iadd X dX10_feed_9 (by omega) (by omega) (fun v4 _ hv4 => ?_)
  refine zg_sipush X 2000 dX10_feed_10 (by decide) (fun v5 _ hv5 => ?_)
  refine zg_icmp_le X 18 dX10_feed_13 (by decide) (fun c6 => ?_) (fun c6 => ?_)
  · skip
    refine zg_aload_n X 0 rfl dX10_feed_18 ?_
    refine fg_X10_10 X hI ha0 dX10_feed_19 (fun v7 _ hv7 => ?_)
    refine zg_iload_n X 1 rfl dX10_feed_22 ?_
    refine zg_cVv (As := [.int p1]) (st := []) X hv7 rfl (by decide) rfl (t_X7_append l d L kd κ 0 _ hI v7 hv7 p1 (by omega)) mk_X10_87 mc_X7_append mz_X7 mi_X7_append ml_X7_append (na := 1) ⟨md_X7.1, md_X7.2, by decide +kernel⟩ rfl ⟨by decide, by decide⟩ (Nat.le_of_ble_eq_true rfl) dX10_feed_23 (fun σ hI => ?_)
    refine zg_aload_n X 0 rfl dX10_feed_26 ?_
    refine fg_X10_10 X hI ha0 dX10_feed_27 (fun v8 _ hv8 => ?_)
    refine zg_iload_n X 2 rfl dX10_feed_30 ?_
    refine zg_cVv (As := [.int p2]) (st := []) X hv8 rfl (by decide) rfl (t_X7_append l d L kd (κ + 4) 0 _ hI v8 hv8 p2 (by omega)) mk_X10_87 mc_X7_append mz_X7 mi_X7_append ml_X7_append (na := 1) ⟨md_X7.1, md_X7.2, by decide +kernel⟩ rfl ⟨by decide, by decide⟩ (Nat.le_of_ble_eq_true rfl) dX10_feed_31 (fun σ hI => ?_)
    refine zg_aload_n X 0 rfl dX10_feed_34 ?_
    refine fg_X10_10 X hI ha0 dX10_feed_35 (fun v9 _ hv9 => ?_)
    refine zg_iload_n X 3 rfl dX10_feed_38 ?_
    refine zg_cVv (As := [.int p3]) (st := []) X hv9 rfl (by decide) rfl (t_X7_append l d L kd ((κ + 4) + 4) 0 _ hI v9 hv9 p3 (by omega)) mk_X10_87 mc_X7_append mz_X7 mi_X7_append ml_X7_append (na := 1) ⟨md_X7.1, md_X7.2, by decide +kernel⟩ rfl ⟨by decide, by decide⟩ (Nat.le_of_ble_eq_true rfl) dX10_feed_39 (fun σ hI => ?_)
    refine zg_aload_n X 0 rfl dX10_feed_42 ?_
    refine fg_X10_10 X hI ha0 dX10_feed_43 (fun v10 _ hv10 => ?_)
    refine zg_iload X 4 rfl dX10_feed_46 ?_
    refine zg_cVv (As := [.int p4]) (st := []) X hv10 rfl (by decide) rfl (t_X7_append l d L kd (((κ + 4) + 4) + 4) 0 _ hI v10 hv10 p4 (by omega)) mk_X10_87 mc_X7_append mz_X7 mi_X7_append ml_X7_append (na := 1) ⟨md_X7.1, md_X7.2, by decide +kernel⟩ rfl ⟨by decide, by decide⟩ (Nat.le_of_ble_eq_true rfl) dX10_feed_48 (fun σ hI => ?_)
    refine zg_aload_n X 0 rfl dX10_feed_51 ?_
    refine fg_X10_10 X hI ha0 dX10_feed_52 (fun v11 _ hv11 => ?_)
    refine zg_iload X 5 rfl dX10_feed_55 ?_
    refine zg_cVv (As := [.int p5]) (st := []) X hv11 rfl (by decide) rfl (t_X7_append l d L kd ((((κ + 4) + 4) + 4) + 4) 0 _ hI v11 hv11 p5 (by omega)) mk_X10_87 mc_X7_append mz_X7 mi_X7_append ml_X7_append (na := 1) ⟨md_X7.1, md_X7.2, by decide +kernel⟩ rfl ⟨by decide, by decide⟩ (Nat.le_of_ble_eq_true rfl) dX10_feed_57 (fun σ hI => ?_)
    refine zg_aload_n X 0 rfl dX10_feed_60 ?_
    refine fg_X10_10 X hI ha0 dX10_feed_61 (fun v12 _ hv12 => ?_)
    refine fg_X10_84 X hI hv12 dX10_feed_64 (fun v13 ev13 hv13 => ?_)
    have hkv13 := hI.2.2.1
    exact ret _ _ _ _ dX10_feed_67 rfl (Or.inr ⟨by omega, by omega, zi_eq (by omega) hI⟩)
  · skip
    refine zg_iconst X (-1) dX10_feed_16 (by decide) (fun v14 _ hv14 => ?_)
    exact ret _ _ _ _ dX10_feed_17 rfl (Or.inl ⟨by omega, by omega, hI⟩)
