theorem zp_zero {κ : Int} {a0 : Nat} {L : List Nat} {kd : Nat → Nat} {σ : zS} (hI : zJ κ L kd σ) (ha : zT L kd a0 11) (hz : ∀ a ∈ L, kd a ≠ 11 → ∀ j, σ.1 a j = 0) (slot : Nat) {k : Nat} (hf : zf 0 11 slot = some k) (hk : k ≠ 11) {j : Int} : zp a0 σ slot j = 0 := by
  obtain ⟨y, ey, hy⟩ := zj_ref hI ha hf
  unfold zp
  rw [ey]
  show (σ.1 y j.toNat).toInt = 0
  rw [hz y hy.1 (by rw [hy.2]; exact hk)]
  rfl
set_option maxHeartbeats 4000000 in
set_option maxRecDepth 100000 in
theorem n_X11 (l : Launch) (d : zD2) : zNewJ l yX11_init (Cond.code yX11_init cX11_init 1 none :: zWL) 10 45 11633 d [.int 0, .null, .int 0, .null, .int 0, .null, .null, .null, .null, .null, .int 0, .int 0, .int 0, .int 0, .int 0, .int 0, .int 0, .int 0, .int 0, .int 0, .null, .null, .null, .null, .null, .null, .null, .null, .null, .null, .null, .null, .int 0, .null, .null, .null, .null, .null, .int 0, .null, .null, .int 0, .int 0, .null, .int 0, .null, .null, .int 0, .null, .null, .int 0, .int 0, .null, .null, .null, .null, .int 0, .int 0, .null, .null, .null, .null, .int 0, .null, .null, .null, .null, .null, .null] := by
  refine zNewJ.of (own := RX11) (by decide +kernel) rfl rfl rfl (by decide) ?_
  intro a0 p e s m args below meth c A Q X hin ret
  have hk0 := zKz.nil
  refine zg_aload_n X 0 rfl dX11_init_0 ?_
  refine zc_obj X mo_X11_7 mo_inst mo_code dX11_init_1 ⟨by decide, Nat.le_of_ble_eq_true rfl⟩ ?_
  refine zg_aload_n X 0 rfl dX11_init_4 ?_
  refine zg_sipush X 2000 dX11_init_5 (by decide) (fun v1 _ hv1 => ?_)
  refine zc_newiZ X 101 12 0 hk0 wa_byte rfl rfl (Or.inl rfl) rfl rfl (by rw [hv1]; rfl) (by decide) (fun j => ⟨show (-128 : Int) ≤ 0 by decide, show (0 : Int) ≤ 127 by decide⟩) (fun _ => rfl) (by decide) (by decide) (by decide) ⟨by decide, by decide⟩ dX11_init_8 (fun q1 L1 kd1 s1 e1 t1 r1 hk1 => ?_)
  have X : zX d L1 kd1 A 1 p s m args c cX11_init RX11 := X
  refine zc_put (j := 1) (ty := .array .byte) (fs2 := [.int 0, .ref q1, .int 0, .null, .int 0, .null, .null, .null, .null, .null, .int 0, .int 0, .int 0, .int 0, .int 0, .int 0, .int 0, .int 0, .int 0, .int 0, .null, .null, .null, .null, .null, .null, .null, .null, .null, .null, .null, .null, .int 0, .null, .null, .null, .null, .null, .int 0, .null, .null, .int 0, .int 0, .null, .int 0, .null, .null, .int 0, .null, .null, .int 0, .int 0, .null, .null, .null, .null, .int 0, .int 0, .null, .null, .null, .null, .int 0, .null, .null, .null, .null, .null, .null]) X hin rfl (by decide) zl_in11 tyX11_ok nmX11 (zkl_X11_13) rfl (by decide +kernel) rfl rfl (Nat.le_of_ble_eq_true rfl) rfl dX11_init_10 ?_
  refine zg_aload_n X 0 rfl dX11_init_13 ?_
  refine zg_sipush X 2000 dX11_init_14 (by decide) (fun v2 _ hv2 => ?_)
  refine zc_newiZ X 103 12 0 hk1 wa_byte rfl rfl (Or.inl rfl) rfl rfl (by rw [hv2]; rfl) (by decide) (fun j => ⟨show (-128 : Int) ≤ 0 by decide, show (0 : Int) ≤ 127 by decide⟩) (fun _ => rfl) (by decide) (by decide) (by decide) ⟨by decide, by decide⟩ dX11_init_17 (fun q2 L2 kd2 s2 e2 t2 r2 hk2 => ?_)
  have X : zX d L2 kd2 A 1 p s m args c cX11_init RX11 := X
  refine zc_put (j := 3) (ty := .array .byte) (fs2 := [.int 0, .ref q1, .int 0, .ref q2, .int 0, .null, .null, .null, .null, .null, .int 0, .int 0, .int 0, .int 0, .int 0, .int 0, .int 0, .int 0, .int 0, .int 0, .null, .null, .null, .null, .null, .null, .null, .null, .null, .null, .null, .null, .int 0, .null, .null, .null, .null, .null, .int 0, .null, .null, .int 0, .int 0, .null, .int 0, .null, .null, .int 0, .null, .null, .int 0, .int 0, .null, .null, .null, .null, .int 0, .int 0, .null, .null, .null, .null, .int 0, .null, .null, .null, .null, .null, .null]) X hin rfl (by decide) zl_in11 tyX11_ok nmX11 (zkl_X11_17) rfl (by decide +kernel) rfl rfl (Nat.le_of_ble_eq_true rfl) rfl dX11_init_19 ?_
  refine zg_aload_n X 0 rfl dX11_init_22 ?_
  refine zg_sipush X 403 dX11_init_23 (by decide) (fun v3 _ hv3 => ?_)
  refine zc_newiZ X 105 13 1 hk2 wa_int rfl rfl (Or.inr (Or.inl rfl)) rfl rfl (by rw [hv3]; rfl) (by decide) (fun j => ⟨show (-2147483648 : Int) ≤ 0 by decide, show (0 : Int) ≤ 2147483647 by decide⟩) (fun _ => rfl) (by decide) (by decide) (by decide) ⟨by decide, by decide⟩ dX11_init_26 (fun q3 L3 kd3 s3 e3 t3 r3 hk3 => ?_)
  have X : zX d L3 kd3 A 1 p s m args c cX11_init RX11 := X
  refine zc_put (j := 5) (ty := .array .int) (fs2 := [.int 0, .ref q1, .int 0, .ref q2, .int 0, .ref q3, .null, .null, .null, .null, .int 0, .int 0, .int 0, .int 0, .int 0, .int 0, .int 0, .int 0, .int 0, .int 0, .null, .null, .null, .null, .null, .null, .null, .null, .null, .null, .null, .null, .int 0, .null, .null, .null, .null, .null, .int 0, .null, .null, .int 0, .int 0, .null, .int 0, .null, .null, .int 0, .null, .null, .int 0, .int 0, .null, .null, .null, .null, .int 0, .int 0, .null, .null, .null, .null, .int 0, .null, .null, .null, .null, .null, .null]) X hin rfl (by decide) zl_in11 tyX11_ok nmX11 (zkl_X11_20) rfl (by decide +kernel) rfl rfl (Nat.le_of_ble_eq_true rfl) rfl dX11_init_28 ?_
  refine zg_aload_n X 0 rfl dX11_init_31 ?_
  refine zg_sipush X 403 dX11_init_32 (by decide) (fun v4 _ hv4 => ?_)
  refine zc_newiZ X 106 13 1 hk3 wa_int rfl rfl (Or.inr (Or.inl rfl)) rfl rfl (by rw [hv4]; rfl) (by decide) (fun j => ⟨show (-2147483648 : Int) ≤ 0 by decide, show (0 : Int) ≤ 2147483647 by decide⟩) (fun _ => rfl) (by decide) (by decide) (by decide) ⟨by decide, by decide⟩ dX11_init_35 (fun q4 L4 kd4 s4 e4 t4 r4 hk4 => ?_)
  have X : zX d L4 kd4 A 1 p s m args c cX11_init RX11 := X
  refine zc_put (j := 6) (ty := .array .int) (fs2 := [.int 0, .ref q1, .int 0, .ref q2, .int 0, .ref q3, .ref q4, .null, .null, .null, .int 0, .int 0, .int 0, .int 0, .int 0, .int 0, .int 0, .int 0, .int 0, .int 0, .null, .null, .null, .null, .null, .null, .null, .null, .null, .null, .null, .null, .int 0, .null, .null, .null, .null, .null, .int 0, .null, .null, .int 0, .int 0, .null, .int 0, .null, .null, .int 0, .null, .null, .int 0, .int 0, .null, .null, .null, .null, .int 0, .int 0, .null, .null, .null, .null, .int 0, .null, .null, .null, .null, .null, .null]) X hin rfl (by decide) zl_in11 tyX11_ok nmX11 (zkl_X11_24) rfl (by decide +kernel) rfl rfl (Nat.le_of_ble_eq_true rfl) rfl dX11_init_37 ?_
  refine zg_aload_n X 0 rfl dX11_init_40 ?_
  refine zg_sipush X 403 dX11_init_41 (by decide) (fun v5 _ hv5 => ?_)
  refine zc_newiZ X 107 13 1 hk4 wa_int rfl rfl (Or.inr (Or.inl rfl)) rfl rfl (by rw [hv5]; rfl) (by decide) (fun j => ⟨show (-2147483648 : Int) ≤ 0 by decide, show (0 : Int) ≤ 2147483647 by decide⟩) (fun _ => rfl) (by decide) (by decide) (by decide) ⟨by decide, by decide⟩ dX11_init_44 (fun q5 L5 kd5 s5 e5 t5 r5 hk5 => ?_)
  have X : zX d L5 kd5 A 1 p s m args c cX11_init RX11 := X
  refine zc_put (j := 7) (ty := .array .int) (fs2 := [.int 0, .ref q1, .int 0, .ref q2, .int 0, .ref q3, .ref q4, .ref q5, .null, .null, .int 0, .int 0, .int 0, .int 0, .int 0, .int 0, .int 0, .int 0, .int 0, .int 0, .null, .null, .null, .null, .null, .null, .null, .null, .null, .null, .null, .null, .int 0, .null, .null, .null, .null, .null, .int 0, .null, .null, .int 0, .int 0, .null, .int 0, .null, .null, .int 0, .null, .null, .int 0, .int 0, .null, .null, .null, .null, .int 0, .int 0, .null, .null, .null, .null, .int 0, .null, .null, .null, .null, .null, .null]) X hin rfl (by decide) zl_in11 tyX11_ok nmX11 (zkl_X11_27) rfl (by decide +kernel) rfl rfl (Nat.le_of_ble_eq_true rfl) rfl dX11_init_46 ?_
  refine zg_aload_n X 0 rfl dX11_init_49 ?_
  refine zg_sipush X 403 dX11_init_50 (by decide) (fun v6 _ hv6 => ?_)
  refine zc_newlZ X 108 hk5 wa_long rfl rfl (by rw [hv6]; rfl) (by decide) (fun j => ⟨show (-2147483648 : Int) ≤ 0 by decide, show (0 : Int) ≤ 2147483647 by decide⟩) (fun _ => rfl) (by decide) (by decide) (by decide) ⟨by decide, by decide⟩ dX11_init_53 (fun q6 L6 kd6 s6 e6 t6 r6 z6 hk6 => ?_)
  have X : zX d L6 kd6 A 1 p s m args c cX11_init RX11 := X
  refine zc_put (j := 8) (ty := .array .long) (fs2 := [.int 0, .ref q1, .int 0, .ref q2, .int 0, .ref q3, .ref q4, .ref q5, .ref q6, .null, .int 0, .int 0, .int 0, .int 0, .int 0, .int 0, .int 0, .int 0, .int 0, .int 0, .null, .null, .null, .null, .null, .null, .null, .null, .null, .null, .null, .null, .int 0, .null, .null, .null, .null, .null, .int 0, .null, .null, .int 0, .int 0, .null, .int 0, .null, .null, .int 0, .null, .null, .int 0, .int 0, .null, .null, .null, .null, .int 0, .int 0, .null, .null, .null, .null, .int 0, .null, .null, .null, .null, .null, .null]) X hin rfl (by decide) zl_in11 tyX11_ok nmX11 (zkl_X11_30) rfl (by decide +kernel) rfl rfl (Nat.le_of_ble_eq_true rfl) rfl dX11_init_55 ?_
  refine zg_aload_n X 0 rfl dX11_init_58 ?_
  refine zg_bipush X 22 dX11_init_59 (by decide) (fun v7 _ hv7 => ?_)
  refine zc_newlZ X 109 hk6 wa_long rfl rfl (by rw [hv7]; rfl) (by decide) (fun j => ⟨show (-2147483648 : Int) ≤ 0 by decide, show (0 : Int) ≤ 2147483647 by decide⟩) (fun _ => rfl) (by decide) (by decide) (by decide) ⟨by decide, by decide⟩ dX11_init_61 (fun q7 L7 kd7 s7 e7 t7 r7 z7 hk7 => ?_)
  have X : zX d L7 kd7 A 1 p s m args c cX11_init RX11 := X
  refine zc_put (j := 9) (ty := .array .long) (fs2 := [.int 0, .ref q1, .int 0, .ref q2, .int 0, .ref q3, .ref q4, .ref q5, .ref q6, .ref q7, .int 0, .int 0, .int 0, .int 0, .int 0, .int 0, .int 0, .int 0, .int 0, .int 0, .null, .null, .null, .null, .null, .null, .null, .null, .null, .null, .null, .null, .int 0, .null, .null, .null, .null, .null, .int 0, .null, .null, .int 0, .int 0, .null, .int 0, .null, .null, .int 0, .null, .null, .int 0, .int 0, .null, .null, .null, .null, .int 0, .int 0, .null, .null, .null, .null, .int 0, .null, .null, .null, .null, .null, .null]) X hin rfl (by decide) zl_in11 tyX11_ok nmX11 (zkl_X11_34) rfl (by decide +kernel) rfl rfl (Nat.le_of_ble_eq_true rfl) rfl dX11_init_63 ?_
  refine zg_aload_n X 0 rfl dX11_init_66 ?_
  refine zg_iconst X (-1) dX11_init_67 (by decide) (fun v8 _ hv8 => ?_)
  refine zc_put (j := 17) (ty := .int) (fs2 := [.int 0, .ref q1, .int 0, .ref q2, .int 0, .ref q3, .ref q4, .ref q5, .ref q6, .ref q7, .int 0, .int 0, .int 0, .int 0, .int 0, .int 0, .int 0, .int v8, .int 0, .int 0, .null, .null, .null, .null, .null, .null, .null, .null, .null, .null, .null, .null, .int 0, .null, .null, .null, .null, .null, .int 0, .null, .null, .int 0, .int 0, .null, .int 0, .null, .null, .int 0, .null, .null, .int 0, .int 0, .null, .null, .null, .null, .int 0, .int 0, .null, .null, .null, .null, .int 0, .null, .null, .null, .null, .null, .null]) X hin rfl (by decide) zl_in11 tyX11_ok nmX11 (zkl_X11_37) rfl (by decide +kernel) rfl rfl (Nat.le_of_ble_eq_true rfl) rfl dX11_init_68 ?_
  refine zg_aload_n X 0 rfl dX11_init_71 ?_
  refine zg_bipush X 12 dX11_init_72 (by decide) (fun v9 _ hv9 => ?_)
  refine zc_newlZ X 120 hk7 wa_long rfl rfl (by rw [hv9]; rfl) (by decide) (fun j => ⟨show (-2147483648 : Int) ≤ 0 by decide, show (0 : Int) ≤ 2147483647 by decide⟩) (fun _ => rfl) (by decide) (by decide) (by decide) ⟨by decide, by decide⟩ dX11_init_74 (fun q8 L8 kd8 s8 e8 t8 r8 z8 hk8 => ?_)
  have X : zX d L8 kd8 A 1 p s m args c cX11_init RX11 := X
  refine zc_put (j := 20) (ty := .array .long) (fs2 := [.int 0, .ref q1, .int 0, .ref q2, .int 0, .ref q3, .ref q4, .ref q5, .ref q6, .ref q7, .int 0, .int 0, .int 0, .int 0, .int 0, .int 0, .int 0, .int v8, .int 0, .int 0, .ref q8, .null, .null, .null, .null, .null, .null, .null, .null, .null, .null, .null, .int 0, .null, .null, .null, .null, .null, .int 0, .null, .null, .int 0, .int 0, .null, .int 0, .null, .null, .int 0, .null, .null, .int 0, .int 0, .null, .null, .null, .null, .int 0, .int 0, .null, .null, .null, .null, .int 0, .null, .null, .null, .null, .null, .null]) X hin rfl (by decide) zl_in11 tyX11_ok nmX11 (zkl_X11_40) rfl (by decide +kernel) rfl rfl (Nat.le_of_ble_eq_true rfl) rfl dX11_init_76 ?_
  refine zg_aload_n X 0 rfl dX11_init_79 ?_
  refine zg_iconst X 2 dX11_init_80 (by decide) (fun v10 _ hv10 => ?_)
  refine zc_newiZ X 121 13 1 hk8 wa_int rfl rfl (Or.inr (Or.inl rfl)) rfl rfl (by rw [hv10]; rfl) (by decide) (fun j => ⟨show (0 : Int) ≤ 0 by decide, show (0 : Int) ≤ 12 by decide⟩) (fun _ => rfl) (by decide) (by decide) (by decide) ⟨by decide, by decide⟩ dX11_init_81 (fun q9 L9 kd9 s9 e9 t9 r9 hk9 => ?_)
  have X : zX d L9 kd9 A 1 p s m args c cX11_init RX11 := X
  refine zc_put (j := 21) (ty := .array .int) (fs2 := [.int 0, .ref q1, .int 0, .ref q2, .int 0, .ref q3, .ref q4, .ref q5, .ref q6, .ref q7, .int 0, .int 0, .int 0, .int 0, .int 0, .int 0, .int 0, .int v8, .int 0, .int 0, .ref q8, .ref q9, .null, .null, .null, .null, .null, .null, .null, .null, .null, .null, .int 0, .null, .null, .null, .null, .null, .int 0, .null, .null, .int 0, .int 0, .null, .int 0, .null, .null, .int 0, .null, .null, .int 0, .int 0, .null, .null, .null, .null, .int 0, .int 0, .null, .null, .null, .null, .int 0, .null, .null, .null, .null, .null, .null]) X hin rfl (by decide) zl_in11 tyX11_ok nmX11 (zkl_X11_43) rfl (by decide +kernel) rfl rfl (Nat.le_of_ble_eq_true rfl) rfl dX11_init_83 ?_
  refine zg_aload_n X 0 rfl dX11_init_86 ?_
  refine zg_bipush X 24 dX11_init_87 (by decide) (fun v11 _ hv11 => ?_)
  refine zc_newiZ X 122 13 1 hk9 wa_int rfl rfl (Or.inr (Or.inl rfl)) rfl rfl (by rw [hv11]; rfl) (by decide) (fun j => ⟨show (-2147483648 : Int) ≤ 0 by decide, show (0 : Int) ≤ 2147483647 by decide⟩) (fun _ => rfl) (by decide) (by decide) (by decide) ⟨by decide, by decide⟩ dX11_init_89 (fun q10 L10 kd10 s10 e10 t10 r10 hk10 => ?_)
  have X : zX d L10 kd10 A 1 p s m args c cX11_init RX11 := X
  refine zc_put (j := 22) (ty := .array .int) (fs2 := [.int 0, .ref q1, .int 0, .ref q2, .int 0, .ref q3, .ref q4, .ref q5, .ref q6, .ref q7, .int 0, .int 0, .int 0, .int 0, .int 0, .int 0, .int 0, .int v8, .int 0, .int 0, .ref q8, .ref q9, .ref q10, .null, .null, .null, .null, .null, .null, .null, .null, .null, .int 0, .null, .null, .null, .null, .null, .int 0, .null, .null, .int 0, .int 0, .null, .int 0, .null, .null, .int 0, .null, .null, .int 0, .int 0, .null, .null, .null, .null, .int 0, .int 0, .null, .null, .null, .null, .int 0, .null, .null, .null, .null, .null, .null]) X hin rfl (by decide) zl_in11 tyX11_ok nmX11 (zkl_X11_46) rfl (by decide +kernel) rfl rfl (Nat.le_of_ble_eq_true rfl) rfl dX11_init_91 ?_
  refine zg_aload_n X 0 rfl dX11_init_94 ?_
  refine zg_bipush X 24 dX11_init_95 (by decide) (fun v12 _ hv12 => ?_)
  refine zc_newiZ X 123 13 1 hk10 wa_int rfl rfl (Or.inr (Or.inl rfl)) rfl rfl (by rw [hv12]; rfl) (by decide) (fun j => ⟨show (-2147483648 : Int) ≤ 0 by decide, show (0 : Int) ≤ 2147483647 by decide⟩) (fun _ => rfl) (by decide) (by decide) (by decide) ⟨by decide, by decide⟩ dX11_init_97 (fun q11 L11 kd11 s11 e11 t11 r11 hk11 => ?_)
  have X : zX d L11 kd11 A 1 p s m args c cX11_init RX11 := X
  refine zc_put (j := 23) (ty := .array .int) (fs2 := [.int 0, .ref q1, .int 0, .ref q2, .int 0, .ref q3, .ref q4, .ref q5, .ref q6, .ref q7, .int 0, .int 0, .int 0, .int 0, .int 0, .int 0, .int 0, .int v8, .int 0, .int 0, .ref q8, .ref q9, .ref q10, .ref q11, .null, .null, .null, .null, .null, .null, .null, .null, .int 0, .null, .null, .null, .null, .null, .int 0, .null, .null, .int 0, .int 0, .null, .int 0, .null, .null, .int 0, .null, .null, .int 0, .int 0, .null, .null, .null, .null, .int 0, .int 0, .null, .null, .null, .null, .int 0, .null, .null, .null, .null, .null, .null]) X hin rfl (by decide) zl_in11 tyX11_ok nmX11 (zkl_X11_49) rfl (by decide +kernel) rfl rfl (Nat.le_of_ble_eq_true rfl) rfl dX11_init_99 ?_
  refine zg_aload_n X 0 rfl dX11_init_102 ?_
  refine zg_bipush X 24 dX11_init_103 (by decide) (fun v13 _ hv13 => ?_)
  refine zc_newiZ X 124 13 1 hk11 wa_int rfl rfl (Or.inr (Or.inl rfl)) rfl rfl (by rw [hv13]; rfl) (by decide) (fun j => ⟨show (-2147483648 : Int) ≤ 0 by decide, show (0 : Int) ≤ 2147483647 by decide⟩) (fun _ => rfl) (by decide) (by decide) (by decide) ⟨by decide, by decide⟩ dX11_init_105 (fun q12 L12 kd12 s12 e12 t12 r12 hk12 => ?_)
  have X : zX d L12 kd12 A 1 p s m args c cX11_init RX11 := X
  refine zc_put (j := 24) (ty := .array .int) (fs2 := [.int 0, .ref q1, .int 0, .ref q2, .int 0, .ref q3, .ref q4, .ref q5, .ref q6, .ref q7, .int 0, .int 0, .int 0, .int 0, .int 0, .int 0, .int 0, .int v8, .int 0, .int 0, .ref q8, .ref q9, .ref q10, .ref q11, .ref q12, .null, .null, .null, .null, .null, .null, .null, .int 0, .null, .null, .null, .null, .null, .int 0, .null, .null, .int 0, .int 0, .null, .int 0, .null, .null, .int 0, .null, .null, .int 0, .int 0, .null, .null, .null, .null, .int 0, .int 0, .null, .null, .null, .null, .int 0, .null, .null, .null, .null, .null, .null]) X hin rfl (by decide) zl_in11 tyX11_ok nmX11 (zkl_X11_52) rfl (by decide +kernel) rfl rfl (Nat.le_of_ble_eq_true rfl) rfl dX11_init_107 ?_
  refine zg_aload_n X 0 rfl dX11_init_110 ?_
  refine zg_bipush X 24 dX11_init_111 (by decide) (fun v14 _ hv14 => ?_)
  refine zc_newiZ X 125 13 1 hk12 wa_int rfl rfl (Or.inr (Or.inl rfl)) rfl rfl (by rw [hv14]; rfl) (by decide) (fun j => ⟨show (-2147483648 : Int) ≤ 0 by decide, show (0 : Int) ≤ 2147483647 by decide⟩) (fun _ => rfl) (by decide) (by decide) (by decide) ⟨by decide, by decide⟩ dX11_init_113 (fun q13 L13 kd13 s13 e13 t13 r13 hk13 => ?_)
  have X : zX d L13 kd13 A 1 p s m args c cX11_init RX11 := X
  refine zc_put (j := 25) (ty := .array .int) (fs2 := [.int 0, .ref q1, .int 0, .ref q2, .int 0, .ref q3, .ref q4, .ref q5, .ref q6, .ref q7, .int 0, .int 0, .int 0, .int 0, .int 0, .int 0, .int 0, .int v8, .int 0, .int 0, .ref q8, .ref q9, .ref q10, .ref q11, .ref q12, .ref q13, .null, .null, .null, .null, .null, .null, .int 0, .null, .null, .null, .null, .null, .int 0, .null, .null, .int 0, .int 0, .null, .int 0, .null, .null, .int 0, .null, .null, .int 0, .int 0, .null, .null, .null, .null, .int 0, .int 0, .null, .null, .null, .null, .int 0, .null, .null, .null, .null, .null, .null]) X hin rfl (by decide) zl_in11 tyX11_ok nmX11 (zkl_X11_55) rfl (by decide +kernel) rfl rfl (Nat.le_of_ble_eq_true rfl) rfl dX11_init_115 ?_
  refine zg_aload_n X 0 rfl dX11_init_118 ?_
  refine zg_iconst X 2 dX11_init_119 (by decide) (fun v15 _ hv15 => ?_)
  refine zc_newiZ X 126 13 1 hk13 wa_int rfl rfl (Or.inr (Or.inl rfl)) rfl rfl (by rw [hv15]; rfl) (by decide) (fun j => ⟨show (-2147483648 : Int) ≤ 0 by decide, show (0 : Int) ≤ 2147483647 by decide⟩) (fun _ => rfl) (by decide) (by decide) (by decide) ⟨by decide, by decide⟩ dX11_init_120 (fun q14 L14 kd14 s14 e14 t14 r14 hk14 => ?_)
  have X : zX d L14 kd14 A 1 p s m args c cX11_init RX11 := X
  refine zc_put (j := 26) (ty := .array .int) (fs2 := [.int 0, .ref q1, .int 0, .ref q2, .int 0, .ref q3, .ref q4, .ref q5, .ref q6, .ref q7, .int 0, .int 0, .int 0, .int 0, .int 0, .int 0, .int 0, .int v8, .int 0, .int 0, .ref q8, .ref q9, .ref q10, .ref q11, .ref q12, .ref q13, .ref q14, .null, .null, .null, .null, .null, .int 0, .null, .null, .null, .null, .null, .int 0, .null, .null, .int 0, .int 0, .null, .int 0, .null, .null, .int 0, .null, .null, .int 0, .int 0, .null, .null, .null, .null, .int 0, .int 0, .null, .null, .null, .null, .int 0, .null, .null, .null, .null, .null, .null]) X hin rfl (by decide) zl_in11 tyX11_ok nmX11 (zkl_X11_58) rfl (by decide +kernel) rfl rfl (Nat.le_of_ble_eq_true rfl) rfl dX11_init_122 ?_
  refine zg_aload_n X 0 rfl dX11_init_125 ?_
  refine zg_iconst X 2 dX11_init_126 (by decide) (fun v16 _ hv16 => ?_)
  refine zc_newiZ X 127 13 1 hk14 wa_int rfl rfl (Or.inr (Or.inl rfl)) rfl rfl (by rw [hv16]; rfl) (by decide) (fun j => ⟨show (-2147483648 : Int) ≤ 0 by decide, show (0 : Int) ≤ 2147483647 by decide⟩) (fun _ => rfl) (by decide) (by decide) (by decide) ⟨by decide, by decide⟩ dX11_init_127 (fun q15 L15 kd15 s15 e15 t15 r15 hk15 => ?_)
  have X : zX d L15 kd15 A 1 p s m args c cX11_init RX11 := X
  refine zc_put (j := 27) (ty := .array .int) (fs2 := [.int 0, .ref q1, .int 0, .ref q2, .int 0, .ref q3, .ref q4, .ref q5, .ref q6, .ref q7, .int 0, .int 0, .int 0, .int 0, .int 0, .int 0, .int 0, .int v8, .int 0, .int 0, .ref q8, .ref q9, .ref q10, .ref q11, .ref q12, .ref q13, .ref q14, .ref q15, .null, .null, .null, .null, .int 0, .null, .null, .null, .null, .null, .int 0, .null, .null, .int 0, .int 0, .null, .int 0, .null, .null, .int 0, .null, .null, .int 0, .int 0, .null, .null, .null, .null, .int 0, .int 0, .null, .null, .null, .null, .int 0, .null, .null, .null, .null, .null, .null]) X hin rfl (by decide) zl_in11 tyX11_ok nmX11 (zkl_X11_61) rfl (by decide +kernel) rfl rfl (Nat.le_of_ble_eq_true rfl) rfl dX11_init_129 ?_
  refine zg_aload_n X 0 rfl dX11_init_132 ?_
  refine zg_iconst X 2 dX11_init_133 (by decide) (fun v17 _ hv17 => ?_)
  refine zc_newiZ X 128 13 1 hk15 wa_int rfl rfl (Or.inr (Or.inl rfl)) rfl rfl (by rw [hv17]; rfl) (by decide) (fun j => ⟨show (-2147483648 : Int) ≤ 0 by decide, show (0 : Int) ≤ 2147483647 by decide⟩) (fun _ => rfl) (by decide) (by decide) (by decide) ⟨by decide, by decide⟩ dX11_init_134 (fun q16 L16 kd16 s16 e16 t16 r16 hk16 => ?_)
  have X : zX d L16 kd16 A 1 p s m args c cX11_init RX11 := X
  refine zc_put (j := 28) (ty := .array .int) (fs2 := [.int 0, .ref q1, .int 0, .ref q2, .int 0, .ref q3, .ref q4, .ref q5, .ref q6, .ref q7, .int 0, .int 0, .int 0, .int 0, .int 0, .int 0, .int 0, .int v8, .int 0, .int 0, .ref q8, .ref q9, .ref q10, .ref q11, .ref q12, .ref q13, .ref q14, .ref q15, .ref q16, .null, .null, .null, .int 0, .null, .null, .null, .null, .null, .int 0, .null, .null, .int 0, .int 0, .null, .int 0, .null, .null, .int 0, .null, .null, .int 0, .int 0, .null, .null, .null, .null, .int 0, .int 0, .null, .null, .null, .null, .int 0, .null, .null, .null, .null, .null, .null]) X hin rfl (by decide) zl_in11 tyX11_ok nmX11 (zkl_X11_64) rfl (by decide +kernel) rfl rfl (Nat.le_of_ble_eq_true rfl) rfl dX11_init_136 ?_
  refine zg_aload_n X 0 rfl dX11_init_139 ?_
  refine zg_iconst X 2 dX11_init_140 (by decide) (fun v18 _ hv18 => ?_)
  refine zc_newiZ X 129 13 1 hk16 wa_int rfl rfl (Or.inr (Or.inl rfl)) rfl rfl (by rw [hv18]; rfl) (by decide) (fun j => ⟨show (-2147483648 : Int) ≤ 0 by decide, show (0 : Int) ≤ 2147483647 by decide⟩) (fun _ => rfl) (by decide) (by decide) (by decide) ⟨by decide, by decide⟩ dX11_init_141 (fun q17 L17 kd17 s17 e17 t17 r17 hk17 => ?_)
  have X : zX d L17 kd17 A 1 p s m args c cX11_init RX11 := X
  refine zc_put (j := 29) (ty := .array .int) (fs2 := [.int 0, .ref q1, .int 0, .ref q2, .int 0, .ref q3, .ref q4, .ref q5, .ref q6, .ref q7, .int 0, .int 0, .int 0, .int 0, .int 0, .int 0, .int 0, .int v8, .int 0, .int 0, .ref q8, .ref q9, .ref q10, .ref q11, .ref q12, .ref q13, .ref q14, .ref q15, .ref q16, .ref q17, .null, .null, .int 0, .null, .null, .null, .null, .null, .int 0, .null, .null, .int 0, .int 0, .null, .int 0, .null, .null, .int 0, .null, .null, .int 0, .int 0, .null, .null, .null, .null, .int 0, .int 0, .null, .null, .null, .null, .int 0, .null, .null, .null, .null, .null, .null]) X hin rfl (by decide) zl_in11 tyX11_ok nmX11 (zkl_X11_67) rfl (by decide +kernel) rfl rfl (Nat.le_of_ble_eq_true rfl) rfl dX11_init_143 ?_
  refine zg_aload_n X 0 rfl dX11_init_146 ?_
  refine zg_bipush X 10 dX11_init_147 (by decide) (fun v19 _ hv19 => ?_)
  refine zc_newiZ X 130 13 1 hk17 wa_int rfl rfl (Or.inr (Or.inl rfl)) rfl rfl (by rw [hv19]; rfl) (by decide) (fun j => ⟨show (-2147483648 : Int) ≤ 0 by decide, show (0 : Int) ≤ 2147483647 by decide⟩) (fun _ => rfl) (by decide) (by decide) (by decide) ⟨by decide, by decide⟩ dX11_init_149 (fun q18 L18 kd18 s18 e18 t18 r18 hk18 => ?_)
  have X : zX d L18 kd18 A 1 p s m args c cX11_init RX11 := X
  refine zc_put (j := 30) (ty := .array .int) (fs2 := [.int 0, .ref q1, .int 0, .ref q2, .int 0, .ref q3, .ref q4, .ref q5, .ref q6, .ref q7, .int 0, .int 0, .int 0, .int 0, .int 0, .int 0, .int 0, .int v8, .int 0, .int 0, .ref q8, .ref q9, .ref q10, .ref q11, .ref q12, .ref q13, .ref q14, .ref q15, .ref q16, .ref q17, .ref q18, .null, .int 0, .null, .null, .null, .null, .null, .int 0, .null, .null, .int 0, .int 0, .null, .int 0, .null, .null, .int 0, .null, .null, .int 0, .int 0, .null, .null, .null, .null, .int 0, .int 0, .null, .null, .null, .null, .int 0, .null, .null, .null, .null, .null, .null]) X hin rfl (by decide) zl_in11 tyX11_ok nmX11 (zkl_X11_70) rfl (by decide +kernel) rfl rfl (Nat.le_of_ble_eq_true rfl) rfl dX11_init_151 ?_
  refine zg_aload_n X 0 rfl dX11_init_154 ?_
  refine zg_bipush X 10 dX11_init_155 (by decide) (fun v20 _ hv20 => ?_)
  refine zc_newiZ X 131 13 1 hk18 wa_int rfl rfl (Or.inr (Or.inl rfl)) rfl rfl (by rw [hv20]; rfl) (by decide) (fun j => ⟨show (-2147483648 : Int) ≤ 0 by decide, show (0 : Int) ≤ 2147483647 by decide⟩) (fun _ => rfl) (by decide) (by decide) (by decide) ⟨by decide, by decide⟩ dX11_init_157 (fun q19 L19 kd19 s19 e19 t19 r19 hk19 => ?_)
  have X : zX d L19 kd19 A 1 p s m args c cX11_init RX11 := X
  refine zc_put (j := 31) (ty := .array .int) (fs2 := [.int 0, .ref q1, .int 0, .ref q2, .int 0, .ref q3, .ref q4, .ref q5, .ref q6, .ref q7, .int 0, .int 0, .int 0, .int 0, .int 0, .int 0, .int 0, .int v8, .int 0, .int 0, .ref q8, .ref q9, .ref q10, .ref q11, .ref q12, .ref q13, .ref q14, .ref q15, .ref q16, .ref q17, .ref q18, .ref q19, .int 0, .null, .null, .null, .null, .null, .int 0, .null, .null, .int 0, .int 0, .null, .int 0, .null, .null, .int 0, .null, .null, .int 0, .int 0, .null, .null, .null, .null, .int 0, .int 0, .null, .null, .null, .null, .int 0, .null, .null, .null, .null, .null, .null]) X hin rfl (by decide) zl_in11 tyX11_ok nmX11 (zkl_X11_73) rfl (by decide +kernel) rfl rfl (Nat.le_of_ble_eq_true rfl) rfl dX11_init_159 ?_
  refine zg_aload_n X 0 rfl dX11_init_162 ?_
  refine zg_sipush X 260 dX11_init_163 (by decide) (fun v21 _ hv21 => ?_)
  refine zc_newiZ X 133 15 3 hk19 wa_boolean rfl rfl (Or.inr (Or.inr rfl)) rfl rfl (by rw [hv21]; rfl) (by decide) (fun j => ⟨show (0 : Int) ≤ 0 by decide, show (0 : Int) ≤ 1 by decide⟩) (fun _ => rfl) (by decide) (by decide) (by decide) ⟨by decide, by decide⟩ dX11_init_166 (fun q20 L20 kd20 s20 e20 t20 r20 hk20 => ?_)
  have X : zX d L20 kd20 A 1 p s m args c cX11_init RX11 := X
  refine zc_put (j := 33) (ty := .array .boolean) (fs2 := [.int 0, .ref q1, .int 0, .ref q2, .int 0, .ref q3, .ref q4, .ref q5, .ref q6, .ref q7, .int 0, .int 0, .int 0, .int 0, .int 0, .int 0, .int 0, .int v8, .int 0, .int 0, .ref q8, .ref q9, .ref q10, .ref q11, .ref q12, .ref q13, .ref q14, .ref q15, .ref q16, .ref q17, .ref q18, .ref q19, .int 0, .ref q20, .null, .null, .null, .null, .int 0, .null, .null, .int 0, .int 0, .null, .int 0, .null, .null, .int 0, .null, .null, .int 0, .int 0, .null, .null, .null, .null, .int 0, .int 0, .null, .null, .null, .null, .int 0, .null, .null, .null, .null, .null, .null]) X hin rfl (by decide) zl_in11 tyX11_ok nmX11 (zkl_X11_76) rfl (by decide +kernel) rfl rfl (Nat.le_of_ble_eq_true rfl) rfl dX11_init_168 ?_
  refine zg_aload_n X 0 rfl dX11_init_171 ?_
  refine zg_sipush X 260 dX11_init_172 (by decide) (fun v22 _ hv22 => ?_)
  refine zc_newiZ X 134 13 1 hk20 wa_int rfl rfl (Or.inr (Or.inl rfl)) rfl rfl (by rw [hv22]; rfl) (by decide) (fun j => ⟨show (-2147483648 : Int) ≤ 0 by decide, show (0 : Int) ≤ 2147483647 by decide⟩) (fun _ => rfl) (by decide) (by decide) (by decide) ⟨by decide, by decide⟩ dX11_init_175 (fun q21 L21 kd21 s21 e21 t21 r21 hk21 => ?_)
  have X : zX d L21 kd21 A 1 p s m args c cX11_init RX11 := X
  refine zc_put (j := 34) (ty := .array .int) (fs2 := [.int 0, .ref q1, .int 0, .ref q2, .int 0, .ref q3, .ref q4, .ref q5, .ref q6, .ref q7, .int 0, .int 0, .int 0, .int 0, .int 0, .int 0, .int 0, .int v8, .int 0, .int 0, .ref q8, .ref q9, .ref q10, .ref q11, .ref q12, .ref q13, .ref q14, .ref q15, .ref q16, .ref q17, .ref q18, .ref q19, .int 0, .ref q20, .ref q21, .null, .null, .null, .int 0, .null, .null, .int 0, .int 0, .null, .int 0, .null, .null, .int 0, .null, .null, .int 0, .int 0, .null, .null, .null, .null, .int 0, .int 0, .null, .null, .null, .null, .int 0, .null, .null, .null, .null, .null, .null]) X hin rfl (by decide) zl_in11 tyX11_ok nmX11 (zkl_X11_80) rfl (by decide +kernel) rfl rfl (Nat.le_of_ble_eq_true rfl) rfl dX11_init_177 ?_
  refine zg_aload_n X 0 rfl dX11_init_180 ?_
  refine zg_sipush X 260 dX11_init_181 (by decide) (fun v23 _ hv23 => ?_)
  refine zc_newiZ X 135 13 1 hk21 wa_int rfl rfl (Or.inr (Or.inl rfl)) rfl rfl (by rw [hv23]; rfl) (by decide) (fun j => ⟨show (-2147483648 : Int) ≤ 0 by decide, show (0 : Int) ≤ 2147483647 by decide⟩) (fun _ => rfl) (by decide) (by decide) (by decide) ⟨by decide, by decide⟩ dX11_init_184 (fun q22 L22 kd22 s22 e22 t22 r22 hk22 => ?_)
  have X : zX d L22 kd22 A 1 p s m args c cX11_init RX11 := X
  refine zc_put (j := 35) (ty := .array .int) (fs2 := [.int 0, .ref q1, .int 0, .ref q2, .int 0, .ref q3, .ref q4, .ref q5, .ref q6, .ref q7, .int 0, .int 0, .int 0, .int 0, .int 0, .int 0, .int 0, .int v8, .int 0, .int 0, .ref q8, .ref q9, .ref q10, .ref q11, .ref q12, .ref q13, .ref q14, .ref q15, .ref q16, .ref q17, .ref q18, .ref q19, .int 0, .ref q20, .ref q21, .ref q22, .null, .null, .int 0, .null, .null, .int 0, .int 0, .null, .int 0, .null, .null, .int 0, .null, .null, .int 0, .int 0, .null, .null, .null, .null, .int 0, .int 0, .null, .null, .null, .null, .int 0, .null, .null, .null, .null, .null, .null]) X hin rfl (by decide) zl_in11 tyX11_ok nmX11 (zkl_X11_83) rfl (by decide +kernel) rfl rfl (Nat.le_of_ble_eq_true rfl) rfl dX11_init_186 ?_
  refine zg_aload_n X 0 rfl dX11_init_189 ?_
  refine zg_sipush X 260 dX11_init_190 (by decide) (fun v24 _ hv24 => ?_)
  refine zc_newiZ X 136 13 1 hk22 wa_int rfl rfl (Or.inr (Or.inl rfl)) rfl rfl (by rw [hv24]; rfl) (by decide) (fun j => ⟨show (-2147483648 : Int) ≤ 0 by decide, show (0 : Int) ≤ 2147483647 by decide⟩) (fun _ => rfl) (by decide) (by decide) (by decide) ⟨by decide, by decide⟩ dX11_init_193 (fun q23 L23 kd23 s23 e23 t23 r23 hk23 => ?_)
  have X : zX d L23 kd23 A 1 p s m args c cX11_init RX11 := X
  refine zc_put (j := 36) (ty := .array .int) (fs2 := [.int 0, .ref q1, .int 0, .ref q2, .int 0, .ref q3, .ref q4, .ref q5, .ref q6, .ref q7, .int 0, .int 0, .int 0, .int 0, .int 0, .int 0, .int 0, .int v8, .int 0, .int 0, .ref q8, .ref q9, .ref q10, .ref q11, .ref q12, .ref q13, .ref q14, .ref q15, .ref q16, .ref q17, .ref q18, .ref q19, .int 0, .ref q20, .ref q21, .ref q22, .ref q23, .null, .int 0, .null, .null, .int 0, .int 0, .null, .int 0, .null, .null, .int 0, .null, .null, .int 0, .int 0, .null, .null, .null, .null, .int 0, .int 0, .null, .null, .null, .null, .int 0, .null, .null, .null, .null, .null, .null]) X hin rfl (by decide) zl_in11 tyX11_ok nmX11 (zkl_X11_86) rfl (by decide +kernel) rfl rfl (Nat.le_of_ble_eq_true rfl) rfl dX11_init_195 ?_
  refine zg_aload_n X 0 rfl dX11_init_198 ?_
  refine zg_sipush X 260 dX11_init_199 (by decide) (fun v25 _ hv25 => ?_)
  refine zc_newiZ X 137 13 1 hk23 wa_int rfl rfl (Or.inr (Or.inl rfl)) rfl rfl (by rw [hv25]; rfl) (by decide) (fun j => ⟨show (-2147483648 : Int) ≤ 0 by decide, show (0 : Int) ≤ 2147483647 by decide⟩) (fun _ => rfl) (by decide) (by decide) (by decide) ⟨by decide, by decide⟩ dX11_init_202 (fun q24 L24 kd24 s24 e24 t24 r24 hk24 => ?_)
  have X : zX d L24 kd24 A 1 p s m args c cX11_init RX11 := X
  refine zc_put (j := 37) (ty := .array .int) (fs2 := [.int 0, .ref q1, .int 0, .ref q2, .int 0, .ref q3, .ref q4, .ref q5, .ref q6, .ref q7, .int 0, .int 0, .int 0, .int 0, .int 0, .int 0, .int 0, .int v8, .int 0, .int 0, .ref q8, .ref q9, .ref q10, .ref q11, .ref q12, .ref q13, .ref q14, .ref q15, .ref q16, .ref q17, .ref q18, .ref q19, .int 0, .ref q20, .ref q21, .ref q22, .ref q23, .ref q24, .int 0, .null, .null, .int 0, .int 0, .null, .int 0, .null, .null, .int 0, .null, .null, .int 0, .int 0, .null, .null, .null, .null, .int 0, .int 0, .null, .null, .null, .null, .int 0, .null, .null, .null, .null, .null, .null]) X hin rfl (by decide) zl_in11 tyX11_ok nmX11 (zkl_X11_89) rfl (by decide +kernel) rfl rfl (Nat.le_of_ble_eq_true rfl) rfl dX11_init_204 ?_
  refine zg_aload_n X 0 rfl dX11_init_207 ?_
  refine zg_sipush X 840 dX11_init_208 (by decide) (fun v26 _ hv26 => ?_)
  refine zc_newiZ X 139 13 1 hk24 wa_int rfl rfl (Or.inr (Or.inl rfl)) rfl rfl (by rw [hv26]; rfl) (by decide) (fun j => ⟨show (-2147483648 : Int) ≤ 0 by decide, show (0 : Int) ≤ 2147483647 by decide⟩) (fun _ => rfl) (by decide) (by decide) (by decide) ⟨by decide, by decide⟩ dX11_init_211 (fun q25 L25 kd25 s25 e25 t25 r25 hk25 => ?_)
  have X : zX d L25 kd25 A 1 p s m args c cX11_init RX11 := X
  refine zc_put (j := 39) (ty := .array .int) (fs2 := [.int 0, .ref q1, .int 0, .ref q2, .int 0, .ref q3, .ref q4, .ref q5, .ref q6, .ref q7, .int 0, .int 0, .int 0, .int 0, .int 0, .int 0, .int 0, .int v8, .int 0, .int 0, .ref q8, .ref q9, .ref q10, .ref q11, .ref q12, .ref q13, .ref q14, .ref q15, .ref q16, .ref q17, .ref q18, .ref q19, .int 0, .ref q20, .ref q21, .ref q22, .ref q23, .ref q24, .int 0, .ref q25, .null, .int 0, .int 0, .null, .int 0, .null, .null, .int 0, .null, .null, .int 0, .int 0, .null, .null, .null, .null, .int 0, .int 0, .null, .null, .null, .null, .int 0, .null, .null, .null, .null, .null, .null]) X hin rfl (by decide) zl_in11 tyX11_ok nmX11 (zkl_X11_92) rfl (by decide +kernel) rfl rfl (Nat.le_of_ble_eq_true rfl) rfl dX11_init_213 ?_
  refine zg_aload_n X 0 rfl dX11_init_216 ?_
  refine zg_sipush X 840 dX11_init_217 (by decide) (fun v27 _ hv27 => ?_)
  refine zc_newiZ X 140 13 1 hk25 wa_int rfl rfl (Or.inr (Or.inl rfl)) rfl rfl (by rw [hv27]; rfl) (by decide) (fun j => ⟨show (-2147483648 : Int) ≤ 0 by decide, show (0 : Int) ≤ 2147483647 by decide⟩) (fun _ => rfl) (by decide) (by decide) (by decide) ⟨by decide, by decide⟩ dX11_init_220 (fun q26 L26 kd26 s26 e26 t26 r26 hk26 => ?_)
  have X : zX d L26 kd26 A 1 p s m args c cX11_init RX11 := X
  refine zc_put (j := 40) (ty := .array .int) (fs2 := [.int 0, .ref q1, .int 0, .ref q2, .int 0, .ref q3, .ref q4, .ref q5, .ref q6, .ref q7, .int 0, .int 0, .int 0, .int 0, .int 0, .int 0, .int 0, .int v8, .int 0, .int 0, .ref q8, .ref q9, .ref q10, .ref q11, .ref q12, .ref q13, .ref q14, .ref q15, .ref q16, .ref q17, .ref q18, .ref q19, .int 0, .ref q20, .ref q21, .ref q22, .ref q23, .ref q24, .int 0, .ref q25, .ref q26, .int 0, .int 0, .null, .int 0, .null, .null, .int 0, .null, .null, .int 0, .int 0, .null, .null, .null, .null, .int 0, .int 0, .null, .null, .null, .null, .int 0, .null, .null, .null, .null, .null, .null]) X hin rfl (by decide) zl_in11 tyX11_ok nmX11 (zkl_X11_95) rfl (by decide +kernel) rfl rfl (Nat.le_of_ble_eq_true rfl) rfl dX11_init_222 ?_
  refine zg_aload_n X 0 rfl dX11_init_225 ?_
  refine zg_bipush X 64 dX11_init_226 (by decide) (fun v28 _ hv28 => ?_)
  refine zc_newiZ X 143 13 1 hk26 wa_int rfl rfl (Or.inr (Or.inl rfl)) rfl rfl (by rw [hv28]; rfl) (by decide) (fun j => ⟨show (-2147483648 : Int) ≤ 0 by decide, show (0 : Int) ≤ 2147483647 by decide⟩) (fun _ => rfl) (by decide) (by decide) (by decide) ⟨by decide, by decide⟩ dX11_init_228 (fun q27 L27 kd27 s27 e27 t27 r27 hk27 => ?_)
  have X : zX d L27 kd27 A 1 p s m args c cX11_init RX11 := X
  refine zc_put (j := 43) (ty := .array .int) (fs2 := [.int 0, .ref q1, .int 0, .ref q2, .int 0, .ref q3, .ref q4, .ref q5, .ref q6, .ref q7, .int 0, .int 0, .int 0, .int 0, .int 0, .int 0, .int 0, .int v8, .int 0, .int 0, .ref q8, .ref q9, .ref q10, .ref q11, .ref q12, .ref q13, .ref q14, .ref q15, .ref q16, .ref q17, .ref q18, .ref q19, .int 0, .ref q20, .ref q21, .ref q22, .ref q23, .ref q24, .int 0, .ref q25, .ref q26, .int 0, .int 0, .ref q27, .int 0, .null, .null, .int 0, .null, .null, .int 0, .int 0, .null, .null, .null, .null, .int 0, .int 0, .null, .null, .null, .null, .int 0, .null, .null, .null, .null, .null, .null]) X hin rfl (by decide) zl_in11 tyX11_ok nmX11 (zkl_X11_98) rfl (by decide +kernel) rfl rfl (Nat.le_of_ble_eq_true rfl) rfl dX11_init_230 ?_
  refine zg_aload_n X 0 rfl dX11_init_233 ?_
  refine zg_bipush X 9 dX11_init_234 (by decide) (fun v29 _ hv29 => ?_)
  refine zc_newiZ X 145 13 1 hk27 wa_int rfl rfl (Or.inr (Or.inl rfl)) rfl rfl (by rw [hv29]; rfl) (by decide) (fun j => ⟨show (-2147483648 : Int) ≤ 0 by decide, show (0 : Int) ≤ 2147483647 by decide⟩) (fun _ => rfl) (by decide) (by decide) (by decide) ⟨by decide, by decide⟩ dX11_init_236 (fun q28 L28 kd28 s28 e28 t28 r28 hk28 => ?_)
  have X : zX d L28 kd28 A 1 p s m args c cX11_init RX11 := X
  refine zc_put (j := 45) (ty := .array .int) (fs2 := [.int 0, .ref q1, .int 0, .ref q2, .int 0, .ref q3, .ref q4, .ref q5, .ref q6, .ref q7, .int 0, .int 0, .int 0, .int 0, .int 0, .int 0, .int 0, .int v8, .int 0, .int 0, .ref q8, .ref q9, .ref q10, .ref q11, .ref q12, .ref q13, .ref q14, .ref q15, .ref q16, .ref q17, .ref q18, .ref q19, .int 0, .ref q20, .ref q21, .ref q22, .ref q23, .ref q24, .int 0, .ref q25, .ref q26, .int 0, .int 0, .ref q27, .int 0, .ref q28, .null, .int 0, .null, .null, .int 0, .int 0, .null, .null, .null, .null, .int 0, .int 0, .null, .null, .null, .null, .int 0, .null, .null, .null, .null, .null, .null]) X hin rfl (by decide) zl_in11 tyX11_ok nmX11 (zkl_X11_101) rfl (by decide +kernel) rfl rfl (Nat.le_of_ble_eq_true rfl) rfl dX11_init_238 ?_
  refine zg_aload_n X 0 rfl dX11_init_241 ?_
  refine zg_sipush X 400 dX11_init_242 (by decide) (fun v30 _ hv30 => ?_)
  refine zc_newiZ X 146 13 1 hk28 wa_int rfl rfl (Or.inr (Or.inl rfl)) rfl rfl (by rw [hv30]; rfl) (by decide) (fun j => ⟨show (-2147483648 : Int) ≤ 0 by decide, show (0 : Int) ≤ 2147483647 by decide⟩) (fun _ => rfl) (by decide) (by decide) (by decide) ⟨by decide, by decide⟩ dX11_init_245 (fun q29 L29 kd29 s29 e29 t29 r29 hk29 => ?_)
  have X : zX d L29 kd29 A 1 p s m args c cX11_init RX11 := X
  refine zc_put (j := 46) (ty := .array .int) (fs2 := [.int 0, .ref q1, .int 0, .ref q2, .int 0, .ref q3, .ref q4, .ref q5, .ref q6, .ref q7, .int 0, .int 0, .int 0, .int 0, .int 0, .int 0, .int 0, .int v8, .int 0, .int 0, .ref q8, .ref q9, .ref q10, .ref q11, .ref q12, .ref q13, .ref q14, .ref q15, .ref q16, .ref q17, .ref q18, .ref q19, .int 0, .ref q20, .ref q21, .ref q22, .ref q23, .ref q24, .int 0, .ref q25, .ref q26, .int 0, .int 0, .ref q27, .int 0, .ref q28, .ref q29, .int 0, .null, .null, .int 0, .int 0, .null, .null, .null, .null, .int 0, .int 0, .null, .null, .null, .null, .int 0, .null, .null, .null, .null, .null, .null]) X hin rfl (by decide) zl_in11 tyX11_ok nmX11 (zkl_X11_104) rfl (by decide +kernel) rfl rfl (Nat.le_of_ble_eq_true rfl) rfl dX11_init_247 ?_
  refine zg_aload_n X 0 rfl dX11_init_250 ?_
  refine zg_bipush X 50 dX11_init_251 (by decide) (fun v31 _ hv31 => ?_)
  refine zc_newiZ X 148 13 1 hk29 wa_int rfl rfl (Or.inr (Or.inl rfl)) rfl rfl (by rw [hv31]; rfl) (by decide) (fun j => ⟨show (-2147483648 : Int) ≤ 0 by decide, show (0 : Int) ≤ 2147483647 by decide⟩) (fun _ => rfl) (by decide) (by decide) (by decide) ⟨by decide, by decide⟩ dX11_init_253 (fun q30 L30 kd30 s30 e30 t30 r30 hk30 => ?_)
  have X : zX d L30 kd30 A 1 p s m args c cX11_init RX11 := X
  refine zc_put (j := 48) (ty := .array .int) (fs2 := [.int 0, .ref q1, .int 0, .ref q2, .int 0, .ref q3, .ref q4, .ref q5, .ref q6, .ref q7, .int 0, .int 0, .int 0, .int 0, .int 0, .int 0, .int 0, .int v8, .int 0, .int 0, .ref q8, .ref q9, .ref q10, .ref q11, .ref q12, .ref q13, .ref q14, .ref q15, .ref q16, .ref q17, .ref q18, .ref q19, .int 0, .ref q20, .ref q21, .ref q22, .ref q23, .ref q24, .int 0, .ref q25, .ref q26, .int 0, .int 0, .ref q27, .int 0, .ref q28, .ref q29, .int 0, .ref q30, .null, .int 0, .int 0, .null, .null, .null, .null, .int 0, .int 0, .null, .null, .null, .null, .int 0, .null, .null, .null, .null, .null, .null]) X hin rfl (by decide) zl_in11 tyX11_ok nmX11 (zkl_X11_107) rfl (by decide +kernel) rfl rfl (Nat.le_of_ble_eq_true rfl) rfl dX11_init_255 ?_
  refine zg_aload_n X 0 rfl dX11_init_258 ?_
  refine zg_bipush X 50 dX11_init_259 (by decide) (fun v32 _ hv32 => ?_)
  refine zc_newiZ X 149 13 1 hk30 wa_int rfl rfl (Or.inr (Or.inl rfl)) rfl rfl (by rw [hv32]; rfl) (by decide) (fun j => ⟨show (-2147483648 : Int) ≤ 0 by decide, show (0 : Int) ≤ 2147483647 by decide⟩) (fun _ => rfl) (by decide) (by decide) (by decide) ⟨by decide, by decide⟩ dX11_init_261 (fun q31 L31 kd31 s31 e31 t31 r31 hk31 => ?_)
  have X : zX d L31 kd31 A 1 p s m args c cX11_init RX11 := X
  refine zc_put (j := 49) (ty := .array .int) (fs2 := [.int 0, .ref q1, .int 0, .ref q2, .int 0, .ref q3, .ref q4, .ref q5, .ref q6, .ref q7, .int 0, .int 0, .int 0, .int 0, .int 0, .int 0, .int 0, .int v8, .int 0, .int 0, .ref q8, .ref q9, .ref q10, .ref q11, .ref q12, .ref q13, .ref q14, .ref q15, .ref q16, .ref q17, .ref q18, .ref q19, .int 0, .ref q20, .ref q21, .ref q22, .ref q23, .ref q24, .int 0, .ref q25, .ref q26, .int 0, .int 0, .ref q27, .int 0, .ref q28, .ref q29, .int 0, .ref q30, .ref q31, .int 0, .int 0, .null, .null, .null, .null, .int 0, .int 0, .null, .null, .null, .null, .int 0, .null, .null, .null, .null, .null, .null]) X hin rfl (by decide) zl_in11 tyX11_ok nmX11 (zkl_X11_110) rfl (by decide +kernel) rfl rfl (Nat.le_of_ble_eq_true rfl) rfl dX11_init_263 ?_
  refine zg_aload_n X 0 rfl dX11_init_266 ?_
  refine zg_bipush X 12 dX11_init_267 (by decide) (fun v33 _ hv33 => ?_)
  refine zc_newiZ X 152 13 1 hk31 wa_int rfl rfl (Or.inr (Or.inl rfl)) rfl rfl (by rw [hv33]; rfl) (by decide) (fun j => ⟨show (-2147483648 : Int) ≤ 0 by decide, show (0 : Int) ≤ 2147483647 by decide⟩) (fun _ => rfl) (by decide) (by decide) (by decide) ⟨by decide, by decide⟩ dX11_init_269 (fun q32 L32 kd32 s32 e32 t32 r32 hk32 => ?_)
  have X : zX d L32 kd32 A 1 p s m args c cX11_init RX11 := X
  refine zc_put (j := 52) (ty := .array .int) (fs2 := [.int 0, .ref q1, .int 0, .ref q2, .int 0, .ref q3, .ref q4, .ref q5, .ref q6, .ref q7, .int 0, .int 0, .int 0, .int 0, .int 0, .int 0, .int 0, .int v8, .int 0, .int 0, .ref q8, .ref q9, .ref q10, .ref q11, .ref q12, .ref q13, .ref q14, .ref q15, .ref q16, .ref q17, .ref q18, .ref q19, .int 0, .ref q20, .ref q21, .ref q22, .ref q23, .ref q24, .int 0, .ref q25, .ref q26, .int 0, .int 0, .ref q27, .int 0, .ref q28, .ref q29, .int 0, .ref q30, .ref q31, .int 0, .int 0, .ref q32, .null, .null, .null, .int 0, .int 0, .null, .null, .null, .null, .int 0, .null, .null, .null, .null, .null, .null]) X hin rfl (by decide) zl_in11 tyX11_ok nmX11 (zkl_X11_113) rfl (by decide +kernel) rfl rfl (Nat.le_of_ble_eq_true rfl) rfl dX11_init_271 ?_
  refine zg_aload_n X 0 rfl dX11_init_274 ?_
  refine zg_bipush X 12 dX11_init_275 (by decide) (fun v34 _ hv34 => ?_)
  refine zc_newiZ X 153 13 1 hk32 wa_int rfl rfl (Or.inr (Or.inl rfl)) rfl rfl (by rw [hv34]; rfl) (by decide) (fun j => ⟨show (-2147483648 : Int) ≤ 0 by decide, show (0 : Int) ≤ 2147483647 by decide⟩) (fun _ => rfl) (by decide) (by decide) (by decide) ⟨by decide, by decide⟩ dX11_init_277 (fun q33 L33 kd33 s33 e33 t33 r33 hk33 => ?_)
  have X : zX d L33 kd33 A 1 p s m args c cX11_init RX11 := X
  refine zc_put (j := 53) (ty := .array .int) (fs2 := [.int 0, .ref q1, .int 0, .ref q2, .int 0, .ref q3, .ref q4, .ref q5, .ref q6, .ref q7, .int 0, .int 0, .int 0, .int 0, .int 0, .int 0, .int 0, .int v8, .int 0, .int 0, .ref q8, .ref q9, .ref q10, .ref q11, .ref q12, .ref q13, .ref q14, .ref q15, .ref q16, .ref q17, .ref q18, .ref q19, .int 0, .ref q20, .ref q21, .ref q22, .ref q23, .ref q24, .int 0, .ref q25, .ref q26, .int 0, .int 0, .ref q27, .int 0, .ref q28, .ref q29, .int 0, .ref q30, .ref q31, .int 0, .int 0, .ref q32, .ref q33, .null, .null, .int 0, .int 0, .null, .null, .null, .null, .int 0, .null, .null, .null, .null, .null, .null]) X hin rfl (by decide) zl_in11 tyX11_ok nmX11 (zkl_X11_116) rfl (by decide +kernel) rfl rfl (Nat.le_of_ble_eq_true rfl) rfl dX11_init_279 ?_
  refine zg_aload_n X 0 rfl dX11_init_282 ?_
  refine zg_bipush X 12 dX11_init_283 (by decide) (fun v35 _ hv35 => ?_)
  refine zc_newiZ X 154 13 1 hk33 wa_int rfl rfl (Or.inr (Or.inl rfl)) rfl rfl (by rw [hv35]; rfl) (by decide) (fun j => ⟨show (-2147483648 : Int) ≤ 0 by decide, show (0 : Int) ≤ 2147483647 by decide⟩) (fun _ => rfl) (by decide) (by decide) (by decide) ⟨by decide, by decide⟩ dX11_init_285 (fun q34 L34 kd34 s34 e34 t34 r34 hk34 => ?_)
  have X : zX d L34 kd34 A 1 p s m args c cX11_init RX11 := X
  refine zc_put (j := 54) (ty := .array .int) (fs2 := [.int 0, .ref q1, .int 0, .ref q2, .int 0, .ref q3, .ref q4, .ref q5, .ref q6, .ref q7, .int 0, .int 0, .int 0, .int 0, .int 0, .int 0, .int 0, .int v8, .int 0, .int 0, .ref q8, .ref q9, .ref q10, .ref q11, .ref q12, .ref q13, .ref q14, .ref q15, .ref q16, .ref q17, .ref q18, .ref q19, .int 0, .ref q20, .ref q21, .ref q22, .ref q23, .ref q24, .int 0, .ref q25, .ref q26, .int 0, .int 0, .ref q27, .int 0, .ref q28, .ref q29, .int 0, .ref q30, .ref q31, .int 0, .int 0, .ref q32, .ref q33, .ref q34, .null, .int 0, .int 0, .null, .null, .null, .null, .int 0, .null, .null, .null, .null, .null, .null]) X hin rfl (by decide) zl_in11 tyX11_ok nmX11 (zkl_X11_119) rfl (by decide +kernel) rfl rfl (Nat.le_of_ble_eq_true rfl) rfl dX11_init_287 ?_
  refine zg_aload_n X 0 rfl dX11_init_290 ?_
  refine zg_bipush X 12 dX11_init_291 (by decide) (fun v36 _ hv36 => ?_)
  refine zc_newiZ X 155 13 1 hk34 wa_int rfl rfl (Or.inr (Or.inl rfl)) rfl rfl (by rw [hv36]; rfl) (by decide) (fun j => ⟨show (-2147483648 : Int) ≤ 0 by decide, show (0 : Int) ≤ 2147483647 by decide⟩) (fun _ => rfl) (by decide) (by decide) (by decide) ⟨by decide, by decide⟩ dX11_init_293 (fun q35 L35 kd35 s35 e35 t35 r35 hk35 => ?_)
  have X : zX d L35 kd35 A 1 p s m args c cX11_init RX11 := X
  refine zc_put (j := 55) (ty := .array .int) (fs2 := [.int 0, .ref q1, .int 0, .ref q2, .int 0, .ref q3, .ref q4, .ref q5, .ref q6, .ref q7, .int 0, .int 0, .int 0, .int 0, .int 0, .int 0, .int 0, .int v8, .int 0, .int 0, .ref q8, .ref q9, .ref q10, .ref q11, .ref q12, .ref q13, .ref q14, .ref q15, .ref q16, .ref q17, .ref q18, .ref q19, .int 0, .ref q20, .ref q21, .ref q22, .ref q23, .ref q24, .int 0, .ref q25, .ref q26, .int 0, .int 0, .ref q27, .int 0, .ref q28, .ref q29, .int 0, .ref q30, .ref q31, .int 0, .int 0, .ref q32, .ref q33, .ref q34, .ref q35, .int 0, .int 0, .null, .null, .null, .null, .int 0, .null, .null, .null, .null, .null, .null]) X hin rfl (by decide) zl_in11 tyX11_ok nmX11 (zkl_X11_122) rfl (by decide +kernel) rfl rfl (Nat.le_of_ble_eq_true rfl) rfl dX11_init_295 ?_
  refine zg_aload_n X 0 rfl dX11_init_298 ?_
  refine zg_sipush X 2000 dX11_init_299 (by decide) (fun v37 _ hv37 => ?_)
  refine zc_newiZ X 158 13 1 hk35 wa_int rfl rfl (Or.inr (Or.inl rfl)) rfl rfl (by rw [hv37]; rfl) (by decide) (fun j => ⟨show (-2147483648 : Int) ≤ 0 by decide, show (0 : Int) ≤ 2147483647 by decide⟩) (fun _ => rfl) (by decide) (by decide) (by decide) ⟨by decide, by decide⟩ dX11_init_302 (fun q36 L36 kd36 s36 e36 t36 r36 hk36 => ?_)
  have X : zX d L36 kd36 A 1 p s m args c cX11_init RX11 := X
  refine zc_put (j := 58) (ty := .array .int) (fs2 := [.int 0, .ref q1, .int 0, .ref q2, .int 0, .ref q3, .ref q4, .ref q5, .ref q6, .ref q7, .int 0, .int 0, .int 0, .int 0, .int 0, .int 0, .int 0, .int v8, .int 0, .int 0, .ref q8, .ref q9, .ref q10, .ref q11, .ref q12, .ref q13, .ref q14, .ref q15, .ref q16, .ref q17, .ref q18, .ref q19, .int 0, .ref q20, .ref q21, .ref q22, .ref q23, .ref q24, .int 0, .ref q25, .ref q26, .int 0, .int 0, .ref q27, .int 0, .ref q28, .ref q29, .int 0, .ref q30, .ref q31, .int 0, .int 0, .ref q32, .ref q33, .ref q34, .ref q35, .int 0, .int 0, .ref q36, .null, .null, .null, .int 0, .null, .null, .null, .null, .null, .null]) X hin rfl (by decide) zl_in11 tyX11_ok nmX11 (zkl_X11_125) rfl (by decide +kernel) rfl rfl (Nat.le_of_ble_eq_true rfl) rfl dX11_init_304 ?_
  refine zg_aload_n X 0 rfl dX11_init_307 ?_
  refine zg_iconst X 3 dX11_init_308 (by decide) (fun v38 _ hv38 => ?_)
  refine zc_newiZ X 159 13 1 hk36 wa_int rfl rfl (Or.inr (Or.inl rfl)) rfl rfl (by rw [hv38]; rfl) (by decide) (fun j => ⟨show (-2147483648 : Int) ≤ 0 by decide, show (0 : Int) ≤ 2147483647 by decide⟩) (fun _ => rfl) (by decide) (by decide) (by decide) ⟨by decide, by decide⟩ dX11_init_309 (fun q37 L37 kd37 s37 e37 t37 r37 hk37 => ?_)
  have X : zX d L37 kd37 A 1 p s m args c cX11_init RX11 := X
  refine zc_put (j := 59) (ty := .array .int) (fs2 := [.int 0, .ref q1, .int 0, .ref q2, .int 0, .ref q3, .ref q4, .ref q5, .ref q6, .ref q7, .int 0, .int 0, .int 0, .int 0, .int 0, .int 0, .int 0, .int v8, .int 0, .int 0, .ref q8, .ref q9, .ref q10, .ref q11, .ref q12, .ref q13, .ref q14, .ref q15, .ref q16, .ref q17, .ref q18, .ref q19, .int 0, .ref q20, .ref q21, .ref q22, .ref q23, .ref q24, .int 0, .ref q25, .ref q26, .int 0, .int 0, .ref q27, .int 0, .ref q28, .ref q29, .int 0, .ref q30, .ref q31, .int 0, .int 0, .ref q32, .ref q33, .ref q34, .ref q35, .int 0, .int 0, .ref q36, .ref q37, .null, .null, .int 0, .null, .null, .null, .null, .null, .null]) X hin rfl (by decide) zl_in11 tyX11_ok nmX11 (zkl_X11_128) rfl (by decide +kernel) rfl rfl (Nat.le_of_ble_eq_true rfl) rfl dX11_init_311 ?_
  refine zg_aload_n X 0 rfl dX11_init_314 ?_
  refine zg_bipush X 12 dX11_init_315 (by decide) (fun v39 _ hv39 => ?_)
  refine zc_newiZ X 160 13 1 hk37 wa_int rfl rfl (Or.inr (Or.inl rfl)) rfl rfl (by rw [hv39]; rfl) (by decide) (fun j => ⟨show (-2147483648 : Int) ≤ 0 by decide, show (0 : Int) ≤ 2147483647 by decide⟩) (fun _ => rfl) (by decide) (by decide) (by decide) ⟨by decide, by decide⟩ dX11_init_317 (fun q38 L38 kd38 s38 e38 t38 r38 hk38 => ?_)
  have X : zX d L38 kd38 A 1 p s m args c cX11_init RX11 := X
  refine zc_put (j := 60) (ty := .array .int) (fs2 := [.int 0, .ref q1, .int 0, .ref q2, .int 0, .ref q3, .ref q4, .ref q5, .ref q6, .ref q7, .int 0, .int 0, .int 0, .int 0, .int 0, .int 0, .int 0, .int v8, .int 0, .int 0, .ref q8, .ref q9, .ref q10, .ref q11, .ref q12, .ref q13, .ref q14, .ref q15, .ref q16, .ref q17, .ref q18, .ref q19, .int 0, .ref q20, .ref q21, .ref q22, .ref q23, .ref q24, .int 0, .ref q25, .ref q26, .int 0, .int 0, .ref q27, .int 0, .ref q28, .ref q29, .int 0, .ref q30, .ref q31, .int 0, .int 0, .ref q32, .ref q33, .ref q34, .ref q35, .int 0, .int 0, .ref q36, .ref q37, .ref q38, .null, .int 0, .null, .null, .null, .null, .null, .null]) X hin rfl (by decide) zl_in11 tyX11_ok nmX11 (zkl_X11_131) rfl (by decide +kernel) rfl rfl (Nat.le_of_ble_eq_true rfl) rfl dX11_init_319 ?_
  refine zg_aload_n X 0 rfl dX11_init_322 ?_
  refine zg_bipush X 12 dX11_init_323 (by decide) (fun v40 _ hv40 => ?_)
  refine zc_newiZ X 161 13 1 hk38 wa_int rfl rfl (Or.inr (Or.inl rfl)) rfl rfl (by rw [hv40]; rfl) (by decide) (fun j => ⟨show (-2147483648 : Int) ≤ 0 by decide, show (0 : Int) ≤ 2147483647 by decide⟩) (fun _ => rfl) (by decide) (by decide) (by decide) ⟨by decide, by decide⟩ dX11_init_325 (fun q39 L39 kd39 s39 e39 t39 r39 hk39 => ?_)
  have X : zX d L39 kd39 A 1 p s m args c cX11_init RX11 := X
  refine zc_put (j := 61) (ty := .array .int) (fs2 := [.int 0, .ref q1, .int 0, .ref q2, .int 0, .ref q3, .ref q4, .ref q5, .ref q6, .ref q7, .int 0, .int 0, .int 0, .int 0, .int 0, .int 0, .int 0, .int v8, .int 0, .int 0, .ref q8, .ref q9, .ref q10, .ref q11, .ref q12, .ref q13, .ref q14, .ref q15, .ref q16, .ref q17, .ref q18, .ref q19, .int 0, .ref q20, .ref q21, .ref q22, .ref q23, .ref q24, .int 0, .ref q25, .ref q26, .int 0, .int 0, .ref q27, .int 0, .ref q28, .ref q29, .int 0, .ref q30, .ref q31, .int 0, .int 0, .ref q32, .ref q33, .ref q34, .ref q35, .int 0, .int 0, .ref q36, .ref q37, .ref q38, .ref q39, .int 0, .null, .null, .null, .null, .null, .null]) X hin rfl (by decide) zl_in11 tyX11_ok nmX11 (zkl_X11_134) rfl (by decide +kernel) rfl rfl (Nat.le_of_ble_eq_true rfl) rfl dX11_init_327 ?_
  refine zg_aload_n X 0 rfl dX11_init_330 ?_
  refine zg_bipush X 20 dX11_init_331 (by decide) (fun v41 _ hv41 => ?_)
  refine zc_newiZ X 163 13 1 hk39 wa_int rfl rfl (Or.inr (Or.inl rfl)) rfl rfl (by rw [hv41]; rfl) (by decide) (fun j => ⟨show (0 : Int) ≤ 0 by decide, show (0 : Int) ≤ 11 by decide⟩) (fun _ => rfl) (by decide) (by decide) (by decide) ⟨by decide, by decide⟩ dX11_init_333 (fun q40 L40 kd40 s40 e40 t40 r40 hk40 => ?_)
  have X : zX d L40 kd40 A 1 p s m args c cX11_init RX11 := X
  refine zc_put (j := 63) (ty := .array .int) (fs2 := [.int 0, .ref q1, .int 0, .ref q2, .int 0, .ref q3, .ref q4, .ref q5, .ref q6, .ref q7, .int 0, .int 0, .int 0, .int 0, .int 0, .int 0, .int 0, .int v8, .int 0, .int 0, .ref q8, .ref q9, .ref q10, .ref q11, .ref q12, .ref q13, .ref q14, .ref q15, .ref q16, .ref q17, .ref q18, .ref q19, .int 0, .ref q20, .ref q21, .ref q22, .ref q23, .ref q24, .int 0, .ref q25, .ref q26, .int 0, .int 0, .ref q27, .int 0, .ref q28, .ref q29, .int 0, .ref q30, .ref q31, .int 0, .int 0, .ref q32, .ref q33, .ref q34, .ref q35, .int 0, .int 0, .ref q36, .ref q37, .ref q38, .ref q39, .int 0, .ref q40, .null, .null, .null, .null, .null]) X hin rfl (by decide) zl_in11 tyX11_ok nmX11 (zkl_X11_137) rfl (by decide +kernel) rfl rfl (Nat.le_of_ble_eq_true rfl) rfl dX11_init_335 ?_
  refine zg_aload_n X 0 rfl dX11_init_338 ?_
  refine zg_bipush X 20 dX11_init_339 (by decide) (fun v42 _ hv42 => ?_)
  refine zc_newiZ X 164 13 1 hk40 wa_int rfl rfl (Or.inr (Or.inl rfl)) rfl rfl (by rw [hv42]; rfl) (by decide) (fun j => ⟨show (-2147483648 : Int) ≤ 0 by decide, show (0 : Int) ≤ 2147483647 by decide⟩) (fun _ => rfl) (by decide) (by decide) (by decide) ⟨by decide, by decide⟩ dX11_init_341 (fun q41 L41 kd41 s41 e41 t41 r41 hk41 => ?_)
  have X : zX d L41 kd41 A 1 p s m args c cX11_init RX11 := X
  refine zc_put (j := 64) (ty := .array .int) (fs2 := [.int 0, .ref q1, .int 0, .ref q2, .int 0, .ref q3, .ref q4, .ref q5, .ref q6, .ref q7, .int 0, .int 0, .int 0, .int 0, .int 0, .int 0, .int 0, .int v8, .int 0, .int 0, .ref q8, .ref q9, .ref q10, .ref q11, .ref q12, .ref q13, .ref q14, .ref q15, .ref q16, .ref q17, .ref q18, .ref q19, .int 0, .ref q20, .ref q21, .ref q22, .ref q23, .ref q24, .int 0, .ref q25, .ref q26, .int 0, .int 0, .ref q27, .int 0, .ref q28, .ref q29, .int 0, .ref q30, .ref q31, .int 0, .int 0, .ref q32, .ref q33, .ref q34, .ref q35, .int 0, .int 0, .ref q36, .ref q37, .ref q38, .ref q39, .int 0, .ref q40, .ref q41, .null, .null, .null, .null]) X hin rfl (by decide) zl_in11 tyX11_ok nmX11 (zkl_X11_140) rfl (by decide +kernel) rfl rfl (Nat.le_of_ble_eq_true rfl) rfl dX11_init_343 ?_
  refine zg_aload_n X 0 rfl dX11_init_346 ?_
  refine zg_bipush X 20 dX11_init_347 (by decide) (fun v43 _ hv43 => ?_)
  refine zc_newiZ X 165 13 1 hk41 wa_int rfl rfl (Or.inr (Or.inl rfl)) rfl rfl (by rw [hv43]; rfl) (by decide) (fun j => ⟨show (-2147483648 : Int) ≤ 0 by decide, show (0 : Int) ≤ 2147483647 by decide⟩) (fun _ => rfl) (by decide) (by decide) (by decide) ⟨by decide, by decide⟩ dX11_init_349 (fun q42 L42 kd42 s42 e42 t42 r42 hk42 => ?_)
  have X : zX d L42 kd42 A 1 p s m args c cX11_init RX11 := X
  refine zc_put (j := 65) (ty := .array .int) (fs2 := [.int 0, .ref q1, .int 0, .ref q2, .int 0, .ref q3, .ref q4, .ref q5, .ref q6, .ref q7, .int 0, .int 0, .int 0, .int 0, .int 0, .int 0, .int 0, .int v8, .int 0, .int 0, .ref q8, .ref q9, .ref q10, .ref q11, .ref q12, .ref q13, .ref q14, .ref q15, .ref q16, .ref q17, .ref q18, .ref q19, .int 0, .ref q20, .ref q21, .ref q22, .ref q23, .ref q24, .int 0, .ref q25, .ref q26, .int 0, .int 0, .ref q27, .int 0, .ref q28, .ref q29, .int 0, .ref q30, .ref q31, .int 0, .int 0, .ref q32, .ref q33, .ref q34, .ref q35, .int 0, .int 0, .ref q36, .ref q37, .ref q38, .ref q39, .int 0, .ref q40, .ref q41, .ref q42, .null, .null, .null]) X hin rfl (by decide) zl_in11 tyX11_ok nmX11 (zkl_X11_143) rfl (by decide +kernel) rfl rfl (Nat.le_of_ble_eq_true rfl) rfl dX11_init_351 ?_
  refine zg_aload_n X 0 rfl dX11_init_354 ?_
  refine zg_bipush X 20 dX11_init_355 (by decide) (fun v44 _ hv44 => ?_)
  refine zc_newiZ X 166 15 3 hk42 wa_boolean rfl rfl (Or.inr (Or.inr rfl)) rfl rfl (by rw [hv44]; rfl) (by decide) (fun j => ⟨show (0 : Int) ≤ 0 by decide, show (0 : Int) ≤ 1 by decide⟩) (fun _ => rfl) (by decide) (by decide) (by decide) ⟨by decide, by decide⟩ dX11_init_357 (fun q43 L43 kd43 s43 e43 t43 r43 hk43 => ?_)
  have X : zX d L43 kd43 A 1 p s m args c cX11_init RX11 := X
  refine zc_put (j := 66) (ty := .array .boolean) (fs2 := [.int 0, .ref q1, .int 0, .ref q2, .int 0, .ref q3, .ref q4, .ref q5, .ref q6, .ref q7, .int 0, .int 0, .int 0, .int 0, .int 0, .int 0, .int 0, .int v8, .int 0, .int 0, .ref q8, .ref q9, .ref q10, .ref q11, .ref q12, .ref q13, .ref q14, .ref q15, .ref q16, .ref q17, .ref q18, .ref q19, .int 0, .ref q20, .ref q21, .ref q22, .ref q23, .ref q24, .int 0, .ref q25, .ref q26, .int 0, .int 0, .ref q27, .int 0, .ref q28, .ref q29, .int 0, .ref q30, .ref q31, .int 0, .int 0, .ref q32, .ref q33, .ref q34, .ref q35, .int 0, .int 0, .ref q36, .ref q37, .ref q38, .ref q39, .int 0, .ref q40, .ref q41, .ref q42, .ref q43, .null, .null]) X hin rfl (by decide) zl_in11 tyX11_ok nmX11 (zkl_X11_146) rfl (by decide +kernel) rfl rfl (Nat.le_of_ble_eq_true rfl) rfl dX11_init_359 ?_
  refine zg_aload_n X 0 rfl dX11_init_362 ?_
  refine zg_iconst X 3 dX11_init_363 (by decide) (fun v45 _ hv45 => ?_)
  refine zc_newiZ X 167 15 3 hk43 wa_boolean rfl rfl (Or.inr (Or.inr rfl)) rfl rfl (by rw [hv45]; rfl) (by decide) (fun j => ⟨show (0 : Int) ≤ 0 by decide, show (0 : Int) ≤ 1 by decide⟩) (fun _ => rfl) (by decide) (by decide) (by decide) ⟨by decide, by decide⟩ dX11_init_364 (fun q44 L44 kd44 s44 e44 t44 r44 hk44 => ?_)
  have X : zX d L44 kd44 A 1 p s m args c cX11_init RX11 := X
  refine zc_put (j := 67) (ty := .array .boolean) (fs2 := [.int 0, .ref q1, .int 0, .ref q2, .int 0, .ref q3, .ref q4, .ref q5, .ref q6, .ref q7, .int 0, .int 0, .int 0, .int 0, .int 0, .int 0, .int 0, .int v8, .int 0, .int 0, .ref q8, .ref q9, .ref q10, .ref q11, .ref q12, .ref q13, .ref q14, .ref q15, .ref q16, .ref q17, .ref q18, .ref q19, .int 0, .ref q20, .ref q21, .ref q22, .ref q23, .ref q24, .int 0, .ref q25, .ref q26, .int 0, .int 0, .ref q27, .int 0, .ref q28, .ref q29, .int 0, .ref q30, .ref q31, .int 0, .int 0, .ref q32, .ref q33, .ref q34, .ref q35, .int 0, .int 0, .ref q36, .ref q37, .ref q38, .ref q39, .int 0, .ref q40, .ref q41, .ref q42, .ref q43, .ref q44, .null]) X hin rfl (by decide) zl_in11 tyX11_ok nmX11 (zkl_X11_149) rfl (by decide +kernel) rfl rfl (Nat.le_of_ble_eq_true rfl) rfl dX11_init_366 ?_
  refine zg_aload_n X 0 rfl dX11_init_369 ?_
  refine zg_sipush X 150 dX11_init_370 (by decide) (fun v46 _ hv46 => ?_)
  refine zc_newiZ X 168 13 1 hk44 wa_int rfl rfl (Or.inr (Or.inl rfl)) rfl rfl (by rw [hv46]; rfl) (by decide) (fun j => ⟨show (-2147483648 : Int) ≤ 0 by decide, show (0 : Int) ≤ 2147483647 by decide⟩) (fun _ => rfl) (by decide) (by decide) (by decide) ⟨by decide, by decide⟩ dX11_init_373 (fun q45 L45 kd45 s45 e45 t45 r45 hk45 => ?_)
  have X : zX d L45 kd45 A 1 p s m args c cX11_init RX11 := X
  refine zc_put (j := 68) (ty := .array .int) (fs2 := [.int 0, .ref q1, .int 0, .ref q2, .int 0, .ref q3, .ref q4, .ref q5, .ref q6, .ref q7, .int 0, .int 0, .int 0, .int 0, .int 0, .int 0, .int 0, .int v8, .int 0, .int 0, .ref q8, .ref q9, .ref q10, .ref q11, .ref q12, .ref q13, .ref q14, .ref q15, .ref q16, .ref q17, .ref q18, .ref q19, .int 0, .ref q20, .ref q21, .ref q22, .ref q23, .ref q24, .int 0, .ref q25, .ref q26, .int 0, .int 0, .ref q27, .int 0, .ref q28, .ref q29, .int 0, .ref q30, .ref q31, .int 0, .int 0, .ref q32, .ref q33, .ref q34, .ref q35, .int 0, .int 0, .ref q36, .ref q37, .ref q38, .ref q39, .int 0, .ref q40, .ref q41, .ref q42, .ref q43, .ref q44, .ref q45]) X hin rfl (by decide) zl_in11 tyX11_ok nmX11 (zkl_X11_152) rfl (by decide +kernel) rfl rfl (Nat.le_of_ble_eq_true rfl) rfl dX11_init_375 ?_
  refine zc_typedJ (fun j => ([0, 0, 0, 0, 0, 0, 0, 0, 0, 0, 0, 0, 0, 0, 0, 0, 0, v8, 0, 0, 0, 0, 0, 0, 0, 0, 0, 0, 0, 0, 0, 0, 0, 0, 0, 0, 0, 0, 0, 0, 0, 0, 0, 0, 0, 0, 0, 0, 0, 0, 0, 0, 0, 0, 0, 0, 0, 0, 0, 0, 0, 0, 0, 0, 0, 0, 0, 0, 0] : List Int32).getD j 0) (fun j => ([0, 0, 0, 0, 0, 0, 0, 0, 0, 0, 0, 0, 0, 0, 0, 0, 0, 0, 0, 0, 0, 0, 0, 0, 0, 0, 0, 0, 0, 0, 0, 0, 0, 0, 0, 0, 0, 0, 0, 0, 0, 0, 0, 0, 0, 0, 0, 0, 0, 0, 0, 0, 0, 0, 0, 0, 0, 0, 0, 0, 0, 0, 0, 0, 0, 0, 0, 0, 0] : List Int64).getD j 0) (fun j => ([none, some q1, none, some q2, none, some q3, some q4, some q5, some q6, some q7, none, none, none, none, none, none, none, none, none, none, some q8, some q9, some q10, some q11, some q12, some q13, some q14, some q15, some q16, some q17, some q18, some q19, none, some q20, some q21, some q22, some q23, some q24, none, some q25, some q26, none, none, some q27, none, some q28, some q29, none, some q30, some q31, none, none, some q32, some q33, some q34, some q35, none, none, some q36, some q37, some q38, some q39, none, some q40, some q41, some q42, some q43, some q44, some q45] : List (Option Nat)).getD j none) hk45 rfl ?_ ?_ (by decide) (fun L kd σ ha0 hI hz0 hi0 => ?_)
  · intro j
    rcases zr_list (k := 11) (by decide) j with h | h
    · rw [h]; exact zb_rng _
    · rw [show ((zrl 0).filter (fun q => q.1 == 11)).map (fun q => (q.2.1, q.2.2)) = ([(2, 0, 0), (4, 0, 2000), (10, 0, 402), (11, 0, 400), (12, 0, 7), (13, 0, 2147483647), (18, 0, 1), (19, 0, 1), (32, 0, 260), (38, 0, 840), (41, 0, 1), (42, 0, 11), (44, 0, 64), (47, 0, 1), (51, 0, 1), (56, (-2), 11), (57, 0, 40), (62, 0, 20)] : List (Nat × Int × Int)) from by decide +kernel] at h
      simp only [List.mem_cons, Prod.mk.injEq, List.not_mem_nil, or_false] at h
      rcases h with ⟨rfl, h⟩ | ⟨rfl, h⟩ | ⟨rfl, h⟩ | ⟨rfl, h⟩ | ⟨rfl, h⟩ | ⟨rfl, h⟩ | ⟨rfl, h⟩ | ⟨rfl, h⟩ | ⟨rfl, h⟩ | ⟨rfl, h⟩ | ⟨rfl, h⟩ | ⟨rfl, h⟩ | ⟨rfl, h⟩ | ⟨rfl, h⟩ | ⟨rfl, h⟩ | ⟨rfl, h⟩ | ⟨rfl, h⟩ | ⟨rfl, h⟩
      · rw [h]; show (0 : Int) ≤ Int32.toInt 0 ∧ Int32.toInt 0 ≤ (0 : Int); exact ⟨by decide, by decide⟩
      · rw [h]; show (0 : Int) ≤ Int32.toInt 0 ∧ Int32.toInt 0 ≤ (2000 : Int); exact ⟨by decide, by decide⟩
      · rw [h]; show (0 : Int) ≤ Int32.toInt 0 ∧ Int32.toInt 0 ≤ (402 : Int); exact ⟨by decide, by decide⟩
      · rw [h]; show (0 : Int) ≤ Int32.toInt 0 ∧ Int32.toInt 0 ≤ (400 : Int); exact ⟨by decide, by decide⟩
      · rw [h]; show (0 : Int) ≤ Int32.toInt 0 ∧ Int32.toInt 0 ≤ (7 : Int); exact ⟨by decide, by decide⟩
      · rw [h]; show (0 : Int) ≤ Int32.toInt 0 ∧ Int32.toInt 0 ≤ (2147483647 : Int); exact ⟨by decide, by decide⟩
      · rw [h]; show (0 : Int) ≤ Int32.toInt 0 ∧ Int32.toInt 0 ≤ (1 : Int); exact ⟨by decide, by decide⟩
      · rw [h]; show (0 : Int) ≤ Int32.toInt 0 ∧ Int32.toInt 0 ≤ (1 : Int); exact ⟨by decide, by decide⟩
      · rw [h]; show (0 : Int) ≤ Int32.toInt 0 ∧ Int32.toInt 0 ≤ (260 : Int); exact ⟨by decide, by decide⟩
      · rw [h]; show (0 : Int) ≤ Int32.toInt 0 ∧ Int32.toInt 0 ≤ (840 : Int); exact ⟨by decide, by decide⟩
      · rw [h]; show (0 : Int) ≤ Int32.toInt 0 ∧ Int32.toInt 0 ≤ (1 : Int); exact ⟨by decide, by decide⟩
      · rw [h]; show (0 : Int) ≤ Int32.toInt 0 ∧ Int32.toInt 0 ≤ (11 : Int); exact ⟨by decide, by decide⟩
      · rw [h]; show (0 : Int) ≤ Int32.toInt 0 ∧ Int32.toInt 0 ≤ (64 : Int); exact ⟨by decide, by decide⟩
      · rw [h]; show (0 : Int) ≤ Int32.toInt 0 ∧ Int32.toInt 0 ≤ (1 : Int); exact ⟨by decide, by decide⟩
      · rw [h]; show (0 : Int) ≤ Int32.toInt 0 ∧ Int32.toInt 0 ≤ (1 : Int); exact ⟨by decide, by decide⟩
      · rw [h]; show ((-2) : Int) ≤ Int32.toInt 0 ∧ Int32.toInt 0 ≤ (11 : Int); exact ⟨by decide, by decide⟩
      · rw [h]; show (0 : Int) ≤ Int32.toInt 0 ∧ Int32.toInt 0 ≤ (40 : Int); exact ⟨by decide, by decide⟩
      · rw [h]; show (0 : Int) ≤ Int32.toInt 0 ∧ Int32.toInt 0 ≤ (20 : Int); exact ⟨by decide, by decide⟩
  · intro j k2 h
    have h := zf_list (by decide) h
    rw [show (zfl.filter (fun q => q.1 == 11 && q.2.2.2 == 0)).map (fun q => (q.2.1, q.2.2.1)) = ([(1, 101), (3, 103), (5, 105), (6, 106), (7, 107), (8, 108), (9, 109), (20, 120), (21, 121), (22, 122), (23, 123), (24, 124), (25, 125), (26, 126), (27, 127), (28, 128), (29, 129), (30, 130), (31, 131), (33, 133), (34, 134), (35, 135), (36, 136), (37, 137), (39, 139), (40, 140), (43, 143), (45, 145), (46, 146), (48, 148), (49, 149), (52, 152), (53, 153), (54, 154), (55, 155), (58, 158), (59, 159), (60, 160), (61, 161), (63, 163), (64, 164), (65, 165), (66, 166), (67, 167), (68, 168)] : List (Nat × Nat)) from by decide +kernel] at h
    simp only [List.mem_cons, Prod.mk.injEq, List.not_mem_nil, or_false] at h
    rcases h with ⟨rfl, rfl⟩ | ⟨rfl, rfl⟩ | ⟨rfl, rfl⟩ | ⟨rfl, rfl⟩ | ⟨rfl, rfl⟩ | ⟨rfl, rfl⟩ | ⟨rfl, rfl⟩ | ⟨rfl, rfl⟩ | ⟨rfl, rfl⟩ | ⟨rfl, rfl⟩ | ⟨rfl, rfl⟩ | ⟨rfl, rfl⟩ | ⟨rfl, rfl⟩ | ⟨rfl, rfl⟩ | ⟨rfl, rfl⟩ | ⟨rfl, rfl⟩ | ⟨rfl, rfl⟩ | ⟨rfl, rfl⟩ | ⟨rfl, rfl⟩ | ⟨rfl, rfl⟩ | ⟨rfl, rfl⟩ | ⟨rfl, rfl⟩ | ⟨rfl, rfl⟩ | ⟨rfl, rfl⟩ | ⟨rfl, rfl⟩ | ⟨rfl, rfl⟩ | ⟨rfl, rfl⟩ | ⟨rfl, rfl⟩ | ⟨rfl, rfl⟩ | ⟨rfl, rfl⟩ | ⟨rfl, rfl⟩ | ⟨rfl, rfl⟩ | ⟨rfl, rfl⟩ | ⟨rfl, rfl⟩ | ⟨rfl, rfl⟩ | ⟨rfl, rfl⟩ | ⟨rfl, rfl⟩ | ⟨rfl, rfl⟩ | ⟨rfl, rfl⟩ | ⟨rfl, rfl⟩ | ⟨rfl, rfl⟩ | ⟨rfl, rfl⟩ | ⟨rfl, rfl⟩ | ⟨rfl, rfl⟩ | ⟨rfl, rfl⟩
    · exact ⟨_, rfl, (e45.t (e44.t (e43.t (e42.t (e41.t (e40.t (e39.t (e38.t (e37.t (e36.t (e35.t (e34.t (e33.t (e32.t (e31.t (e30.t (e29.t (e28.t (e27.t (e26.t (e25.t (e24.t (e23.t (e22.t (e21.t (e20.t (e19.t (e18.t (e17.t (e16.t (e15.t (e14.t (e13.t (e12.t (e11.t (e10.t (e9.t (e8.t (e7.t (e6.t (e5.t (e4.t (e3.t (e2.t t1))))))))))))))))))))))))))))))))))))))))))))⟩
    · exact ⟨_, rfl, (e45.t (e44.t (e43.t (e42.t (e41.t (e40.t (e39.t (e38.t (e37.t (e36.t (e35.t (e34.t (e33.t (e32.t (e31.t (e30.t (e29.t (e28.t (e27.t (e26.t (e25.t (e24.t (e23.t (e22.t (e21.t (e20.t (e19.t (e18.t (e17.t (e16.t (e15.t (e14.t (e13.t (e12.t (e11.t (e10.t (e9.t (e8.t (e7.t (e6.t (e5.t (e4.t (e3.t t2)))))))))))))))))))))))))))))))))))))))))))⟩
    · exact ⟨_, rfl, (e45.t (e44.t (e43.t (e42.t (e41.t (e40.t (e39.t (e38.t (e37.t (e36.t (e35.t (e34.t (e33.t (e32.t (e31.t (e30.t (e29.t (e28.t (e27.t (e26.t (e25.t (e24.t (e23.t (e22.t (e21.t (e20.t (e19.t (e18.t (e17.t (e16.t (e15.t (e14.t (e13.t (e12.t (e11.t (e10.t (e9.t (e8.t (e7.t (e6.t (e5.t (e4.t t3))))))))))))))))))))))))))))))))))))))))))⟩
    · exact ⟨_, rfl, (e45.t (e44.t (e43.t (e42.t (e41.t (e40.t (e39.t (e38.t (e37.t (e36.t (e35.t (e34.t (e33.t (e32.t (e31.t (e30.t (e29.t (e28.t (e27.t (e26.t (e25.t (e24.t (e23.t (e22.t (e21.t (e20.t (e19.t (e18.t (e17.t (e16.t (e15.t (e14.t (e13.t (e12.t (e11.t (e10.t (e9.t (e8.t (e7.t (e6.t (e5.t t4)))))))))))))))))))))))))))))))))))))))))⟩
    · exact ⟨_, rfl, (e45.t (e44.t (e43.t (e42.t (e41.t (e40.t (e39.t (e38.t (e37.t (e36.t (e35.t (e34.t (e33.t (e32.t (e31.t (e30.t (e29.t (e28.t (e27.t (e26.t (e25.t (e24.t (e23.t (e22.t (e21.t (e20.t (e19.t (e18.t (e17.t (e16.t (e15.t (e14.t (e13.t (e12.t (e11.t (e10.t (e9.t (e8.t (e7.t (e6.t t5))))))))))))))))))))))))))))))))))))))))⟩
    · exact ⟨_, rfl, (e45.t (e44.t (e43.t (e42.t (e41.t (e40.t (e39.t (e38.t (e37.t (e36.t (e35.t (e34.t (e33.t (e32.t (e31.t (e30.t (e29.t (e28.t (e27.t (e26.t (e25.t (e24.t (e23.t (e22.t (e21.t (e20.t (e19.t (e18.t (e17.t (e16.t (e15.t (e14.t (e13.t (e12.t (e11.t (e10.t (e9.t (e8.t (e7.t t6)))))))))))))))))))))))))))))))))))))))⟩
    · exact ⟨_, rfl, (e45.t (e44.t (e43.t (e42.t (e41.t (e40.t (e39.t (e38.t (e37.t (e36.t (e35.t (e34.t (e33.t (e32.t (e31.t (e30.t (e29.t (e28.t (e27.t (e26.t (e25.t (e24.t (e23.t (e22.t (e21.t (e20.t (e19.t (e18.t (e17.t (e16.t (e15.t (e14.t (e13.t (e12.t (e11.t (e10.t (e9.t (e8.t t7))))))))))))))))))))))))))))))))))))))⟩
    · exact ⟨_, rfl, (e45.t (e44.t (e43.t (e42.t (e41.t (e40.t (e39.t (e38.t (e37.t (e36.t (e35.t (e34.t (e33.t (e32.t (e31.t (e30.t (e29.t (e28.t (e27.t (e26.t (e25.t (e24.t (e23.t (e22.t (e21.t (e20.t (e19.t (e18.t (e17.t (e16.t (e15.t (e14.t (e13.t (e12.t (e11.t (e10.t (e9.t t8)))))))))))))))))))))))))))))))))))))⟩
    · exact ⟨_, rfl, (e45.t (e44.t (e43.t (e42.t (e41.t (e40.t (e39.t (e38.t (e37.t (e36.t (e35.t (e34.t (e33.t (e32.t (e31.t (e30.t (e29.t (e28.t (e27.t (e26.t (e25.t (e24.t (e23.t (e22.t (e21.t (e20.t (e19.t (e18.t (e17.t (e16.t (e15.t (e14.t (e13.t (e12.t (e11.t (e10.t t9))))))))))))))))))))))))))))))))))))⟩
    · exact ⟨_, rfl, (e45.t (e44.t (e43.t (e42.t (e41.t (e40.t (e39.t (e38.t (e37.t (e36.t (e35.t (e34.t (e33.t (e32.t (e31.t (e30.t (e29.t (e28.t (e27.t (e26.t (e25.t (e24.t (e23.t (e22.t (e21.t (e20.t (e19.t (e18.t (e17.t (e16.t (e15.t (e14.t (e13.t (e12.t (e11.t t10)))))))))))))))))))))))))))))))))))⟩
    · exact ⟨_, rfl, (e45.t (e44.t (e43.t (e42.t (e41.t (e40.t (e39.t (e38.t (e37.t (e36.t (e35.t (e34.t (e33.t (e32.t (e31.t (e30.t (e29.t (e28.t (e27.t (e26.t (e25.t (e24.t (e23.t (e22.t (e21.t (e20.t (e19.t (e18.t (e17.t (e16.t (e15.t (e14.t (e13.t (e12.t t11))))))))))))))))))))))))))))))))))⟩
    · exact ⟨_, rfl, (e45.t (e44.t (e43.t (e42.t (e41.t (e40.t (e39.t (e38.t (e37.t (e36.t (e35.t (e34.t (e33.t (e32.t (e31.t (e30.t (e29.t (e28.t (e27.t (e26.t (e25.t (e24.t (e23.t (e22.t (e21.t (e20.t (e19.t (e18.t (e17.t (e16.t (e15.t (e14.t (e13.t t12)))))))))))))))))))))))))))))))))⟩
    · exact ⟨_, rfl, (e45.t (e44.t (e43.t (e42.t (e41.t (e40.t (e39.t (e38.t (e37.t (e36.t (e35.t (e34.t (e33.t (e32.t (e31.t (e30.t (e29.t (e28.t (e27.t (e26.t (e25.t (e24.t (e23.t (e22.t (e21.t (e20.t (e19.t (e18.t (e17.t (e16.t (e15.t (e14.t t13))))))))))))))))))))))))))))))))⟩
    · exact ⟨_, rfl, (e45.t (e44.t (e43.t (e42.t (e41.t (e40.t (e39.t (e38.t (e37.t (e36.t (e35.t (e34.t (e33.t (e32.t (e31.t (e30.t (e29.t (e28.t (e27.t (e26.t (e25.t (e24.t (e23.t (e22.t (e21.t (e20.t (e19.t (e18.t (e17.t (e16.t (e15.t t14)))))))))))))))))))))))))))))))⟩
    · exact ⟨_, rfl, (e45.t (e44.t (e43.t (e42.t (e41.t (e40.t (e39.t (e38.t (e37.t (e36.t (e35.t (e34.t (e33.t (e32.t (e31.t (e30.t (e29.t (e28.t (e27.t (e26.t (e25.t (e24.t (e23.t (e22.t (e21.t (e20.t (e19.t (e18.t (e17.t (e16.t t15))))))))))))))))))))))))))))))⟩
    · exact ⟨_, rfl, (e45.t (e44.t (e43.t (e42.t (e41.t (e40.t (e39.t (e38.t (e37.t (e36.t (e35.t (e34.t (e33.t (e32.t (e31.t (e30.t (e29.t (e28.t (e27.t (e26.t (e25.t (e24.t (e23.t (e22.t (e21.t (e20.t (e19.t (e18.t (e17.t t16)))))))))))))))))))))))))))))⟩
    · exact ⟨_, rfl, (e45.t (e44.t (e43.t (e42.t (e41.t (e40.t (e39.t (e38.t (e37.t (e36.t (e35.t (e34.t (e33.t (e32.t (e31.t (e30.t (e29.t (e28.t (e27.t (e26.t (e25.t (e24.t (e23.t (e22.t (e21.t (e20.t (e19.t (e18.t t17))))))))))))))))))))))))))))⟩
    · exact ⟨_, rfl, (e45.t (e44.t (e43.t (e42.t (e41.t (e40.t (e39.t (e38.t (e37.t (e36.t (e35.t (e34.t (e33.t (e32.t (e31.t (e30.t (e29.t (e28.t (e27.t (e26.t (e25.t (e24.t (e23.t (e22.t (e21.t (e20.t (e19.t t18)))))))))))))))))))))))))))⟩
    · exact ⟨_, rfl, (e45.t (e44.t (e43.t (e42.t (e41.t (e40.t (e39.t (e38.t (e37.t (e36.t (e35.t (e34.t (e33.t (e32.t (e31.t (e30.t (e29.t (e28.t (e27.t (e26.t (e25.t (e24.t (e23.t (e22.t (e21.t (e20.t t19))))))))))))))))))))))))))⟩
    · exact ⟨_, rfl, (e45.t (e44.t (e43.t (e42.t (e41.t (e40.t (e39.t (e38.t (e37.t (e36.t (e35.t (e34.t (e33.t (e32.t (e31.t (e30.t (e29.t (e28.t (e27.t (e26.t (e25.t (e24.t (e23.t (e22.t (e21.t t20)))))))))))))))))))))))))⟩
    · exact ⟨_, rfl, (e45.t (e44.t (e43.t (e42.t (e41.t (e40.t (e39.t (e38.t (e37.t (e36.t (e35.t (e34.t (e33.t (e32.t (e31.t (e30.t (e29.t (e28.t (e27.t (e26.t (e25.t (e24.t (e23.t (e22.t t21))))))))))))))))))))))))⟩
    · exact ⟨_, rfl, (e45.t (e44.t (e43.t (e42.t (e41.t (e40.t (e39.t (e38.t (e37.t (e36.t (e35.t (e34.t (e33.t (e32.t (e31.t (e30.t (e29.t (e28.t (e27.t (e26.t (e25.t (e24.t (e23.t t22)))))))))))))))))))))))⟩
    · exact ⟨_, rfl, (e45.t (e44.t (e43.t (e42.t (e41.t (e40.t (e39.t (e38.t (e37.t (e36.t (e35.t (e34.t (e33.t (e32.t (e31.t (e30.t (e29.t (e28.t (e27.t (e26.t (e25.t (e24.t t23))))))))))))))))))))))⟩
    · exact ⟨_, rfl, (e45.t (e44.t (e43.t (e42.t (e41.t (e40.t (e39.t (e38.t (e37.t (e36.t (e35.t (e34.t (e33.t (e32.t (e31.t (e30.t (e29.t (e28.t (e27.t (e26.t (e25.t t24)))))))))))))))))))))⟩
    · exact ⟨_, rfl, (e45.t (e44.t (e43.t (e42.t (e41.t (e40.t (e39.t (e38.t (e37.t (e36.t (e35.t (e34.t (e33.t (e32.t (e31.t (e30.t (e29.t (e28.t (e27.t (e26.t t25))))))))))))))))))))⟩
    · exact ⟨_, rfl, (e45.t (e44.t (e43.t (e42.t (e41.t (e40.t (e39.t (e38.t (e37.t (e36.t (e35.t (e34.t (e33.t (e32.t (e31.t (e30.t (e29.t (e28.t (e27.t t26)))))))))))))))))))⟩
    · exact ⟨_, rfl, (e45.t (e44.t (e43.t (e42.t (e41.t (e40.t (e39.t (e38.t (e37.t (e36.t (e35.t (e34.t (e33.t (e32.t (e31.t (e30.t (e29.t (e28.t t27))))))))))))))))))⟩
    · exact ⟨_, rfl, (e45.t (e44.t (e43.t (e42.t (e41.t (e40.t (e39.t (e38.t (e37.t (e36.t (e35.t (e34.t (e33.t (e32.t (e31.t (e30.t (e29.t t28)))))))))))))))))⟩
    · exact ⟨_, rfl, (e45.t (e44.t (e43.t (e42.t (e41.t (e40.t (e39.t (e38.t (e37.t (e36.t (e35.t (e34.t (e33.t (e32.t (e31.t (e30.t t29))))))))))))))))⟩
    · exact ⟨_, rfl, (e45.t (e44.t (e43.t (e42.t (e41.t (e40.t (e39.t (e38.t (e37.t (e36.t (e35.t (e34.t (e33.t (e32.t (e31.t t30)))))))))))))))⟩
    · exact ⟨_, rfl, (e45.t (e44.t (e43.t (e42.t (e41.t (e40.t (e39.t (e38.t (e37.t (e36.t (e35.t (e34.t (e33.t (e32.t t31))))))))))))))⟩
    · exact ⟨_, rfl, (e45.t (e44.t (e43.t (e42.t (e41.t (e40.t (e39.t (e38.t (e37.t (e36.t (e35.t (e34.t (e33.t t32)))))))))))))⟩
    · exact ⟨_, rfl, (e45.t (e44.t (e43.t (e42.t (e41.t (e40.t (e39.t (e38.t (e37.t (e36.t (e35.t (e34.t t33))))))))))))⟩
    · exact ⟨_, rfl, (e45.t (e44.t (e43.t (e42.t (e41.t (e40.t (e39.t (e38.t (e37.t (e36.t (e35.t t34)))))))))))⟩
    · exact ⟨_, rfl, (e45.t (e44.t (e43.t (e42.t (e41.t (e40.t (e39.t (e38.t (e37.t (e36.t t35))))))))))⟩
    · exact ⟨_, rfl, (e45.t (e44.t (e43.t (e42.t (e41.t (e40.t (e39.t (e38.t (e37.t t36)))))))))⟩
    · exact ⟨_, rfl, (e45.t (e44.t (e43.t (e42.t (e41.t (e40.t (e39.t (e38.t t37))))))))⟩
    · exact ⟨_, rfl, (e45.t (e44.t (e43.t (e42.t (e41.t (e40.t (e39.t t38)))))))⟩
    · exact ⟨_, rfl, (e45.t (e44.t (e43.t (e42.t (e41.t (e40.t t39))))))⟩
    · exact ⟨_, rfl, (e45.t (e44.t (e43.t (e42.t (e41.t t40)))))⟩
    · exact ⟨_, rfl, (e45.t (e44.t (e43.t (e42.t t41))))⟩
    · exact ⟨_, rfl, (e45.t (e44.t (e43.t t42)))⟩
    · exact ⟨_, rfl, (e45.t (e44.t t43))⟩
    · exact ⟨_, rfl, (e45.t t44)⟩
    · exact ⟨_, rfl, t45⟩
  have X : zX d L kd A 1 p s m args c cX11_init RX11 := X
  have hS : zSame a0 [50, 51] [109, 121, 126, 127, 128, 129, 130, 131, 148, 149] L kd σ σ := zSame.rf
  have hI0 := hI
  have z18 : (σ.1 a0 18).toInt = 0 := by rw [hi0]; rfl
  have z57 : (σ.1 a0 57).toInt = 0 := by rw [hi0]; rfl
  have z62 : (σ.1 a0 62).toInt = 0 := by rw [hi0]; rfl
  have z17 : (σ.1 a0 17).toInt = -1 := by rw [hi0]; exact hv8
  refine zg_aload_n X 0 rfl dX11_init_378 ?_
  refine zg_iconst X 0 dX11_init_379 (by decide) (fun v1 _ hv1 => ?_)
  refine zg_cVv (As := [.int v1]) (st := []) X ha0 rfl (by decide) rfl (t_X11_plain l d L kd 0 _ hI a0 ha0 v1  (by omega)) mk_X11_155 mc_X11_plain mz_X11 mi_X11_plain ml_X11_plain (na := 1) ⟨md_X11.1, md_X11.2, by decide +kernel⟩ rfl ⟨by decide, by decide⟩ (Nat.le_of_ble_eq_true rfl) dX11_init_380 (fun t2 hq => ?_)
  obtain ⟨hF, ⟨ht2_fact0, ht2_fact1, ht2_fact2, ht2_fact3⟩, hI, g3⟩ := hq
  have ft2_17 : (t2.1 a0 17).toInt = (σ.1 a0 17).toInt := by rw [g3.2.1 17 (by decide)]
  have ft2_18 : (t2.1 a0 18).toInt = (σ.1 a0 18).toInt := by rw [g3.2.1 18 (by decide)]
  have ft2_57 : (t2.1 a0 57).toInt = (σ.1 a0 57).toInt := by rw [g3.2.1 57 (by decide)]
  have ft2_62 : (t2.1 a0 62).toInt = (σ.1 a0 62).toInt := by rw [g3.2.1 62 (by decide)]
  have hS := hS.tr g3 (by decide) (by decide)
  have at2_5 := zp_same hI ha0 g3 5 rfl (by decide) (by decide)
  have at2_67 := zp_same hI ha0 g3 67 rfl (by decide) (by decide)
  have zA0 := ht2_fact0
  have zA1 := ht2_fact1
  have zA2 := ht2_fact2
  have zA3 := ht2_fact3
  rw [show v1.toInt = 0 by omega] at zA0 zA1 zA2 zA3
  refine zg_aload_n X 0 rfl dX11_init_383 ?_
  refine zg_iconst X 1 dX11_init_384 (by decide) (fun v4 _ hv4 => ?_)
  refine zg_cVv (As := [.int v4]) (st := []) X ha0 rfl (by decide) rfl (t_X11_plain l d L kd 0 _ hI a0 ha0 v4  (by omega)) mk_X11_155 mc_X11_plain mz_X11 mi_X11_plain ml_X11_plain (na := 1) ⟨md_X11.1, md_X11.2, by decide +kernel⟩ rfl ⟨by decide, by decide⟩ (Nat.le_of_ble_eq_true rfl) dX11_init_385 (fun t5 hq => ?_)
  obtain ⟨hF, ⟨ht5_fact0, ht5_fact1, ht5_fact2, ht5_fact3⟩, hI, g6⟩ := hq
  have ft5_17 : (t5.1 a0 17).toInt = (t2.1 a0 17).toInt := by rw [g6.2.1 17 (by decide)]
  have ft5_18 : (t5.1 a0 18).toInt = (t2.1 a0 18).toInt := by rw [g6.2.1 18 (by decide)]
  have ft5_57 : (t5.1 a0 57).toInt = (t2.1 a0 57).toInt := by rw [g6.2.1 57 (by decide)]
  have ft5_62 : (t5.1 a0 62).toInt = (t2.1 a0 62).toInt := by rw [g6.2.1 62 (by decide)]
  have hS := hS.tr g6 (by decide) (by decide)
  have at5_5 := (zp_same hI ha0 g6 5 rfl (by decide) (by decide)).trans at2_5
  have at5_67 := (zp_same hI ha0 g6 67 rfl (by decide) (by decide)).trans at2_67
  have zB0 := ht5_fact0
  have zB1 := ht5_fact1
  have zB2 := ht5_fact2
  have zB3 := ht5_fact3
  rw [show v4.toInt = 1 by omega] at zB0 zB1 zB2 zB3
  have gL_0 : gL a0 t5 := by
    unfold gL
    rw [show (t5.1 a0 18).toInt = 0 by omega]
    intro k h0 h5
    left
    have y := zB3 (5 * 0 + k) (by omega) (by omega)
    have z := zA2 k h0 h5
    rw [y.1, y.2, z.1, z.2]
  have zp21 : zp a0 t5 21 0 = 0 := by rw [zB1 0 (by decide) (by decide)]; exact zA0
  have zm0 : zM a0 t5 = 0 := by unfold zM; rw [show (t5.1 a0 18).toInt = 0 by omega, zB1 0 (by decide) (by decide)]; exact zA0
  have gT_0 : gT a0 t5 := fun c h1 h2 => by rw [zm0] at h2; exact absurd h2 (by omega)
  refine zg_aload_n X 0 rfl dX11_init_388 ?_
  refine fg_X11_34 X hI ha0 dX11_init_389 (fun v7 ev7 hv7 => ?_)
  refine zg_iconst X 0 dX11_init_392 (by decide) (fun v8 _ hv8 => ?_)
  refine zg_bipush X 109 dX11_init_393 (by decide) (fun v9 _ hv9 => ?_)
  refine zg_bipush X 111 dX11_init_395 (by decide) (fun v10 _ hv10 => ?_)
  refine zg_bipush X 117 dX11_init_397 (by decide) (fun v11 _ hv11 => ?_)
  refine zg_bipush X 116 dX11_init_399 (by decide) (fun v12 _ hv12 => ?_)
  refine zg_bipush X 104 dX11_init_401 (by decide) (fun v13 _ hv13 => ?_)
  refine zg_iconst X 0 dX11_init_403 (by decide) (fun v14 _ hv14 => ?_)
  refine zg_iconst X 0 dX11_init_404 (by decide) (fun v15 _ hv15 => ?_)
  refine zg_cSl (As := [.int v9, .int v10, .int v11, .int v12, .int v13, .int v14, .int v15]) (st := [.int v8, .ref v7]) X (t_X11_word l d L kd _ v9 v10 v11 v12 v13 v14 v15 ) mk_X11_159 mc_X11_word mz_X11 ms_X11_word (na := 7) ⟨md_X11.1, md_X11.2, by decide +kernel⟩ rfl ⟨by decide, by decide⟩ (Nat.le_of_ble_eq_true rfl) dX11_init_405 (fun v16 σ2 hq => ?_)
  obtain ⟨⟨hF, hv16⟩, rfl⟩ := hq
  refine as_109 X hI hv7 (by omega) (by omega) dX11_init_408 (fun s17 es17 hI => ?_)
  have hKy1 := zky (i := 0) hI (fun _ _ j hj => absurd hj (Nat.not_lt_zero j)) hv7 es17 hv8 (zkx_0 hF hv9 hv10 hv11 hv12 hv13 hv14 hv15)
  have g18 := (zSame.rf (o := a0) (Wf := []) (Wa := [109]) (L := L) (kd := kd) (σ := t5)).l hv7 es17 rfl
  have fs17_17 : (s17.1 a0 17).toInt = (t5.1 a0 17).toInt := by rw [g18.2.1 17 (by decide)]
  have fs17_18 : (s17.1 a0 18).toInt = (t5.1 a0 18).toInt := by rw [g18.2.1 18 (by decide)]
  have fs17_57 : (s17.1 a0 57).toInt = (t5.1 a0 57).toInt := by rw [g18.2.1 57 (by decide)]
  have fs17_62 : (s17.1 a0 62).toInt = (t5.1 a0 62).toInt := by rw [g18.2.1 62 (by decide)]
  have hS := hS.tr g18 (by decide) (by decide)
  have as17_5 := (zp_same hI ha0 g18 5 rfl (by decide) (by decide)).trans at5_5
  have as17_21 := zp_same hI ha0 g18 21 rfl (by decide) (by decide)
  have as17_67 := (zp_same hI ha0 g18 67 rfl (by decide) (by decide)).trans at5_67
  have gLs17 := gL.same hI ha0 g18 (by decide) gL_0
  have gTs17 := gT.same hI ha0 g18 (by decide) gT_0
  refine zg_aload_n X 0 rfl dX11_init_409 ?_
  refine fg_X11_34 X hI ha0 dX11_init_410 (fun v19 ev19 hv19 => ?_)
  refine zg_iconst X 1 dX11_init_413 (by decide) (fun v20 _ hv20 => ?_)
  refine zg_bipush X 112 dX11_init_414 (by decide) (fun v21 _ hv21 => ?_)
  refine zg_bipush X 108 dX11_init_416 (by decide) (fun v22 _ hv22 => ?_)
  refine zg_bipush X 97 dX11_init_418 (by decide) (fun v23 _ hv23 => ?_)
  refine zg_bipush X 99 dX11_init_420 (by decide) (fun v24 _ hv24 => ?_)
  refine zg_bipush X 101 dX11_init_422 (by decide) (fun v25 _ hv25 => ?_)
  refine zg_iconst X 0 dX11_init_424 (by decide) (fun v26 _ hv26 => ?_)
  refine zg_iconst X 0 dX11_init_425 (by decide) (fun v27 _ hv27 => ?_)
  refine zg_cSl (As := [.int v21, .int v22, .int v23, .int v24, .int v25, .int v26, .int v27]) (st := [.int v20, .ref v19]) X (t_X11_word l d L kd _ v21 v22 v23 v24 v25 v26 v27 ) mk_X11_159 mc_X11_word mz_X11 ms_X11_word (na := 7) ⟨md_X11.1, md_X11.2, by decide +kernel⟩ rfl ⟨by decide, by decide⟩ (Nat.le_of_ble_eq_true rfl) dX11_init_426 (fun v28 σ2 hq => ?_)
  obtain ⟨⟨hF, hv28⟩, rfl⟩ := hq
  refine as_109 X hI hv19 (by omega) (by omega) dX11_init_429 (fun s29 es29 hI => ?_)
  have hKy2 := zky (i := 1) hI hKy1 hv19 es29 hv20 (zkx_1 hF hv21 hv22 hv23 hv24 hv25 hv26 hv27)
  have g30 := (zSame.rf (o := a0) (Wf := []) (Wa := [109]) (L := L) (kd := kd) (σ := s17)).l hv19 es29 rfl
  have fs29_17 : (s29.1 a0 17).toInt = (s17.1 a0 17).toInt := by rw [g30.2.1 17 (by decide)]
  have fs29_18 : (s29.1 a0 18).toInt = (s17.1 a0 18).toInt := by rw [g30.2.1 18 (by decide)]
  have fs29_57 : (s29.1 a0 57).toInt = (s17.1 a0 57).toInt := by rw [g30.2.1 57 (by decide)]
  have fs29_62 : (s29.1 a0 62).toInt = (s17.1 a0 62).toInt := by rw [g30.2.1 62 (by decide)]
  have hS := hS.tr g30 (by decide) (by decide)
  have as29_5 := (zp_same hI ha0 g30 5 rfl (by decide) (by decide)).trans as17_5
  have as29_21 := (zp_same hI ha0 g30 21 rfl (by decide) (by decide)).trans as17_21
  have as29_67 := (zp_same hI ha0 g30 67 rfl (by decide) (by decide)).trans as17_67
  have gLs29 := gL.same hI ha0 g30 (by decide) gLs17
  have gTs29 := gT.same hI ha0 g30 (by decide) gTs17
  refine zg_aload_n X 0 rfl dX11_init_430 ?_
  refine fg_X11_34 X hI ha0 dX11_init_431 (fun v31 ev31 hv31 => ?_)
  refine zg_iconst X 2 dX11_init_434 (by decide) (fun v32 _ hv32 => ?_)
  refine zg_bipush X 114 dX11_init_435 (by decide) (fun v33 _ hv33 => ?_)
  refine zg_bipush X 97 dX11_init_437 (by decide) (fun v34 _ hv34 => ?_)
  refine zg_bipush X 105 dX11_init_439 (by decide) (fun v35 _ hv35 => ?_)
  refine zg_bipush X 110 dX11_init_441 (by decide) (fun v36 _ hv36 => ?_)
  refine zg_bipush X 115 dX11_init_443 (by decide) (fun v37 _ hv37 => ?_)
  refine zg_iconst X 0 dX11_init_445 (by decide) (fun v38 _ hv38 => ?_)
  refine zg_iconst X 0 dX11_init_446 (by decide) (fun v39 _ hv39 => ?_)
  refine zg_cSl (As := [.int v33, .int v34, .int v35, .int v36, .int v37, .int v38, .int v39]) (st := [.int v32, .ref v31]) X (t_X11_word l d L kd _ v33 v34 v35 v36 v37 v38 v39 ) mk_X11_159 mc_X11_word mz_X11 ms_X11_word (na := 7) ⟨md_X11.1, md_X11.2, by decide +kernel⟩ rfl ⟨by decide, by decide⟩ (Nat.le_of_ble_eq_true rfl) dX11_init_447 (fun v40 σ2 hq => ?_)
  obtain ⟨⟨hF, hv40⟩, rfl⟩ := hq
  refine as_109 X hI hv31 (by omega) (by omega) dX11_init_450 (fun s41 es41 hI => ?_)
  have hKy3 := zky (i := 2) hI hKy2 hv31 es41 hv32 (zkx_2 hF hv33 hv34 hv35 hv36 hv37 hv38 hv39)
  have g42 := (zSame.rf (o := a0) (Wf := []) (Wa := [109]) (L := L) (kd := kd) (σ := s29)).l hv31 es41 rfl
  have fs41_17 : (s41.1 a0 17).toInt = (s29.1 a0 17).toInt := by rw [g42.2.1 17 (by decide)]
  have fs41_18 : (s41.1 a0 18).toInt = (s29.1 a0 18).toInt := by rw [g42.2.1 18 (by decide)]
  have fs41_57 : (s41.1 a0 57).toInt = (s29.1 a0 57).toInt := by rw [g42.2.1 57 (by decide)]
  have fs41_62 : (s41.1 a0 62).toInt = (s29.1 a0 62).toInt := by rw [g42.2.1 62 (by decide)]
  have hS := hS.tr g42 (by decide) (by decide)
  have as41_5 := (zp_same hI ha0 g42 5 rfl (by decide) (by decide)).trans as29_5
  have as41_21 := (zp_same hI ha0 g42 21 rfl (by decide) (by decide)).trans as29_21
  have as41_67 := (zp_same hI ha0 g42 67 rfl (by decide) (by decide)).trans as29_67
  have gLs41 := gL.same hI ha0 g42 (by decide) gLs29
  have gTs41 := gT.same hI ha0 g42 (by decide) gTs29
  refine zg_aload_n X 0 rfl dX11_init_451 ?_
  refine fg_X11_34 X hI ha0 dX11_init_452 (fun v43 ev43 hv43 => ?_)
  refine zg_iconst X 3 dX11_init_455 (by decide) (fun v44 _ hv44 => ?_)
  refine zg_bipush X 100 dX11_init_456 (by decide) (fun v45 _ hv45 => ?_)
  refine zg_bipush X 114 dX11_init_458 (by decide) (fun v46 _ hv46 => ?_)
  refine zg_bipush X 105 dX11_init_460 (by decide) (fun v47 _ hv47 => ?_)
  refine zg_bipush X 101 dX11_init_462 (by decide) (fun v48 _ hv48 => ?_)
  refine zg_bipush X 115 dX11_init_464 (by decide) (fun v49 _ hv49 => ?_)
  refine zg_iconst X 0 dX11_init_466 (by decide) (fun v50 _ hv50 => ?_)
  refine zg_iconst X 0 dX11_init_467 (by decide) (fun v51 _ hv51 => ?_)
  refine zg_cSl (As := [.int v45, .int v46, .int v47, .int v48, .int v49, .int v50, .int v51]) (st := [.int v44, .ref v43]) X (t_X11_word l d L kd _ v45 v46 v47 v48 v49 v50 v51 ) mk_X11_159 mc_X11_word mz_X11 ms_X11_word (na := 7) ⟨md_X11.1, md_X11.2, by decide +kernel⟩ rfl ⟨by decide, by decide⟩ (Nat.le_of_ble_eq_true rfl) dX11_init_468 (fun v52 σ2 hq => ?_)
  obtain ⟨⟨hF, hv52⟩, rfl⟩ := hq
  refine as_109 X hI hv43 (by omega) (by omega) dX11_init_471 (fun s53 es53 hI => ?_)
  have hKy4 := zky (i := 3) hI hKy3 hv43 es53 hv44 (zkx_3 hF hv45 hv46 hv47 hv48 hv49 hv50 hv51)
  have g54 := (zSame.rf (o := a0) (Wf := []) (Wa := [109]) (L := L) (kd := kd) (σ := s41)).l hv43 es53 rfl
  have fs53_17 : (s53.1 a0 17).toInt = (s41.1 a0 17).toInt := by rw [g54.2.1 17 (by decide)]
  have fs53_18 : (s53.1 a0 18).toInt = (s41.1 a0 18).toInt := by rw [g54.2.1 18 (by decide)]
  have fs53_57 : (s53.1 a0 57).toInt = (s41.1 a0 57).toInt := by rw [g54.2.1 57 (by decide)]
  have fs53_62 : (s53.1 a0 62).toInt = (s41.1 a0 62).toInt := by rw [g54.2.1 62 (by decide)]
  have hS := hS.tr g54 (by decide) (by decide)
  have as53_5 := (zp_same hI ha0 g54 5 rfl (by decide) (by decide)).trans as41_5
  have as53_21 := (zp_same hI ha0 g54 21 rfl (by decide) (by decide)).trans as41_21
  have as53_67 := (zp_same hI ha0 g54 67 rfl (by decide) (by decide)).trans as41_67
  have gLs53 := gL.same hI ha0 g54 (by decide) gLs41
  have gTs53 := gT.same hI ha0 g54 (by decide) gTs41
  refine zg_aload_n X 0 rfl dX11_init_472 ?_
  refine fg_X11_34 X hI ha0 dX11_init_473 (fun v55 ev55 hv55 => ?_)
  refine zg_iconst X 4 dX11_init_476 (by decide) (fun v56 _ hv56 => ?_)
  refine zg_bipush X 111 dX11_init_477 (by decide) (fun v57 _ hv57 => ?_)
  refine zg_bipush X 110 dX11_init_479 (by decide) (fun v58 _ hv58 => ?_)
  refine zg_bipush X 101 dX11_init_481 (by decide) (fun v59 _ hv59 => ?_)
  refine zg_iconst X 0 dX11_init_483 (by decide) (fun v60 _ hv60 => ?_)
  refine zg_iconst X 0 dX11_init_484 (by decide) (fun v61 _ hv61 => ?_)
  refine zg_iconst X 0 dX11_init_485 (by decide) (fun v62 _ hv62 => ?_)
  refine zg_iconst X 0 dX11_init_486 (by decide) (fun v63 _ hv63 => ?_)
  refine zg_cSl (As := [.int v57, .int v58, .int v59, .int v60, .int v61, .int v62, .int v63]) (st := [.int v56, .ref v55]) X (t_X11_word l d L kd _ v57 v58 v59 v60 v61 v62 v63 ) mk_X11_159 mc_X11_word mz_X11 ms_X11_word (na := 7) ⟨md_X11.1, md_X11.2, by decide +kernel⟩ rfl ⟨by decide, by decide⟩ (Nat.le_of_ble_eq_true rfl) dX11_init_487 (fun v64 σ2 hq => ?_)
  obtain ⟨⟨hF, hv64⟩, rfl⟩ := hq
  refine as_109 X hI hv55 (by omega) (by omega) dX11_init_490 (fun s65 es65 hI => ?_)
  have hKy5 := zky (i := 4) hI hKy4 hv55 es65 hv56 (zkx_4 hF hv57 hv58 hv59 hv60 hv61 hv62 hv63)
  have g66 := (zSame.rf (o := a0) (Wf := []) (Wa := [109]) (L := L) (kd := kd) (σ := s53)).l hv55 es65 rfl
  have fs65_17 : (s65.1 a0 17).toInt = (s53.1 a0 17).toInt := by rw [g66.2.1 17 (by decide)]
  have fs65_18 : (s65.1 a0 18).toInt = (s53.1 a0 18).toInt := by rw [g66.2.1 18 (by decide)]
  have fs65_57 : (s65.1 a0 57).toInt = (s53.1 a0 57).toInt := by rw [g66.2.1 57 (by decide)]
  have fs65_62 : (s65.1 a0 62).toInt = (s53.1 a0 62).toInt := by rw [g66.2.1 62 (by decide)]
  have hS := hS.tr g66 (by decide) (by decide)
  have as65_5 := (zp_same hI ha0 g66 5 rfl (by decide) (by decide)).trans as53_5
  have as65_21 := (zp_same hI ha0 g66 21 rfl (by decide) (by decide)).trans as53_21
  have as65_67 := (zp_same hI ha0 g66 67 rfl (by decide) (by decide)).trans as53_67
  have gLs65 := gL.same hI ha0 g66 (by decide) gLs53
  have gTs65 := gT.same hI ha0 g66 (by decide) gTs53
  refine zg_aload_n X 0 rfl dX11_init_491 ?_
  refine fg_X11_34 X hI ha0 dX11_init_492 (fun v67 ev67 hv67 => ?_)
  refine zg_iconst X 5 dX11_init_495 (by decide) (fun v68 _ hv68 => ?_)
  refine zg_bipush X 116 dX11_init_496 (by decide) (fun v69 _ hv69 => ?_)
  refine zg_bipush X 119 dX11_init_498 (by decide) (fun v70 _ hv70 => ?_)
  refine zg_bipush X 111 dX11_init_500 (by decide) (fun v71 _ hv71 => ?_)
  refine zg_iconst X 0 dX11_init_502 (by decide) (fun v72 _ hv72 => ?_)
  refine zg_iconst X 0 dX11_init_503 (by decide) (fun v73 _ hv73 => ?_)
  refine zg_iconst X 0 dX11_init_504 (by decide) (fun v74 _ hv74 => ?_)
  refine zg_iconst X 0 dX11_init_505 (by decide) (fun v75 _ hv75 => ?_)
  refine zg_cSl (As := [.int v69, .int v70, .int v71, .int v72, .int v73, .int v74, .int v75]) (st := [.int v68, .ref v67]) X (t_X11_word l d L kd _ v69 v70 v71 v72 v73 v74 v75 ) mk_X11_159 mc_X11_word mz_X11 ms_X11_word (na := 7) ⟨md_X11.1, md_X11.2, by decide +kernel⟩ rfl ⟨by decide, by decide⟩ (Nat.le_of_ble_eq_true rfl) dX11_init_506 (fun v76 σ2 hq => ?_)
  obtain ⟨⟨hF, hv76⟩, rfl⟩ := hq
  refine as_109 X hI hv67 (by omega) (by omega) dX11_init_509 (fun s77 es77 hI => ?_)
  have hKy6 := zky (i := 5) hI hKy5 hv67 es77 hv68 (zkx_5 hF hv69 hv70 hv71 hv72 hv73 hv74 hv75)
  have g78 := (zSame.rf (o := a0) (Wf := []) (Wa := [109]) (L := L) (kd := kd) (σ := s65)).l hv67 es77 rfl
  have fs77_17 : (s77.1 a0 17).toInt = (s65.1 a0 17).toInt := by rw [g78.2.1 17 (by decide)]
  have fs77_18 : (s77.1 a0 18).toInt = (s65.1 a0 18).toInt := by rw [g78.2.1 18 (by decide)]
  have fs77_57 : (s77.1 a0 57).toInt = (s65.1 a0 57).toInt := by rw [g78.2.1 57 (by decide)]
  have fs77_62 : (s77.1 a0 62).toInt = (s65.1 a0 62).toInt := by rw [g78.2.1 62 (by decide)]
  have hS := hS.tr g78 (by decide) (by decide)
  have as77_5 := (zp_same hI ha0 g78 5 rfl (by decide) (by decide)).trans as65_5
  have as77_21 := (zp_same hI ha0 g78 21 rfl (by decide) (by decide)).trans as65_21
  have as77_67 := (zp_same hI ha0 g78 67 rfl (by decide) (by decide)).trans as65_67
  have gLs77 := gL.same hI ha0 g78 (by decide) gLs65
  have gTs77 := gT.same hI ha0 g78 (by decide) gTs65
  refine zg_aload_n X 0 rfl dX11_init_510 ?_
  refine fg_X11_34 X hI ha0 dX11_init_511 (fun v79 ev79 hv79 => ?_)
  refine zg_bipush X 6 dX11_init_514 (by decide) (fun v80 _ hv80 => ?_)
  refine zg_bipush X 116 dX11_init_516 (by decide) (fun v81 _ hv81 => ?_)
  refine zg_bipush X 104 dX11_init_518 (by decide) (fun v82 _ hv82 => ?_)
  refine zg_bipush X 114 dX11_init_520 (by decide) (fun v83 _ hv83 => ?_)
  refine zg_bipush X 101 dX11_init_522 (by decide) (fun v84 _ hv84 => ?_)
  refine zg_bipush X 101 dX11_init_524 (by decide) (fun v85 _ hv85 => ?_)
  refine zg_iconst X 0 dX11_init_526 (by decide) (fun v86 _ hv86 => ?_)
  refine zg_iconst X 0 dX11_init_527 (by decide) (fun v87 _ hv87 => ?_)
  refine zg_cSl (As := [.int v81, .int v82, .int v83, .int v84, .int v85, .int v86, .int v87]) (st := [.int v80, .ref v79]) X (t_X11_word l d L kd _ v81 v82 v83 v84 v85 v86 v87 ) mk_X11_159 mc_X11_word mz_X11 ms_X11_word (na := 7) ⟨md_X11.1, md_X11.2, by decide +kernel⟩ rfl ⟨by decide, by decide⟩ (Nat.le_of_ble_eq_true rfl) dX11_init_528 (fun v88 σ2 hq => ?_)
  obtain ⟨⟨hF, hv88⟩, rfl⟩ := hq
  refine as_109 X hI hv79 (by omega) (by omega) dX11_init_531 (fun s89 es89 hI => ?_)
  have hKy7 := zky (i := 6) hI hKy6 hv79 es89 hv80 (zkx_6 hF hv81 hv82 hv83 hv84 hv85 hv86 hv87)
  have g90 := (zSame.rf (o := a0) (Wf := []) (Wa := [109]) (L := L) (kd := kd) (σ := s77)).l hv79 es89 rfl
  have fs89_17 : (s89.1 a0 17).toInt = (s77.1 a0 17).toInt := by rw [g90.2.1 17 (by decide)]
  have fs89_18 : (s89.1 a0 18).toInt = (s77.1 a0 18).toInt := by rw [g90.2.1 18 (by decide)]
  have fs89_57 : (s89.1 a0 57).toInt = (s77.1 a0 57).toInt := by rw [g90.2.1 57 (by decide)]
  have fs89_62 : (s89.1 a0 62).toInt = (s77.1 a0 62).toInt := by rw [g90.2.1 62 (by decide)]
  have hS := hS.tr g90 (by decide) (by decide)
  have as89_5 := (zp_same hI ha0 g90 5 rfl (by decide) (by decide)).trans as77_5
  have as89_21 := (zp_same hI ha0 g90 21 rfl (by decide) (by decide)).trans as77_21
  have as89_67 := (zp_same hI ha0 g90 67 rfl (by decide) (by decide)).trans as77_67
  have gLs89 := gL.same hI ha0 g90 (by decide) gLs77
  have gTs89 := gT.same hI ha0 g90 (by decide) gTs77
  refine zg_aload_n X 0 rfl dX11_init_532 ?_
  refine fg_X11_34 X hI ha0 dX11_init_533 (fun v91 ev91 hv91 => ?_)
  refine zg_bipush X 7 dX11_init_536 (by decide) (fun v92 _ hv92 => ?_)
  refine zg_bipush X 115 dX11_init_538 (by decide) (fun v93 _ hv93 => ?_)
  refine zg_bipush X 116 dX11_init_540 (by decide) (fun v94 _ hv94 => ?_)
  refine zg_bipush X 111 dX11_init_542 (by decide) (fun v95 _ hv95 => ?_)
  refine zg_bipush X 114 dX11_init_544 (by decide) (fun v96 _ hv96 => ?_)
  refine zg_bipush X 109 dX11_init_546 (by decide) (fun v97 _ hv97 => ?_)
  refine zg_iconst X 0 dX11_init_548 (by decide) (fun v98 _ hv98 => ?_)
  refine zg_iconst X 0 dX11_init_549 (by decide) (fun v99 _ hv99 => ?_)
  refine zg_cSl (As := [.int v93, .int v94, .int v95, .int v96, .int v97, .int v98, .int v99]) (st := [.int v92, .ref v91]) X (t_X11_word l d L kd _ v93 v94 v95 v96 v97 v98 v99 ) mk_X11_159 mc_X11_word mz_X11 ms_X11_word (na := 7) ⟨md_X11.1, md_X11.2, by decide +kernel⟩ rfl ⟨by decide, by decide⟩ (Nat.le_of_ble_eq_true rfl) dX11_init_550 (fun v100 σ2 hq => ?_)
  obtain ⟨⟨hF, hv100⟩, rfl⟩ := hq
  refine as_109 X hI hv91 (by omega) (by omega) dX11_init_553 (fun s101 es101 hI => ?_)
  have hKy8 := zky (i := 7) hI hKy7 hv91 es101 hv92 (zkx_7 hF hv93 hv94 hv95 hv96 hv97 hv98 hv99)
  have g102 := (zSame.rf (o := a0) (Wf := []) (Wa := [109]) (L := L) (kd := kd) (σ := s89)).l hv91 es101 rfl
  have fs101_17 : (s101.1 a0 17).toInt = (s89.1 a0 17).toInt := by rw [g102.2.1 17 (by decide)]
  have fs101_18 : (s101.1 a0 18).toInt = (s89.1 a0 18).toInt := by rw [g102.2.1 18 (by decide)]
  have fs101_57 : (s101.1 a0 57).toInt = (s89.1 a0 57).toInt := by rw [g102.2.1 57 (by decide)]
  have fs101_62 : (s101.1 a0 62).toInt = (s89.1 a0 62).toInt := by rw [g102.2.1 62 (by decide)]
  have hS := hS.tr g102 (by decide) (by decide)
  have as101_5 := (zp_same hI ha0 g102 5 rfl (by decide) (by decide)).trans as89_5
  have as101_21 := (zp_same hI ha0 g102 21 rfl (by decide) (by decide)).trans as89_21
  have as101_67 := (zp_same hI ha0 g102 67 rfl (by decide) (by decide)).trans as89_67
  have gLs101 := gL.same hI ha0 g102 (by decide) gLs89
  have gTs101 := gT.same hI ha0 g102 (by decide) gTs89
  refine zg_aload_n X 0 rfl dX11_init_554 ?_
  refine fg_X11_34 X hI ha0 dX11_init_555 (fun v103 ev103 hv103 => ?_)
  refine zg_bipush X 8 dX11_init_558 (by decide) (fun v104 _ hv104 => ?_)
  refine zg_bipush X 112 dX11_init_560 (by decide) (fun v105 _ hv105 => ?_)
  refine zg_bipush X 114 dX11_init_562 (by decide) (fun v106 _ hv106 => ?_)
  refine zg_bipush X 105 dX11_init_564 (by decide) (fun v107 _ hv107 => ?_)
  refine zg_bipush X 122 dX11_init_566 (by decide) (fun v108 _ hv108 => ?_)
  refine zg_bipush X 101 dX11_init_568 (by decide) (fun v109 _ hv109 => ?_)
  refine zg_iconst X 0 dX11_init_570 (by decide) (fun v110 _ hv110 => ?_)
  refine zg_iconst X 0 dX11_init_571 (by decide) (fun v111 _ hv111 => ?_)
  refine zg_cSl (As := [.int v105, .int v106, .int v107, .int v108, .int v109, .int v110, .int v111]) (st := [.int v104, .ref v103]) X (t_X11_word l d L kd _ v105 v106 v107 v108 v109 v110 v111 ) mk_X11_159 mc_X11_word mz_X11 ms_X11_word (na := 7) ⟨md_X11.1, md_X11.2, by decide +kernel⟩ rfl ⟨by decide, by decide⟩ (Nat.le_of_ble_eq_true rfl) dX11_init_572 (fun v112 σ2 hq => ?_)
  obtain ⟨⟨hF, hv112⟩, rfl⟩ := hq
  refine as_109 X hI hv103 (by omega) (by omega) dX11_init_575 (fun s113 es113 hI => ?_)
  have hKy9 := zky (i := 8) hI hKy8 hv103 es113 hv104 (zkx_8 hF hv105 hv106 hv107 hv108 hv109 hv110 hv111)
  have g114 := (zSame.rf (o := a0) (Wf := []) (Wa := [109]) (L := L) (kd := kd) (σ := s101)).l hv103 es113 rfl
  have fs113_17 : (s113.1 a0 17).toInt = (s101.1 a0 17).toInt := by rw [g114.2.1 17 (by decide)]
  have fs113_18 : (s113.1 a0 18).toInt = (s101.1 a0 18).toInt := by rw [g114.2.1 18 (by decide)]
  have fs113_57 : (s113.1 a0 57).toInt = (s101.1 a0 57).toInt := by rw [g114.2.1 57 (by decide)]
  have fs113_62 : (s113.1 a0 62).toInt = (s101.1 a0 62).toInt := by rw [g114.2.1 62 (by decide)]
  have hS := hS.tr g114 (by decide) (by decide)
  have as113_5 := (zp_same hI ha0 g114 5 rfl (by decide) (by decide)).trans as101_5
  have as113_21 := (zp_same hI ha0 g114 21 rfl (by decide) (by decide)).trans as101_21
  have as113_67 := (zp_same hI ha0 g114 67 rfl (by decide) (by decide)).trans as101_67
  have gLs113 := gL.same hI ha0 g114 (by decide) gLs101
  have gTs113 := gT.same hI ha0 g114 (by decide) gTs101
  refine zg_aload_n X 0 rfl dX11_init_576 ?_
  refine fg_X11_34 X hI ha0 dX11_init_577 (fun v115 ev115 hv115 => ?_)
  refine zg_bipush X 9 dX11_init_580 (by decide) (fun v116 _ hv116 => ?_)
  refine zg_bipush X 115 dX11_init_582 (by decide) (fun v117 _ hv117 => ?_)
  refine zg_bipush X 101 dX11_init_584 (by decide) (fun v118 _ hv118 => ?_)
  refine zg_bipush X 101 dX11_init_586 (by decide) (fun v119 _ hv119 => ?_)
  refine zg_bipush X 100 dX11_init_588 (by decide) (fun v120 _ hv120 => ?_)
  refine zg_iconst X 0 dX11_init_590 (by decide) (fun v121 _ hv121 => ?_)
  refine zg_iconst X 0 dX11_init_591 (by decide) (fun v122 _ hv122 => ?_)
  refine zg_iconst X 0 dX11_init_592 (by decide) (fun v123 _ hv123 => ?_)
  refine zg_cSl (As := [.int v117, .int v118, .int v119, .int v120, .int v121, .int v122, .int v123]) (st := [.int v116, .ref v115]) X (t_X11_word l d L kd _ v117 v118 v119 v120 v121 v122 v123 ) mk_X11_159 mc_X11_word mz_X11 ms_X11_word (na := 7) ⟨md_X11.1, md_X11.2, by decide +kernel⟩ rfl ⟨by decide, by decide⟩ (Nat.le_of_ble_eq_true rfl) dX11_init_593 (fun v124 σ2 hq => ?_)
  obtain ⟨⟨hF, hv124⟩, rfl⟩ := hq
  refine as_109 X hI hv115 (by omega) (by omega) dX11_init_596 (fun s125 es125 hI => ?_)
  have hKy10 := zky (i := 9) hI hKy9 hv115 es125 hv116 (zkx_9 hF hv117 hv118 hv119 hv120 hv121 hv122 hv123)
  have g126 := (zSame.rf (o := a0) (Wf := []) (Wa := [109]) (L := L) (kd := kd) (σ := s113)).l hv115 es125 rfl
  have fs125_17 : (s125.1 a0 17).toInt = (s113.1 a0 17).toInt := by rw [g126.2.1 17 (by decide)]
  have fs125_18 : (s125.1 a0 18).toInt = (s113.1 a0 18).toInt := by rw [g126.2.1 18 (by decide)]
  have fs125_57 : (s125.1 a0 57).toInt = (s113.1 a0 57).toInt := by rw [g126.2.1 57 (by decide)]
  have fs125_62 : (s125.1 a0 62).toInt = (s113.1 a0 62).toInt := by rw [g126.2.1 62 (by decide)]
  have hS := hS.tr g126 (by decide) (by decide)
  have as125_5 := (zp_same hI ha0 g126 5 rfl (by decide) (by decide)).trans as113_5
  have as125_21 := (zp_same hI ha0 g126 21 rfl (by decide) (by decide)).trans as113_21
  have as125_67 := (zp_same hI ha0 g126 67 rfl (by decide) (by decide)).trans as113_67
  have gLs125 := gL.same hI ha0 g126 (by decide) gLs113
  have gTs125 := gT.same hI ha0 g126 (by decide) gTs113
  refine zg_aload_n X 0 rfl dX11_init_597 ?_
  refine fg_X11_34 X hI ha0 dX11_init_598 (fun v127 ev127 hv127 => ?_)
  refine zg_bipush X 10 dX11_init_601 (by decide) (fun v128 _ hv128 => ?_)
  refine zg_bipush X 105 dX11_init_603 (by decide) (fun v129 _ hv129 => ?_)
  refine zg_bipush X 102 dX11_init_605 (by decide) (fun v130 _ hv130 => ?_)
  refine zg_iconst X 0 dX11_init_607 (by decide) (fun v131 _ hv131 => ?_)
  refine zg_iconst X 0 dX11_init_608 (by decide) (fun v132 _ hv132 => ?_)
  refine zg_iconst X 0 dX11_init_609 (by decide) (fun v133 _ hv133 => ?_)
  refine zg_iconst X 0 dX11_init_610 (by decide) (fun v134 _ hv134 => ?_)
  refine zg_iconst X 0 dX11_init_611 (by decide) (fun v135 _ hv135 => ?_)
  refine zg_cSl (As := [.int v129, .int v130, .int v131, .int v132, .int v133, .int v134, .int v135]) (st := [.int v128, .ref v127]) X (t_X11_word l d L kd _ v129 v130 v131 v132 v133 v134 v135 ) mk_X11_159 mc_X11_word mz_X11 ms_X11_word (na := 7) ⟨md_X11.1, md_X11.2, by decide +kernel⟩ rfl ⟨by decide, by decide⟩ (Nat.le_of_ble_eq_true rfl) dX11_init_612 (fun v136 σ2 hq => ?_)
  obtain ⟨⟨hF, hv136⟩, rfl⟩ := hq
  refine as_109 X hI hv127 (by omega) (by omega) dX11_init_615 (fun s137 es137 hI => ?_)
  have hKy11 := zky (i := 10) hI hKy10 hv127 es137 hv128 (zkx_10 hF hv129 hv130 hv131 hv132 hv133 hv134 hv135)
  have g138 := (zSame.rf (o := a0) (Wf := []) (Wa := [109]) (L := L) (kd := kd) (σ := s125)).l hv127 es137 rfl
  have fs137_17 : (s137.1 a0 17).toInt = (s125.1 a0 17).toInt := by rw [g138.2.1 17 (by decide)]
  have fs137_18 : (s137.1 a0 18).toInt = (s125.1 a0 18).toInt := by rw [g138.2.1 18 (by decide)]
  have fs137_57 : (s137.1 a0 57).toInt = (s125.1 a0 57).toInt := by rw [g138.2.1 57 (by decide)]
  have fs137_62 : (s137.1 a0 62).toInt = (s125.1 a0 62).toInt := by rw [g138.2.1 62 (by decide)]
  have hS := hS.tr g138 (by decide) (by decide)
  have as137_5 := (zp_same hI ha0 g138 5 rfl (by decide) (by decide)).trans as125_5
  have as137_21 := (zp_same hI ha0 g138 21 rfl (by decide) (by decide)).trans as125_21
  have as137_67 := (zp_same hI ha0 g138 67 rfl (by decide) (by decide)).trans as125_67
  have gLs137 := gL.same hI ha0 g138 (by decide) gLs125
  have gTs137 := gT.same hI ha0 g138 (by decide) gTs125
  refine zg_aload_n X 0 rfl dX11_init_616 ?_
  refine fg_X11_34 X hI ha0 dX11_init_617 (fun v139 ev139 hv139 => ?_)
  refine zg_bipush X 11 dX11_init_620 (by decide) (fun v140 _ hv140 => ?_)
  refine zg_bipush X 116 dX11_init_622 (by decide) (fun v141 _ hv141 => ?_)
  refine zg_bipush X 104 dX11_init_624 (by decide) (fun v142 _ hv142 => ?_)
  refine zg_bipush X 101 dX11_init_626 (by decide) (fun v143 _ hv143 => ?_)
  refine zg_bipush X 110 dX11_init_628 (by decide) (fun v144 _ hv144 => ?_)
  refine zg_iconst X 0 dX11_init_630 (by decide) (fun v145 _ hv145 => ?_)
  refine zg_iconst X 0 dX11_init_631 (by decide) (fun v146 _ hv146 => ?_)
  refine zg_iconst X 0 dX11_init_632 (by decide) (fun v147 _ hv147 => ?_)
  refine zg_cSl (As := [.int v141, .int v142, .int v143, .int v144, .int v145, .int v146, .int v147]) (st := [.int v140, .ref v139]) X (t_X11_word l d L kd _ v141 v142 v143 v144 v145 v146 v147 ) mk_X11_159 mc_X11_word mz_X11 ms_X11_word (na := 7) ⟨md_X11.1, md_X11.2, by decide +kernel⟩ rfl ⟨by decide, by decide⟩ (Nat.le_of_ble_eq_true rfl) dX11_init_633 (fun v148 σ2 hq => ?_)
  obtain ⟨⟨hF, hv148⟩, rfl⟩ := hq
  refine as_109 X hI hv139 (by omega) (by omega) dX11_init_636 (fun s149 es149 hI => ?_)
  have hKy12 := zky (i := 11) hI hKy11 hv139 es149 hv140 (zkx_11 hF hv141 hv142 hv143 hv144 hv145 hv146 hv147)
  have g150 := (zSame.rf (o := a0) (Wf := []) (Wa := [109]) (L := L) (kd := kd) (σ := s137)).l hv139 es149 rfl
  have fs149_17 : (s149.1 a0 17).toInt = (s137.1 a0 17).toInt := by rw [g150.2.1 17 (by decide)]
  have fs149_18 : (s149.1 a0 18).toInt = (s137.1 a0 18).toInt := by rw [g150.2.1 18 (by decide)]
  have fs149_57 : (s149.1 a0 57).toInt = (s137.1 a0 57).toInt := by rw [g150.2.1 57 (by decide)]
  have fs149_62 : (s149.1 a0 62).toInt = (s137.1 a0 62).toInt := by rw [g150.2.1 62 (by decide)]
  have hS := hS.tr g150 (by decide) (by decide)
  have as149_5 := (zp_same hI ha0 g150 5 rfl (by decide) (by decide)).trans as137_5
  have as149_21 := (zp_same hI ha0 g150 21 rfl (by decide) (by decide)).trans as137_21
  have as149_67 := (zp_same hI ha0 g150 67 rfl (by decide) (by decide)).trans as137_67
  have gLs149 := gL.same hI ha0 g150 (by decide) gLs137
  have gTs149 := gT.same hI ha0 g150 (by decide) gTs137
  refine zg_aload_n X 0 rfl dX11_init_637 ?_
  refine fg_X11_34 X hI ha0 dX11_init_638 (fun v151 ev151 hv151 => ?_)
  refine zg_bipush X 12 dX11_init_641 (by decide) (fun v152 _ hv152 => ?_)
  refine zg_bipush X 101 dX11_init_643 (by decide) (fun v153 _ hv153 => ?_)
  refine zg_bipush X 108 dX11_init_645 (by decide) (fun v154 _ hv154 => ?_)
  refine zg_bipush X 115 dX11_init_647 (by decide) (fun v155 _ hv155 => ?_)
  refine zg_bipush X 101 dX11_init_649 (by decide) (fun v156 _ hv156 => ?_)
  refine zg_iconst X 0 dX11_init_651 (by decide) (fun v157 _ hv157 => ?_)
  refine zg_iconst X 0 dX11_init_652 (by decide) (fun v158 _ hv158 => ?_)
  refine zg_iconst X 0 dX11_init_653 (by decide) (fun v159 _ hv159 => ?_)
  refine zg_cSl (As := [.int v153, .int v154, .int v155, .int v156, .int v157, .int v158, .int v159]) (st := [.int v152, .ref v151]) X (t_X11_word l d L kd _ v153 v154 v155 v156 v157 v158 v159 ) mk_X11_159 mc_X11_word mz_X11 ms_X11_word (na := 7) ⟨md_X11.1, md_X11.2, by decide +kernel⟩ rfl ⟨by decide, by decide⟩ (Nat.le_of_ble_eq_true rfl) dX11_init_654 (fun v160 σ2 hq => ?_)
  obtain ⟨⟨hF, hv160⟩, rfl⟩ := hq
  refine as_109 X hI hv151 (by omega) (by omega) dX11_init_657 (fun s161 es161 hI => ?_)
  have hKy13 := zky (i := 12) hI hKy12 hv151 es161 hv152 (zkx_12 hF hv153 hv154 hv155 hv156 hv157 hv158 hv159)
  have g162 := (zSame.rf (o := a0) (Wf := []) (Wa := [109]) (L := L) (kd := kd) (σ := s149)).l hv151 es161 rfl
  have fs161_17 : (s161.1 a0 17).toInt = (s149.1 a0 17).toInt := by rw [g162.2.1 17 (by decide)]
  have fs161_18 : (s161.1 a0 18).toInt = (s149.1 a0 18).toInt := by rw [g162.2.1 18 (by decide)]
  have fs161_57 : (s161.1 a0 57).toInt = (s149.1 a0 57).toInt := by rw [g162.2.1 57 (by decide)]
  have fs161_62 : (s161.1 a0 62).toInt = (s149.1 a0 62).toInt := by rw [g162.2.1 62 (by decide)]
  have hS := hS.tr g162 (by decide) (by decide)
  have as161_5 := (zp_same hI ha0 g162 5 rfl (by decide) (by decide)).trans as149_5
  have as161_21 := (zp_same hI ha0 g162 21 rfl (by decide) (by decide)).trans as149_21
  have as161_67 := (zp_same hI ha0 g162 67 rfl (by decide) (by decide)).trans as149_67
  have gLs161 := gL.same hI ha0 g162 (by decide) gLs149
  have gTs161 := gT.same hI ha0 g162 (by decide) gTs149
  refine zg_aload_n X 0 rfl dX11_init_658 ?_
  refine fg_X11_34 X hI ha0 dX11_init_659 (fun v163 ev163 hv163 => ?_)
  refine zg_bipush X 13 dX11_init_662 (by decide) (fun v164 _ hv164 => ?_)
  refine zg_bipush X 114 dX11_init_664 (by decide) (fun v165 _ hv165 => ?_)
  refine zg_bipush X 97 dX11_init_666 (by decide) (fun v166 _ hv166 => ?_)
  refine zg_bipush X 105 dX11_init_668 (by decide) (fun v167 _ hv167 => ?_)
  refine zg_bipush X 110 dX11_init_670 (by decide) (fun v168 _ hv168 => ?_)
  refine zg_iconst X 0 dX11_init_672 (by decide) (fun v169 _ hv169 => ?_)
  refine zg_iconst X 0 dX11_init_673 (by decide) (fun v170 _ hv170 => ?_)
  refine zg_iconst X 0 dX11_init_674 (by decide) (fun v171 _ hv171 => ?_)
  refine zg_cSl (As := [.int v165, .int v166, .int v167, .int v168, .int v169, .int v170, .int v171]) (st := [.int v164, .ref v163]) X (t_X11_word l d L kd _ v165 v166 v167 v168 v169 v170 v171 ) mk_X11_159 mc_X11_word mz_X11 ms_X11_word (na := 7) ⟨md_X11.1, md_X11.2, by decide +kernel⟩ rfl ⟨by decide, by decide⟩ (Nat.le_of_ble_eq_true rfl) dX11_init_675 (fun v172 σ2 hq => ?_)
  obtain ⟨⟨hF, hv172⟩, rfl⟩ := hq
  refine as_109 X hI hv163 (by omega) (by omega) dX11_init_678 (fun s173 es173 hI => ?_)
  have hKy14 := zky (i := 13) hI hKy13 hv163 es173 hv164 (zkx_13 hF hv165 hv166 hv167 hv168 hv169 hv170 hv171)
  have g174 := (zSame.rf (o := a0) (Wf := []) (Wa := [109]) (L := L) (kd := kd) (σ := s161)).l hv163 es173 rfl
  have fs173_17 : (s173.1 a0 17).toInt = (s161.1 a0 17).toInt := by rw [g174.2.1 17 (by decide)]
  have fs173_18 : (s173.1 a0 18).toInt = (s161.1 a0 18).toInt := by rw [g174.2.1 18 (by decide)]
  have fs173_57 : (s173.1 a0 57).toInt = (s161.1 a0 57).toInt := by rw [g174.2.1 57 (by decide)]
  have fs173_62 : (s173.1 a0 62).toInt = (s161.1 a0 62).toInt := by rw [g174.2.1 62 (by decide)]
  have hS := hS.tr g174 (by decide) (by decide)
  have as173_5 := (zp_same hI ha0 g174 5 rfl (by decide) (by decide)).trans as161_5
  have as173_21 := (zp_same hI ha0 g174 21 rfl (by decide) (by decide)).trans as161_21
  have as173_67 := (zp_same hI ha0 g174 67 rfl (by decide) (by decide)).trans as161_67
  have gLs173 := gL.same hI ha0 g174 (by decide) gLs161
  have gTs173 := gT.same hI ha0 g174 (by decide) gTs161
  refine zg_aload_n X 0 rfl dX11_init_679 ?_
  refine fg_X11_34 X hI ha0 dX11_init_680 (fun v175 ev175 hv175 => ?_)
  refine zg_bipush X 14 dX11_init_683 (by decide) (fun v176 _ hv176 => ?_)
  refine zg_bipush X 102 dX11_init_685 (by decide) (fun v177 _ hv177 => ?_)
  refine zg_bipush X 97 dX11_init_687 (by decide) (fun v178 _ hv178 => ?_)
  refine zg_bipush X 114 dX11_init_689 (by decide) (fun v179 _ hv179 => ?_)
  refine zg_iconst X 0 dX11_init_691 (by decide) (fun v180 _ hv180 => ?_)
  refine zg_iconst X 0 dX11_init_692 (by decide) (fun v181 _ hv181 => ?_)
  refine zg_iconst X 0 dX11_init_693 (by decide) (fun v182 _ hv182 => ?_)
  refine zg_iconst X 0 dX11_init_694 (by decide) (fun v183 _ hv183 => ?_)
  refine zg_cSl (As := [.int v177, .int v178, .int v179, .int v180, .int v181, .int v182, .int v183]) (st := [.int v176, .ref v175]) X (t_X11_word l d L kd _ v177 v178 v179 v180 v181 v182 v183 ) mk_X11_159 mc_X11_word mz_X11 ms_X11_word (na := 7) ⟨md_X11.1, md_X11.2, by decide +kernel⟩ rfl ⟨by decide, by decide⟩ (Nat.le_of_ble_eq_true rfl) dX11_init_695 (fun v184 σ2 hq => ?_)
  obtain ⟨⟨hF, hv184⟩, rfl⟩ := hq
  refine as_109 X hI hv175 (by omega) (by omega) dX11_init_698 (fun s185 es185 hI => ?_)
  have hKy15 := zky (i := 14) hI hKy14 hv175 es185 hv176 (zkx_14 hF hv177 hv178 hv179 hv180 hv181 hv182 hv183)
  have g186 := (zSame.rf (o := a0) (Wf := []) (Wa := [109]) (L := L) (kd := kd) (σ := s173)).l hv175 es185 rfl
  have fs185_17 : (s185.1 a0 17).toInt = (s173.1 a0 17).toInt := by rw [g186.2.1 17 (by decide)]
  have fs185_18 : (s185.1 a0 18).toInt = (s173.1 a0 18).toInt := by rw [g186.2.1 18 (by decide)]
  have fs185_57 : (s185.1 a0 57).toInt = (s173.1 a0 57).toInt := by rw [g186.2.1 57 (by decide)]
  have fs185_62 : (s185.1 a0 62).toInt = (s173.1 a0 62).toInt := by rw [g186.2.1 62 (by decide)]
  have hS := hS.tr g186 (by decide) (by decide)
  have as185_5 := (zp_same hI ha0 g186 5 rfl (by decide) (by decide)).trans as173_5
  have as185_21 := (zp_same hI ha0 g186 21 rfl (by decide) (by decide)).trans as173_21
  have as185_67 := (zp_same hI ha0 g186 67 rfl (by decide) (by decide)).trans as173_67
  have gLs185 := gL.same hI ha0 g186 (by decide) gLs173
  have gTs185 := gT.same hI ha0 g186 (by decide) gTs173
  refine zg_aload_n X 0 rfl dX11_init_699 ?_
  refine fg_X11_34 X hI ha0 dX11_init_700 (fun v187 ev187 hv187 => ?_)
  refine zg_bipush X 15 dX11_init_703 (by decide) (fun v188 _ hv188 => ?_)
  refine zg_bipush X 116 dX11_init_705 (by decide) (fun v189 _ hv189 => ?_)
  refine zg_bipush X 97 dX11_init_707 (by decide) (fun v190 _ hv190 => ?_)
  refine zg_bipush X 108 dX11_init_709 (by decide) (fun v191 _ hv191 => ?_)
  refine zg_bipush X 101 dX11_init_711 (by decide) (fun v192 _ hv192 => ?_)
  refine zg_iconst X 0 dX11_init_713 (by decide) (fun v193 _ hv193 => ?_)
  refine zg_iconst X 0 dX11_init_714 (by decide) (fun v194 _ hv194 => ?_)
  refine zg_iconst X 0 dX11_init_715 (by decide) (fun v195 _ hv195 => ?_)
  refine zg_cSl (As := [.int v189, .int v190, .int v191, .int v192, .int v193, .int v194, .int v195]) (st := [.int v188, .ref v187]) X (t_X11_word l d L kd _ v189 v190 v191 v192 v193 v194 v195 ) mk_X11_159 mc_X11_word mz_X11 ms_X11_word (na := 7) ⟨md_X11.1, md_X11.2, by decide +kernel⟩ rfl ⟨by decide, by decide⟩ (Nat.le_of_ble_eq_true rfl) dX11_init_716 (fun v196 σ2 hq => ?_)
  obtain ⟨⟨hF, hv196⟩, rfl⟩ := hq
  refine as_109 X hI hv187 (by omega) (by omega) dX11_init_719 (fun s197 es197 hI => ?_)
  have hKy16 := zky (i := 15) hI hKy15 hv187 es197 hv188 (zkx_15 hF hv189 hv190 hv191 hv192 hv193 hv194 hv195)
  have g198 := (zSame.rf (o := a0) (Wf := []) (Wa := [109]) (L := L) (kd := kd) (σ := s185)).l hv187 es197 rfl
  have fs197_17 : (s197.1 a0 17).toInt = (s185.1 a0 17).toInt := by rw [g198.2.1 17 (by decide)]
  have fs197_18 : (s197.1 a0 18).toInt = (s185.1 a0 18).toInt := by rw [g198.2.1 18 (by decide)]
  have fs197_57 : (s197.1 a0 57).toInt = (s185.1 a0 57).toInt := by rw [g198.2.1 57 (by decide)]
  have fs197_62 : (s197.1 a0 62).toInt = (s185.1 a0 62).toInt := by rw [g198.2.1 62 (by decide)]
  have hS := hS.tr g198 (by decide) (by decide)
  have as197_5 := (zp_same hI ha0 g198 5 rfl (by decide) (by decide)).trans as185_5
  have as197_21 := (zp_same hI ha0 g198 21 rfl (by decide) (by decide)).trans as185_21
  have as197_67 := (zp_same hI ha0 g198 67 rfl (by decide) (by decide)).trans as185_67
  have gLs197 := gL.same hI ha0 g198 (by decide) gLs185
  have gTs197 := gT.same hI ha0 g198 (by decide) gTs185
  refine zg_aload_n X 0 rfl dX11_init_720 ?_
  refine fg_X11_34 X hI ha0 dX11_init_721 (fun v199 ev199 hv199 => ?_)
  refine zg_bipush X 16 dX11_init_724 (by decide) (fun v200 _ hv200 => ?_)
  refine zg_bipush X 109 dX11_init_726 (by decide) (fun v201 _ hv201 => ?_)
  refine zg_bipush X 111 dX11_init_728 (by decide) (fun v202 _ hv202 => ?_)
  refine zg_bipush X 110 dX11_init_730 (by decide) (fun v203 _ hv203 => ?_)
  refine zg_bipush X 116 dX11_init_732 (by decide) (fun v204 _ hv204 => ?_)
  refine zg_bipush X 104 dX11_init_734 (by decide) (fun v205 _ hv205 => ?_)
  refine zg_iconst X 0 dX11_init_736 (by decide) (fun v206 _ hv206 => ?_)
  refine zg_iconst X 0 dX11_init_737 (by decide) (fun v207 _ hv207 => ?_)
  refine zg_cSl (As := [.int v201, .int v202, .int v203, .int v204, .int v205, .int v206, .int v207]) (st := [.int v200, .ref v199]) X (t_X11_word l d L kd _ v201 v202 v203 v204 v205 v206 v207 ) mk_X11_159 mc_X11_word mz_X11 ms_X11_word (na := 7) ⟨md_X11.1, md_X11.2, by decide +kernel⟩ rfl ⟨by decide, by decide⟩ (Nat.le_of_ble_eq_true rfl) dX11_init_738 (fun v208 σ2 hq => ?_)
  obtain ⟨⟨hF, hv208⟩, rfl⟩ := hq
  refine as_109 X hI hv199 (by omega) (by omega) dX11_init_741 (fun s209 es209 hI => ?_)
  have hKy17 := zky (i := 16) hI hKy16 hv199 es209 hv200 (zkx_16 hF hv201 hv202 hv203 hv204 hv205 hv206 hv207)
  have g210 := (zSame.rf (o := a0) (Wf := []) (Wa := [109]) (L := L) (kd := kd) (σ := s197)).l hv199 es209 rfl
  have fs209_17 : (s209.1 a0 17).toInt = (s197.1 a0 17).toInt := by rw [g210.2.1 17 (by decide)]
  have fs209_18 : (s209.1 a0 18).toInt = (s197.1 a0 18).toInt := by rw [g210.2.1 18 (by decide)]
  have fs209_57 : (s209.1 a0 57).toInt = (s197.1 a0 57).toInt := by rw [g210.2.1 57 (by decide)]
  have fs209_62 : (s209.1 a0 62).toInt = (s197.1 a0 62).toInt := by rw [g210.2.1 62 (by decide)]
  have hS := hS.tr g210 (by decide) (by decide)
  have as209_5 := (zp_same hI ha0 g210 5 rfl (by decide) (by decide)).trans as197_5
  have as209_21 := (zp_same hI ha0 g210 21 rfl (by decide) (by decide)).trans as197_21
  have as209_67 := (zp_same hI ha0 g210 67 rfl (by decide) (by decide)).trans as197_67
  have gLs209 := gL.same hI ha0 g210 (by decide) gLs197
  have gTs209 := gT.same hI ha0 g210 (by decide) gTs197
  refine zg_aload_n X 0 rfl dX11_init_742 ?_
  refine fg_X11_34 X hI ha0 dX11_init_743 (fun v211 ev211 hv211 => ?_)
  refine zg_bipush X 17 dX11_init_746 (by decide) (fun v212 _ hv212 => ?_)
  refine zg_bipush X 102 dX11_init_748 (by decide) (fun v213 _ hv213 => ?_)
  refine zg_bipush X 108 dX11_init_750 (by decide) (fun v214 _ hv214 => ?_)
  refine zg_bipush X 111 dX11_init_752 (by decide) (fun v215 _ hv215 => ?_)
  refine zg_bipush X 119 dX11_init_754 (by decide) (fun v216 _ hv216 => ?_)
  refine zg_iconst X 0 dX11_init_756 (by decide) (fun v217 _ hv217 => ?_)
  refine zg_iconst X 0 dX11_init_757 (by decide) (fun v218 _ hv218 => ?_)
  refine zg_iconst X 0 dX11_init_758 (by decide) (fun v219 _ hv219 => ?_)
  refine zg_cSl (As := [.int v213, .int v214, .int v215, .int v216, .int v217, .int v218, .int v219]) (st := [.int v212, .ref v211]) X (t_X11_word l d L kd _ v213 v214 v215 v216 v217 v218 v219 ) mk_X11_159 mc_X11_word mz_X11 ms_X11_word (na := 7) ⟨md_X11.1, md_X11.2, by decide +kernel⟩ rfl ⟨by decide, by decide⟩ (Nat.le_of_ble_eq_true rfl) dX11_init_759 (fun v220 σ2 hq => ?_)
  obtain ⟨⟨hF, hv220⟩, rfl⟩ := hq
  refine as_109 X hI hv211 (by omega) (by omega) dX11_init_762 (fun s221 es221 hI => ?_)
  have hKy18 := zky (i := 17) hI hKy17 hv211 es221 hv212 (zkx_17 hF hv213 hv214 hv215 hv216 hv217 hv218 hv219)
  have g222 := (zSame.rf (o := a0) (Wf := []) (Wa := [109]) (L := L) (kd := kd) (σ := s209)).l hv211 es221 rfl
  have fs221_17 : (s221.1 a0 17).toInt = (s209.1 a0 17).toInt := by rw [g222.2.1 17 (by decide)]
  have fs221_18 : (s221.1 a0 18).toInt = (s209.1 a0 18).toInt := by rw [g222.2.1 18 (by decide)]
  have fs221_57 : (s221.1 a0 57).toInt = (s209.1 a0 57).toInt := by rw [g222.2.1 57 (by decide)]
  have fs221_62 : (s221.1 a0 62).toInt = (s209.1 a0 62).toInt := by rw [g222.2.1 62 (by decide)]
  have hS := hS.tr g222 (by decide) (by decide)
  have as221_5 := (zp_same hI ha0 g222 5 rfl (by decide) (by decide)).trans as209_5
  have as221_21 := (zp_same hI ha0 g222 21 rfl (by decide) (by decide)).trans as209_21
  have as221_67 := (zp_same hI ha0 g222 67 rfl (by decide) (by decide)).trans as209_67
  have gLs221 := gL.same hI ha0 g222 (by decide) gLs209
  have gTs221 := gT.same hI ha0 g222 (by decide) gTs209
  refine zg_aload_n X 0 rfl dX11_init_763 ?_
  refine fg_X11_34 X hI ha0 dX11_init_764 (fun v223 ev223 hv223 => ?_)
  refine zg_bipush X 18 dX11_init_767 (by decide) (fun v224 _ hv224 => ?_)
  refine zg_bipush X 108 dX11_init_769 (by decide) (fun v225 _ hv225 => ?_)
  refine zg_bipush X 101 dX11_init_771 (by decide) (fun v226 _ hv226 => ?_)
  refine zg_bipush X 110 dX11_init_773 (by decide) (fun v227 _ hv227 => ?_)
  refine zg_bipush X 103 dX11_init_775 (by decide) (fun v228 _ hv228 => ?_)
  refine zg_bipush X 116 dX11_init_777 (by decide) (fun v229 _ hv229 => ?_)
  refine zg_bipush X 104 dX11_init_779 (by decide) (fun v230 _ hv230 => ?_)
  refine zg_iconst X 0 dX11_init_781 (by decide) (fun v231 _ hv231 => ?_)
  refine zg_cSl (As := [.int v225, .int v226, .int v227, .int v228, .int v229, .int v230, .int v231]) (st := [.int v224, .ref v223]) X (t_X11_word l d L kd _ v225 v226 v227 v228 v229 v230 v231 ) mk_X11_159 mc_X11_word mz_X11 ms_X11_word (na := 7) ⟨md_X11.1, md_X11.2, by decide +kernel⟩ rfl ⟨by decide, by decide⟩ (Nat.le_of_ble_eq_true rfl) dX11_init_782 (fun v232 σ2 hq => ?_)
  obtain ⟨⟨hF, hv232⟩, rfl⟩ := hq
  refine as_109 X hI hv223 (by omega) (by omega) dX11_init_785 (fun s233 es233 hI => ?_)
  have hKy19 := zky (i := 18) hI hKy18 hv223 es233 hv224 (zkx_18 hF hv225 hv226 hv227 hv228 hv229 hv230 hv231)
  have g234 := (zSame.rf (o := a0) (Wf := []) (Wa := [109]) (L := L) (kd := kd) (σ := s221)).l hv223 es233 rfl
  have fs233_17 : (s233.1 a0 17).toInt = (s221.1 a0 17).toInt := by rw [g234.2.1 17 (by decide)]
  have fs233_18 : (s233.1 a0 18).toInt = (s221.1 a0 18).toInt := by rw [g234.2.1 18 (by decide)]
  have fs233_57 : (s233.1 a0 57).toInt = (s221.1 a0 57).toInt := by rw [g234.2.1 57 (by decide)]
  have fs233_62 : (s233.1 a0 62).toInt = (s221.1 a0 62).toInt := by rw [g234.2.1 62 (by decide)]
  have hS := hS.tr g234 (by decide) (by decide)
  have as233_5 := (zp_same hI ha0 g234 5 rfl (by decide) (by decide)).trans as221_5
  have as233_21 := (zp_same hI ha0 g234 21 rfl (by decide) (by decide)).trans as221_21
  have as233_67 := (zp_same hI ha0 g234 67 rfl (by decide) (by decide)).trans as221_67
  have gLs233 := gL.same hI ha0 g234 (by decide) gLs221
  have gTs233 := gT.same hI ha0 g234 (by decide) gTs221
  refine zg_aload_n X 0 rfl dX11_init_786 ?_
  refine fg_X11_34 X hI ha0 dX11_init_787 (fun v235 ev235 hv235 => ?_)
  refine zg_bipush X 19 dX11_init_790 (by decide) (fun v236 _ hv236 => ?_)
  refine zg_bipush X 119 dX11_init_792 (by decide) (fun v237 _ hv237 => ?_)
  refine zg_bipush X 111 dX11_init_794 (by decide) (fun v238 _ hv238 => ?_)
  refine zg_bipush X 110 dX11_init_796 (by decide) (fun v239 _ hv239 => ?_)
  refine zg_iconst X 0 dX11_init_798 (by decide) (fun v240 _ hv240 => ?_)
  refine zg_iconst X 0 dX11_init_799 (by decide) (fun v241 _ hv241 => ?_)
  refine zg_iconst X 0 dX11_init_800 (by decide) (fun v242 _ hv242 => ?_)
  refine zg_iconst X 0 dX11_init_801 (by decide) (fun v243 _ hv243 => ?_)
  refine zg_cSl (As := [.int v237, .int v238, .int v239, .int v240, .int v241, .int v242, .int v243]) (st := [.int v236, .ref v235]) X (t_X11_word l d L kd _ v237 v238 v239 v240 v241 v242 v243 ) mk_X11_159 mc_X11_word mz_X11 ms_X11_word (na := 7) ⟨md_X11.1, md_X11.2, by decide +kernel⟩ rfl ⟨by decide, by decide⟩ (Nat.le_of_ble_eq_true rfl) dX11_init_802 (fun v244 σ2 hq => ?_)
  obtain ⟨⟨hF, hv244⟩, rfl⟩ := hq
  refine as_109 X hI hv235 (by omega) (by omega) dX11_init_805 (fun s245 es245 hI => ?_)
  have hKy20 := zky (i := 19) hI hKy19 hv235 es245 hv236 (zkx_19 hF hv237 hv238 hv239 hv240 hv241 hv242 hv243)
  have g246 := (zSame.rf (o := a0) (Wf := []) (Wa := [109]) (L := L) (kd := kd) (σ := s233)).l hv235 es245 rfl
  have fs245_17 : (s245.1 a0 17).toInt = (s233.1 a0 17).toInt := by rw [g246.2.1 17 (by decide)]
  have fs245_18 : (s245.1 a0 18).toInt = (s233.1 a0 18).toInt := by rw [g246.2.1 18 (by decide)]
  have fs245_57 : (s245.1 a0 57).toInt = (s233.1 a0 57).toInt := by rw [g246.2.1 57 (by decide)]
  have fs245_62 : (s245.1 a0 62).toInt = (s233.1 a0 62).toInt := by rw [g246.2.1 62 (by decide)]
  have hS := hS.tr g246 (by decide) (by decide)
  have as245_5 := (zp_same hI ha0 g246 5 rfl (by decide) (by decide)).trans as233_5
  have as245_21 := (zp_same hI ha0 g246 21 rfl (by decide) (by decide)).trans as233_21
  have as245_67 := (zp_same hI ha0 g246 67 rfl (by decide) (by decide)).trans as233_67
  have gLs245 := gL.same hI ha0 g246 (by decide) gLs233
  have gTs245 := gT.same hI ha0 g246 (by decide) gTs233
  refine zg_aload_n X 0 rfl dX11_init_806 ?_
  refine fg_X11_34 X hI ha0 dX11_init_807 (fun v247 ev247 hv247 => ?_)
  refine zg_bipush X 20 dX11_init_810 (by decide) (fun v248 _ hv248 => ?_)
  refine zg_bipush X 119 dX11_init_812 (by decide) (fun v249 _ hv249 => ?_)
  refine zg_bipush X 104 dX11_init_814 (by decide) (fun v250 _ hv250 => ?_)
  refine zg_bipush X 105 dX11_init_816 (by decide) (fun v251 _ hv251 => ?_)
  refine zg_bipush X 99 dX11_init_818 (by decide) (fun v252 _ hv252 => ?_)
  refine zg_bipush X 104 dX11_init_820 (by decide) (fun v253 _ hv253 => ?_)
  refine zg_iconst X 0 dX11_init_822 (by decide) (fun v254 _ hv254 => ?_)
  refine zg_iconst X 0 dX11_init_823 (by decide) (fun v255 _ hv255 => ?_)
  refine zg_cSl (As := [.int v249, .int v250, .int v251, .int v252, .int v253, .int v254, .int v255]) (st := [.int v248, .ref v247]) X (t_X11_word l d L kd _ v249 v250 v251 v252 v253 v254 v255 ) mk_X11_159 mc_X11_word mz_X11 ms_X11_word (na := 7) ⟨md_X11.1, md_X11.2, by decide +kernel⟩ rfl ⟨by decide, by decide⟩ (Nat.le_of_ble_eq_true rfl) dX11_init_824 (fun v256 σ2 hq => ?_)
  obtain ⟨⟨hF, hv256⟩, rfl⟩ := hq
  refine as_109 X hI hv247 (by omega) (by omega) dX11_init_827 (fun s257 es257 hI => ?_)
  have hKy21 := zky (i := 20) hI hKy20 hv247 es257 hv248 (zkx_20 hF hv249 hv250 hv251 hv252 hv253 hv254 hv255)
  have g258 := (zSame.rf (o := a0) (Wf := []) (Wa := [109]) (L := L) (kd := kd) (σ := s245)).l hv247 es257 rfl
  have fs257_17 : (s257.1 a0 17).toInt = (s245.1 a0 17).toInt := by rw [g258.2.1 17 (by decide)]
  have fs257_18 : (s257.1 a0 18).toInt = (s245.1 a0 18).toInt := by rw [g258.2.1 18 (by decide)]
  have fs257_57 : (s257.1 a0 57).toInt = (s245.1 a0 57).toInt := by rw [g258.2.1 57 (by decide)]
  have fs257_62 : (s257.1 a0 62).toInt = (s245.1 a0 62).toInt := by rw [g258.2.1 62 (by decide)]
  have hS := hS.tr g258 (by decide) (by decide)
  have as257_5 := (zp_same hI ha0 g258 5 rfl (by decide) (by decide)).trans as245_5
  have as257_21 := (zp_same hI ha0 g258 21 rfl (by decide) (by decide)).trans as245_21
  have as257_67 := (zp_same hI ha0 g258 67 rfl (by decide) (by decide)).trans as245_67
  have gLs257 := gL.same hI ha0 g258 (by decide) gLs245
  have gTs257 := gT.same hI ha0 g258 (by decide) gTs245
  refine zg_aload_n X 0 rfl dX11_init_828 ?_
  refine fg_X11_34 X hI ha0 dX11_init_829 (fun v259 ev259 hv259 => ?_)
  refine zg_bipush X 21 dX11_init_832 (by decide) (fun v260 _ hv260 => ?_)
  refine zg_bipush X 97 dX11_init_834 (by decide) (fun v261 _ hv261 => ?_)
  refine zg_bipush X 98 dX11_init_836 (by decide) (fun v262 _ hv262 => ?_)
  refine zg_bipush X 111 dX11_init_838 (by decide) (fun v263 _ hv263 => ?_)
  refine zg_bipush X 118 dX11_init_840 (by decide) (fun v264 _ hv264 => ?_)
  refine zg_bipush X 101 dX11_init_842 (by decide) (fun v265 _ hv265 => ?_)
  refine zg_iconst X 0 dX11_init_844 (by decide) (fun v266 _ hv266 => ?_)
  refine zg_iconst X 0 dX11_init_845 (by decide) (fun v267 _ hv267 => ?_)
  refine zg_cSl (As := [.int v261, .int v262, .int v263, .int v264, .int v265, .int v266, .int v267]) (st := [.int v260, .ref v259]) X (t_X11_word l d L kd _ v261 v262 v263 v264 v265 v266 v267 ) mk_X11_159 mc_X11_word mz_X11 ms_X11_word (na := 7) ⟨md_X11.1, md_X11.2, by decide +kernel⟩ rfl ⟨by decide, by decide⟩ (Nat.le_of_ble_eq_true rfl) dX11_init_846 (fun v268 σ2 hq => ?_)
  obtain ⟨⟨hF, hv268⟩, rfl⟩ := hq
  refine as_109 X hI hv259 (by omega) (by omega) dX11_init_849 (fun s269 es269 hI => ?_)
  have hKy22 := zky (i := 21) hI hKy21 hv259 es269 hv260 (zkx_21 hF hv261 hv262 hv263 hv264 hv265 hv266 hv267)
  have g270 := (zSame.rf (o := a0) (Wf := []) (Wa := [109]) (L := L) (kd := kd) (σ := s257)).l hv259 es269 rfl
  have fs269_17 : (s269.1 a0 17).toInt = (s257.1 a0 17).toInt := by rw [g270.2.1 17 (by decide)]
  have fs269_18 : (s269.1 a0 18).toInt = (s257.1 a0 18).toInt := by rw [g270.2.1 18 (by decide)]
  have fs269_57 : (s269.1 a0 57).toInt = (s257.1 a0 57).toInt := by rw [g270.2.1 57 (by decide)]
  have fs269_62 : (s269.1 a0 62).toInt = (s257.1 a0 62).toInt := by rw [g270.2.1 62 (by decide)]
  have hS := hS.tr g270 (by decide) (by decide)
  have hS : zSame a0 [50, 51] [121, 126, 127, 128, 129, 130, 131, 148, 149] L kd s269 s269 := zSame.rf
  have as269_5 := (zp_same hI ha0 g270 5 rfl (by decide) (by decide)).trans as257_5
  have as269_21 := (zp_same hI ha0 g270 21 rfl (by decide) (by decide)).trans as257_21
  have as269_67 := (zp_same hI ha0 g270 67 rfl (by decide) (by decide)).trans as257_67
  have gLs269 := gL.same hI ha0 g270 (by decide) gLs257
  have gTs269 := gT.same hI ha0 g270 (by decide) gTs257
  refine zg_aload_n X 0 rfl dX11_init_850 ?_
  refine zg_cVv (As := []) (st := []) X ha0 rfl (by decide) rfl (t_X11_begins l d L kd 0 _ hI a0 ha0    gTs269) mk_X11_163 mc_X11_begins mz_X11 mi_X11_begins ml_X11_begins (na := 0) ⟨md_X11.1, md_X11.2, by decide +kernel⟩ rfl ⟨by decide, by decide⟩ (Nat.le_of_ble_eq_true rfl) dX11_init_851 (fun t271 hq => ?_)
  obtain ⟨hF, gRt271, hI, g272⟩ := hq
  have ft271_17 : (t271.1 a0 17).toInt = (s269.1 a0 17).toInt := by rw [g272.2.1 17 (by decide)]
  have ft271_18 : (t271.1 a0 18).toInt = (s269.1 a0 18).toInt := by rw [g272.2.1 18 (by decide)]
  have ft271_57 : (t271.1 a0 57).toInt = (s269.1 a0 57).toInt := by rw [g272.2.1 57 (by decide)]
  have ft271_62 : (t271.1 a0 62).toInt = (s269.1 a0 62).toInt := by rw [g272.2.1 62 (by decide)]
  have hS := hS.tr g272 (by decide) (by decide)
  have at271_5 := (zp_same hI ha0 g272 5 rfl (by decide) (by decide)).trans as269_5
  have at271_21 := (zp_same hI ha0 g272 21 rfl (by decide) (by decide)).trans as269_21
  have at271_67 := (zp_same hI ha0 g272 67 rfl (by decide) (by decide)).trans as269_67
  have gLt271 := gL.same hI ha0 g272 (by decide) gLs269
  have gTt271 := gT.same hI ha0 g272 (by decide) gTs269
  have hFb := hF
  refine zg_aload_n X 0 rfl dX11_init_854 ?_
  refine zg_cVv (As := []) (st := []) X ha0 rfl (by decide) rfl (t_X11_keepsRow l d L kd 0 _ hI a0 ha0   ) mk_X11_166 mc_X11_keepsRow mz_X11 mi_X11_keepsRow ml_X11_keepsRow (na := 0) ⟨md_X11.1, md_X11.2, by decide +kernel⟩ rfl ⟨by decide, by decide⟩ (Nat.le_of_ble_eq_true rfl) dX11_init_855 (fun t273 hq => ?_)
  obtain ⟨hF, ht273_fact0, hI, g274⟩ := hq
  have ft273_17 : (t273.1 a0 17).toInt = (t271.1 a0 17).toInt := by rw [g274.2.1 17 (by decide)]
  have ft273_18 : (t273.1 a0 18).toInt = (t271.1 a0 18).toInt := by rw [g274.2.1 18 (by decide)]
  have ft273_57 : (t273.1 a0 57).toInt = (t271.1 a0 57).toInt := by rw [g274.2.1 57 (by decide)]
  have ft273_62 : (t273.1 a0 62).toInt = (t271.1 a0 62).toInt := by rw [g274.2.1 62 (by decide)]
  have hS := hS.tr g274 (by decide) (by decide)
  have at273_5 := (zp_same hI ha0 g274 5 rfl (by decide) (by decide)).trans at271_5
  have at273_21 := (zp_same hI ha0 g274 21 rfl (by decide) (by decide)).trans at271_21
  have at273_67 := (zp_same hI ha0 g274 67 rfl (by decide) (by decide)).trans at271_67
  have gLt273 := gL.same hI ha0 g274 (by decide) gLt271
  have gTt273 := gT.same hI ha0 g274 (by decide) gTt271
  have gRt273 := gR.same hI ha0 g274 (by decide) gRt271
  have hFk := hF
  have gN_n : gN a0 t273 := by
    unfold gN
    exact gRow.congr (zM_in hI ha0).2 (show gRow _ _ from gRt273) (fun j h1 h2 => ht273_fact0 j (by omega) (by omega))
  have gH_e : gH a0 t273 := fun i h0 h1 => absurd h1 (by omega)
  have gE_e : gE a0 t273 := fun i h0 h1 h2 => by rw [at273_67, zp_zero hI0 ha0 hz0 67 rfl (by decide)] at h2; exact absurd h2 (by decide)
  have gK_e : gK a0 t273 := fun j h0 => by rw [at273_5, zp_zero hI0 ha0 hz0 5 rfl (by decide)]; exact Int.le_refl 0
  have hM0 : zM a0 t273 = 0 := by unfold zM; rw [show (t273.1 a0 18).toInt = 0 by omega, at273_21]; exact zp21
  have hE0 : ∀ j, zp a0 t273 67 j = 0 := fun j => by rw [at273_67, zp_zero hI0 ha0 hz0 67 rfl (by decide)]
  have hB0 : ∃ s : zS, t273 = F_X11_keepsRow a0 (F_X11_begins a0 s) := ⟨_, hFk.trans (congrArg (F_X11_keepsRow a0) hFb)⟩
  have hKz : ∀ b, zT L kd b 109 → ∀ j, j < 22 → t273.2.1 b j = zw27 j := zkyS (i := 22) hKy22 hS (by decide)
  have hRz : zRef 0 a0 L kd t273 := ⟨hI, gN_n, gH_e, gE_e, gLt273, gK_e, hKz, by omega, by omega, by omega, by omega, hM0, hE0, hB0⟩
  exact ret _ _ _ _ _ dX11_init_858 ha0 hRz
