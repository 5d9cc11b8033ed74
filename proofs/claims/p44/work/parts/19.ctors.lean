set_option maxHeartbeats 4000000 in
set_option maxRecDepth 100000 in
theorem n_X0 (l : Launch) (d : zD2) : zNew l yX0_init (Cond.code yX0_init cX0_init 1 none :: zWL) 1 2 41 d 0 [.null, .null] [0, 20, 21] := by
  refine zNew.of (own := RX0) (by decide +kernel) rfl rfl rfl (by decide) ?_
  intro a0 p e s m args below meth c A Q X hin ret
  have hk0 := zK.nil
  refine zg_aload_n X 0 rfl dX0_init_0 ?_
  refine zc_obj X mo_X0_1 mo_inst mo_code dX0_init_1 ⟨by decide, Nat.le_of_ble_eq_true rfl⟩ ?_
  refine zg_aload_n X 0 rfl dX0_init_4 ?_
  refine zg_bipush X 9 dX0_init_5 (by decide) (fun v1 _ hv1 => ?_)
  refine zc_newi X 20 13 1 hk0 wa_int rfl rfl (Or.inr (Or.inl rfl)) rfl rfl (by rw [hv1]; rfl) (by decide) (fun j => ⟨show (-2147483648 : Int) ≤ 0 by decide, show (0 : Int) ≤ 2147483647 by decide⟩) (fun _ => rfl) (by decide) (by decide) (by decide) ⟨by decide, by decide⟩ dX0_init_7 (fun q1 L1 kd1 s1 e1 t1 r1 hk1 => ?_)
  have X : zX d L1 kd1 A 1 p s m args c cX0_init RX0 := X
  refine zc_put (j := 0) (ty := .array .int) (fs2 := [.ref q1, .null]) X hin rfl (by decide) zl_in0 tyX0_ok nmX0 (zkl_X0_9) rfl (by decide +kernel) rfl rfl (Nat.le_of_ble_eq_true rfl) rfl dX0_init_9 ?_
  refine zg_aload_n X 0 rfl dX0_init_12 ?_
  refine zg_bipush X 32 dX0_init_13 (by decide) (fun v2 _ hv2 => ?_)
  refine zc_newi X 21 13 1 hk1 wa_int rfl rfl (Or.inr (Or.inl rfl)) rfl rfl (by rw [hv2]; rfl) (by decide) (fun j => ⟨show (-2147483648 : Int) ≤ 0 by decide, show (0 : Int) ≤ 2147483647 by decide⟩) (fun _ => rfl) (by decide) (by decide) (by decide) ⟨by decide, by decide⟩ dX0_init_15 (fun q2 L2 kd2 s2 e2 t2 r2 hk2 => ?_)
  have X : zX d L2 kd2 A 1 p s m args c cX0_init RX0 := X
  have Rq1_2 : zrt L2 s2 q1 := e2.rr t1 r1.1
  refine zc_put (j := 1) (ty := .array .int) (fs2 := [.ref q1, .ref q2]) X hin rfl (by decide) zl_in0 tyX0_ok nmX0 (zkl_X0_13) rfl (by decide +kernel) rfl rfl (Nat.le_of_ble_eq_true rfl) rfl dX0_init_17 ?_
  have hf3 : ∀ j k2, zf 0 0 j = some k2 → ∃ y, (fun j => ([some q1, some q2] : List (Option Nat)).getD j none) j = some y ∧ zT L2 kd2 y k2 := by
    intro j k2 h
    have h := zf_list (by decide) h
    rw [show (zfl.filter (fun q => q.1 == 0 && q.2.2.2 == 0)).map (fun q => (q.2.1, q.2.2.1)) = ([(0, 20), (1, 21)] : List (Nat × Nat)) from by decide +kernel] at h
    simp only [List.mem_cons, Prod.mk.injEq, List.not_mem_nil, or_false] at h
    rcases h with ⟨rfl, rfl⟩ | ⟨rfl, rfl⟩
    · exact ⟨_, rfl, (e2.t t1)⟩
    · exact ⟨_, rfl, t2⟩
  have hq3 : ∀ j y, (fun j => ([some q1, some q2] : List (Option Nat)).getD j none) j = some y → (j < 2 ∧ zf 0 0 j ≠ none) ∧ y ∈ L2 ∧ ((kd2 : Nat → Nat) y ≠ 6 → zrt L2 s2 y) := by
    intro j y e
    have hj : j < 2 := zgN 2 e
    rcases (show j = 0 ∨ j = 1 by omega) with rfl | rfl
    · cases (show some q1 = some y from e); exact ⟨⟨by decide, by decide⟩, (e2.t t1).1, fun _ => Rq1_2⟩
    · cases (show some q2 = some y from e); exact ⟨⟨by decide, by decide⟩, t2.1, fun _ => r2.1⟩
  have hi3 : ∀ j j' y, (fun j => ([some q1, some q2] : List (Option Nat)).getD j none) j = some y → (fun j => ([some q1, some q2] : List (Option Nat)).getD j none) j' = some y → j = j' := by
    intro j j' y e e'
    rcases zinjk (N := 2) (Xr := fun j j' => False) hf3 (fun j y e => (hq3 j y e).1) (by decide +kernel) e e' with z | z
    · exact z
    · exact absurd z id
  refine zc_typed (b2 := (List.contains ([0, 20, 21] : List Nat) 8)) (k := 0) (fun j => ([0, 0] : List Int32).getD j 0) (fun j => ([0, 0] : List Int64).getD j 0) (fun j => ([some q1, some q2] : List (Option Nat)).getD j none) hk2 rfl (by decide) rfl ?_ hf3 (by decide) (by decide) (by decide) (by decide) ⟨fun e => absurd e (by decide), fun e => absurd e (by decide), fun e => absurd e (by decide), fun e => absurd e (by decide), fun e => absurd e (by decide), fun e => absurd e (by decide), fun e => absurd e (by decide)⟩ (fun j y e => (hq3 j y e).2) (fun j j' y e e' _ _ _ => hi3 j j' y e e') (fun L3 kd3 s3 e3 ta3 rt3 hk3 => ?_)
  · intro j
    rcases zr_list (k := 0) (by decide) j with h | h
    · rw [h]; exact zb_rng _
    · rw [show ((zrl 0).filter (fun q => q.1 == 0)).map (fun q => (q.2.1, q.2.2)) = ([] : List (Nat × Int × Int)) from by decide +kernel] at h
      exact absurd h List.not_mem_nil
  have X : zX d L3 kd3 A 1 p s m args c cX0_init RX0 := X
  exact ret _ _ _ _ _ dX0_init_20 ta3 rt3 hk3
set_option maxHeartbeats 4000000 in
set_option maxRecDepth 100000 in
theorem n_X1 (l : Launch) (d : zD2) : zNew l yX1_init (Cond.code yX1_init cX1_init 1 none :: zWL) 1 3 36 d 1 [.null, .null, .null, .int 0, .int 0, .int 0] [1, 22, 23, 24] := by
  refine zNew.of (own := RX1) (by decide +kernel) rfl rfl rfl (by decide) ?_
  intro a0 p e s m args below meth c A Q X hin ret
  have hk0 := zK.nil
  refine zg_aload_n X 0 rfl dX1_init_0 ?_
  refine zc_obj X mo_X1_3 mo_inst mo_code dX1_init_1 ⟨by decide, Nat.le_of_ble_eq_true rfl⟩ ?_
  refine zg_aload_n X 0 rfl dX1_init_4 ?_
  refine zg_bipush X 12 dX1_init_5 (by decide) (fun v1 _ hv1 => ?_)
  refine zc_newi X 22 13 1 hk0 wa_int rfl rfl (Or.inr (Or.inl rfl)) rfl rfl (by rw [hv1]; rfl) (by decide) (fun j => ⟨show (0 : Int) ≤ 0 by decide, show (0 : Int) ≤ 11 by decide⟩) (fun _ => rfl) (by decide) (by decide) (by decide) ⟨by decide, by decide⟩ dX1_init_7 (fun q1 L1 kd1 s1 e1 t1 r1 hk1 => ?_)
  have X : zX d L1 kd1 A 1 p s m args c cX1_init RX1 := X
  refine zc_put (j := 0) (ty := .array .int) (fs2 := [.ref q1, .null, .null, .int 0, .int 0, .int 0]) X hin rfl (by decide) zl_in1 tyX1_ok nmX1 (zkl_X1_9) rfl (by decide +kernel) rfl rfl (Nat.le_of_ble_eq_true rfl) rfl dX1_init_9 ?_
  refine zg_aload_n X 0 rfl dX1_init_12 ?_
  refine zg_bipush X 12 dX1_init_13 (by decide) (fun v2 _ hv2 => ?_)
  refine zc_newi X 23 13 1 hk1 wa_int rfl rfl (Or.inr (Or.inl rfl)) rfl rfl (by rw [hv2]; rfl) (by decide) (fun j => ⟨show (-2147483648 : Int) ≤ 0 by decide, show (0 : Int) ≤ 2147483647 by decide⟩) (fun _ => rfl) (by decide) (by decide) (by decide) ⟨by decide, by decide⟩ dX1_init_15 (fun q2 L2 kd2 s2 e2 t2 r2 hk2 => ?_)
  have X : zX d L2 kd2 A 1 p s m args c cX1_init RX1 := X
  have Rq1_2 : zrt L2 s2 q1 := e2.rr t1 r1.1
  refine zc_put (j := 1) (ty := .array .int) (fs2 := [.ref q1, .ref q2, .null, .int 0, .int 0, .int 0]) X hin rfl (by decide) zl_in1 tyX1_ok nmX1 (zkl_X1_15) rfl (by decide +kernel) rfl rfl (Nat.le_of_ble_eq_true rfl) rfl dX1_init_17 ?_
  refine zg_aload_n X 0 rfl dX1_init_20 ?_
  refine zg_bipush X 12 dX1_init_21 (by decide) (fun v3 _ hv3 => ?_)
  refine zc_newi X 24 13 1 hk2 wa_int rfl rfl (Or.inr (Or.inl rfl)) rfl rfl (by rw [hv3]; rfl) (by decide) (fun j => ⟨show (-2147483648 : Int) ≤ 0 by decide, show (0 : Int) ≤ 2147483647 by decide⟩) (fun _ => rfl) (by decide) (by decide) (by decide) ⟨by decide, by decide⟩ dX1_init_23 (fun q3 L3 kd3 s3 e3 t3 r3 hk3 => ?_)
  have X : zX d L3 kd3 A 1 p s m args c cX1_init RX1 := X
  have Rq1_3 : zrt L3 s3 q1 := e3.rr (e2.t t1) Rq1_2
  have Rq2_3 : zrt L3 s3 q2 := e3.rr t2 r2.1
  refine zc_put (j := 2) (ty := .array .int) (fs2 := [.ref q1, .ref q2, .ref q3, .int 0, .int 0, .int 0]) X hin rfl (by decide) zl_in1 tyX1_ok nmX1 (zkl_X1_18) rfl (by decide +kernel) rfl rfl (Nat.le_of_ble_eq_true rfl) rfl dX1_init_25 ?_
  refine zg_aload_n X 0 rfl dX1_init_28 ?_
  refine zg_iconst X 0 dX1_init_29 (by decide) (fun v4 _ hv4 => ?_)
  refine zc_put (j := 3) (ty := .int) (fs2 := [.ref q1, .ref q2, .ref q3, .int v4, .int 0, .int 0]) X hin rfl (by decide) zl_in1 tyX1_ok nmX1 (zkl_X1_21) rfl (by decide +kernel) rfl rfl (Nat.le_of_ble_eq_true rfl) rfl dX1_init_30 ?_
  refine zg_aload_n X 0 rfl dX1_init_33 ?_
  refine zg_iconst X 0 dX1_init_34 (by decide) (fun v5 _ hv5 => ?_)
  refine zc_put (j := 4) (ty := .int) (fs2 := [.ref q1, .ref q2, .ref q3, .int v4, .int v5, .int 0]) X hin rfl (by decide) zl_in1 tyX1_ok nmX1 (zkl_X1_25) rfl (by decide +kernel) rfl rfl (Nat.le_of_ble_eq_true rfl) rfl dX1_init_35 ?_
  refine zg_aload_n X 0 rfl dX1_init_38 ?_
  refine zg_iconst X 0 dX1_init_39 (by decide) (fun v6 _ hv6 => ?_)
  refine zc_put (j := 5) (ty := .int) (fs2 := [.ref q1, .ref q2, .ref q3, .int v4, .int v5, .int v6]) X hin rfl (by decide) zl_in1 tyX1_ok nmX1 (zkl_X1_28) rfl (by decide +kernel) rfl rfl (Nat.le_of_ble_eq_true rfl) rfl dX1_init_40 ?_
  have hf4 : ∀ j k2, zf 0 1 j = some k2 → ∃ y, (fun j => ([some q1, some q2, some q3, none, none, none] : List (Option Nat)).getD j none) j = some y ∧ zT L3 kd3 y k2 := by
    intro j k2 h
    have h := zf_list (by decide) h
    rw [show (zfl.filter (fun q => q.1 == 1 && q.2.2.2 == 0)).map (fun q => (q.2.1, q.2.2.1)) = ([(0, 22), (1, 23), (2, 24)] : List (Nat × Nat)) from by decide +kernel] at h
    simp only [List.mem_cons, Prod.mk.injEq, List.not_mem_nil, or_false] at h
    rcases h with ⟨rfl, rfl⟩ | ⟨rfl, rfl⟩ | ⟨rfl, rfl⟩
    · exact ⟨_, rfl, (e3.t (e2.t t1))⟩
    · exact ⟨_, rfl, (e3.t t2)⟩
    · exact ⟨_, rfl, t3⟩
  have hq4 : ∀ j y, (fun j => ([some q1, some q2, some q3, none, none, none] : List (Option Nat)).getD j none) j = some y → (j < 6 ∧ zf 0 1 j ≠ none) ∧ y ∈ L3 ∧ ((kd3 : Nat → Nat) y ≠ 6 → zrt L3 s3 y) := by
    intro j y e
    have hj : j < 6 := zgN 6 e
    rcases (show j = 0 ∨ j = 1 ∨ j = 2 ∨ j = 3 ∨ j = 4 ∨ j = 5 by omega) with rfl | rfl | rfl | rfl | rfl | rfl
    · cases (show some q1 = some y from e); exact ⟨⟨by decide, by decide⟩, (e3.t (e2.t t1)).1, fun _ => Rq1_3⟩
    · cases (show some q2 = some y from e); exact ⟨⟨by decide, by decide⟩, (e3.t t2).1, fun _ => Rq2_3⟩
    · cases (show some q3 = some y from e); exact ⟨⟨by decide, by decide⟩, t3.1, fun _ => r3.1⟩
    · cases (show (none : Option Nat) = some y from e)
    · cases (show (none : Option Nat) = some y from e)
    · cases (show (none : Option Nat) = some y from e)
  have hi4 : ∀ j j' y, (fun j => ([some q1, some q2, some q3, none, none, none] : List (Option Nat)).getD j none) j = some y → (fun j => ([some q1, some q2, some q3, none, none, none] : List (Option Nat)).getD j none) j' = some y → j = j' := by
    intro j j' y e e'
    rcases zinjk (N := 6) (Xr := fun j j' => False) hf4 (fun j y e => (hq4 j y e).1) (by decide +kernel) e e' with z | z
    · exact z
    · exact absurd z id
  refine zc_typed (b2 := (List.contains ([1, 22, 23, 24] : List Nat) 8)) (k := 1) (fun j => ([0, 0, 0, v4, v5, v6] : List Int32).getD j 0) (fun j => ([0, 0, 0, 0, 0, 0] : List Int64).getD j 0) (fun j => ([some q1, some q2, some q3, none, none, none] : List (Option Nat)).getD j none) hk3 rfl (by decide) rfl ?_ hf4 (by decide) (by decide) (by decide) (by decide) ⟨fun _ => ⟨Int32.toInt_inj.mp (hv4.trans (by decide)), Int32.toInt_inj.mp (hv5.trans (by decide)), Int32.toInt_inj.mp (hv6.trans (by decide))⟩, fun e => absurd e (by decide), fun e => absurd e (by decide), fun e => absurd e (by decide), fun e => absurd e (by decide), fun e => absurd e (by decide), fun e => absurd e (by decide)⟩ (fun j y e => (hq4 j y e).2) (fun j j' y e e' _ _ _ => hi4 j j' y e e') (fun L4 kd4 s4 e4 ta4 rt4 hk4 => ?_)
  · intro j
    rcases zr_list (k := 1) (by decide) j with h | h
    · rw [h]; exact zb_rng _
    · rw [show ((zrl 0).filter (fun q => q.1 == 1)).map (fun q => (q.2.1, q.2.2)) = ([(5, 0, 2)] : List (Nat × Int × Int)) from by decide +kernel] at h
      simp only [List.mem_cons, Prod.mk.injEq, List.not_mem_nil, or_false] at h
      rcases h with ⟨rfl, h⟩
      · rw [h]; show _ ≤ Int32.toInt v6 ∧ Int32.toInt v6 ≤ _; first | exact ⟨by decide, by decide⟩ | exact ⟨by show (0 : Int) ≤ _; omega, by show _ ≤ (2 : Int); omega⟩
  have X : zX d L4 kd4 A 1 p s m args c cX1_init RX1 := X
  exact ret _ _ _ _ _ dX1_init_43 ta4 rt4 hk4
set_option maxHeartbeats 4000000 in
set_option maxRecDepth 100000 in
theorem n_X2 (l : Launch) (d : zD2) : zNew l yX2_init (Cond.code yX2_init cX2_init 1 none :: zWL) 1 4 80 d 2 [.null, .null, .null, .null, .int 0] [2, 25, 26, 27, 28] := by
  refine zNew.of (own := RX2) (by decide +kernel) rfl rfl rfl (by decide) ?_
  intro a0 p e s m args below meth c A Q X hin ret
  have hk0 := zK.nil
  refine zg_aload_n X 0 rfl dX2_init_0 ?_
  refine zc_obj X mo_X2_3 mo_inst mo_code dX2_init_1 ⟨by decide, Nat.le_of_ble_eq_true rfl⟩ ?_
  refine zg_aload_n X 0 rfl dX2_init_4 ?_
  refine zg_bipush X 20 dX2_init_5 (by decide) (fun v1 _ hv1 => ?_)
  refine zc_newi X 25 13 1 hk0 wa_int rfl rfl (Or.inr (Or.inl rfl)) rfl rfl (by rw [hv1]; rfl) (by decide) (fun j => ⟨show (0 : Int) ≤ 0 by decide, show (0 : Int) ≤ 11 by decide⟩) (fun _ => rfl) (by decide) (by decide) (by decide) ⟨by decide, by decide⟩ dX2_init_7 (fun q1 L1 kd1 s1 e1 t1 r1 hk1 => ?_)
  have X : zX d L1 kd1 A 1 p s m args c cX2_init RX2 := X
  refine zc_put (j := 0) (ty := .array .int) (fs2 := [.ref q1, .null, .null, .null, .int 0]) X hin rfl (by decide) zl_in2 tyX2_ok nmX2 (zkl_X2_11) rfl (by decide +kernel) rfl rfl (Nat.le_of_ble_eq_true rfl) rfl dX2_init_9 ?_
  refine zg_aload_n X 0 rfl dX2_init_12 ?_
  refine zg_bipush X 20 dX2_init_13 (by decide) (fun v2 _ hv2 => ?_)
  refine zc_newi X 26 13 1 hk1 wa_int rfl rfl (Or.inr (Or.inl rfl)) rfl rfl (by rw [hv2]; rfl) (by decide) (fun j => ⟨show (-2147483648 : Int) ≤ 0 by decide, show (0 : Int) ≤ 2147483647 by decide⟩) (fun _ => rfl) (by decide) (by decide) (by decide) ⟨by decide, by decide⟩ dX2_init_15 (fun q2 L2 kd2 s2 e2 t2 r2 hk2 => ?_)
  have X : zX d L2 kd2 A 1 p s m args c cX2_init RX2 := X
  have Rq1_2 : zrt L2 s2 q1 := e2.rr t1 r1.1
  refine zc_put (j := 1) (ty := .array .int) (fs2 := [.ref q1, .ref q2, .null, .null, .int 0]) X hin rfl (by decide) zl_in2 tyX2_ok nmX2 (zkl_X2_15) rfl (by decide +kernel) rfl rfl (Nat.le_of_ble_eq_true rfl) rfl dX2_init_17 ?_
  refine zg_aload_n X 0 rfl dX2_init_20 ?_
  refine zg_bipush X 20 dX2_init_21 (by decide) (fun v3 _ hv3 => ?_)
  refine zc_newi X 27 13 1 hk2 wa_int rfl rfl (Or.inr (Or.inl rfl)) rfl rfl (by rw [hv3]; rfl) (by decide) (fun j => ⟨show (-2147483648 : Int) ≤ 0 by decide, show (0 : Int) ≤ 2147483647 by decide⟩) (fun _ => rfl) (by decide) (by decide) (by decide) ⟨by decide, by decide⟩ dX2_init_23 (fun q3 L3 kd3 s3 e3 t3 r3 hk3 => ?_)
  have X : zX d L3 kd3 A 1 p s m args c cX2_init RX2 := X
  have Rq1_3 : zrt L3 s3 q1 := e3.rr (e2.t t1) Rq1_2
  have Rq2_3 : zrt L3 s3 q2 := e3.rr t2 r2.1
  refine zc_put (j := 2) (ty := .array .int) (fs2 := [.ref q1, .ref q2, .ref q3, .null, .int 0]) X hin rfl (by decide) zl_in2 tyX2_ok nmX2 (zkl_X2_18) rfl (by decide +kernel) rfl rfl (Nat.le_of_ble_eq_true rfl) rfl dX2_init_25 ?_
  refine zg_aload_n X 0 rfl dX2_init_28 ?_
  refine zg_bipush X 20 dX2_init_29 (by decide) (fun v4 _ hv4 => ?_)
  refine zc_newi X 28 15 3 hk3 wa_boolean rfl rfl (Or.inr (Or.inr rfl)) rfl rfl (by rw [hv4]; rfl) (by decide) (fun j => ⟨show (0 : Int) ≤ 0 by decide, show (0 : Int) ≤ 1 by decide⟩) (fun _ => rfl) (by decide) (by decide) (by decide) ⟨by decide, by decide⟩ dX2_init_31 (fun q4 L4 kd4 s4 e4 t4 r4 hk4 => ?_)
  have X : zX d L4 kd4 A 1 p s m args c cX2_init RX2 := X
  have Rq1_4 : zrt L4 s4 q1 := e4.rr (e3.t (e2.t t1)) Rq1_3
  have Rq2_4 : zrt L4 s4 q2 := e4.rr (e3.t t2) Rq2_3
  have Rq3_4 : zrt L4 s4 q3 := e4.rr t3 r3.1
  refine zc_put (j := 3) (ty := .array .boolean) (fs2 := [.ref q1, .ref q2, .ref q3, .ref q4, .int 0]) X hin rfl (by decide) zl_in2 tyX2_ok nmX2 (zkl_X2_21) rfl (by decide +kernel) rfl rfl (Nat.le_of_ble_eq_true rfl) rfl dX2_init_33 ?_
  refine zg_aload_n X 0 rfl dX2_init_36 ?_
  refine zg_iconst X 0 dX2_init_37 (by decide) (fun v5 _ hv5 => ?_)
  refine zc_put (j := 4) (ty := .int) (fs2 := [.ref q1, .ref q2, .ref q3, .ref q4, .int v5]) X hin rfl (by decide) zl_in2 tyX2_ok nmX2 (zkl_X2_25) rfl (by decide +kernel) rfl rfl (Nat.le_of_ble_eq_true rfl) rfl dX2_init_38 ?_
  have hf5 : ∀ j k2, zf 0 2 j = some k2 → ∃ y, (fun j => ([some q1, some q2, some q3, some q4, none] : List (Option Nat)).getD j none) j = some y ∧ zT L4 kd4 y k2 := by
    intro j k2 h
    have h := zf_list (by decide) h
    rw [show (zfl.filter (fun q => q.1 == 2 && q.2.2.2 == 0)).map (fun q => (q.2.1, q.2.2.1)) = ([(0, 25), (1, 26), (2, 27), (3, 28)] : List (Nat × Nat)) from by decide +kernel] at h
    simp only [List.mem_cons, Prod.mk.injEq, List.not_mem_nil, or_false] at h
    rcases h with ⟨rfl, rfl⟩ | ⟨rfl, rfl⟩ | ⟨rfl, rfl⟩ | ⟨rfl, rfl⟩
    · exact ⟨_, rfl, (e4.t (e3.t (e2.t t1)))⟩
    · exact ⟨_, rfl, (e4.t (e3.t t2))⟩
    · exact ⟨_, rfl, (e4.t t3)⟩
    · exact ⟨_, rfl, t4⟩
  have hq5 : ∀ j y, (fun j => ([some q1, some q2, some q3, some q4, none] : List (Option Nat)).getD j none) j = some y → (j < 5 ∧ zf 0 2 j ≠ none) ∧ y ∈ L4 ∧ ((kd4 : Nat → Nat) y ≠ 6 → zrt L4 s4 y) := by
    intro j y e
    have hj : j < 5 := zgN 5 e
    rcases (show j = 0 ∨ j = 1 ∨ j = 2 ∨ j = 3 ∨ j = 4 by omega) with rfl | rfl | rfl | rfl | rfl
    · cases (show some q1 = some y from e); exact ⟨⟨by decide, by decide⟩, (e4.t (e3.t (e2.t t1))).1, fun _ => Rq1_4⟩
    · cases (show some q2 = some y from e); exact ⟨⟨by decide, by decide⟩, (e4.t (e3.t t2)).1, fun _ => Rq2_4⟩
    · cases (show some q3 = some y from e); exact ⟨⟨by decide, by decide⟩, (e4.t t3).1, fun _ => Rq3_4⟩
    · cases (show some q4 = some y from e); exact ⟨⟨by decide, by decide⟩, t4.1, fun _ => r4.1⟩
    · cases (show (none : Option Nat) = some y from e)
  have hi5 : ∀ j j' y, (fun j => ([some q1, some q2, some q3, some q4, none] : List (Option Nat)).getD j none) j = some y → (fun j => ([some q1, some q2, some q3, some q4, none] : List (Option Nat)).getD j none) j' = some y → j = j' := by
    intro j j' y e e'
    rcases zinjk (N := 5) (Xr := fun j j' => False) hf5 (fun j y e => (hq5 j y e).1) (by decide +kernel) e e' with z | z
    · exact z
    · exact absurd z id
  refine zc_typed (b2 := (List.contains ([2, 25, 26, 27, 28] : List Nat) 8)) (k := 2) (fun j => ([0, 0, 0, 0, v5] : List Int32).getD j 0) (fun j => ([0, 0, 0, 0, 0] : List Int64).getD j 0) (fun j => ([some q1, some q2, some q3, some q4, none] : List (Option Nat)).getD j none) hk4 rfl (by decide) rfl ?_ hf5 (by decide) (by decide) (by decide) (by decide) ⟨fun e => absurd e (by decide), fun _ => Int32.toInt_inj.mp (hv5.trans (by decide)), fun e => absurd e (by decide), fun e => absurd e (by decide), fun e => absurd e (by decide), fun e => absurd e (by decide), fun e => absurd e (by decide)⟩ (fun j y e => (hq5 j y e).2) (fun j j' y e e' _ _ _ => hi5 j j' y e e') (fun L5 kd5 s5 e5 ta5 rt5 hk5 => ?_)
  · intro j
    rcases zr_list (k := 2) (by decide) j with h | h
    · rw [h]; exact zb_rng _
    · rw [show ((zrl 0).filter (fun q => q.1 == 2)).map (fun q => (q.2.1, q.2.2)) = ([(4, 0, 20)] : List (Nat × Int × Int)) from by decide +kernel] at h
      simp only [List.mem_cons, Prod.mk.injEq, List.not_mem_nil, or_false] at h
      rcases h with ⟨rfl, h⟩
      · rw [h]; show _ ≤ Int32.toInt v5 ∧ Int32.toInt v5 ≤ _; first | exact ⟨by decide, by decide⟩ | exact ⟨by show (0 : Int) ≤ _; omega, by show _ ≤ (20 : Int); omega⟩
  have X : zX d L5 kd5 A 1 p s m args c cX2_init RX2 := X
  exact ret _ _ _ _ _ dX2_init_41 ta5 rt5 hk5
set_option maxHeartbeats 4000000 in
set_option maxRecDepth 100000 in
theorem n_X7 (l : Launch) (d : zD2) : zNew l yX7_init (Cond.code yX7_init cX7_init 1 none :: zWL) 1 1 2000 d 7 [.null, .int 0] [7, 39] := by
  refine zNew.of (own := RX7) (by decide +kernel) rfl rfl rfl (by decide) ?_
  intro a0 p e s m args below meth c A Q X hin ret
  have hk0 := zK.nil
  refine zg_aload_n X 0 rfl dX7_init_0 ?_
  refine zc_obj X mo_X7_3 mo_inst mo_code dX7_init_1 ⟨by decide, Nat.le_of_ble_eq_true rfl⟩ ?_
  refine zg_aload_n X 0 rfl dX7_init_4 ?_
  refine zg_sipush X 2000 dX7_init_5 (by decide) (fun v1 _ hv1 => ?_)
  refine zc_newi X 39 12 0 hk0 wa_byte rfl rfl (Or.inl rfl) rfl rfl (by rw [hv1]; rfl) (by decide) (fun j => ⟨show (-128 : Int) ≤ 0 by decide, show (0 : Int) ≤ 127 by decide⟩) (fun _ => rfl) (by decide) (by decide) (by decide) ⟨by decide, by decide⟩ dX7_init_8 (fun q1 L1 kd1 s1 e1 t1 r1 hk1 => ?_)
  have X : zX d L1 kd1 A 1 p s m args c cX7_init RX7 := X
  refine zc_put (j := 0) (ty := .array .byte) (fs2 := [.ref q1, .int 0]) X hin rfl (by decide) zl_in7 tyX7_ok nmX7 (zkl_X7_9) rfl (by decide +kernel) rfl rfl (Nat.le_of_ble_eq_true rfl) rfl dX7_init_10 ?_
  refine zg_aload_n X 0 rfl dX7_init_13 ?_
  refine zg_iconst X 0 dX7_init_14 (by decide) (fun v2 _ hv2 => ?_)
  refine zc_put (j := 1) (ty := .int) (fs2 := [.ref q1, .int v2]) X hin rfl (by decide) zl_in7 tyX7_ok nmX7 (zkl_X7_15) rfl (by decide +kernel) rfl rfl (Nat.le_of_ble_eq_true rfl) rfl dX7_init_15 ?_
  have hf2 : ∀ j k2, zf 0 7 j = some k2 → ∃ y, (fun j => ([some q1, none] : List (Option Nat)).getD j none) j = some y ∧ zT L1 kd1 y k2 := by
    intro j k2 h
    have h := zf_list (by decide) h
    rw [show (zfl.filter (fun q => q.1 == 7 && q.2.2.2 == 0)).map (fun q => (q.2.1, q.2.2.1)) = ([(0, 39)] : List (Nat × Nat)) from by decide +kernel] at h
    simp only [List.mem_cons, Prod.mk.injEq, List.not_mem_nil, or_false] at h
    rcases h with ⟨rfl, rfl⟩
    · exact ⟨_, rfl, t1⟩
  have hq2 : ∀ j y, (fun j => ([some q1, none] : List (Option Nat)).getD j none) j = some y → (j < 2 ∧ zf 0 7 j ≠ none) ∧ y ∈ L1 ∧ ((kd1 : Nat → Nat) y ≠ 6 → zrt L1 s1 y) := by
    intro j y e
    have hj : j < 2 := zgN 2 e
    rcases (show j = 0 ∨ j = 1 by omega) with rfl | rfl
    · cases (show some q1 = some y from e); exact ⟨⟨by decide, by decide⟩, t1.1, fun _ => r1.1⟩
    · cases (show (none : Option Nat) = some y from e)
  have hi2 : ∀ j j' y, (fun j => ([some q1, none] : List (Option Nat)).getD j none) j = some y → (fun j => ([some q1, none] : List (Option Nat)).getD j none) j' = some y → j = j' := by
    intro j j' y e e'
    rcases zinjk (N := 2) (Xr := fun j j' => False) hf2 (fun j y e => (hq2 j y e).1) (by decide +kernel) e e' with z | z
    · exact z
    · exact absurd z id
  refine zc_typed (b2 := (List.contains ([7, 39] : List Nat) 8)) (k := 7) (fun j => ([0, v2] : List Int32).getD j 0) (fun j => ([0, 0] : List Int64).getD j 0) (fun j => ([some q1, none] : List (Option Nat)).getD j none) hk1 rfl (by decide) rfl ?_ hf2 (by decide) (by decide) (by decide) (by decide) ⟨fun e => absurd e (by decide), fun e => absurd e (by decide), fun e => absurd e (by decide), fun e => absurd e (by decide), fun e => absurd e (by decide), fun e => absurd e (by decide), fun e => absurd e (by decide)⟩ (fun j y e => (hq2 j y e).2) (fun j j' y e e' _ _ _ => hi2 j j' y e e') (fun L2 kd2 s2 e2 ta2 rt2 hk2 => ?_)
  · intro j
    rcases zr_list (k := 7) (by decide) j with h | h
    · rw [h]; exact zb_rng _
    · rw [show ((zrl 0).filter (fun q => q.1 == 7)).map (fun q => (q.2.1, q.2.2)) = ([(1, 0, 0)] : List (Nat × Int × Int)) from by decide +kernel] at h
      simp only [List.mem_cons, Prod.mk.injEq, List.not_mem_nil, or_false] at h
      rcases h with ⟨rfl, h⟩
      · rw [h]; show _ ≤ Int32.toInt v2 ∧ Int32.toInt v2 ≤ _; first | exact ⟨by decide, by decide⟩ | exact ⟨by show (0 : Int) ≤ _; omega, by show _ ≤ (0 : Int); omega⟩
  have X : zX d L2 kd2 A 1 p s m args c cX7_init RX7 := X
  exact ret _ _ _ _ _ dX7_init_18 ta2 rt2 hk2
set_option maxHeartbeats 4000000 in
set_option maxRecDepth 100000 in
theorem n_X6 (l : Launch) (d : zD2) : zNew l yX6_init (Cond.code yX6_init cX6_init 1 none :: zWL) 1 6 72 d 6 [.int 0, .null, .null, .null, .null, .null, .null] [6, 33, 34, 35, 36, 37, 38] := by
  refine zNew.of (own := RX6) (by decide +kernel) rfl rfl rfl (by decide) ?_
  intro a0 p e s m args below meth c A Q X hin ret
  have hk0 := zK.nil
  refine zg_aload_n X 0 rfl dX6_init_0 ?_
  refine zc_obj X mo_X6_3 mo_inst mo_code dX6_init_1 ⟨by decide, Nat.le_of_ble_eq_true rfl⟩ ?_
  refine zg_aload_n X 0 rfl dX6_init_4 ?_
  refine zg_iconst X 0 dX6_init_5 (by decide) (fun v1 _ hv1 => ?_)
  refine zc_put (j := 0) (ty := .int) (fs2 := [.int v1, .null, .null, .null, .null, .null, .null]) X hin rfl (by decide) zl_in6 tyX6_ok nmX6 (zkl_X6_9) rfl (by decide +kernel) rfl rfl (Nat.le_of_ble_eq_true rfl) rfl dX6_init_6 ?_
  refine zg_aload_n X 0 rfl dX6_init_9 ?_
  refine zg_bipush X 12 dX6_init_10 (by decide) (fun v2 _ hv2 => ?_)
  refine zc_newi X 33 13 1 hk0 wa_int rfl rfl (Or.inr (Or.inl rfl)) rfl rfl (by rw [hv2]; rfl) (by decide) (fun j => ⟨show (-2147483648 : Int) ≤ 0 by decide, show (0 : Int) ≤ 2147483647 by decide⟩) (fun _ => rfl) (by decide) (by decide) (by decide) ⟨by decide, by decide⟩ dX6_init_12 (fun q1 L1 kd1 s1 e1 t1 r1 hk1 => ?_)
  have X : zX d L1 kd1 A 1 p s m args c cX6_init RX6 := X
  refine zc_put (j := 1) (ty := .array .int) (fs2 := [.int v1, .ref q1, .null, .null, .null, .null, .null]) X hin rfl (by decide) zl_in6 tyX6_ok nmX6 (zkl_X6_15) rfl (by decide +kernel) rfl rfl (Nat.le_of_ble_eq_true rfl) rfl dX6_init_14 ?_
  refine zg_aload_n X 0 rfl dX6_init_17 ?_
  refine zg_bipush X 12 dX6_init_18 (by decide) (fun v3 _ hv3 => ?_)
  refine zc_newi X 34 13 1 hk1 wa_int rfl rfl (Or.inr (Or.inl rfl)) rfl rfl (by rw [hv3]; rfl) (by decide) (fun j => ⟨show (0 : Int) ≤ 0 by decide, show (0 : Int) ≤ 11 by decide⟩) (fun _ => rfl) (by decide) (by decide) (by decide) ⟨by decide, by decide⟩ dX6_init_20 (fun q2 L2 kd2 s2 e2 t2 r2 hk2 => ?_)
  have X : zX d L2 kd2 A 1 p s m args c cX6_init RX6 := X
  have Rq1_2 : zrt L2 s2 q1 := e2.rr t1 r1.1
  refine zc_put (j := 2) (ty := .array .int) (fs2 := [.int v1, .ref q1, .ref q2, .null, .null, .null, .null]) X hin rfl (by decide) zl_in6 tyX6_ok nmX6 (zkl_X6_19) rfl (by decide +kernel) rfl rfl (Nat.le_of_ble_eq_true rfl) rfl dX6_init_22 ?_
  refine zg_aload_n X 0 rfl dX6_init_25 ?_
  refine zg_bipush X 12 dX6_init_26 (by decide) (fun v4 _ hv4 => ?_)
  refine zc_newi X 35 13 1 hk2 wa_int rfl rfl (Or.inr (Or.inl rfl)) rfl rfl (by rw [hv4]; rfl) (by decide) (fun j => ⟨show (-2147483648 : Int) ≤ 0 by decide, show (0 : Int) ≤ 2147483647 by decide⟩) (fun _ => rfl) (by decide) (by decide) (by decide) ⟨by decide, by decide⟩ dX6_init_28 (fun q3 L3 kd3 s3 e3 t3 r3 hk3 => ?_)
  have X : zX d L3 kd3 A 1 p s m args c cX6_init RX6 := X
  have Rq1_3 : zrt L3 s3 q1 := e3.rr (e2.t t1) Rq1_2
  have Rq2_3 : zrt L3 s3 q2 := e3.rr t2 r2.1
  refine zc_put (j := 3) (ty := .array .int) (fs2 := [.int v1, .ref q1, .ref q2, .ref q3, .null, .null, .null]) X hin rfl (by decide) zl_in6 tyX6_ok nmX6 (zkl_X6_22) rfl (by decide +kernel) rfl rfl (Nat.le_of_ble_eq_true rfl) rfl dX6_init_30 ?_
  refine zg_aload_n X 0 rfl dX6_init_33 ?_
  refine zg_bipush X 12 dX6_init_34 (by decide) (fun v5 _ hv5 => ?_)
  refine zc_newi X 36 13 1 hk3 wa_int rfl rfl (Or.inr (Or.inl rfl)) rfl rfl (by rw [hv5]; rfl) (by decide) (fun j => ⟨show (-2147483648 : Int) ≤ 0 by decide, show (0 : Int) ≤ 2147483647 by decide⟩) (fun _ => rfl) (by decide) (by decide) (by decide) ⟨by decide, by decide⟩ dX6_init_36 (fun q4 L4 kd4 s4 e4 t4 r4 hk4 => ?_)
  have X : zX d L4 kd4 A 1 p s m args c cX6_init RX6 := X
  have Rq1_4 : zrt L4 s4 q1 := e4.rr (e3.t (e2.t t1)) Rq1_3
  have Rq2_4 : zrt L4 s4 q2 := e4.rr (e3.t t2) Rq2_3
  have Rq3_4 : zrt L4 s4 q3 := e4.rr t3 r3.1
  refine zc_put (j := 4) (ty := .array .int) (fs2 := [.int v1, .ref q1, .ref q2, .ref q3, .ref q4, .null, .null]) X hin rfl (by decide) zl_in6 tyX6_ok nmX6 (zkl_X6_25) rfl (by decide +kernel) rfl rfl (Nat.le_of_ble_eq_true rfl) rfl dX6_init_38 ?_
  refine zg_aload_n X 0 rfl dX6_init_41 ?_
  refine zg_bipush X 12 dX6_init_42 (by decide) (fun v6 _ hv6 => ?_)
  refine zc_newi X 37 13 1 hk4 wa_int rfl rfl (Or.inr (Or.inl rfl)) rfl rfl (by rw [hv6]; rfl) (by decide) (fun j => ⟨show (-2147483648 : Int) ≤ 0 by decide, show (0 : Int) ≤ 2147483647 by decide⟩) (fun _ => rfl) (by decide) (by decide) (by decide) ⟨by decide, by decide⟩ dX6_init_44 (fun q5 L5 kd5 s5 e5 t5 r5 hk5 => ?_)
  have X : zX d L5 kd5 A 1 p s m args c cX6_init RX6 := X
  have Rq1_5 : zrt L5 s5 q1 := e5.rr (e4.t (e3.t (e2.t t1))) Rq1_4
  have Rq2_5 : zrt L5 s5 q2 := e5.rr (e4.t (e3.t t2)) Rq2_4
  have Rq3_5 : zrt L5 s5 q3 := e5.rr (e4.t t3) Rq3_4
  have Rq4_5 : zrt L5 s5 q4 := e5.rr t4 r4.1
  refine zc_put (j := 5) (ty := .array .int) (fs2 := [.int v1, .ref q1, .ref q2, .ref q3, .ref q4, .ref q5, .null]) X hin rfl (by decide) zl_in6 tyX6_ok nmX6 (zkl_X6_28) rfl (by decide +kernel) rfl rfl (Nat.le_of_ble_eq_true rfl) rfl dX6_init_46 ?_
  refine zg_aload_n X 0 rfl dX6_init_49 ?_
  refine zg_bipush X 12 dX6_init_50 (by decide) (fun v7 _ hv7 => ?_)
  refine zc_newi X 38 13 1 hk5 wa_int rfl rfl (Or.inr (Or.inl rfl)) rfl rfl (by rw [hv7]; rfl) (by decide) (fun j => ⟨show (-2147483648 : Int) ≤ 0 by decide, show (0 : Int) ≤ 2147483647 by decide⟩) (fun _ => rfl) (by decide) (by decide) (by decide) ⟨by decide, by decide⟩ dX6_init_52 (fun q6 L6 kd6 s6 e6 t6 r6 hk6 => ?_)
  have X : zX d L6 kd6 A 1 p s m args c cX6_init RX6 := X
  have Rq1_6 : zrt L6 s6 q1 := e6.rr (e5.t (e4.t (e3.t (e2.t t1)))) Rq1_5
  have Rq2_6 : zrt L6 s6 q2 := e6.rr (e5.t (e4.t (e3.t t2))) Rq2_5
  have Rq3_6 : zrt L6 s6 q3 := e6.rr (e5.t (e4.t t3)) Rq3_5
  have Rq4_6 : zrt L6 s6 q4 := e6.rr (e5.t t4) Rq4_5
  have Rq5_6 : zrt L6 s6 q5 := e6.rr t5 r5.1
  refine zc_put (j := 6) (ty := .array .int) (fs2 := [.int v1, .ref q1, .ref q2, .ref q3, .ref q4, .ref q5, .ref q6]) X hin rfl (by decide) zl_in6 tyX6_ok nmX6 (zkl_X6_31) rfl (by decide +kernel) rfl rfl (Nat.le_of_ble_eq_true rfl) rfl dX6_init_54 ?_
  have hf7 : ∀ j k2, zf 0 6 j = some k2 → ∃ y, (fun j => ([none, some q1, some q2, some q3, some q4, some q5, some q6] : List (Option Nat)).getD j none) j = some y ∧ zT L6 kd6 y k2 := by
    intro j k2 h
    have h := zf_list (by decide) h
    rw [show (zfl.filter (fun q => q.1 == 6 && q.2.2.2 == 0)).map (fun q => (q.2.1, q.2.2.1)) = ([(1, 33), (2, 34), (3, 35), (4, 36), (5, 37), (6, 38)] : List (Nat × Nat)) from by decide +kernel] at h
    simp only [List.mem_cons, Prod.mk.injEq, List.not_mem_nil, or_false] at h
    rcases h with ⟨rfl, rfl⟩ | ⟨rfl, rfl⟩ | ⟨rfl, rfl⟩ | ⟨rfl, rfl⟩ | ⟨rfl, rfl⟩ | ⟨rfl, rfl⟩
    · exact ⟨_, rfl, (e6.t (e5.t (e4.t (e3.t (e2.t t1)))))⟩
    · exact ⟨_, rfl, (e6.t (e5.t (e4.t (e3.t t2))))⟩
    · exact ⟨_, rfl, (e6.t (e5.t (e4.t t3)))⟩
    · exact ⟨_, rfl, (e6.t (e5.t t4))⟩
    · exact ⟨_, rfl, (e6.t t5)⟩
    · exact ⟨_, rfl, t6⟩
  have hq7 : ∀ j y, (fun j => ([none, some q1, some q2, some q3, some q4, some q5, some q6] : List (Option Nat)).getD j none) j = some y → (j < 7 ∧ zf 0 6 j ≠ none) ∧ y ∈ L6 ∧ ((kd6 : Nat → Nat) y ≠ 6 → zrt L6 s6 y) := by
    intro j y e
    have hj : j < 7 := zgN 7 e
    rcases (show j = 0 ∨ j = 1 ∨ j = 2 ∨ j = 3 ∨ j = 4 ∨ j = 5 ∨ j = 6 by omega) with rfl | rfl | rfl | rfl | rfl | rfl | rfl
    · cases (show (none : Option Nat) = some y from e)
    · cases (show some q1 = some y from e); exact ⟨⟨by decide, by decide⟩, (e6.t (e5.t (e4.t (e3.t (e2.t t1))))).1, fun _ => Rq1_6⟩
    · cases (show some q2 = some y from e); exact ⟨⟨by decide, by decide⟩, (e6.t (e5.t (e4.t (e3.t t2)))).1, fun _ => Rq2_6⟩
    · cases (show some q3 = some y from e); exact ⟨⟨by decide, by decide⟩, (e6.t (e5.t (e4.t t3))).1, fun _ => Rq3_6⟩
    · cases (show some q4 = some y from e); exact ⟨⟨by decide, by decide⟩, (e6.t (e5.t t4)).1, fun _ => Rq4_6⟩
    · cases (show some q5 = some y from e); exact ⟨⟨by decide, by decide⟩, (e6.t t5).1, fun _ => Rq5_6⟩
    · cases (show some q6 = some y from e); exact ⟨⟨by decide, by decide⟩, t6.1, fun _ => r6.1⟩
  have hi7 : ∀ j j' y, (fun j => ([none, some q1, some q2, some q3, some q4, some q5, some q6] : List (Option Nat)).getD j none) j = some y → (fun j => ([none, some q1, some q2, some q3, some q4, some q5, some q6] : List (Option Nat)).getD j none) j' = some y → j = j' := by
    intro j j' y e e'
    rcases zinjk (N := 7) (Xr := fun j j' => False) hf7 (fun j y e => (hq7 j y e).1) (by decide +kernel) e e' with z | z
    · exact z
    · exact absurd z id
  refine zc_typed (b2 := (List.contains ([6, 33, 34, 35, 36, 37, 38] : List Nat) 8)) (k := 6) (fun j => ([v1, 0, 0, 0, 0, 0, 0] : List Int32).getD j 0) (fun j => ([0, 0, 0, 0, 0, 0, 0] : List Int64).getD j 0) (fun j => ([none, some q1, some q2, some q3, some q4, some q5, some q6] : List (Option Nat)).getD j none) hk6 rfl (by decide) rfl ?_ hf7 (by decide) (by decide) (by decide) (by decide) ⟨fun e => absurd e (by decide), fun e => absurd e (by decide), fun e => absurd e (by decide), fun e => absurd e (by decide), fun e => absurd e (by decide), fun e => absurd e (by decide), fun e => absurd e (by decide)⟩ (fun j y e => (hq7 j y e).2) (fun j j' y e e' _ _ _ => hi7 j j' y e e') (fun L7 kd7 s7 e7 ta7 rt7 hk7 => ?_)
  · intro j
    rcases zr_list (k := 6) (by decide) j with h | h
    · rw [h]; exact zb_rng _
    · rw [show ((zrl 0).filter (fun q => q.1 == 6)).map (fun q => (q.2.1, q.2.2)) = ([(0, 0, 12)] : List (Nat × Int × Int)) from by decide +kernel] at h
      simp only [List.mem_cons, Prod.mk.injEq, List.not_mem_nil, or_false] at h
      rcases h with ⟨rfl, h⟩
      · rw [h]; show _ ≤ Int32.toInt v1 ∧ Int32.toInt v1 ≤ _; first | exact ⟨by decide, by decide⟩ | exact ⟨by show (0 : Int) ≤ _; omega, by show _ ≤ (12 : Int); omega⟩
  have X : zX d L7 kd7 A 1 p s m args c cX6_init RX6 := X
  exact ret _ _ _ _ _ dX6_init_57 ta7 rt7 hk7
set_option maxHeartbeats 4000000 in
set_option maxRecDepth 100000 in
theorem n_X5 (l : Launch) (d : zD2) : zNew l yX5_init (Cond.code yX5_init cX5_init 1 none :: zWL) 2 13 158 d 5 [.null, .null, .null, .null, .null, .null, .null] [5, 6, 33, 34, 35, 36, 37, 38, 0, 20, 21, 30, 31, 32] := by
  refine zNew.of (own := RX5) (by decide +kernel) rfl rfl rfl (by decide) ?_
  intro a0 p e s m args below meth c A Q X hin ret
  have hk0 := zK.nil
  refine zg_aload_n X 0 rfl dX5_init_0 ?_
  refine zc_obj X mo_X5_3 mo_inst mo_code dX5_init_1 ⟨by decide, Nat.le_of_ble_eq_true rfl⟩ ?_
  refine zg_aload_n X 0 rfl dX5_init_4 ?_
  refine zc_newC (T := TX6) (fs0 := [.int 0, .null, .null, .null, .null, .null, .null]) X hk0 (n_X6 l d) (by decide) (by decide) rfl zl_in6 tyX6_ok wc_X5_9 wi_X6 mz_X6 (fun j hj => by rcases (show j = 0 ∨ j = 1 ∨ j = 2 ∨ j = 3 ∨ j = 4 ∨ j = 5 ∨ j = 6 by omega) with rfl | rfl | rfl | rfl | rfl | rfl | rfl <;> rfl) mn_X5_11 mc_X6_init mz_X6 mi_X6_init rfl ⟨md_X6.1, md_X6.2, by decide +kernel⟩ dX5_init_5 dX5_init_8 dX5_init_9 ⟨⟨by decide, by decide⟩, by decide, by decide⟩ (Nat.le_of_ble_eq_true rfl) (fun q1 L1 kd1 s1 e1 t1 r1 hk1 => ?_)
  have X : zX d L1 kd1 A 1 p s m args c cX5_init RX5 := X
  refine zc_put (j := 0) (ty := .object RX6) (fs2 := [.ref q1, .null, .null, .null, .null, .null, .null]) X hin rfl (by decide) zl_in5 tyX5_ok nmX5 (zkl_X5_12) rfl (by decide +kernel) rfl rfl (Nat.le_of_ble_eq_true rfl) rfl dX5_init_12 ?_
  refine zg_aload_n X 0 rfl dX5_init_15 ?_
  refine zc_newC (T := TX0) (fs0 := [.null, .null]) X hk1 (n_X0 l d) (by decide) (by decide) rfl zl_in0 tyX0_ok wc_X5_18 wi_X0 mz_X0 (fun j hj => by rcases (show j = 0 ∨ j = 1 by omega) with rfl | rfl <;> rfl) mn_X5_20 mc_X0_init mz_X0 mi_X0_init rfl ⟨md_X0.1, md_X0.2, by decide +kernel⟩ dX5_init_16 dX5_init_19 dX5_init_20 ⟨⟨by decide, by decide⟩, by decide, by decide⟩ (Nat.le_of_ble_eq_true rfl) (fun q2 L2 kd2 s2 e2 t2 r2 hk2 => ?_)
  have X : zX d L2 kd2 A 1 p s m args c cX5_init RX5 := X
  have Rq1_2 : zrt L2 s2 q1 := e2.rr t1 r1.1
  refine zc_put (j := 1) (ty := .object RX0) (fs2 := [.ref q1, .ref q2, .null, .null, .null, .null, .null]) X hin rfl (by decide) zl_in5 tyX5_ok nmX5 (zkl_X5_21) rfl (by decide +kernel) rfl rfl (Nat.le_of_ble_eq_true rfl) rfl dX5_init_23 ?_
  refine zg_aload_n X 0 rfl dX5_init_26 ?_
  refine zg_bipush X 12 dX5_init_27 (by decide) (fun v1 _ hv1 => ?_)
  refine zc_newi X 30 13 1 hk2 wa_int rfl rfl (Or.inr (Or.inl rfl)) rfl rfl (by rw [hv1]; rfl) (by decide) (fun j => ⟨show (-2147483648 : Int) ≤ 0 by decide, show (0 : Int) ≤ 2147483647 by decide⟩) (fun _ => rfl) (by decide) (by decide) (by decide) ⟨by decide, by decide⟩ dX5_init_29 (fun q3 L3 kd3 s3 e3 t3 r3 hk3 => ?_)
  have X : zX d L3 kd3 A 1 p s m args c cX5_init RX5 := X
  have Rq1_3 : zrt L3 s3 q1 := e3.rr (e2.t t1) Rq1_2
  have Rq2_3 : zrt L3 s3 q2 := e3.rr t2 r2.1
  refine zc_put (j := 2) (ty := .array .int) (fs2 := [.ref q1, .ref q2, .ref q3, .null, .null, .null, .null]) X hin rfl (by decide) zl_in5 tyX5_ok nmX5 (zkl_X5_25) rfl (by decide +kernel) rfl rfl (Nat.le_of_ble_eq_true rfl) rfl dX5_init_31 ?_
  refine zg_aload_n X 0 rfl dX5_init_34 ?_
  refine zg_bipush X 12 dX5_init_35 (by decide) (fun v2 _ hv2 => ?_)
  refine zc_newi X 31 13 1 hk3 wa_int rfl rfl (Or.inr (Or.inl rfl)) rfl rfl (by rw [hv2]; rfl) (by decide) (fun j => ⟨show (-2147483648 : Int) ≤ 0 by decide, show (0 : Int) ≤ 2147483647 by decide⟩) (fun _ => rfl) (by decide) (by decide) (by decide) ⟨by decide, by decide⟩ dX5_init_37 (fun q4 L4 kd4 s4 e4 t4 r4 hk4 => ?_)
  have X : zX d L4 kd4 A 1 p s m args c cX5_init RX5 := X
  have Rq1_4 : zrt L4 s4 q1 := e4.rr (e3.t (e2.t t1)) Rq1_3
  have Rq2_4 : zrt L4 s4 q2 := e4.rr (e3.t t2) Rq2_3
  have Rq3_4 : zrt L4 s4 q3 := e4.rr t3 r3.1
  refine zc_put (j := 3) (ty := .array .int) (fs2 := [.ref q1, .ref q2, .ref q3, .ref q4, .null, .null, .null]) X hin rfl (by decide) zl_in5 tyX5_ok nmX5 (zkl_X5_29) rfl (by decide +kernel) rfl rfl (Nat.le_of_ble_eq_true rfl) rfl dX5_init_39 ?_
  refine zg_aload_n X 0 rfl dX5_init_42 ?_
  refine zg_bipush X 12 dX5_init_43 (by decide) (fun v3 _ hv3 => ?_)
  refine zc_newi X 32 13 1 hk4 wa_int rfl rfl (Or.inr (Or.inl rfl)) rfl rfl (by rw [hv3]; rfl) (by decide) (fun j => ⟨show (-2147483648 : Int) ≤ 0 by decide, show (0 : Int) ≤ 2147483647 by decide⟩) (fun _ => rfl) (by decide) (by decide) (by decide) ⟨by decide, by decide⟩ dX5_init_45 (fun q5 L5 kd5 s5 e5 t5 r5 hk5 => ?_)
  have X : zX d L5 kd5 A 1 p s m args c cX5_init RX5 := X
  have Rq1_5 : zrt L5 s5 q1 := e5.rr (e4.t (e3.t (e2.t t1))) Rq1_4
  have Rq2_5 : zrt L5 s5 q2 := e5.rr (e4.t (e3.t t2)) Rq2_4
  have Rq3_5 : zrt L5 s5 q3 := e5.rr (e4.t t3) Rq3_4
  have Rq4_5 : zrt L5 s5 q4 := e5.rr t4 r4.1
  refine zc_put (j := 4) (ty := .array .int) (fs2 := [.ref q1, .ref q2, .ref q3, .ref q4, .ref q5, .null, .null]) X hin rfl (by decide) zl_in5 tyX5_ok nmX5 (zkl_X5_32) rfl (by decide +kernel) rfl rfl (Nat.le_of_ble_eq_true rfl) rfl dX5_init_47 ?_
  refine zg_aload_n X 0 rfl dX5_init_50 ?_
  refine zg_null X dX5_init_51 ?_
  refine zc_put (j := 5) (ty := .object RX9) (fs2 := [.ref q1, .ref q2, .ref q3, .ref q4, .ref q5, .null, .null]) X hin rfl (by decide) zl_in5 tyX5_ok nmX5 (zkl_X5_35) rfl (by decide +kernel) rfl rfl (Nat.le_of_ble_eq_true rfl) rfl dX5_init_52 ?_
  refine zg_aload_n X 0 rfl dX5_init_55 ?_
  refine zg_null X dX5_init_56 ?_
  refine zc_put (j := 6) (ty := .object RX1) (fs2 := [.ref q1, .ref q2, .ref q3, .ref q4, .ref q5, .null, .null]) X hin rfl (by decide) zl_in5 tyX5_ok nmX5 (zkl_X5_39) rfl (by decide +kernel) rfl rfl (Nat.le_of_ble_eq_true rfl) rfl dX5_init_57 ?_
  have hf6 : ∀ j k2, zf 0 5 j = some k2 → ∃ y, (fun j => ([some q1, some q2, some q3, some q4, some q5, none, none] : List (Option Nat)).getD j none) j = some y ∧ zT L5 kd5 y k2 := by
    intro j k2 h
    have h := zf_list (by decide) h
    rw [show (zfl.filter (fun q => q.1 == 5 && q.2.2.2 == 0)).map (fun q => (q.2.1, q.2.2.1)) = ([(0, 6), (1, 0), (2, 30), (3, 31), (4, 32)] : List (Nat × Nat)) from by decide +kernel] at h
    simp only [List.mem_cons, Prod.mk.injEq, List.not_mem_nil, or_false] at h
    rcases h with ⟨rfl, rfl⟩ | ⟨rfl, rfl⟩ | ⟨rfl, rfl⟩ | ⟨rfl, rfl⟩ | ⟨rfl, rfl⟩
    · exact ⟨_, rfl, (e5.t (e4.t (e3.t (e2.t t1))))⟩
    · exact ⟨_, rfl, (e5.t (e4.t (e3.t t2)))⟩
    · exact ⟨_, rfl, (e5.t (e4.t t3))⟩
    · exact ⟨_, rfl, (e5.t t4)⟩
    · exact ⟨_, rfl, t5⟩
  have hq6 : ∀ j y, (fun j => ([some q1, some q2, some q3, some q4, some q5, none, none] : List (Option Nat)).getD j none) j = some y → (j < 7 ∧ zf 0 5 j ≠ none) ∧ y ∈ L5 ∧ ((kd5 : Nat → Nat) y ≠ 6 → zrt L5 s5 y) := by
    intro j y e
    have hj : j < 7 := zgN 7 e
    rcases (show j = 0 ∨ j = 1 ∨ j = 2 ∨ j = 3 ∨ j = 4 ∨ j = 5 ∨ j = 6 by omega) with rfl | rfl | rfl | rfl | rfl | rfl | rfl
    · cases (show some q1 = some y from e); exact ⟨⟨by decide, by decide⟩, (e5.t (e4.t (e3.t (e2.t t1)))).1, fun _ => Rq1_5⟩
    · cases (show some q2 = some y from e); exact ⟨⟨by decide, by decide⟩, (e5.t (e4.t (e3.t t2))).1, fun _ => Rq2_5⟩
    · cases (show some q3 = some y from e); exact ⟨⟨by decide, by decide⟩, (e5.t (e4.t t3)).1, fun _ => Rq3_5⟩
    · cases (show some q4 = some y from e); exact ⟨⟨by decide, by decide⟩, (e5.t t4).1, fun _ => Rq4_5⟩
    · cases (show some q5 = some y from e); exact ⟨⟨by decide, by decide⟩, t5.1, fun _ => r5.1⟩
    · cases (show (none : Option Nat) = some y from e)
    · cases (show (none : Option Nat) = some y from e)
  have hi6 : ∀ j j' y, (fun j => ([some q1, some q2, some q3, some q4, some q5, none, none] : List (Option Nat)).getD j none) j = some y → (fun j => ([some q1, some q2, some q3, some q4, some q5, none, none] : List (Option Nat)).getD j none) j' = some y → j = j' := by
    intro j j' y e e'
    rcases zinjk (N := 7) (Xr := fun j j' => False) hf6 (fun j y e => (hq6 j y e).1) (by decide +kernel) e e' with z | z
    · exact z
    · exact absurd z id
  refine zc_typed (b2 := (List.contains ([5, 6, 33, 34, 35, 36, 37, 38, 0, 20, 21, 30, 31, 32] : List Nat) 8)) (k := 5) (fun j => ([0, 0, 0, 0, 0, 0, 0] : List Int32).getD j 0) (fun j => ([0, 0, 0, 0, 0, 0, 0] : List Int64).getD j 0) (fun j => ([some q1, some q2, some q3, some q4, some q5, none, none] : List (Option Nat)).getD j none) hk5 rfl (by decide) rfl ?_ hf6 (by decide) (by decide) (by decide) (by decide) ⟨fun e => absurd e (by decide), fun e => absurd e (by decide), fun e => absurd e (by decide), fun e => absurd e (by decide), fun e => absurd e (by decide), fun e => absurd e (by decide), fun e => absurd e (by decide)⟩ (fun j y e => (hq6 j y e).2) (fun j j' y e e' _ _ _ => hi6 j j' y e e') (fun L6 kd6 s6 e6 ta6 rt6 hk6 => ?_)
  · intro j
    rcases zr_list (k := 5) (by decide) j with h | h
    · rw [h]; exact zb_rng _
    · rw [show ((zrl 0).filter (fun q => q.1 == 5)).map (fun q => (q.2.1, q.2.2)) = ([] : List (Nat × Int × Int)) from by decide +kernel] at h
      exact absurd h List.not_mem_nil
  have X : zX d L6 kd6 A 1 p s m args c cX5_init RX5 := X
  exact ret _ _ _ _ _ dX5_init_60 ta6 rt6 hk6
set_option maxHeartbeats 4000000 in
set_option maxRecDepth 100000 in
theorem n_X9 (l : Launch) (d : zD2) : zNew l yX9_init (Cond.code yX9_init cX9_init 1 none :: zWL) 2 8 905 d 9 [.int 0, .null, .null, .null, .null, .null, .null, .null, .int 0, .null, .int 0, .int 0, .int 0, .int 0] [9, 44, 45, 46, 47, 48, 49, 50, 51] := by
  refine zNew.of (own := RX9) (by decide +kernel) rfl rfl rfl (by decide) ?_
  intro a0 p e s m args below meth c A Q X hin ret
  have hk0 := zK.nil
  refine zg_aload_n X 0 rfl dX9_init_0 ?_
  refine zc_obj X mo_X9_3 mo_inst mo_code dX9_init_1 ⟨by decide, Nat.le_of_ble_eq_true rfl⟩ ?_
  refine zg_aload_n X 0 rfl dX9_init_4 ?_
  refine zg_bipush X 12 dX9_init_5 (by decide) (fun v1 _ hv1 => ?_)
  refine zc_newl X 44 hk0 wa_long rfl rfl (by rw [hv1]; rfl) (by decide) (fun j => ⟨show (-2147483648 : Int) ≤ 0 by decide, show (0 : Int) ≤ 2147483647 by decide⟩) (fun _ => rfl) (by decide) (by decide) (by decide) ⟨by decide, by decide⟩ dX9_init_7 (fun q1 L1 kd1 s1 e1 t1 r1 z1 hk1 => ?_)
  have X : zX d L1 kd1 A 1 p s m args c cX9_init RX9 := X
  refine zc_put (j := 1) (ty := .array .long) (fs2 := [.int 0, .ref q1, .null, .null, .null, .null, .null, .null, .int 0, .null, .int 0, .int 0, .int 0, .int 0]) X hin rfl (by decide) zl_in9 tyX9_ok nmX9 (zkl_X9_9) rfl (by decide +kernel) rfl rfl (Nat.le_of_ble_eq_true rfl) rfl dX9_init_9 ?_
  refine zg_aload_n X 0 rfl dX9_init_12 ?_
  refine zg_bipush X 12 dX9_init_13 (by decide) (fun v2 _ hv2 => ?_)
  refine zc_newi X 45 13 1 hk1 wa_int rfl rfl (Or.inr (Or.inl rfl)) rfl rfl (by rw [hv2]; rfl) (by decide) (fun j => ⟨show (0 : Int) ≤ 0 by decide, show (0 : Int) ≤ 11 by decide⟩) (fun _ => rfl) (by decide) (by decide) (by decide) ⟨by decide, by decide⟩ dX9_init_15 (fun q2 L2 kd2 s2 e2 t2 r2 hk2 => ?_)
  have X : zX d L2 kd2 A 1 p s m args c cX9_init RX9 := X
  have Rq1_2 : zrt L2 s2 q1 := e2.rr t1 r1.1
  refine zc_put (j := 2) (ty := .array .int) (fs2 := [.int 0, .ref q1, .ref q2, .null, .null, .null, .null, .null, .int 0, .null, .int 0, .int 0, .int 0, .int 0]) X hin rfl (by decide) zl_in9 tyX9_ok nmX9 (zkl_X9_15) rfl (by decide +kernel) rfl rfl (Nat.le_of_ble_eq_true rfl) rfl dX9_init_17 ?_
  refine zg_aload_n X 0 rfl dX9_init_20 ?_
  refine zg_bipush X 12 dX9_init_21 (by decide) (fun v3 _ hv3 => ?_)
  refine zc_newi X 46 13 1 hk2 wa_int rfl rfl (Or.inr (Or.inl rfl)) rfl rfl (by rw [hv3]; rfl) (by decide) (fun j => ⟨show (-2147483648 : Int) ≤ 0 by decide, show (0 : Int) ≤ 2147483647 by decide⟩) (fun _ => rfl) (by decide) (by decide) (by decide) ⟨by decide, by decide⟩ dX9_init_23 (fun q3 L3 kd3 s3 e3 t3 r3 hk3 => ?_)
  have X : zX d L3 kd3 A 1 p s m args c cX9_init RX9 := X
  have Rq1_3 : zrt L3 s3 q1 := e3.rr (e2.t t1) Rq1_2
  have Rq2_3 : zrt L3 s3 q2 := e3.rr t2 r2.1
  refine zc_put (j := 3) (ty := .array .int) (fs2 := [.int 0, .ref q1, .ref q2, .ref q3, .null, .null, .null, .null, .int 0, .null, .int 0, .int 0, .int 0, .int 0]) X hin rfl (by decide) zl_in9 tyX9_ok nmX9 (zkl_X9_19) rfl (by decide +kernel) rfl rfl (Nat.le_of_ble_eq_true rfl) rfl dX9_init_25 ?_
  refine zg_aload_n X 0 rfl dX9_init_28 ?_
  refine zg_bipush X 12 dX9_init_29 (by decide) (fun v4 _ hv4 => ?_)
  refine zc_newi X 47 13 1 hk3 wa_int rfl rfl (Or.inr (Or.inl rfl)) rfl rfl (by rw [hv4]; rfl) (by decide) (fun j => ⟨show (-2147483648 : Int) ≤ 0 by decide, show (0 : Int) ≤ 2147483647 by decide⟩) (fun _ => rfl) (by decide) (by decide) (by decide) ⟨by decide, by decide⟩ dX9_init_31 (fun q4 L4 kd4 s4 e4 t4 r4 hk4 => ?_)
  have X : zX d L4 kd4 A 1 p s m args c cX9_init RX9 := X
  have Rq1_4 : zrt L4 s4 q1 := e4.rr (e3.t (e2.t t1)) Rq1_3
  have Rq2_4 : zrt L4 s4 q2 := e4.rr (e3.t t2) Rq2_3
  have Rq3_4 : zrt L4 s4 q3 := e4.rr t3 r3.1
  refine zc_put (j := 4) (ty := .array .int) (fs2 := [.int 0, .ref q1, .ref q2, .ref q3, .ref q4, .null, .null, .null, .int 0, .null, .int 0, .int 0, .int 0, .int 0]) X hin rfl (by decide) zl_in9 tyX9_ok nmX9 (zkl_X9_22) rfl (by decide +kernel) rfl rfl (Nat.le_of_ble_eq_true rfl) rfl dX9_init_33 ?_
  refine zg_aload_n X 0 rfl dX9_init_36 ?_
  refine zg_bipush X 12 dX9_init_37 (by decide) (fun v5 _ hv5 => ?_)
  refine zc_newi X 48 13 1 hk4 wa_int rfl rfl (Or.inr (Or.inl rfl)) rfl rfl (by rw [hv5]; rfl) (by decide) (fun j => ⟨show (-2147483648 : Int) ≤ 0 by decide, show (0 : Int) ≤ 2147483647 by decide⟩) (fun _ => rfl) (by decide) (by decide) (by decide) ⟨by decide, by decide⟩ dX9_init_39 (fun q5 L5 kd5 s5 e5 t5 r5 hk5 => ?_)
  have X : zX d L5 kd5 A 1 p s m args c cX9_init RX9 := X
  have Rq1_5 : zrt L5 s5 q1 := e5.rr (e4.t (e3.t (e2.t t1))) Rq1_4
  have Rq2_5 : zrt L5 s5 q2 := e5.rr (e4.t (e3.t t2)) Rq2_4
  have Rq3_5 : zrt L5 s5 q3 := e5.rr (e4.t t3) Rq3_4
  have Rq4_5 : zrt L5 s5 q4 := e5.rr t4 r4.1
  refine zc_put (j := 5) (ty := .array .int) (fs2 := [.int 0, .ref q1, .ref q2, .ref q3, .ref q4, .ref q5, .null, .null, .int 0, .null, .int 0, .int 0, .int 0, .int 0]) X hin rfl (by decide) zl_in9 tyX9_ok nmX9 (zkl_X9_25) rfl (by decide +kernel) rfl rfl (Nat.le_of_ble_eq_true rfl) rfl dX9_init_41 ?_
  refine zg_aload_n X 0 rfl dX9_init_44 ?_
  refine zg_sipush X 420 dX9_init_45 (by decide) (fun v6 _ hv6 => ?_)
  refine zc_newi X 49 13 1 hk5 wa_int rfl rfl (Or.inr (Or.inl rfl)) rfl rfl (by rw [hv6]; rfl) (by decide) (fun j => ⟨show (-2147483648 : Int) ≤ 0 by decide, show (0 : Int) ≤ 2147483647 by decide⟩) (fun _ => rfl) (by decide) (by decide) (by decide) ⟨by decide, by decide⟩ dX9_init_48 (fun q6 L6 kd6 s6 e6 t6 r6 hk6 => ?_)
  have X : zX d L6 kd6 A 1 p s m args c cX9_init RX9 := X
  have Rq1_6 : zrt L6 s6 q1 := e6.rr (e5.t (e4.t (e3.t (e2.t t1)))) Rq1_5
  have Rq2_6 : zrt L6 s6 q2 := e6.rr (e5.t (e4.t (e3.t t2))) Rq2_5
  have Rq3_6 : zrt L6 s6 q3 := e6.rr (e5.t (e4.t t3)) Rq3_5
  have Rq4_6 : zrt L6 s6 q4 := e6.rr (e5.t t4) Rq4_5
  have Rq5_6 : zrt L6 s6 q5 := e6.rr t5 r5.1
  refine zc_put (j := 6) (ty := .array .int) (fs2 := [.int 0, .ref q1, .ref q2, .ref q3, .ref q4, .ref q5, .ref q6, .null, .int 0, .null, .int 0, .int 0, .int 0, .int 0]) X hin rfl (by decide) zl_in9 tyX9_ok nmX9 (zkl_X9_28) rfl (by decide +kernel) rfl rfl (Nat.le_of_ble_eq_true rfl) rfl dX9_init_50 ?_
  refine zg_aload_n X 0 rfl dX9_init_53 ?_
  refine zg_sipush X 420 dX9_init_54 (by decide) (fun v7 _ hv7 => ?_)
  refine zc_newi X 50 13 1 hk6 wa_int rfl rfl (Or.inr (Or.inl rfl)) rfl rfl (by rw [hv7]; rfl) (by decide) (fun j => ⟨show (-2147483648 : Int) ≤ 0 by decide, show (0 : Int) ≤ 2147483647 by decide⟩) (fun _ => rfl) (by decide) (by decide) (by decide) ⟨by decide, by decide⟩ dX9_init_57 (fun q7 L7 kd7 s7 e7 t7 r7 hk7 => ?_)
  have X : zX d L7 kd7 A 1 p s m args c cX9_init RX9 := X
  have Rq1_7 : zrt L7 s7 q1 := e7.rr (e6.t (e5.t (e4.t (e3.t (e2.t t1))))) Rq1_6
  have Rq2_7 : zrt L7 s7 q2 := e7.rr (e6.t (e5.t (e4.t (e3.t t2)))) Rq2_6
  have Rq3_7 : zrt L7 s7 q3 := e7.rr (e6.t (e5.t (e4.t t3))) Rq3_6
  have Rq4_7 : zrt L7 s7 q4 := e7.rr (e6.t (e5.t t4)) Rq4_6
  have Rq5_7 : zrt L7 s7 q5 := e7.rr (e6.t t5) Rq5_6
  have Rq6_7 : zrt L7 s7 q6 := e7.rr t6 r6.1
  refine zc_put (j := 7) (ty := .array .int) (fs2 := [.int 0, .ref q1, .ref q2, .ref q3, .ref q4, .ref q5, .ref q6, .ref q7, .int 0, .null, .int 0, .int 0, .int 0, .int 0]) X hin rfl (by decide) zl_in9 tyX9_ok nmX9 (zkl_X9_31) rfl (by decide +kernel) rfl rfl (Nat.le_of_ble_eq_true rfl) rfl dX9_init_59 ?_
  refine zg_aload_n X 0 rfl dX9_init_62 ?_
  refine zg_iconst X 5 dX9_init_63 (by decide) (fun v8 _ hv8 => ?_)
  refine zc_newi X 51 13 1 hk7 wa_int rfl rfl (Or.inr (Or.inl rfl)) rfl rfl (by rw [hv8]; rfl) (by decide) (fun j => ⟨show (-2147483648 : Int) ≤ 0 by decide, show (0 : Int) ≤ 2147483647 by decide⟩) (fun _ => rfl) (by decide) (by decide) (by decide) ⟨by decide, by decide⟩ dX9_init_64 (fun q8 L8 kd8 s8 e8 t8 r8 hk8 => ?_)
  have X : zX d L8 kd8 A 1 p s m args c cX9_init RX9 := X
  have Rq1_8 : zrt L8 s8 q1 := e8.rr (e7.t (e6.t (e5.t (e4.t (e3.t (e2.t t1)))))) Rq1_7
  have Rq2_8 : zrt L8 s8 q2 := e8.rr (e7.t (e6.t (e5.t (e4.t (e3.t t2))))) Rq2_7
  have Rq3_8 : zrt L8 s8 q3 := e8.rr (e7.t (e6.t (e5.t (e4.t t3)))) Rq3_7
  have Rq4_8 : zrt L8 s8 q4 := e8.rr (e7.t (e6.t (e5.t t4))) Rq4_7
  have Rq5_8 : zrt L8 s8 q5 := e8.rr (e7.t (e6.t t5)) Rq5_7
  have Rq6_8 : zrt L8 s8 q6 := e8.rr (e7.t t6) Rq6_7
  have Rq7_8 : zrt L8 s8 q7 := e8.rr t7 r7.1
  refine zc_put (j := 9) (ty := .array .int) (fs2 := [.int 0, .ref q1, .ref q2, .ref q3, .ref q4, .ref q5, .ref q6, .ref q7, .int 0, .ref q8, .int 0, .int 0, .int 0, .int 0]) X hin rfl (by decide) zl_in9 tyX9_ok nmX9 (zkl_X9_34) rfl (by decide +kernel) rfl rfl (Nat.le_of_ble_eq_true rfl) rfl dX9_init_66 ?_
  have hf9 : ∀ j k2, zf 0 9 j = some k2 → ∃ y, (fun j => ([none, some q1, some q2, some q3, some q4, some q5, some q6, some q7, none, some q8, none, none, none, none] : List (Option Nat)).getD j none) j = some y ∧ zT L8 kd8 y k2 := by
    intro j k2 h
    have h := zf_list (by decide) h
    rw [show (zfl.filter (fun q => q.1 == 9 && q.2.2.2 == 0)).map (fun q => (q.2.1, q.2.2.1)) = ([(1, 44), (2, 45), (3, 46), (4, 47), (5, 48), (6, 49), (7, 50), (9, 51)] : List (Nat × Nat)) from by decide +kernel] at h
    simp only [List.mem_cons, Prod.mk.injEq, List.not_mem_nil, or_false] at h
    rcases h with ⟨rfl, rfl⟩ | ⟨rfl, rfl⟩ | ⟨rfl, rfl⟩ | ⟨rfl, rfl⟩ | ⟨rfl, rfl⟩ | ⟨rfl, rfl⟩ | ⟨rfl, rfl⟩ | ⟨rfl, rfl⟩
    · exact ⟨_, rfl, (e8.t (e7.t (e6.t (e5.t (e4.t (e3.t (e2.t t1)))))))⟩
    · exact ⟨_, rfl, (e8.t (e7.t (e6.t (e5.t (e4.t (e3.t t2))))))⟩
    · exact ⟨_, rfl, (e8.t (e7.t (e6.t (e5.t (e4.t t3)))))⟩
    · exact ⟨_, rfl, (e8.t (e7.t (e6.t (e5.t t4))))⟩
    · exact ⟨_, rfl, (e8.t (e7.t (e6.t t5)))⟩
    · exact ⟨_, rfl, (e8.t (e7.t t6))⟩
    · exact ⟨_, rfl, (e8.t t7)⟩
    · exact ⟨_, rfl, t8⟩
  have hq9 : ∀ j y, (fun j => ([none, some q1, some q2, some q3, some q4, some q5, some q6, some q7, none, some q8, none, none, none, none] : List (Option Nat)).getD j none) j = some y → (j < 14 ∧ zf 0 9 j ≠ none) ∧ y ∈ L8 ∧ ((kd8 : Nat → Nat) y ≠ 6 → zrt L8 s8 y) := by
    intro j y e
    have hj : j < 14 := zgN 14 e
    rcases (show j = 0 ∨ j = 1 ∨ j = 2 ∨ j = 3 ∨ j = 4 ∨ j = 5 ∨ j = 6 ∨ j = 7 ∨ j = 8 ∨ j = 9 ∨ j = 10 ∨ j = 11 ∨ j = 12 ∨ j = 13 by omega) with rfl | rfl | rfl | rfl | rfl | rfl | rfl | rfl | rfl | rfl | rfl | rfl | rfl | rfl
    · cases (show (none : Option Nat) = some y from e)
    · cases (show some q1 = some y from e); exact ⟨⟨by decide, by decide⟩, (e8.t (e7.t (e6.t (e5.t (e4.t (e3.t (e2.t t1))))))).1, fun _ => Rq1_8⟩
    · cases (show some q2 = some y from e); exact ⟨⟨by decide, by decide⟩, (e8.t (e7.t (e6.t (e5.t (e4.t (e3.t t2)))))).1, fun _ => Rq2_8⟩
    · cases (show some q3 = some y from e); exact ⟨⟨by decide, by decide⟩, (e8.t (e7.t (e6.t (e5.t (e4.t t3))))).1, fun _ => Rq3_8⟩
    · cases (show some q4 = some y from e); exact ⟨⟨by decide, by decide⟩, (e8.t (e7.t (e6.t (e5.t t4)))).1, fun _ => Rq4_8⟩
    · cases (show some q5 = some y from e); exact ⟨⟨by decide, by decide⟩, (e8.t (e7.t (e6.t t5))).1, fun _ => Rq5_8⟩
    · cases (show some q6 = some y from e); exact ⟨⟨by decide, by decide⟩, (e8.t (e7.t t6)).1, fun _ => Rq6_8⟩
    · cases (show some q7 = some y from e); exact ⟨⟨by decide, by decide⟩, (e8.t t7).1, fun _ => Rq7_8⟩
    · cases (show (none : Option Nat) = some y from e)
    · cases (show some q8 = some y from e); exact ⟨⟨by decide, by decide⟩, t8.1, fun _ => r8.1⟩
    · cases (show (none : Option Nat) = some y from e)
    · cases (show (none : Option Nat) = some y from e)
    · cases (show (none : Option Nat) = some y from e)
    · cases (show (none : Option Nat) = some y from e)
  have hi9 : ∀ j j' y, (fun j => ([none, some q1, some q2, some q3, some q4, some q5, some q6, some q7, none, some q8, none, none, none, none] : List (Option Nat)).getD j none) j = some y → (fun j => ([none, some q1, some q2, some q3, some q4, some q5, some q6, some q7, none, some q8, none, none, none, none] : List (Option Nat)).getD j none) j' = some y → j = j' := by
    intro j j' y e e'
    rcases zinjk (N := 14) (Xr := fun j j' => False) hf9 (fun j y e => (hq9 j y e).1) (by decide +kernel) e e' with z | z
    · exact z
    · exact absurd z id
  refine zc_typed (b2 := (List.contains ([9, 44, 45, 46, 47, 48, 49, 50, 51] : List Nat) 8)) (k := 9) (fun j => ([0, 0, 0, 0, 0, 0, 0, 0, 0, 0, 0, 0, 0, 0] : List Int32).getD j 0) (fun j => ([0, 0, 0, 0, 0, 0, 0, 0, 0, 0, 0, 0, 0, 0] : List Int64).getD j 0) (fun j => ([none, some q1, some q2, some q3, some q4, some q5, some q6, some q7, none, some q8, none, none, none, none] : List (Option Nat)).getD j none) hk8 rfl (by decide) rfl ?_ hf9 (by decide) (by decide) (by decide) (by decide) ⟨fun e => absurd e (by decide), fun e => absurd e (by decide), fun e => absurd e (by decide), fun _ => ⟨rfl, rfl⟩, fun e => absurd e (by decide), fun e => absurd e (by decide), fun e => absurd e (by decide)⟩ (fun j y e => (hq9 j y e).2) (fun j j' y e e' _ _ _ => hi9 j j' y e e') (fun L9 kd9 s9 e9 ta9 rt9 hk9 => ?_)
  · intro j
    rcases zr_list (k := 9) (by decide) j with h | h
    · rw [h]; exact zb_rng _
    · rw [show ((zrl 0).filter (fun q => q.1 == 9)).map (fun q => (q.2.1, q.2.2)) = ([(0, 0, 12), (8, 0, 420)] : List (Nat × Int × Int)) from by decide +kernel] at h
      simp only [List.mem_cons, Prod.mk.injEq, List.not_mem_nil, or_false] at h
      rcases h with ⟨rfl, h⟩ | ⟨rfl, h⟩
      · rw [h]; show _ ≤ Int32.toInt 0 ∧ Int32.toInt 0 ≤ _; first | exact ⟨by decide, by decide⟩ | exact ⟨by show (0 : Int) ≤ _; omega, by show _ ≤ (12 : Int); omega⟩
      · rw [h]; show _ ≤ Int32.toInt 0 ∧ Int32.toInt 0 ≤ _; first | exact ⟨by decide, by decide⟩ | exact ⟨by show (0 : Int) ≤ _; omega, by show _ ≤ (420 : Int); omega⟩
  have X : zX d L9 kd9 A 1 p s m args c cX9_init RX9 := X
  refine zg_aload_n X 0 rfl dX9_init_69 ?_
  refine zg_cVv (As := []) (st := []) X ta9 rfl (by decide) rfl (t_X9_clear l d L9 kd9 0 0 _ hk9.1 a0 ta9 ) mk_X9_37 mc_X9_clear mz_X9 mi_X9_clear ml_X9_clear (na := 0) ⟨md_X9.1, md_X9.2, by decide +kernel⟩ rfl ⟨by decide, by decide⟩ (Nat.le_of_ble_eq_true rfl) dX9_init_70 (fun s9 hq => ?_)
  obtain ⟨hF, hS2, hI⟩ := hq
  exact ret _ _ _ _ _ dX9_init_73 ta9 (zrt.sm rt9 hS2) (zKb.clr hk9 hI ta9 hF hS2)
set_option maxHeartbeats 4000000 in
set_option maxRecDepth 100000 in
theorem n_X8 (l : Launch) (d : zD2) : zNew l yX8_init (Cond.code yX8_init cX8_init 4 none :: zWL) 4 4 1228 d 8 [.null, .null, .null, .null, .int 0] [8, 40, 41, 42, 43] := by
  refine zNew.of (own := RX8) (by decide +kernel) rfl rfl rfl (by decide) ?_
  intro a0 p e s m args below meth c A Q X hin ret
  have hk0 := zK.nil
  have zl0 : zlen.getD 0 0 = 116 := by decide
  refine zg_aload_n X 0 rfl dX8_init_0 ?_
  refine zc_obj X mo_X8_1 mo_inst mo_code dX8_init_1 ⟨by decide, Nat.le_of_ble_eq_true rfl⟩ ?_
  refine zg_aload_n X 0 rfl dX8_init_4 ?_
  refine zg_bipush X 22 dX8_init_5 (by decide) (fun v1 _ hv1 => ?_)
  refine zc_newl X 40 hk0 wa_long rfl rfl (by rw [hv1]; rfl) (by decide) (fun j => ⟨show (-2147483648 : Int) ≤ 0 by decide, show (0 : Int) ≤ 2147483647 by decide⟩) (fun _ => rfl) (by decide) (by decide) (by decide) ⟨by decide, by decide⟩ dX8_init_7 (fun q1 L1 kd1 s1 e1 t1 r1 z1 hk1 => ?_)
  have X : zX d L1 kd1 A 4 p s m args c cX8_init RX8 := X
  refine zc_put (j := 0) (ty := .array .long) (fs2 := [.ref q1, .null, .null, .null, .int 0]) X hin rfl (by decide) zl_in8 tyX8_ok nmX8 (zkl_X8_9) rfl (by decide +kernel) rfl rfl (Nat.le_of_ble_eq_true rfl) rfl dX8_init_9 ?_
  refine zg_aload_n X 0 rfl dX8_init_12 ?_
  refine zg_sipush X 402 dX8_init_13 (by decide) (fun v2 _ hv2 => ?_)
  refine zc_newi X 41 13 1 hk1 wa_int rfl rfl (Or.inr (Or.inl rfl)) rfl rfl (by rw [hv2]; rfl) (by decide) (fun j => ⟨show (-2147483648 : Int) ≤ 0 by decide, show (0 : Int) ≤ 2147483647 by decide⟩) (fun _ => rfl) (by decide) (by decide) (by decide) ⟨by decide, by decide⟩ dX8_init_16 (fun q2 L2 kd2 s2 e2 t2 r2 hk2 => ?_)
  have X : zX d L2 kd2 A 4 p s m args c cX8_init RX8 := X
  have Rq1_2 : zrt L2 s2 q1 := e2.rr t1 r1.1
  refine zc_put (j := 1) (ty := .array .int) (fs2 := [.ref q1, .ref q2, .null, .null, .int 0]) X hin rfl (by decide) zl_in8 tyX8_ok nmX8 (zkl_X8_13) rfl (by decide +kernel) rfl rfl (Nat.le_of_ble_eq_true rfl) rfl dX8_init_18 ?_
  refine zg_aload_n X 0 rfl dX8_init_21 ?_
  refine zg_sipush X 402 dX8_init_22 (by decide) (fun v3 _ hv3 => ?_)
  refine zc_newl X 42 hk2 wa_long rfl rfl (by rw [hv3]; rfl) (by decide) (fun j => ⟨show (-2147483648 : Int) ≤ 0 by decide, show (0 : Int) ≤ 2147483647 by decide⟩) (fun _ => rfl) (by decide) (by decide) (by decide) ⟨by decide, by decide⟩ dX8_init_25 (fun q3 L3 kd3 s3 e3 t3 r3 z3 hk3 => ?_)
  have X : zX d L3 kd3 A 4 p s m args c cX8_init RX8 := X
  have Rq1_3 : zrt L3 s3 q1 := e3.rr (e2.t t1) Rq1_2
  have Rq2_3 : zrt L3 s3 q2 := e3.rr t2 r2.1
  refine zc_put (j := 2) (ty := .array .long) (fs2 := [.ref q1, .ref q2, .ref q3, .null, .int 0]) X hin rfl (by decide) zl_in8 tyX8_ok nmX8 (zkl_X8_17) rfl (by decide +kernel) rfl rfl (Nat.le_of_ble_eq_true rfl) rfl dX8_init_27 ?_
  refine zg_aload_n X 0 rfl dX8_init_30 ?_
  refine zg_sipush X 402 dX8_init_31 (by decide) (fun v4 _ hv4 => ?_)
  refine zc_newi X 43 13 1 hk3 wa_int rfl rfl (Or.inr (Or.inl rfl)) rfl rfl (by rw [hv4]; rfl) (by decide) (fun j => ⟨show (-2147483648 : Int) ≤ 0 by decide, show (0 : Int) ≤ 2147483647 by decide⟩) (fun _ => rfl) (by decide) (by decide) (by decide) ⟨by decide, by decide⟩ dX8_init_34 (fun q4 L4 kd4 s4 e4 t4 r4 hk4 => ?_)
  have X : zX d L4 kd4 A 4 p s m args c cX8_init RX8 := X
  have Rq1_4 : zrt L4 s4 q1 := e4.rr (e3.t (e2.t t1)) Rq1_3
  have Rq2_4 : zrt L4 s4 q2 := e4.rr (e3.t t2) Rq2_3
  have Rq3_4 : zrt L4 s4 q3 := e4.rr t3 r3.1
  refine zc_put (j := 3) (ty := .array .int) (fs2 := [.ref q1, .ref q2, .ref q3, .ref q4, .int 0]) X hin rfl (by decide) zl_in8 tyX8_ok nmX8 (zkl_X8_20) rfl (by decide +kernel) rfl rfl (Nat.le_of_ble_eq_true rfl) rfl dX8_init_36 ?_
  refine zg_aload_n X 0 rfl dX8_init_39 ?_
  refine zg_iconst X 0 dX8_init_40 (by decide) (fun v5 _ hv5 => ?_)
  refine zc_put (j := 4) (ty := .int) (fs2 := [.ref q1, .ref q2, .ref q3, .ref q4, .int v5]) X hin rfl (by decide) zl_in8 tyX8_ok nmX8 (zkl_X8_23) rfl (by decide +kernel) rfl rfl (Nat.le_of_ble_eq_true rfl) rfl dX8_init_41 ?_
  have hf5 : ∀ j k2, zf 0 8 j = some k2 → ∃ y, (fun j => ([some q1, some q2, some q3, some q4, none] : List (Option Nat)).getD j none) j = some y ∧ zT L4 kd4 y k2 := by
    intro j k2 h
    have h := zf_list (by decide) h
    rw [show (zfl.filter (fun q => q.1 == 8 && q.2.2.2 == 0)).map (fun q => (q.2.1, q.2.2.1)) = ([(0, 40), (1, 41), (2, 42), (3, 43)] : List (Nat × Nat)) from by decide +kernel] at h
    simp only [List.mem_cons, Prod.mk.injEq, List.not_mem_nil, or_false] at h
    rcases h with ⟨rfl, rfl⟩ | ⟨rfl, rfl⟩ | ⟨rfl, rfl⟩ | ⟨rfl, rfl⟩
    · exact ⟨_, rfl, (e4.t (e3.t (e2.t t1)))⟩
    · exact ⟨_, rfl, (e4.t (e3.t t2))⟩
    · exact ⟨_, rfl, (e4.t t3)⟩
    · exact ⟨_, rfl, t4⟩
  have hq5 : ∀ j y, (fun j => ([some q1, some q2, some q3, some q4, none] : List (Option Nat)).getD j none) j = some y → (j < 5 ∧ zf 0 8 j ≠ none) ∧ y ∈ L4 ∧ ((kd4 : Nat → Nat) y ≠ 6 → zrt L4 s4 y) := by
    intro j y e
    have hj : j < 5 := zgN 5 e
    rcases (show j = 0 ∨ j = 1 ∨ j = 2 ∨ j = 3 ∨ j = 4 by omega) with rfl | rfl | rfl | rfl | rfl
    · cases (show some q1 = some y from e); exact ⟨⟨by decide, by decide⟩, (e4.t (e3.t (e2.t t1))).1, fun _ => Rq1_4⟩
    · cases (show some q2 = some y from e); exact ⟨⟨by decide, by decide⟩, (e4.t (e3.t t2)).1, fun _ => Rq2_4⟩
    · cases (show some q3 = some y from e); exact ⟨⟨by decide, by decide⟩, (e4.t t3).1, fun _ => Rq3_4⟩
    · cases (show some q4 = some y from e); exact ⟨⟨by decide, by decide⟩, t4.1, fun _ => r4.1⟩
    · cases (show (none : Option Nat) = some y from e)
  have hi5 : ∀ j j' y, (fun j => ([some q1, some q2, some q3, some q4, none] : List (Option Nat)).getD j none) j = some y → (fun j => ([some q1, some q2, some q3, some q4, none] : List (Option Nat)).getD j none) j' = some y → j = j' := by
    intro j j' y e e'
    rcases zinjk (N := 5) (Xr := fun j j' => False) hf5 (fun j y e => (hq5 j y e).1) (by decide +kernel) e e' with z | z
    · exact z
    · exact absurd z id
  refine zc_typed (b2 := false) (k := 8) (fun j => ([0, 0, 0, 0, v5] : List Int32).getD j 0) (fun j => ([0, 0, 0, 0, 0] : List Int64).getD j 0) (fun j => ([some q1, some q2, some q3, some q4, none] : List (Option Nat)).getD j none) hk4 rfl (by decide) rfl ?_ hf5 (by decide) (by decide) (by decide) (by decide) ⟨fun e => absurd e (by decide), fun e => absurd e (by decide), fun e => absurd e (by decide), fun e => absurd e (by decide), fun e => absurd e (by decide), fun e => absurd e (by decide), fun e => absurd e (by decide)⟩ (fun j y e => (hq5 j y e).2) (fun j j' y e e' _ _ _ => hi5 j j' y e e') (fun L5 kd5 s5 e5 ta5 rt5 hk5 => ?_)
  · intro j
    rcases zr_list (k := 8) (by decide) j with h | h
    · rw [h]; exact zb_rng _
    · rw [show ((zrl 0).filter (fun q => q.1 == 8)).map (fun q => (q.2.1, q.2.2)) = ([(4, 0, 402)] : List (Nat × Int × Int)) from by decide +kernel] at h
      simp only [List.mem_cons, Prod.mk.injEq, List.not_mem_nil, or_false] at h
      rcases h with ⟨rfl, h⟩
      · rw [h]; show _ ≤ Int32.toInt v5 ∧ Int32.toInt v5 ≤ _; first | exact ⟨by decide, by decide⟩ | exact ⟨by show (0 : Int) ≤ _; omega, by show _ ≤ (402 : Int); omega⟩
  have X : zX d L5 kd5 A 4 p s m args c cX8_init RX8 := X
  refine zg_iconst X 0 dX8_init_44 (by decide) (fun v6 _ hv6 => ?_)
  refine zg_istore_n X [(1, .int v6), (0, .ref a0)] dX8_init_45 (by decide) rfl ?_
  refine zg_iconst X 0 dX8_init_46 (by decide) (fun v7 _ hv7 => ?_)
  refine zg_istore_n X [(2, .int v7), (1, .int v6), (0, .ref a0)] dX8_init_47 (by decide) rfl ?_
  have tq1 : zT L5 kd5 q1 40 := (e5.t (e4.t (e3.t (e2.t t1))))
  have zq1 : ∀ j, s5.2.1 q1 j = 0 := fun j => by
    rw [(e5 q1 (e4.t (e3.t (e2.t t1))).1).2.2.2.1, (e4.1 q1 (e3.t (e2.t t1)).1).2.2.2.1, (e3.1 q1 (e2.t t1).1).2.2.2.1, (e2.1 q1 t1.1).2.2.2.1]
    exact z1 j
  have Lp10 : ∀ (nLp10 : Nat) (τ10 : zS) (x8 : Int32) (x9 : Int32), zI 0 0 L5 kd5 τ10 → (τ10.2.2 = s5.2.2 ∧ τ10.1 = s5.1 ∧ zwS q1 x8 x9 τ10) → 0 ≤ x8.toInt ∧ x8.toInt ≤ 116 ∧ 0 ≤ x9.toInt ∧ x9.toInt ≤ 22 → 116 - x8.toInt + 1 < (nLp10 : Int) → zGc [] 4 1228 d L5 kd5 A 4 p l e { frames := 4, cells := 4, slots := 1228, locals := 100 * 4 } s m args below meth c Q τ10 48 [(2, .int x8), (1, .int x9), (0, .ref a0)] [] := by
    intro nLp10
    induction nLp10 with
    | zero => intro τ10 x8 x9 hI hW hxLp10 hm ; exact absurd hm (by omega)
    | succ nLp10 ihLp10 =>
      intro τ10 x8 x9 hI hW hxLp10 hmLp10 
      refine zg_iload_n X 0 rfl dX8_init_48 ?_
      refine zg_sldc (i := 0) X (by decide) rfl dX8_init_49 ?_
      refine zg_cKi (As := []) (st := [.int x8]) X (by decide) rfl (t_J0_length_8abf5 l d L5 kd5 _ 0 (by decide) ) mk_X8_29 mc_J0_length_8abf5 mz_J0 mi_J0_length_8abf5 ml_J0_length_8abf5 (na := 0) ⟨md_J0.1, md_J0.2, by decide +kernel⟩ rfl ⟨by decide, by decide⟩ (Nat.le_of_ble_eq_true rfl) dX8_init_51 (fun v11 σ2 hq => ?_)
      obtain ⟨⟨hF, hv11⟩, rfl⟩ := hq
      have zv11_z12 := zb_rng v11
      refine zg_icmp_ge X 104 dX8_init_54 (by decide) (fun c13 => ?_) (fun c13 => ?_)
      · skip
        exact ret _ _ _ _ _ dX8_init_104 ta5 (rt5.eq hW.1) (zKb.words hk5 hI hW.1 hW.2.1 tq1 (zwS.fin hW.2.2 (by omega)))
      · skip
        refine zg_iload_n X 1 rfl dX8_init_57 ?_
        refine zg_bipush X 22 dX8_init_58 (by decide) (fun v14 _ hv14 => ?_)
        refine zg_icmp_ge X 104 dX8_init_60 (by decide) (fun c15 => ?_) (fun c15 => ?_)
        · skip
          exact ret _ _ _ _ _ dX8_init_104 ta5 (rt5.eq hW.1) (zKb.words hk5 hI hW.1 hW.2.1 tq1 (zwS.fin hW.2.2 (by omega)))
        · skip
          refine zg_sldc (i := 0) X (by decide) rfl dX8_init_63 ?_
          refine zg_iload_n X 0 rfl dX8_init_65 ?_
          refine zg_cKi (As := [.int x8]) (st := []) X (by decide) rfl (t_J0_charAt_5068e l d L5 kd5 _ 0 (by decide) x8 (by omega) (by omega)) mk_X8_35 mc_J0_charAt_5068e mz_J0 mi_J0_charAt_5068e ml_J0_charAt_5068e (na := 1) ⟨md_J0.1, md_J0.2, by decide +kernel⟩ rfl ⟨by decide, by decide⟩ (Nat.le_of_ble_eq_true rfl) dX8_init_66 (fun v16 σ2 hq => ?_)
          obtain ⟨⟨hF16, hv16⟩, rfl⟩ := hq
          refine zg_istore_n X [(3, .int v16), (2, .int x8), (1, .int x9), (0, .ref a0)] dX8_init_69 (by decide) rfl ?_
          refine zg_iload_n X 0 rfl dX8_init_70 ?_
          refine zg_bipush X 32 dX8_init_71 (by decide) (fun v17 _ hv17 => ?_)
          refine zg_icmp_ne X 82 dX8_init_73 (by decide) (fun c18 => ?_) (fun c18 => ?_)
          · skip
            refine zg_aload_n X 3 rfl dX8_init_82 ?_
            refine fg_X8_9 X hI ta5 dX8_init_83 (fun v19 ev19 hv19 => ?_)
            refine zg_iload_n X 2 rfl dX8_init_86 ?_
            refine zg_aload_n X 3 rfl dX8_init_87 ?_
            refine fg_X8_9 X hI ta5 dX8_init_88 (fun v20 ev20 hv20 => ?_)
            refine zg_iload_n X 2 rfl dX8_init_91 ?_
            refine ag_40 X hv20 (by omega) (by omega) dX8_init_92 (fun v21 ev21 => ?_)
            refine zg_iload_n X 0 rfl dX8_init_93 ?_
            refine zg_cSl (As := [.long v21, .int v16]) (st := [.int x9, .ref v19]) X (t_X8_withLetter l d L5 kd5 _ v21 v16 ) mk_X8_39 mc_X8_withLetter mz_X8 ms_X8_withLetter (na := 2) ⟨md_X8.1, md_X8.2, by decide +kernel⟩ rfl ⟨by decide, by decide⟩ (Nat.le_of_ble_eq_true rfl) dX8_init_94 (fun v22 σ2 hq => ?_)
            obtain ⟨⟨hF, hv22⟩, rfl⟩ := hq
            refine as_40 X hI hv19 (by omega) (by omega) dX8_init_97 (fun s23 es23 hI => ?_)
            refine zg_iinc X 1 (fun v24 => [(2, .int v24), (3, .int v16), (1, .int x9), (0, .ref a0)]) 1 dX8_init_98 rfl (by decide) (by decide) (by omega) (by omega) (fun _ => rfl) (fun v24 ev24 hv24 => ?_)
            refine zg_goto X 48 dX8_init_101 (by decide) ?_
            refine zg_sub [0, 2, 3] rfl ?_
            have q19 : v19 = q1 := hk5.2.2.2.2.2 v19 hv19.1 q1 tq1.1 (by rw [hv19.2]; rfl) (hv19.2.trans tq1.2.symm)
            have q20 : v20 = q1 := hk5.2.2.2.2.2 v20 hv20.1 q1 tq1.1 (by rw [hv20.2]; rfl) (hv20.2.trans tq1.2.symm)
            exact ihLp10 _ v24 x9 hI ⟨by rw [es23]; exact hW.1, by rw [es23]; exact hW.2.1, zwS.letter hW.2.2 (by omega) hF16 (by omega) (by omega) (by rw [es23, hF, ev21, q19, q20])⟩ (by omega) (by omega) 
          · skip
            refine zg_iinc X 1 (fun v25 => [(1, .int v25), (3, .int v16), (2, .int x8), (0, .ref a0)]) 2 dX8_init_76 rfl (by decide) (by decide) (by omega) (by omega) (fun _ => rfl) (fun v25 ev25 hv25 => ?_)
            refine zg_goto X 98 dX8_init_79 (by decide) ?_
            refine zg_iinc X 1 (fun v26 => [(2, .int v26), (1, .int v25), (3, .int v16), (0, .ref a0)]) 2 dX8_init_98 rfl (by decide) (by decide) (by omega) (by omega) (fun _ => rfl) (fun v26 ev26 hv26 => ?_)
            refine zg_goto X 48 dX8_init_101 (by decide) ?_
            refine zg_sub [0, 1, 3] rfl ?_
            exact ihLp10 _ v26 v25 hI ⟨hW.1, hW.2.1, zwS.blank hW.2.2 (by omega) hF16 (by omega) (by omega) (by omega)⟩ (by omega) (by omega) 
  refine zg_sub [0, 1, 2] rfl ?_
  exact Lp10 ((116 - v7.toInt + 1).toNat + 1) _ v7 v6 hk5.1 ⟨rfl, rfl, zwS.first (by omega) (by omega) zq1⟩ (by omega) (by omega) 
set_option maxHeartbeats 4000000 in
set_option maxRecDepth 100000 in
theorem n_X3 (l : Launch) (d : zD2) : zNew l yX3_init (Cond.code yX3_init cX3_init 1 none :: zWL) 5 5 1233 d 3 [.null, .null, .int 0, .int 0, .long 0, .int 0, .int 0, .int 0, .int 0, .int 0, .int 0, .int 0] [3, 8, 40, 41, 42, 43] := by
  refine zNew.of (own := RX3) (by decide +kernel) rfl rfl rfl (by decide) ?_
  intro a0 p e s m args below meth c A Q X hin ret
  have hk0 := zK.nil
  refine zg_aload_n X 0 rfl dX3_init_0 ?_
  refine zc_obj X mo_X3_3 mo_inst mo_code dX3_init_1 ⟨by decide, Nat.le_of_ble_eq_true rfl⟩ ?_
  refine zg_aload_n X 0 rfl dX3_init_4 ?_
  refine zc_newC (T := TX8) (fs0 := [.null, .null, .null, .null, .int 0]) X hk0 (n_X8 l d) (by decide) (by decide) rfl zl_in8 tyX8_ok wc_X3_9 wi_X8 mz_X8 (fun j hj => by rcases (show j = 0 ∨ j = 1 ∨ j = 2 ∨ j = 3 ∨ j = 4 by omega) with rfl | rfl | rfl | rfl | rfl <;> rfl) mn_X3_11 mc_X8_init mz_X8 mi_X8_init rfl ⟨md_X8.1, md_X8.2, by decide +kernel⟩ dX3_init_5 dX3_init_8 dX3_init_9 ⟨⟨by decide, by decide⟩, by decide, by decide⟩ (Nat.le_of_ble_eq_true rfl) (fun q1 L1 kd1 s1 e1 t1 r1 hk1 => ?_)
  have X : zX d L1 kd1 A 1 p s m args c cX3_init RX3 := X
  refine zc_put (j := 0) (ty := .object RX8) (fs2 := [.ref q1, .null, .int 0, .int 0, .long 0, .int 0, .int 0, .int 0, .int 0, .int 0, .int 0, .int 0]) X hin rfl (by decide) zl_in3 tyX3_ok nmX3 (zkl_X3_12) rfl (by decide +kernel) rfl rfl (Nat.le_of_ble_eq_true rfl) rfl dX3_init_12 ?_
  refine zg_aload_n X 0 rfl dX3_init_15 ?_
  refine zg_null X dX3_init_16 ?_
  refine zc_put (j := 1) (ty := .object RX9) (fs2 := [.ref q1, .null, .int 0, .int 0, .long 0, .int 0, .int 0, .int 0, .int 0, .int 0, .int 0, .int 0]) X hin rfl (by decide) zl_in3 tyX3_ok nmX3 (zkl_X3_18) rfl (by decide +kernel) rfl rfl (Nat.le_of_ble_eq_true rfl) rfl dX3_init_17 ?_
  refine zg_aload_n X 0 rfl dX3_init_20 ?_
  refine zg_iconst X 0 dX3_init_21 (by decide) (fun v1 _ hv1 => ?_)
  refine zc_put (j := 2) (ty := .int) (fs2 := [.ref q1, .null, .int v1, .int 0, .long 0, .int 0, .int 0, .int 0, .int 0, .int 0, .int 0, .int 0]) X hin rfl (by decide) zl_in3 tyX3_ok nmX3 (zkl_X3_22) rfl (by decide +kernel) rfl rfl (Nat.le_of_ble_eq_true rfl) rfl dX3_init_22 ?_
  refine zg_aload_n X 0 rfl dX3_init_25 ?_
  refine zg_bipush X 34 dX3_init_26 (by decide) (fun v2 _ hv2 => ?_)
  refine zc_put (j := 3) (ty := .int) (fs2 := [.ref q1, .null, .int v1, .int v2, .long 0, .int 0, .int 0, .int 0, .int 0, .int 0, .int 0, .int 0]) X hin rfl (by decide) zl_in3 tyX3_ok nmX3 (zkl_X3_26) rfl (by decide +kernel) rfl rfl (Nat.le_of_ble_eq_true rfl) rfl dX3_init_28 ?_
  refine zg_aload_n X 0 rfl dX3_init_31 ?_
  refine zg_lconst X dX3_init_32 (fun v3 ev3 => ?_)
  refine zc_put (j := 4) (ty := .long) (fs2 := [.ref q1, .null, .int v1, .int v2, .long v3, .int 0, .int 0, .int 0, .int 0, .int 0, .int 0, .int 0]) X hin rfl (by decide) zl_in3 tyX3_ok nmX3 (zkl_X3_29) rfl (by decide +kernel) rfl rfl (Nat.le_of_ble_eq_true rfl) rfl dX3_init_33 ?_
  refine zg_aload_n X 0 rfl dX3_init_36 ?_
  refine zg_iconst X (-1) dX3_init_37 (by decide) (fun v4 _ hv4 => ?_)
  refine zc_put (j := 5) (ty := .int) (fs2 := [.ref q1, .null, .int v1, .int v2, .long v3, .int v4, .int 0, .int 0, .int 0, .int 0, .int 0, .int 0]) X hin rfl (by decide) zl_in3 tyX3_ok nmX3 (zkl_X3_33) rfl (by decide +kernel) rfl rfl (Nat.le_of_ble_eq_true rfl) rfl dX3_init_38 ?_
  refine zg_aload_n X 0 rfl dX3_init_41 ?_
  refine zg_iconst X 0 dX3_init_42 (by decide) (fun v5 _ hv5 => ?_)
  refine zc_put (j := 6) (ty := .boolean) (fs2 := [.ref q1, .null, .int v1, .int v2, .long v3, .int v4, .int v5, .int 0, .int 0, .int 0, .int 0, .int 0]) X hin rfl (by decide) zl_in3 tyX3_ok nmX3 (zkl_X3_36) rfl (by decide +kernel) (zb_bool ⟨by omega, by omega⟩) (zb_boolF ⟨by omega, by omega⟩) (Nat.le_of_ble_eq_true rfl) rfl dX3_init_43 ?_
  refine zg_aload_n X 0 rfl dX3_init_46 ?_
  refine zg_iconst X 0 dX3_init_47 (by decide) (fun v6 _ hv6 => ?_)
  refine zc_put (j := 7) (ty := .int) (fs2 := [.ref q1, .null, .int v1, .int v2, .long v3, .int v4, .int v5, .int v6, .int 0, .int 0, .int 0, .int 0]) X hin rfl (by decide) zl_in3 tyX3_ok nmX3 (zkl_X3_40) rfl (by decide +kernel) rfl rfl (Nat.le_of_ble_eq_true rfl) rfl dX3_init_48 ?_
  refine zg_aload_n X 0 rfl dX3_init_51 ?_
  refine zg_iconst X 0 dX3_init_52 (by decide) (fun v7 _ hv7 => ?_)
  refine zc_put (j := 8) (ty := .int) (fs2 := [.ref q1, .null, .int v1, .int v2, .long v3, .int v4, .int v5, .int v6, .int v7, .int 0, .int 0, .int 0]) X hin rfl (by decide) zl_in3 tyX3_ok nmX3 (zkl_X3_43) rfl (by decide +kernel) rfl rfl (Nat.le_of_ble_eq_true rfl) rfl dX3_init_53 ?_
  refine zg_aload_n X 0 rfl dX3_init_56 ?_
  refine zg_iconst X (-1) dX3_init_57 (by decide) (fun v8 _ hv8 => ?_)
  refine zc_put (j := 9) (ty := .int) (fs2 := [.ref q1, .null, .int v1, .int v2, .long v3, .int v4, .int v5, .int v6, .int v7, .int v8, .int 0, .int 0]) X hin rfl (by decide) zl_in3 tyX3_ok nmX3 (zkl_X3_46) rfl (by decide +kernel) rfl rfl (Nat.le_of_ble_eq_true rfl) rfl dX3_init_58 ?_
  refine zg_aload_n X 0 rfl dX3_init_61 ?_
  refine zg_iconst X 0 dX3_init_62 (by decide) (fun v9 _ hv9 => ?_)
  refine zc_put (j := 10) (ty := .int) (fs2 := [.ref q1, .null, .int v1, .int v2, .long v3, .int v4, .int v5, .int v6, .int v7, .int v8, .int v9, .int 0]) X hin rfl (by decide) zl_in3 tyX3_ok nmX3 (zkl_X3_49) rfl (by decide +kernel) rfl rfl (Nat.le_of_ble_eq_true rfl) rfl dX3_init_63 ?_
  refine zg_aload_n X 0 rfl dX3_init_66 ?_
  refine zg_iconst X (-1) dX3_init_67 (by decide) (fun v10 _ hv10 => ?_)
  refine zc_put (j := 11) (ty := .int) (fs2 := [.ref q1, .null, .int v1, .int v2, .long v3, .int v4, .int v5, .int v6, .int v7, .int v8, .int v9, .int v10]) X hin rfl (by decide) zl_in3 tyX3_ok nmX3 (zkl_X3_52) rfl (by decide +kernel) rfl rfl (Nat.le_of_ble_eq_true rfl) rfl dX3_init_68 ?_
  have hf2 : ∀ j k2, zf 0 3 j = some k2 → ∃ y, (fun j => ([some q1, none, none, none, none, none, none, none, none, none, none, none] : List (Option Nat)).getD j none) j = some y ∧ zT L1 kd1 y k2 := by
    intro j k2 h
    have h := zf_list (by decide) h
    rw [show (zfl.filter (fun q => q.1 == 3 && q.2.2.2 == 0)).map (fun q => (q.2.1, q.2.2.1)) = ([(0, 8)] : List (Nat × Nat)) from by decide +kernel] at h
    simp only [List.mem_cons, Prod.mk.injEq, List.not_mem_nil, or_false] at h
    rcases h with ⟨rfl, rfl⟩
    · exact ⟨_, rfl, t1⟩
  have hq2 : ∀ j y, (fun j => ([some q1, none, none, none, none, none, none, none, none, none, none, none] : List (Option Nat)).getD j none) j = some y → (j < 12 ∧ zf 0 3 j ≠ none) ∧ y ∈ L1 ∧ ((kd1 : Nat → Nat) y ≠ 6 → zrt L1 s1 y) := by
    intro j y e
    have hj : j < 12 := zgN 12 e
    rcases (show j = 0 ∨ j = 1 ∨ j = 2 ∨ j = 3 ∨ j = 4 ∨ j = 5 ∨ j = 6 ∨ j = 7 ∨ j = 8 ∨ j = 9 ∨ j = 10 ∨ j = 11 by omega) with rfl | rfl | rfl | rfl | rfl | rfl | rfl | rfl | rfl | rfl | rfl | rfl
    · cases (show some q1 = some y from e); exact ⟨⟨by decide, by decide⟩, t1.1, fun _ => r1.1⟩
    · cases (show (none : Option Nat) = some y from e)
    · cases (show (none : Option Nat) = some y from e)
    · cases (show (none : Option Nat) = some y from e)
    · cases (show (none : Option Nat) = some y from e)
    · cases (show (none : Option Nat) = some y from e)
    · cases (show (none : Option Nat) = some y from e)
    · cases (show (none : Option Nat) = some y from e)
    · cases (show (none : Option Nat) = some y from e)
    · cases (show (none : Option Nat) = some y from e)
    · cases (show (none : Option Nat) = some y from e)
    · cases (show (none : Option Nat) = some y from e)
  have hi2 : ∀ j j' y, (fun j => ([some q1, none, none, none, none, none, none, none, none, none, none, none] : List (Option Nat)).getD j none) j = some y → (fun j => ([some q1, none, none, none, none, none, none, none, none, none, none, none] : List (Option Nat)).getD j none) j' = some y → j = j' := by
    intro j j' y e e'
    rcases zinjk (N := 12) (Xr := fun j j' => False) hf2 (fun j y e => (hq2 j y e).1) (by decide +kernel) e e' with z | z
    · exact z
    · exact absurd z id
  refine zc_typed (b2 := (List.contains ([3, 8, 40, 41, 42, 43] : List Nat) 8)) (k := 3) (fun j => ([0, 0, v1, v2, 0, v4, v5, v6, v7, v8, v9, v10] : List Int32).getD j 0) (fun j => ([0, 0, 0, 0, v3, 0, 0, 0, 0, 0, 0, 0] : List Int64).getD j 0) (fun j => ([some q1, none, none, none, none, none, none, none, none, none, none, none] : List (Option Nat)).getD j none) hk1 rfl (by decide) rfl ?_ hf2 (by decide) (by decide) (by decide) (by decide) ⟨fun e => absurd e (by decide), fun e => absurd e (by decide), fun e => absurd e (by decide), fun e => absurd e (by decide), fun e => absurd e (by decide), fun e => absurd e (by decide), fun e => absurd e (by decide)⟩ (fun j y e => (hq2 j y e).2) (fun j j' y e e' _ _ _ => hi2 j j' y e e') (fun L2 kd2 s2 e2 ta2 rt2 hk2 => ?_)
  · intro j
    rcases zr_list (k := 3) (by decide) j with h | h
    · rw [h]; exact zb_rng _
    · rw [show ((zrl 0).filter (fun q => q.1 == 3)).map (fun q => (q.2.1, q.2.2)) = ([(6, 0, 1), (7, 0, 11)] : List (Nat × Int × Int)) from by decide +kernel] at h
      simp only [List.mem_cons, Prod.mk.injEq, List.not_mem_nil, or_false] at h
      rcases h with ⟨rfl, h⟩ | ⟨rfl, h⟩
      · rw [h]; show _ ≤ Int32.toInt v5 ∧ Int32.toInt v5 ≤ _; first | exact ⟨by decide, by decide⟩ | exact ⟨by show (0 : Int) ≤ _; omega, by show _ ≤ (1 : Int); omega⟩
      · rw [h]; show _ ≤ Int32.toInt v6 ∧ Int32.toInt v6 ≤ _; first | exact ⟨by decide, by decide⟩ | exact ⟨by show (0 : Int) ≤ _; omega, by show _ ≤ (11 : Int); omega⟩
  have X : zX d L2 kd2 A 1 p s m args c cX3_init RX3 := X
  exact ret _ _ _ _ _ dX3_init_71 ta2 rt2 hk2
set_option maxHeartbeats 4000000 in
set_option maxRecDepth 100000 in
theorem n_X4 (l : Launch) (d : zD2) : zNew l yX4_init (Cond.code yX4_init cX4_init 2 none :: zWL) 2 161 1720 d 4 [.null, .int 0, .int 0] [4, 29, 1, 22, 23, 24] := by
  refine zNew.of (own := RX4) (by decide +kernel) rfl rfl rfl (by decide) ?_
  intro a0 p e s m args below meth c A Q X hin ret
  refine zg_aload_n X 0 rfl dX4_init_0 ?_
  refine zc_obj X mo_X4_1 mo_inst mo_code dX4_init_1 ⟨by decide, Nat.le_of_ble_eq_true rfl⟩ ?_
  refine zg_aload_n X 0 rfl dX4_init_4 ?_
  refine zg_bipush X 40 dX4_init_5 (by decide) (fun v0 _ hv0 => ?_)
  refine zc_newq X 40 wc_X4_9 (by rw [hv0]; rfl) (by decide) ⟨by decide, by decide⟩ dX4_init_7 (fun q => ?_)
  refine zc_put (j := 0) (ty := .array (.object RX1)) (fs2 := [.ref q, .int 0, .int 0]) X hin rfl (by decide) zl_in4 tyX4_ok nmX4 zkl_X4_11 rfl (by decide +kernel) rfl rfl (Nat.le_of_ble_eq_true rfl) rfl dX4_init_10 ?_
  refine zg_aload_n X 0 rfl dX4_init_13 ?_
  refine zg_iconst X 0 dX4_init_14 (by decide) (fun v1 _ hv1 => ?_)
  refine zc_put (j := 1) (ty := .int) (fs2 := [.ref q, .int v1, .int 0]) X hin rfl (by decide) zl_in4 tyX4_ok nmX4 zkl_X4_15 rfl (by decide +kernel) rfl rfl (Nat.le_of_ble_eq_true rfl) rfl dX4_init_15 ?_
  refine zg_aload_n X 0 rfl dX4_init_18 ?_
  refine zg_iconst X 0 dX4_init_19 (by decide) (fun v2 _ hv2 => ?_)
  refine zc_put (j := 2) (ty := .int) (fs2 := [.ref q, .int v1, .int v2]) X hin rfl (by decide) zl_in4 tyX4_ok nmX4 zkl_X4_19 rfl (by decide +kernel) rfl rfl (Nat.le_of_ble_eq_true rfl) rfl dX4_init_20 ?_
  refine zg_iconst X 0 dX4_init_23 (by decide) (fun v3 _ hv3 => ?_)
  refine zg_istore_n X [(1, .int v3), (0, .ref a0)] dX4_init_24 (by decide) rfl ?_
  have Lp : ∀ (n i : Nat), i + n = 40 → ∀ (L : List Nat) (kd : Nat → Nat) (σ : zS) (f : Nat → Option Nat) (x : Int32), x.toInt = i → zK [1, 22, 23, 24] L kd σ → (∀ j, j < i → ∃ y, f j = some y ∧ zT L kd y 1 ∧ zrt L σ y) → (∀ u v y, u < i → v < i → f u = some y → f v = some y → u = v) → zGc [(a0, .inr (4, [.ref q, .int v1, .int v2])), (q, .inl (d.2.2 16, 40, .inr (.inr (.inr (.inr f)))))] (1 + 4 * i) (40 + 42 * i) d L kd A 2 p l e { frames := 2, cells := 161, slots := 1720, locals := 100 * 2 } s m args below meth c Q σ 25 [(1, .int x), (0, .ref a0)] [] := by
    intro n
    induction n with
    | zero =>
      intro i hi L kd σ f x hx hk hf hfi
      have X : zX d L kd A 2 p s m args c cX4_init RX4 := X
      refine zg_iload_n X 0 rfl dX4_init_25 ?_
      refine zg_bipush X 40 dX4_init_26 (by decide) (fun v4 _ hv4 => ?_)
      refine zg_icmp_ge X 50 dX4_init_28 (by decide) (fun c5 => ?_) (fun c5 => absurd c5 (by omega))
      have h40 : i = 40 := by omega
      subst h40
      refine zc_row (k := 29) hk rfl rfl (by decide) (fun _ => rfl) (fun _ => rfl) (by decide) rfl (by decide) (by decide) (by decide) (by decide) hf hfi (fun L1 kd1 s1 e1 er1 t1 r1 hk1 => ?_)
      have hf2 : ∀ j k2, zf 0 4 j = some k2 → ∃ y, (fun j => ([some q, none, none] : List (Option Nat)).getD j none) j = some y ∧ zT L1 kd1 y k2 := by
        intro j k2 h
        have h := zf_list (by decide) h
        rw [show (zfl.filter (fun q => q.1 == 4 && q.2.2.2 == 0)).map (fun q => (q.2.1, q.2.2.1)) = ([(0, 29)] : List (Nat × Nat)) from by decide +kernel] at h
        simp only [List.mem_cons, Prod.mk.injEq, List.not_mem_nil, or_false] at h
        rcases h with ⟨rfl, rfl⟩
        exact ⟨_, rfl, t1⟩
      have hq2 : ∀ j y, (fun j => ([some q, none, none] : List (Option Nat)).getD j none) j = some y → j = 0 ∧ y = q := by
        intro j y e
        have hj : j < 3 := zgN 3 e
        rcases (show j = 0 ∨ j = 1 ∨ j = 2 by omega) with rfl | rfl | rfl
        · exact ⟨rfl, (Option.some.inj (show some q = some y from e)).symm⟩
        · cases (show (none : Option Nat) = some y from e)
        · cases (show (none : Option Nat) = some y from e)
      refine zc_typed (b2 := false) (k := 4) (fun j => ([0, v1, v2] : List Int32).getD j 0) (fun j => ([0, 0, 0] : List Int64).getD j 0) (fun j => ([some q, none, none] : List (Option Nat)).getD j none) hk1 rfl (by decide) rfl ?_ hf2 (by decide) (by decide) (by decide) (by decide) ⟨fun e => absurd e (by decide), fun e => absurd e (by decide), fun _ => ⟨Int32.toInt_inj.mp (hv1.trans (by decide)), Int32.toInt_inj.mp (hv2.trans (by decide))⟩, fun e => absurd e (by decide), fun e => absurd e (by decide), fun e => absurd e (by decide), fun e => absurd e (by decide)⟩ (fun j y e => by rw [(hq2 j y e).2]; exact ⟨t1.1, fun _ => r1.1⟩) (fun j j' y e e' _ _ _ => by rw [(hq2 j y e).1, (hq2 j' y e').1]) (fun L2 kd2 s2 e2 ta2 rt2 hk2 => ?_)
      · intro j
        rcases zr_list (k := 4) (by decide) j with h | h
        · rw [h]; exact zb_rng _
        · rw [show ((zrl 0).filter (fun q => q.1 == 4)).map (fun q => (q.2.1, q.2.2)) = ([(1, 0, 39), (2, 0, 40)] : List (Nat × Int × Int)) from by decide +kernel] at h
          simp only [List.mem_cons, Prod.mk.injEq, List.not_mem_nil, or_false] at h
          rcases h with ⟨rfl, h⟩ | ⟨rfl, h⟩
          · rw [h]; show _ ≤ Int32.toInt v1 ∧ Int32.toInt v1 ≤ _; exact ⟨by show (0 : Int) ≤ _; omega, by show _ ≤ (39 : Int); omega⟩
          · rw [h]; show _ ≤ Int32.toInt v2 ∧ Int32.toInt v2 ≤ _; exact ⟨by show (0 : Int) ≤ _; omega, by show _ ≤ (40 : Int); omega⟩
      exact ret _ _ _ _ _ dX4_init_50 ta2 rt2 hk2
    | succ n ih =>
      intro i hi L kd σ f x hx hk hf hfi
      have X : zX d L kd A 2 p s m args c cX4_init RX4 := X
      refine zg_iload_n X 0 rfl dX4_init_25 ?_
      refine zg_bipush X 40 dX4_init_26 (by decide) (fun v4 _ hv4 => ?_)
      refine zg_icmp_ge X 50 dX4_init_28 (by decide) (fun c5 => absurd c5 (by omega)) (fun c5 => ?_)
      refine zg_aload_n X 1 rfl dX4_init_31 ?_
      refine zc_get (j := 0) X rfl (by decide) zl_in4 zkl_X4_11 rfl dX4_init_32 ?_
      refine zg_iload_n X 0 rfl dX4_init_35 ?_
      refine zc_newC (T := TX1) (fs0 := [.null, .null, .null, .int 0, .int 0, .int 0]) X hk (n_X1 l d) (by decide) (by decide) rfl zl_in1 tyX1_ok wc_X4_9 wi_X1 mz_X1 (fun j hj => by rcases (show j = 0 ∨ j = 1 ∨ j = 2 ∨ j = 3 ∨ j = 4 ∨ j = 5 by omega) with rfl | rfl | rfl | rfl | rfl | rfl <;> rfl) mn_X4_22 mc_X1_init mz_X1 mi_X1_init rfl ⟨md_X1.1, md_X1.2, by decide +kernel⟩ dX4_init_36 dX4_init_39 dX4_init_40 ⟨⟨by show _ ≤ 161; omega, by show _ ≤ 1720; omega⟩, by decide, by decide⟩ (Nat.le_of_ble_eq_true rfl) (fun y L2 kd2 s2 e2 t2 r2 hk2 => ?_)
      have X : zX d L2 kd2 A 2 p s m args c cX4_init RX4 := X
      refine zc_ast i X t2 hx (by omega) dX4_init_43 ?_
      refine zg_iinc X 1 (fun v6 => [(1, .int v6), (0, .ref a0)]) 0 dX4_init_44 rfl (by decide) (by decide) (by omega) (by omega) (fun _ => rfl) (fun v6 _ hv6 => ?_)
      refine zg_goto X 25 dX4_init_47 (by decide) ?_
      refine zc_cs (cs2 := 1 + 4 * (i + 1)) (sl2 := 40 + 42 * (i + 1)) (by omega) (by omega) ?_
      refine ih (i + 1) (by omega) L2 kd2 s2 _ v6 (by omega) (hk2.sub (by decide) (by decide)) (fun j hj => ?_) (fun u v w hu hv e1 e2' => ?_)
      · unfold va_up
        split
        · exact ⟨y, rfl, t2, r2.1⟩
        · obtain ⟨z, hz, ht, hr⟩ := hf j (by omega)
          exact ⟨z, hz, e2.t ht, e2.rr ht hr⟩
      · unfold va_up at e1 e2'
        split at e1
        · split at e2'
          · omega
          · next c1 c2 =>
            obtain ⟨z, hz, ht, -⟩ := hf v (by omega)
            rw [hz] at e2'
            exact absurd (by rw [Option.some.inj e1, ← Option.some.inj e2']; exact ht.1) r2.2
        · split at e2'
          · next c1 c2 =>
            obtain ⟨z, hz, ht, -⟩ := hf u (by omega)
            rw [hz] at e1
            exact absurd (by rw [Option.some.inj e2', ← Option.some.inj e1]; exact ht.1) r2.2
          · exact hfi u v w (by omega) (by omega) e1 e2'
  exact Lp 40 0 (by omega) _ _ _ _ v3 (by rw [hv3]; rfl) (zK.nil.sub (by decide) (by decide)) (fun j hj => absurd hj (by omega)) (fun u v w hu => absurd hu (by omega))

set_option maxHeartbeats 4000000 in
set_option maxRecDepth 100000 in
theorem n_X10 (l : Launch) (d : zD2) : zNew l yX10_init (Cond.code yX10_init cX10_init 2 none :: zWL) 6 229 7283 d 10 [.null, .null, .null, .null, .null, .null, .null, .null, .null, .null, .null, .null, .int 0, .int 0] [10, 52, 7, 39, 3, 8, 40, 41, 42, 43, 5, 6, 33, 34, 35, 36, 37, 38, 0, 20, 21, 30, 31, 32, 4, 29, 1, 22, 23, 24, 2, 25, 26, 27, 28, 1, 22, 23, 24, 1, 22, 23, 24, 1, 22, 23, 24, 1, 22, 23, 24, 1, 22, 23, 24, 53, 9, 44, 45, 46, 47, 48, 49, 50, 51, 9, 44, 45, 46, 47, 48, 49, 50, 51] := by
  refine zNew.of (own := RX10) (by decide +kernel) rfl rfl rfl (by decide) ?_
  intro a0 p e s m args below meth c A Q X hin ret
  have hk0 := zK.nil
  refine zg_aload_n X 0 rfl dX10_init_0 ?_
  refine zc_obj X mo_X10_1 mo_inst mo_code dX10_init_1 ⟨by decide, Nat.le_of_ble_eq_true rfl⟩ ?_
  refine zg_aload_n X 0 rfl dX10_init_4 ?_
  refine zc_newC (T := TX7) (fs0 := [.null, .int 0]) X hk0 (n_X7 l d) (by decide) (by decide) rfl zl_in7 tyX7_ok wc_X10_7 wi_X7 mz_X7 (fun j hj => by rcases (show j = 0 ∨ j = 1 by omega) with rfl | rfl <;> rfl) mn_X10_9 mc_X7_init mz_X7 mi_X7_init rfl ⟨md_X7.1, md_X7.2, by decide +kernel⟩ dX10_init_5 dX10_init_8 dX10_init_9 ⟨⟨by decide, by decide⟩, by decide, by decide⟩ (Nat.le_of_ble_eq_true rfl) (fun q1 L1 kd1 s1 e1 t1 r1 hk1 => ?_)
  have X : zX d L1 kd1 A 2 p s m args c cX10_init RX10 := X
  refine zc_put (j := 0) (ty := .object RX7) (fs2 := [.ref q1, .null, .null, .null, .null, .null, .null, .null, .null, .null, .null, .null, .int 0, .int 0]) X hin rfl (by decide) zl_in10 tyX10_ok nmX10 (zkl_X10_10) rfl (by decide +kernel) rfl rfl (Nat.le_of_ble_eq_true rfl) rfl dX10_init_12 ?_
  refine zg_aload_n X 0 rfl dX10_init_15 ?_
  refine zc_newC (T := TX3) (fs0 := [.null, .null, .int 0, .int 0, .long 0, .int 0, .int 0, .int 0, .int 0, .int 0, .int 0, .int 0]) X hk1 (n_X3 l d) (by decide) (by decide) rfl zl_in3 tyX3_ok wc_X10_16 wi_X3 mz_X3 (fun j hj => by rcases (show j = 0 ∨ j = 1 ∨ j = 2 ∨ j = 3 ∨ j = 4 ∨ j = 5 ∨ j = 6 ∨ j = 7 ∨ j = 8 ∨ j = 9 ∨ j = 10 ∨ j = 11 by omega) with rfl | rfl | rfl | rfl | rfl | rfl | rfl | rfl | rfl | rfl | rfl | rfl <;> rfl) mn_X10_18 mc_X3_init mz_X3 mi_X3_init rfl ⟨md_X3.1, md_X3.2, by decide +kernel⟩ dX10_init_16 dX10_init_19 dX10_init_20 ⟨⟨by decide, by decide⟩, by decide, by decide⟩ (Nat.le_of_ble_eq_true rfl) (fun q2 L2 kd2 s2 e2 t2 r2 hk2 => ?_)
  have X : zX d L2 kd2 A 2 p s m args c cX10_init RX10 := X
  have Rq1_2 : zrt L2 s2 q1 := e2.rr t1 r1.1
  refine zc_put (j := 1) (ty := .object RX3) (fs2 := [.ref q1, .ref q2, .null, .null, .null, .null, .null, .null, .null, .null, .null, .null, .int 0, .int 0]) X hin rfl (by decide) zl_in10 tyX10_ok nmX10 (zkl_X10_19) rfl (by decide +kernel) rfl rfl (Nat.le_of_ble_eq_true rfl) rfl dX10_init_23 ?_
  refine zg_aload_n X 0 rfl dX10_init_26 ?_
  refine zc_newC (T := TX5) (fs0 := [.null, .null, .null, .null, .null, .null, .null]) X hk2 (n_X5 l d) (by decide) (by decide) rfl zl_in5 tyX5_ok wc_X10_23 wi_X5 mz_X5 (fun j hj => by rcases (show j = 0 ∨ j = 1 ∨ j = 2 ∨ j = 3 ∨ j = 4 ∨ j = 5 ∨ j = 6 by omega) with rfl | rfl | rfl | rfl | rfl | rfl | rfl <;> rfl) mn_X10_25 mc_X5_init mz_X5 mi_X5_init rfl ⟨md_X5.1, md_X5.2, by decide +kernel⟩ dX10_init_27 dX10_init_30 dX10_init_31 ⟨⟨by decide, by decide⟩, by decide, by decide⟩ (Nat.le_of_ble_eq_true rfl) (fun q3 L3 kd3 s3 e3 t3 r3 hk3 => ?_)
  have X : zX d L3 kd3 A 2 p s m args c cX10_init RX10 := X
  have Rq1_3 : zrt L3 s3 q1 := e3.rr (e2.t t1) Rq1_2
  have Rq2_3 : zrt L3 s3 q2 := e3.rr t2 r2.1
  refine zc_put (j := 2) (ty := .object RX5) (fs2 := [.ref q1, .ref q2, .ref q3, .null, .null, .null, .null, .null, .null, .null, .null, .null, .int 0, .int 0]) X hin rfl (by decide) zl_in10 tyX10_ok nmX10 (zkl_X10_26) rfl (by decide +kernel) rfl rfl (Nat.le_of_ble_eq_true rfl) rfl dX10_init_34 ?_
  refine zg_aload_n X 0 rfl dX10_init_37 ?_
  refine zg_aload_n X 0 rfl dX10_init_38 ?_
  refine zc_get (j := 2) X rfl (by decide) zl_in10 (zkl_X10_26) rfl dX10_init_39 ?_
  refine fg_X10_30 X hk3.1 t3 dX10_init_42 (fun v1 ev1 hv1 => ?_)
  refine zc_put (j := 3) (ty := .object RX6) (fs2 := [.ref q1, .ref q2, .ref q3, .ref v1, .null, .null, .null, .null, .null, .null, .null, .null, .int 0, .int 0]) X hin rfl (by decide) zl_in10 tyX10_ok nmX10 (zkl_X10_34) rfl (by decide +kernel) rfl rfl (Nat.le_of_ble_eq_true rfl) rfl dX10_init_45 ?_
  refine zg_aload_n X 0 rfl dX10_init_48 ?_
  refine zc_newC (T := TX4) (fs0 := [.null, .int 0, .int 0]) X hk3 (n_X4 l d) (by decide) (by decide) rfl zl_in4 tyX4_ok wc_X10_35 wi_X4 mz_X4 (fun j hj => by rcases (show j = 0 ∨ j = 1 ∨ j = 2 by omega) with rfl | rfl | rfl <;> rfl) mn_X10_37 mc_X4_init mz_X4 mi_X4_init rfl ⟨md_X4.1, md_X4.2, by decide +kernel⟩ dX10_init_49 dX10_init_52 dX10_init_53 ⟨⟨by decide, by decide⟩, by decide, by decide⟩ (Nat.le_of_ble_eq_true rfl) (fun q4 L4 kd4 s4 e4 t4 r4 hk4 => ?_)
  have X : zX d L4 kd4 A 2 p s m args c cX10_init RX10 := X
  have Rq1_4 : zrt L4 s4 q1 := e4.rr (e3.t (e2.t t1)) Rq1_3
  have Rq2_4 : zrt L4 s4 q2 := e4.rr (e3.t t2) Rq2_3
  have Rq3_4 : zrt L4 s4 q3 := e4.rr t3 r3.1
  refine zc_put (j := 4) (ty := .object RX4) (fs2 := [.ref q1, .ref q2, .ref q3, .ref v1, .ref q4, .null, .null, .null, .null, .null, .null, .null, .int 0, .int 0]) X hin rfl (by decide) zl_in10 tyX10_ok nmX10 (zkl_X10_38) rfl (by decide +kernel) rfl rfl (Nat.le_of_ble_eq_true rfl) rfl dX10_init_56 ?_
  refine zg_aload_n X 0 rfl dX10_init_59 ?_
  refine zc_newC (T := TX2) (fs0 := [.null, .null, .null, .null, .int 0]) X hk4 (n_X2 l d) (by decide) (by decide) rfl zl_in2 tyX2_ok wc_X10_42 wi_X2 mz_X2 (fun j hj => by rcases (show j = 0 ∨ j = 1 ∨ j = 2 ∨ j = 3 ∨ j = 4 by omega) with rfl | rfl | rfl | rfl | rfl <;> rfl) mn_X10_44 mc_X2_init mz_X2 mi_X2_init rfl ⟨md_X2.1, md_X2.2, by decide +kernel⟩ dX10_init_60 dX10_init_63 dX10_init_64 ⟨⟨by decide, by decide⟩, by decide, by decide⟩ (Nat.le_of_ble_eq_true rfl) (fun q5 L5 kd5 s5 e5 t5 r5 hk5 => ?_)
  have X : zX d L5 kd5 A 2 p s m args c cX10_init RX10 := X
  have Rq1_5 : zrt L5 s5 q1 := e5.rr (e4.t (e3.t (e2.t t1))) Rq1_4
  have Rq2_5 : zrt L5 s5 q2 := e5.rr (e4.t (e3.t t2)) Rq2_4
  have Rq3_5 : zrt L5 s5 q3 := e5.rr (e4.t t3) Rq3_4
  have Rq4_5 : zrt L5 s5 q4 := e5.rr t4 r4.1
  refine zc_put (j := 5) (ty := .object RX2) (fs2 := [.ref q1, .ref q2, .ref q3, .ref v1, .ref q4, .ref q5, .null, .null, .null, .null, .null, .null, .int 0, .int 0]) X hin rfl (by decide) zl_in10 tyX10_ok nmX10 (zkl_X10_45) rfl (by decide +kernel) rfl rfl (Nat.le_of_ble_eq_true rfl) rfl dX10_init_67 ?_
  refine zg_aload_n X 0 rfl dX10_init_70 ?_
  refine zc_newC (T := TX1) (fs0 := [.null, .null, .null, .int 0, .int 0, .int 0]) X hk5 (n_X1 l d) (by decide) (by decide) rfl zl_in1 tyX1_ok wc_X10_49 wi_X1 mz_X1 (fun j hj => by rcases (show j = 0 ∨ j = 1 ∨ j = 2 ∨ j = 3 ∨ j = 4 ∨ j = 5 by omega) with rfl | rfl | rfl | rfl | rfl | rfl <;> rfl) mn_X10_51 mc_X1_init mz_X1 mi_X1_init rfl ⟨md_X1.1, md_X1.2, by decide +kernel⟩ dX10_init_71 dX10_init_74 dX10_init_75 ⟨⟨by decide, by decide⟩, by decide, by decide⟩ (Nat.le_of_ble_eq_true rfl) (fun q6 L6 kd6 s6 e6 t6 r6 hk6 => ?_)
  have X : zX d L6 kd6 A 2 p s m args c cX10_init RX10 := X
  have Rq1_6 : zrt L6 s6 q1 := e6.rr (e5.t (e4.t (e3.t (e2.t t1)))) Rq1_5
  have Rq2_6 : zrt L6 s6 q2 := e6.rr (e5.t (e4.t (e3.t t2))) Rq2_5
  have Rq3_6 : zrt L6 s6 q3 := e6.rr (e5.t (e4.t t3)) Rq3_5
  have Rq4_6 : zrt L6 s6 q4 := e6.rr (e5.t t4) Rq4_5
  have Rq5_6 : zrt L6 s6 q5 := e6.rr t5 r5.1
  refine zc_put (j := 6) (ty := .object RX1) (fs2 := [.ref q1, .ref q2, .ref q3, .ref v1, .ref q4, .ref q5, .ref q6, .null, .null, .null, .null, .null, .int 0, .int 0]) X hin rfl (by decide) zl_in10 tyX10_ok nmX10 (zkl_X10_52) rfl (by decide +kernel) rfl rfl (Nat.le_of_ble_eq_true rfl) rfl dX10_init_78 ?_
  refine zg_aload_n X 0 rfl dX10_init_81 ?_
  refine zc_newC (T := TX1) (fs0 := [.null, .null, .null, .int 0, .int 0, .int 0]) X hk6 (n_X1 l d) (by decide) (by decide) rfl zl_in1 tyX1_ok wc_X10_49 wi_X1 mz_X1 (fun j hj => by rcases (show j = 0 ∨ j = 1 ∨ j = 2 ∨ j = 3 ∨ j = 4 ∨ j = 5 by omega) with rfl | rfl | rfl | rfl | rfl | rfl <;> rfl) mn_X10_51 mc_X1_init mz_X1 mi_X1_init rfl ⟨md_X1.1, md_X1.2, by decide +kernel⟩ dX10_init_82 dX10_init_85 dX10_init_86 ⟨⟨by decide, by decide⟩, by decide, by decide⟩ (Nat.le_of_ble_eq_true rfl) (fun q7 L7 kd7 s7 e7 t7 r7 hk7 => ?_)
  have Dq6_q7 : q6 ≠ q7 := fun e => r7.2 (by rw [← e]; exact t6.1)
  have X : zX d L7 kd7 A 2 p s m args c cX10_init RX10 := X
  have Rq1_7 : zrt L7 s7 q1 := e7.rr (e6.t (e5.t (e4.t (e3.t (e2.t t1))))) Rq1_6
  have Rq2_7 : zrt L7 s7 q2 := e7.rr (e6.t (e5.t (e4.t (e3.t t2)))) Rq2_6
  have Rq3_7 : zrt L7 s7 q3 := e7.rr (e6.t (e5.t (e4.t t3))) Rq3_6
  have Rq4_7 : zrt L7 s7 q4 := e7.rr (e6.t (e5.t t4)) Rq4_6
  have Rq5_7 : zrt L7 s7 q5 := e7.rr (e6.t t5) Rq5_6
  have Rq6_7 : zrt L7 s7 q6 := e7.rr t6 r6.1
  refine zc_put (j := 7) (ty := .object RX1) (fs2 := [.ref q1, .ref q2, .ref q3, .ref v1, .ref q4, .ref q5, .ref q6, .ref q7, .null, .null, .null, .null, .int 0, .int 0]) X hin rfl (by decide) zl_in10 tyX10_ok nmX10 (zkl_X10_56) rfl (by decide +kernel) rfl rfl (Nat.le_of_ble_eq_true rfl) rfl dX10_init_89 ?_
  refine zg_aload_n X 0 rfl dX10_init_92 ?_
  refine zg_iconst X 3 dX10_init_93 (by decide) (fun v2 _ hv2 => ?_)
  refine zc_newq X 3 wc_X10_49 (by rw [hv2]; rfl) (by decide) ⟨by decide, by decide⟩ dX10_init_94 (fun qa => ?_)
  refine zc_put (j := 8) (ty := .array (.object RX1)) (fs2 := [.ref q1, .ref q2, .ref q3, .ref v1, .ref q4, .ref q5, .ref q6, .ref q7, .ref qa, .null, .null, .null, .int 0, .int 0]) X hin rfl (by decide) zl_in10 tyX10_ok nmX10 (zkl_X10_59) rfl (by decide +kernel) rfl rfl (Nat.le_of_ble_eq_true rfl) rfl dX10_init_97 ?_
  refine zg_iconst X 0 dX10_init_100 (by decide) (fun v3 _ hv3 => ?_)
  refine zg_istore_n X [(1, .int v3), (0, .ref a0)] dX10_init_101 (by decide) rfl ?_
  refine zg_iload_n X 0 rfl dX10_init_102 ?_
  refine zg_iconst X 3 dX10_init_103 (by decide) (fun v4 _ hv4 => ?_)
  refine zg_icmp_ge X 126 dX10_init_104 (by decide) (fun c5 => ?_) (fun c5 => ?_)
  · omega
  · skip
    refine zg_aload_n X 1 rfl dX10_init_107 ?_
    refine zc_get (j := 8) X rfl (by decide) zl_in10 (zkl_X10_59) rfl dX10_init_108 ?_
    refine zg_iload_n X 0 rfl dX10_init_111 ?_
    refine zc_newC (T := TX1) (fs0 := [.null, .null, .null, .int 0, .int 0, .int 0]) X hk7 (n_X1 l d) (by decide) (by decide) rfl zl_in1 tyX1_ok wc_X10_49 wi_X1 mz_X1 (fun j hj => by rcases (show j = 0 ∨ j = 1 ∨ j = 2 ∨ j = 3 ∨ j = 4 ∨ j = 5 by omega) with rfl | rfl | rfl | rfl | rfl | rfl <;> rfl) mn_X10_51 mc_X1_init mz_X1 mi_X1_init rfl ⟨md_X1.1, md_X1.2, by decide +kernel⟩ dX10_init_112 dX10_init_115 dX10_init_116 ⟨⟨by decide, by decide⟩, by decide, by decide⟩ (Nat.le_of_ble_eq_true rfl) (fun q8 L8 kd8 s8 e8 t8 r8 hk8 => ?_)
    have Dq6_q8 : q6 ≠ q8 := fun e => r8.2 (by rw [← e]; exact (e7.t t6).1)
    have Dq7_q8 : q7 ≠ q8 := fun e => r8.2 (by rw [← e]; exact t7.1)
    have X : zX d L8 kd8 A 2 p s m args c cX10_init RX10 := X
    have Rq1_8 : zrt L8 s8 q1 := e8.rr (e7.t (e6.t (e5.t (e4.t (e3.t (e2.t t1)))))) Rq1_7
    have Rq2_8 : zrt L8 s8 q2 := e8.rr (e7.t (e6.t (e5.t (e4.t (e3.t t2))))) Rq2_7
    have Rq3_8 : zrt L8 s8 q3 := e8.rr (e7.t (e6.t (e5.t (e4.t t3)))) Rq3_7
    have Rq4_8 : zrt L8 s8 q4 := e8.rr (e7.t (e6.t (e5.t t4))) Rq4_7
    have Rq5_8 : zrt L8 s8 q5 := e8.rr (e7.t (e6.t t5)) Rq5_7
    have Rq6_8 : zrt L8 s8 q6 := e8.rr (e7.t t6) Rq6_7
    have Rq7_8 : zrt L8 s8 q7 := e8.rr t7 r7.1
    refine zc_ast 0 X t8 (by omega) (by decide) dX10_init_119 ?_
    refine zg_iinc X 1 (fun v6 => [(1, .int v6), (0, .ref a0)]) 0 dX10_init_120 rfl (by decide) (by decide) (by omega) (by omega) (fun _ => rfl) (fun v6 ev6 hv6 => ?_)
    refine zg_goto X 102 dX10_init_123 (by decide) ?_
    refine zg_iload_n X 0 rfl dX10_init_102 ?_
    refine zg_iconst X 3 dX10_init_103 (by decide) (fun v7 _ hv7 => ?_)
    refine zg_icmp_ge X 126 dX10_init_104 (by decide) (fun c8 => ?_) (fun c8 => ?_)
    · omega
    · skip
      refine zg_aload_n X 1 rfl dX10_init_107 ?_
      refine zc_get (j := 8) X rfl (by decide) zl_in10 (zkl_X10_59) rfl dX10_init_108 ?_
      refine zg_iload_n X 0 rfl dX10_init_111 ?_
      refine zc_newC (T := TX1) (fs0 := [.null, .null, .null, .int 0, .int 0, .int 0]) X hk8 (n_X1 l d) (by decide) (by decide) rfl zl_in1 tyX1_ok wc_X10_49 wi_X1 mz_X1 (fun j hj => by rcases (show j = 0 ∨ j = 1 ∨ j = 2 ∨ j = 3 ∨ j = 4 ∨ j = 5 by omega) with rfl | rfl | rfl | rfl | rfl | rfl <;> rfl) mn_X10_51 mc_X1_init mz_X1 mi_X1_init rfl ⟨md_X1.1, md_X1.2, by decide +kernel⟩ dX10_init_112 dX10_init_115 dX10_init_116 ⟨⟨by decide, by decide⟩, by decide, by decide⟩ (Nat.le_of_ble_eq_true rfl) (fun q9 L9 kd9 s9 e9 t9 r9 hk9 => ?_)
      have Dq6_q9 : q6 ≠ q9 := fun e => r9.2 (by rw [← e]; exact (e8.t (e7.t t6)).1)
      have Dq7_q9 : q7 ≠ q9 := fun e => r9.2 (by rw [← e]; exact (e8.t t7).1)
      have Dq8_q9 : q8 ≠ q9 := fun e => r9.2 (by rw [← e]; exact t8.1)
      have X : zX d L9 kd9 A 2 p s m args c cX10_init RX10 := X
      have Rq1_9 : zrt L9 s9 q1 := e9.rr (e8.t (e7.t (e6.t (e5.t (e4.t (e3.t (e2.t t1))))))) Rq1_8
      have Rq2_9 : zrt L9 s9 q2 := e9.rr (e8.t (e7.t (e6.t (e5.t (e4.t (e3.t t2)))))) Rq2_8
      have Rq3_9 : zrt L9 s9 q3 := e9.rr (e8.t (e7.t (e6.t (e5.t (e4.t t3))))) Rq3_8
      have Rq4_9 : zrt L9 s9 q4 := e9.rr (e8.t (e7.t (e6.t (e5.t t4)))) Rq4_8
      have Rq5_9 : zrt L9 s9 q5 := e9.rr (e8.t (e7.t (e6.t t5))) Rq5_8
      have Rq6_9 : zrt L9 s9 q6 := e9.rr (e8.t (e7.t t6)) Rq6_8
      have Rq7_9 : zrt L9 s9 q7 := e9.rr (e8.t t7) Rq7_8
      have Rq8_9 : zrt L9 s9 q8 := e9.rr t8 r8.1
      refine zc_ast 1 X t9 (by omega) (by decide) dX10_init_119 ?_
      refine zg_iinc X 1 (fun v9 => [(1, .int v9), (0, .ref a0)]) 0 dX10_init_120 rfl (by decide) (by decide) (by omega) (by omega) (fun _ => rfl) (fun v9 ev9 hv9 => ?_)
      refine zg_goto X 102 dX10_init_123 (by decide) ?_
      refine zg_iload_n X 0 rfl dX10_init_102 ?_
      refine zg_iconst X 3 dX10_init_103 (by decide) (fun v10 _ hv10 => ?_)
      refine zg_icmp_ge X 126 dX10_init_104 (by decide) (fun c11 => ?_) (fun c11 => ?_)
      · omega
      · skip
        refine zg_aload_n X 1 rfl dX10_init_107 ?_
        refine zc_get (j := 8) X rfl (by decide) zl_in10 (zkl_X10_59) rfl dX10_init_108 ?_
        refine zg_iload_n X 0 rfl dX10_init_111 ?_
        refine zc_newC (T := TX1) (fs0 := [.null, .null, .null, .int 0, .int 0, .int 0]) X hk9 (n_X1 l d) (by decide) (by decide) rfl zl_in1 tyX1_ok wc_X10_49 wi_X1 mz_X1 (fun j hj => by rcases (show j = 0 ∨ j = 1 ∨ j = 2 ∨ j = 3 ∨ j = 4 ∨ j = 5 by omega) with rfl | rfl | rfl | rfl | rfl | rfl <;> rfl) mn_X10_51 mc_X1_init mz_X1 mi_X1_init rfl ⟨md_X1.1, md_X1.2, by decide +kernel⟩ dX10_init_112 dX10_init_115 dX10_init_116 ⟨⟨by decide, by decide⟩, by decide, by decide⟩ (Nat.le_of_ble_eq_true rfl) (fun q10 L10 kd10 s10 e10 t10 r10 hk10 => ?_)
        have Dq6_q10 : q6 ≠ q10 := fun e => r10.2 (by rw [← e]; exact (e9.t (e8.t (e7.t t6))).1)
        have Dq7_q10 : q7 ≠ q10 := fun e => r10.2 (by rw [← e]; exact (e9.t (e8.t t7)).1)
        have Dq8_q10 : q8 ≠ q10 := fun e => r10.2 (by rw [← e]; exact (e9.t t8).1)
        have Dq9_q10 : q9 ≠ q10 := fun e => r10.2 (by rw [← e]; exact t9.1)
        have X : zX d L10 kd10 A 2 p s m args c cX10_init RX10 := X
        have Rq1_10 : zrt L10 s10 q1 := e10.rr (e9.t (e8.t (e7.t (e6.t (e5.t (e4.t (e3.t (e2.t t1)))))))) Rq1_9
        have Rq2_10 : zrt L10 s10 q2 := e10.rr (e9.t (e8.t (e7.t (e6.t (e5.t (e4.t (e3.t t2))))))) Rq2_9
        have Rq3_10 : zrt L10 s10 q3 := e10.rr (e9.t (e8.t (e7.t (e6.t (e5.t (e4.t t3)))))) Rq3_9
        have Rq4_10 : zrt L10 s10 q4 := e10.rr (e9.t (e8.t (e7.t (e6.t (e5.t t4))))) Rq4_9
        have Rq5_10 : zrt L10 s10 q5 := e10.rr (e9.t (e8.t (e7.t (e6.t t5)))) Rq5_9
        have Rq6_10 : zrt L10 s10 q6 := e10.rr (e9.t (e8.t (e7.t t6))) Rq6_9
        have Rq7_10 : zrt L10 s10 q7 := e10.rr (e9.t (e8.t t7)) Rq7_9
        have Rq8_10 : zrt L10 s10 q8 := e10.rr (e9.t t8) Rq8_9
        have Rq9_10 : zrt L10 s10 q9 := e10.rr t9 r9.1
        refine zc_ast 2 X t10 (by omega) (by decide) dX10_init_119 ?_
        refine zg_iinc X 1 (fun v12 => [(1, .int v12), (0, .ref a0)]) 0 dX10_init_120 rfl (by decide) (by decide) (by omega) (by omega) (fun _ => rfl) (fun v12 ev12 hv12 => ?_)
        refine zg_goto X 102 dX10_init_123 (by decide) ?_
        refine zg_iload_n X 0 rfl dX10_init_102 ?_
        refine zg_iconst X 3 dX10_init_103 (by decide) (fun v13 _ hv13 => ?_)
        refine zg_icmp_ge X 126 dX10_init_104 (by decide) (fun c14 => ?_) (fun c14 => ?_)
        · skip
          have hfi11 : ∀ i j y, i < 3 → j < 3 → (va_up (va_up (va_up (fun _ => none) 0 (some q8)) 1 (some q9)) 2 (some q10)) i = some y → (va_up (va_up (va_up (fun _ => none) 0 (some q8)) 1 (some q9)) 2 (some q10)) j = some y → i = j := by
            intro i j y hi hj e1 e2
            rcases (show i = 0 ∨ i = 1 ∨ i = 2 by omega) with rfl | rfl | rfl <;> rcases (show j = 0 ∨ j = 1 ∨ j = 2 by omega) with rfl | rfl | rfl
            · exact rfl
            · exact absurd (Option.some.inj ((show some q8 = some y from e1).trans (show some q9 = some y from e2).symm)) Dq8_q9
            · exact absurd (Option.some.inj ((show some q8 = some y from e1).trans (show some q10 = some y from e2).symm)) Dq8_q10
            · exact absurd (Option.some.inj ((show some q9 = some y from e1).trans (show some q8 = some y from e2).symm)) (Ne.symm Dq8_q9)
            · exact rfl
            · exact absurd (Option.some.inj ((show some q9 = some y from e1).trans (show some q10 = some y from e2).symm)) Dq9_q10
            · exact absurd (Option.some.inj ((show some q10 = some y from e1).trans (show some q8 = some y from e2).symm)) (Ne.symm Dq8_q10)
            · exact absurd (Option.some.inj ((show some q10 = some y from e1).trans (show some q9 = some y from e2).symm)) (Ne.symm Dq9_q10)
            · exact rfl
          refine zc_row (k := 52) hk10 rfl rfl (by decide) (fun _ => rfl) (fun _ => rfl) (by decide) rfl (by decide) (by decide) (by decide) (by decide) (fun j hj => by rcases (show j = 0 ∨ j = 1 ∨ j = 2 by omega) with rfl | rfl | rfl; exact ⟨_, rfl, (e10.t (e9.t t8)), Rq8_10⟩; exact ⟨_, rfl, (e10.t t9), Rq9_10⟩; exact ⟨_, rfl, t10, r10.1⟩) hfi11 (fun L11 kd11 s11 e11 er11 t11 r11 hk11 => ?_)
          have X : zX d L11 kd11 A 2 p s m args c cX10_init RX10 := X
          have Rq1_11 : zrt L11 s11 q1 := er11 q1 (e10.t (e9.t (e8.t (e7.t (e6.t (e5.t (e4.t (e3.t (e2.t t1))))))))).1 Rq1_10 (fun j hj z => by rcases (show j = 0 ∨ j = 1 ∨ j = 2 by omega) with rfl | rfl | rfl; exact (zNk (e10.t (e9.t t8)) (e10.t (e9.t (e8.t (e7.t (e6.t (e5.t (e4.t (e3.t (e2.t t1))))))))) (by decide)) (Option.some.inj z); exact (zNk (e10.t t9) (e10.t (e9.t (e8.t (e7.t (e6.t (e5.t (e4.t (e3.t (e2.t t1))))))))) (by decide)) (Option.some.inj z); exact (zNk t10 (e10.t (e9.t (e8.t (e7.t (e6.t (e5.t (e4.t (e3.t (e2.t t1))))))))) (by decide)) (Option.some.inj z))
          have Rq2_11 : zrt L11 s11 q2 := er11 q2 (e10.t (e9.t (e8.t (e7.t (e6.t (e5.t (e4.t (e3.t t2)))))))).1 Rq2_10 (fun j hj z => by rcases (show j = 0 ∨ j = 1 ∨ j = 2 by omega) with rfl | rfl | rfl; exact (zNk (e10.t (e9.t t8)) (e10.t (e9.t (e8.t (e7.t (e6.t (e5.t (e4.t (e3.t t2)))))))) (by decide)) (Option.some.inj z); exact (zNk (e10.t t9) (e10.t (e9.t (e8.t (e7.t (e6.t (e5.t (e4.t (e3.t t2)))))))) (by decide)) (Option.some.inj z); exact (zNk t10 (e10.t (e9.t (e8.t (e7.t (e6.t (e5.t (e4.t (e3.t t2)))))))) (by decide)) (Option.some.inj z))
          have Rq3_11 : zrt L11 s11 q3 := er11 q3 (e10.t (e9.t (e8.t (e7.t (e6.t (e5.t (e4.t t3))))))).1 Rq3_10 (fun j hj z => by rcases (show j = 0 ∨ j = 1 ∨ j = 2 by omega) with rfl | rfl | rfl; exact (zNk (e10.t (e9.t t8)) (e10.t (e9.t (e8.t (e7.t (e6.t (e5.t (e4.t t3))))))) (by decide)) (Option.some.inj z); exact (zNk (e10.t t9) (e10.t (e9.t (e8.t (e7.t (e6.t (e5.t (e4.t t3))))))) (by decide)) (Option.some.inj z); exact (zNk t10 (e10.t (e9.t (e8.t (e7.t (e6.t (e5.t (e4.t t3))))))) (by decide)) (Option.some.inj z))
          have Rq4_11 : zrt L11 s11 q4 := er11 q4 (e10.t (e9.t (e8.t (e7.t (e6.t (e5.t t4)))))).1 Rq4_10 (fun j hj z => by rcases (show j = 0 ∨ j = 1 ∨ j = 2 by omega) with rfl | rfl | rfl; exact (zNk (e10.t (e9.t t8)) (e10.t (e9.t (e8.t (e7.t (e6.t (e5.t t4)))))) (by decide)) (Option.some.inj z); exact (zNk (e10.t t9) (e10.t (e9.t (e8.t (e7.t (e6.t (e5.t t4)))))) (by decide)) (Option.some.inj z); exact (zNk t10 (e10.t (e9.t (e8.t (e7.t (e6.t (e5.t t4)))))) (by decide)) (Option.some.inj z))
          have Rq5_11 : zrt L11 s11 q5 := er11 q5 (e10.t (e9.t (e8.t (e7.t (e6.t t5))))).1 Rq5_10 (fun j hj z => by rcases (show j = 0 ∨ j = 1 ∨ j = 2 by omega) with rfl | rfl | rfl; exact (zNk (e10.t (e9.t t8)) (e10.t (e9.t (e8.t (e7.t (e6.t t5))))) (by decide)) (Option.some.inj z); exact (zNk (e10.t t9) (e10.t (e9.t (e8.t (e7.t (e6.t t5))))) (by decide)) (Option.some.inj z); exact (zNk t10 (e10.t (e9.t (e8.t (e7.t (e6.t t5))))) (by decide)) (Option.some.inj z))
          have Rq6_11 : zrt L11 s11 q6 := er11 q6 (e10.t (e9.t (e8.t (e7.t t6)))).1 Rq6_10 (fun j hj z => by rcases (show j = 0 ∨ j = 1 ∨ j = 2 by omega) with rfl | rfl | rfl; exact (Ne.symm Dq6_q8) (Option.some.inj z); exact (Ne.symm Dq6_q9) (Option.some.inj z); exact (Ne.symm Dq6_q10) (Option.some.inj z))
          have Rq7_11 : zrt L11 s11 q7 := er11 q7 (e10.t (e9.t (e8.t t7))).1 Rq7_10 (fun j hj z => by rcases (show j = 0 ∨ j = 1 ∨ j = 2 by omega) with rfl | rfl | rfl; exact (Ne.symm Dq7_q8) (Option.some.inj z); exact (Ne.symm Dq7_q9) (Option.some.inj z); exact (Ne.symm Dq7_q10) (Option.some.inj z))
          refine zg_aload_n X 1 rfl dX10_init_126 ?_
          refine zg_bipush X 12 dX10_init_127 (by decide) (fun v15 _ hv15 => ?_)
          refine zc_newi X 53 13 1 hk11 wa_int rfl rfl (Or.inr (Or.inl rfl)) rfl rfl (by rw [hv15]; rfl) (by decide) (fun j => ⟨show (-2147483648 : Int) ≤ 0 by decide, show (0 : Int) ≤ 2147483647 by decide⟩) (fun _ => rfl) (by decide) (by decide) (by decide) ⟨by decide, by decide⟩ dX10_init_129 (fun q12 L12 kd12 s12 e12 t12 r12 hk12 => ?_)
          have X : zX d L12 kd12 A 2 p s m args c cX10_init RX10 := X
          have Rq1_12 : zrt L12 s12 q1 := e12.rr (e11.t (e10.t (e9.t (e8.t (e7.t (e6.t (e5.t (e4.t (e3.t (e2.t t1)))))))))) Rq1_11
          have Rq2_12 : zrt L12 s12 q2 := e12.rr (e11.t (e10.t (e9.t (e8.t (e7.t (e6.t (e5.t (e4.t (e3.t t2))))))))) Rq2_11
          have Rq3_12 : zrt L12 s12 q3 := e12.rr (e11.t (e10.t (e9.t (e8.t (e7.t (e6.t (e5.t (e4.t t3)))))))) Rq3_11
          have Rq4_12 : zrt L12 s12 q4 := e12.rr (e11.t (e10.t (e9.t (e8.t (e7.t (e6.t (e5.t t4))))))) Rq4_11
          have Rq5_12 : zrt L12 s12 q5 := e12.rr (e11.t (e10.t (e9.t (e8.t (e7.t (e6.t t5)))))) Rq5_11
          have Rq6_12 : zrt L12 s12 q6 := e12.rr (e11.t (e10.t (e9.t (e8.t (e7.t t6))))) Rq6_11
          have Rq7_12 : zrt L12 s12 q7 := e12.rr (e11.t (e10.t (e9.t (e8.t t7)))) Rq7_11
          have Rqa_12 : zrt L12 s12 qa := e12.rr t11 r11.1
          refine zc_put (j := 9) (ty := .array .int) (fs2 := [.ref q1, .ref q2, .ref q3, .ref v1, .ref q4, .ref q5, .ref q6, .ref q7, .ref qa, .ref q12, .null, .null, .int 0, .int 0]) X hin rfl (by decide) zl_in10 tyX10_ok nmX10 (zkl_X10_63) rfl (by decide +kernel) rfl rfl (Nat.le_of_ble_eq_true rfl) rfl dX10_init_131 ?_
          refine zg_aload_n X 1 rfl dX10_init_134 ?_
          refine zc_newC (T := TX9) (fs0 := [.int 0, .null, .null, .null, .null, .null, .null, .null, .int 0, .null, .int 0, .int 0, .int 0, .int 0]) X hk12 (n_X9 l d) (by decide) (by decide) rfl zl_in9 tyX9_ok wc_X10_67 wi_X9 mz_X9 (fun j hj => by rcases (show j = 0 ∨ j = 1 ∨ j = 2 ∨ j = 3 ∨ j = 4 ∨ j = 5 ∨ j = 6 ∨ j = 7 ∨ j = 8 ∨ j = 9 ∨ j = 10 ∨ j = 11 ∨ j = 12 ∨ j = 13 by omega) with rfl | rfl | rfl | rfl | rfl | rfl | rfl | rfl | rfl | rfl | rfl | rfl | rfl | rfl <;> rfl) mn_X10_69 mc_X9_init mz_X9 mi_X9_init rfl ⟨md_X9.1, md_X9.2, by decide +kernel⟩ dX10_init_135 dX10_init_138 dX10_init_139 ⟨⟨by decide, by decide⟩, by decide, by decide⟩ (Nat.le_of_ble_eq_true rfl) (fun q13 L13 kd13 s13 e13 t13 r13 hk13 => ?_)
          have X : zX d L13 kd13 A 2 p s m args c cX10_init RX10 := X
          have Rq1_13 : zrt L13 s13 q1 := e13.rr (e12.t (e11.t (e10.t (e9.t (e8.t (e7.t (e6.t (e5.t (e4.t (e3.t (e2.t t1))))))))))) Rq1_12
          have Rq2_13 : zrt L13 s13 q2 := e13.rr (e12.t (e11.t (e10.t (e9.t (e8.t (e7.t (e6.t (e5.t (e4.t (e3.t t2)))))))))) Rq2_12
          have Rq3_13 : zrt L13 s13 q3 := e13.rr (e12.t (e11.t (e10.t (e9.t (e8.t (e7.t (e6.t (e5.t (e4.t t3))))))))) Rq3_12
          have Rq4_13 : zrt L13 s13 q4 := e13.rr (e12.t (e11.t (e10.t (e9.t (e8.t (e7.t (e6.t (e5.t t4)))))))) Rq4_12
          have Rq5_13 : zrt L13 s13 q5 := e13.rr (e12.t (e11.t (e10.t (e9.t (e8.t (e7.t (e6.t t5))))))) Rq5_12
          have Rq6_13 : zrt L13 s13 q6 := e13.rr (e12.t (e11.t (e10.t (e9.t (e8.t (e7.t t6)))))) Rq6_12
          have Rq7_13 : zrt L13 s13 q7 := e13.rr (e12.t (e11.t (e10.t (e9.t (e8.t t7))))) Rq7_12
          have Rqa_13 : zrt L13 s13 qa := e13.rr (e12.t t11) Rqa_12
          have Rq12_13 : zrt L13 s13 q12 := e13.rr t12 r12.1
          refine zc_put (j := 10) (ty := .object RX9) (fs2 := [.ref q1, .ref q2, .ref q3, .ref v1, .ref q4, .ref q5, .ref q6, .ref q7, .ref qa, .ref q12, .ref q13, .null, .int 0, .int 0]) X hin rfl (by decide) zl_in10 tyX10_ok nmX10 (zkl_X10_70) rfl (by decide +kernel) rfl rfl (Nat.le_of_ble_eq_true rfl) rfl dX10_init_142 ?_
          refine zg_aload_n X 1 rfl dX10_init_145 ?_
          refine zc_newC (T := TX9) (fs0 := [.int 0, .null, .null, .null, .null, .null, .null, .null, .int 0, .null, .int 0, .int 0, .int 0, .int 0]) X hk13 (n_X9 l d) (by decide) (by decide) rfl zl_in9 tyX9_ok wc_X10_67 wi_X9 mz_X9 (fun j hj => by rcases (show j = 0 ∨ j = 1 ∨ j = 2 ∨ j = 3 ∨ j = 4 ∨ j = 5 ∨ j = 6 ∨ j = 7 ∨ j = 8 ∨ j = 9 ∨ j = 10 ∨ j = 11 ∨ j = 12 ∨ j = 13 by omega) with rfl | rfl | rfl | rfl | rfl | rfl | rfl | rfl | rfl | rfl | rfl | rfl | rfl | rfl <;> rfl) mn_X10_69 mc_X9_init mz_X9 mi_X9_init rfl ⟨md_X9.1, md_X9.2, by decide +kernel⟩ dX10_init_146 dX10_init_149 dX10_init_150 ⟨⟨by decide, by decide⟩, by decide, by decide⟩ (Nat.le_of_ble_eq_true rfl) (fun q14 L14 kd14 s14 e14 t14 r14 hk14 => ?_)
          have Dq13_q14 : q13 ≠ q14 := fun e => r14.2 (by rw [← e]; exact t13.1)
          have X : zX d L14 kd14 A 2 p s m args c cX10_init RX10 := X
          have Rq1_14 : zrt L14 s14 q1 := e14.rr (e13.t (e12.t (e11.t (e10.t (e9.t (e8.t (e7.t (e6.t (e5.t (e4.t (e3.t (e2.t t1)))))))))))) Rq1_13
          have Rq2_14 : zrt L14 s14 q2 := e14.rr (e13.t (e12.t (e11.t (e10.t (e9.t (e8.t (e7.t (e6.t (e5.t (e4.t (e3.t t2))))))))))) Rq2_13
          have Rq3_14 : zrt L14 s14 q3 := e14.rr (e13.t (e12.t (e11.t (e10.t (e9.t (e8.t (e7.t (e6.t (e5.t (e4.t t3)))))))))) Rq3_13
          have Rq4_14 : zrt L14 s14 q4 := e14.rr (e13.t (e12.t (e11.t (e10.t (e9.t (e8.t (e7.t (e6.t (e5.t t4))))))))) Rq4_13
          have Rq5_14 : zrt L14 s14 q5 := e14.rr (e13.t (e12.t (e11.t (e10.t (e9.t (e8.t (e7.t (e6.t t5)))))))) Rq5_13
          have Rq6_14 : zrt L14 s14 q6 := e14.rr (e13.t (e12.t (e11.t (e10.t (e9.t (e8.t (e7.t t6))))))) Rq6_13
          have Rq7_14 : zrt L14 s14 q7 := e14.rr (e13.t (e12.t (e11.t (e10.t (e9.t (e8.t t7)))))) Rq7_13
          have Rqa_14 : zrt L14 s14 qa := e14.rr (e13.t (e12.t t11)) Rqa_13
          have Rq12_14 : zrt L14 s14 q12 := e14.rr (e13.t t12) Rq12_13
          have Rq13_14 : zrt L14 s14 q13 := e14.rr t13 r13.1
          refine zc_put (j := 11) (ty := .object RX9) (fs2 := [.ref q1, .ref q2, .ref q3, .ref v1, .ref q4, .ref q5, .ref q6, .ref q7, .ref qa, .ref q12, .ref q13, .ref q14, .int 0, .int 0]) X hin rfl (by decide) zl_in10 tyX10_ok nmX10 (zkl_X10_74) rfl (by decide +kernel) rfl rfl (Nat.le_of_ble_eq_true rfl) rfl dX10_init_153 ?_
          refine zg_aload_n X 1 rfl dX10_init_156 ?_
          refine zg_iconst X 0 dX10_init_157 (by decide) (fun v16 _ hv16 => ?_)
          refine zc_put (j := 12) (ty := .int) (fs2 := [.ref q1, .ref q2, .ref q3, .ref v1, .ref q4, .ref q5, .ref q6, .ref q7, .ref qa, .ref q12, .ref q13, .ref q14, .int v16, .int 0]) X hin rfl (by decide) zl_in10 tyX10_ok nmX10 (zkl_X10_77) rfl (by decide +kernel) rfl rfl (Nat.le_of_ble_eq_true rfl) rfl dX10_init_158 ?_
          refine zg_aload_n X 1 rfl dX10_init_161 ?_
          refine zg_iconst X (-1) dX10_init_162 (by decide) (fun v17 _ hv17 => ?_)
          refine zc_put (j := 13) (ty := .int) (fs2 := [.ref q1, .ref q2, .ref q3, .ref v1, .ref q4, .ref q5, .ref q6, .ref q7, .ref qa, .ref q12, .ref q13, .ref q14, .int v16, .int v17]) X hin rfl (by decide) zl_in10 tyX10_ok nmX10 (zkl_X10_81) rfl (by decide +kernel) rfl rfl (Nat.le_of_ble_eq_true rfl) rfl dX10_init_163 ?_
          have hf15 : ∀ j k2, zf 0 10 j = some k2 → ∃ y, (fun j => ([some q1, some q2, some q3, some v1, some q4, some q5, some q6, some q7, some qa, some q12, some q13, some q14, none, none] : List (Option Nat)).getD j none) j = some y ∧ zT L14 kd14 y k2 := by
            intro j k2 h
            have h := zf_list (by decide) h
            rw [show (zfl.filter (fun q => q.1 == 10 && q.2.2.2 == 0)).map (fun q => (q.2.1, q.2.2.1)) = ([(0, 7), (1, 3), (2, 5), (3, 6), (4, 4), (5, 2), (6, 1), (7, 1), (8, 52), (9, 53), (10, 9), (11, 9)] : List (Nat × Nat)) from by decide +kernel] at h
            simp only [List.mem_cons, Prod.mk.injEq, List.not_mem_nil, or_false] at h
            rcases h with ⟨rfl, rfl⟩ | ⟨rfl, rfl⟩ | ⟨rfl, rfl⟩ | ⟨rfl, rfl⟩ | ⟨rfl, rfl⟩ | ⟨rfl, rfl⟩ | ⟨rfl, rfl⟩ | ⟨rfl, rfl⟩ | ⟨rfl, rfl⟩ | ⟨rfl, rfl⟩ | ⟨rfl, rfl⟩ | ⟨rfl, rfl⟩
            · exact ⟨_, rfl, (e14.t (e13.t (e12.t (e11.t (e10.t (e9.t (e8.t (e7.t (e6.t (e5.t (e4.t (e3.t (e2.t t1)))))))))))))⟩
            · exact ⟨_, rfl, (e14.t (e13.t (e12.t (e11.t (e10.t (e9.t (e8.t (e7.t (e6.t (e5.t (e4.t (e3.t t2))))))))))))⟩
            · exact ⟨_, rfl, (e14.t (e13.t (e12.t (e11.t (e10.t (e9.t (e8.t (e7.t (e6.t (e5.t (e4.t t3)))))))))))⟩
            · exact ⟨_, rfl, (e14.t (e13.t (e12.t (e11.t (e10.t (e9.t (e8.t (e7.t (e6.t (e5.t (e4.t hv1)))))))))))⟩
            · exact ⟨_, rfl, (e14.t (e13.t (e12.t (e11.t (e10.t (e9.t (e8.t (e7.t (e6.t (e5.t t4))))))))))⟩
            · exact ⟨_, rfl, (e14.t (e13.t (e12.t (e11.t (e10.t (e9.t (e8.t (e7.t (e6.t t5)))))))))⟩
            · exact ⟨_, rfl, (e14.t (e13.t (e12.t (e11.t (e10.t (e9.t (e8.t (e7.t t6))))))))⟩
            · exact ⟨_, rfl, (e14.t (e13.t (e12.t (e11.t (e10.t (e9.t (e8.t t7)))))))⟩
            · exact ⟨_, rfl, (e14.t (e13.t (e12.t t11)))⟩
            · exact ⟨_, rfl, (e14.t (e13.t t12))⟩
            · exact ⟨_, rfl, (e14.t t13)⟩
            · exact ⟨_, rfl, t14⟩
          have hq15 : ∀ j y, (fun j => ([some q1, some q2, some q3, some v1, some q4, some q5, some q6, some q7, some qa, some q12, some q13, some q14, none, none] : List (Option Nat)).getD j none) j = some y → (j < 14 ∧ zf 0 10 j ≠ none) ∧ y ∈ L14 ∧ ((kd14 : Nat → Nat) y ≠ 6 → zrt L14 s14 y) := by
            intro j y e
            have hj : j < 14 := zgN 14 e
            rcases (show j = 0 ∨ j = 1 ∨ j = 2 ∨ j = 3 ∨ j = 4 ∨ j = 5 ∨ j = 6 ∨ j = 7 ∨ j = 8 ∨ j = 9 ∨ j = 10 ∨ j = 11 ∨ j = 12 ∨ j = 13 by omega) with rfl | rfl | rfl | rfl | rfl | rfl | rfl | rfl | rfl | rfl | rfl | rfl | rfl | rfl
            · cases (show some q1 = some y from e); exact ⟨⟨by decide, by decide⟩, (e14.t (e13.t (e12.t (e11.t (e10.t (e9.t (e8.t (e7.t (e6.t (e5.t (e4.t (e3.t (e2.t t1))))))))))))).1, fun _ => Rq1_14⟩
            · cases (show some q2 = some y from e); exact ⟨⟨by decide, by decide⟩, (e14.t (e13.t (e12.t (e11.t (e10.t (e9.t (e8.t (e7.t (e6.t (e5.t (e4.t (e3.t t2)))))))))))).1, fun _ => Rq2_14⟩
            · cases (show some q3 = some y from e); exact ⟨⟨by decide, by decide⟩, (e14.t (e13.t (e12.t (e11.t (e10.t (e9.t (e8.t (e7.t (e6.t (e5.t (e4.t t3))))))))))).1, fun _ => Rq3_14⟩
            · cases (show some v1 = some y from e); exact ⟨⟨by decide, by decide⟩, (e14.t (e13.t (e12.t (e11.t (e10.t (e9.t (e8.t (e7.t (e6.t (e5.t (e4.t hv1))))))))))).1, fun n => absurd (e14.t (e13.t (e12.t (e11.t (e10.t (e9.t (e8.t (e7.t (e6.t (e5.t (e4.t hv1))))))))))).2 n⟩
            · cases (show some q4 = some y from e); exact ⟨⟨by decide, by decide⟩, (e14.t (e13.t (e12.t (e11.t (e10.t (e9.t (e8.t (e7.t (e6.t (e5.t t4)))))))))).1, fun _ => Rq4_14⟩
            · cases (show some q5 = some y from e); exact ⟨⟨by decide, by decide⟩, (e14.t (e13.t (e12.t (e11.t (e10.t (e9.t (e8.t (e7.t (e6.t t5))))))))).1, fun _ => Rq5_14⟩
            · cases (show some q6 = some y from e); exact ⟨⟨by decide, by decide⟩, (e14.t (e13.t (e12.t (e11.t (e10.t (e9.t (e8.t (e7.t t6)))))))).1, fun _ => Rq6_14⟩
            · cases (show some q7 = some y from e); exact ⟨⟨by decide, by decide⟩, (e14.t (e13.t (e12.t (e11.t (e10.t (e9.t (e8.t t7))))))).1, fun _ => Rq7_14⟩
            · cases (show some qa = some y from e); exact ⟨⟨by decide, by decide⟩, (e14.t (e13.t (e12.t t11))).1, fun _ => Rqa_14⟩
            · cases (show some q12 = some y from e); exact ⟨⟨by decide, by decide⟩, (e14.t (e13.t t12)).1, fun _ => Rq12_14⟩
            · cases (show some q13 = some y from e); exact ⟨⟨by decide, by decide⟩, (e14.t t13).1, fun _ => Rq13_14⟩
            · cases (show some q14 = some y from e); exact ⟨⟨by decide, by decide⟩, t14.1, fun _ => r14.1⟩
            · cases (show (none : Option Nat) = some y from e)
            · cases (show (none : Option Nat) = some y from e)
          have hi15 : ∀ j j' y, (fun j => ([some q1, some q2, some q3, some v1, some q4, some q5, some q6, some q7, some qa, some q12, some q13, some q14, none, none] : List (Option Nat)).getD j none) j = some y → (fun j => ([some q1, some q2, some q3, some v1, some q4, some q5, some q6, some q7, some qa, some q12, some q13, some q14, none, none] : List (Option Nat)).getD j none) j' = some y → j = j' := by
            intro j j' y e e'
            rcases zinjk (N := 14) (Xr := fun j j' => (([(6, 7), (7, 6), (10, 11), (11, 10)] : List (Nat × Nat)).contains (j, j')) = true) hf15 (fun j y e => (hq15 j y e).1) (by decide +kernel) e e' with z | z
            · exact z
            · have z : (j = 6 ∧ j' = 7) ∨ (j = 7 ∧ j' = 6) ∨ (j = 10 ∧ j' = 11) ∨ (j = 11 ∧ j' = 10) := by simpa using z
              rcases z with ⟨rfl, rfl⟩ | ⟨rfl, rfl⟩ | ⟨rfl, rfl⟩ | ⟨rfl, rfl⟩
              · exact absurd (Option.some.inj ((show some q6 = some y from e).trans (show some q7 = some y from e').symm)) Dq6_q7
              · exact absurd (Option.some.inj ((show some q6 = some y from e').trans (show some q7 = some y from e).symm)) Dq6_q7
              · exact absurd (Option.some.inj ((show some q13 = some y from e).trans (show some q14 = some y from e').symm)) Dq13_q14
              · exact absurd (Option.some.inj ((show some q13 = some y from e').trans (show some q14 = some y from e).symm)) Dq13_q14
          refine zc_typed (b2 := (List.contains ([10, 52, 7, 39, 3, 8, 40, 41, 42, 43, 5, 6, 33, 34, 35, 36, 37, 38, 0, 20, 21, 30, 31, 32, 4, 29, 1, 22, 23, 24, 2, 25, 26, 27, 28, 1, 22, 23, 24, 1, 22, 23, 24, 1, 22, 23, 24, 1, 22, 23, 24, 1, 22, 23, 24, 53, 9, 44, 45, 46, 47, 48, 49, 50, 51, 9, 44, 45, 46, 47, 48, 49, 50, 51] : List Nat) 8)) (k := 10) (fun j => ([0, 0, 0, 0, 0, 0, 0, 0, 0, 0, 0, 0, v16, v17] : List Int32).getD j 0) (fun j => ([0, 0, 0, 0, 0, 0, 0, 0, 0, 0, 0, 0, 0, 0] : List Int64).getD j 0) (fun j => ([some q1, some q2, some q3, some v1, some q4, some q5, some q6, some q7, some qa, some q12, some q13, some q14, none, none] : List (Option Nat)).getD j none) hk14 rfl (by decide) rfl ?_ hf15 (by decide) (by decide) (by decide) (by decide) ⟨fun e => absurd e (by decide), fun e => absurd e (by decide), fun e => absurd e (by decide), fun e => absurd e (by decide), fun _ => ⟨Int32.toInt_inj.mp (hv16.trans (by decide)), Int32.toInt_inj.mp (hv17.trans (by decide))⟩, fun e => absurd e (by decide), fun e => absurd e (by decide)⟩ (fun j y e => (hq15 j y e).2) (fun j j' y e e' _ _ _ => hi15 j j' y e e') (fun L15 kd15 s15 e15 ta15 rt15 hk15 => ?_)
          · intro j
            rcases zr_list (k := 10) (by decide) j with h | h
            · rw [h]; exact zb_rng _
            · rw [show ((zrl 0).filter (fun q => q.1 == 10)).map (fun q => (q.2.1, q.2.2)) = ([] : List (Nat × Int × Int)) from by decide +kernel] at h
              exact absurd h List.not_mem_nil
          have X : zX d L15 kd15 A 2 p s m args c cX10_init RX10 := X
          exact ret _ _ _ _ _ dX10_init_166 ta15 rt15 hk15
        · omega
