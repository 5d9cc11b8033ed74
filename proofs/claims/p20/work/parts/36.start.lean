/-! THE START: classes, array classes, texts and static rows, out of the tables and the premises -/
theorem zWL_of {w : Cond} (h : w ∈ zWL) : w ∈ lw_tbl := by
  rcases List.mem_append.mp h with q | q
  · exact List.mem_append_right _ (List.mem_filter.mp q).1
  · exact List.mem_append_left _ (List.mem_filter.mp q).1
theorem zArr {args : Array Value} {s : State} {ty : FieldType} (h : (Cond.arrayClass ty).before args s = true) : ∃ cA : ClassId, ArrOfT s cA ty ∧ s.vm.findClass ("[" ++ ty.toString) = some cA := by
  obtain ⟨cA, kA, comp, h1, h2, h3⟩ := Cond.arrayClass_spec h
  exact ⟨cA, fun n z => ⟨fun k h => (by cases h), kA, h2, comp, h3⟩, h1⟩
theorem zArrO {args : Array Value} {s : State} {C : String} (h : (Cond.arrayOver (.object C)).before args s = true) : ∃ cA : ClassId, ArrOfT s cA (.object C) ∧ va_RA s cA (.object C) := by
  obtain ⟨comp, cA, kA, h1, h2, h3, h4, h5⟩ := Cond.arrayOver_spec h
  exact ⟨cA, fun n z => ⟨fun k h => (by cases h), kA, h3, comp, h4⟩, kA, comp, h3, h4, h1, h5⟩
set_option maxHeartbeats 4000000 in
set_option maxRecDepth 100000 in
theorem zs_start {s : State} {b : Nat} (hts : ∀ w ∈ lw_tbl, w.before #[Value.ref b] s = true) (hgv : (Jvm.Cond.and given_1 narrow_1).before #[Value.ref b] s = true) : ∃ d : zD2, va_K (d.1, d.2.1) vwCl (zty d.2.2) s ∧ zEX d.2.2 (fun q => s.heap.size ≤ q) s s.heap ∧ zN s := by
  have hA : ∀ a : Nat, a < s.heap.size → ¬ (fun q : Nat => s.heap.size ≤ q) a := fun a h => Nat.not_le.mpr h
  have hf := flat_of_before _ hgv
  have hz : ∀ w ∈ zWL, w.before #[Value.ref b] s = true := fun w h => hts w (zWL_of h)
  have ht : ∀ w ∈ tables_1, w.before #[Value.ref b] s = true := fun w h => hts w (List.mem_append_right _ h)
  obtain ⟨c0, i0, hK0⟩ := u_known (C := RX0) (T := TX0) (N := 2) (n := 2) hz zl_in0 (hz _ wi_X0)
  obtain ⟨c1, i1, hK1⟩ := u_known (C := RX1) (T := TX1) (N := 6) (n := 6) hz zl_in1 (hz _ wi_X1)
  obtain ⟨c2, i2, hK2⟩ := u_known (C := RX2) (T := TX2) (N := 5) (n := 5) hz zl_in2 (hz _ wi_X2)
  obtain ⟨c3, i3, hK3⟩ := u_known (C := RX3) (T := TX3) (N := 12) (n := 12) hz zl_in3 (hz _ wi_X3)
  obtain ⟨c4, i4, hK4⟩ := u_known (C := RX4) (T := TX4) (N := 3) (n := 3) hz zl_in4 (hz _ wi_X4)
  obtain ⟨c5, i5, hK5⟩ := u_known (C := RX5) (T := TX5) (N := 7) (n := 7) hz zl_in5 (hz _ wi_X5)
  obtain ⟨c6, i6, hK6⟩ := u_known (C := RX6) (T := TX6) (N := 7) (n := 7) hz zl_in6 (hz _ wi_X6)
  obtain ⟨c7, i7, hK7⟩ := u_known (C := RX7) (T := TX7) (N := 2) (n := 2) hz zl_in7 (hz _ wi_X7)
  obtain ⟨c8, i8, hK8⟩ := u_known (C := RX8) (T := TX8) (N := 5) (n := 5) hz zl_in8 (hz _ wi_X8)
  obtain ⟨c9, i9, hK9⟩ := u_known (C := RX9) (T := TX9) (N := 14) (n := 14) hz zl_in9 (hz _ wi_X9)
  obtain ⟨c10, i10, hK10⟩ := u_known (C := RX10) (T := TX10) (N := 14) (n := 14) hz zl_in10 (hz _ wi_X10)
  obtain ⟨c11, i11, hK11⟩ := u_known (C := RX11) (T := TX11) (N := 69) (n := 69) hz zl_in11 (hz _ wi_X11)
  obtain ⟨a12, r12, f12⟩ := zArr (hz _ wa_byte)
  obtain ⟨a13, r13, f13⟩ := zArr (hz _ wa_int)
  obtain ⟨a14, r14, f14⟩ := zArr (hz _ wa_long)
  obtain ⟨a15, r15, f15⟩ := zArr (hz _ wa_boolean)
  obtain ⟨a16, r16, f16⟩ := zArrO (C := RX1) (ht _ (zt2 (List.mem_of_getElem? (i := 21) rfl)))
  obtain ⟨t104, e104, T104⟩ := va_Tof (tm := Term.static "SourceDispute$Told" "UNTOLD_LAWS" "[I") (ty := .int) (N := 5) (f := zunt) (A := fun q => s.heap.size ≤ q) (by decide) (hf _ (List.mem_of_getElem? (i := 10) rfl)) (va_eqt (hf _ (List.mem_of_getElem? (i := 11) rfl))) (fun j hj => by
    rcases (show j = 0 ∨ j = 1 ∨ j = 2 ∨ j = 3 ∨ j = 4 by omega) with rfl | rfl | rfl | rfl | rfl
    · exact va_eqt (hf _ (List.mem_of_getElem? (i := 12) rfl))
    · exact va_eqt (hf _ (List.mem_of_getElem? (i := 13) rfl))
    · exact va_eqt (hf _ (List.mem_of_getElem? (i := 14) rfl))
    · exact va_eqt (hf _ (List.mem_of_getElem? (i := 15) rfl))
    · exact va_eqt (hf _ (List.mem_of_getElem? (i := 16) rfl))
    ) hA
  have Z104 := va_Zref (A := fun q => s.heap.size ≤ q) (ht _ (zt2 (List.mem_of_getElem? (i := 106) rfl))) (ht _ (zt1 (List.mem_of_getElem? (i := 15) rfl))) e104 hA
  have Zcs := va_Zof (A := fun q => s.heap.size ≤ q) (ht _ (zt1 (List.mem_of_getElem? (i := 68) rfl))) (ht _ (zt1 (List.mem_of_getElem? (i := 5) rfl))) (va_eqt (hf _ (List.mem_of_getElem? (i := 4) rfl))) hA
  have Zsi := va_Zqof (A := fun q => s.heap.size ≤ q) (ht _ (zt1 (List.mem_of_getElem? (i := 84) rfl))) (ht _ (zt1 (List.mem_of_getElem? (i := 7) rfl))) (hf _ (List.mem_of_getElem? (i := 5) rfl)) hA
  have two : ∀ i : Nat, i < 2 → i = 0 ∨ i = 1 := fun i h => by omega
  have hb0 : ∀ j, j < 116 → (flatC (Jvm.Cond.and given_1 narrow_1))[21 + j]? = some (Cond.eq (.elem (.field (Term.string RX8 (zstrI 0)) "java/lang/String" "value" "[B") (.int (Int32.ofNat j))) (.int ((zbyt.getD 0 []).getD j 0))) := by decide +kernel
  have hb1 : ∀ j, j < 9 → (flatC (Jvm.Cond.and given_1 narrow_1))[141 + j]? = some (Cond.eq (.elem (.field (Term.string RX8 (zstrI 1)) "java/lang/String" "value" "[B") (.int (Int32.ofNat j))) (.int ((zbyt.getD 1 []).getD j 0))) := by decide +kernel
  obtain ⟨adK, adV, hS, hE⟩ := vk_Sof (args := #[Value.ref b]) (s := s) (N := 2) (tm := fun i => Term.string RX8 (zstrI i)) (len := zlen) (byt := zbyt) (A := fun q => s.heap.size ≤ q) (by decide) (fun i hi => by rcases two i hi with rfl | rfl; exact hf _ (List.mem_of_getElem? (i := 17) rfl); exact hf _ (List.mem_of_getElem? (i := 137) rfl)) (fun i hi => by rcases two i hi with rfl | rfl; exact hf _ (List.mem_of_getElem? (i := 18) rfl); exact hf _ (List.mem_of_getElem? (i := 138) rfl)) (fun i hi => by rcases two i hi with rfl | rfl; exact hf _ (List.mem_of_getElem? (i := 19) rfl); exact hf _ (List.mem_of_getElem? (i := 139) rfl)) (fun i hi => by rcases two i hi with rfl | rfl; exact hf _ (List.mem_of_getElem? (i := 20) rfl); exact hf _ (List.mem_of_getElem? (i := 140) rfl)) (fun i hi j hj => by rcases two i hi with rfl | rfl; exact hf _ (List.mem_of_getElem? (hb0 j hj)); exact hf _ (List.mem_of_getElem? (hb1 j hj))) (fun i j hi hj hij => by rcases two i hi with rfl | rfl <;> rcases two j hj with rfl | rfl; exact absurd rfl hij; exact Or.inl (hf _ (List.mem_of_getElem? (i := 150) rfl)); exact Or.inr (hf _ (List.mem_of_getElem? (i := 150) rfl)); exact absurd rfl hij) hA
  refine ⟨(fun k => ([c0, c1, c2, c3, c4, c5, c6, c7, c8, c9, c10, c11] : List ClassId).getD k 0, fun k => ([i0, i1, i2, i3, i4, i5, i6, i7, i8, i9, i10, i11] : List (Nat → Nat)).getD k (fun _ => 0), fun k => if k = 12 then a12 else if k = 13 then a13 else if k = 14 then a14 else if k = 15 then a15 else if k = 16 then a16 else if k = 104 then t104 else if k = 100 then adK 0 else if k = 101 then adK 1 else if k = 102 then adV 0 else adV 1), ⟨fun c q hq => ?_, fun k q hq => ?_⟩, ⟨Z104, T104, ?_, ?_, Zcs, Zsi, va_AO.of (ht _ (zt2 (List.mem_of_getElem? (i := 21) rfl)))⟩, fun w hw hn => ?_⟩
  · match c, hq with
    | 0, hq => cases hq; exact hK0
    | 1, hq => cases hq; exact hK1
    | 2, hq => cases hq; exact hK2
    | 3, hq => cases hq; exact hK3
    | 4, hq => cases hq; exact hK4
    | 5, hq => cases hq; exact hK5
    | 6, hq => cases hq; exact hK6
    | 7, hq => cases hq; exact hK7
    | 8, hq => cases hq; exact hK8
    | 9, hq => cases hq; exact hK9
    | 10, hq => cases hq; exact hK10
    | 11, hq => cases hq; exact hK11
    | c + 12, hq => simp [vwCl] at hq
  · match k, hq with
    | 0, hq => cases hq; exact ⟨r12, f12⟩
    | 1, hq => cases hq; exact ⟨r13, f13⟩
    | 2, hq => cases hq; exact ⟨r14, f14⟩
    | 3, hq => cases hq; exact ⟨r15, f15⟩
    | 4, hq => cases hq; exact ⟨r16, f16⟩
    | k + 5, hq => simp [zty] at hq
  · refine ⟨fun i hi => ?_, fun i j hi hj e => ?_⟩
    · rcases two i hi with rfl | rfl
      · exact hS.1 0 (by decide)
      · exact hS.1 1 (by decide)
    · rcases two i hi with rfl | rfl <;> rcases two j hj with rfl | rfl
      · rfl
      · exact hS.2 0 1 (by decide) (by decide) e
      · exact hS.2 1 0 (by decide) (by decide) e
      · rfl
  · intro i hi
    rcases two i hi with rfl | rfl
    · exact vk_R.of (A := #[Value.ref b]) (ht _ (zt1 (List.mem_of_getElem? (i := 58) rfl))) (hE 0 (by decide))
    · exact vk_R.of (A := #[Value.ref b]) (ht _ (zt3 (List.mem_of_getElem? (i := 32) rfl))) (hE 1 (by decide))
  · have q := ht w hw
    cases w <;> first | (exact va_Nw.of rfl q) | (simp [zisN] at hn)
