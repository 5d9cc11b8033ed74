section ZREL6
variable {κ k : Int} {L1 : List Nat} {kd1 : Nat → Nat} {L2 : List Nat} {kd2 : Nat → Nat} {σ1 σ2 τ1 τ2 : zS} {Wk Wf Wa : List Nat} {m0 x0 : Nat} {Q : Nat → zCo → (Nat → Int32) → Prop} {V : zWh} {ps pc sl rv sh cd : Nat}
theorem mHold (hJ : zJ κ L2 kd2 σ2) (hm : zT L2 kd2 m0 11) {p : Int32} {k : Nat} (hp : p.toInt = k) (hk : k < 3) : F_X11_hold m0 p σ2 = (1, zcf (zu σ2.1 (mR σ2 m0 67) k 1) (mR σ2 m0 68) (mR σ2 m0 48) (50 * k) 0 0 50, σ2.2) := by
  have e50 : (50 : Int32).toInt = 50 := by decide
  have e0 : (0 : Int32).toInt = 0 := by decide
  have e2 : (2 : Int32).toInt = 2 := by decide
  have en0 : p.toNatClampNeg = k := by rw [ztn, hp]; rfl
  have eb : vp_nar .boolean (1 : Int32) = 1 := by decide
  unfold F_X11_hold
  simp only [zlt, mIn, e0, e2, en0, eb]
  rw [if_neg (fun z => z ⟨by omega, by omega⟩)]
  rw [zLoopC (E := fun s => ((1 : Int32), s)) (G := F_X11_hold_20 m0 p) (D := mR σ2 m0 68) (S := mR σ2 m0 48) (dO := 50 * k) (sO := 0) (N := 50) (m0 := m0) (σ := (zu σ2.1 (mR σ2 m0 67) k 1, σ2.2)) (Or.inl (mR_ne hJ hm (s := 68) (s' := 48) (k := 168) (k' := 148) (by rfl) (by rfl) (by decide))) (mR_m hJ hm (s := 68) (k := 168) (by rfl) (by decide)) (by decide) ?_ ?_ 10000 0 0 _ (by decide) (by decide) (by decide) rfl rfl]
  · intro n x i ρ hx hi q2 q0
    have r : ∀ s, (ρ.2.2 m0 s).getD 0 = mR σ2 m0 s := fun s => by rw [mR, q2]
    have en : x.toNatClampNeg = i := by rw [ztn, hx]; rfl
    have eu : ((50 : Int32) * p).toInt = 50 * k := by rw [zb_mul (by rw [e50, hp]; omega) (by rw [e50, hp]; omega), e50, hp]
    have ei : ((50 : Int32) * p + x).toNatClampNeg = 50 * k + i := by
      rw [ztn, zb_add (by rw [eu, hx]; omega) (by rw [eu, hx]; omega), eu, hx]
      omega
    rw [F_X11_hold_20]
    simp only [zlt, e50]
    rw [if_pos (by omega), r 68, r 48, en, ei, Nat.zero_add]
  · intro n x ρ hx q2 _
    rw [F_X11_hold_20]
    simp only [zlt, e50]
    rw [if_neg (by omega)]
theorem mRest (hJ : zJ κ L2 kd2 σ2) (hm : zT L2 kd2 m0 11) {p : Int32} {k : Nat} (hp : p.toInt = k) (hk : k < 3) : F_X11_restore m0 p σ2 = if (σ2.1 (mR σ2 m0 67) k).toInt = 0 then (0, σ2) else (1, zu (zcf σ2.1 (mR σ2 m0 48) (mR σ2 m0 68) 0 (50 * k) 0 50) m0 57 0, σ2.2) := by
  have e50 : (50 : Int32).toInt = 50 := by decide
  have e0 : (0 : Int32).toInt = 0 := by decide
  have e2 : (2 : Int32).toInt = 2 := by decide
  have en0 : p.toNatClampNeg = k := by rw [ztn, hp]; rfl
  unfold F_X11_restore
  simp only [zlt, mIn, e0, e2, en0]
  rw [if_neg (fun z => z ⟨by omega, by omega⟩)]
  by_cases c : (σ2.1 (mR σ2 m0 67) k).toInt = 0
  · rw [if_pos c, if_pos c]
  · rw [if_neg c, if_neg c]
    rw [zLoopC (E := fun s => ((1 : Int32), (zu s.1 m0 57 0, s.2))) (G := F_X11_restore_22 m0 p) (D := mR σ2 m0 48) (S := mR σ2 m0 68) (dO := 0) (sO := 50 * k) (N := 50) (m0 := m0) (σ := σ2) (Or.inr (Nat.zero_le _)) (mR_m hJ hm (s := 48) (k := 148) (by rfl) (by decide)) (by decide) ?_ ?_ 10000 0 0 _ (by decide) (by decide) (by decide) rfl rfl]
    · intro n x i ρ hx hi q2 q0
      have r : ∀ s, (ρ.2.2 m0 s).getD 0 = mR σ2 m0 s := fun s => by rw [mR, q2]
      have en : x.toNatClampNeg = i := by rw [ztn, hx]; rfl
      have eu : ((50 : Int32) * p).toInt = 50 * k := by rw [zb_mul (by rw [e50, hp]; omega) (by rw [e50, hp]; omega), e50, hp]
      have ei : ((50 : Int32) * p + x).toNatClampNeg = 50 * k + i := by
        rw [ztn, zb_add (by rw [eu, hx]; omega) (by rw [eu, hx]; omega), eu, hx]
        omega
      rw [F_X11_restore_22]
      simp only [zlt, e50]
      rw [if_pos (by omega), r 68, r 48, en, ei, Nat.zero_add]
    · intro n x ρ hx q2 _
      rw [F_X11_restore_22]
      simp only [zlt, e50]
      rw [if_neg (by omega)]
theorem zRL.hold {v1 v2 p : Int32} (h : zRL Q L1 kd1 x0 m0 V ps pc sl rv sh cd σ1 σ2) (hx : zT L1 kd1 x0 10) (hI : zI κ 0 L1 kd1 σ1) (hJ : zJ κ L2 kd2 σ2) (hm : zT L2 kd2 m0 11) (f1 : (v1, τ1) = F_X10_hold x0 p σ1) (f2 : (v2, τ2) = F_X11_hold m0 p σ2) : v1.toInt = v2.toInt ∧ zRL Q L1 kd1 x0 m0 V ps pc sl rv sh cd τ1 τ2 := by
  obtain ⟨hL, hV, N, n, u, ⟨a1, a2, a3, a4, a5, a6, a7, a8, a9⟩, hq, hu, hh⟩ := id h
  have g6 : (σ1.2.2 x0 6).getD 0 = V.1 0 := xnw hL
  have g8 : (σ1.2.2 x0 8).getD 0 = sl := by rw [hL.1.2.2.1]; rfl
  have e0 : (0 : Int32).toInt = 0 := by decide
  have e2 : (2 : Int32).toInt = 2 := by decide
  by_cases c : 0 ≤ p.toInt ∧ p.toInt ≤ 2
  · obtain ⟨k, hk⟩ : ∃ k : Nat, p.toInt = k := ⟨p.toInt.toNat, by omega⟩
    have en : p.toNatClampNeg = k := by rw [ztn, hk]; rfl
    have gs : (σ1.2.2 sl k).getD 0 = V.1 (2 + k) := by rw [hL.2.1 k (by omega)]; rfl
    rw [mHold hJ hm hk (by omega)] at f2
    unfold F_X10_hold at f1
    simp only [zlt, cWithin, e0, e2, g6, g8, en, gs] at f1
    rw [if_neg (fun z => z c)] at f1
    obtain ⟨c1, c2, c3, c4⟩ := zCopy hL (k := 2 + k) (q := 0) (by omega) (by decide)
    have co := zCopyO hL (k := 2 + k) (q := 0) (by omega) (by decide)
    obtain ⟨s, hs⟩ : ∃ s : zS, s = F_X1_copy (V.1 (2 + k)) (V.1 0) σ1 := ⟨_, rfl⟩
    rw [← hs] at f1 c1 c2 c3 c4 co
    have t1 : τ1 = (zu s.1 x0 12 (s.1 x0 12 ||| F_X10_bit p), s.2) := congrArg Prod.snd f1
    have t2 : τ2 = _ := congrArg Prod.snd f2
    have hOm : mR σ2 m0 68 ≠ m0 := mR_m hJ hm (s := 68) (k := 168) (by rfl) (by decide)
    have hEm : mR σ2 m0 67 ≠ m0 := mR_m hJ hm (s := 67) (k := 167) (by rfl) (by decide)
    have er : ∀ s, mR τ2 m0 s = mR σ2 m0 s := fun s => by rw [mR, t2]
    obtain ⟨hL', hV'⟩ := zLR hL hV (τ1 := τ1) (by rw [t1]; exact c1)
    have fm : τ2.1 m0 = σ2.1 m0 := by
      rw [t2]
      show zcf _ _ _ _ _ _ _ m0 = _
      rw [zcf_n (fun z => hOm z.symm), zu_n _ _ _ (fun z => hEm z.symm)]
    have rm : ∀ s, zf 0 11 s = some (100 + s) → s ≠ 67 → s ≠ 68 → τ2.1 (mR σ2 m0 s) = σ2.1 (mR σ2 m0 s) := fun s hs h67 h68 => by
      rw [t2]
      show zcf _ _ _ _ _ _ _ (mR σ2 m0 s) = _
      rw [zcf_n (mR_ne hJ hm hs (s' := 68) (k' := 168) (by rfl) (by omega)), zu_n _ _ _ (mR_ne hJ hm hs (s' := 67) (k' := 167) (by rfl) (by omega))]
    have sx : s.1 x0 = σ1.1 x0 := co x0 hx.1 (by rw [hx.2]; decide)
    have o : ∀ a, a ≠ x0 → τ1.1 a = s.1 a := fun a ha => by rw [t1]; exact zu_n _ _ _ ha
    have oi : ∀ {a k : Nat}, zT L1 kd1 a k → (k = 2 ∨ k = 4 ∨ k = 9) → τ1.1 a = σ1.1 a := fun ha hk => by
      rw [o _ (zNk ha hx (by omega))]
      refine co _ ha.1 (fun z => ?_)
      rw [ha.2] at z
      simp only [List.mem_cons, List.not_mem_nil, or_false] at z
      omega
    have cc : ∀ i, i < 45 → zcc V τ1.1 i = zcc V s.1 i := fun i hi => by
      obtain ⟨⟨tA, tI, tW, tM⟩, -⟩ := hL.2.2.2.1 i hi
      exact zcc.st (o _ (zNk tA hx (by decide))) (o _ (zNk tI hx (by decide))) (o _ (zNk tW hx (by decide))) (o _ (zNk tM hx (by decide)))
    obtain ⟨td, d1, d2⟩ := zi_ref (j := 10) (k2 := 9) hI hx (by rfl)
    obtain ⟨dy, y1, y2⟩ := zi_ref (j := 5) (k2 := 2) hI hx (by rfl)
    have gd : (σ1.2.2 x0 10).getD 0 = td := by rw [d1]; rfl
    have gy : (σ1.2.2 x0 5).getD 0 = dy := by rw [y1]; rfl
    have r2 : τ1.2.2 = σ1.2.2 := by rw [t1]; show s.2.2 = _; rw [c1]
    have tp : zT L1 kd1 ps 4 := hL.2.2.2.2.2.2.1
    refine ⟨by rw [show v1 = 1 from congrArg Prod.fst f1, show v2 = 1 from congrArg Prod.fst f2], hL', hV', N, n, u, ⟨?_, ?_, a3, by rw [oi tp (by omega)]; exact a4, a5, by rw [oi tp (by omega)]; exact a6, a7, by rw [fm]; exact a8, ?_⟩, ?_, fun i hi => ?_, fun i hi => ?_⟩
    · rw [r2, gd, oi d2 (by omega), ← gd]; exact a1
    · rw [← a2]
      unfold zM zp
      rw [fm]
      show (τ2.1 (mR τ2 m0 21) _).toInt = (σ2.1 (mR σ2 m0 21) _).toInt
      rw [er, rm 21 (by rfl) (by decide) (by decide)]
    · rw [r2, gy, oi y2 (by omega), ← gy, fm]; exact a9
    · rw [cc 0 (by decide), c3 0 (by decide) (by omega), er, rC_e (g := σ2.1) (r' := mR σ2 m0 48) (o' := 0) (fun j _ => by rw [rm 48 (by rfl) (by decide) (by decide)])]; exact hq
    · rw [cc _ (by omega), c3 _ (by omega) (by omega), er, rC_e (g := σ2.1) (r' := mR σ2 m0 58) (o' := 50 * (u - 1 - i)) (fun j _ => by rw [rm 58 (by rfl) (by decide) (by decide)])]; exact hu i hi
    · have e12 : τ1.1 x0 12 = σ1.1 x0 12 ||| F_X10_bit p := by rw [t1]; show zu s.1 x0 12 _ x0 12 = _; rw [zu_s, sx]
      have h67 : τ2.1 (mR σ2 m0 67) i = if i = k then 1 else σ2.1 (mR σ2 m0 67) i := by
        rw [t2]
        show zcf _ _ _ _ _ _ _ (mR σ2 m0 67) i = _
        rw [zcf_n (mR_ne hJ hm (s := 67) (s' := 68) (k := 167) (k' := 168) (by rfl) (by rfl) (by decide)), zu_a]
      have b12 : bt (τ1.1 x0 12) i = (bt (σ1.1 x0 12) i || decide (i = k)) := by rw [e12, b_or, bt_bit hk (by omega) (by omega)]
      rw [er, er, h67, b12]
      by_cases e : i = k
      · subst e
        refine Or.inl ⟨by simp, if_pos rfl, ?_⟩
        rw [cc _ (by omega), c2, rC_e (g := σ2.1) (r' := mR σ2 m0 48) (o' := 0) (fun j hj => ?_)]
        · exact hq
        · rw [t2]
          show zcf _ _ _ _ _ _ _ (mR σ2 m0 68) (50 * i + j) = _
          rw [zcf_i ⟨by omega, by omega⟩, zu_n _ _ _ (mR_ne hJ hm (s := 48) (s' := 67) (k := 148) (k' := 167) (by rfl) (by rfl) (by decide))]
          exact congrArg _ (by omega)
      · rw [if_neg e, cc _ (by omega), c3 _ (by omega) (by omega), rC_e (g := σ2.1) (r' := mR σ2 m0 68) (o' := 50 * i) (fun j hj => ?_)]
        · have q := hh i hi
          simp only [e, decide_false, Bool.or_false]
          exact q
        · rw [t2]
          show zcf _ _ _ _ _ _ _ (mR σ2 m0 68) (50 * i + j) = _
          rw [zcf_o (by omega), zu_n _ _ _ (mR_ne hJ hm (s := 68) (s' := 67) (k := 168) (k' := 167) (by rfl) (by rfl) (by decide))]
  · unfold F_X10_hold at f1
    unfold F_X11_hold at f2
    simp only [zlt, cWithin, mIn, e0, e2] at f1 f2
    rw [if_pos c] at f1 f2
    cases f1
    cases f2
    exact ⟨rfl, h⟩
theorem zRL.restore {v1 v2 p : Int32} (h : zRL Q L1 kd1 x0 m0 V ps pc sl rv sh cd σ1 σ2) (hx : zT L1 kd1 x0 10) (hI : zI κ 0 L1 kd1 σ1) (hJ : zJ κ L2 kd2 σ2) (hm : zT L2 kd2 m0 11) (f1 : (v1, τ1) = F_X10_restore x0 p σ1) (f2 : (v2, τ2) = F_X11_restore m0 p σ2) : v1.toInt = v2.toInt ∧ zRL Q L1 kd1 x0 m0 V ps pc sl rv sh cd τ1 τ2 := by
  obtain ⟨hL, hV, N, n, u, ⟨a1, a2, a3, a4, a5, a6, a7, a8, a9⟩, hq, hu, hh⟩ := id h
  have g6 : (σ1.2.2 x0 6).getD 0 = V.1 0 := xnw hL
  have g8 : (σ1.2.2 x0 8).getD 0 = sl := by rw [hL.1.2.2.1]; rfl
  have g4 : (σ1.2.2 x0 4).getD 0 = ps := by rw [hL.1.2.2.2.1]; rfl
  have e0 : (0 : Int32).toInt = 0 := by decide
  have e2 : (2 : Int32).toInt = 2 := by decide
  by_cases c : 0 ≤ p.toInt ∧ p.toInt ≤ 2
  · obtain ⟨k, hk⟩ : ∃ k : Nat, p.toInt = k := ⟨p.toInt.toNat, by omega⟩
    have en : p.toNatClampNeg = k := by rw [ztn, hk]; rfl
    have gs : (σ1.2.2 sl k).getD 0 = V.1 (2 + k) := by rw [hL.2.1 k (by omega)]; rfl
    have hb := cHas (x := σ1.1 x0 12) hk (by omega)
    rw [mRest hJ hm hk (by omega)] at f2
    unfold F_X10_restore at f1
    simp only [zlt, cWithin, e0, e2, g6, g8, en, gs] at f1
    rw [if_neg (fun z => z c), hb] at f1
    rcases hh k (by omega) with ⟨z1, z2, z3⟩ | ⟨z1, z2⟩
    · rw [if_neg (by rw [if_pos z1]; decide)] at f1
      rw [if_neg (by rw [z2]; decide)] at f2
      obtain ⟨c1, c2, c3, c4⟩ := zCopy hL (k := 0) (q := 2 + k) (by decide) (by omega)
      have co := zCopyO hL (k := 0) (q := 2 + k) (by decide) (by omega)
      obtain ⟨s, hs⟩ : ∃ s : zS, s = F_X1_copy (V.1 0) (V.1 (2 + k)) σ1 := ⟨_, rfl⟩
      rw [← hs] at f1 c1 c2 c3 c4 co
      have gs4 : (s.2.2 x0 4).getD 0 = ps := by rw [show s.2.2 = σ1.2.2 by rw [c1]]; exact g4
      rw [gs4] at f1
      have t1 : τ1 = (zu s.1 ps 2 0, s.2) := congrArg Prod.snd f1
      have t2 : τ2 = _ := congrArg Prod.snd f2
      have hNm : mR σ2 m0 48 ≠ m0 := mR_m hJ hm (s := 48) (k := 148) (by rfl) (by decide)
      have er : ∀ s, mR τ2 m0 s = mR σ2 m0 s := fun s => by rw [mR, t2]
      obtain ⟨hL', hV'⟩ := zLR hL hV (τ1 := τ1) (by rw [t1]; exact c1)
      have fm : ∀ j, j ≠ 57 → τ2.1 m0 j = σ2.1 m0 j := fun j hj => by
        rw [t2]
        show zu (zcf _ _ _ _ _ _ _) m0 57 0 m0 j = _
        rw [zu_j _ _ _ _ _ (fun z => hj z.symm), zcf_n (fun z => hNm z.symm)]
      have rm : ∀ s, zf 0 11 s = some (100 + s) → s ≠ 48 → τ2.1 (mR σ2 m0 s) = σ2.1 (mR σ2 m0 s) := fun s hs h48 => by
        rw [t2]
        show zu (zcf _ _ _ _ _ _ _) m0 57 0 (mR σ2 m0 s) = _
        rw [zu_n _ _ _ (mR_m hJ hm hs (by omega)), zcf_n (mR_ne hJ hm hs (s' := 48) (k' := 148) (by rfl) (by omega))]
      have tp : zT L1 kd1 ps 4 := hL.2.2.2.2.2.2.1
      have o : ∀ a, a ≠ ps → τ1.1 a = s.1 a := fun a ha => by rw [t1]; exact zu_n _ _ _ ha
      have oi : ∀ {a k : Nat}, zT L1 kd1 a k → (k = 2 ∨ k = 9 ∨ k = 10) → τ1.1 a = σ1.1 a := fun ha hk => by
        rw [o _ (zNk ha tp (by omega))]
        refine co _ ha.1 (fun z => ?_)
        rw [ha.2] at z
        simp only [List.mem_cons, List.not_mem_nil, or_false] at z
        omega
      have cc : ∀ i, i < 45 → zcc V τ1.1 i = zcc V s.1 i := fun i hi => by
        obtain ⟨⟨tA, tI, tW, tM⟩, -⟩ := hL.2.2.2.1 i hi
        exact zcc.st (o _ (zNk tA tp (by decide))) (o _ (zNk tI tp (by decide))) (o _ (zNk tW tp (by decide))) (o _ (zNk tM tp (by decide)))
      obtain ⟨td, d1, d2⟩ := zi_ref (j := 10) (k2 := 9) hI hx (by rfl)
      obtain ⟨dy, y1, y2⟩ := zi_ref (j := 5) (k2 := 2) hI hx (by rfl)
      have gd : (σ1.2.2 x0 10).getD 0 = td := by rw [d1]; rfl
      have gy : (σ1.2.2 x0 5).getD 0 = dy := by rw [y1]; rfl
      have r2 : τ1.2.2 = σ1.2.2 := by rw [t1]; show s.2.2 = _; rw [c1]
      have sp : s.1 ps = σ1.1 ps := co ps tp.1 (by rw [tp.2]; decide)
      refine ⟨by rw [show v1 = 1 from congrArg Prod.fst f1, show v2 = 1 from congrArg Prod.fst f2], hL', hV', N, n, 0, ⟨?_, ?_, a3, ?_, a5, ?_, by omega, ?_, ?_⟩, ?_, fun i hi => absurd hi (by omega), fun i hi => ?_⟩
      · rw [r2, gd, oi d2 (by omega), ← gd]; exact a1
      · rw [← a2]
        unfold zM zp
        rw [fm 18 (by decide)]
        show (τ2.1 (mR τ2 m0 21) _).toInt = (σ2.1 (mR σ2 m0 21) _).toInt
        rw [er, rm 21 (by rfl) (by decide)]
      · rw [t1]
        show (zu s.1 ps 2 0 ps 1).toInt = _
        rw [zu_j _ _ _ _ _ (by decide), sp]; exact a4
      · rw [t1]
        show (zu s.1 ps 2 0 ps 2).toInt = _
        rw [zu_s]; exact e0
      · rw [t2]
        show (zu (zcf _ _ _ _ _ _ _) m0 57 0 m0 57 : Int32).toInt = _
        rw [zu_s]; exact e0
      · rw [r2, gy, oi y2 (by omega), ← gy, fm 62 (by decide)]; exact a9
      · rw [cc 0 (by decide), c2, er, rC_e (g := σ2.1) (r' := mR σ2 m0 68) (o' := 50 * k) (fun j hj => ?_)]
        · exact z3
        · rw [t2]
          show zu (zcf _ _ _ _ _ _ _) m0 57 0 (mR σ2 m0 48) (0 + j) = _
          rw [zu_n _ _ _ hNm, zcf_i ⟨by omega, by omega⟩]
          exact congrArg _ (by omega)
      · rw [oi hx (by omega), cc _ (by omega), c3 _ (by omega) (by omega), er, er, rm 67 (by rfl) (by decide), rC_e (g := σ2.1) (r' := mR σ2 m0 68) (o' := 50 * i) (fun j _ => by rw [rm 68 (by rfl) (by decide)])]
        exact hh i hi
    · rw [if_pos (by rw [if_neg (fun w => by rw [z1] at w; cases w)])] at f1
      rw [if_pos (by rw [z2]; decide)] at f2
      cases f1
      cases f2
      exact ⟨rfl, h⟩
  · unfold F_X10_restore at f1
    unfold F_X11_restore at f2
    simp only [zlt, cWithin, mIn, e0, e2] at f1 f2
    rw [if_pos c] at f1 f2
    cases f1
    cases f2
    exact ⟨rfl, h⟩
end ZREL6
