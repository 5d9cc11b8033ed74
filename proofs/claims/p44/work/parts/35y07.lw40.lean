/-! ANSWERS OF NOW: spot -/
theorem ix12 {x p : Int32} {B P : Nat} (hx : x.toInt = B) (hB : B ≤ 1) (hp : p.toInt = P) (hP : P < 12) : ((12 : Int32) * x + p).toNatClampNeg = 12 * B + P := by
  have e0 : (0 : Int32).toInt = 0 := by decide
  have e1 : (1 : Int32).toInt = 1 := by decide
  have e12 : ((12 : Int32) * 1).toInt = 12 := by decide
  have e00 : ((12 : Int32) * 0).toInt = 0 := by decide
  rcases (show B = 0 ∨ B = 1 by omega) with rfl | rfl
  · rw [show x = 0 from Int32.toInt_inj.mp (by omega), ztn, zb_add (by omega) (by omega), e00, hp]
    omega
  · rw [show x = 1 from Int32.toInt_inj.mp (by omega), ztn, zb_add (by omega) (by omega), e12, hp]
    omega
theorem ixN {m p : Int32} {M P : Nat} (hm : m.toInt = M) (hM : M < 1000) (hp : p.toInt = P) (hP : P < 12) : (m + p).toNatClampNeg = M + P := by
  rw [ztn, zb_add (by omega) (by omega), hm, hp]
  omega
section SPOT
variable {κ : Int} {L1 : List Nat} {kd1 : Nat → Nat} {L2 : List Nat} {kd2 : Nat → Nat} {σ1 σ2 τ1 τ2 s t : zS} {m0 x0 : Nat} {V : zWh} {ps pc sl rv sh cd B N : Nat} {q Y : Nat → Nat} {gl : zGl} {u l : Nat → Nat} {v1 v2 p k : Int32}
set_option maxHeartbeats 1000000 in
theorem zRL.spot (h : zRL zQw L1 kd1 x0 m0 V ps pc sl rv sh cd σ1 σ2) (hw : 0 < zM m0 σ2 → zLw x0 m0 σ1 σ2) (hl : zLen x0 m0 σ1 σ2) (hx : zT L1 kd1 x0 10) (hI : zI κ 0 L1 kd1 σ1) (hJ : zJ κ L2 kd2 σ2) (hm : zT L2 kd2 m0 11) (hg : gN m0 σ2) (f1 : (v1, τ1) = F_X10_spot x0 p k σ1) (f2 : (v2, τ2) = F_X11_spot m0 p k σ2) : v1.toInt = v2.toInt := by
  obtain ⟨td, B, N, gl, u, l, q, Y, d1, n2, eL, xr, ⟨hq, hY⟩, ⟨S, Dn, FL, RN⟩, -, -⟩ := h.now hw hl hx hI hJ hm hg
  have hV := h.2.1
  have hL := h.1
  obtain ⟨-, -, N', -, -, ⟨n3, n4, n5, -⟩, hQ, -⟩ := id h
  obtain rfl : N' = N := by omega
  have g10 : (σ1.2.2 x0 10).getD 0 = td := by rw [d1]; rfl
  have g3 : (σ1.2.2 x0 3).getD 0 = sh := by rw [hV.1.2.1]; rfl
  have g6 : (σ1.2.2 x0 6).getD 0 = V.1 0 := by rw [hL.1.1]; rfl
  rw [g10] at n3
  have q0 : q 0 = rv := by rw [hq]; rfl
  have q1 : q 1 = sh := by rw [hq]; rfl
  have q3 : q 3 = td := by rw [hq]; rfl
  have q4 : q 4 = V.1 0 := by rw [hq]; rfl
  have e0 : (0 : Int32).toInt = 0 := by decide
  have o1 : (1 : Int32).toInt = 1 := by decide
  have o12 : (12 : Int32).toInt = 12 := by decide
  have o24 : (24 : Int32).toInt = 24 := by decide
  have o36 : (36 : Int32).toInt = 36 := by decide
  have E := S.eq Dn
  have cc0 : (F_X10_look x0 σ1).1 (V.1 0) 3 = σ1.1 (V.1 0) 3 := by
    have := congrArg (fun c : zCo => c.2.2.2.1) ((zLookN hL hV).cc hL (k := 0) (by decide) (by decide))
    exact this
  have row := (zCopies2 hJ hm).2.1
  obtain ⟨s, hs⟩ : ∃ s, s = F_X10_look x0 σ1 := ⟨_, rfl⟩
  obtain ⟨t, ht⟩ : ∃ t, t = F_X11_copies m0 σ2 := ⟨_, rfl⟩
  rw [← hs] at S Dn FL RN E cc0 xr
  rw [← ht] at S Dn FL E row
  unfold F_X10_spot at f1
  unfold F_X11_spot at f2
  simp only [zlt, zlt2, cPlace, mPlc, cWithin, mIn, e0, o12, g10, mMany, n2, ← hs, ← ht] at f1 f2
  obtain ⟨⟨z0, z1, z5, z6, z2, z3, z4⟩, ⟨z8, z9⟩, ⟨z10, z11, z12, z13, z14, z15⟩, ⟨z16, z17, z18⟩, z19, z20, z21⟩ := id S.1.1.1
  rw [q0] at z2 z3
  rw [q1] at z17 z18
  rw [q3] at z10 z11 z12
  rw [q4] at z19 z20 z21
  have yy : ∀ j, zYj j → (t.2.2 m0 j).getD 0 = Y j := fun j hj => (S.2.1.1.1 j hj).1
  have b18 := S.2.1.2.1
  have hB := S.2.1.2.2.1
  have xN : (σ1.1 td 0 - (1 : Int32)).toInt = (N' : Int) - 1 := by rw [zb_sub (by rw [o1]; omega) (by rw [o1]; omega), o1, n3]
  have xM : (F_X11_many m0 σ2 - (1 : Int32)).toInt = (N' : Int) - 1 := by
    have : (F_X11_many m0 σ2).toInt = N' := by rw [mMany]; exact n2
    rw [zb_sub (by rw [o1]; omega) (by rw [o1]; omega), o1, this]
  rw [xN] at f1
  rw [xM] at f2
  by_cases c : 0 ≤ p.toInt ∧ p.toInt ≤ (N' : Int) - 1
  · rw [if_neg (fun z => z c)] at f1 f2
    obtain ⟨P, hp⟩ : ∃ P : Nat, p.toInt = P := ⟨p.toInt.toNat, by omega⟩
    have hP : P < N' := by omega
    have nP : p.toNatClampNeg = P := by rw [ztn, hp]; rfl
    obtain ⟨y1, y2, y3, y4, y5⟩ := S.2.2.1 P hP
    obtain ⟨y6, y7, -, -⟩ := Dn.1 P hP
    have rc : ∀ j, j < 50 → rC σ2.1 (mR σ2 m0 48) 0 j = t.1 (Y 49) j := fun j hj => by rw [hY, row j hj, rC_i hj, Nat.zero_add]
    by_cases c0 : k.toInt < 0
    · rw [if_pos c0] at f1
      rw [if_neg (show ¬ k.toInt = 0 by omega), if_neg (show ¬ k.toInt = 1 by omega), if_neg (show ¬ k.toInt = 2 by omega), if_neg (show ¬ k.toInt = 3 by omega), if_neg (show ¬ k.toInt = 4 by omega), if_neg (show ¬ k.toInt = 5 by omega), if_neg (show ¬ k.toInt = 6 by omega), if_neg (show ¬ k.toInt = 7 by omega), if_neg (show ¬ k.toInt = 8 by omega), if_neg (show ¬ k.toInt = 9 by omega), if_neg (show ¬ k.toInt = 10 by omega), if_neg (show ¬ k.toInt = 11 by omega), if_neg (show ¬ k.toInt = 12 by omega)] at f2
      rw [(zPr2 f1).1, (zPr2 f2).1]
    · rw [if_neg c0] at f1
      by_cases c12 : 12 < k.toInt
      · rw [if_pos c12] at f1
        rw [if_neg (show ¬ k.toInt = 0 by omega), if_neg (show ¬ k.toInt = 1 by omega), if_neg (show ¬ k.toInt = 2 by omega), if_neg (show ¬ k.toInt = 3 by omega), if_neg (show ¬ k.toInt = 4 by omega), if_neg (show ¬ k.toInt = 5 by omega), if_neg (show ¬ k.toInt = 6 by omega), if_neg (show ¬ k.toInt = 7 by omega), if_neg (show ¬ k.toInt = 8 by omega), if_neg (show ¬ k.toInt = 9 by omega), if_neg (show ¬ k.toInt = 10 by omega), if_neg (show ¬ k.toInt = 11 by omega), if_neg (show ¬ k.toInt = 12 by omega)] at f2
        rw [(zPr2 f1).1, (zPr2 f2).1]
      · rw [if_neg c12] at f1
        rcases (show k.toInt = 0 ∨ k.toInt = 1 ∨ k.toInt = 2 ∨ k.toInt = 3 ∨ k.toInt = 4 ∨ k.toInt = 5 ∨ k.toInt = 6 ∨ k.toInt = 7 ∨ k.toInt = 8 ∨ k.toInt = 9 ∨ k.toInt = 10 ∨ k.toInt = 11 ∨ k.toInt = 12 by omega) with z | z | z | z | z | z | z | z | z | z | z | z | z
        · rw [if_pos z] at f1
          rw [if_pos z] at f2
          by_cases cp : P = 0
          · rw [if_pos (show p.toInt = 0 by omega)] at f1
            rw [(zPr2 f1).1, (zPr2 f2).1, yy 49 (by unfold zYj; omega), nP, cp, ← rc 0 (by decide), (hQ.2.2 (by omega)).2.2]
          · rw [if_neg (show ¬ p.toInt = 0 by omega)] at f1
            rw [(zPr2 f1).1, (zPr2 f2).1, yy 49 (by unfold zYj; omega), nP, xr, g6, z19, S.1.2.2.2.2.2.1 P (by omega) hP, S.2.1.2.2.2.2.2.1 P (by omega) hP]
        · rw [if_neg (show ¬ k.toInt = 0 by omega), if_pos z] at f1
          rw [if_neg (show ¬ k.toInt = 0 by omega), if_pos z] at f2
          rw [(zPr2 f1).1, (zPr2 f2).1, yy 23 (by unfold zYj; omega), nP, xr, g10, z10, y4, ix12 b18 hB hp (by omega)]
        · rw [if_neg (show ¬ k.toInt = 0 by omega), if_neg (show ¬ k.toInt = 1 by omega), if_pos z] at f1
          rw [if_neg (show ¬ k.toInt = 0 by omega), if_neg (show ¬ k.toInt = 1 by omega), if_pos z] at f2
          rw [(zPr2 f1).1, (zPr2 f2).1, yy 24 (by unfold zYj; omega), nP, xr, g10, z11, y1, ix12 b18 hB hp (by omega)]
        · rw [if_neg (show ¬ k.toInt = 0 by omega), if_neg (show ¬ k.toInt = 1 by omega), if_neg (show ¬ k.toInt = 2 by omega), if_pos z] at f1
          rw [if_neg (show ¬ k.toInt = 0 by omega), if_neg (show ¬ k.toInt = 1 by omega), if_neg (show ¬ k.toInt = 2 by omega), if_pos z] at f2
          rw [(zPr2 f1).1, (zPr2 f2).1, yy 25 (by unfold zYj; omega), nP, xr, g10, z12, y3, ix12 b18 hB hp (by omega)]
        · rw [if_neg (show ¬ k.toInt = 0 by omega), if_neg (show ¬ k.toInt = 1 by omega), if_neg (show ¬ k.toInt = 2 by omega), if_neg (show ¬ k.toInt = 3 by omega), if_pos z] at f1
          rw [if_neg (show ¬ k.toInt = 0 by omega), if_neg (show ¬ k.toInt = 1 by omega), if_neg (show ¬ k.toInt = 2 by omega), if_neg (show ¬ k.toInt = 3 by omega), if_pos z] at f2
          have hd : (bt (σ1.1 (V.1 0) 3) P = true ∧ t.1 (Y 49) (12 + P) = 1) ∨ (bt (σ1.1 (V.1 0) 3) P = false ∧ t.1 (Y 49) (12 + P) = 0) := by
            rw [← rc (12 + P) (by omega)]
            by_cases cp : P = 0
            · rw [cp]
              exact Or.inr ⟨(hQ.2.2 (by omega)).1.1, (hQ.2.2 (by omega)).1.2⟩
            · exact hQ.1.2.1 P (by omega) hP
          rw [(zPr2 f2).1, yy 49 (by unfold zYj; omega), ixN o12 (by decide) hp (by omega)]
          simp only [xr, g6, cc0, cHas hp (show P < 32 by omega)] at f1
          rcases hd with ⟨d1, d2⟩ | ⟨d1, d2⟩
          · rw [if_pos d1, if_neg (by decide)] at f1
            rw [(zPr2 f1).1, d2]
          · rw [d1, if_neg (show ¬ false = true by decide), if_pos rfl] at f1
            rw [(zPr2 f1).1, d2]
        · rw [if_neg (show ¬ k.toInt = 0 by omega), if_neg (show ¬ k.toInt = 1 by omega), if_neg (show ¬ k.toInt = 2 by omega), if_neg (show ¬ k.toInt = 3 by omega), if_neg (show ¬ k.toInt = 4 by omega), if_pos z] at f1
          rw [if_neg (show ¬ k.toInt = 0 by omega), if_neg (show ¬ k.toInt = 1 by omega), if_neg (show ¬ k.toInt = 2 by omega), if_neg (show ¬ k.toInt = 3 by omega), if_neg (show ¬ k.toInt = 4 by omega), if_pos z] at f2
          rw [(zPr2 f1).1, (zPr2 f2).1, yy 55 (by unfold zYj; omega), nP, xr, xrv hV, z3, (FL P hP).1]
        · rw [if_neg (show ¬ k.toInt = 0 by omega), if_neg (show ¬ k.toInt = 1 by omega), if_neg (show ¬ k.toInt = 2 by omega), if_neg (show ¬ k.toInt = 3 by omega), if_neg (show ¬ k.toInt = 4 by omega), if_neg (show ¬ k.toInt = 5 by omega), if_pos z] at f1
          rw [if_neg (show ¬ k.toInt = 0 by omega), if_neg (show ¬ k.toInt = 1 by omega), if_neg (show ¬ k.toInt = 2 by omega), if_neg (show ¬ k.toInt = 3 by omega), if_neg (show ¬ k.toInt = 4 by omega), if_neg (show ¬ k.toInt = 5 by omega), if_pos z] at f2
          rw [(zPr2 f1).1, (zPr2 f2).1, yy 52 (by unfold zYj; omega), nP, xr, g3, z17, y2]
        · rw [if_neg (show ¬ k.toInt = 0 by omega), if_neg (show ¬ k.toInt = 1 by omega), if_neg (show ¬ k.toInt = 2 by omega), if_neg (show ¬ k.toInt = 3 by omega), if_neg (show ¬ k.toInt = 4 by omega), if_neg (show ¬ k.toInt = 5 by omega), if_neg (show ¬ k.toInt = 6 by omega), if_pos z] at f1
          rw [if_neg (show ¬ k.toInt = 0 by omega), if_neg (show ¬ k.toInt = 1 by omega), if_neg (show ¬ k.toInt = 2 by omega), if_neg (show ¬ k.toInt = 3 by omega), if_neg (show ¬ k.toInt = 4 by omega), if_neg (show ¬ k.toInt = 5 by omega), if_neg (show ¬ k.toInt = 6 by omega), if_pos z] at f2
          rw [(zPr2 f1).1, (zPr2 f2).1, yy 54 (by unfold zYj; omega), nP, xr, g3, z18, y5]
        · rw [if_neg (show ¬ k.toInt = 0 by omega), if_neg (show ¬ k.toInt = 1 by omega), if_neg (show ¬ k.toInt = 2 by omega), if_neg (show ¬ k.toInt = 3 by omega), if_neg (show ¬ k.toInt = 4 by omega), if_neg (show ¬ k.toInt = 5 by omega), if_neg (show ¬ k.toInt = 6 by omega), if_neg (show ¬ k.toInt = 7 by omega), if_pos z] at f1
          rw [if_neg (show ¬ k.toInt = 0 by omega), if_neg (show ¬ k.toInt = 1 by omega), if_neg (show ¬ k.toInt = 2 by omega), if_neg (show ¬ k.toInt = 3 by omega), if_neg (show ¬ k.toInt = 4 by omega), if_neg (show ¬ k.toInt = 5 by omega), if_neg (show ¬ k.toInt = 6 by omega), if_neg (show ¬ k.toInt = 7 by omega), if_pos z] at f2
          have a8 := S.1.2.2.2.2.2.2.2 p
          rw [q1] at a8
          have b8 := S.2.1.2.2.2.2.2.2.2 p
          simp only [xr, g3] at f1
          by_cases cs : 0 ≤ p.toInt ∧ Src N' u p.toInt.toNat
          · rw [if_neg (fun w => a8.mp w cs)] at f1
            rw [if_neg (fun w => b8.mp w cs)] at f2
            rw [(zPr2 f1).1, (zPr2 f2).1]
          · rw [if_pos (a8.mpr cs)] at f1
            rw [if_pos (b8.mpr cs)] at f2
            rw [(zPr2 f1).1, (zPr2 f2).1]
        · rw [if_neg (show ¬ k.toInt = 0 by omega), if_neg (show ¬ k.toInt = 1 by omega), if_neg (show ¬ k.toInt = 2 by omega), if_neg (show ¬ k.toInt = 3 by omega), if_neg (show ¬ k.toInt = 4 by omega), if_neg (show ¬ k.toInt = 5 by omega), if_neg (show ¬ k.toInt = 6 by omega), if_neg (show ¬ k.toInt = 7 by omega), if_neg (show ¬ k.toInt = 8 by omega), if_pos z] at f1
          rw [if_neg (show ¬ k.toInt = 0 by omega), if_neg (show ¬ k.toInt = 1 by omega), if_neg (show ¬ k.toInt = 2 by omega), if_neg (show ¬ k.toInt = 3 by omega), if_neg (show ¬ k.toInt = 4 by omega), if_neg (show ¬ k.toInt = 5 by omega), if_neg (show ¬ k.toInt = 6 by omega), if_neg (show ¬ k.toInt = 7 by omega), if_neg (show ¬ k.toInt = 8 by omega), if_pos z] at f2
          rw [(zPr2 f1).1, (zPr2 f2).1, yy 49 (by unfold zYj; omega), nP, xr, g6, z20, y6, ixN o24 (by decide) hp (by omega)]
        · rw [if_neg (show ¬ k.toInt = 0 by omega), if_neg (show ¬ k.toInt = 1 by omega), if_neg (show ¬ k.toInt = 2 by omega), if_neg (show ¬ k.toInt = 3 by omega), if_neg (show ¬ k.toInt = 4 by omega), if_neg (show ¬ k.toInt = 5 by omega), if_neg (show ¬ k.toInt = 6 by omega), if_neg (show ¬ k.toInt = 7 by omega), if_neg (show ¬ k.toInt = 8 by omega), if_neg (show ¬ k.toInt = 9 by omega), if_pos z] at f1
          rw [if_neg (show ¬ k.toInt = 0 by omega), if_neg (show ¬ k.toInt = 1 by omega), if_neg (show ¬ k.toInt = 2 by omega), if_neg (show ¬ k.toInt = 3 by omega), if_neg (show ¬ k.toInt = 4 by omega), if_neg (show ¬ k.toInt = 5 by omega), if_neg (show ¬ k.toInt = 6 by omega), if_neg (show ¬ k.toInt = 7 by omega), if_neg (show ¬ k.toInt = 8 by omega), if_neg (show ¬ k.toInt = 9 by omega), if_pos z] at f2
          rw [(zPr2 f1).1, (zPr2 f2).1, yy 49 (by unfold zYj; omega), nP, xr, g6, z21, y7, ixN o36 (by decide) hp (by omega)]
        · rw [if_neg (show ¬ k.toInt = 0 by omega), if_neg (show ¬ k.toInt = 1 by omega), if_neg (show ¬ k.toInt = 2 by omega), if_neg (show ¬ k.toInt = 3 by omega), if_neg (show ¬ k.toInt = 4 by omega), if_neg (show ¬ k.toInt = 5 by omega), if_neg (show ¬ k.toInt = 6 by omega), if_neg (show ¬ k.toInt = 7 by omega), if_neg (show ¬ k.toInt = 8 by omega), if_neg (show ¬ k.toInt = 9 by omega), if_neg (show ¬ k.toInt = 10 by omega), if_pos z] at f1
          rw [if_neg (show ¬ k.toInt = 0 by omega), if_neg (show ¬ k.toInt = 1 by omega), if_neg (show ¬ k.toInt = 2 by omega), if_neg (show ¬ k.toInt = 3 by omega), if_neg (show ¬ k.toInt = 4 by omega), if_neg (show ¬ k.toInt = 5 by omega), if_neg (show ¬ k.toInt = 6 by omega), if_neg (show ¬ k.toInt = 7 by omega), if_neg (show ¬ k.toInt = 8 by omega), if_neg (show ¬ k.toInt = 9 by omega), if_neg (show ¬ k.toInt = 10 by omega), if_pos z] at f2
          obtain ⟨y, r1, -⟩ := mRainW S.2.1.1 b18 hB (S.2.1.2.2.2.1 (by omega)) zFr.id hp (by omega)
          rw [r1] at f2
          rw [(zPr2 f1).1, (zPr2 f2).1, nP, xr, xrv hV, z2, RN P hP, rEq E hP]
          unfold rMl
          rw [Int32.add_zero]
        · rw [if_neg (show ¬ k.toInt = 0 by omega), if_neg (show ¬ k.toInt = 1 by omega), if_neg (show ¬ k.toInt = 2 by omega), if_neg (show ¬ k.toInt = 3 by omega), if_neg (show ¬ k.toInt = 4 by omega), if_neg (show ¬ k.toInt = 5 by omega), if_neg (show ¬ k.toInt = 6 by omega), if_neg (show ¬ k.toInt = 7 by omega), if_neg (show ¬ k.toInt = 8 by omega), if_neg (show ¬ k.toInt = 9 by omega), if_neg (show ¬ k.toInt = 10 by omega), if_neg (show ¬ k.toInt = 11 by omega)] at f1
          rw [if_neg (show ¬ k.toInt = 0 by omega), if_neg (show ¬ k.toInt = 1 by omega), if_neg (show ¬ k.toInt = 2 by omega), if_neg (show ¬ k.toInt = 3 by omega), if_neg (show ¬ k.toInt = 4 by omega), if_neg (show ¬ k.toInt = 5 by omega), if_neg (show ¬ k.toInt = 6 by omega), if_neg (show ¬ k.toInt = 7 by omega), if_neg (show ¬ k.toInt = 8 by omega), if_neg (show ¬ k.toInt = 9 by omega), if_neg (show ¬ k.toInt = 10 by omega), if_neg (show ¬ k.toInt = 11 by omega), if_pos z] at f2
          obtain ⟨y, r1, -⟩ := mDriesW S.2.1.1 b18 hB (S.2.1.2.2.2.1 (by omega)) zFr.id hp (by omega)
          obtain ⟨x, r2, -⟩ := cDried S.1.1 (S.1.2.1 (by omega)) zFr.id hp
          rw [q0] at r2
          rw [r1] at f2
          simp only [xr, xrv hV, r2] at f1
          rw [(zPr2 f1).1, (zPr2 f2).1, (FL P hP).1, drEq E hP (by rw [← (FL P hP).1]; exact (FL P hP).2)]
  · rw [if_pos c] at f1 f2
    rw [(zPr2 f1).1, (zPr2 f2).1]
end SPOT
