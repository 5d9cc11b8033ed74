-- 35y07.lw40
section
/-! ANSWERS OF NOW: spot -/
theorem ix12 {x p : Int32} {B P : Nat} (hx : x.toInt = B) (hB : B ≤ 1) (hp : p.toInt = P) (hP : P < 12) : ((12 : Int32) * x + p).toNatClampNeg = 12 * B + P := by
  have e0 : (0 : Int32).toInt = 0 := by decide
  have e1 : (1 : Int32).toInt = 1 := by decide
  have e12 : ((12 : Int32) * 1).toInt = 12 := by decide
  have e00 : ((12 : Int32) * 0).toInt = 0 := by decide
  rcases (show B = 0 ∨ B = 1 by omega) with rfl | rfl
  · rw [show x = 0 from Int32.toInt_inj.mp (by omega), ztn, zb_add (by omega) (by omega), e00, hp]
    omega
  · rw [show x = 1 from Int32.toInt_inj.mp (by omega), ztn, zb_add (by omega) (by omega), e12, hp]
    omega
theorem ixN {m p : Int32} {M P : Nat} (hm : m.toInt = M) (hM : M < 1000) (hp : p.toInt = P) (hP : P < 12) : (m + p).toNatClampNeg = M + P := by
  rw [ztn, zb_add (by omega) (by omega), hm, hp]
  omega
section SPOT
variable {κ : Int} {L1 : List Nat} {kd1 : Nat → Nat} {L2 : List Nat} {kd2 : Nat → Nat} {σ1 σ2 τ1 τ2 s t : zS} {m0 x0 : Nat} {V : zWh} {ps pc sl rv sh cd B N : Nat} {q Y : Nat → Nat} {gl : zGl} {u l : Nat → Nat} {v1 v2 p k : Int32}
set_option maxHeartbeats 1000000 in
theorem zRL.spot (h : zRL zQw L1 kd1 x0 m0 V ps pc sl rv sh cd σ1 σ2) (hw : 0 < zM m0 σ2 → zLw x0 m0 σ1 σ2) (hl : zLen x0 m0 σ1 σ2) (hx : zT L1 kd1 x0 10) (hI : zI κ 0 L1 kd1 σ1) (hJ : zJ κ L2 kd2 σ2) (hm : zT L2 kd2 m0 11) (hg : gN m0 σ2) (f1 : (v1, τ1) = F_X10_spot x0 p k σ1) (f2 : (v2, τ2) = F_X11_spot m0 p k σ2) : v1.toInt = v2.toInt := by
  obtain ⟨td, B, N, gl, u, l, q, Y, d1, n2, eL, xr, ⟨hq, hY⟩, ⟨S, Dn, FL, RN⟩, -, -⟩ := h.now hw hl hx hI hJ hm hg
  have hV := h.2.1
  have hL := h.1
  obtain ⟨-, -, N', -, -, ⟨n3, n4, n5, -⟩, hQ, -⟩ := id h
  obtain rfl : N' = N := by omega
  have g10 : (σ1.2.2 x0 10).getD 0 = td := by rw [d1]; rfl
  have g3 : (σ1.2.2 x0 3).getD 0 = sh := by rw [hV.1.2.1]; rfl
  have g6 : (σ1.2.2 x0 6).getD 0 = V.1 0 := by rw [hL.1.1]; rfl
  rw [g10] at n3
  have q0 : q 0 = rv := by rw [hq]; rfl
  have q1 : q 1 = sh := by rw [hq]; rfl
  have q3 : q 3 = td := by rw [hq]; rfl
  have q4 : q 4 = V.1 0 := by rw [hq]; rfl
  have e0 : (0 : Int32).toInt = 0 := by decide
  have o1 : (1 : Int32).toInt = 1 := by decide
  have o12 : (12 : Int32).toInt = 12 := by decide
  have o24 : (24 : Int32).toInt = 24 := by decide
  have o36 : (36 : Int32).toInt = 36 := by decide
  have E := S.eq Dn
  have cc0 : (F_X10_look x0 σ1).1 (V.1 0) 3 = σ1.1 (V.1 0) 3 := by
    have := congrArg (fun c : zCo => c.2.2.2.1) ((zLookN hL hV).cc hL (k := 0) (by decide) (by decide))
    exact this
  have row := (zCopies2 hJ hm).2.1
  obtain ⟨s, hs⟩ : ∃ s, s = F_X10_look x0 σ1 := ⟨_, rfl⟩
  obtain ⟨t, ht⟩ : ∃ t, t = F_X11_copies m0 σ2 := ⟨_, rfl⟩
  rw [← hs] at S Dn FL RN E cc0 xr
  rw [← ht] at S Dn FL E row
  unfold F_X10_spot at f1
  unfold F_X11_spot at f2
  simp only [zlt, zlt2, cPlace, mPlc, cWithin, mIn, e0, o12, g10, mMany, n2, ← hs, ← ht] at f1 f2
  obtain ⟨⟨z0, z1, z5, z6, z2, z3, z4⟩, ⟨z8, z9⟩, ⟨z10, z11, z12, z13, z14, z15⟩, ⟨z16, z17, z18⟩, z19, z20, z21⟩ := id S.1.1.1
  rw [q0] at z2 z3
  rw [q1] at z17 z18
  rw [q3] at z10 z11 z12
  rw [q4] at z19 z20 z21
  have yy : ∀ j, zYj j → (t.2.2 m0 j).getD 0 = Y j := fun j hj => (S.2.1.1.1 j hj).1
  have b18 := S.2.1.2.1
  have hB := S.2.1.2.2.1
  have xN : (σ1.1 td 0 - (1 : Int32)).toInt = (N' : Int) - 1 := by rw [zb_sub (by rw [o1]; omega) (by rw [o1]; omega), o1, n3]
  have xM : (F_X11_many m0 σ2 - (1 : Int32)).toInt = (N' : Int) - 1 := by
    have : (F_X11_many m0 σ2).toInt = N' := by rw [mMany]; exact n2
    rw [zb_sub (by rw [o1]; omega) (by rw [o1]; omega), o1, this]
  rw [xN] at f1
  rw [xM] at f2
  by_cases c : 0 ≤ p.toInt ∧ p.toInt ≤ (N' : Int) - 1
  · rw [if_neg (fun z => z c)] at f1 f2
    obtain ⟨P, hp⟩ : ∃ P : Nat, p.toInt = P := ⟨p.toInt.toNat, by omega⟩
    have hP : P < N' := by omega
    have nP : p.toNatClampNeg = P := by rw [ztn, hp]; rfl
    obtain ⟨y1, y2, y3, y4, y5⟩ := S.2.2.1 P hP
    obtain ⟨y6, y7, -, -⟩ := Dn.1 P hP
    have rc : ∀ j, j < 50 → rC σ2.1 (mR σ2 m0 48) 0 j = t.1 (Y 49) j := fun j hj => by rw [hY, row j hj, rC_i hj, Nat.zero_add]
    by_cases c0 : k.toInt < 0
    · rw [if_pos c0] at f1
      rw [if_neg (show ¬ k.toInt = 0 by omega), if_neg (show ¬ k.toInt = 1 by omega), if_neg (show ¬ k.toInt = 2 by omega), if_neg (show ¬ k.toInt = 3 by omega), if_neg (show ¬ k.toInt = 4 by omega), if_neg (show ¬ k.toInt = 5 by omega), if_neg (show ¬ k.toInt = 6 by omega), if_neg (show ¬ k.toInt = 7 by omega), if_neg (show ¬ k.toInt = 8 by omega), if_neg (show ¬ k.toInt = 9 by omega), if_neg (show ¬ k.toInt = 10 by omega), if_neg (show ¬ k.toInt = 11 by omega), if_neg (show ¬ k.toInt = 12 by omega)] at f2
      rw [(zPr2 f1).1, (zPr2 f2).1]
    · rw [if_neg c0] at f1
      by_cases c12 : 12 < k.toInt
      · rw [if_pos c12] at f1
        rw [if_neg (show ¬ k.toInt = 0 by omega), if_neg (show ¬ k.toInt = 1 by omega), if_neg (show ¬ k.toInt = 2 by omega), if_neg (show ¬ k.toInt = 3 by omega), if_neg (show ¬ k.toInt = 4 by omega), if_neg (show ¬ k.toInt = 5 by omega), if_neg (show ¬ k.toInt = 6 by omega), if_neg (show ¬ k.toInt = 7 by omega), if_neg (show ¬ k.toInt = 8 by omega), if_neg (show ¬ k.toInt = 9 by omega), if_neg (show ¬ k.toInt = 10 by omega), if_neg (show ¬ k.toInt = 11 by omega), if_neg (show ¬ k.toInt = 12 by omega)] at f2
        rw [(zPr2 f1).1, (zPr2 f2).1]
      · rw [if_neg c12] at f1
        rcases (show k.toInt = 0 ∨ k.toInt = 1 ∨ k.toInt = 2 ∨ k.toInt = 3 ∨ k.toInt = 4 ∨ k.toInt = 5 ∨ k.toInt = 6 ∨ k.toInt = 7 ∨ k.toInt = 8 ∨ k.toInt = 9 ∨ k.toInt = 10 ∨ k.toInt = 11 ∨ k.toInt = 12 by omega) with z | z | z | z | z | z | z | z | z | z | z | z | z
        · rw [if_pos z] at f1
          rw [if_pos z] at f2
          by_cases cp : P = 0
          · rw [if_pos (show p.toInt = 0 by omega)] at f1
            rw [(zPr2 f1).1, (zPr2 f2).1, yy 49 (by unfold zYj; omega), nP, cp, ← rc 0 (by decide), (hQ.2.2 (by omega)).2.2]
          · rw [if_neg (show ¬ p.toInt = 0 by omega)] at f1
            rw [(zPr2 f1).1, (zPr2 f2).1, yy 49 (by unfold zYj; omega), nP, xr, g6, z19, S.1.2.2.2.2.2.1 P (by omega) hP, S.2.1.2.2.2.2.2.1 P (by omega) hP]
        · rw [if_neg (show ¬ k.toInt = 0 by omega), if_pos z] at f1
          rw [if_neg (show ¬ k.toInt = 0 by omega), if_pos z] at f2
          rw [(zPr2 f1).1, (zPr2 f2).1, yy 23 (by unfold zYj; omega), nP, xr, g10, z10, y4, ix12 b18 hB hp (by omega)]
        · rw [if_neg (show ¬ k.toInt = 0 by omega), if_neg (show ¬ k.toInt = 1 by omega), if_pos z] at f1
          rw [if_neg (show ¬ k.toInt = 0 by omega), if_neg (show ¬ k.toInt = 1 by omega), if_pos z] at f2
          rw [(zPr2 f1).1, (zPr2 f2).1, yy 24 (by unfold zYj; omega), nP, xr, g10, z11, y1, ix12 b18 hB hp (by omega)]
        · rw [if_neg (show ¬ k.toInt = 0 by omega), if_neg (show ¬ k.toInt = 1 by omega), if_neg (show ¬ k.toInt = 2 by omega), if_pos z] at f1
          rw [if_neg (show ¬ k.toInt = 0 by omega), if_neg (show ¬ k.toInt = 1 by omega), if_neg (show ¬ k.toInt = 2 by omega), if_pos z] at f2
          rw [(zPr2 f1).1, (zPr2 f2).1, yy 25 (by unfold zYj; omega), nP, xr, g10, z12, y3, ix12 b18 hB hp (by omega)]
        · rw [if_neg (show ¬ k.toInt = 0 by omega), if_neg (show ¬ k.toInt = 1 by omega), if_neg (show ¬ k.toInt = 2 by omega), if_neg (show ¬ k.toInt = 3 by omega), if_pos z] at f1
          rw [if_neg (show ¬ k.toInt = 0 by omega), if_neg (show ¬ k.toInt = 1 by omega), if_neg (show ¬ k.toInt = 2 by omega), if_neg (show ¬ k.toInt = 3 by omega), if_pos z] at f2
          have hd : (bt (σ1.1 (V.1 0) 3) P = true ∧ t.1 (Y 49) (12 + P) = 1) ∨ (bt (σ1.1 (V.1 0) 3) P = false ∧ t.1 (Y 49) (12 + P) = 0) := by
            rw [← rc (12 + P) (by omega)]
            by_cases cp : P = 0
            · rw [cp]
              exact Or.inr ⟨(hQ.2.2 (by omega)).1.1, (hQ.2.2 (by omega)).1.2⟩
            · exact hQ.1.2.1 P (by omega) hP
          rw [(zPr2 f2).1, yy 49 (by unfold zYj; omega), ixN o12 (by decide) hp (by omega)]
          simp only [xr, g6, cc0, cHas hp (show P < 32 by omega)] at f1
          rcases hd with ⟨d1, d2⟩ | ⟨d1, d2⟩
          · rw [if_pos d1, if_neg (by decide)] at f1
            rw [(zPr2 f1).1, d2]
          · rw [d1, if_neg (show ¬ false = true by decide), if_pos rfl] at f1
            rw [(zPr2 f1).1, d2]
        · rw [if_neg (show ¬ k.toInt = 0 by omega), if_neg (show ¬ k.toInt = 1 by omega), if_neg (show ¬ k.toInt = 2 by omega), if_neg (show ¬ k.toInt = 3 by omega), if_neg (show ¬ k.toInt = 4 by omega), if_pos z] at f1
          rw [if_neg (show ¬ k.toInt = 0 by omega), if_neg (show ¬ k.toInt = 1 by omega), if_neg (show ¬ k.toInt = 2 by omega), if_neg (show ¬ k.toInt = 3 by omega), if_neg (show ¬ k.toInt = 4 by omega), if_pos z] at f2
          rw [(zPr2 f1).1, (zPr2 f2).1, yy 55 (by unfold zYj; omega), nP, xr, xrv hV, z3, (FL P hP).1]
        · rw [if_neg (show ¬ k.toInt = 0 by omega), if_neg (show ¬ k.toInt = 1 by omega), if_neg (show ¬ k.toInt = 2 by omega), if_neg (show ¬ k.toInt = 3 by omega), if_neg (show ¬ k.toInt = 4 by omega), if_neg (show ¬ k.toInt = 5 by omega), if_pos z] at f1
          rw [if_neg (show ¬ k.toInt = 0 by omega), if_neg (show ¬ k.toInt = 1 by omega), if_neg (show ¬ k.toInt = 2 by omega), if_neg (show ¬ k.toInt = 3 by omega), if_neg (show ¬ k.toInt = 4 by omega), if_neg (show ¬ k.toInt = 5 by omega), if_pos z] at f2
          rw [(zPr2 f1).1, (zPr2 f2).1, yy 52 (by unfold zYj; omega), nP, xr, g3, z17, y2]
        · rw [if_neg (show ¬ k.toInt = 0 by omega), if_neg (show ¬ k.toInt = 1 by omega), if_neg (show ¬ k.toInt = 2 by omega), if_neg (show ¬ k.toInt = 3 by omega), if_neg (show ¬ k.toInt = 4 by omega), if_neg (show ¬ k.toInt = 5 by omega), if_neg (show ¬ k.toInt = 6 by omega), if_pos z] at f1
          rw [if_neg (show ¬ k.toInt = 0 by omega), if_neg (show ¬ k.toInt = 1 by omega), if_neg (show ¬ k.toInt = 2 by omega), if_neg (show ¬ k.toInt = 3 by omega), if_neg (show ¬ k.toInt = 4 by omega), if_neg (show ¬ k.toInt = 5 by omega), if_neg (show ¬ k.toInt = 6 by omega), if_pos z] at f2
          rw [(zPr2 f1).1, (zPr2 f2).1, yy 54 (by unfold zYj; omega), nP, xr, g3, z18, y5]
        · rw [if_neg (show ¬ k.toInt = 0 by omega), if_neg (show ¬ k.toInt = 1 by omega), if_neg (show ¬ k.toInt = 2 by omega), if_neg (show ¬ k.toInt = 3 by omega), if_neg (show ¬ k.toInt = 4 by omega), if_neg (show ¬ k.toInt = 5 by omega), if_neg (show ¬ k.toInt = 6 by omega), if_neg (show ¬ k.toInt = 7 by omega), if_pos z] at f1
          rw [if_neg (show ¬ k.toInt = 0 by omega), if_neg (show ¬ k.toInt = 1 by omega), if_neg (show ¬ k.toInt = 2 by omega), if_neg (show ¬ k.toInt = 3 by omega), if_neg (show ¬ k.toInt = 4 by omega), if_neg (show ¬ k.toInt = 5 by omega), if_neg (show ¬ k.toInt = 6 by omega), if_neg (show ¬ k.toInt = 7 by omega), if_pos z] at f2
          have a8 := S.1.2.2.2.2.2.2.2 p
          rw [q1] at a8
          have b8 := S.2.1.2.2.2.2.2.2.2 p
          simp only [xr, g3] at f1
          by_cases cs : 0 ≤ p.toInt ∧ Src N' u p.toInt.toNat
          · rw [if_neg (fun w => a8.mp w cs)] at f1
            rw [if_neg (fun w => b8.mp w cs)] at f2
            rw [(zPr2 f1).1, (zPr2 f2).1]
          · rw [if_pos (a8.mpr cs)] at f1
            rw [if_pos (b8.mpr cs)] at f2
            rw [(zPr2 f1).1, (zPr2 f2).1]
        · rw [if_neg (show ¬ k.toInt = 0 by omega), if_neg (show ¬ k.toInt = 1 by omega), if_neg (show ¬ k.toInt = 2 by omega), if_neg (show ¬ k.toInt = 3 by omega), if_neg (show ¬ k.toInt = 4 by omega), if_neg (show ¬ k.toInt = 5 by omega), if_neg (show ¬ k.toInt = 6 by omega), if_neg (show ¬ k.toInt = 7 by omega), if_neg (show ¬ k.toInt = 8 by omega), if_pos z] at f1
          rw [if_neg (show ¬ k.toInt = 0 by omega), if_neg (show ¬ k.toInt = 1 by omega), if_neg (show ¬ k.toInt = 2 by omega), if_neg (show ¬ k.toInt = 3 by omega), if_neg (show ¬ k.toInt = 4 by omega), if_neg (show ¬ k.toInt = 5 by omega), if_neg (show ¬ k.toInt = 6 by omega), if_neg (show ¬ k.toInt = 7 by omega), if_neg (show ¬ k.toInt = 8 by omega), if_pos z] at f2
          rw [(zPr2 f1).1, (zPr2 f2).1, yy 49 (by unfold zYj; omega), nP, xr, g6, z20, y6, ixN o24 (by decide) hp (by omega)]
        · rw [if_neg (show ¬ k.toInt = 0 by omega), if_neg (show ¬ k.toInt = 1 by omega), if_neg (show ¬ k.toInt = 2 by omega), if_neg (show ¬ k.toInt = 3 by omega), if_neg (show ¬ k.toInt = 4 by omega), if_neg (show ¬ k.toInt = 5 by omega), if_neg (show ¬ k.toInt = 6 by omega), if_neg (show ¬ k.toInt = 7 by omega), if_neg (show ¬ k.toInt = 8 by omega), if_neg (show ¬ k.toInt = 9 by omega), if_pos z] at f1
          rw [if_neg (show ¬ k.toInt = 0 by omega), if_neg (show ¬ k.toInt = 1 by omega), if_neg (show ¬ k.toInt = 2 by omega), if_neg (show ¬ k.toInt = 3 by omega), if_neg (show ¬ k.toInt = 4 by omega), if_neg (show ¬ k.toInt = 5 by omega), if_neg (show ¬ k.toInt = 6 by omega), if_neg (show ¬ k.toInt = 7 by omega), if_neg (show ¬ k.toInt = 8 by omega), if_neg (show ¬ k.toInt = 9 by omega), if_pos z] at f2
          rw [(zPr2 f1).1, (zPr2 f2).1, yy 49 (by unfold zYj; omega), nP, xr, g6, z21, y7, ixN o36 (by decide) hp (by omega)]
        · rw [if_neg (show ¬ k.toInt = 0 by omega), if_neg (show ¬ k.toInt = 1 by omega), if_neg (show ¬ k.toInt = 2 by omega), if_neg (show ¬ k.toInt = 3 by omega), if_neg (show ¬ k.toInt = 4 by omega), if_neg (show ¬ k.toInt = 5 by omega), if_neg (show ¬ k.toInt = 6 by omega), if_neg (show ¬ k.toInt = 7 by omega), if_neg (show ¬ k.toInt = 8 by omega), if_neg (show ¬ k.toInt = 9 by omega), if_neg (show ¬ k.toInt = 10 by omega), if_pos z] at f1
          rw [if_neg (show ¬ k.toInt = 0 by omega), if_neg (show ¬ k.toInt = 1 by omega), if_neg (show ¬ k.toInt = 2 by omega), if_neg (show ¬ k.toInt = 3 by omega), if_neg (show ¬ k.toInt = 4 by omega), if_neg (show ¬ k.toInt = 5 by omega), if_neg (show ¬ k.toInt = 6 by omega), if_neg (show ¬ k.toInt = 7 by omega), if_neg (show ¬ k.toInt = 8 by omega), if_neg (show ¬ k.toInt = 9 by omega), if_neg (show ¬ k.toInt = 10 by omega), if_pos z] at f2
          obtain ⟨y, r1, -⟩ := mRainW S.2.1.1 b18 hB (S.2.1.2.2.2.1 (by omega)) zFr.id hp (by omega)
          rw [r1] at f2
          rw [(zPr2 f1).1, (zPr2 f2).1, nP, xr, xrv hV, z2, RN P hP, rEq E hP]
          unfold rMl
          rw [Int32.add_zero]
        · rw [if_neg (show ¬ k.toInt = 0 by omega), if_neg (show ¬ k.toInt = 1 by omega), if_neg (show ¬ k.toInt = 2 by omega), if_neg (show ¬ k.toInt = 3 by omega), if_neg (show ¬ k.toInt = 4 by omega), if_neg (show ¬ k.toInt = 5 by omega), if_neg (show ¬ k.toInt = 6 by omega), if_neg (show ¬ k.toInt = 7 by omega), if_neg (show ¬ k.toInt = 8 by omega), if_neg (show ¬ k.toInt = 9 by omega), if_neg (show ¬ k.toInt = 10 by omega), if_neg (show ¬ k.toInt = 11 by omega)] at f1
          rw [if_neg (show ¬ k.toInt = 0 by omega), if_neg (show ¬ k.toInt = 1 by omega), if_neg (show ¬ k.toInt = 2 by omega), if_neg (show ¬ k.toInt = 3 by omega), if_neg (show ¬ k.toInt = 4 by omega), if_neg (show ¬ k.toInt = 5 by omega), if_neg (show ¬ k.toInt = 6 by omega), if_neg (show ¬ k.toInt = 7 by omega), if_neg (show ¬ k.toInt = 8 by omega), if_neg (show ¬ k.toInt = 9 by omega), if_neg (show ¬ k.toInt = 10 by omega), if_neg (show ¬ k.toInt = 11 by omega), if_pos z] at f2
          obtain ⟨y, r1, -⟩ := mDriesW S.2.1.1 b18 hB (S.2.1.2.2.2.1 (by omega)) zFr.id hp (by omega)
          obtain ⟨x, r2, -⟩ := cDried S.1.1 (S.1.2.1 (by omega)) zFr.id hp
          rw [q0] at r2
          rw [r1] at f2
          simp only [xr, xrv hV, r2] at f1
          rw [(zPr2 f1).1, (zPr2 f2).1, (FL P hP).1, drEq E hP (by rw [← (FL P hP).1]; exact (FL P hP).2)]
  · rw [if_pos c] at f1 f2
    rw [(zPr2 f1).1, (zPr2 f2).1]
end SPOT
end
-- 35y08.lw41
section
/-! MONTHS, DEEDS: whole -/
section MONTHS1
variable {κ : Int} {L1 : List Nat} {kd1 : Nat → Nat} {L2 : List Nat} {kd2 : Nat → Nat} {σ1 σ2 τ1 τ2 s : zS} {m0 x0 : Nat} {V : zWh} {ps pc sl rv sh cd : Nat}
set_option maxHeartbeats 1000000 in
/-- months, with what is won and paid -/
theorem zRL.months1 {v1 v2 p : Int32} (h : zRL zQw L1 kd1 x0 m0 V ps pc sl rv sh cd σ1 σ2) (hw : 0 < zM m0 σ2 → zLw x0 m0 σ1 σ2) (hl : zLen x0 m0 σ1 σ2) (hg : gN m0 σ2) (hM0 : zM m0 τ2 = zM m0 σ2) (hx : zT L1 kd1 x0 10) (hI : zI κ 0 L1 kd1 σ1) (hJ : zJ κ L2 kd2 σ2) (hm : zT L2 kd2 m0 11) (hs5 : ∀ a ∈ L1, kd1 a = 5 → a = rv) (f1 : (v1, τ1) = F_X10_months x0 p σ1) (f2 : (v2, τ2) = F_X11_months m0 p σ2) : v1.toInt = v2.toInt ∧ zRL zQw L1 kd1 x0 m0 V ps pc sl rv sh cd τ1 τ2 := by
  obtain ⟨hL, hV, N, n, u, ⟨a1, a2, a3, a4, a5, a6, a7, a8, a9⟩, hq, hu, hh⟩ := id h
  have e0 : (0 : Int32).toInt = 0 := by decide
  have e60 : (60 : Int32).toInt = 60 := by decide
  have n48 : (48 : Int32).toNatClampNeg = 48 := by decide
  have g6 : (σ1.2.2 x0 6).getD 0 = V.1 0 := xnw hL
  have g4 : (σ1.2.2 x0 4).getD 0 = ps := by rw [hL.1.2.2.2.1]; rfl
  have g2 : (σ1.2.2 x0 2).getD 0 = rv := xrv hV
  have em : σ1.1 (V.1 0) 4 = σ2.1 (mR σ2 m0 48) 48 := by
    have := hq.1.2.2.1
    rw [rC_i (by decide), Nat.zero_add] at this
    exact this
  have ml : F_X11_isLong p = F_X11_in p 0 60 := by
    unfold F_X11_isLong
    simp only [zlt]
  by_cases c : 0 ≤ p.toInt ∧ p.toInt ≤ 60
  · by_cases cz : p.toInt = 0
    · unfold F_X10_months at f1
      unfold F_X11_months at f2
      simp only [zlt, ml, cWithin, mIn, e0, e60, g6, n48] at f1 f2
      rw [if_neg (fun z => z c), if_neg (by omega)] at f1
      rw [if_neg (fun z => z c), if_pos cz] at f2
      rw [show τ1 = σ1 from congrArg Prod.snd f1, show τ2 = σ2 from congrArg Prod.snd f2]
      refine ⟨?_, h⟩
      rw [show v1 = _ from congrArg Prod.fst f1, show v2 = _ from congrArg Prod.fst f2, em]
    · by_cases hN0 : N = 0
      · subst hN0
        have h0 : zRL zQ0 L1 kd1 x0 m0 V ps pc sl rv sh cd σ1 σ2 := h.mono (fun _ _ _ z => z.1)
        obtain ⟨e, r⟩ := h0.months0 hx hI hJ hm hs5 f1 f2
        refine ⟨e, r.mono0 ?_⟩
        have g2 : zM m0 τ2 = zM m0 σ2 := hM0
        rw [g2, a2]
        rfl
      obtain ⟨k, hk⟩ : ∃ k : Nat, p.toInt = k := ⟨p.toInt.toNat, by omega⟩
      obtain ⟨s, e', p2, p3, p4, p5, p6, p7⟩ := zPush hL (k := 0) (by decide) a4 a5 a6 a7
      have rs : s.2.2 = σ1.2.2 := by rw [p2]
      have hLs : zLay L1 kd1 x0 s.2.2 V ps pc sl := by rw [rs]; exact hL
      have hVs : zRv L1 kd1 x0 rv sh cd s.2.2 := by rw [rs]; exact hV
      -- the class
      have f1b := f1
      unfold F_X10_months at f1b
      simp only [zlt, cWithin, e0, e60, g6, g4] at f1b
      rw [if_neg (fun z => z c), if_pos (by omega), e'] at f1b
      simp only [rs, g2, g6] at f1b
      obtain ⟨y, hy⟩ : ∃ y : zS, y = F_X5_goThrough rv ((σ1.2.2 x0 10).getD 0) (V.1 0) p (s.1 ((σ1.2.2 x0 10).getD 0) 13) s := ⟨_, rfl⟩
      obtain ⟨k1, k2, k3⟩ := cThr hLs hVs (t := (σ1.2.2 x0 10).getD 0) (v := s.1 ((σ1.2.2 x0 10).getD 0) 13) hk (by omega)
      rw [← hy] at f1b k1 k2 k3
      have y6 : (y.2.2 x0 6).getD 0 = V.1 0 := by rw [k1 x0 6 (fun z => zNk hx hV.2.1.2.1 (by decide) z.1), rs]; exact g6
      rw [y6] at f1b
      have t1 : τ1 = y := congrArg Prod.snd f1b
      -- what of the class' cells stays
      have kk : ∀ {a q : Nat}, zT L1 kd1 a q → (q ≠ 20 ∧ q ≠ 21 ∧ q ≠ 30 ∧ q ≠ 31 ∧ q ≠ 32 ∧ q ≠ 6 ∧ q ≠ 33 ∧ q ≠ 34 ∧ q ≠ 35 ∧ q ≠ 36 ∧ q ≠ 37 ∧ q ≠ 38) → a ≠ V.2.2.1 0 → a ≠ V.2.2.2 0 → ∀ j, ¬ (a = V.1 0 ∧ j = 4) → y.1 a j = s.1 a j := fun ha hq n1 n2 j n3 => k3 _ j (by
        rw [ha.2]
        rintro ((z | z | z | z) | z)
        · rw [ha.2] at z; omega
        · exact n1 z
        · exact n2 z
        · exact n3 z
        · omega)
      obtain ⟨⟨tA, tI, tW, tM⟩, -⟩ := hL.2.2.2.1 0 (by decide)
      have k0 : ∀ {a q : Nat}, zT L1 kd1 a q → (q = 2 ∨ q = 4 ∨ q = 9 ∨ q = 10) → y.1 a = s.1 a := fun ha hq => funext (fun j => kk ha (by omega) (zNk ha tW (by omega)) (zNk ha tM (by omega)) j (fun z => zNk ha tA (by omega) z.1))
      have kc : ∀ r, r < 45 → r ≠ 0 → zcc V y.1 r = zcc V s.1 r := fun r hr h0 => by
        obtain ⟨⟨uA, uI, uW, uM⟩, -⟩ := hL.2.2.2.1 r hr
        have hi := hL.2.2.2.2.1 r 0 hr (by decide)
        refine zcc.eq (fun j _ => kk uI (by decide) (zNk uI tW (by decide)) (zNk uI tM (by decide)) j (fun z => zNk uI tA (by decide) z.1)) (fun j _ => kk uW (by decide) (fun z => h0 (hi (Or.inr (Or.inr (Or.inl z))))) (zNk uW tM (by decide)) j (fun z => zNk uW tA (by decide) z.1)) (fun j _ => kk uM (by decide) (zNk uM tW (by decide)) (fun z => h0 (hi (Or.inr (Or.inr (Or.inr z))))) j (fun z => zNk uM tA (by decide) z.1)) (fun j _ => kk uA (by decide) (zNk uA tW (by decide)) (zNk uA tM (by decide)) j (fun z => h0 (hi (Or.inl z.1))))
      have c0 : (zcc V y.1 0).1 = (zcc V s.1 0).1 ∧ (zcc V y.1 0).2.2.2.1 = (zcc V s.1 0).2.2.2.1 ∧ (zcc V y.1 0).2.2.2.2.2 = (zcc V s.1 0).2.2.2.2.2 := by
        refine ⟨zt12_e (fun j _ => kk tI (by decide) (zNk tI tW (by decide)) (zNk tI tM (by decide)) j (fun z => zNk tI tA (by decide) z.1)), kk tA (by decide) (zNk tA tW (by decide)) (zNk tA tM (by decide)) 3 (fun z => by omega), kk tA (by decide) (zNk tA tW (by decide)) (zNk tA tM (by decide)) 5 (fun z => by omega)⟩
      -- the reference
      have f2b := f2
      unfold F_X11_months at f2b
      simp only [zlt, ml, mIn, e0, e60, n48] at f2b
      rw [if_neg (fun z => z c), if_neg cz] at f2b
      obtain ⟨b1, b2, b3⟩ := zCopies2 hJ hm
      obtain ⟨w, hw'⟩ : ∃ w : zS, w = F_X11_copies m0 σ2 := ⟨_, rfl⟩
      rw [← hw'] at f2b b1 b2 b3
      have hS : ([49, 54, 52, 53, 45, 46, 55] : List Nat).all (fun t => zf 0 11 t == some (100 + t)) = true := by rfl
      have wm : (F_X11_many m0 w).toInt = N := by
        rw [mMany, ← a2]
        unfold zM zp
        rw [zFm.fld hJ hm b3 hS (j := 18) (by rfl)]
        show (w.1 ((w.2.2 m0 21).getD 0) _).toInt = _
        rw [b3.rf]
        show (w.1 (mR σ2 m0 21) _).toInt = _
        rw [zFm.row hJ hm b3 (s := 21) (by rfl) hS (by rfl)]
      obtain ⟨q1, q2⟩ := mGoes hJ hm (s := w) b1 (by omega) hk (by omega)
      have t2 : τ2 = F_X11_records m0 (F_X11_goes m0 p w) := congrArg Prod.snd f2b
      have gall : zFr (zFm [50, 51, 47, 56] [49, 54, 52, 53, 45, 46, 55] m0 σ2.2.2) σ2 (F_X11_goes m0 p w) := by
        refine (b3.up (fun a j q => ?_)).tr (q1.up (fun a j q => ?_))
        · rcases q with ⟨e, q⟩ | ⟨t, ht, e⟩
          · exact Or.inl ⟨e, by simp only [List.mem_cons, List.not_mem_nil, or_false] at q ⊢; omega⟩
          · exact Or.inr ⟨t, ht, e⟩
        · rcases q with (⟨e, q⟩ | ⟨t, ht, e⟩) | ⟨e, -⟩
          · exact Or.inl ⟨e, by simp only [List.mem_cons, List.not_mem_nil, or_false] at q ⊢; omega⟩
          · exact Or.inr ⟨t, by simp only [List.mem_cons, List.not_mem_nil, or_false] at ht ⊢; omega, e⟩
          · exact Or.inr ⟨49, by decide, e⟩
      obtain ⟨now', hnow⟩ : ∃ r, r = rC (F_X11_goes m0 p w).1 (mR σ2 m0 49) 0 := ⟨_, rfl⟩
      have D : ∀ u : Nat, (σ2.1 m0 57).toInt = u → u ≤ 40 → zDone σ2 m0 u now' τ2 := fun u hu hu2 => by
        rw [t2]
        exact zDone.of hJ hm hu hu2 gall (by rfl) (by rfl) (by rfl) hnow.symm
      -- the row
      have rm : mR σ2 m0 49 ≠ m0 := mR_m hJ hm (s := 49) (k := 149) (by rfl) (by decide)
      have rowk : ∀ j, j < 50 → ¬ (24 ≤ j ∧ j ≤ 48) → now' j = rC σ2.1 (mR σ2 m0 48) 0 j := fun j hj hn => by
        rw [hnow, rC_i hj, rC_i hj, Nat.zero_add, ← b2 j hj]
        refine q1.2 _ _ ?_
        rintro ((⟨e, -⟩ | ⟨t, ht, e⟩) | ⟨-, z1, z2⟩)
        · exact rm e
        · have h2 : zf 0 11 t = some (100 + t) ∧ t ≠ 49 := by
            simp only [List.mem_cons, List.not_mem_nil, or_false] at ht
            rcases ht with rfl | rfl | rfl <;> exact ⟨by rfl, by decide⟩
          exact mR_ne hJ hm (s := 49) (s' := t) (k := 149) (by rfl) h2.1 (by omega) e
        · exact hn ⟨z1, z2⟩
      have row48 : now' 48 = zit k (rC σ2.1 (mR σ2 m0 48) 0 48) := by
        rw [hnow, rC_i (by decide), rC_i (by decide), Nat.zero_add, q2, b2 48 (by decide)]
      -- what is won and paid
      have nl : ∀ a ka, zT L1 kd1 a ka → (ka = 9 ∨ (46 ≤ ka ∧ ka ≤ 51)) → s.1 a = σ1.1 a := fun a ka ha hka => p7 a ha.1 (fun z => by
        rw [ha.2] at z
        simp only [List.mem_cons, List.not_mem_nil, or_false] at z
        omega)
      obtain ⟨td, B, N2, gl, u', l', d1, n2', -, M⟩ := zSd.of zGd.q1 (fun _ _ _ h => h) h hw hl hx hI hJ hm hg (s0 := s) (fun a j _ => by rw [rs]) nl (k := 0) (by decide) (p4 0 (by decide) (by omega))
      obtain ⟨td', d1', d2⟩ := zi_ref (j := 10) (k2 := 9) hI hx (by rfl)
      have et : td' = td := Option.some.inj (d1'.symm.trans d1)
      rw [et] at d2
      have gd : (σ1.2.2 x0 10).getD 0 = td := by rw [d1]; rfl
      have yG : y = F_X5_goThrough_9 rv td (V.1 0) p (σ1.1 td 13) 10000 0 (F_X5_form rv td (V.1 0) s) := by
        rw [hy, gd, nl td 9 d2 (by omega)]
        unfold F_X5_goThrough
        simp only [zlt]
      have wG : F_X11_goes m0 p w = F_X11_goes_2 m0 p 4294967299 0 (F_X11_copies m0 σ2) := by
        rw [hw']
        unfold F_X11_goes
        simp only [zlt]
      have MG : zMb (qOf σ1.2.2 rv sh cd td V 0) (mR σ2 m0) m0 B N2 gl u' l' (σ1.1 td 13) (F_X5_form rv td (V.1 0) s) (F_X11_copies m0 σ2) y (F_X11_goes m0 p w) := by
        rw [yG, wG]
        exact zMb.go (by omega) hk (by omega) k 10000 4294967299 0 0 _ _ (by decide) (by omega) (by omega) (by omega) M
      have won : ∀ j, j < N → y.1 (V.2.2.1 0) j = now' (24 + j) ∧ y.1 (V.2.2.2 0) j = now' (36 + j) ∧ 0 ≤ (y.1 (V.2.2.1 0) j).toInt ∧ (y.1 (V.2.2.1 0) j).toInt ≤ 999 := fun j hj => by
        rw [hnow, rC_i (by omega), rC_i (by omega), Nat.zero_add, Nat.zero_add]
        exact MG.2.1.1 j (by omega)
      have wc : ∀ (f : Nat → Nat → Int32) j, j < 12 → (zcc V f 0).2.1 j = f (V.2.2.1 0) j ∧ (zcc V f 0).2.2.1 j = f (V.2.2.2 0) j := fun f j hj => ⟨if_pos hj, if_pos hj⟩
      have F0 : (F_X5_form rv td (V.1 0) s).1 (V.2.2.2 0) = s.1 (V.2.2.2 0) := (zForm (V := V) hVs td (V.1 0)).1.2 _ ⟨tM.1, by rw [tM.2]; omega, fun z => by
        have i1 := hL.2.2.2.2.1 0 1 (by decide) (by decide)
        obtain ⟨⟨uA, uI, uW, uM⟩, -⟩ := hL.2.2.2.1 1 (by decide)
        rcases z with z | z | z | z
        · exact zNk tM uA (by decide) z
        · exact zNk tM uI (by decide) z
        · exact zNk tM uW (by decide) z
        · exact absurd (i1 (Or.inr (Or.inr (Or.inr z)))) (by decide)⟩
      have R : zRL zQw L1 kd1 x0 m0 V ps pc sl rv sh cd τ1 τ2 := by
        refine h.act hx hI (fun a ha h5 => ?_) (fun a ha h5 j j5 j6 => ?_) (fun a ha hk => ?_) ?_ (fun r hr h0 _ => ?_) D (fun N' z1 z2 z3 z4 => ?_)
        · rw [t1]
          funext j
          rw [k1 a j (fun z => h5 (by rw [z.1]; exact hV.2.1.2.1.2)), rs]
        · rw [t1, k1 a j (fun z => by omega), rs]
        · rw [t1, k0 ⟨ha, rfl⟩ (by omega)]
          refine p7 a ha (fun z => ?_)
          simp only [List.mem_cons, List.not_mem_nil, or_false] at z
          omega
        · rw [t1, e', k0 hL.2.2.2.2.2.2.1 (by omega)]
        · rw [t1, e', kc r hr h0]
        · have eN : N' = N := by omega
          subst eN
          obtain ⟨⟨w1, w2, w3, w4⟩, -, x456⟩ := z4
          have s0 : zcc V s.1 0 = zcc V σ1.1 0 := p4 0 (by decide) (by omega)
          rw [t1]
          refine ⟨⟨fun j h1 h2 => ?_, fun j h1 h2 => ?_, ?_, ?_⟩, fun j hj => ?_, fun hN0 => ⟨⟨?_, ?_⟩, ⟨?_, ?_⟩, ?_⟩⟩
          · rw [c0.1, s0, rowk j (by omega) (by omega)]; exact w1 j h1 h2
          · rw [c0.2.1, s0, rowk (12 + j) (by omega) (by omega)]; exact w2 j h1 h2
          · rw [row48, ← w3, ← s0]; exact k2
          · rw [c0.2.2, s0, rowk 49 (by omega) (by omega)]; exact w4
          · rw [(wc y.1 j (by omega)).1, (wc y.1 j (by omega)).2]; exact won j hj
          · rw [c0.2.1, s0]; exact (x456 hN0).1.1
          · rw [rowk 12 (by omega) (by omega)]; exact (x456 hN0).1.2
          · rw [(wc y.1 0 (by decide)).2]
            have e1 := MG.2.2.2.2.2.2.2.1.1
            have e2 := congrArg (fun c : zCo => c.2.2.1 0) s0
            have e3 : s.1 (V.2.2.2 0) 0 = (zcc V σ1.1 0).2.2.1 0 := by rw [← e2]; rfl
            have e4 : y.1 (V.2.2.2 0) 0 = (F_X5_form rv td (V.1 0) s).1 (V.2.2.2 0) 0 := e1
            rw [e4, F0, e3]
            exact (x456 hN0).2.1.1
          · have e1 := MG.2.2.2.2.2.2.2.1.2
            have e2 : now' 36 = (F_X11_goes m0 p w).1 (mR σ2 m0 49) 36 := by rw [hnow, rC_i (by decide), Nat.zero_add]
            rw [e2]
            refine e1.trans ?_
            rw [← hw', b2 36 (by decide)]
            have x5 := (x456 hN0).2.1.2
            rw [rC_i (by decide), Nat.zero_add] at x5
            exact x5
          · rw [rowk 0 (by omega) (by omega)]; exact (x456 hN0).2.2
      refine ⟨?_, R⟩
      -- the answers
      have hd := (D u a8 a7)
      obtain ⟨d0, -, d2, -⟩ := hd
      have av : v2 = τ2.1 (mR σ2 m0 48) 48 := by
        rw [show v2 = _ from congrArg Prod.fst f2b, t2]
        show (F_X11_records m0 (F_X11_goes m0 p w)).1 (((F_X11_records m0 (F_X11_goes m0 p w)).2.2 m0 48).getD 0) 48 = _
        rw [← t2, d0]
      have bv : τ2.1 (mR σ2 m0 48) 48 = now' 48 := by
        rw [← d2, rC_i (by decide), Nat.zero_add]
      rw [show v1 = _ from congrArg Prod.fst f1b, av, bv, row48, rC_i (by decide), Nat.zero_add, ← em, k2]
      have : s.1 (V.1 0) 4 = σ1.1 (V.1 0) 4 := by
        have := congrArg (fun c : zCo => c.2.2.2.2.1) (p4 0 (by decide) (by omega))
        exact this
      rw [this]
  · unfold F_X10_months at f1
    unfold F_X11_months at f2
    simp only [zlt, ml, cWithin, mIn, e0, e60] at f1 f2
    rw [if_pos c] at f1 f2
    cases f1
    cases f2
    exact ⟨rfl, h⟩
end MONTHS1
end
-- 35y09.lw42
section
/-! ANSWERS OF NOW: margin, rank -/
section MARG
variable {q Y : Nat → Nat} {a b N : Nat} {s1 s τ : zS} {g : zGl} {u l : Nat → Nat} {k : Int32} {w : Nat}
theorem clC_r {q : Nat → Nat} {s : zS} {g : zGl} {w p : Nat} {f : Int32} : 0 ≤ (clC q s g w p f).toInt ∧ (clC q s g w p f).toInt ≤ 99999 := by
  have z0 : (0 : Int32).toInt = 0 := by decide
  have z9 : (99999 : Int32).toInt = 99999 := by decide
  have r := held_r (v := vCl q s g (2 + w) p f) (lo := 0) (hi := 99999) (by decide)
  rw [z0, z9] at r
  exact r
theorem mMargL (S : zSd q Y a b N g u l s1 s) (hk : k.toInt = w) (hw : w < 3) {C : Nat → Int32} (hC : C = fun p => clM Y b s g w p (s.1 (Y 55) p)) (hr : ∀ p, p < N → 0 ≤ (C p).toInt) {v6 : Int32} (hv2 : ∀ p, p < N → sB N u p = true → 0 ≤ v6.toInt ∧ v6.toInt < N) : ∀ (n : Nat) (x y : Int32) (i : Nat) (τ : zS), x.toInt = i → 1 ≤ i → (i ≤ N ∨ i = 1) → 13 - i < n → zFr (zVw Y a) s τ → τ.1 (Y 55) = s.1 (Y 55) → (y.toInt = if wn (sB N u) C v6.toInt i < 0 then -2 else (C (wn (sB N u) C v6.toInt i).toNat).toInt) → (F_X11_margin_25 v6 a k n x y τ).1.toInt = if wn (sB N u) C v6.toInt (if 1 ≤ N then N else 1) < 0 then -2 else (C v6.toInt.toNat - C (wn (sB N u) C v6.toInt (if 1 ≤ N then N else 1)).toNat).toInt := by
  obtain ⟨b1, b2, b3, b4, b5, b6, b7, b8⟩ := S.2.1
  have hN := S.1.2.2.2.1
  have em2 : (-2 : Int32).toInt = -2 := by decide
  intro n
  induction n with
  | zero => intro x y i τ _ _ _ h; exact absurd h (by omega)
  | succ n ih =>
    intro x y i τ hx hi hi2 hn f f55 hy
    have M : (F_X11_many a τ).toInt = N := by rw [mMany_w b1 f]; exact b5
    have nI := b8 x
    rw [show x.toInt.toNat = i by omega] at nI
    rw [F_X11_margin_25]
    simp only [↓zlt, ↓zlt2, mIsR b1 f]
    by_cases c : i < N
    · have cx : x.toInt < (F_X11_many a τ).toInt := by omega
      rw [if_pos cx]
      have x1 : (x + (1 : Int32)).toInt = ((i + 1 : Nat) : Int) := zp1 hx (by omega)
      by_cases ev : x.toInt = v6.toInt
      · rw [if_pos ev]
        refine ih _ y (i + 1) τ x1 (by omega) (by omega) (by omega) f f55 ?_
        rw [wn_n (fun z => z.2.1 (by omega))]
        exact hy
      · rw [if_neg ev]
        by_cases sx : Src N u i
        · have cz : ¬ (F_X11_isSource a x s).toInt = 0 := fun z => (nI.mp z) ⟨by omega, sx⟩
          rw [if_neg cz]
          obtain ⟨t, e1, e2⟩ := mClaimW b1 b2 b3 (b4 (by omega)) f hk hw hx (by omega)
          have f2 := f.tr (zUw.up e2)
          have t55 : t.1 (Y 55) = s.1 (Y 55) := (zUw.r55 b1 e2).trans f55
          obtain ⟨t', e1', e2'⟩ := mClaimW b1 b2 b3 (b4 (by omega)) f2 hk hw hx (by omega)
          have f3 := f2.tr (zUw.up e2')
          have t55' : t'.1 (Y 55) = s.1 (Y 55) := (zUw.r55 b1 e2').trans t55
          rw [f55] at e1
          rw [t55] at e1'
          have eC : clM Y b s g w i (s.1 (Y 55) i) = C i := by rw [hC]
          rw [eC] at e1 e1'
          rw [e1]
          simp only [e1']
          have ri := hr i c
          by_cases d : y.toInt < (C i).toInt
          · rw [if_pos d]
            refine ih _ _ (i + 1) t' x1 (by omega) (by omega) (by omega) f3 t55' ?_
            rw [wn_y (sB_t.mpr sx) (by omega) (by
              by_cases z : wn (sB N u) C v6.toInt i < 0
              · exact Or.inl z
              · rw [if_neg z] at hy
                exact Or.inr (by omega)), if_neg (by omega)]
            rfl
          · rw [if_neg d]
            refine ih _ y (i + 1) t x1 (by omega) (by omega) (by omega) f2 t55 ?_
            rw [wn_n (fun z => by
              by_cases z0 : wn (sB N u) C v6.toInt i < 0
              · rw [if_pos z0] at hy
                omega
              · rw [if_neg z0] at hy
                rcases z.2.2 with z1 | z1
                · exact z0 z1
                · omega)]
            exact hy
        · have cz : (F_X11_isSource a x s).toInt = 0 := nI.mpr (fun z => sx z.2)
          rw [if_pos cz]
          refine ih _ y (i + 1) τ x1 (by omega) (by omega) (by omega) f f55 ?_
          rw [wn_n (fun z => sx (sB_t.mp z.1))]
          exact hy
    · have cx : ¬ x.toInt < (F_X11_many a τ).toInt := by omega
      rw [if_neg cx]
      have eN : (if 1 ≤ N then N else 1) = i := by
        split <;> omega
      rw [eN]
      by_cases d : wn (sB N u) C v6.toInt i < 0
      · rw [if_pos d] at hy ⊢
        rw [if_pos (show y.toInt < 0 by omega)]
        exact em2
      · rw [if_neg d] at hy ⊢
        obtain ⟨W, W1, W2, W3, -⟩ := (wn_r (S := sB N u) (C := C) (but := v6.toInt) i).resolve_left (by omega)
        have sW := (sB_t.mp W3).2.1
        have rW := hr W sW
        rw [show (wn (sB N u) C v6.toInt i).toNat = W by omega] at hy ⊢
        obtain ⟨v0, v1⟩ := hv2 W sW W3
        have hv6 : v6.toInt = (v6.toInt.toNat : Nat) := by omega
        obtain ⟨t, e1, e2⟩ := mClaimW b1 b2 b3 (b4 (by omega)) f hk hw hv6 (by omega)
        rw [f55] at e1
        have eC : clM Y b s g w v6.toInt.toNat (s.1 (Y 55) v6.toInt.toNat) = C v6.toInt.toNat := by rw [hC]
        rw [eC] at e1
        rw [if_neg (show ¬ y.toInt < 0 by omega), e1]
        show (C v6.toInt.toNat - y).toInt = _
        rw [Int32.toInt_inj.mp hy]
end MARG
section NOW2
variable {κ : Int} {L1 : List Nat} {kd1 : Nat → Nat} {L2 : List Nat} {kd2 : Nat → Nat} {σ1 σ2 τ1 τ2 s t : zS} {m0 x0 : Nat} {V : zWh} {ps pc sl rv sh cd : Nat} {v1 v2 p k : Int32}
theorem zRL.margin (h : zRL zQw L1 kd1 x0 m0 V ps pc sl rv sh cd σ1 σ2) (hw : 0 < zM m0 σ2 → zLw x0 m0 σ1 σ2) (hl : zLen x0 m0 σ1 σ2) (hx : zT L1 kd1 x0 10) (hI : zI κ 0 L1 kd1 σ1) (hJ : zJ κ L2 kd2 σ2) (hm : zT L2 kd2 m0 11) (hg : gN m0 σ2) (f1 : (v1, τ1) = F_X10_margin x0 k σ1) (f2 : (v2, τ2) = F_X11_margin m0 k σ2) : v1.toInt = v2.toInt := by
  obtain ⟨td, B, N, gl, u, l, q, Y, d1, n2, eL, xr, ⟨hq, hY⟩, ⟨S, Dn, FL, RN⟩, -, -⟩ := h.now hw hl hx hI hJ hm hg
  have e0 : (0 : Int32).toInt = 0 := by decide
  have e2 : (2 : Int32).toInt = 2 := by decide
  have em2 : (-2 : Int32).toInt = -2 := by decide
  have em1 : (-1 : Int32).toInt = -1 := by decide
  have q0 : q 0 = rv := by rw [hq]; rfl
  have E := S.eq Dn
  have hN := S.1.2.2.2.1
  unfold F_X10_margin at f1
  unfold F_X11_margin at f2
  simp only [zlt, zlt2, cLaw, mLaw, cWithin, mIn, e0, e2, xr, xrv h.2.1] at f1 f2
  by_cases c : 0 ≤ k.toInt ∧ k.toInt ≤ 2
  · rw [if_neg (fun z => z c)] at f1 f2
    obtain ⟨w, hk⟩ : ∃ w : Nat, k.toInt = w := ⟨k.toInt.toNat, by omega⟩
    obtain ⟨s, hs⟩ : ∃ s, s = F_X10_look x0 σ1 := ⟨_, rfl⟩
    obtain ⟨t, ht⟩ : ∃ t, t = F_X11_copies m0 σ2 := ⟨_, rfl⟩
    rw [← hs] at S FL E f1 xr
    rw [← ht] at S FL E f2
    obtain ⟨C, hC⟩ : ∃ C : Nat → Int32, C = fun p => clM Y B t gl w p (t.1 (Y 55) p) := ⟨_, rfl⟩
    have cC : ∀ p, p < N → clC q s gl w p (s.1 (q 6) p) = C p := fun p hp => by rw [hC, clEq E hp, (FL p hp).1]
    have rC' : ∀ p, p < N → 0 ≤ (C p).toInt := fun p hp => by rw [← cC p hp]; exact clC_r.1
    -- the class
    obtain ⟨c1, c2, c3⟩ := cWeigh S.1.1 S.1.2.1 S.1.2.2.1 hN S.1.2.2.2.2.2.2.2 hk (by omega) (F := fun p => s.1 (q 6) p) zFr.id (fun p _ => rfl)
    obtain ⟨s6, hs6⟩ : ∃ s6, s6 = F_X5_weigh (q 0) k s := ⟨_, rfl⟩
    rw [← hs6] at c1 c2 c3
    rw [q0] at hs6
    obtain ⟨x, x1, x2⟩ := cGreat S.1.1 S.1.2.2.1 hN S.1.2.2.2.2.2.2.2 c1 (-1)
    obtain ⟨y, y1, y2⟩ := cGreat S.1.1 S.1.2.2.1 hN S.1.2.2.2.2.2.2.2 c1 x
    have cc : ∀ but, wn (sB N u) (fun p => s6.1 (q 7) p) but N = wn (sB N u) C but N := fun but => wn_cg N (fun p hp sp => by
      have sp' := sB_t.mp sp
      show s6.1 (q 7) p = C p
      rw [c3 p sp'.1 hp sp', cC p hp])
    rw [cc, em1] at x2
    rw [cc] at y2
    have xs : ∀ j, s6.2.2 x0 j = σ1.2.2 x0 j := fun j => by rw [c1.rf]; exact xr j
    have g7 : (s6.2.2 rv 4).getD 0 = q 7 := by
      have := S.1.1.1.1.2.2.2.2.2.2
      rw [q0] at this
      rw [c1.rf]
      exact this
    rw [q0] at x1 y1
    rw [← hs6] at f1
    simp only [xs, xrv h.2.1, x1, y1, g7] at f1
    -- the reference
    obtain ⟨v, t', z1, z2, z3, z4⟩ := mWin S.2.1.1 S.2.1.2.1 S.2.1.2.2.1 S.2.1.2.2.2.1 S.2.1.2.2.2.2.1 hN S.2.1.2.2.2.2.2.2.2 hk (by omega) (F := fun p => t.1 (Y 55) p) zFr.id (fun p _ => rfl)
    have z2' : v.toInt = wn (sB N u) C (-1) N := by rw [z2, hC]
    have vx : v.toInt = x.toInt := by rw [z2', x2]
    have hv2 : ∀ p, p < N → sB N u p = true → 0 ≤ v.toInt ∧ v.toInt < N := fun p hp sp => by
      have o := wn_0 (C := C) (but := -1) N p hp sp (by omega)
      rcases wn_r (S := sB N u) (C := C) (but := -1) N with z | ⟨W, W1, W2, -⟩ <;> omega
    have r55 : t'.1 (Y 55) = t.1 (Y 55) := zUw.r55 S.2.1.1 z4
    have L := mMargL S hk (by omega) hC rC' (v6 := v) hv2 10000 1 (-2) 1 t' (by decide) (by omega) (Or.inr rfl) (by omega) z3 r55 (by rw [wn_1 sB_0, if_pos (by decide)]; decide)
    rw [wn_N] at L
    simp only [z1] at f2
    rw [show v2 = (F_X11_margin_25 v m0 k 10000 1 (-2) t').1 from congrArg Prod.fst f2, L]
    by_cases d : wn (sB N u) C v.toInt N < 0
    · rw [if_pos d]
      by_cases dx : x.toInt < 0
      · rw [if_pos dx] at f1
        rw [(zPr2 f1).1]; exact em2
      · rw [if_neg dx, if_pos (by rw [y2, ← vx]; exact d)] at f1
        rw [(zPr2 f1).1]; exact em2
    · rw [if_neg d]
      obtain ⟨W, W1, W2, W3, W4⟩ := (wn_r (S := sB N u) (C := C) (but := v.toInt) N).resolve_left (by omega)
      have sW := sB_t.mp W3
      obtain ⟨o1, o2⟩ := hv2 W W1 W3
      obtain ⟨X, X1, X2, X3, -⟩ := (wn_r (S := sB N u) (C := C) (but := -1) N).resolve_left (by omega)
      have sX := sB_t.mp X3
      have hxX : x.toInt = X := by omega
      have hyW : y.toInt = W := by rw [y2, ← vx]; exact W2
      have nX : x.toNatClampNeg = X := by rw [ztn, hxX]; rfl
      have nW : y.toNatClampNeg = W := by rw [ztn, hyW]; rfl
      rw [if_neg (show ¬ x.toInt < 0 by omega), if_neg (show ¬ y.toInt < 0 by omega)] at f1
      rw [(zPr2 f1).1, nX, nW, c3 X sX.1 sX.2.1 sX, c3 W sW.1 sW.2.1 sW, show v.toInt.toNat = X by omega, show (wn (sB N u) C v.toInt N).toNat = W by omega]
      show (clC q s gl w X (s.1 (q 6) X) - clC q s gl w W (s.1 (q 6) W)).toInt = _
      rw [cC X sX.2.1, cC W sW.2.1]
  · rw [if_pos c] at f1 f2
    rw [(zPr2 f1).1, (zPr2 f2).1]
end NOW2
end
-- 35y10.lw43
section
/-! THE REFERENCE'S MOUTH: its way -/
section FRM2
variable {a k q v nm nO m b : Nat} {T : zTn} {τ τ' t : zS} {s s' : zA} {Y : Nat → Nat}
def aPk (Y : Nat → Nat) (a b : Nat) : Nat → Nat → Prop := fun c j => (c = a ∧ j ≠ 19 ∧ j ≠ 18 ∧ j ≠ 57 ∧ j ≠ 62) ∨ ((c = Y 22 ∨ c = Y 23 ∨ c = Y 24 ∨ c = Y 25) ∧ 12 * b + 1 ≤ j ∧ j < 12 * b + 12) ∨ (c = Y 21 ∧ j = b) ∨ ∃ i, zQs i ∧ 26 ≤ i ∧ i ≤ 43 ∧ c = Y i
theorem aPk.o {j : Nat} (h : j ≠ 19 ∧ j ≠ 18 ∧ j ≠ 57 ∧ j ≠ 62) : aPk Y a b a j := Or.inl ⟨rfl, h⟩
theorem aPk.r {j : Nat} (h : zQs j) (h2 : 26 ≤ j ∧ j ≤ 43) (i : Nat) : aPk Y a b (Y j) i := Or.inr (Or.inr (Or.inr ⟨j, h, h2.1, h2.2, rfl⟩))
theorem aPk.qq {i j : Nat} (h : j = 22 ∨ j = 23 ∨ j = 24 ∨ j = 25) (h2 : 12 * b + 1 ≤ i ∧ i < 12 * b + 12) : aPk Y a b (Y j) i := Or.inr (Or.inl ⟨by rcases h with rfl | rfl | rfl | rfl <;> simp, h2⟩)
theorem aPk.on (h : zFi (aPk Y a b) τ t) : zFi (aPk Y a b) τ (F_X11_goesOn a t) := fi_X11_goesOn h (aPk.o (by decide)) (aPk.o (by decide)) (aPk.o (by decide))
theorem aPk.fa (h : zFi (aPk Y a b) τ t) (p : Int32) : zFi (aPk Y a b) τ (F_X11_fail a p t) := fi_X11_fail h (aPk.o (by decide)) (aPk.o (by decide))
theorem aPk.mu (h : zFi (aPk Y a b) τ t) (p : Int32) : zFi (aPk Y a b) τ (F_X11_must a p t) := fi_X11_must h (aPk.o (by decide)) (aPk.o (by decide)) (aPk.o (by decide))
theorem aPk.wr (h : zFi (aPk Y a b) τ t) (p r : Int32) : zFi (aPk Y a b) τ (F_X11_wrong a p r t) := fi_X11_wrong h (aPk.o (by decide)) (aPk.o (by decide))
theorem aPk.nd (h : zFi (aPk Y a b) τ t) : zFi (aPk Y a b) τ (F_X11_named a t).2 := fi_X11_named h (aPk.o (by decide)) (aPk.o (by decide)) (aPk.o (by decide)) (aPk.o (by decide)) (aPk.o (by decide))
theorem aPk.bd (h : zFi (aPk Y a b) τ t) (lo hi : Int32) : zFi (aPk Y a b) τ (F_X11_bounded a lo hi t).2 := fi_X11_bounded h (aPk.o (by decide)) (aPk.o (by decide)) (aPk.o (by decide)) (aPk.o (by decide)) (aPk.o (by decide))
theorem aPk.b1 (hY : zYz Y a τ.2.2) (h : zFi (aPk Y a b) τ t) {j : Nat} (hj : zQs j) (h26 : 26 ≤ j ∧ j ≤ 43) (lo hi : Int32) : zFi (aPk Y a b) τ (mB1 a j lo hi t) := by
  have e : (t.2.2 a j).getD 0 = Y j := by rw [h.1]; exact (hY.1 j hj).1
  unfold mB1
  rw [e]
  exact zFi.w (s := (F_X11_bounded a lo hi t).2) (aPk.bd h lo hi) (aPk.r hj h26 _)
theorem aPk.sv (hY : zYz Y a τ.2.2) (h : zFi (aPk Y a b) τ t) : t.1 a 19 = τ.1 a 19 ∧ t.1 a 18 = τ.1 a 18 := by
  have n : ∀ j, j = 19 ∨ j = 18 → ¬ aPk Y a b a j := fun j hj => by
    rintro (z | ⟨z, -⟩ | ⟨z, -⟩ | ⟨i, z1, -, -, z⟩)
    · omega
    · rcases z with z | z | z | z
      · exact (hY.1 22 (by unfold zQs; omega)).2 z.symm
      · exact (hY.1 23 (by unfold zQs; omega)).2 z.symm
      · exact (hY.1 24 (by unfold zQs; omega)).2 z.symm
      · exact (hY.1 25 (by unfold zQs; omega)).2 z.symm
    · exact (hY.1 21 (by unfold zQs; omega)).2 z.symm
    · exact (hY.1 i z1).2 z.symm
  exact ⟨h.2 _ _ (n 19 (Or.inl rfl)), h.2 _ _ (n 18 (Or.inr rfl))⟩
theorem aPk.en (hY : zYz Y a τ.2.2) (hb : (τ.1 a 19).toNatClampNeg = b) (h : zFi (aPk Y a b) τ t) (x : Int32) : zFi (aPk Y a b) τ (mPEnd a x t) := by
  have e : (t.2.2 a 21).getD 0 = Y 21 := by rw [h.1]; exact (hY.1 21 (by unfold zQs; omega)).1
  have K1 : zFi (aPk Y a b) τ (zu t.1 a 42 (t.1 a 42 + (1 : Int32)), t.2.1, t.2.2) := h.w (aPk.o (by decide))
  unfold mPEnd
  split
  · exact h
  · split
    · exact K1
    · rw [e]
      have e19 : (zu t.1 a 42 (t.1 a 42 + (1 : Int32)) a 19).toNatClampNeg = b := by rw [zu_j _ _ _ _ _ (by decide), (aPk.sv hY h).1]; exact hb
      rw [e19]
      exact K1.w (Or.inr (Or.inr (Or.inl ⟨rfl, rfl⟩)))
theorem aPk.pl (hY : zYz Y a τ.2.2) (hb : (τ.1 a 19).toInt = b) (hb1 : b ≤ 1) (h : zFi (aPk Y a b) τ t) (h42 : 0 ≤ (t.1 a 42).toInt ∧ (t.1 a 42).toInt < 11) : zFi (aPk Y a b) τ (F_X11_tellPlace a t) := by
  have e12 : (12 : Int32).toInt = 12 := by decide
  have e1 : (1 : Int32).toInt = 1 := by decide
  have hb' : (τ.1 a 19).toNatClampNeg = b := by rw [ztn, hb]; rfl
  have t19 : (t.1 a 19).toInt = b := by rw [(aPk.sv hY h).1]; exact hb
  have em : ((12 : Int32) * t.1 a 19).toInt = 12 * b := by rw [zb_mul (by rw [e12, t19]; omega) (by rw [e12, t19]; omega), e12, t19]
  have e42 : ((12 : Int32) * t.1 a 19 + t.1 a 42).toInt = 12 * b + (t.1 a 42).toInt := by rw [zb_add (by rw [em]; omega) (by rw [em]; omega), em]
  obtain ⟨iv, hiv⟩ : ∃ iv, iv = ((12 : Int32) * t.1 a 19 + t.1 a 42 + (1 : Int32)).toNatClampNeg := ⟨_, rfl⟩
  have hi : 12 * b + 1 ≤ iv ∧ iv < 12 * b + 12 := by rw [hiv, ztn, zb_add (by rw [e42, e1]; omega) (by rw [e42, e1]; omega), e42, e1]; omega
  obtain ⟨x, τ1, p1⟩ : ∃ x τ1, F_X11_named a t = (x, τ1) := ⟨_, _, rfl⟩
  obtain ⟨t0, p2⟩ : ∃ t0, F_X11_must a 1 τ1 = t0 := ⟨_, rfl⟩
  have f0 : zFi (aPk Y a b) τ t0 := by
    have q := aPk.nd h
    rw [p1] at q
    rw [← p2]
    exact aPk.mu q 1
  by_cases h0 : 0 < (t0.1 a 13).toInt
  · rw [mPl_e4 p1 p2 h0]; exact f0
  · obtain ⟨v23, hv⟩ : ∃ v23, F_X11_numberOf a (τ1.1 a 11) t0 = v23 := ⟨_, rfl⟩
    have e : ∀ (u : zS) j, zFi (aPk Y a b) τ u → (j = 22 ∨ j = 23 ∨ j = 24 ∨ j = 25) → (u.2.2 a j).getD 0 = Y j := fun u j f hj => by rw [f.1]; exact (hY.1 j (by unfold zQs; omega)).1
    have K : zFi (aPk Y a b) τ (zu t0.1 ((t0.2.2 a 22).getD 0) iv v23, t0.2.1, t0.2.2) := by
      rw [e t0 22 f0 (by omega)]
      exact f0.w (aPk.qq (by omega) hi)
    obtain ⟨w, hw⟩ : ∃ w, w = if v23.toInt < 0 then F_X11_wrong a 4 (τ1.1 a 11) (zu t0.1 ((t0.2.2 a 22).getD 0) iv v23, t0.2.1, t0.2.2) else (zu t0.1 ((t0.2.2 a 22).getD 0) iv v23, t0.2.1, t0.2.2) := ⟨_, rfl⟩
    have fw : zFi (aPk Y a b) τ w := by
      rw [hw]
      split
      · exact aPk.wr K _ _
      · exact K
    obtain ⟨x1, t1, b1⟩ : ∃ x1 t1, F_X11_bounded a 1 99 w = (x1, t1) := ⟨_, _, rfl⟩
    have f1 : zFi (aPk Y a b) τ t1 := by have q := aPk.bd fw 1 99; rw [b1] at q; exact q
    have z1 : zFi (aPk Y a b) τ (zu t1.1 ((w.2.2 a 23).getD 0) iv x1, t1.2.1, t1.2.2) := by rw [e w 23 fw (by omega)]; exact f1.w (aPk.qq (by omega) hi)
    obtain ⟨x2, t2, d1⟩ : ∃ x2 t2, F_X11_bounded a 0 99 (zu t1.1 ((w.2.2 a 23).getD 0) iv x1, t1.2.1, t1.2.2) = (x2, t2) := ⟨_, _, rfl⟩
    have f2 : zFi (aPk Y a b) τ t2 := by have q := aPk.bd z1 0 99; rw [d1] at q; exact q
    have z2 : zFi (aPk Y a b) τ (zu t2.1 ((t1.2.2 a 24).getD 0) iv x2, t2.2.1, t2.2.2) := by rw [e t1 24 f1 (by omega)]; exact f2.w (aPk.qq (by omega) hi)
    obtain ⟨x3, t3, g1⟩ : ∃ x3 t3, F_X11_bounded a 0 99 (zu t2.1 ((t1.2.2 a 24).getD 0) iv x2, t2.2.1, t2.2.2) = (x3, t3) := ⟨_, _, rfl⟩
    have f3 : zFi (aPk Y a b) τ t3 := by have q := aPk.bd z2 0 99; rw [g1] at q; exact q
    have z3 : zFi (aPk Y a b) τ (zu t3.1 ((t2.2.2 a 25).getD 0) iv x3, t3.2.1, t3.2.2) := by rw [e t2 25 f2 (by omega)]; exact f3.w (aPk.qq (by omega) hi)
    rw [mPl_e3 p1 p2 h0 hv hiv.symm hw b1 d1 g1]
    exact aPk.en hY hb' (aPk.mu z3 4) x
theorem aPk.law (hY : zYz Y a τ.2.2) (h : zFi (aPk Y a b) τ t) (p : Int32) : zFi (aPk Y a b) τ (F_X11_tellLaw a p t) := by
  have r : ∀ j, zQs j → 26 ≤ j ∧ j ≤ 43 → ∀ i : Nat, aPk Y a b ((τ.2.2 a j).getD 0) i := fun j hj h26 i => by rw [(hY.1 j hj).1]; exact aPk.r hj h26 i
  have q : ∀ j, (j = 30 ∨ j = 31 ∨ j = 33 ∨ j = 34 ∨ j = 35 ∨ j = 36 ∨ j = 37 ∨ j = 39 ∨ j = 40 ∨ j = 43) → zQs j := fun j hj => by unfold zQs; omega
  exact fi_X11_tellLaw h (aPk.o (by decide)) (aPk.o (by decide)) (aPk.o (by decide)) (r 33 (q _ (by decide)) (by decide)) (r 36 (q _ (by decide)) (by decide)) (aPk.o (by decide)) (r 39 (q _ (by decide)) (by decide)) (r 40 (q _ (by decide)) (by decide)) (aPk.o (by decide)) (r 43 (q _ (by decide)) (by decide)) (aPk.o (by decide)) (r 37 (q _ (by decide)) (by decide)) (aPk.o (by decide)) (r 30 (q _ (by decide)) (by decide)) (r 31 (q _ (by decide)) (by decide)) (r 34 (q _ (by decide)) (by decide)) (r 35 (q _ (by decide)) (by decide))

/-- once the mouth is told, it runs nowhere -/
def zX2 (Y : Nat → Nat) (b : Nat) (τ : zS) (s : zA) : Prop := s.1 = 0 → s.2.2.2.2.2.1 ≠ 0 → τ.1 (Y 22) (12 * b) = -2
theorem zX2.fr (hY : zYz Y a τ.2.2) (f : zFi (aPk Y a b) τ t) : t.1 (Y 22) (12 * b) = τ.1 (Y 22) (12 * b) := f.2 _ _ (by
  have q22 : zQs 22 := by unfold zQs; omega
  rintro (⟨z, -⟩ | ⟨-, z, -⟩ | ⟨z, -⟩ | ⟨i, z1, z2, -, z⟩)
  · exact (hY.1 22 q22).2 z
  · omega
  · exact hY.2 22 21 q22 (by unfold zQs; omega) (by decide) z
  · exact hY.2 22 i q22 z1 (by omega) z)
theorem mouth2 (hY : zYz Y a τ.2.2) (hb : (τ.1 a 19).toInt = b) (hb1 : b ≤ 1) (h : ¬ 0 < ((F_X11_tellMouth a τ).1 a 13).toInt) : (F_X11_tellMouth a τ).1 (Y 22) (12 * b) = -2 := by
  have e12 : (12 : Int32).toInt = 12 := by decide
  have f1 := aPk.mu (aPk.nd (zFi.id (A := aPk Y a b) (σ := τ))) 4
  obtain ⟨r, hr⟩ : ∃ r, r = F_X11_named a τ := ⟨_, rfl⟩
  rw [← hr] at f1
  obtain ⟨u, hu⟩ : ∃ u, u = F_X11_must a 4 r.2 := ⟨_, rfl⟩
  rw [← hu] at f1
  have y : ∀ j, zQs j → (u.2.2 a j).getD 0 = Y j := fun j hj => by rw [f1.1]; exact (hY.1 j hj).1
  have n : ∀ j, 21 ≤ j → j ≤ 25 → a ≠ Y j := fun j j1 j2 z => (hY.n.2 j j1 j2) z.symm
  have u19 : u.1 a 19 = τ.1 a 19 := (aPk.sv hY f1).1
  have ev : ((12 : Int32) * τ.1 a 19).toNatClampNeg = 12 * b := by rw [ztn, zb_mul (by rw [e12, hb]; omega) (by rw [e12, hb]; omega), e12, hb]; omega
  have q : ∀ j, 21 ≤ j → j ≤ 25 → zQs j := fun j j1 j2 => by unfold zQs; omega
  have d : ∀ j, 21 ≤ j → j ≤ 25 → j ≠ 22 → ¬ Y 22 = Y j := fun j j1 j2 h => hY.2 22 j (q 22 (by decide) (by decide)) (q j j1 j2) (fun z => h z.symm)
  unfold F_X11_tellMouth at h ⊢
  simp only [zlt, zlt2] at h ⊢
  rw [← hr, ← hu] at h ⊢
  by_cases c : 0 < (u.1 a 13).toInt
  · rw [if_pos c] at h
    exact absurd c h
  · rw [if_neg c]
    simp only [y 22 (q 22 (by decide) (by decide)), y 23 (q 23 (by decide) (by decide)), y 24 (q 24 (by decide) (by decide)), y 25 (q 25 (by decide) (by decide)), y 21 (q 21 (by decide) (by decide)), zu_n _ _ _ (n 22 (by decide) (by decide)), zu_n _ _ _ (n 23 (by decide) (by decide)), zu_n _ _ _ (n 24 (by decide) (by decide)), zu_n _ _ _ (n 25 (by decide) (by decide)), zu_j _ _ _ _ _ (by decide : ¬ 41 = 19), u19, ev]
    rw [zu_n _ _ _ (d 21 (by decide) (by decide) (by decide)), zu_n _ _ _ (d 25 (by decide) (by decide) (by decide)), zu_n _ _ _ (d 24 (by decide) (by decide) (by decide)), zu_n _ _ _ (d 23 (by decide) (by decide) (by decide)), zu_s]
theorem xTell22 (hd : zWd a k q v nm nO) (hT : zTm T m) (hK : zTK T m) (h : zXo a k q v nm nO m T τ s) (hs : s.1 = 0) (hY : zYz Y a τ.2.2) (hb : (τ.1 a 19).toInt = b) (hb1 : b ≤ 1) (hg : zX2 Y b τ s) : zX2 Y b (F_X11_tellOne a τ) (aTell T s) := by
  obtain ⟨D1, D2, D3, D4, D5, D6, D7, D8, D9⟩ := xDisp hd hT hK h hs
  have X := xTell hd hT hK h hs
  have r42 := (h.1.2.2.2.2 hs).2.2.2.2.2.2.1
  have r10 := (h.1.2.2.2.2 hs).2.2.2.2.2.2.2.1
  have on42 : (F_X11_goesOn a τ).1 a 42 = τ.1 a 42 := (fi_X11_goesOn (A := fun c j => c = a ∧ j ≠ 42) zFi.id ⟨rfl, by decide⟩ ⟨rfl, by decide⟩ ⟨rfl, by decide⟩).2 _ _ (fun z => z.2 rfl)
  have on := aPk.on (zFi.id (A := aPk Y a b) (σ := τ))
  have q : ∀ j, (j = 26 ∨ j = 27 ∨ j = 28 ∨ j = 29) → zQs j := fun j hj => by unfold zQs; omega
  have keep : zFi (aPk Y a b) τ (F_X11_tellOne a τ) → ((aTell T s).1 = 0 → (aTell T s).2.2.2.2.2.1 = s.2.2.2.2.2.1) → zX2 Y b (F_X11_tellOne a τ) (aTell T s) := fun f hm z1 z2 => by
    rw [zX2.fr hY f]
    exact hg hs (by rw [← hm z1]; exact z2)
  have bad : ∀ t', F_X11_tellOne a τ = t' → 0 < (t'.1 a 13).toInt → zX2 Y b (F_X11_tellOne a τ) (aTell T s) := fun t' e hp z1 => by
    have := X.1.2.1
    rw [e] at this
    omega
  have f2 : 0 < ((F_X11_fail a 2 τ).1 a 13).toInt := by
    have p2 := xFail hd h 2 2 (by decide) (by decide)
    have f : (aFail T 2 s).1 ≠ 0 := aFail_1 (by decide)
    have := p2.1.2.1
    have := p2.1.2.2.1
    omega
  have f1 : 0 < ((F_X11_fail a 1 τ).1 a 13).toInt := by
    have p2 := xFail hd h 1 1 (by decide) (by decide)
    have f : (aFail T 1 s).1 ≠ 0 := aFail_1 (by decide)
    have := p2.1.2.1
    have := p2.1.2.2.1
    omega
  by_cases c0 : T.1 s.2.2.1 = 0
  · by_cases cm : s.2.2.2.2.2.1 = 0
    · by_cases hp : 0 < ((F_X11_tellOne a τ).1 a 13).toInt
      · exact bad _ rfl hp
      · intro _ _
        have e := D1 c0 cm
        rw [e] at hp ⊢
        exact mouth2 (τ := F_X11_goesOn a τ) (by rw [on.1]; exact hY) (by rw [(aPk.sv hY on).1]; exact hb) hb1 hp
    · exact bad _ (D2 c0 cm) f2
  · by_cases c1 : T.1 s.2.2.1 = 1
    · by_cases cm : s.2.2.2.2.2.2.1 = 11
      · exact bad _ (D4 c1 cm) f2
      · refine keep (by rw [D3 c1 cm]; exact aPk.pl hY hb hb1 on (by rw [on42, r42]; omega)) (fun hq => ?_)
        have e1 : aPlace1 T s = aTake T 1 s := by
          unfold aPlace1
          rw [if_neg (by omega)]
        have et : aTell T s = aTake T 24 (if (aPlace2 T (aTake T 1 s)).1 = 0 ∧ (aPlace2 T (aTake T 1 s)).2.2.2.2.2.2.1 < 11 then aSetP (aPlace2 T (aTake T 1 s)) (T.2.1 (aTake T 1 s).2.2.1) else aPlace2 T (aTake T 1 s)) := by
          unfold aTell aPlace
          rw [if_neg c0, if_pos c1, e1]
        rw [et] at hq ⊢
        have i := aTake_i hq
        have z2 : (aPlace2 T (aTake T 1 s)).1 = 0 := by
          have := i.1
          split at this
          · next c => exact c.1
          · exact this
        have w := aPlace2_i z2
        have mou : (aPlace2 T (aTake T 1 s)).2.2.2.2.2.1 = (aTake T 1 s).2.2.2.2.2.1 := congrArg (fun z => z.1) w.2.2
        have tk : (aTake T 1 s).2.2.2.2.2.1 = s.2.2.2.2.2.1 := aM_take (c := s.2.2.2.2.2.1) rfl
        have i4 := congrArg (fun z => z.2.2.1) i.2.2.2
        refine (i4.trans ?_).trans (mou.trans tk)
        split <;> rfl
    · have nm : (aTell T s).1 = 0 → (aTell T s).2.2.2.2.2.1 = s.2.2.2.2.2.1 := fun _ => aM_tell (c := s.2.2.2.2.2.1) rfl c0 c1
      have rg := hT.2.1 _ (h.1.2.2.2.2 hs).1
      by_cases c6 : T.1 s.2.2.1 ≤ 6
      · obtain ⟨p, -, e⟩ := D5 (by omega) c6
        exact keep (by rw [e]; exact aPk.law hY on p) nm
      · by_cases c7 : T.1 s.2.2.1 = 7
        · exact keep (by rw [D6 c7]; exact aPk.mu (aPk.b1 hY (aPk.b1 hY on (q _ (by omega)) (by decide) _ _) (q _ (by omega)) (by decide) _ _) _) nm
        · by_cases c8 : T.1 s.2.2.1 = 8
          · exact keep (by rw [D7 c8]; exact aPk.mu (aPk.b1 hY on (q _ (by omega)) (by decide) _ _) _) nm
          · by_cases c9 : T.1 s.2.2.1 = 9
            · exact keep (by rw [D8 c9]; exact aPk.mu (aPk.b1 hY on (q _ (by omega)) (by decide) _ _) _) nm
            · exact bad _ (D9 (by omega)) f1
end FRM2
section MREAD2
variable {κ : Int} {L2 : List Nat} {kd2 : Nat → Nat} {σ2 D0 : zS} {m0 k q v nm nO m x b : Nat} {T : zTn}
theorem mRead2 (hJ : zJ κ L2 kd2 σ2) (hm : zT L2 kd2 m0 11) (hd : zWd m0 k q v nm nO) (hT : zTm T m) (hK : zTK T m) (w0 : zXo m0 k q v nm nO m T (zRi m0 D0) aZ) (dF : zFi (fun c j => (c = m0 ∧ (j = 2 ∨ j = 4 ∨ j = 10)) ∨ c = x ∨ c = k ∨ c = q ∨ c = v) σ2 D0) (tk : zT L2 kd2 x 103 ∧ zT L2 kd2 k 105 ∧ zT L2 kd2 q 106 ∧ zT L2 kd2 v 107) (hb1 : b ≤ 1) (h18 : (σ2.1 m0 18).toInt = 1 - (b : Int)) : zX2 (mR σ2 m0) b (xEnd m0 T 500 aZ (zRi m0 D0)) (aRun T 500 aZ) := by
  have hY := zYz.of hJ hm
  have nk : ∀ c kc : Nat, zT L2 kd2 c kc → kc ≠ 103 → kc ≠ 105 → kc ≠ 106 → kc ≠ 107 → c ≠ x ∧ c ≠ k ∧ c ≠ q ∧ c ≠ v := fun c kc hc n1 n2 n3 n4 => ⟨zNk hc tk.1 n1, zNk hc tk.2.1 n2, zNk hc tk.2.2.1 n3, zNk hc tk.2.2.2 n4⟩
  have m1 := nk m0 11 hm (by decide) (by decide) (by decide) (by decide)
  have d18 : D0.1 m0 18 = σ2.1 m0 18 := dF.2 _ _ (by
    rintro (⟨-, z⟩ | z | z | z | z)
    · omega
    · exact m1.1 z
    · exact m1.2.1 z
    · exact m1.2.2.1 z
    · exact m1.2.2.2 z)
  have rD : D0.2.2 = σ2.2.2 := dF.1
  have hYD : zYz (mR σ2 m0) m0 D0.2.2 := by rw [rD]; exact hY
  obtain ⟨t5, g1, g2, g3, g4, g5, -⟩ := zRi_g (t := D0) hYD hb1 (by rw [d18]; exact h18)
  have r5 : t5.2.2 = σ2.2.2 := (congrArg Prod.snd g1).trans rD
  have hY5 : zYz (mR σ2 m0) m0 t5.2.2 := by rw [r5]; exact hY
  have X0 : zX2 (mR σ2 m0) b (zRi m0 D0) aZ := fun _ z => absurd rfl z
  exact (xEndI (γ := Unit) hd hT hK (fun τ s _ => zX2 (mR σ2 m0) b τ s ∧ zFi (aPm (mR σ2 m0) m0 b) t5 τ) (fun _ g => g) (fun τ s g h hs hi => ⟨xTell22 hd hT hK h hs (by rw [hi.2.1, r5]; exact hY) (by rw [(aPm.sv hY5 hi.2).1]; exact g2) hb1 hi.1, xTellF hd hT hK h hs hY5 g2 hb1 hi.2⟩) 500 (zRi m0 D0) aZ () w0 ⟨X0, g4⟩).2.1
end MREAD2
end
-- 35y11.lw44
section
/-! WHAT GOES ON, WHOLE: read, made -/
section RD8C
variable {κ : Int} {L1 : List Nat} {kd1 : Nat → Nat} {L2 : List Nat} {kd2 : Nat → Nat} {σ1 σ2 τ1 τ2 : zS} {m0 x0 : Nat} {V : zWh} {ps pc sl rv sh cd td tt : Nat}
theorem zRL.read1 {v1 v2 : Int32} (hS : zSAM κ L1 kd1 L2 kd2 σ1 σ2) (h : zRL zQw L1 kd1 x0 m0 V ps pc sl rv sh cd σ1 σ2) (hTt : zTt x0 σ1.2.2 td tt) (hI1 : zI κ 0 L1 kd1 σ1) (hI2 : zJ κ L2 kd2 σ2) (hx0 : zT L1 kd1 x0 10) (hm0 : zT L2 kd2 m0 11) (f1 : (v1, τ1) = F_X10_read x0 σ1) (f2 : (v2, τ2) = F_X11_read m0 σ2) : zRL zQw L1 kd1 x0 m0 V ps pc sl rv sh cd τ1 τ2 ∧ ∃ td' tt', zTt x0 τ1.2.2 td' tt' := by
  obtain ⟨T, m, P, tk, kA, vA, qA, tt', N0, k, q, v, nm, nO, x, p1, p2, C0, D0, S0, y, K, ⟨hd, hd', hTm, hK⟩, ⟨v0, w0⟩, ⟨e, e2⟩, ⟨P1, s1, P2, s2⟩, er, ef, -, dF, tks⟩ := zRead1 hS hI1 hI2 hx0 hm0
  have ett : tt' = tt := Option.some.inj (s1.symm.trans hTt.2.1)
  subst ett
  obtain ⟨hL, hV, N, n, u, ⟨a1, a2, a3, a4, a5, a6, a7, a8, a9⟩, hq, hu, hh⟩ := id h
  obtain ⟨c1, c2, c3⟩ := cRead hL hI1 hx0 hTt P1 P2 s2 hd hK v0 e er ef f1
  obtain ⟨b, E, hb1, h18, hE, rE, E19, EF, EX, m1, m2⟩ := mRead hI2 hm0 hd' hTm hK w0 e2 dF tks f2 (fun _ => (0, 0, 0, 0))
  obtain ⟨dy, y1, y2⟩ := zi_ref (j := 5) (k2 := 2) hI1 hx0 (by rfl)
  have d1 := hTt.1
  have td9 : zT L1 kd1 td 9 := by
    obtain ⟨z, z1, z2⟩ := zi_ref (j := 10) (k2 := 9) hI1 hx0 (by rfl)
    rw [d1] at z1
    rw [Option.some.inj z1]
    exact z2
  have xP : x0 ≠ P := zNk hx0 P2 (by decide)
  have tP : tt' ≠ P := zNk s2 P2 (by decide)
  have dP : td ≠ P := zNk td9 P2 (by decide)
  have tps : zT L1 kd1 ps 4 := hL.2.2.2.2.2.2.1
  have kr := fun j j1 j2 j3 => zTt_k hI1 s2 j j1 j2 j3
  have krn : ∀ j, 2 ≤ j → j ≤ 9 → j ≠ 8 → 45 ≤ kd1 ((σ1.2.2 tt' j).getD 0) ∧ kd1 ((σ1.2.2 tt' j).getD 0) ≤ 51 := fun j j1 j2 j3 => by
    rw [(kr j j1 j2 j3).2]
    split <;> omega
  by_cases za : aAns (aRun T 500 aZ) = 0
  · obtain ⟨⟨z1, z2⟩, g1, g2, g3, g4, g5, g6, g7, g8, -, g10, -⟩ := c3 za
    obtain ⟨-, N2, l1, l2, -, l4, l5, l6, l7, l8, l9, l10⟩ := m2 za
    obtain ⟨X1, -, X3⟩ := EX z1 z2
    have M2 := mRead2 hI2 hm0 hd' hTm hK w0 dF tks hb1 h18
    rw [← hE] at M2
    have rx : ∀ j, j ≠ 10 → j ≠ 11 → τ1.2.2 x0 j = σ1.2.2 x0 j := fun j j1 j2 => by
      rw [g1, zu_j _ _ _ _ _ (fun z => j1 z.symm), zu_j _ _ _ _ _ (fun z => j2 z.symm), zu_n _ _ _ xP]
    have ro : ∀ c, c ≠ x0 → c ≠ P → τ1.2.2 c = σ1.2.2 c := fun c h1 h2 => by rw [g1, zu_n _ _ _ h1, zu_n _ _ _ h1, zu_n _ _ _ h2]
    have rk : ∀ a ∈ L1, kd1 a ≠ 10 → kd1 a ≠ 3 → τ1.2.2 a = σ1.2.2 a := fun a _ k1 k2 => ro a (fun z => k1 (by rw [z]; exact hx0.2)) (fun z => k2 (by rw [z]; exact P2.2))
    have r10 : τ1.2.2 x0 10 = some tt' := by rw [g1, zu_s]
    have r11 : τ1.2.2 x0 11 = some td := by rw [g1, zu_j _ _ _ _ _ (by decide), zu_s]
    have g10' : (τ1.2.2 x0 10).getD 0 = tt' := by rw [r10]; rfl
    have g5' : (τ1.2.2 x0 5).getD 0 = dy := by rw [rx 5 (by decide) (by decide), y1]; rfl
    have er2 : ∀ s, mR τ2 m0 s = mR σ2 m0 s := fun s => by rw [mR, l4]
    have n48 : ∀ j, ¬ zBm σ2 m0 (mR σ2 m0 21) j := fun j => by
      rintro (⟨z, -⟩ | z | z | z)
      · exact mR_m hI2 hm0 (s := 21) (k := 121) (by rfl) (by decide) z
      · exact mR_ne hI2 hm0 (s := 21) (s' := 48) (k := 121) (k' := 148) (by rfl) (by rfl) (by decide) z
      · exact mR_ne hI2 hm0 (s := 21) (s' := 49) (k := 121) (k' := 149) (by rfl) (by rfl) (by decide) z
      · exact mR_ne hI2 hm0 (s := 21) (s' := 67) (k := 121) (k' := 167) (by rfl) (by rfl) (by decide) z
    -- the class' rows at the end of the tellings
    obtain ⟨W, hW⟩ : ∃ W : Nat → Nat, W = fun j => (σ1.2.2 tt' j).getD 0 := ⟨_, rfl⟩
    have Wk : ∀ j, 2 ≤ j → j ≤ 5 → zT L1 kd1 (W j) (43 + j) := fun j j1 j2 => by
      have := kr j j1 (by omega) (by omega)
      rw [if_neg (by omega)] at this
      rw [hW]; exact this
    have rC0 : ∀ j, C0.2.2 tt' j = σ1.2.2 tt' j := fun j => by rw [er, zu_n _ _ _ tP]
    have hWz : zWz W P tt' C0.2.2 := ⟨fun j j1 j2 => ⟨by rw [rC0, hW], zNk (Wk j j1 j2) P2 (by omega)⟩, fun i j i1 i2 j1 j2 n => zNk (Wk i i1 i2) (Wk j j1 j2) (by omega)⟩
    have hXz : ∀ j, 2 ≤ j → j ≤ 5 → W j ≠ tt' ∧ W j ≠ (C0.2.2 tt' 6).getD 0 ∧ W j ≠ (C0.2.2 tt' 7).getD 0 ∧ W j ≠ (C0.2.2 tt' 9).getD 0 := fun j j1 j2 => by
      have q6 : zT L1 kd1 ((σ1.2.2 tt' 6).getD 0) 49 := kr 6 (by decide) (by decide) (by decide)
      have q7 : zT L1 kd1 ((σ1.2.2 tt' 7).getD 0) 50 := kr 7 (by decide) (by decide) (by decide)
      have q9 : zT L1 kd1 ((σ1.2.2 tt' 9).getD 0) 51 := kr 9 (by decide) (by decide) (by decide)
      rw [rC0, rC0, rC0]
      exact ⟨zNk (Wk j j1 j2) s2 (by omega), zNk (Wk j j1 j2) q6 (by omega), zNk (Wk j j1 j2) q7 (by omega), zNk (Wk j j1 j2) q9 (by omega)⟩
    obtain ⟨-, VG, -⟩ := vEndI (tt := tt') hd hK (fun τ s g => zVg W τ s g ∧ τ.2.2 = C0.2.2) (aG T) (fun τ s g hv hs hi => ⟨vTellG hd hK hv hs (by rw [hi.2]; exact hWz) (by rw [hi.2]; exact hXz) hi.1, by rw [show (F_X3_telling P τ).2.2 = τ.2.2 from rf_X3_telling (R := τ.2.2) rfl]; exact hi.2⟩) 500 C0 aZ (fun _ => (0, 0, 0, 0)) v0 ⟨fun _ _ p h1 h2 => by have h2' : (p : Int) ≤ 0 := h2; omega, rfl⟩
    have VG' := VG z1 z2
    have tree : ∀ p : Nat, 1 ≤ p → p < N2 → (vEnd P T 500 aZ C0).1 ((σ1.2.2 tt' 2).getD 0) p = E.1 (mR σ2 m0 22) (12 * b + p) := fun p h1 h2 => by
      have hp : (p : Int) ≤ (aRun T 500 aZ).2.2.2.2.2.2.1 := by
        rw [l2] at X1
        split at X1
        · omega
        · omega
      have q1 := (VG' p h1 hp).1
      have q2 := (X3 p h1 hp).1
      rw [hW] at q1
      exact Int32.toInt_inj.mp (q1.trans q2.symm)
    refine ⟨⟨hL.keep (fun a ha hk => rk a ha (by omega) (by omega)) (fun j hj => rx j (by omega) (by omega)), hV.cl2 (fun a ha hk => rk a ha (by omega) (by omega)) (fun j hj => rx j (by omega) (by omega)) (by rw [g10']; exact s2), N2, n, 0, ⟨?_, ?_, l1, by rw [g4]; exact a4, a5, by rw [g5]; rfl, by omega, by rw [l6]; rfl, ?_⟩, ?_, fun i hi => absurd hi (by omega), fun s hs => Or.inr ⟨by rw [g7]; exact b_0 s, by rw [er2]; exact l8 s hs⟩⟩, tt', td, r10, r11, fun z => hTt.2.2.1 z.symm, fun j j1 j2 j3 => ?_⟩
    · rw [g10', g8, ← X1, l2]
    · unfold zM zp
      show (τ2.1 (mR τ2 m0 21) (τ2.1 m0 18).toInt.toNat).toInt = N2
      rw [er2, l5, l10 _ _ (n48 _)]
      exact l2
    · rw [g5', g6 dy y1, l7]
    · have e0 : ∀ j, j < 50 → rC τ2.1 (mR τ2 m0 48) 0 j = if j < N2 then E.1 (mR σ2 m0 22) (12 * b + j) else 0 := fun j hj => by rw [rC_i hj, Nat.zero_add, er2, l9 j hj]
      rw [g2]
      have eN : ∀ j, N2 ≤ j → j < 50 → rC τ2.1 (mR τ2 m0 48) 0 j = 0 := fun j j1 j2 => by rw [e0 j j2, if_neg (by omega)]
      refine ⟨⟨fun p h1 h2 => ?_, fun p h1 h2 => Or.inr ⟨b_0 p, ?_⟩, ?_, ?_⟩, fun p hp => ⟨(eN (24 + p) (by omega) (by omega)).symm, (eN (36 + p) (by omega) (by omega)).symm, by show 0 ≤ (0 : Int32).toInt; decide, by show (0 : Int32).toInt ≤ 999; decide⟩, fun hN => ⟨⟨b_0 0, eN 12 (by omega) (by omega)⟩, ⟨rfl, eN 36 (by omega) (by omega)⟩, ?_⟩⟩
      · rw [e0 p (by omega), if_pos h2]
        show zt12 _ p = _
        unfold zt12
        rw [if_pos (by omega)]
        exact tree p h1 h2
      · rw [e0 _ (by omega), if_neg (by omega)]
      · rw [e0 _ (by omega), if_neg (by omega)]
      · rw [e0 _ (by omega), if_neg (by omega)]
      · rw [e0 0 (by omega), if_pos hN]
        refine M2 z1 (fun z => ?_)
        rw [if_pos z, l2] at X1
        omega
    · rw [ro tt' (zNk s2 hx0 (by decide)) tP, ro td (zNk td9 hx0 (by decide)) dP]
      exact fun z => hTt.2.2.2 j j1 j2 j3 z.symm
  · obtain ⟨g1, g2⟩ := c2 za
    obtain ⟨l1, l2⟩ := m1 za
    have ro : ∀ c, c ≠ P → τ1.2.2 c = σ1.2.2 c := fun c h1 => by rw [g1, zu_n _ _ _ h1]
    have fr : ∀ c j, kd1 c ≠ 3 → kd1 c ≠ 7 → kd1 c ≠ 8 → kd1 c ≠ 41 → kd1 c ≠ 43 → ¬ (45 ≤ kd1 c ∧ kd1 c ≤ 51) → c ≠ tt' → ¬ (c = x0 ∧ j = 13) → τ1.1 c j = σ1.1 c j := fun c j n3 n7 n8 n41 n43 n45 nt nx => g2 c j (by
      rintro (⟨-, z⟩ | z | ⟨i, i1, i2, i3, z⟩)
      · omega
      · exact nt z
      · have := krn i i1 i2 i3
        rw [← z] at this
        exact n45 this) nx n7
    have frk : ∀ c kc, zT L1 kd1 c kc → kc = 1 ∨ kc = 2 ∨ kc = 4 ∨ kc = 22 ∨ kc = 23 ∨ kc = 24 → τ1.1 c = σ1.1 c := fun c kc hc hk => funext (fun j => fr c j (by rw [hc.2]; omega) (by rw [hc.2]; omega) (by rw [hc.2]; omega) (by rw [hc.2]; omega) (by rw [hc.2]; omega) (by rw [hc.2]; omega) (fun z => by rw [z] at hc; have := hc.2.symm.trans s2.2; omega) (fun z => by have z1 := z.1; rw [z1] at hc; have := hc.2.symm.trans hx0.2; omega))
    have A := h.cl2 (τ1 := τ1) hx0 d1 y1 (fun a ha hk => ro a (fun z => by rw [z, P2.2] at hk; omega)) (fr td 0 (by rw [td9.2]; decide) (by rw [td9.2]; decide) (by rw [td9.2]; decide) (by rw [td9.2]; decide) (by rw [td9.2]; decide) (by rw [td9.2]; decide) hTt.2.2.1 (fun z => by omega)) (congrFun (frk ps 4 tps (by omega)) 1) (congrFun (frk ps 4 tps (by omega)) 2) (congrFun (frk dy 2 y2 (by omega)) 4) (fr x0 12 (by rw [hx0.2]; decide) (by rw [hx0.2]; decide) (by rw [hx0.2]; decide) (by rw [hx0.2]; decide) (by rw [hx0.2]; decide) (by rw [hx0.2]; decide) (zNk hx0 s2 (by decide)) (fun z => by omega)) (fun k hk => by
      obtain ⟨⟨uA, uI, uW, uM⟩, -⟩ := hL.2.2.2.1 k hk
      exact zcc.st (frk _ _ uA (by omega)) (frk _ _ uI (by omega)) (frk _ _ uW (by omega)) (frk _ _ uM (by omega)))
    have l : ∀ c j, ¬ (c = m0 ∧ j = 17) → ¬ zAm (mR σ2 m0) m0 b x k q v c j → τ2.1 c j = σ2.1 c j := fun c j n1 n2 => (l2 c j n1).trans (EF c j n2)
    refine ⟨A.m2 l1 (fun j hj => l _ _ (fun z => by omega) (zAm.fld hI2 hm0 tks hj)) (l _ _ (fun z => mR_m hI2 hm0 (s := 21) (k := 121) (by rfl) (by decide) z.1) (zAm.r21 hI2 hm0 tks (by omega))) (fun s hs j => l _ _ (fun z => mR_m hI2 hm0 (s := s) (k := 100 + s) (by rcases hs with rfl | rfl | rfl | rfl <;> rfl) (by omega) z.1) (zAm.row hI2 hm0 tks (by rcases hs with rfl | rfl | rfl | rfl <;> rfl) (by omega) j)), td, tt', hTt.keep (fun j => by rw [ro x0 xP]) (fun j => by rw [ro td dP]) (fun j => by rw [ro tt' tP])⟩
end RD8C
section RD9B
variable {b : Bool} {ks L1 L2 : List Nat} {kd1 kd2 : Nat → Nat} {σ1 σ2 : zS} {x0 m0 : Nat}
theorem zRL.start1 (hk : zKb b ks L1 kd1 σ1) (hx : zT L1 kd1 x0 10) (hJ : zJ 0 L2 kd2 σ2) (hm : zT L2 kd2 m0 11) (h0 : zRf0 m0 σ2) : ∃ V ps pc sl rv sh cd, zRL zQw L1 kd1 x0 m0 V ps pc sl rv sh cd σ1 σ2 := by
  obtain ⟨V, ps, pc, sl, hL⟩ := zLay.of hk hx
  obtain ⟨rv, sh, cd, hV⟩ := zRv.ofK hk hx
  have hI := hk.1
  have hz := hk.2.2.1
  obtain ⟨td, d1, d2⟩ := zi_ref (j := 10) (k2 := 9) hI hx (by rfl)
  obtain ⟨dy, y1, y2⟩ := zi_ref (j := 5) (k2 := 2) hI hx (by rfl)
  have gd : (σ1.2.2 x0 10).getD 0 = td := by rw [d1]; rfl
  have gy : (σ1.2.2 x0 5).getD 0 = dy := by rw [y1]; rfl
  have tp : zT L1 kd1 ps 4 := hL.2.2.2.2.2.2.1
  obtain ⟨⟨tA, tI, tW, tM⟩, -⟩ := hL.2.2.2.1 0 (by decide)
  have z1 := (hz _ tA.1).1 tA.2
  have z2 := (hz _ y2.1).2.1 y2.2
  have z4 := (hz _ tp.1).2.2.1 tp.2
  have z9 := (hz _ d2.1).2.2.2.1 d2.2
  have z10 := (hz _ hx.1).2.2.2.2.1 hx.2
  have hr := mStart hJ hm h0
  obtain ⟨-, h57, h62, -, hM, h67, -⟩ := h0
  have e0 : (0 : Int32).toInt = 0 := by decide
  refine ⟨V, ps, pc, sl, rv, sh, cd, hL, hV, 0, 0, 0, ⟨by rw [gd, z9.1]; exact e0, hM, by omega, by rw [z4.1]; exact e0, by omega, by rw [z4.2]; exact e0, by omega, h57, by rw [gy, z2, h62]; exact e0⟩, ⟨⟨fun p h1 h2 => absurd h2 (by omega), fun p h1 h2 => absurd h2 (by omega), ?_, ?_⟩, fun p hp => absurd hp (by omega), fun hN => absurd hN (by omega)⟩, fun i hi => absurd hi (by omega), fun s hs => Or.inr ⟨by rw [z10.1]; exact b_0 s, ?_⟩⟩
  · show σ1.1 (V.1 0) 4 = _
    rw [z1.2.1, rC_i (by decide), hr _ (by decide)]
  · show σ1.1 (V.1 0) 5 = _
    rw [z1.2.2, rC_i (by decide), hr _ (by decide)]
  · have q : (σ2.1 (mR σ2 m0 67) (s : Int).toNat).toInt = 0 := h67 s
    exact Int32.toInt_inj.mp (q.trans e0.symm)
end RD9B
end
-- 35y12.lw45
section
/-! THE RELATION OF THE ROWS OF LAWS: as zRN, what goes on whole, and the laws told alike -/
/-- where there are places, both texts tell alike -/
def zLwP (x0 m0 : Nat) (σ1 σ2 : zS) : Prop := 0 < zM m0 σ2 → zLw x0 m0 σ1 σ2
section LWP
variable {κ k : Int} {L1 : List Nat} {kd1 : Nat → Nat} {L2 : List Nat} {kd2 : Nat → Nat} {σ1 σ2 τ1 τ2 : zS} {Wk Wr Wf Wa : List Nat} {m0 x0 : Nat}
theorem zLw.c (h : zLw x0 m0 σ1 σ2) (hI : zI κ 0 L1 kd1 σ1) (hx : zT L1 kd1 x0 10) (g : zSm Wk Wr L1 kd1 σ1 τ1) (h1 : ([9, 46, 47, 48, 49, 50, 51].all (fun j => !(Wk.contains j))) = true) (h2 : (Wr.all (fun j => j == 5)) = true) : zLw x0 m0 τ1 σ2 := by
  have n : ∀ a ∈ L1, kd1 a ≠ 5 → τ1.2.2 a = σ1.2.2 a := fun a ha h5 => (g a ha).2 (fun q => h5 (by
    have := List.all_eq_true.mp h2 _ q
    simpa using this))
  have c : ∀ a kc, zT L1 kd1 a kc → kc ∈ ([9, 46, 47, 48, 49, 50, 51] : List Nat) → τ1.1 a = σ1.1 a := fun a kc ha hk => ((g a ha.1).1 (fun q => by
    rw [ha.2] at q
    have z := List.all_eq_true.mp h1 kc hk
    simp [q] at z)).1
  obtain ⟨td, d1, d2⟩ := zi_ref (j := 10) (k2 := 9) hI hx (by rfl)
  have gd : (σ1.2.2 x0 10).getD 0 = td := by rw [d1]; rfl
  have tr := zTt_k hI d2
  obtain ⟨td', B, K, gl, w1, w2, w3, w4, w5, w6, w7, w8⟩ := h
  have et : td' = td := by rw [← w1, gd]
  rw [et] at w3 w4 w5 w6 w7 w8
  have rt := n td d2.1 (by rw [d2.2]; decide)
  have ct : τ1.1 td = σ1.1 td := c td 9 d2 (by decide)
  have ec : ∀ j, (j = 3 ∨ j = 4 ∨ j = 5 ∨ j = 6 ∨ j = 7 ∨ j = 9) → τ1.1 ((σ1.2.2 td j).getD 0) = σ1.1 ((σ1.2.2 td j).getD 0) := fun j hj => by
    rcases hj with rfl | rfl | rfl | rfl | rfl | rfl
    · exact c _ 46 (tr 3 (by decide) (by decide) (by decide)) (by decide)
    · exact c _ 47 (tr 4 (by decide) (by decide) (by decide)) (by decide)
    · exact c _ 48 (tr 5 (by decide) (by decide) (by decide)) (by decide)
    · exact c _ 49 (tr 6 (by decide) (by decide) (by decide)) (by decide)
    · exact c _ 50 (tr 7 (by decide) (by decide) (by decide)) (by decide)
    · exact c _ 51 (tr 9 (by decide) (by decide) (by decide)) (by decide)
  refine ⟨td, B, K, gl, by rw [n x0 hx.1 (by rw [hx.2]; decide)]; exact gd, w2, by rw [ct]; exact w3, fun v hv => ⟨?_, (w4 v hv).2⟩, fun j p j1 j2 hp => ?_, fun j hj => by rw [ct]; exact w6 j hj, by rw [ct]; exact w7, by rw [ct]; exact w8⟩
  · rw [rt]
    exact (w4 v hv).1.cg (ec 6 (by omega)) (ec 7 (by omega)) (ec 9 (by omega))
  · rw [rt, ec j (by omega)]
    exact w5 j p j1 j2 hp
theorem zM.m (hJ : zJ k L2 kd2 σ2) (hm : zT L2 kd2 m0 11) (g : zSame m0 Wf Wa L2 kd2 σ2 τ2) (h1 : Wf.contains 18 = false) (h2 : Wa.contains 121 = false) : zM m0 τ2 = zM m0 σ2 := by
  have er : ∀ s, mR τ2 m0 s = mR σ2 m0 s := fun s => by rw [mR, g.2.2]
  have e18 : τ2.1 m0 18 = σ2.1 m0 18 := g.2.1 18 (fun q => by simp [q] at h1)
  have ht : zT L2 kd2 (mR σ2 m0 21) 121 := mR_t hJ hm (by rfl)
  have r : τ2.1 (mR σ2 m0 21) = σ2.1 (mR σ2 m0 21) := (g.1 _ ht.1 (by rw [ht.2]; decide) (fun q => by rw [ht.2] at q; simp [q] at h2)).1
  unfold zM zp
  rw [e18]
  show (τ2.1 (mR τ2 m0 21) _).toInt = (σ2.1 (mR σ2 m0 21) _).toInt
  rw [er, r]
theorem zLwP.m (h : zLwP x0 m0 σ1 σ2) (hJ : zJ k L2 kd2 σ2) (hm : zT L2 kd2 m0 11) (g : zSame m0 Wf Wa L2 kd2 σ2 τ2) (h1 : Wf.contains 18 = false) (h2 : ([121, 123, 124, 125, 126, 127, 128, 129, 130, 131, 133, 134, 135, 136, 137, 139, 140].all (fun j => !(Wa.contains j))) = true) : zLwP x0 m0 σ1 τ2 := by
  have M2 : zM m0 τ2 = zM m0 σ2 := zM.m hJ hm g h1 (nC h2 (by rfl))
  have er : ∀ s, mR τ2 m0 s = mR σ2 m0 s := fun s => by rw [mR, g.2.2]
  have eY : mR τ2 m0 = mR σ2 m0 := funext er
  have r : ∀ s, zQs s → 100 + s ∈ ([121, 123, 124, 125, 126, 127, 128, 129, 130, 131, 133, 134, 135, 136, 137, 139, 140] : List Nat) → τ2.1 (mR σ2 m0 s) = σ2.1 (mR σ2 m0 s) := fun s hs hk => by
    have ht : zT L2 kd2 (mR σ2 m0 s) (100 + s) := mR_t hJ hm (zQs_k hs).1
    refine (g.1 _ ht.1 (by rw [ht.2]; omega) (fun q => ?_)).1
    rw [ht.2] at q
    have z := List.all_eq_true.mp h2 (100 + s) hk
    simp [q] at z
  have e18 : τ2.1 m0 18 = σ2.1 m0 18 := g.2.1 18 (fun q => by simp [q] at h1)
  have qq : ∀ s, ((23 ≤ s ∧ s ≤ 31) ∨ (33 ≤ s ∧ s ≤ 37) ∨ s = 39 ∨ s = 40) → τ2.1 (mR σ2 m0 s) = σ2.1 (mR σ2 m0 s) := fun s hs => r s (by unfold zQs; omega) (by
    simp only [List.mem_cons, List.not_mem_nil, or_false]
    omega)
  intro hz
  rw [M2] at hz
  obtain ⟨td, B, K, gl, w1, w2, w3, w4, w5, w6, w7, w8⟩ := h hz
  refine ⟨td, B, K, gl, w1, by rw [e18]; exact w2, w3, fun v hv => ⟨(w4 v hv).1, ?_⟩, fun j p j1 j2 hp => ?_, fun j hj => ?_, w7, w8⟩
  · rw [eY]
    exact (w4 v hv).2.cg (Nat.le_refl _) (Nat.le_refl _) (fun i _ _ => ⟨by rw [qq 39 (by omega)], by rw [qq 40 (by omega)]⟩) (fun j i j1 j2 _ _ => by rw [qq j (by omega)]) (by rw [qq 30 (by omega)]) (by rw [qq 31 (by omega)])
  · rw [M2] at hp
    rw [er, qq (20 + j) (by omega)]
    exact w5 j p j1 j2 hp
  · rw [er, qq (26 + j) (by omega)]
    exact w6 j hj
theorem zLwP.c (h : zLwP x0 m0 σ1 σ2) (hI : zI κ 0 L1 kd1 σ1) (hx : zT L1 kd1 x0 10) (g : zSm Wk Wr L1 kd1 σ1 τ1) (h1 : ([9, 46, 47, 48, 49, 50, 51].all (fun j => !(Wk.contains j))) = true) (h2 : (Wr.all (fun j => j == 5)) = true) : zLwP x0 m0 τ1 σ2 := fun hz => (h hz).c hI hx g h1 h2
end LWP
def zRP (κ : Int) (L1 : List Nat) (kd1 : Nat → Nat) (L2 : List Nat) (kd2 : Nat → Nat) (x0 m0 : Nat) (σ1 σ2 : zS) : Prop := zRN κ L1 kd1 L2 kd2 x0 m0 σ1 σ2 ∧ zLwP x0 m0 σ1 σ2 ∧ ∃ V ps pc sl rv sh cd, zRL zQw L1 kd1 x0 m0 V ps pc sl rv sh cd σ1 σ2
section RP
variable {κ k : Int} {L1 : List Nat} {kd1 : Nat → Nat} {L2 : List Nat} {kd2 : Nat → Nat} {σ1 σ2 τ1 τ2 : zS} {Wk Wr Wf Wa : List Nat} {m0 x0 : Nat} {v1 v2 p q r : Int32}
theorem zRP.le (h0 : k ≤ κ) (h : zRP κ L1 kd1 L2 kd2 x0 m0 σ1 σ2) : zRP k L1 kd1 L2 kd2 x0 m0 σ1 σ2 := ⟨h.1.le h0, h.2⟩
theorem zRP.c0 (h : zRP κ L1 kd1 L2 kd2 x0 m0 σ1 σ2) (hx : zT L1 kd1 x0 10) (hI : zI κ 0 L1 kd1 σ1) (g : zSm Wk [] L1 kd1 σ1 τ1) (h1 : ([1, 2, 4, 9, 10, 22, 23, 24, 39, 40, 46, 47, 48, 49, 50, 51].all (fun j => !(Wk.contains j))) = true) : zRP κ L1 kd1 L2 kd2 x0 m0 τ1 σ2 := by
  obtain ⟨V, ps, pc, sl, rv, sh, cd, hR⟩ := h.2.2
  exact ⟨h.1.c0 hx hI g (aSub h1 (by rfl)), h.2.1.c hI hx g (aSub h1 (by rfl)) (by rfl), V, ps, pc, sl, rv, sh, cd, hR.c0 hx hI g (aSub h1 (by rfl))⟩
theorem zRP.c (h : zRP κ L1 kd1 L2 kd2 x0 m0 σ1 σ2) (hx : zT L1 kd1 x0 10) (hI : zI κ 0 L1 kd1 σ1) (g : zSm Wk Wr L1 kd1 σ1 τ1) (hv : zRz σ1.2.2 τ1) (h1 : ([1, 2, 4, 9, 10, 22, 23, 24, 39, 40, 46, 47, 48, 49, 50, 51].all (fun j => !(Wk.contains j))) = true) (h2 : (Wr.all (fun j => j == 5)) = true) : zRP κ L1 kd1 L2 kd2 x0 m0 τ1 σ2 := by
  obtain ⟨V, ps, pc, sl, rv, sh, cd, hR⟩ := h.2.2
  exact ⟨h.1.c hx hI g hv (aSub h1 (by rfl)) h2, h.2.1.c hI hx g (aSub h1 (by rfl)) h2, V, ps, pc, sl, rv, sh, cd, hR.c hx hI g hv (aSub h1 (by rfl)) h2⟩
theorem zRP.t (h : zRP κ L1 kd1 L2 kd2 x0 m0 σ1 σ2) (hx : zT L1 kd1 x0 10) (hI : zI κ 0 L1 kd1 σ1) (g : zSm Wk Wr L1 kd1 σ1 τ1) (p : ∀ (V : zWh) (ps pc sl rv sh cd : Nat), zLay L1 kd1 x0 σ1.2.2 V ps pc sl → zRv L1 kd1 x0 rv sh cd σ1.2.2 → zPv L1 kd1 V rv σ1 τ1) (h1 : ([2, 4, 9, 10, 39, 40, 46, 47, 48, 49, 50, 51].all (fun j => !(Wk.contains j))) = true) (h2 : (Wr.all (fun j => j == 5)) = true) : zRP κ L1 kd1 L2 kd2 x0 m0 τ1 σ2 := by
  obtain ⟨V, ps, pc, sl, rv, sh, cd, hR⟩ := h.2.2
  exact ⟨h.1.t hx hI g p (aSub h1 (by rfl)) h2, h.2.1.c hI hx g (aSub h1 (by rfl)) h2, V, ps, pc, sl, rv, sh, cd, hR.t hx hI g (p V ps pc sl rv sh cd hR.1 hR.2.1) (aSub h1 (by rfl)) h2 (zI_rv hI hR.2.1)⟩
theorem zRP.m (h : zRP κ L1 kd1 L2 kd2 x0 m0 σ1 σ2) (hJ : zJ k L2 kd2 σ2) (hm : zT L2 kd2 m0 11) (g : zSame m0 Wf Wa L2 kd2 σ2 τ2) (h1 : ([17, 18, 57, 62].all (fun j => !(Wf.contains j))) = true) (h2 : ([101, 109, 121, 123, 124, 125, 126, 127, 128, 129, 130, 131, 133, 134, 135, 136, 137, 139, 140, 148, 158, 167, 168].all (fun j => !(Wa.contains j))) = true) : zRP κ L1 kd1 L2 kd2 x0 m0 σ1 τ2 := by
  obtain ⟨V, ps, pc, sl, rv, sh, cd, hR⟩ := h.2.2
  exact ⟨h.1.m hJ hm g h1 (aSub h2 (by rfl)), h.2.1.m hJ hm g (nC h1 (by rfl)) (aSub h2 (by rfl)), V, ps, pc, sl, rv, sh, cd, hR.m hJ hm g (aSub h1 (by rfl)) (aSub h2 (by rfl))⟩
theorem zRP.feed {p1 p2 p3 p4 p5 : Int32} (h : zRP κ L1 kd1 L2 kd2 x0 m0 σ1 σ2) (hI1 : zI κ 0 L1 kd1 σ1) (hI2 : zJ κ L2 kd2 σ2) (hx0 : zT L1 kd1 x0 10) (hm0 : zT L2 kd2 m0 11) (f1 : (v1, τ1) = F_X10_feed x0 p1 p2 p3 p4 p5 σ1) (f2 : (v2, τ2) = F_X11_feed m0 p1 p2 p3 p4 p5 σ2) (g1 : zSm [7, 39] [] L1 kd1 σ1 τ1) (g2 : zSame m0 [2] [101] L2 kd2 σ2 τ2) (hk : (k = κ ∧ 2000 < κ + 20) ∨ (k = κ + 20 ∧ κ + 20 ≤ 2000)) : zRP k L1 kd1 L2 kd2 x0 m0 τ1 τ2 := by
  obtain ⟨V, ps, pc, sl, rv, sh, cd, hR⟩ := h.2.2
  exact ⟨zRN.feed h.1 hI1 hI2 hx0 hm0 f1 f2 g1 g2 hk, (h.2.1.c hI1 hx0 g1 (by rfl) (by rfl)).m hI2 hm0 g2 (by rfl) (by rfl), V, ps, pc, sl, rv, sh, cd, (hR.c0 hx0 hI1 g1 (by rfl)).m hI2 hm0 g2 (by rfl) (by rfl)⟩
theorem zRP.read (h : zRP κ L1 kd1 L2 kd2 x0 m0 σ1 σ2) (hI1 : zI κ 0 L1 kd1 σ1) (hI2 : zJ κ L2 kd2 σ2) (hx0 : zT L1 kd1 x0 10) (hm0 : zT L2 kd2 m0 11) (f1 : (v1, τ1) = F_X10_read x0 σ1) (f2 : (v2, τ2) = F_X11_read m0 σ2) (hk : zLkp m0 σ2 τ2) (g1 : zSm Wk Wr L1 kd1 σ1 τ1) (g2 : zSame m0 Wf Wa L2 kd2 σ2 τ2) (h1 : Wk.contains 39 = false := by decide) (h2 : Wk.contains 40 = false := by decide) (h3 : Wr.contains 7 = false := by decide) (h4 : Wa.contains 101 = false := by decide) (h5 : Wa.contains 109 = false := by decide) : v1.toInt = v2.toInt ∧ zRP 0 L1 kd1 L2 kd2 x0 m0 τ1 τ2 := by
  obtain ⟨a, b⟩ := zRN.read h.1 hI1 hI2 hx0 hm0 f1 f2 g1 g2 h1 h2 h3 h4 h5
  obtain ⟨V, ps, pc, sl, rv, sh, cd, hR⟩ := h.2.2
  obtain ⟨V', ps', pc', sl', rv', sh', cd', hR', td, tt, hT⟩ := h.1.1.2
  exact ⟨a, b, zLw.read h.1.1.1.1 h.2.1 hR.1 hT hI1 hI2 hx0 hm0 f1 f2 hk, V, ps, pc, sl, rv, sh, cd, (zRL.read1 h.1.1.1.1 hR hT hI1 hI2 hx0 hm0 f1 f2).1⟩
theorem zRP.hold (h : zRP κ L1 kd1 L2 kd2 x0 m0 σ1 σ2) (hI : zI κ 0 L1 kd1 σ1) (hJ : zJ κ L2 kd2 σ2) (hx : zT L1 kd1 x0 10) (hm : zT L2 kd2 m0 11) (f1 : (v1, τ1) = F_X10_hold x0 p σ1) (f2 : (v2, τ2) = F_X11_hold m0 p σ2) (g1 : zSm Wk Wr L1 kd1 σ1 τ1) (g2 : zSame m0 Wf Wa L2 kd2 σ2 τ2) (h1 : ([39, 40].all (fun j => !(Wk.contains j))) = true := by decide) (h2 : (Wr.all (fun j => j == 5)) = true := by decide) (h3 : Wf.contains 17 = false := by decide) (h4 : ([101, 109].all (fun j => !(Wa.contains j))) = true := by decide) (h7 : Wr.contains 7 = false := by decide) (k1 : Wk.contains 46 = false := by decide) (k2 : Wf.contains 18 = false := by decide) (k3 : ([121, 123].all (fun j => !(Wa.contains j))) = true := by decide) (k4 : ([9, 46, 47, 48, 49, 50, 51].all (fun j => !(Wk.contains j))) = true := by decide) (k6 : ([121, 123, 124, 125, 126, 127, 128, 129, 130, 131, 133, 134, 135, 136, 137, 139, 140].all (fun j => !(Wa.contains j))) = true := by decide) : v1.toInt = v2.toInt ∧ zRP κ L1 kd1 L2 kd2 x0 m0 τ1 τ2 := by
  obtain ⟨a', b'⟩ := zRN.hold h.1 hI hJ hx hm f1 f2 g1 g2 h1 h2 h3 h4 h7 k1 k2 k3
  obtain ⟨V, ps, pc, sl, rv, sh, cd, hR⟩ := h.2.2
  obtain ⟨-, hR'⟩ := hR.hold hx hI hJ hm f1 f2
  exact ⟨a', b', (h.2.1.c hI hx g1 k4 h2).m hJ hm g2 k2 k6, V, ps, pc, sl, rv, sh, cd, hR'⟩
theorem zRP.rule (h : zRP κ L1 kd1 L2 kd2 x0 m0 σ1 σ2) (hI : zI κ 0 L1 kd1 σ1) (hJ : zJ κ L2 kd2 σ2) (hx : zT L1 kd1 x0 10) (hm : zT L2 kd2 m0 11) (f1 : (v1, τ1) = F_X10_rule x0 p σ1) (f2 : (v2, τ2) = F_X11_rule m0 p σ2) (g1 : zSm Wk Wr L1 kd1 σ1 τ1) (g2 : zSame m0 Wf Wa L2 kd2 σ2 τ2) (h1 : ([10, 39, 40].all (fun j => !(Wk.contains j))) = true := by decide) (h2 : (Wr.all (fun j => j == 5)) = true := by decide) (h3 : Wf.contains 17 = false := by decide) (h4 : ([101, 109].all (fun j => !(Wa.contains j))) = true := by decide) (k1 : Wk.contains 46 = false := by decide) (k2 : Wf.contains 18 = false := by decide) (k3 : ([121, 123].all (fun j => !(Wa.contains j))) = true := by decide) (k4 : ([9, 46, 47, 48, 49, 50, 51].all (fun j => !(Wk.contains j))) = true := by decide) (k6 : ([121, 123, 124, 125, 126, 127, 128, 129, 130, 131, 133, 134, 135, 136, 137, 139, 140].all (fun j => !(Wa.contains j))) = true := by decide) : v1.toInt = v2.toInt ∧ zRP κ L1 kd1 L2 kd2 x0 m0 τ1 τ2 := by
  obtain ⟨a', b'⟩ := zRN.rule h.1 hI hJ hx hm f1 f2 g1 g2 h1 h2 h3 h4 k1 k2 k3
  obtain ⟨V, ps, pc, sl, rv, sh, cd, hR⟩ := h.2.2
  obtain ⟨-, hR'⟩ := hR.rule zGd.q1 hx hI hJ hm f1 f2
  exact ⟨a', b', (h.2.1.c hI hx g1 k4 h2).m hJ hm g2 k2 k6, V, ps, pc, sl, rv, sh, cd, hR'⟩
theorem zRP.dam (h : zRP κ L1 kd1 L2 kd2 x0 m0 σ1 σ2) (hI : zI κ 0 L1 kd1 σ1) (hJ : zJ κ L2 kd2 σ2) (hx : zT L1 kd1 x0 10) (hm : zT L2 kd2 m0 11) (f1 : (v1, τ1) = F_X10_dam x0 p q σ1) (f2 : (v2, τ2) = F_X11_dam m0 p q σ2) (g1 : zSm Wk Wr L1 kd1 σ1 τ1) (g2 : zSame m0 Wf Wa L2 kd2 σ2 τ2) (hq : q.toInt = 0 ∨ q.toInt = 1) (h1 : ([10, 39, 40].all (fun j => !(Wk.contains j))) = true := by decide) (h2 : (Wr.all (fun j => j == 5)) = true := by decide) (h3 : Wf.contains 17 = false := by decide) (h4 : ([101, 109].all (fun j => !(Wa.contains j))) = true := by decide) (k1 : Wk.contains 46 = false := by decide) (k2 : Wf.contains 18 = false := by decide) (k3 : ([121, 123].all (fun j => !(Wa.contains j))) = true := by decide) (k4 : ([9, 46, 47, 48, 49, 50, 51].all (fun j => !(Wk.contains j))) = true := by decide) (k6 : ([121, 123, 124, 125, 126, 127, 128, 129, 130, 131, 133, 134, 135, 136, 137, 139, 140].all (fun j => !(Wa.contains j))) = true := by decide) : v1.toInt = v2.toInt ∧ zRP κ L1 kd1 L2 kd2 x0 m0 τ1 τ2 := by
  obtain ⟨a', b'⟩ := zRN.dam h.1 hI hJ hx hm f1 f2 g1 g2 hq h1 h2 h3 h4 k1 k2 k3
  obtain ⟨V, ps, pc, sl, rv, sh, cd, hR⟩ := h.2.2
  obtain ⟨-, hR'⟩ := hR.dam zGd.q1 hx hI hJ hm hq f1 f2
  exact ⟨a', b', (h.2.1.c hI hx g1 k4 h2).m hJ hm g2 k2 k6, V, ps, pc, sl, rv, sh, cd, hR'⟩
theorem zRP.turn (h : zRP κ L1 kd1 L2 kd2 x0 m0 σ1 σ2) (hI : zI κ 0 L1 kd1 σ1) (hJ : zJ κ L2 kd2 σ2) (hx : zT L1 kd1 x0 10) (hm : zT L2 kd2 m0 11) (f1 : (v1, τ1) = F_X10_turn x0 p q σ1) (f2 : (v2, τ2) = F_X11_turn m0 p q σ2) (g1 : zSm Wk Wr L1 kd1 σ1 τ1) (g2 : zSame m0 Wf Wa L2 kd2 σ2 τ2) (hg : gN m0 σ2) (h1 : ([10, 39, 40].all (fun j => !(Wk.contains j))) = true := by decide) (h2 : (Wr.all (fun j => j == 5)) = true := by decide) (h3 : Wf.contains 17 = false := by decide) (h4 : ([101, 109].all (fun j => !(Wa.contains j))) = true := by decide) (k1 : Wk.contains 46 = false := by decide) (k2 : Wf.contains 18 = false := by decide) (k3 : ([121, 123].all (fun j => !(Wa.contains j))) = true := by decide) (k4 : ([9, 46, 47, 48, 49, 50, 51].all (fun j => !(Wk.contains j))) = true := by decide) (k6 : ([121, 123, 124, 125, 126, 127, 128, 129, 130, 131, 133, 134, 135, 136, 137, 139, 140].all (fun j => !(Wa.contains j))) = true := by decide) : v1.toInt = v2.toInt ∧ zRP κ L1 kd1 L2 kd2 x0 m0 τ1 τ2 := by
  obtain ⟨a', b'⟩ := zRN.turn h.1 hI hJ hx hm f1 f2 g1 g2 hg h1 h2 h3 h4 k1 k2 k3
  obtain ⟨V, ps, pc, sl, rv, sh, cd, hR⟩ := h.2.2
  obtain ⟨-, hR'⟩ := hR.turn zGd.q1 hx hI hJ hm hg f1 f2
  exact ⟨a', b', (h.2.1.c hI hx g1 k4 h2).m hJ hm g2 k2 k6, V, ps, pc, sl, rv, sh, cd, hR'⟩
theorem zRP.months (h : zRP κ L1 kd1 L2 kd2 x0 m0 σ1 σ2) (hI : zI κ 0 L1 kd1 σ1) (hJ : zJ κ L2 kd2 σ2) (hx : zT L1 kd1 x0 10) (hm : zT L2 kd2 m0 11) (f1 : (v1, τ1) = F_X10_months x0 p σ1) (f2 : (v2, τ2) = F_X11_months m0 p σ2) (g1 : zSm Wk Wr L1 kd1 σ1 τ1) (g2 : zSame m0 Wf Wa L2 kd2 σ2 τ2) (hg : gN m0 σ2) (h1 : ([10, 39, 40].all (fun j => !(Wk.contains j))) = true := by decide) (h2 : (Wr.all (fun j => j == 5)) = true := by decide) (h3 : Wf.contains 17 = false := by decide) (h4 : ([101, 109].all (fun j => !(Wa.contains j))) = true := by decide) (k1 : Wk.contains 46 = false := by decide) (k2 : Wf.contains 18 = false := by decide) (k3 : ([121, 123].all (fun j => !(Wa.contains j))) = true := by decide) (k4 : ([9, 46, 47, 48, 49, 50, 51].all (fun j => !(Wk.contains j))) = true := by decide) (k6 : ([121, 123, 124, 125, 126, 127, 128, 129, 130, 131, 133, 134, 135, 136, 137, 139, 140].all (fun j => !(Wa.contains j))) = true := by decide) : v1.toInt = v2.toInt ∧ zRP κ L1 kd1 L2 kd2 x0 m0 τ1 τ2 := by
  obtain ⟨a', b'⟩ := zRN.months h.1 hI hJ hx hm f1 f2 g1 g2 h1 h2 h3 h4 k1 k2 k3
  obtain ⟨V, ps, pc, sl, rv, sh, cd, hR⟩ := h.2.2
  obtain ⟨-, hR'⟩ := hR.months1 h.2.1 h.1.2 hg (zM.m hJ hm g2 k2 (nC k3 (by rfl))) hx hI hJ hm (zI_rv hI hR.2.1) f1 f2
  exact ⟨a', b', (h.2.1.c hI hx g1 k4 h2).m hJ hm g2 k2 k6, V, ps, pc, sl, rv, sh, cd, hR'⟩
theorem zRP.undo (h : zRP κ L1 kd1 L2 kd2 x0 m0 σ1 σ2) (hI : zI κ 0 L1 kd1 σ1) (hJ : zJ κ L2 kd2 σ2) (hx : zT L1 kd1 x0 10) (hm : zT L2 kd2 m0 11) (f1 : (v1, τ1) = F_X10_undo x0 σ1) (f2 : (v2, τ2) = F_X11_undo m0 σ2) (g1 : zSm Wk Wr L1 kd1 σ1 τ1) (g2 : zSame m0 Wf Wa L2 kd2 σ2 τ2) (h1 : ([10, 39, 40].all (fun j => !(Wk.contains j))) = true := by decide) (h2 : (Wr.all (fun j => j == 5)) = true := by decide) (h3 : Wf.contains 17 = false := by decide) (h4 : ([101, 109].all (fun j => !(Wa.contains j))) = true := by decide) (k1 : Wk.contains 46 = false := by decide) (k2 : Wf.contains 18 = false := by decide) (k3 : ([121, 123].all (fun j => !(Wa.contains j))) = true := by decide) (k4 : ([9, 46, 47, 48, 49, 50, 51].all (fun j => !(Wk.contains j))) = true := by decide) (k6 : ([121, 123, 124, 125, 126, 127, 128, 129, 130, 131, 133, 134, 135, 136, 137, 139, 140].all (fun j => !(Wa.contains j))) = true := by decide) : v1.toInt = v2.toInt ∧ zRP κ L1 kd1 L2 kd2 x0 m0 τ1 τ2 := by
  obtain ⟨a', b'⟩ := zRN.undo h.1 hI hJ hx hm f1 f2 g1 g2 h1 h2 h3 h4 k1 k2 k3
  obtain ⟨V, ps, pc, sl, rv, sh, cd, hR⟩ := h.2.2
  obtain ⟨-, hR'⟩ := hR.undo hx hI hJ hm f1 f2
  exact ⟨a', b', (h.2.1.c hI hx g1 k4 h2).m hJ hm g2 k2 k6, V, ps, pc, sl, rv, sh, cd, hR'⟩
theorem zRP.restore (h : zRP κ L1 kd1 L2 kd2 x0 m0 σ1 σ2) (hI : zI κ 0 L1 kd1 σ1) (hJ : zJ κ L2 kd2 σ2) (hx : zT L1 kd1 x0 10) (hm : zT L2 kd2 m0 11) (f1 : (v1, τ1) = F_X10_restore x0 p σ1) (f2 : (v2, τ2) = F_X11_restore m0 p σ2) (g1 : zSm Wk Wr L1 kd1 σ1 τ1) (g2 : zSame m0 Wf Wa L2 kd2 σ2 τ2) (h1 : ([10, 39, 40].all (fun j => !(Wk.contains j))) = true := by decide) (h2 : (Wr.all (fun j => j == 5)) = true := by decide) (h3 : Wf.contains 17 = false := by decide) (h4 : ([101, 109].all (fun j => !(Wa.contains j))) = true := by decide) (k1 : Wk.contains 46 = false := by decide) (k2 : Wf.contains 18 = false := by decide) (k3 : ([121, 123].all (fun j => !(Wa.contains j))) = true := by decide) (k4 : ([9, 46, 47, 48, 49, 50, 51].all (fun j => !(Wk.contains j))) = true := by decide) (k6 : ([121, 123, 124, 125, 126, 127, 128, 129, 130, 131, 133, 134, 135, 136, 137, 139, 140].all (fun j => !(Wa.contains j))) = true := by decide) : v1.toInt = v2.toInt ∧ zRP κ L1 kd1 L2 kd2 x0 m0 τ1 τ2 := by
  obtain ⟨a', b'⟩ := zRN.restore h.1 hI hJ hx hm f1 f2 g1 g2 h1 h2 h3 h4 k1 k2 k3
  obtain ⟨V, ps, pc, sl, rv, sh, cd, hR⟩ := h.2.2
  obtain ⟨-, hR'⟩ := hR.restore hx hI hJ hm f1 f2
  exact ⟨a', b', (h.2.1.c hI hx g1 k4 h2).m hJ hm g2 k2 k6, V, ps, pc, sl, rv, sh, cd, hR'⟩
theorem zRP.forget (h : zRP κ L1 kd1 L2 kd2 x0 m0 σ1 σ2) (hI : zI κ 0 L1 kd1 σ1) (hJ : zJ κ L2 kd2 σ2) (hx : zT L1 kd1 x0 10) (hm : zT L2 kd2 m0 11) (f1 : (v1, τ1) = F_X10_forget x0 σ1) (f2 : (v2, τ2) = F_X11_forget m0 σ2) (g1 : zSm Wk [] L1 kd1 σ1 τ1) (g2 : zSame m0 Wf Wa L2 kd2 σ2 τ2) (h1 : ([1, 4, 9, 10, 22, 23, 24, 39, 40].all (fun j => !(Wk.contains j))) = true := by decide) (h3 : ([17, 18, 57].all (fun j => !(Wf.contains j))) = true := by decide) (h4 : ([101, 109, 121, 148, 158, 167, 168].all (fun j => !(Wa.contains j))) = true := by decide) (k1 : Wk.contains 46 = false := by decide) (k2 : Wf.contains 18 = false := by decide) (k3 : ([121, 123].all (fun j => !(Wa.contains j))) = true := by decide) (k4 : ([9, 46, 47, 48, 49, 50, 51].all (fun j => !(Wk.contains j))) = true := by decide) (k6 : ([121, 123, 124, 125, 126, 127, 128, 129, 130, 131, 133, 134, 135, 136, 137, 139, 140].all (fun j => !(Wa.contains j))) = true := by decide) : v1.toInt = v2.toInt ∧ zRP κ L1 kd1 L2 kd2 x0 m0 τ1 τ2 := by
  obtain ⟨a', b'⟩ := zRN.forget h.1 hI hJ hx hm f1 f2 g1 g2 h1 h3 h4 k1 k2 k3
  obtain ⟨V, ps, pc, sl, rv, sh, cd, hR⟩ := h.2.2
  obtain ⟨-, hR'⟩ := hR.forget hx hI hJ hm f1 f2 g1 g2 (aSub h1 (by rfl)) (aSub h3 (by rfl)) (aSub h4 (by rfl))
  exact ⟨a', b', (h.2.1.c hI hx g1 k4 (by rfl)).m hJ hm g2 k2 k6, V, ps, pc, sl, rv, sh, cd, hR'⟩
theorem zRP.tell {a b c e : Int32} (h : zRP κ L1 kd1 L2 kd2 x0 m0 σ1 σ2) (hI : zI κ 0 L1 kd1 σ1) (hJ : zJ κ L2 kd2 σ2) (hx : zT L1 kd1 x0 10) (hm : zT L2 kd2 m0 11) (f1 : (v1, τ1) = F_X10_tell x0 a b c e σ1) (f2 : (v2, τ2) = F_X11_tell m0 a b c e σ2) (g1 : zSm Wk [] L1 kd1 σ1 τ1) (g2 : zSame m0 Wf Wa L2 kd2 σ2 τ2) (h1 : ([1, 4, 9, 10, 22, 23, 24, 39, 40].all (fun j => !(Wk.contains j))) = true := by decide) (h3 : ([17, 18, 57].all (fun j => !(Wf.contains j))) = true := by decide) (h4 : ([101, 109, 121, 148, 158, 167, 168].all (fun j => !(Wa.contains j))) = true := by decide) (k1 : Wk.contains 46 = false := by decide) (k2 : Wf.contains 18 = false := by decide) (k3 : ([121, 123].all (fun j => !(Wa.contains j))) = true := by decide) (k4 : ([9, 46, 47, 48, 49, 50, 51].all (fun j => !(Wk.contains j))) = true := by decide) (k6 : ([121, 123, 124, 125, 126, 127, 128, 129, 130, 131, 133, 134, 135, 136, 137, 139, 140].all (fun j => !(Wa.contains j))) = true := by decide) : v1.toInt = v2.toInt ∧ zRP κ L1 kd1 L2 kd2 x0 m0 τ1 τ2 := by
  obtain ⟨a', b'⟩ := zRN.tell h.1 hI hJ hx hm f1 f2 g1 g2 h1 h3 h4 k1 k2 k3
  obtain ⟨V, ps, pc, sl, rv, sh, cd, hR⟩ := h.2.2
  obtain ⟨-, hR'⟩ := hR.tell hx hI hJ hm f1 f2 g1 g2 (aSub h1 (by rfl)) (aSub h3 (by rfl)) (aSub h4 (by rfl))
  exact ⟨a', b', (h.2.1.c hI hx g1 k4 (by rfl)).m hJ hm g2 k2 k6, V, ps, pc, sl, rv, sh, cd, hR'⟩
theorem zRP.start {b : Bool} {ks : List Nat} (hS : zSAM 0 L1 kd1 L2 kd2 σ1 σ2) (hk : zKb b ks L1 kd1 σ1) (hx : zT L1 kd1 x0 10) (hJ : zJ 0 L2 kd2 σ2) (hm : zT L2 kd2 m0 11) (h0 : zRf0 m0 σ2) : zRP 0 L1 kd1 L2 kd2 x0 m0 σ1 σ2 := by
  obtain ⟨V, ps, pc, sl, rv, sh, cd, hR⟩ := zRL.start1 hk hx hJ hm h0
  exact ⟨zRN.start hS hk hx hJ hm h0, fun z => absurd z (by rw [h0.2.2.2.2.1]; decide), V, ps, pc, sl, rv, sh, cd, hR⟩
theorem zRP.spot (h : zRP κ L1 kd1 L2 kd2 x0 m0 σ1 σ2) (hI : zI κ 0 L1 kd1 σ1) (hJ : zJ κ L2 kd2 σ2) (hx : zT L1 kd1 x0 10) (hm : zT L2 kd2 m0 11) (hg : gN m0 σ2) (f1 : (v1, τ1) = F_X10_spot x0 p q σ1) (f2 : (v2, τ2) = F_X11_spot m0 p q σ2) : v1.toInt = v2.toInt := by
  obtain ⟨V, ps, pc, sl, rv, sh, cd, hR⟩ := h.2.2
  exact hR.spot h.2.1 h.1.2 hx hI hJ hm hg f1 f2
theorem zRP.claim (h : zRP κ L1 kd1 L2 kd2 x0 m0 σ1 σ2) (hI : zI κ 0 L1 kd1 σ1) (hJ : zJ κ L2 kd2 σ2) (hx : zT L1 kd1 x0 10) (hm : zT L2 kd2 m0 11) (hg : gN m0 σ2) (f1 : (v1, τ1) = F_X10_claim x0 p q σ1) (f2 : (v2, τ2) = F_X11_claim m0 p q σ2) : v1.toInt = v2.toInt := by
  obtain ⟨V, ps, pc, sl, rv, sh, cd, hR⟩ := h.2.2
  exact hR.claim h.2.1 h.1.2 hx hI hJ hm hg f1 f2
theorem zRP.winner (h : zRP κ L1 kd1 L2 kd2 x0 m0 σ1 σ2) (hI : zI κ 0 L1 kd1 σ1) (hJ : zJ κ L2 kd2 σ2) (hx : zT L1 kd1 x0 10) (hm : zT L2 kd2 m0 11) (hg : gN m0 σ2) (f1 : (v1, τ1) = F_X10_winner x0 p σ1) (f2 : (v2, τ2) = F_X11_winner m0 p σ2) : v1.toInt = v2.toInt := by
  obtain ⟨V, ps, pc, sl, rv, sh, cd, hR⟩ := h.2.2
  exact hR.winner h.2.1 h.1.2 hx hI hJ hm hg f1 f2
theorem zRP.behind (h : zRP κ L1 kd1 L2 kd2 x0 m0 σ1 σ2) (hI : zI κ 0 L1 kd1 σ1) (hJ : zJ κ L2 kd2 σ2) (hx : zT L1 kd1 x0 10) (hm : zT L2 kd2 m0 11) (hg : gN m0 σ2) (f1 : (v1, τ1) = F_X10_behind x0 p q σ1) (f2 : (v2, τ2) = F_X11_behind m0 p q σ2) : v1.toInt = v2.toInt := by
  obtain ⟨V, ps, pc, sl, rv, sh, cd, hR⟩ := h.2.2
  exact hR.behind h.2.1 h.1.2 hx hI hJ hm hg f1 f2
theorem zRP.margin (h : zRP κ L1 kd1 L2 kd2 x0 m0 σ1 σ2) (hI : zI κ 0 L1 kd1 σ1) (hJ : zJ κ L2 kd2 σ2) (hx : zT L1 kd1 x0 10) (hm : zT L2 kd2 m0 11) (hg : gN m0 σ2) (f1 : (v1, τ1) = F_X10_margin x0 p σ1) (f2 : (v2, τ2) = F_X11_margin m0 p σ2) : v1.toInt = v2.toInt := by
  obtain ⟨V, ps, pc, sl, rv, sh, cd, hR⟩ := h.2.2
  exact hR.margin h.2.1 h.1.2 hx hI hJ hm hg f1 f2
end RP
end
-- 35y13.lw46
section
/-! MONTHS AHEAD, TRIED: then, flowIn -/
section TRIED
variable {κ : Int} {L1 : List Nat} {kd1 : Nat → Nat} {L2 : List Nat} {kd2 : Nat → Nat} {σ1 σ2 τ1 τ2 s t : zS} {m0 x0 : Nat} {V : zWh} {ps pc sl rv sh cd : Nat} {v1 v2 p q r : Int32}
/-- what was told of places stays while now is looked at -/
theorem zRL.lookE (h : zRL zQw L1 kd1 x0 m0 V ps pc sl rv sh cd σ1 σ2) (hl : zLen x0 m0 σ1 σ2) (hx : zT L1 kd1 x0 10) (hI : zI κ 0 L1 kd1 σ1) (hJ : zJ κ L2 kd2 σ2) (hm : zT L2 kd2 m0 11) (hg : gN m0 σ2) : ∀ c kc, zT L1 kd1 c kc → (kc = 9 ∨ (46 ≤ kc ∧ kc ≤ 51)) → (F_X10_look x0 σ1).1 c = σ1.1 c := by
  obtain ⟨N, u, FR, SR, ℓ, l, -, -, -, ⟨-, C2, -⟩, -⟩ := h.lk zGd.q1 hl hx hI hJ hm hg
  exact fun c kc hc hk => funext (fun j => C2 c j (by
    unfold zKs
    rw [hc.2]
    omega))
/-- the tried course, a copy of now, formed -/
theorem zRL.tried (h : zRL zQw L1 kd1 x0 m0 V ps pc sl rv sh cd σ1 σ2) (hw : 0 < zM m0 σ2 → zLw x0 m0 σ1 σ2) (hl : zLen x0 m0 σ1 σ2) (hx : zT L1 kd1 x0 10) (hI : zI κ 0 L1 kd1 σ1) (hJ : zJ κ L2 kd2 σ2) (hm : zT L2 kd2 m0 11) (hg : gN m0 σ2) (gs : zPv L1 kd1 V rv σ1 s) (hes : ∀ c kc, zT L1 kd1 c kc → (kc = 9 ∨ (46 ≤ kc ∧ kc ≤ 51)) → s.1 c = σ1.1 c) : (∀ a j, ¬ (a = rv ∧ (j = 5 ∨ j = 6)) → (F_X1_copy (V.1 1) (V.1 0) s).2.2 a j = σ1.2.2 a j) ∧ (∀ c kc, zT L1 kd1 c kc → (kc = 9 ∨ (46 ≤ kc ∧ kc ≤ 51)) → (F_X1_copy (V.1 1) (V.1 0) s).1 c = σ1.1 c) ∧ zcc V (F_X1_copy (V.1 1) (V.1 0) s).1 1 = zcc V σ1.1 0 ∧ ∃ (td B N : Nat) (gl : zGl) (u l : Nat → Nat), σ1.2.2 x0 10 = some td ∧ zM m0 σ2 = N ∧ (F_X5_form rv td (V.1 1) (F_X1_copy (V.1 1) (V.1 0) s)).1 td = σ1.1 td ∧ zMb (qOf σ1.2.2 rv sh cd td V 1) (mR σ2 m0) m0 B N gl u l (σ1.1 td 13) (F_X5_form rv td (V.1 1) (F_X1_copy (V.1 1) (V.1 0) s)) (F_X11_copies m0 σ2) (F_X5_form rv td (V.1 1) (F_X1_copy (V.1 1) (V.1 0) s)) (F_X11_copies m0 σ2) := by
  have hL := h.1
  have hV := h.2.1
  have hLs := hL.pv hV.2.1.2.1 gs
  obtain ⟨c1, c2, c3, c4⟩ := zCopy hLs (k := 1) (q := 0) (by decide) (by decide)
  obtain ⟨⟨tA, tI, tW, tM⟩, -⟩ := hL.2.2.2.1 1 (by decide)
  have gr : ∀ a j, ¬ (a = rv ∧ (j = 5 ∨ j = 6)) → (F_X1_copy (V.1 1) (V.1 0) s).2.2 a j = σ1.2.2 a j := fun a j n => by rw [c1]; exact gs.1 a j n
  have he : ∀ c kc, zT L1 kd1 c kc → (kc = 9 ∨ (46 ≤ kc ∧ kc ≤ 51)) → (F_X1_copy (V.1 1) (V.1 0) s).1 c = σ1.1 c := fun c kc hc hk => by
    rw [c4 c (by
      rintro (z | z | z | z)
      · exact zNk hc tA (by omega) z
      · exact zNk hc tI (by omega) z
      · exact zNk hc tW (by omega) z
      · exact zNk hc tM (by omega) z)]
    exact hes c kc hc hk
  have hc : zcc V (F_X1_copy (V.1 1) (V.1 0) s).1 1 = zcc V σ1.1 0 := c2.trans (gs.cc hL (by decide) (by decide))
  obtain ⟨td, B, N, gl, u, l, d1, n2, e0, M⟩ := zSd.of zGd.q1 (fun _ _ _ h => h) h hw hl hx hI hJ hm hg gr he (by decide) hc
  obtain ⟨td9, d9, t9⟩ := zi_ref (j := 10) (k2 := 9) hI hx (by rfl)
  obtain rfl : td9 = td := Option.some.inj (d9.symm.trans d1)
  exact ⟨gr, he, hc, td9, B, N, gl, u, l, d1, n2, e0.trans (he td9 9 t9 (by omega)), M⟩
theorem mLong {p : Int32} : F_X11_isLong p = F_X11_in p 0 60 := by
  unfold F_X11_isLong
  simp only [zlt]
theorem zRL.then (h : zRL zQw L1 kd1 x0 m0 V ps pc sl rv sh cd σ1 σ2) (hw : 0 < zM m0 σ2 → zLw x0 m0 σ1 σ2) (hl : zLen x0 m0 σ1 σ2) (hx : zT L1 kd1 x0 10) (hI : zI κ 0 L1 kd1 σ1) (hJ : zJ κ L2 kd2 σ2) (hm : zT L2 kd2 m0 11) (hg : gN m0 σ2) (f1 : (v1, τ1) = F_X10_then x0 p q r σ1) (f2 : (v2, τ2) = F_X11_then m0 p q r σ2) : v1.toInt = v2.toInt := by
  obtain ⟨td, B, N, gl, u, l, Q, Y, d1, n2, eL, xr, ⟨hq, hY⟩, ⟨S, Dn, FL, RN⟩, -, -⟩ := h.now hw hl hx hI hJ hm hg
  have hV := h.2.1
  have hL := h.1
  have e0 : (0 : Int32).toInt = 0 := by decide
  have o1 : (1 : Int32).toInt = 1 := by decide
  have o60 : (60 : Int32).toInt = 60 := by decide
  have q1 : Q 1 = sh := by rw [hq]; rfl
  have g3 : (σ1.2.2 x0 3).getD 0 = sh := by rw [hV.1.2.1]; rfl
  have g10 : (σ1.2.2 x0 10).getD 0 = td := by rw [d1]; rfl
  have a8 := S.1.2.2.2.2.2.2.2 p
  have a9 := cIsR (x := p) S.1.1 (zFr.id (σ := F_X10_look x0 σ1))
  rw [q1] at a8 a9
  obtain ⟨w2, e2, i2⟩ := mCt (p := p) (k := 0) S
  obtain ⟨T1, T2, T3, td', B', N', gl', u', l', d1', n2', -, M⟩ := h.tried hw hl hx hI hJ hm hg (zLookN hL hV) (h.lookE hl hx hI hJ hm hg)
  obtain rfl : td' = td := Option.some.inj (d1'.symm.trans d1)
  obtain rfl : N' = N := by omega
  have gs := zLookN hL hV
  clear FL RN Dn
  unfold F_X10_then at f1
  unfold F_X11_then at f2
  simp only [zlt, zlt2, cWithin, mLong, mIn, e0, o60, o1, e2] at f1 f2
  obtain ⟨s, hs⟩ : ∃ s, s = F_X10_look x0 σ1 := ⟨_, rfl⟩
  rw [← hs] at f1 a8 a9 xr T1 T2 T3 M S gs
  obtain ⟨w1, hw1⟩ : ∃ w, w = (F_X6_isSource sh p s).1 := ⟨_, rfl⟩
  rw [← hw1] at a8 a9
  simp only [xr, g3, a9] at f1
  by_cases D : 0 ≤ p.toInt ∧ Src N' u p.toInt.toNat
  · rw [if_neg (fun z => a8.mp z D)] at f1
    have hN : 0 < N' := by have := D.2.2.1; omega
    by_cases A : 0 ≤ q.toInt ∧ q.toInt ≤ 60
    · rw [if_neg (fun z => z A)] at f1 f2
      by_cases C : 0 ≤ r.toInt ∧ r.toInt ≤ 1
      · rw [if_neg (fun z => z C)] at f1 f2
        rw [if_neg (fun z => i2.mp z ⟨⟨by decide, by decide⟩, D⟩)] at f2
        obtain ⟨k, hk⟩ : ∃ k : Nat, q.toInt = k := ⟨q.toInt.toNat, by omega⟩
        obtain ⟨P, hp⟩ : ∃ P : Nat, p.toInt = P := ⟨p.toInt.toNat, by omega⟩
        have hP : P < N' := by
          have := D.2.2.1
          omega
        have hN12 := S.1.2.2.2.1
        have nP : p.toNatClampNeg = P := by rw [ztn, hp]; rfl
        obtain ⟨td9, d9, t9⟩ := zi_ref (j := 10) (k2 := 9) hI hx (by rfl)
        obtain rfl : td9 = td' := Option.some.inj (d9.symm.trans d1)
        obtain ⟨c, hc⟩ : ∃ c, c = F_X1_copy (V.1 1) (V.1 0) s := ⟨_, rfl⟩
        rw [← hc] at T1 T2 T3 M
        have g7 : (σ1.2.2 x0 7).getD 0 = V.1 1 := by rw [hL.1.2.1]; rfl
        have g6 : (σ1.2.2 x0 6).getD 0 = V.1 0 := by rw [hL.1.1]; rfl
        have cx : ∀ j, c.2.2 x0 j = σ1.2.2 x0 j := fun j => T1 x0 j (fun z => zNk hx hV.2.1.2.1 (by decide) z.1)
        simp only [g7, g6, ← hc, cx, xrv hV, g10, T2 td9 9 t9 (by omega)] at f1
        obtain ⟨y, hy⟩ : ∃ y, y = F_X5_goThrough rv td9 (V.1 1) q (σ1.1 td9 13) c := ⟨_, rfl⟩
        obtain ⟨z, hz⟩ : ∃ z, z = F_X11_goes m0 q (F_X11_copies m0 σ2) := ⟨_, rfl⟩
        have MG : zMb (qOf σ1.2.2 rv sh cd td9 V 1) (mR σ2 m0) m0 B' N' gl' u' l' (σ1.1 td9 13) (F_X5_form rv td9 (V.1 1) c) (F_X11_copies m0 σ2) y z := by
          rw [hy, hz]
          unfold F_X5_goThrough F_X11_goes
          simp only [zlt]
          exact zMb.go hN hk (by omega) k 10000 4294967299 0 0 _ _ (by decide) (by omega) (by omega) (by omega) M
        rw [← hy] at f1
        rw [← hz] at f2
        have hVc : zRv L1 kd1 x0 rv sh cd c.2.2 := zRv.keep (V := V) (s := (σ1.1, c.2)) hV ⟨T1, fun _ _ => rfl⟩
        have yr : ∀ j, y.2.2 x0 j = σ1.2.2 x0 j := fun j => by
          rw [MG.2.2.2.2.2.1.rf, (zForm (V := V) hVc td9 (V.1 1)).1.1 x0 j (fun z => zNk hx hV.2.1.2.1 (by decide) z.1)]
          exact cx j
        obtain ⟨⟨-, -, -, -, -, -, -⟩, -, -, -, -, z20, z21⟩ := id MG.1.1.1.1
        have z20' : (y.2.2 (V.1 1) 1).getD 0 = V.2.2.1 1 := z20
        have z21' : (y.2.2 (V.1 1) 2).getD 0 = V.2.2.2 1 := z21
        obtain ⟨y6, y7, -, -⟩ := MG.2.1.1 P hP
        have y6' : y.1 (V.2.2.1 1) P = z.1 (mR σ2 m0 49) (24 + P) := y6
        have y7' : y.1 (V.2.2.2 1) P = z.1 (mR σ2 m0 49) (36 + P) := y7
        have w49 : (z.2.2 m0 49).getD 0 = mR σ2 m0 49 := (MG.1.2.1.1.1 49 (by unfold zYj; omega)).1
        simp only [yr, g7, z20', z21', nP] at f1
        rw [w49] at f2
        rcases (show r.toInt = 0 ∨ r.toInt = 1 by omega) with rr | rr
        · rw [if_pos rr] at f1
          rw [(zPr2 f1).1, (zPr2 f2).1, y6', show r = 0 from Int32.toInt_inj.mp (rr.trans e0.symm), ixN (show ((24 : Int32) + 12 * 0).toInt = (24 : Nat) by decide) (by decide) hp (by omega)]
        · rw [if_neg (by omega)] at f1
          rw [(zPr2 f1).1, (zPr2 f2).1, y7', show r = 1 from Int32.toInt_inj.mp (rr.trans o1.symm), ixN (show ((24 : Int32) + 12 * 1).toInt = (36 : Nat) by decide) (by decide) hp (by omega)]
      · rw [if_pos C] at f1 f2
        rw [(zPr2 f1).1, (zPr2 f2).1]
    · rw [if_pos A] at f1 f2
      rw [(zPr2 f1).1, (zPr2 f2).1]
  · rw [if_pos (a8.mpr D)] at f1
    rw [(zPr2 f1).1]
    by_cases A : 0 ≤ q.toInt ∧ q.toInt ≤ 60
    · rw [if_neg (fun z => z A)] at f2
      by_cases C : 0 ≤ r.toInt ∧ r.toInt ≤ 1
      · rw [if_neg (fun z => z C), if_pos (i2.mpr (fun z => D z.2))] at f2
        rw [(zPr2 f2).1]
      · rw [if_pos C] at f2
        rw [(zPr2 f2).1]
    · rw [if_pos A] at f2
      rw [(zPr2 f2).1]
end TRIED
end
