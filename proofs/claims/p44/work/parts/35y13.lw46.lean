/-! MONTHS AHEAD, TRIED: then, flowIn -/
section TRIED
variable {κ : Int} {L1 : List Nat} {kd1 : Nat → Nat} {L2 : List Nat} {kd2 : Nat → Nat} {σ1 σ2 τ1 τ2 s t : zS} {m0 x0 : Nat} {V : zWh} {ps pc sl rv sh cd : Nat} {v1 v2 p q r : Int32}
/-- what was told of places stays while now is looked at -/
theorem zRL.lookE (h : zRL zQw L1 kd1 x0 m0 V ps pc sl rv sh cd σ1 σ2) (hl : zLen x0 m0 σ1 σ2) (hx : zT L1 kd1 x0 10) (hI : zI κ 0 L1 kd1 σ1) (hJ : zJ κ L2 kd2 σ2) (hm : zT L2 kd2 m0 11) (hg : gN m0 σ2) : ∀ c kc, zT L1 kd1 c kc → (kc = 9 ∨ (46 ≤ kc ∧ kc ≤ 51)) → (F_X10_look x0 σ1).1 c = σ1.1 c := by
  obtain ⟨N, u, FR, SR, ℓ, l, -, -, -, ⟨-, C2, -⟩, -⟩ := h.lk zGd.q1 hl hx hI hJ hm hg
  exact fun c kc hc hk => funext (fun j => C2 c j (by
    unfold zKs
    rw [hc.2]
    omega))
/-- the tried course, a copy of now, formed -/
theorem zRL.tried (h : zRL zQw L1 kd1 x0 m0 V ps pc sl rv sh cd σ1 σ2) (hw : 0 < zM m0 σ2 → zLw x0 m0 σ1 σ2) (hl : zLen x0 m0 σ1 σ2) (hx : zT L1 kd1 x0 10) (hI : zI κ 0 L1 kd1 σ1) (hJ : zJ κ L2 kd2 σ2) (hm : zT L2 kd2 m0 11) (hg : gN m0 σ2) (gs : zPv L1 kd1 V rv σ1 s) (hes : ∀ c kc, zT L1 kd1 c kc → (kc = 9 ∨ (46 ≤ kc ∧ kc ≤ 51)) → s.1 c = σ1.1 c) : (∀ a j, ¬ (a = rv ∧ (j = 5 ∨ j = 6)) → (F_X1_copy (V.1 1) (V.1 0) s).2.2 a j = σ1.2.2 a j) ∧ (∀ c kc, zT L1 kd1 c kc → (kc = 9 ∨ (46 ≤ kc ∧ kc ≤ 51)) → (F_X1_copy (V.1 1) (V.1 0) s).1 c = σ1.1 c) ∧ zcc V (F_X1_copy (V.1 1) (V.1 0) s).1 1 = zcc V σ1.1 0 ∧ ∃ (td B N : Nat) (gl : zGl) (u l : Nat → Nat), σ1.2.2 x0 10 = some td ∧ zM m0 σ2 = N ∧ (F_X5_form rv td (V.1 1) (F_X1_copy (V.1 1) (V.1 0) s)).1 td = σ1.1 td ∧ zMb (qOf σ1.2.2 rv sh cd td V 1) (mR σ2 m0) m0 B N gl u l (σ1.1 td 13) (F_X5_form rv td (V.1 1) (F_X1_copy (V.1 1) (V.1 0) s)) (F_X11_copies m0 σ2) (F_X5_form rv td (V.1 1) (F_X1_copy (V.1 1) (V.1 0) s)) (F_X11_copies m0 σ2) := by
  have hL := h.1
  have hV := h.2.1
  have hLs := hL.pv hV.2.1.2.1 gs
  obtain ⟨c1, c2, c3, c4⟩ := zCopy hLs (k := 1) (q := 0) (by decide) (by decide)
  obtain ⟨⟨tA, tI, tW, tM⟩, -⟩ := hL.2.2.2.1 1 (by decide)
  have gr : ∀ a j, ¬ (a = rv ∧ (j = 5 ∨ j = 6)) → (F_X1_copy (V.1 1) (V.1 0) s).2.2 a j = σ1.2.2 a j := fun a j n => by rw [c1]; exact gs.1 a j n
  have he : ∀ c kc, zT L1 kd1 c kc → (kc = 9 ∨ (46 ≤ kc ∧ kc ≤ 51)) → (F_X1_copy (V.1 1) (V.1 0) s).1 c = σ1.1 c := fun c kc hc hk => by
    rw [c4 c (by
      rintro (z | z | z | z)
      · exact zNk hc tA (by omega) z
      · exact zNk hc tI (by omega) z
      · exact zNk hc tW (by omega) z
      · exact zNk hc tM (by omega) z)]
    exact hes c kc hc hk
  have hc : zcc V (F_X1_copy (V.1 1) (V.1 0) s).1 1 = zcc V σ1.1 0 := c2.trans (gs.cc hL (by decide) (by decide))
  obtain ⟨td, B, N, gl, u, l, d1, n2, e0, M⟩ := zSd.of zGd.q1 (fun _ _ _ h => h) h hw hl hx hI hJ hm hg gr he (by decide) hc
  obtain ⟨td9, d9, t9⟩ := zi_ref (j := 10) (k2 := 9) hI hx (by rfl)
  obtain rfl : td9 = td := Option.some.inj (d9.symm.trans d1)
  exact ⟨gr, he, hc, td9, B, N, gl, u, l, d1, n2, e0.trans (he td9 9 t9 (by omega)), M⟩
theorem mLong {p : Int32} : F_X11_isLong p = F_X11_in p 0 60 := by
  unfold F_X11_isLong
  simp only [zlt]
theorem zRL.then (h : zRL zQw L1 kd1 x0 m0 V ps pc sl rv sh cd σ1 σ2) (hw : 0 < zM m0 σ2 → zLw x0 m0 σ1 σ2) (hl : zLen x0 m0 σ1 σ2) (hx : zT L1 kd1 x0 10) (hI : zI κ 0 L1 kd1 σ1) (hJ : zJ κ L2 kd2 σ2) (hm : zT L2 kd2 m0 11) (hg : gN m0 σ2) (f1 : (v1, τ1) = F_X10_then x0 p q r σ1) (f2 : (v2, τ2) = F_X11_then m0 p q r σ2) : v1.toInt = v2.toInt := by
  obtain ⟨td, B, N, gl, u, l, Q, Y, d1, n2, eL, xr, ⟨hq, hY⟩, ⟨S, Dn, FL, RN⟩, -, -⟩ := h.now hw hl hx hI hJ hm hg
  have hV := h.2.1
  have hL := h.1
  have e0 : (0 : Int32).toInt = 0 := by decide
  have o1 : (1 : Int32).toInt = 1 := by decide
  have o60 : (60 : Int32).toInt = 60 := by decide
  have q1 : Q 1 = sh := by rw [hq]; rfl
  have g3 : (σ1.2.2 x0 3).getD 0 = sh := by rw [hV.1.2.1]; rfl
  have g10 : (σ1.2.2 x0 10).getD 0 = td := by rw [d1]; rfl
  have a8 := S.1.2.2.2.2.2.2.2 p
  have a9 := cIsR (x := p) S.1.1 (zFr.id (σ := F_X10_look x0 σ1))
  rw [q1] at a8 a9
  obtain ⟨w2, e2, i2⟩ := mCt (p := p) (k := 0) S
  obtain ⟨T1, T2, T3, td', B', N', gl', u', l', d1', n2', -, M⟩ := h.tried hw hl hx hI hJ hm hg (zLookN hL hV) (h.lookE hl hx hI hJ hm hg)
  obtain rfl : td' = td := Option.some.inj (d1'.symm.trans d1)
  obtain rfl : N' = N := by omega
  have gs := zLookN hL hV
  clear FL RN Dn
  unfold F_X10_then at f1
  unfold F_X11_then at f2
  simp only [zlt, zlt2, cWithin, mLong, mIn, e0, o60, o1, e2] at f1 f2
  obtain ⟨s, hs⟩ : ∃ s, s = F_X10_look x0 σ1 := ⟨_, rfl⟩
  rw [← hs] at f1 a8 a9 xr T1 T2 T3 M S gs
  obtain ⟨w1, hw1⟩ : ∃ w, w = (F_X6_isSource sh p s).1 := ⟨_, rfl⟩
  rw [← hw1] at a8 a9
  simp only [xr, g3, a9] at f1
  by_cases D : 0 ≤ p.toInt ∧ Src N' u p.toInt.toNat
  · rw [if_neg (fun z => a8.mp z D)] at f1
    have hN : 0 < N' := by have := D.2.2.1; omega
    by_cases A : 0 ≤ q.toInt ∧ q.toInt ≤ 60
    · rw [if_neg (fun z => z A)] at f1 f2
      by_cases C : 0 ≤ r.toInt ∧ r.toInt ≤ 1
      · rw [if_neg (fun z => z C)] at f1 f2
        rw [if_neg (fun z => i2.mp z ⟨⟨by decide, by decide⟩, D⟩)] at f2
        obtain ⟨k, hk⟩ : ∃ k : Nat, q.toInt = k := ⟨q.toInt.toNat, by omega⟩
        obtain ⟨P, hp⟩ : ∃ P : Nat, p.toInt = P := ⟨p.toInt.toNat, by omega⟩
        have hP : P < N' := by
          have := D.2.2.1
          omega
        have hN12 := S.1.2.2.2.1
        have nP : p.toNatClampNeg = P := by rw [ztn, hp]; rfl
        obtain ⟨td9, d9, t9⟩ := zi_ref (j := 10) (k2 := 9) hI hx (by rfl)
        obtain rfl : td9 = td' := Option.some.inj (d9.symm.trans d1)
        obtain ⟨c, hc⟩ : ∃ c, c = F_X1_copy (V.1 1) (V.1 0) s := ⟨_, rfl⟩
        rw [← hc] at T1 T2 T3 M
        have g7 : (σ1.2.2 x0 7).getD 0 = V.1 1 := by rw [hL.1.2.1]; rfl
        have g6 : (σ1.2.2 x0 6).getD 0 = V.1 0 := by rw [hL.1.1]; rfl
        have cx : ∀ j, c.2.2 x0 j = σ1.2.2 x0 j := fun j => T1 x0 j (fun z => zNk hx hV.2.1.2.1 (by decide) z.1)
        simp only [g7, g6, ← hc, cx, xrv hV, g10, T2 td9 9 t9 (by omega)] at f1
        obtain ⟨y, hy⟩ : ∃ y, y = F_X5_goThrough rv td9 (V.1 1) q (σ1.1 td9 13) c := ⟨_, rfl⟩
        obtain ⟨z, hz⟩ : ∃ z, z = F_X11_goes m0 q (F_X11_copies m0 σ2) := ⟨_, rfl⟩
        have MG : zMb (qOf σ1.2.2 rv sh cd td9 V 1) (mR σ2 m0) m0 B' N' gl' u' l' (σ1.1 td9 13) (F_X5_form rv td9 (V.1 1) c) (F_X11_copies m0 σ2) y z := by
          rw [hy, hz]
          unfold F_X5_goThrough F_X11_goes
          simp only [zlt]
          exact zMb.go hN hk (by omega) k 10000 4294967299 0 0 _ _ (by decide) (by omega) (by omega) (by omega) M
        rw [← hy] at f1
        rw [← hz] at f2
        have hVc : zRv L1 kd1 x0 rv sh cd c.2.2 := zRv.keep (V := V) (s := (σ1.1, c.2)) hV ⟨T1, fun _ _ => rfl⟩
        have yr : ∀ j, y.2.2 x0 j = σ1.2.2 x0 j := fun j => by
          rw [MG.2.2.2.2.2.1.rf, (zForm (V := V) hVc td9 (V.1 1)).1.1 x0 j (fun z => zNk hx hV.2.1.2.1 (by decide) z.1)]
          exact cx j
        obtain ⟨⟨-, -, -, -, -, -, -⟩, -, -, -, -, z20, z21⟩ := id MG.1.1.1.1
        have z20' : (y.2.2 (V.1 1) 1).getD 0 = V.2.2.1 1 := z20
        have z21' : (y.2.2 (V.1 1) 2).getD 0 = V.2.2.2 1 := z21
        obtain ⟨y6, y7, -, -⟩ := MG.2.1.1 P hP
        have y6' : y.1 (V.2.2.1 1) P = z.1 (mR σ2 m0 49) (24 + P) := y6
        have y7' : y.1 (V.2.2.2 1) P = z.1 (mR σ2 m0 49) (36 + P) := y7
        have w49 : (z.2.2 m0 49).getD 0 = mR σ2 m0 49 := (MG.1.2.1.1.1 49 (by unfold zYj; omega)).1
        simp only [yr, g7, z20', z21', nP] at f1
        rw [w49] at f2
        rcases (show r.toInt = 0 ∨ r.toInt = 1 by omega) with rr | rr
        · rw [if_pos rr] at f1
          rw [(zPr2 f1).1, (zPr2 f2).1, y6', show r = 0 from Int32.toInt_inj.mp (rr.trans e0.symm), ixN (show ((24 : Int32) + 12 * 0).toInt = (24 : Nat) by decide) (by decide) hp (by omega)]
        · rw [if_neg (by omega)] at f1
          rw [(zPr2 f1).1, (zPr2 f2).1, y7', show r = 1 from Int32.toInt_inj.mp (rr.trans o1.symm), ixN (show ((24 : Int32) + 12 * 1).toInt = (36 : Nat) by decide) (by decide) hp (by omega)]
      · rw [if_pos C] at f1 f2
        rw [(zPr2 f1).1, (zPr2 f2).1]
    · rw [if_pos A] at f1 f2
      rw [(zPr2 f1).1, (zPr2 f2).1]
  · rw [if_pos (a8.mpr D)] at f1
    rw [(zPr2 f1).1]
    by_cases A : 0 ≤ q.toInt ∧ q.toInt ≤ 60
    · rw [if_neg (fun z => z A)] at f2
      by_cases C : 0 ≤ r.toInt ∧ r.toInt ≤ 1
      · rw [if_neg (fun z => z C), if_pos (i2.mpr (fun z => D z.2))] at f2
        rw [(zPr2 f2).1]
      · rw [if_pos C] at f2
        rw [(zPr2 f2).1]
    · rw [if_pos A] at f2
      rw [(zPr2 f2).1]
end TRIED
