/-! MONTHS AHEAD: flowIn; the rows -/
section FLOWIN
variable {κ : Int} {L1 : List Nat} {kd1 : Nat → Nat} {L2 : List Nat} {kd2 : Nat → Nat} {σ1 σ2 τ1 τ2 s t : zS} {m0 x0 : Nat} {V : zWh} {ps pc sl rv sh cd : Nat} {v1 v2 p r : Int32}
/-- what forming writes -/
theorem zFormE {L : List Nat} {kd : Nat → Nat} {σ : zS} (h : zRv L kd x0 rv sh cd σ.2.2) (t a : Nat) : ∀ c j, ¬ zKs kd c j → (F_X5_form rv t a σ).1 c j = σ.1 c j := by
  obtain ⟨⟨a1, a2, a3, a4⟩, ⟨t0, t1, t2, t3⟩, b, c, d, e, f⟩ := h
  obtain ⟨s, hs⟩ : ∃ s : zS, s = (σ.1, σ.2.1, zu (zu σ.2.2 rv 5 (some t)) rv 6 (some a)) := ⟨_, rfl⟩
  have ns : ¬ sh = rv := zNk t2 t1 (by decide)
  have g0 : (s.2.2 rv 0).getD 0 = sh := by
    rw [hs]
    show (zu (zu σ.2.2 rv 5 _) rv 6 _ rv 0).getD 0 = sh
    rw [zu_j _ _ _ _ _ (by decide), zu_j _ _ _ _ _ (by decide), a3]
    rfl
  have E : F_X5_form rv t a σ = F_X6_form sh t a s := by
    rw [← g0, hs]
    unfold F_X5_form
    simp only [zlt]
  have sj : ∀ j, (s.2.2 sh j) = σ.2.2 sh j := fun j => by
    rw [hs]
    show zu (zu σ.2.2 rv 5 _) rv 6 _ sh j = _
    rw [zu_n _ _ _ ns, zu_n _ _ _ ns]
  have K : ∀ c k j, zT L kd c k → (k = 6 ∨ k = 33 ∨ k = 34 ∨ k = 35 ∨ k = 36 ∨ k = 38) → zKs kd c j := fun c k j hc hk => by
    unfold zKs
    rw [hc.2]
    omega
  have P : zFr (zKs kd) s (F_X6_form sh t a s) := fr_X6_form zFr.id (K _ 6 _ t2 (by omega)) (fun _ => by rw [sj]; exact K _ 33 _ (d 1 (by omega) (by omega)) (by omega)) (fun _ => by rw [sj]; exact K _ 34 _ (d 2 (by omega) (by omega)) (by omega)) (fun _ => by rw [sj]; exact K _ 35 _ (d 3 (by omega) (by omega)) (by omega)) (fun _ => by rw [sj]; exact K _ 38 _ (d 6 (by omega) (by omega)) (by omega)) (fun _ => by rw [sj]; exact K _ 36 _ (d 4 (by omega) (by omega)) (by omega))
  rw [E]
  intro c j n
  rw [P.2 c j n, hs]
theorem zRL.flowIn (h : zRL zQw L1 kd1 x0 m0 V ps pc sl rv sh cd σ1 σ2) (hw : 0 < zM m0 σ2 → zLw x0 m0 σ1 σ2) (hl : zLen x0 m0 σ1 σ2) (hx : zT L1 kd1 x0 10) (hI : zI κ 0 L1 kd1 σ1) (hJ : zJ κ L2 kd2 σ2) (hm : zT L2 kd2 m0 11) (hg : gN m0 σ2) (f1 : (v1, τ1) = F_X10_flowIn x0 p σ1) (f2 : (v2, τ2) = F_X11_flowIn m0 p σ2) : v1.toInt = v2.toInt := by
  have hV := h.2.1
  have hL := h.1
  have e0 : (0 : Int32).toInt = 0 := by decide
  have o60 : (60 : Int32).toInt = 60 := by decide
  have w0 : (0 : Int32).toNatClampNeg = 0 := by decide
  obtain ⟨T1, T2, T3, td, B, N, gl, u, l, d1, n2, eF, M⟩ := h.tried hw hl hx hI hJ hm hg (s := σ1) zPv.rf (fun _ _ _ _ => rfl)
  have g10 : (σ1.2.2 x0 10).getD 0 = td := by rw [d1]; rfl
  obtain ⟨td9, d9, t9⟩ := zi_ref (j := 10) (k2 := 9) hI hx (by rfl)
  obtain rfl : td9 = td := Option.some.inj (d9.symm.trans d1)
  obtain ⟨N', -, -, ⟨n3, n4, -⟩, -⟩ := h.2.2
  rw [g10] at n3
  have hM : F_X10_hasMouth x0 σ1 = (if 0 < (σ1.1 td9 0).toInt then 1 else 0, σ1) := by
    unfold F_X10_hasMouth
    simp only [zlt, g10]
    split <;> rfl
  have g7 : (σ1.2.2 x0 7).getD 0 = V.1 1 := by rw [hL.1.2.1]; rfl
  have g6 : (σ1.2.2 x0 6).getD 0 = V.1 0 := by rw [hL.1.1]; rfl
  unfold F_X10_flowIn at f1
  unfold F_X11_flowIn at f2
  simp only [zlt, zlt2, hM, cWithin, mLong, mIn, e0, o60, mMany, n2] at f1 f2
  obtain ⟨c, hc⟩ : ∃ c, c = F_X1_copy (V.1 1) (V.1 0) σ1 := ⟨_, rfl⟩
  rw [← hc] at T1 T2 T3 M eF
  have cx : ∀ j, c.2.2 x0 j = σ1.2.2 x0 j := fun j => T1 x0 j (fun z => zNk hx hV.2.1.2.1 (by decide) z.1)
  simp only [g7, g6, ← hc, cx, xrv hV, g10, T2 td9 9 t9 (by omega)] at f1
  by_cases hN : 0 < N
  · rw [if_pos (show 0 < (σ1.1 td9 0).toInt by omega), if_neg (by decide)] at f1
    by_cases A : 0 ≤ p.toInt ∧ p.toInt ≤ 60
    · rw [if_neg (fun z => z A)] at f1 f2
      rw [if_neg (show ¬ (N : Int) = 0 by omega)] at f2
      obtain ⟨k, hk⟩ : ∃ k : Nat, p.toInt = k := ⟨p.toInt.toNat, by omega⟩
      obtain ⟨y, hy⟩ : ∃ y, y = F_X5_goThrough rv td9 (V.1 1) p (σ1.1 td9 13) c := ⟨_, rfl⟩
      obtain ⟨z, hz⟩ : ∃ z, z = F_X11_goes m0 p (F_X11_copies m0 σ2) := ⟨_, rfl⟩
      have MG : zMb (qOf σ1.2.2 rv sh cd td9 V 1) (mR σ2 m0) m0 B N gl u l (σ1.1 td9 13) (F_X5_form rv td9 (V.1 1) c) (F_X11_copies m0 σ2) y z := by
        rw [hy, hz]
        unfold F_X5_goThrough F_X11_goes
        simp only [zlt]
        exact zMb.go hN hk (by omega) k 10000 4294967299 0 0 _ _ (by decide) (by omega) (by omega) (by omega) M
      rw [← hy] at f1
      rw [← hz] at f2
      have PVc : zPv L1 kd1 V rv σ1 (σ1.1, c.2) := ⟨T1, fun _ _ => rfl⟩
      have hVc : zRv L1 kd1 x0 rv sh cd c.2.2 := zRv.keep (s := (σ1.1, c.2)) hV PVc
      have FM := zForm (V := V) hVc td9 (V.1 1)
      have yR : ∀ a j, ¬ (a = rv ∧ (j = 5 ∨ j = 6)) → y.2.2 a j = σ1.2.2 a j := fun a j n => by
        rw [MG.2.2.2.2.2.1.rf, FM.1.1 a j n]
        exact T1 a j n
      have yr : ∀ j, y.2.2 x0 j = σ1.2.2 x0 j := fun j => yR x0 j (fun z => zNk hx hV.2.1.2.1 (by decide) z.1)
      have QR := MG.1.1.1
      have QRw := M.1.1.1
      obtain ⟨⟨tA, tI, tW, tM⟩, -⟩ := hL.2.2.2.1 1 (by decide)
      -- the river formed once more
      have FE := zFormE hVc td9 (V.1 1)
      have yE : ∀ a ka j, zT L1 kd1 a ka → (ka = 9 ∨ (46 ≤ ka ∧ ka ≤ 51) ∨ ka = 22 ∨ (ka = 1 ∧ j = 3)) → y.1 a j = c.1 a j := fun a ka j ha hk => by
        have T := qOf.t hL hV t9 (zTt_k hI t9) (k := 1) (by decide)
        rw [MG.2.2.2.2.2.1.2 a j (by
          rintro ((w | w | w | w | w) | w | w | w)
          · exact zNk ha (T 5 (by decide)) (by show ka ≠ 30; omega) w
          · exact zNk ha (T 6 (by decide)) (by show ka ≠ 31; omega) w
          · exact zNk ha (T 7 (by decide)) (by show ka ≠ 32; omega) w
          · exact zNk ha (T 8 (by decide)) (by show ka ≠ 20; omega) w
          · exact zNk ha (T 9 (by decide)) (by show ka ≠ 21; omega) w
          · exact zNk ha (T 20 (by decide)) (by show ka ≠ 23; omega) w
          · exact zNk ha (T 21 (by decide)) (by show ka ≠ 24; omega) w
          · have k1 : ka = 1 := by
              have e := ha.2
              rw [w.1] at e
              exact e.symm.trans (T 4 (by decide)).2
            omega)]
        exact FE a j (by
          unfold zKs
          rw [ha.2]
          omega)
      have cI : ∀ j, j < 12 → c.1 (V.2.1 1) j = σ1.1 (V.2.1 0) j := fun j hj => by
        have e := congrArg (fun c : zCo => c.1 j) T3
        have e1 : (zcc V c.1 1).1 j = c.1 (V.2.1 1) j := if_pos hj
        have e2 : (zcc V σ1.1 0).1 j = σ1.1 (V.2.1 0) j := if_pos hj
        rw [← e1, ← e2]
        exact e
      have cD : c.1 (V.1 1) 3 = σ1.1 (V.1 0) 3 := congrArg (fun c : zCo => c.2.2.2.1) T3
      obtain ⟨td2, B2, N2, gl2, u2, l2, q, Y, w, t, ⟨hq0, hY0, hw0, ht0⟩, d2, n2', S2, W2, -, -, -, -, -⟩ := zSd.of0 zGd.q1 (fun _ _ _ h => h) h hw hl hx hI hJ hm hg (s0 := y) yR (fun a ka ha hk => funext (fun j => (yE a ka j ha (by omega)).trans (congrFun (T2 a ka ha hk) j))) (k := 1) (by decide) (fun j hj => (yE _ 22 j tI (by omega)).trans (cI j hj)) ((yE _ 1 3 tA (by omega)).trans cD)
      have etd : td2 = td9 := Option.some.inj (d2.symm.trans d1)
      have eN2 : N2 = N := by omega
      subst etd eN2
      subst hq0 hY0
      rw [← ht0] at MG
      have S3 := S2.fr zFr.id MG.2.2.2.2.2.2.1
      have Dn3 : zDn (qOf σ1.2.2 rv sh cd td2 V 1) (mR σ2 m0) N2 w z := by
        unfold zDn
        rw [W2 20 (by omega), W2 21 (by omega), W2 4 (by omega)]
        exact MG.2.1
      have L3 := S3.fall Dn3 (m := 0) (by decide) zFr.id zFr.id
      have LG := MG.1.fall MG.2.1 (m := 0) (by decide) zFr.id zFr.id
      obtain ⟨x, hx0'⟩ : ∃ x, x = F_X5_fall rv 0 w := ⟨_, rfl⟩
      have L3' : zFr (zRw (qOf σ1.2.2 rv sh cd td2 V 1)) w x := by rw [hx0']; exact L3.1
      have xl : F_X5_look rv td2 (V.1 1) y = x := by
        rw [hx0', hw0]
        unfold F_X5_look
        simp only [zlt]
      have hVy : zRv L1 kd1 x0 rv sh cd y.2.2 := zRv.keep (V := V) (s := (σ1.1, y.2)) hV ⟨yR, fun _ _ => rfl⟩
      have xr : ∀ j, x.2.2 x0 j = σ1.2.2 x0 j := fun j => by
        rw [L3'.rf, hw0, (zForm (V := V) hVy td2 (V.1 1)).1.1 x0 j (fun z => zNk hx hV.2.1.2.1 (by decide) z.1)]
        exact yr j
      have x0N : x.1 td2 0 = σ1.1 td2 0 := by
        have e1 : x.1 td2 = w.1 td2 := zRw.r (i := 3) S2.1.1 L3' (by decide) (by omega)
        have e2 : w.1 td2 = y.1 td2 := W2 3 (by omega)
        rw [e1, e2, yE td2 9 0 t9 (by omega), T2 td2 9 t9 (by omega)]
      have MF := cMouthF (q := qOf σ1.2.2 rv sh cd td2 V 1) (x0 := x0) (t1 := x) (td := td2) (by rw [xr 2]; exact xrv hV) (by rw [xr 10]; exact g10) (by rw [L3'.rf]; exact S2.1.1.1.1.2.2.2.2.2.1) (by rw [x0N]; omega)
      have w55 : (z.2.2 m0 55).getD 0 = mR σ2 m0 55 := (MG.1.2.1.1.1 55 (by unfold zYj; omega)).1
      simp only [yr, xrv hV, g10, g7, xl, MF] at f1
      rw [w55, w0] at f2
      rw [(zPr2 f1).1, (zPr2 f2).1]
      have a1 : x.1 (qOf σ1.2.2 rv sh cd td2 V 1 6) 0 = (F_X11_fillsFlows m0 0 z).1 (mR σ2 m0 55) 0 := by
        rw [hx0']
        exact L3.2.2.1 0 hN
      have a2 := LG.2.2.1 0 hN
      have a3 := MG.2.2.2.2.2.2.2.2 0 hN
      rw [a1, ← a2, a3]
    · rw [if_pos A] at f1 f2
      rw [(zPr2 f1).1, (zPr2 f2).1]
  · rw [if_neg (show ¬ 0 < (σ1.1 td9 0).toInt by omega), if_pos (by decide)] at f1
    rw [(zPr2 f1).1]
    by_cases A : 0 ≤ p.toInt ∧ p.toInt ≤ 60
    · rw [if_neg (fun z => z A), if_pos (show (N : Int) = 0 by omega)] at f2
      rw [(zPr2 f2).1]
    · rw [if_pos A] at f2
      rw [(zPr2 f2).1]
end FLOWIN
section RP2
variable {κ k : Int} {L1 : List Nat} {kd1 : Nat → Nat} {L2 : List Nat} {kd2 : Nat → Nat} {σ1 σ2 τ1 τ2 : zS} {m0 x0 : Nat} {v1 v2 p q r : Int32}
theorem zRP.then (h : zRP κ L1 kd1 L2 kd2 x0 m0 σ1 σ2) (hI : zI κ 0 L1 kd1 σ1) (hJ : zJ κ L2 kd2 σ2) (hx : zT L1 kd1 x0 10) (hm : zT L2 kd2 m0 11) (hg : gN m0 σ2) (f1 : (v1, τ1) = F_X10_then x0 p q r σ1) (f2 : (v2, τ2) = F_X11_then m0 p q r σ2) : v1.toInt = v2.toInt := by
  obtain ⟨V, ps, pc, sl, rv, sh, cd, hR⟩ := h.2.2
  exact hR.then h.2.1 h.1.2 hx hI hJ hm hg f1 f2
theorem zRP.agree (h : zRP κ L1 kd1 L2 kd2 x0 m0 σ1 σ2) (hI : zI κ 0 L1 kd1 σ1) (hJ : zJ κ L2 kd2 σ2) (hx : zT L1 kd1 x0 10) (hm : zT L2 kd2 m0 11) (hg : gN m0 σ2) (f1 : (v1, τ1) = F_X10_agree x0 p σ1) (f2 : (v2, τ2) = F_X11_agree m0 p σ2) : v1.toInt = v2.toInt := by
  obtain ⟨V, ps, pc, sl, rv, sh, cd, hR⟩ := h.2.2
  exact hR.agree h.2.1 h.1.2 hx hI hJ hm hg f1 f2
theorem zRP.driest (h : zRP κ L1 kd1 L2 kd2 x0 m0 σ1 σ2) (hI : zI κ 0 L1 kd1 σ1) (hJ : zJ κ L2 kd2 σ2) (hx : zT L1 kd1 x0 10) (hm : zT L2 kd2 m0 11) (hg : gN m0 σ2) (f1 : (v1, τ1) = F_X10_driest x0 p q σ1) (f2 : (v2, τ2) = F_X11_driest m0 p q σ2) : v1.toInt = v2.toInt := by
  obtain ⟨V, ps, pc, sl, rv, sh, cd, hR⟩ := h.2.2
  exact hR.driest h.2.1 h.1.2 hx hI hJ hm hg f1 f2
theorem zRP.flowIn (h : zRP κ L1 kd1 L2 kd2 x0 m0 σ1 σ2) (hI : zI κ 0 L1 kd1 σ1) (hJ : zJ κ L2 kd2 σ2) (hx : zT L1 kd1 x0 10) (hm : zT L2 kd2 m0 11) (hg : gN m0 σ2) (f1 : (v1, τ1) = F_X10_flowIn x0 p σ1) (f2 : (v2, τ2) = F_X11_flowIn m0 p σ2) : v1.toInt = v2.toInt := by
  obtain ⟨V, ps, pc, sl, rv, sh, cd, hR⟩ := h.2.2
  exact hR.flowIn h.2.1 h.1.2 hx hI hJ hm hg f1 f2
end RP2
