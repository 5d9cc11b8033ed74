/-! MONTHS AHEAD, STILL: agree, driest, flowIn -/
section STILL
variable {q Y : Nat → Nat} {a b N : Nat} {R : Nat → Nat → Option Nat} {s1 s2 t1 t2 z1 z2 : zS} {g : zGl} {u l : Nat → Nat} {k : Int32} {w : Nat} {v : Int32}
/-- storms and seeds bear on nothing that stands -/
theorem zSd.f51 (S : zSd q Y a b N g u l s1 s2) (f : zFr (fun c j => c = a ∧ (j = 50 ∨ j = 51)) s2 t2) : zSd q Y a b N g u l s1 t2 := by
  obtain ⟨A, ⟨b1, b2, b3, b4, b5, b6, b7, b8⟩, c, d, e⟩ := S
  have r2 := f.rf
  have qj : ∀ j, zYj j → t2.1 (Y j) = s2.1 (Y j) := fun j hj => funext (fun i => f.2 (Y j) i (fun z => (b1.1 j hj).2 z.1))
  have e18 : t2.1 a 18 = s2.1 a 18 := f.2 a 18 (by omega)
  have mM : F_X11_many a t2 = F_X11_many a s2 := by
    unfold F_X11_many
    simp only [zlt]
    rw [r2, (b1.1 21 (by unfold zYj; omega)).1, e18, qj 21 (by unfold zYj; omega)]
  refine ⟨A, ⟨by rw [r2]; exact b1, by rw [e18]; exact b2, b3, fun hN => (b4 hN).cg (fun j hj => qj j (by unfold zYj; omega)), by rw [mM]; exact b5, fun c c1 c2 => by rw [qj 49 (by unfold zYj; omega)]; exact b6 c c1 c2, fun c hc => by rw [qj 53 (by unfold zYj; omega)]; exact b7 c hc, fun x => ?_⟩, fun p hp => ?_, fun c c1 c2 => ?_, fun hN => ?_⟩
  · have e : F_X11_isSource a x t2 = F_X11_isSource a x s2 := by
      have g54 := (b1.1 54 (by unfold zYj; omega)).1
      have x54 : t2.1 (Y 54) = s2.1 (Y 54) := qj 54 (by unfold zYj; omega)
      unfold F_X11_isSource F_X11_isBeside
      simp only [zlt, r2, g54, x54, mM]
    rw [e]
    exact b8 x
  · rw [qj 24 (by unfold zYj; omega), qj 52 (by unfold zYj; omega), qj 25 (by unfold zYj; omega), qj 23 (by unfold zYj; omega), qj 54 (by unfold zYj; omega)]
    exact c p hp
  · have xd : dmM Y t2 c = dmM Y s2 c := by
      unfold dmM
      rw [qj 49 (by unfold zYj; omega)]
    rw [xd]
    exact d c c1 c2
  · rw [qj 28 (by unfold zYj; omega)]
    exact e hN
/-- still months begin -/
theorem zMb.still (M : zMb q Y a b N g u l v s1 s2 t1 t2) : zMh q Y a b N g u l (F_X5_fall (q 0) 0 t1) (zu t2.1 a 51 1, t2.2) (F_X5_fall (q 0) 0 t1) (zu t2.1 a 51 1, t2.2) := by
  obtain ⟨S, Dn, -, -, -, -, -, -, FL⟩ := M
  have L := S.fall Dn (m := 0) (by decide) zFr.id zFr.id
  have hY := S.2.1.1
  have f : zFr (fun c j => c = a ∧ (j = 50 ∨ j = 51)) t2 (zu t2.1 a 51 1, t2.2) := ⟨rfl, fun c j n => by
    show zu t2.1 a 51 1 c j = _
    by_cases e : c = a
    · subst e
      exact zu_j _ _ _ _ _ (fun z => n ⟨rfl, Or.inr z.symm⟩)
    · rw [zu_n _ _ _ e]⟩
  have S' := S.f51 f
  have n49 : zu t2.1 a 51 1 (Y 49) = t2.1 (Y 49) := zu_n _ _ _ (hY.1 49 (by unfold zYj; omega)).2
  have n55 : zu t2.1 a 51 1 (Y 55) = t2.1 (Y 55) := zu_n _ _ _ (hY.1 55 (by unfold zYj; omega)).2
  have Dn' : zDn q Y N t1 (zu t2.1 a 51 1, t2.2) := by
    unfold zDn
    show (∀ p, p < N → t1.1 (q 20) p = zu t2.1 a 51 1 (Y 49) (24 + p) ∧ t1.1 (q 21) p = zu t2.1 a 51 1 (Y 49) (36 + p) ∧ _) ∧ t1.1 (q 4) 4 = zu t2.1 a 51 1 (Y 49) 48 ∧ t1.1 (q 4) 5 = zu t2.1 a 51 1 (Y 49) 49 ∧ _
    rw [n49]
    exact Dn
  have L2 := S'.fall Dn' (m := 0) (by decide) zFr.id zFr.id
  refine ⟨S'.fr (zRw.up L.1) zFr.id, Dn'.up1 S.1.1 L.1, ?_, zFr.id, zFr.id, fun p hp => ⟨?_, L2.2.2.1 p hp⟩⟩
  · show ¬ (zu t2.1 a 51 1 a 51).toInt = 0
    rw [zu_s]
    decide
  · show _ = zu t2.1 a 51 1 (Y 55) p
    rw [n55]
    exact FL p hp
/-- who wins, still: on both sides -/
theorem zMh.win (M : zMh q Y a b N g u l s1 s2 t1 t2) (hk : k.toInt = w) (hw : w < 3) : ∃ x y za zb, F_X5_winnerBy (q 0) k t1 = (x, za) ∧ F_X11_winnerBy a k t2 = (y, zb) ∧ x.toInt = y.toInt ∧ (x.toInt = -2 ∨ 1 ≤ x.toInt) ∧ zMh q Y a b N g u l s1 s2 za zb := by
  obtain ⟨S, Dn, h51, g1, g2, hF⟩ := id M
  have E := S.eq Dn
  have hN := S.1.2.2.2.1
  obtain ⟨x, za, x1, x2, x3, x4, -⟩ := cWin S.1.1 S.1.2.1 S.1.2.2.1 hN S.1.2.2.2.2.2.2.2 hk hw (F := fun p => t1.1 (q 6) p) zFr.id (fun p _ => rfl)
  obtain ⟨y, zb, y1, y2, y3, y4⟩ := mWin S.2.1.1 S.2.1.2.1 S.2.1.2.2.1 S.2.1.2.2.2.1 S.2.1.2.2.2.2.1 hN S.2.1.2.2.2.2.2.2.2 hk hw (F := fun p => t2.1 (Y 55) p) zFr.id (fun p _ => rfl)
  have xy : x.toInt = y.toInt := by
    rw [x2, y2]
    exact wnEq E (fun p hp => (hF p hp).1)
  refine ⟨x, y, za, zb, x1, y1, xy, ?_, M.up x3 (funext (fun j => x4.2 (q 6) j (by
    rintro (z | z | z)
    · exact S.1.1.n (by decide) (by decide) (by decide) z
    · exact S.1.1.n (by decide) (by decide) (by decide) z
    · exact S.1.1.n (by decide) (by decide) (by decide) z))) y3 (zUw.r55 S.2.1.1 y4)⟩
  rw [x2]
  rcases wn_r (S := sB N u) (C := fun p => clC q t1 g w p (t1.1 (q 6) p)) (but := -1) N with z | ⟨W, W1, W2, W3, -⟩
  · exact Or.inl z
  · have := (sB_t.mp W3).1
    exact Or.inr (by omega)
end STILL
section STILL2
variable {κ : Int} {L1 : List Nat} {kd1 : Nat → Nat} {L2 : List Nat} {kd2 : Nat → Nat} {σ1 σ2 τ1 τ2 s t : zS} {m0 x0 : Nat} {V : zWh} {ps pc sl rv sh cd : Nat} {v1 v2 p r : Int32} {q Y : Nat → Nat} {B N : Nat} {gl : zGl} {u l : Nat → Nat}
theorem agreeL (hx0 : (s.2.2 x0 2).getD 0 = q 0) {T : Nat} (hp : p.toInt = T) (hT : T < 4000) : ∀ (d n n' : Nat) (x c : Int32) (i : Nat) (t1 t2 : zS), x.toInt = i → i + d = T → d < n → d < n' → zMh q Y m0 B N gl u l s t t1 t2 → (F_X10_agree_20 x0 p n x c t1).1 = (F_X11_agree_17 m0 p n' x c t2).1 := by
  have z0 : (0 : Int32).toInt = 0 := by decide
  have z1 : (1 : Int32).toInt = 1 := by decide
  have z2 : (2 : Int32).toInt = 2 := by decide
  have rx : ∀ {t1 t2 : zS}, zMh q Y m0 B N gl u l s t t1 t2 → (t1.2.2 x0 2).getD 0 = q 0 := fun M => by rw [M.2.2.2.1.rf]; exact hx0
  intro d
  induction d with
  | zero =>
    intro n n' x c i t1 t2 hx' hi hn hn' M
    obtain ⟨n, rfl⟩ : ∃ k, n = k + 1 := ⟨n - 1, by omega⟩
    obtain ⟨n', rfl⟩ : ∃ k, n' = k + 1 := ⟨n' - 1, by omega⟩
    rw [F_X10_agree_20, F_X11_agree_17, if_neg (by omega), if_neg (by omega)]
  | succ d ih =>
    intro n n' x c i t1 t2 hx' hi hn hn' M
    obtain ⟨n, rfl⟩ : ∃ k, n = k + 1 := ⟨n - 1, by omega⟩
    obtain ⟨n', rfl⟩ : ∃ k, n' = k + 1 := ⟨n' - 1, by omega⟩
    have nx := zp1 hx' (by omega)
    obtain ⟨x1, y1, ta, ua, a1, a2, a3, a4, M1⟩ := M.win z0 (by decide)
    obtain ⟨x2, y2, tb, ub, b1, b2, b3, -, M2⟩ := M1.win z1 (by decide)
    obtain ⟨x3, y3, tc, uc, c1, c2, c3, -, M3⟩ := M2.win z2 (by decide)
    have go : ∀ {t1 t2 : zS} (c : Int32), zMh q Y m0 B N gl u l s t t1 t2 → (F_X10_agree_20 x0 p n (x + (1 : Int32)) c (F_X5_goOn (q 0) t1)).1 = (F_X11_agree_17 m0 p n' (x + (1 : Int32)) c (F_X11_monthGoes m0 t2)).1 := fun c M => ih n n' _ c (i + 1) _ _ nx (by omega) (by omega) (by omega) M.step.1
    rw [F_X10_agree_20, F_X11_agree_17, if_pos (by omega), if_pos (by omega)]
    simp only [↓zlt, ↓zlt2, rx M, a1, a2, rx M1, b1, b2, rx M2, c1, c2, rx M3]
    by_cases e1 : 0 < x1.toInt
    · rw [if_pos e1, if_neg (show ¬ y1.toInt < 0 by omega)]
      by_cases e2 : x1.toInt = x2.toInt
      · rw [if_pos e2, if_pos (show y2.toInt = y1.toInt by omega)]
        by_cases e3 : x1.toInt = x3.toInt
        · rw [if_pos e3, if_pos (show y3.toInt = y1.toInt by omega)]
          exact go _ M3
        · rw [if_neg e3, if_neg (show ¬ y3.toInt = y1.toInt by omega)]
          exact go _ M3
      · rw [if_neg e2, if_neg (show ¬ y2.toInt = y1.toInt by omega)]
        exact go _ M2
    · rw [if_neg e1, if_pos (show y1.toInt < 0 by omega)]
      exact go _ M1
theorem mSome {p : Int32} : F_X11_isSome p = F_X11_in p 1 24 := by
  unfold F_X11_isSome
  simp only [zlt]
/-- the tried course, looked at, still -/
theorem zRL.still (h : zRL zQw L1 kd1 x0 m0 V ps pc sl rv sh cd σ1 σ2) (hw : 0 < zM m0 σ2 → zLw x0 m0 σ1 σ2) (hl : zLen x0 m0 σ1 σ2) (hx : zT L1 kd1 x0 10) (hI : zI κ 0 L1 kd1 σ1) (hJ : zJ κ L2 kd2 σ2) (hm : zT L2 kd2 m0 11) (hg : gN m0 σ2) : ∃ (td B N : Nat) (gl : zGl) (u l : Nat → Nat) (q Y : Nat → Nat), σ1.2.2 x0 10 = some td ∧ zM m0 σ2 = N ∧ (q 0 = rv ∧ q 3 = td) ∧ (∀ j, (F_X10_tryFromNow x0 σ1).2.2 x0 j = σ1.2.2 x0 j) ∧ ((F_X10_tryFromNow x0 σ1).1 td 0).toInt = N ∧ zMh q Y m0 B N gl u l (F_X10_tryFromNow x0 σ1) (F_X11_copiesStill m0 σ2) (F_X10_tryFromNow x0 σ1) (F_X11_copiesStill m0 σ2) := by
  have hL := h.1
  have hV := h.2.1
  obtain ⟨T1, T2, T3, td, B, N, gl, u, l, d1, n2, eF, M⟩ := h.tried hw hl hx hI hJ hm hg (s := σ1) zPv.rf (fun _ _ _ _ => rfl)
  have g10 : (σ1.2.2 x0 10).getD 0 = td := by rw [d1]; rfl
  obtain ⟨td9, d9, t9⟩ := zi_ref (j := 10) (k2 := 9) hI hx (by rfl)
  obtain rfl : td9 = td := Option.some.inj (d9.symm.trans d1)
  have g7 : (σ1.2.2 x0 7).getD 0 = V.1 1 := by rw [hL.1.2.1]; rfl
  have g6 : (σ1.2.2 x0 6).getD 0 = V.1 0 := by rw [hL.1.1]; rfl
  have cx : ∀ j, (F_X1_copy (V.1 1) (V.1 0) σ1).2.2 x0 j = σ1.2.2 x0 j := fun j => T1 x0 j (fun z => zNk hx hV.2.1.2.1 (by decide) z.1)
  have eT : F_X10_tryFromNow x0 σ1 = F_X5_fall rv 0 (F_X5_form rv td9 (V.1 1) (F_X1_copy (V.1 1) (V.1 0) σ1)) := by
    unfold F_X10_tryFromNow F_X5_look
    simp only [zlt, g7, g6, cx, xrv hV, g10]
  have eS : F_X11_copiesStill m0 σ2 = (zu (F_X11_copies m0 σ2).1 m0 51 1, (F_X11_copies m0 σ2).2) := by
    unfold F_X11_copiesStill
    simp only [zlt]
  have St := M.still
  have hVc : zRv L1 kd1 x0 rv sh cd (F_X1_copy (V.1 1) (V.1 0) σ1).2.2 := zRv.keep (V := V) (s := (σ1.1, (F_X1_copy (V.1 1) (V.1 0) σ1).2)) hV ⟨T1, fun _ _ => rfl⟩
  have LF := (M.1.fall M.2.1 (m := 0) (by decide) zFr.id zFr.id).1
  refine ⟨td9, B, N, gl, u, l, _, _, d1, n2, ⟨rfl, rfl⟩, fun j => ?_, ?_, by rw [eT, eS]; exact St⟩
  · rw [eT]
    have e1 : (F_X5_fall rv 0 (F_X5_form rv td9 (V.1 1) (F_X1_copy (V.1 1) (V.1 0) σ1))).2.2 = (F_X5_form rv td9 (V.1 1) (F_X1_copy (V.1 1) (V.1 0) σ1)).2.2 := LF.rf
    rw [e1, (zForm (V := V) hVc td9 (V.1 1)).1.1 x0 j (fun z => zNk hx hV.2.1.2.1 (by decide) z.1)]
    exact cx j
  · obtain ⟨N', -, -, ⟨n3, n4, -⟩, -⟩ := h.2.2
    rw [g10] at n3
    have e1 : (F_X5_fall rv 0 (F_X5_form rv td9 (V.1 1) (F_X1_copy (V.1 1) (V.1 0) σ1))).1 td9 = (F_X5_form rv td9 (V.1 1) (F_X1_copy (V.1 1) (V.1 0) σ1)).1 td9 := zRw.r (i := 3) M.1.1.1 LF (by decide) (by omega)
    rw [eT, e1, eF]
    omega
theorem zRL.agree (h : zRL zQw L1 kd1 x0 m0 V ps pc sl rv sh cd σ1 σ2) (hw : 0 < zM m0 σ2 → zLw x0 m0 σ1 σ2) (hl : zLen x0 m0 σ1 σ2) (hx : zT L1 kd1 x0 10) (hI : zI κ 0 L1 kd1 σ1) (hJ : zJ κ L2 kd2 σ2) (hm : zT L2 kd2 m0 11) (hg : gN m0 σ2) (f1 : (v1, τ1) = F_X10_agree x0 p σ1) (f2 : (v2, τ2) = F_X11_agree m0 p σ2) : v1.toInt = v2.toInt := by
  obtain ⟨td, B, N, gl, u, l, q, Y, d1, n2, ⟨q0, q3⟩, xr, n0, M⟩ := h.still hw hl hx hI hJ hm hg
  have o1 : (1 : Int32).toInt = 1 := by decide
  have o24 : (24 : Int32).toInt = 24 := by decide
  unfold F_X10_agree at f1
  unfold F_X11_agree at f2
  simp only [zlt, cWithin, mSome, mIn, o1, o24] at f1 f2
  by_cases A : 1 ≤ p.toInt ∧ p.toInt ≤ 24
  · rw [if_neg (fun z => z A)] at f1 f2
    obtain ⟨T, hT⟩ : ∃ T : Nat, p.toInt = T := ⟨p.toInt.toNat, by omega⟩
    have L := agreeL (by rw [xr 2, xrv h.2.1, q0]) hT (by omega) T 4294967299 4294967299 0 0 0 _ _ (by decide) (by omega) (by omega) (by omega) M
    rw [show v1 = _ from congrArg Prod.fst f1, show v2 = _ from congrArg Prod.fst f2, L]
  · rw [if_pos A] at f1 f2
    rw [(zPr2 f1).1, (zPr2 f2).1]
/-- what flows at the mouth -/
theorem cMouthF {td : Nat} {t1 : zS} (r2 : (t1.2.2 x0 2).getD 0 = q 0) (r10 : (t1.2.2 x0 10).getD 0 = td) (r3 : (t1.2.2 (q 0) 3).getD 0 = q 6) (h0 : 0 < (t1.1 td 0).toInt) : F_X10_mouthFlow x0 t1 = (t1.1 (q 6) 0, t1) := by
  have e1 : ¬ (1 : Int32).toInt = 0 := by decide
  have w0 : (0 : Int32).toNatClampNeg = 0 := by decide
  unfold F_X10_mouthFlow F_X10_hasMouth
  simp only [zlt, zlt2, r10]
  rw [if_pos h0]
  simp only [r2, r3, w0]
  rw [if_neg e1]
theorem zMh.mouth (M : zMh q Y m0 B N gl u l s t τ1 τ2) {td : Nat} (hN : 0 < N) (xr : ∀ j, j = 2 ∨ j = 10 → s.2.2 x0 j = σ1.2.2 x0 j) (r2 : (σ1.2.2 x0 2).getD 0 = q 0) (r10 : (σ1.2.2 x0 10).getD 0 = td) (q3 : q 3 = td) (n0 : (s.1 td 0).toInt = N) (hq : zQr q s.2.2) : F_X10_mouthFlow x0 τ1 = (τ2.1 (Y 55) 0, τ1) := by
  obtain ⟨S, Dn, h51, g1, g2, hF⟩ := M
  have e0 : τ1.1 td 0 = s.1 td 0 := by
    rw [← q3]
    exact congrFun (zGw.r hq g1 (i := 3) (by decide) (by omega)) 0
  rw [cMouthF (q := q) (td := td) (by rw [g1.rf, xr 2 (by omega)]; exact r2) (by rw [g1.rf, xr 10 (by omega)]; exact r10) S.1.1.1.1.2.2.2.2.2.1 (by rw [e0, n0]; omega), (hF 0 hN).1]
theorem driestL {td : Nat} (hN : 0 < N) (xr : ∀ j, j = 2 ∨ j = 10 → s.2.2 x0 j = σ1.2.2 x0 j) (r2 : (σ1.2.2 x0 2).getD 0 = q 0) (r10 : (σ1.2.2 x0 10).getD 0 = td) (q3 : q 3 = td) (n0 : (s.1 td 0).toInt = N) (hq : zQr q s.2.2) {T : Nat} (hp : p.toInt = T) (hT : T < 4000) : ∀ (d n n' : Nat) (x c e : Int32) (i : Nat) (t0 t2 : zS), x.toInt = i → i + d = T → 1 ≤ i → d < n → d < n' → 0 ≤ e.toInt → (t0.2.2 x0 2).getD 0 = q 0 → zMh q Y m0 B N gl u l s t (F_X5_goOn (q 0) t0) t2 → (F_X10_driest_43 x0 p r n x c e t0).1 = (F_X11_driest_37 m0 p r n' x c e t2).1 := by
  have w0 : (0 : Int32).toNatClampNeg = 0 := by decide
  intro d
  induction d with
  | zero =>
    intro n n' x c e i t0 t2 hx' hi h1 hn hn' he hr M
    obtain ⟨n, rfl⟩ : ∃ k, n = k + 1 := ⟨n - 1, by omega⟩
    obtain ⟨n', rfl⟩ : ∃ k, n' = k + 1 := ⟨n' - 1, by omega⟩
    have nlt : ¬ x.toInt < p.toInt := by omega
    rw [F_X10_driest_43, F_X11_driest_37, if_neg nlt, if_neg nlt]
    by_cases r0 : r.toInt = 0
    · rw [if_pos r0, if_pos r0]
    · rw [if_neg r0, if_neg r0]
  | succ d ih =>
    intro n n' x c e i t0 t2 hx' hi h1 hn hn' he hr M
    obtain ⟨n, rfl⟩ : ∃ k, n = k + 1 := ⟨n - 1, by omega⟩
    obtain ⟨n', rfl⟩ : ∃ k, n' = k + 1 := ⟨n' - 1, by omega⟩
    have nx := zp1 hx' (by omega)
    have F := M.mouth (σ1 := σ1) (x0 := x0) hN xr r2 r10 q3 n0 hq
    have g55 := (M.1.2.1.1.1 55 (by unfold zYj; omega)).1
    have hr' : ((F_X5_goOn (q 0) t0).2.2 x0 2).getD 0 = q 0 := by rw [M.2.2.2.1.rf, xr 2 (by omega)]; exact r2
    rw [F_X10_driest_43, F_X11_driest_37, if_pos (by omega), if_pos (by omega)]
    simp only [↓zlt, ↓zlt2, hr, F, g55, w0]
    rw [if_neg (show ¬ e.toInt < 0 by omega)]
    by_cases cc : (t2.1 (Y 55) 0).toInt < c.toInt
    · rw [if_pos cc, if_pos cc]
      exact ih n n' _ _ x (i + 1) _ _ nx (by omega) (by omega) (by omega) (by omega) (by omega) hr' M.step.1
    · rw [if_neg cc, if_neg cc]
      exact ih n n' _ c e (i + 1) _ _ nx (by omega) (by omega) (by omega) (by omega) he hr' M.step.1
theorem driest1 (g55 : (t.2.2 m0 55).getD 0 = Y 55) (h : 0 < p.toInt) (n : Nat) (c : Int32) : F_X11_driest_37 m0 p r (n + 1) 0 c (-1) t = F_X11_driest_37 m0 p r n 1 (t.1 (Y 55) 0) 0 (F_X11_monthGoes m0 t) := by
  have e0 : (0 : Int32).toInt = 0 := by decide
  have w0 : (0 : Int32).toNatClampNeg = 0 := by decide
  have p01 : (0 : Int32) + 1 = 1 := by decide
  rw [F_X11_driest_37, if_pos (show (0 : Int32).toInt < p.toInt by rw [e0]; exact h), if_pos (show (-1 : Int32).toInt < 0 by decide)]
  simp only [zlt, g55, w0, p01]
theorem zRL.driest (h : zRL zQw L1 kd1 x0 m0 V ps pc sl rv sh cd σ1 σ2) (hw : 0 < zM m0 σ2 → zLw x0 m0 σ1 σ2) (hl : zLen x0 m0 σ1 σ2) (hx : zT L1 kd1 x0 10) (hI : zI κ 0 L1 kd1 σ1) (hJ : zJ κ L2 kd2 σ2) (hm : zT L2 kd2 m0 11) (hg : gN m0 σ2) (f1 : (v1, τ1) = F_X10_driest x0 p r σ1) (f2 : (v2, τ2) = F_X11_driest m0 p r σ2) : v1.toInt = v2.toInt := by
  obtain ⟨td, B, N, gl, u, l, q, Y, d1, n2, ⟨q0, q3⟩, xr, n0, M⟩ := h.still hw hl hx hI hJ hm hg
  have e0 : (0 : Int32).toInt = 0 := by decide
  have o1 : (1 : Int32).toInt = 1 := by decide
  have o24 : (24 : Int32).toInt = 24 := by decide
  have w0 : (0 : Int32).toNatClampNeg = 0 := by decide
  have g10 : (σ1.2.2 x0 10).getD 0 = td := by rw [d1]; rfl
  obtain ⟨N', -, -, ⟨n3, n4, -⟩, -⟩ := h.2.2
  rw [g10] at n3
  have hM : F_X10_hasMouth x0 σ1 = (if 0 < (σ1.1 td 0).toInt then 1 else 0, σ1) := by
    unfold F_X10_hasMouth
    simp only [zlt, g10]
    split <;> rfl
  unfold F_X10_driest at f1
  unfold F_X11_driest at f2
  simp only [zlt, zlt2, hM, cWithin, mSome, mIn, e0, o1, o24, mMany, n2] at f1 f2
  by_cases hN : 0 < N
  · rw [if_pos (show 0 < (σ1.1 td 0).toInt by omega), if_neg (by decide)] at f1
    by_cases A : 1 ≤ p.toInt ∧ p.toInt ≤ 24
    · rw [if_neg (fun z => z A)] at f1 f2
      by_cases C : 0 ≤ r.toInt ∧ r.toInt ≤ 1
      · rw [if_neg (fun z => z C)] at f1 f2
        rw [if_neg (show ¬ (N : Int) = 0 by omega)] at f2
        obtain ⟨T, hT⟩ : ∃ T : Nat, p.toInt = T := ⟨p.toInt.toNat, by omega⟩
        obtain ⟨s, hs⟩ : ∃ s, s = F_X10_tryFromNow x0 σ1 := ⟨_, rfl⟩
        obtain ⟨t, ht⟩ : ∃ t, t = F_X11_copiesStill m0 σ2 := ⟨_, rfl⟩
        rw [← hs] at f1 M xr n0
        rw [← ht] at f2 M
        have hq : zQr q s.2.2 := M.1.1.1
        have r2 : (σ1.2.2 x0 2).getD 0 = q 0 := by rw [xrv h.2.1, q0]
        have F := M.mouth (σ1 := σ1) (x0 := x0) hN (fun j _ => xr j) r2 g10 q3 n0 hq
        have g55 := (M.1.2.1.1.1 55 (by unfold zYj; omega)).1
        have L := driestL (σ1 := σ1) (x0 := x0) (p := p) (r := r) hN (fun j _ => xr j) r2 g10 q3 n0 hq hT (by omega) (T - 1) 4294967299 4294967298 1 (t.1 (Y 55) 0) 0 1 s (F_X11_monthGoes m0 t) o1 (by omega) (by omega) (by omega) (by omega) (by decide) (by rw [xr 2]; exact r2) M.step.1
        simp only [F] at f1
        rw [show v1 = _ from congrArg Prod.fst f1, L, show v2 = (F_X11_driest_37 m0 p r (4294967298 + 1) 0 0 (-1) t).1 from congrArg Prod.fst f2, driest1 g55 (by omega)]
      · rw [if_pos C] at f1 f2
        rw [(zPr2 f1).1, (zPr2 f2).1]
    · rw [if_pos A] at f1 f2
      rw [(zPr2 f1).1, (zPr2 f2).1]
  · rw [if_neg (show ¬ 0 < (σ1.1 td 0).toInt by omega), if_pos (by decide)] at f1
    rw [(zPr2 f1).1]
    by_cases A : 1 ≤ p.toInt ∧ p.toInt ≤ 24
    · rw [if_neg (fun z => z A)] at f2
      by_cases C : 0 ≤ r.toInt ∧ r.toInt ≤ 1
      · rw [if_neg (fun z => z C), if_pos (show (N : Int) = 0 by omega)] at f2
        rw [(zPr2 f2).1]
      · rw [if_pos C] at f2
        rw [(zPr2 f2).1]
    · rw [if_pos A] at f2
      rw [(zPr2 f2).1]
end STILL2
