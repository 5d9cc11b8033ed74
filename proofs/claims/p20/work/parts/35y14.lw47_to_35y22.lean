-- 35y14.lw47
section
/-! MONTHS AHEAD, STILL: agree, driest, flowIn -/
section STILL
variable {q Y : Nat → Nat} {a b N : Nat} {R : Nat → Nat → Option Nat} {s1 s2 t1 t2 z1 z2 : zS} {g : zGl} {u l : Nat → Nat} {k : Int32} {w : Nat} {v : Int32}
/-- storms and seeds bear on nothing that stands -/
theorem zSd.f51 (S : zSd q Y a b N g u l s1 s2) (f : zFr (fun c j => c = a ∧ (j = 50 ∨ j = 51)) s2 t2) : zSd q Y a b N g u l s1 t2 := by
  obtain ⟨A, ⟨b1, b2, b3, b4, b5, b6, b7, b8⟩, c, d, e⟩ := S
  have r2 := f.rf
  have qj : ∀ j, zYj j → t2.1 (Y j) = s2.1 (Y j) := fun j hj => funext (fun i => f.2 (Y j) i (fun z => (b1.1 j hj).2 z.1))
  have e18 : t2.1 a 18 = s2.1 a 18 := f.2 a 18 (by omega)
  have mM : F_X11_many a t2 = F_X11_many a s2 := by
    unfold F_X11_many
    simp only [zlt]
    rw [r2, (b1.1 21 (by unfold zYj; omega)).1, e18, qj 21 (by unfold zYj; omega)]
  refine ⟨A, ⟨by rw [r2]; exact b1, by rw [e18]; exact b2, b3, fun hN => (b4 hN).cg (fun j hj => qj j (by unfold zYj; omega)), by rw [mM]; exact b5, fun c c1 c2 => by rw [qj 49 (by unfold zYj; omega)]; exact b6 c c1 c2, fun c hc => by rw [qj 53 (by unfold zYj; omega)]; exact b7 c hc, fun x => ?_⟩, fun p hp => ?_, fun c c1 c2 => ?_, fun hN => ?_⟩
  · have e : F_X11_isSource a x t2 = F_X11_isSource a x s2 := by
      have g54 := (b1.1 54 (by unfold zYj; omega)).1
      have x54 : t2.1 (Y 54) = s2.1 (Y 54) := qj 54 (by unfold zYj; omega)
      unfold F_X11_isSource F_X11_isBeside
      simp only [zlt, r2, g54, x54, mM]
    rw [e]
    exact b8 x
  · rw [qj 24 (by unfold zYj; omega), qj 52 (by unfold zYj; omega), qj 25 (by unfold zYj; omega), qj 23 (by unfold zYj; omega), qj 54 (by unfold zYj; omega)]
    exact c p hp
  · have xd : dmM Y t2 c = dmM Y s2 c := by
      unfold dmM
      rw [qj 49 (by unfold zYj; omega)]
    rw [xd]
    exact d c c1 c2
  · rw [qj 28 (by unfold zYj; omega)]
    exact e hN
/-- still months begin -/
theorem zMb.still (M : zMb q Y a b N g u l v s1 s2 t1 t2) : zMh q Y a b N g u l (F_X5_fall (q 0) 0 t1) (zu t2.1 a 51 1, t2.2) (F_X5_fall (q 0) 0 t1) (zu t2.1 a 51 1, t2.2) := by
  obtain ⟨S, Dn, -, -, -, -, -, -, FL⟩ := M
  have L := S.fall Dn (m := 0) (by decide) zFr.id zFr.id
  have hY := S.2.1.1
  have f : zFr (fun c j => c = a ∧ (j = 50 ∨ j = 51)) t2 (zu t2.1 a 51 1, t2.2) := ⟨rfl, fun c j n => by
    show zu t2.1 a 51 1 c j = _
    by_cases e : c = a
    · subst e
      exact zu_j _ _ _ _ _ (fun z => n ⟨rfl, Or.inr z.symm⟩)
    · rw [zu_n _ _ _ e]⟩
  have S' := S.f51 f
  have n49 : zu t2.1 a 51 1 (Y 49) = t2.1 (Y 49) := zu_n _ _ _ (hY.1 49 (by unfold zYj; omega)).2
  have n55 : zu t2.1 a 51 1 (Y 55) = t2.1 (Y 55) := zu_n _ _ _ (hY.1 55 (by unfold zYj; omega)).2
  have Dn' : zDn q Y N t1 (zu t2.1 a 51 1, t2.2) := by
    unfold zDn
    show (∀ p, p < N → t1.1 (q 20) p = zu t2.1 a 51 1 (Y 49) (24 + p) ∧ t1.1 (q 21) p = zu t2.1 a 51 1 (Y 49) (36 + p) ∧ _) ∧ t1.1 (q 4) 4 = zu t2.1 a 51 1 (Y 49) 48 ∧ t1.1 (q 4) 5 = zu t2.1 a 51 1 (Y 49) 49 ∧ _
    rw [n49]
    exact Dn
  have L2 := S'.fall Dn' (m := 0) (by decide) zFr.id zFr.id
  refine ⟨S'.fr (zRw.up L.1) zFr.id, Dn'.up1 S.1.1 L.1, ?_, zFr.id, zFr.id, fun p hp => ⟨?_, L2.2.2.1 p hp⟩⟩
  · show ¬ (zu t2.1 a 51 1 a 51).toInt = 0
    rw [zu_s]
    decide
  · show _ = zu t2.1 a 51 1 (Y 55) p
    rw [n55]
    exact FL p hp
/-- who wins, still: on both sides -/
theorem zMh.win (M : zMh q Y a b N g u l s1 s2 t1 t2) (hk : k.toInt = w) (hw : w < 3) : ∃ x y za zb, F_X5_winnerBy (q 0) k t1 = (x, za) ∧ F_X11_winnerBy a k t2 = (y, zb) ∧ x.toInt = y.toInt ∧ (x.toInt = -2 ∨ 1 ≤ x.toInt) ∧ zMh q Y a b N g u l s1 s2 za zb := by
  obtain ⟨S, Dn, h51, g1, g2, hF⟩ := id M
  have E := S.eq Dn
  have hN := S.1.2.2.2.1
  obtain ⟨x, za, x1, x2, x3, x4, -⟩ := cWin S.1.1 S.1.2.1 S.1.2.2.1 hN S.1.2.2.2.2.2.2.2 hk hw (F := fun p => t1.1 (q 6) p) zFr.id (fun p _ => rfl)
  obtain ⟨y, zb, y1, y2, y3, y4⟩ := mWin S.2.1.1 S.2.1.2.1 S.2.1.2.2.1 S.2.1.2.2.2.1 S.2.1.2.2.2.2.1 hN S.2.1.2.2.2.2.2.2.2 hk hw (F := fun p => t2.1 (Y 55) p) zFr.id (fun p _ => rfl)
  have xy : x.toInt = y.toInt := by
    rw [x2, y2]
    exact wnEq E (fun p hp => (hF p hp).1)
  refine ⟨x, y, za, zb, x1, y1, xy, ?_, M.up x3 (funext (fun j => x4.2 (q 6) j (by
    rintro (z | z | z)
    · exact S.1.1.n (by decide) (by decide) (by decide) z
    · exact S.1.1.n (by decide) (by decide) (by decide) z
    · exact S.1.1.n (by decide) (by decide) (by decide) z))) y3 (zUw.r55 S.2.1.1 y4)⟩
  rw [x2]
  rcases wn_r (S := sB N u) (C := fun p => clC q t1 g w p (t1.1 (q 6) p)) (but := -1) N with z | ⟨W, W1, W2, W3, -⟩
  · exact Or.inl z
  · have := (sB_t.mp W3).1
    exact Or.inr (by omega)
end STILL
section STILL2
variable {κ : Int} {L1 : List Nat} {kd1 : Nat → Nat} {L2 : List Nat} {kd2 : Nat → Nat} {σ1 σ2 τ1 τ2 s t : zS} {m0 x0 : Nat} {V : zWh} {ps pc sl rv sh cd : Nat} {v1 v2 p r : Int32} {q Y : Nat → Nat} {B N : Nat} {gl : zGl} {u l : Nat → Nat}
theorem agreeL (hx0 : (s.2.2 x0 2).getD 0 = q 0) {T : Nat} (hp : p.toInt = T) (hT : T < 4000) : ∀ (d n n' : Nat) (x c : Int32) (i : Nat) (t1 t2 : zS), x.toInt = i → i + d = T → d < n → d < n' → zMh q Y m0 B N gl u l s t t1 t2 → (F_X10_agree_20 x0 p n x c t1).1 = (F_X11_agree_17 m0 p n' x c t2).1 := by
  have z0 : (0 : Int32).toInt = 0 := by decide
  have z1 : (1 : Int32).toInt = 1 := by decide
  have z2 : (2 : Int32).toInt = 2 := by decide
  have rx : ∀ {t1 t2 : zS}, zMh q Y m0 B N gl u l s t t1 t2 → (t1.2.2 x0 2).getD 0 = q 0 := fun M => by rw [M.2.2.2.1.rf]; exact hx0
  intro d
  induction d with
  | zero =>
    intro n n' x c i t1 t2 hx' hi hn hn' M
    obtain ⟨n, rfl⟩ : ∃ k, n = k + 1 := ⟨n - 1, by omega⟩
    obtain ⟨n', rfl⟩ : ∃ k, n' = k + 1 := ⟨n' - 1, by omega⟩
    rw [F_X10_agree_20, F_X11_agree_17, if_neg (by omega), if_neg (by omega)]
  | succ d ih =>
    intro n n' x c i t1 t2 hx' hi hn hn' M
    obtain ⟨n, rfl⟩ : ∃ k, n = k + 1 := ⟨n - 1, by omega⟩
    obtain ⟨n', rfl⟩ : ∃ k, n' = k + 1 := ⟨n' - 1, by omega⟩
    have nx := zp1 hx' (by omega)
    obtain ⟨x1, y1, ta, ua, a1, a2, a3, a4, M1⟩ := M.win z0 (by decide)
    obtain ⟨x2, y2, tb, ub, b1, b2, b3, -, M2⟩ := M1.win z1 (by decide)
    obtain ⟨x3, y3, tc, uc, c1, c2, c3, -, M3⟩ := M2.win z2 (by decide)
    have go : ∀ {t1 t2 : zS} (c : Int32), zMh q Y m0 B N gl u l s t t1 t2 → (F_X10_agree_20 x0 p n (x + (1 : Int32)) c (F_X5_goOn (q 0) t1)).1 = (F_X11_agree_17 m0 p n' (x + (1 : Int32)) c (F_X11_monthGoes m0 t2)).1 := fun c M => ih n n' _ c (i + 1) _ _ nx (by omega) (by omega) (by omega) M.step.1
    rw [F_X10_agree_20, F_X11_agree_17, if_pos (by omega), if_pos (by omega)]
    simp only [↓zlt, ↓zlt2, rx M, a1, a2, rx M1, b1, b2, rx M2, c1, c2, rx M3]
    by_cases e1 : 0 < x1.toInt
    · rw [if_pos e1, if_neg (show ¬ y1.toInt < 0 by omega)]
      by_cases e2 : x1.toInt = x2.toInt
      · rw [if_pos e2, if_pos (show y2.toInt = y1.toInt by omega)]
        by_cases e3 : x1.toInt = x3.toInt
        · rw [if_pos e3, if_pos (show y3.toInt = y1.toInt by omega)]
          exact go _ M3
        · rw [if_neg e3, if_neg (show ¬ y3.toInt = y1.toInt by omega)]
          exact go _ M3
      · rw [if_neg e2, if_neg (show ¬ y2.toInt = y1.toInt by omega)]
        exact go _ M2
    · rw [if_neg e1, if_pos (show y1.toInt < 0 by omega)]
      exact go _ M1
theorem mSome {p : Int32} : F_X11_isSome p = F_X11_in p 1 24 := by
  unfold F_X11_isSome
  simp only [zlt]
/-- the tried course, looked at, still -/
theorem zRL.still (h : zRL zQw L1 kd1 x0 m0 V ps pc sl rv sh cd σ1 σ2) (hw : 0 < zM m0 σ2 → zLw x0 m0 σ1 σ2) (hl : zLen x0 m0 σ1 σ2) (hx : zT L1 kd1 x0 10) (hI : zI κ 0 L1 kd1 σ1) (hJ : zJ κ L2 kd2 σ2) (hm : zT L2 kd2 m0 11) (hg : gN m0 σ2) : ∃ (td B N : Nat) (gl : zGl) (u l : Nat → Nat) (q Y : Nat → Nat), σ1.2.2 x0 10 = some td ∧ zM m0 σ2 = N ∧ (q 0 = rv ∧ q 3 = td) ∧ (∀ j, (F_X10_tryFromNow x0 σ1).2.2 x0 j = σ1.2.2 x0 j) ∧ ((F_X10_tryFromNow x0 σ1).1 td 0).toInt = N ∧ zMh q Y m0 B N gl u l (F_X10_tryFromNow x0 σ1) (F_X11_copiesStill m0 σ2) (F_X10_tryFromNow x0 σ1) (F_X11_copiesStill m0 σ2) := by
  have hL := h.1
  have hV := h.2.1
  obtain ⟨T1, T2, T3, td, B, N, gl, u, l, d1, n2, eF, M⟩ := h.tried hw hl hx hI hJ hm hg (s := σ1) zPv.rf (fun _ _ _ _ => rfl)
  have g10 : (σ1.2.2 x0 10).getD 0 = td := by rw [d1]; rfl
  obtain ⟨td9, d9, t9⟩ := zi_ref (j := 10) (k2 := 9) hI hx (by rfl)
  obtain rfl : td9 = td := Option.some.inj (d9.symm.trans d1)
  have g7 : (σ1.2.2 x0 7).getD 0 = V.1 1 := by rw [hL.1.2.1]; rfl
  have g6 : (σ1.2.2 x0 6).getD 0 = V.1 0 := by rw [hL.1.1]; rfl
  have cx : ∀ j, (F_X1_copy (V.1 1) (V.1 0) σ1).2.2 x0 j = σ1.2.2 x0 j := fun j => T1 x0 j (fun z => zNk hx hV.2.1.2.1 (by decide) z.1)
  have eT : F_X10_tryFromNow x0 σ1 = F_X5_fall rv 0 (F_X5_form rv td9 (V.1 1) (F_X1_copy (V.1 1) (V.1 0) σ1)) := by
    unfold F_X10_tryFromNow F_X5_look
    simp only [zlt, g7, g6, cx, xrv hV, g10]
  have eS : F_X11_copiesStill m0 σ2 = (zu (F_X11_copies m0 σ2).1 m0 51 1, (F_X11_copies m0 σ2).2) := by
    unfold F_X11_copiesStill
    simp only [zlt]
  have St := M.still
  have hVc : zRv L1 kd1 x0 rv sh cd (F_X1_copy (V.1 1) (V.1 0) σ1).2.2 := zRv.keep (V := V) (s := (σ1.1, (F_X1_copy (V.1 1) (V.1 0) σ1).2)) hV ⟨T1, fun _ _ => rfl⟩
  have LF := (M.1.fall M.2.1 (m := 0) (by decide) zFr.id zFr.id).1
  refine ⟨td9, B, N, gl, u, l, _, _, d1, n2, ⟨rfl, rfl⟩, fun j => ?_, ?_, by rw [eT, eS]; exact St⟩
  · rw [eT]
    have e1 : (F_X5_fall rv 0 (F_X5_form rv td9 (V.1 1) (F_X1_copy (V.1 1) (V.1 0) σ1))).2.2 = (F_X5_form rv td9 (V.1 1) (F_X1_copy (V.1 1) (V.1 0) σ1)).2.2 := LF.rf
    rw [e1, (zForm (V := V) hVc td9 (V.1 1)).1.1 x0 j (fun z => zNk hx hV.2.1.2.1 (by decide) z.1)]
    exact cx j
  · obtain ⟨N', -, -, ⟨n3, n4, -⟩, -⟩ := h.2.2
    rw [g10] at n3
    have e1 : (F_X5_fall rv 0 (F_X5_form rv td9 (V.1 1) (F_X1_copy (V.1 1) (V.1 0) σ1))).1 td9 = (F_X5_form rv td9 (V.1 1) (F_X1_copy (V.1 1) (V.1 0) σ1)).1 td9 := zRw.r (i := 3) M.1.1.1 LF (by decide) (by omega)
    rw [eT, e1, eF]
    omega
theorem zRL.agree (h : zRL zQw L1 kd1 x0 m0 V ps pc sl rv sh cd σ1 σ2) (hw : 0 < zM m0 σ2 → zLw x0 m0 σ1 σ2) (hl : zLen x0 m0 σ1 σ2) (hx : zT L1 kd1 x0 10) (hI : zI κ 0 L1 kd1 σ1) (hJ : zJ κ L2 kd2 σ2) (hm : zT L2 kd2 m0 11) (hg : gN m0 σ2) (f1 : (v1, τ1) = F_X10_agree x0 p σ1) (f2 : (v2, τ2) = F_X11_agree m0 p σ2) : v1.toInt = v2.toInt := by
  obtain ⟨td, B, N, gl, u, l, q, Y, d1, n2, ⟨q0, q3⟩, xr, n0, M⟩ := h.still hw hl hx hI hJ hm hg
  have o1 : (1 : Int32).toInt = 1 := by decide
  have o24 : (24 : Int32).toInt = 24 := by decide
  unfold F_X10_agree at f1
  unfold F_X11_agree at f2
  simp only [zlt, cWithin, mSome, mIn, o1, o24] at f1 f2
  by_cases A : 1 ≤ p.toInt ∧ p.toInt ≤ 24
  · rw [if_neg (fun z => z A)] at f1 f2
    obtain ⟨T, hT⟩ : ∃ T : Nat, p.toInt = T := ⟨p.toInt.toNat, by omega⟩
    have L := agreeL (by rw [xr 2, xrv h.2.1, q0]) hT (by omega) T 4294967299 4294967299 0 0 0 _ _ (by decide) (by omega) (by omega) (by omega) M
    rw [show v1 = _ from congrArg Prod.fst f1, show v2 = _ from congrArg Prod.fst f2, L]
  · rw [if_pos A] at f1 f2
    rw [(zPr2 f1).1, (zPr2 f2).1]
/-- what flows at the mouth -/
theorem cMouthF {td : Nat} {t1 : zS} (r2 : (t1.2.2 x0 2).getD 0 = q 0) (r10 : (t1.2.2 x0 10).getD 0 = td) (r3 : (t1.2.2 (q 0) 3).getD 0 = q 6) (h0 : 0 < (t1.1 td 0).toInt) : F_X10_mouthFlow x0 t1 = (t1.1 (q 6) 0, t1) := by
  have e1 : ¬ (1 : Int32).toInt = 0 := by decide
  have w0 : (0 : Int32).toNatClampNeg = 0 := by decide
  unfold F_X10_mouthFlow F_X10_hasMouth
  simp only [zlt, zlt2, r10]
  rw [if_pos h0]
  simp only [r2, r3, w0]
  rw [if_neg e1]
theorem zMh.mouth (M : zMh q Y m0 B N gl u l s t τ1 τ2) {td : Nat} (hN : 0 < N) (xr : ∀ j, j = 2 ∨ j = 10 → s.2.2 x0 j = σ1.2.2 x0 j) (r2 : (σ1.2.2 x0 2).getD 0 = q 0) (r10 : (σ1.2.2 x0 10).getD 0 = td) (q3 : q 3 = td) (n0 : (s.1 td 0).toInt = N) (hq : zQr q s.2.2) : F_X10_mouthFlow x0 τ1 = (τ2.1 (Y 55) 0, τ1) := by
  obtain ⟨S, Dn, h51, g1, g2, hF⟩ := M
  have e0 : τ1.1 td 0 = s.1 td 0 := by
    rw [← q3]
    exact congrFun (zGw.r hq g1 (i := 3) (by decide) (by omega)) 0
  rw [cMouthF (q := q) (td := td) (by rw [g1.rf, xr 2 (by omega)]; exact r2) (by rw [g1.rf, xr 10 (by omega)]; exact r10) S.1.1.1.1.2.2.2.2.2.1 (by rw [e0, n0]; omega), (hF 0 hN).1]
theorem driestL {td : Nat} (hN : 0 < N) (xr : ∀ j, j = 2 ∨ j = 10 → s.2.2 x0 j = σ1.2.2 x0 j) (r2 : (σ1.2.2 x0 2).getD 0 = q 0) (r10 : (σ1.2.2 x0 10).getD 0 = td) (q3 : q 3 = td) (n0 : (s.1 td 0).toInt = N) (hq : zQr q s.2.2) {T : Nat} (hp : p.toInt = T) (hT : T < 4000) : ∀ (d n n' : Nat) (x c e : Int32) (i : Nat) (t0 t2 : zS), x.toInt = i → i + d = T → 1 ≤ i → d < n → d < n' → 0 ≤ e.toInt → (t0.2.2 x0 2).getD 0 = q 0 → zMh q Y m0 B N gl u l s t (F_X5_goOn (q 0) t0) t2 → (F_X10_driest_43 x0 p r n x c e t0).1 = (F_X11_driest_37 m0 p r n' x c e t2).1 := by
  have w0 : (0 : Int32).toNatClampNeg = 0 := by decide
  intro d
  induction d with
  | zero =>
    intro n n' x c e i t0 t2 hx' hi h1 hn hn' he hr M
    obtain ⟨n, rfl⟩ : ∃ k, n = k + 1 := ⟨n - 1, by omega⟩
    obtain ⟨n', rfl⟩ : ∃ k, n' = k + 1 := ⟨n' - 1, by omega⟩
    have nlt : ¬ x.toInt < p.toInt := by omega
    rw [F_X10_driest_43, F_X11_driest_37, if_neg nlt, if_neg nlt]
    by_cases r0 : r.toInt = 0
    · rw [if_pos r0, if_pos r0]
    · rw [if_neg r0, if_neg r0]
  | succ d ih =>
    intro n n' x c e i t0 t2 hx' hi h1 hn hn' he hr M
    obtain ⟨n, rfl⟩ : ∃ k, n = k + 1 := ⟨n - 1, by omega⟩
    obtain ⟨n', rfl⟩ : ∃ k, n' = k + 1 := ⟨n' - 1, by omega⟩
    have nx := zp1 hx' (by omega)
    have F := M.mouth (σ1 := σ1) (x0 := x0) hN xr r2 r10 q3 n0 hq
    have g55 := (M.1.2.1.1.1 55 (by unfold zYj; omega)).1
    have hr' : ((F_X5_goOn (q 0) t0).2.2 x0 2).getD 0 = q 0 := by rw [M.2.2.2.1.rf, xr 2 (by omega)]; exact r2
    rw [F_X10_driest_43, F_X11_driest_37, if_pos (by omega), if_pos (by omega)]
    simp only [↓zlt, ↓zlt2, hr, F, g55, w0]
    rw [if_neg (show ¬ e.toInt < 0 by omega)]
    by_cases cc : (t2.1 (Y 55) 0).toInt < c.toInt
    · rw [if_pos cc, if_pos cc]
      exact ih n n' _ _ x (i + 1) _ _ nx (by omega) (by omega) (by omega) (by omega) (by omega) hr' M.step.1
    · rw [if_neg cc, if_neg cc]
      exact ih n n' _ c e (i + 1) _ _ nx (by omega) (by omega) (by omega) (by omega) he hr' M.step.1
theorem driest1 (g55 : (t.2.2 m0 55).getD 0 = Y 55) (h : 0 < p.toInt) (n : Nat) (c : Int32) : F_X11_driest_37 m0 p r (n + 1) 0 c (-1) t = F_X11_driest_37 m0 p r n 1 (t.1 (Y 55) 0) 0 (F_X11_monthGoes m0 t) := by
  have e0 : (0 : Int32).toInt = 0 := by decide
  have w0 : (0 : Int32).toNatClampNeg = 0 := by decide
  have p01 : (0 : Int32) + 1 = 1 := by decide
  rw [F_X11_driest_37, if_pos (show (0 : Int32).toInt < p.toInt by rw [e0]; exact h), if_pos (show (-1 : Int32).toInt < 0 by decide)]
  simp only [zlt, g55, w0, p01]
theorem zRL.driest (h : zRL zQw L1 kd1 x0 m0 V ps pc sl rv sh cd σ1 σ2) (hw : 0 < zM m0 σ2 → zLw x0 m0 σ1 σ2) (hl : zLen x0 m0 σ1 σ2) (hx : zT L1 kd1 x0 10) (hI : zI κ 0 L1 kd1 σ1) (hJ : zJ κ L2 kd2 σ2) (hm : zT L2 kd2 m0 11) (hg : gN m0 σ2) (f1 : (v1, τ1) = F_X10_driest x0 p r σ1) (f2 : (v2, τ2) = F_X11_driest m0 p r σ2) : v1.toInt = v2.toInt := by
  obtain ⟨td, B, N, gl, u, l, q, Y, d1, n2, ⟨q0, q3⟩, xr, n0, M⟩ := h.still hw hl hx hI hJ hm hg
  have e0 : (0 : Int32).toInt = 0 := by decide
  have o1 : (1 : Int32).toInt = 1 := by decide
  have o24 : (24 : Int32).toInt = 24 := by decide
  have w0 : (0 : Int32).toNatClampNeg = 0 := by decide
  have g10 : (σ1.2.2 x0 10).getD 0 = td := by rw [d1]; rfl
  obtain ⟨N', -, -, ⟨n3, n4, -⟩, -⟩ := h.2.2
  rw [g10] at n3
  have hM : F_X10_hasMouth x0 σ1 = (if 0 < (σ1.1 td 0).toInt then 1 else 0, σ1) := by
    unfold F_X10_hasMouth
    simp only [zlt, g10]
    split <;> rfl
  unfold F_X10_driest at f1
  unfold F_X11_driest at f2
  simp only [zlt, zlt2, hM, cWithin, mSome, mIn, e0, o1, o24, mMany, n2] at f1 f2
  by_cases hN : 0 < N
  · rw [if_pos (show 0 < (σ1.1 td 0).toInt by omega), if_neg (by decide)] at f1
    by_cases A : 1 ≤ p.toInt ∧ p.toInt ≤ 24
    · rw [if_neg (fun z => z A)] at f1 f2
      by_cases C : 0 ≤ r.toInt ∧ r.toInt ≤ 1
      · rw [if_neg (fun z => z C)] at f1 f2
        rw [if_neg (show ¬ (N : Int) = 0 by omega)] at f2
        obtain ⟨T, hT⟩ : ∃ T : Nat, p.toInt = T := ⟨p.toInt.toNat, by omega⟩
        obtain ⟨s, hs⟩ : ∃ s, s = F_X10_tryFromNow x0 σ1 := ⟨_, rfl⟩
        obtain ⟨t, ht⟩ : ∃ t, t = F_X11_copiesStill m0 σ2 := ⟨_, rfl⟩
        rw [← hs] at f1 M xr n0
        rw [← ht] at f2 M
        have hq : zQr q s.2.2 := M.1.1.1
        have r2 : (σ1.2.2 x0 2).getD 0 = q 0 := by rw [xrv h.2.1, q0]
        have F := M.mouth (σ1 := σ1) (x0 := x0) hN (fun j _ => xr j) r2 g10 q3 n0 hq
        have g55 := (M.1.2.1.1.1 55 (by unfold zYj; omega)).1
        have L := driestL (σ1 := σ1) (x0 := x0) (p := p) (r := r) hN (fun j _ => xr j) r2 g10 q3 n0 hq hT (by omega) (T - 1) 4294967299 4294967298 1 (t.1 (Y 55) 0) 0 1 s (F_X11_monthGoes m0 t) o1 (by omega) (by omega) (by omega) (by omega) (by decide) (by rw [xr 2]; exact r2) M.step.1
        simp only [F] at f1
        rw [show v1 = _ from congrArg Prod.fst f1, L, show v2 = (F_X11_driest_37 m0 p r (4294967298 + 1) 0 0 (-1) t).1 from congrArg Prod.fst f2, driest1 g55 (by omega)]
      · rw [if_pos C] at f1 f2
        rw [(zPr2 f1).1, (zPr2 f2).1]
    · rw [if_pos A] at f1 f2
      rw [(zPr2 f1).1, (zPr2 f2).1]
  · rw [if_neg (show ¬ 0 < (σ1.1 td 0).toInt by omega), if_pos (by decide)] at f1
    rw [(zPr2 f1).1]
    by_cases A : 1 ≤ p.toInt ∧ p.toInt ≤ 24
    · rw [if_neg (fun z => z A)] at f2
      by_cases C : 0 ≤ r.toInt ∧ r.toInt ≤ 1
      · rw [if_neg (fun z => z C), if_pos (show (N : Int) = 0 by omega)] at f2
        rw [(zPr2 f2).1]
      · rw [if_pos C] at f2
        rw [(zPr2 f2).1]
    · rw [if_pos A] at f2
      rw [(zPr2 f2).1]
end STILL2
end
-- 35y15.lw48
section
/-! MONTHS AHEAD: flowIn; the rows -/
section FLOWIN
variable {κ : Int} {L1 : List Nat} {kd1 : Nat → Nat} {L2 : List Nat} {kd2 : Nat → Nat} {σ1 σ2 τ1 τ2 s t : zS} {m0 x0 : Nat} {V : zWh} {ps pc sl rv sh cd : Nat} {v1 v2 p r : Int32}
/-- what forming writes -/
theorem zFormE {L : List Nat} {kd : Nat → Nat} {σ : zS} (h : zRv L kd x0 rv sh cd σ.2.2) (t a : Nat) : ∀ c j, ¬ zKs kd c j → (F_X5_form rv t a σ).1 c j = σ.1 c j := by
  obtain ⟨⟨a1, a2, a3, a4⟩, ⟨t0, t1, t2, t3⟩, b, c, d, e, f⟩ := h
  obtain ⟨s, hs⟩ : ∃ s : zS, s = (σ.1, σ.2.1, zu (zu σ.2.2 rv 5 (some t)) rv 6 (some a)) := ⟨_, rfl⟩
  have ns : ¬ sh = rv := zNk t2 t1 (by decide)
  have g0 : (s.2.2 rv 0).getD 0 = sh := by
    rw [hs]
    show (zu (zu σ.2.2 rv 5 _) rv 6 _ rv 0).getD 0 = sh
    rw [zu_j _ _ _ _ _ (by decide), zu_j _ _ _ _ _ (by decide), a3]
    rfl
  have E : F_X5_form rv t a σ = F_X6_form sh t a s := by
    rw [← g0, hs]
    unfold F_X5_form
    simp only [zlt]
  have sj : ∀ j, (s.2.2 sh j) = σ.2.2 sh j := fun j => by
    rw [hs]
    show zu (zu σ.2.2 rv 5 _) rv 6 _ sh j = _
    rw [zu_n _ _ _ ns, zu_n _ _ _ ns]
  have K : ∀ c k j, zT L kd c k → (k = 6 ∨ k = 33 ∨ k = 34 ∨ k = 35 ∨ k = 36 ∨ k = 38) → zKs kd c j := fun c k j hc hk => by
    unfold zKs
    rw [hc.2]
    omega
  have P : zFr (zKs kd) s (F_X6_form sh t a s) := fr_X6_form zFr.id (K _ 6 _ t2 (by omega)) (fun _ => by rw [sj]; exact K _ 33 _ (d 1 (by omega) (by omega)) (by omega)) (fun _ => by rw [sj]; exact K _ 34 _ (d 2 (by omega) (by omega)) (by omega)) (fun _ => by rw [sj]; exact K _ 35 _ (d 3 (by omega) (by omega)) (by omega)) (fun _ => by rw [sj]; exact K _ 38 _ (d 6 (by omega) (by omega)) (by omega)) (fun _ => by rw [sj]; exact K _ 36 _ (d 4 (by omega) (by omega)) (by omega))
  rw [E]
  intro c j n
  rw [P.2 c j n, hs]
theorem zRL.flowIn (h : zRL zQw L1 kd1 x0 m0 V ps pc sl rv sh cd σ1 σ2) (hw : 0 < zM m0 σ2 → zLw x0 m0 σ1 σ2) (hl : zLen x0 m0 σ1 σ2) (hx : zT L1 kd1 x0 10) (hI : zI κ 0 L1 kd1 σ1) (hJ : zJ κ L2 kd2 σ2) (hm : zT L2 kd2 m0 11) (hg : gN m0 σ2) (f1 : (v1, τ1) = F_X10_flowIn x0 p σ1) (f2 : (v2, τ2) = F_X11_flowIn m0 p σ2) : v1.toInt = v2.toInt := by
  have hV := h.2.1
  have hL := h.1
  have e0 : (0 : Int32).toInt = 0 := by decide
  have o60 : (60 : Int32).toInt = 60 := by decide
  have w0 : (0 : Int32).toNatClampNeg = 0 := by decide
  obtain ⟨T1, T2, T3, td, B, N, gl, u, l, d1, n2, eF, M⟩ := h.tried hw hl hx hI hJ hm hg (s := σ1) zPv.rf (fun _ _ _ _ => rfl)
  have g10 : (σ1.2.2 x0 10).getD 0 = td := by rw [d1]; rfl
  obtain ⟨td9, d9, t9⟩ := zi_ref (j := 10) (k2 := 9) hI hx (by rfl)
  obtain rfl : td9 = td := Option.some.inj (d9.symm.trans d1)
  obtain ⟨N', -, -, ⟨n3, n4, -⟩, -⟩ := h.2.2
  rw [g10] at n3
  have hM : F_X10_hasMouth x0 σ1 = (if 0 < (σ1.1 td9 0).toInt then 1 else 0, σ1) := by
    unfold F_X10_hasMouth
    simp only [zlt, g10]
    split <;> rfl
  have g7 : (σ1.2.2 x0 7).getD 0 = V.1 1 := by rw [hL.1.2.1]; rfl
  have g6 : (σ1.2.2 x0 6).getD 0 = V.1 0 := by rw [hL.1.1]; rfl
  unfold F_X10_flowIn at f1
  unfold F_X11_flowIn at f2
  simp only [zlt, zlt2, hM, cWithin, mLong, mIn, e0, o60, mMany, n2] at f1 f2
  obtain ⟨c, hc⟩ : ∃ c, c = F_X1_copy (V.1 1) (V.1 0) σ1 := ⟨_, rfl⟩
  rw [← hc] at T1 T2 T3 M eF
  have cx : ∀ j, c.2.2 x0 j = σ1.2.2 x0 j := fun j => T1 x0 j (fun z => zNk hx hV.2.1.2.1 (by decide) z.1)
  simp only [g7, g6, ← hc, cx, xrv hV, g10, T2 td9 9 t9 (by omega)] at f1
  by_cases hN : 0 < N
  · rw [if_pos (show 0 < (σ1.1 td9 0).toInt by omega), if_neg (by decide)] at f1
    by_cases A : 0 ≤ p.toInt ∧ p.toInt ≤ 60
    · rw [if_neg (fun z => z A)] at f1 f2
      rw [if_neg (show ¬ (N : Int) = 0 by omega)] at f2
      obtain ⟨k, hk⟩ : ∃ k : Nat, p.toInt = k := ⟨p.toInt.toNat, by omega⟩
      obtain ⟨y, hy⟩ : ∃ y, y = F_X5_goThrough rv td9 (V.1 1) p (σ1.1 td9 13) c := ⟨_, rfl⟩
      obtain ⟨z, hz⟩ : ∃ z, z = F_X11_goes m0 p (F_X11_copies m0 σ2) := ⟨_, rfl⟩
      have MG : zMb (qOf σ1.2.2 rv sh cd td9 V 1) (mR σ2 m0) m0 B N gl u l (σ1.1 td9 13) (F_X5_form rv td9 (V.1 1) c) (F_X11_copies m0 σ2) y z := by
        rw [hy, hz]
        unfold F_X5_goThrough F_X11_goes
        simp only [zlt]
        exact zMb.go hN hk (by omega) k 10000 4294967299 0 0 _ _ (by decide) (by omega) (by omega) (by omega) M
      rw [← hy] at f1
      rw [← hz] at f2
      have PVc : zPv L1 kd1 V rv σ1 (σ1.1, c.2) := ⟨T1, fun _ _ => rfl⟩
      have hVc : zRv L1 kd1 x0 rv sh cd c.2.2 := zRv.keep (s := (σ1.1, c.2)) hV PVc
      have FM := zForm (V := V) hVc td9 (V.1 1)
      have yR : ∀ a j, ¬ (a = rv ∧ (j = 5 ∨ j = 6)) → y.2.2 a j = σ1.2.2 a j := fun a j n => by
        rw [MG.2.2.2.2.2.1.rf, FM.1.1 a j n]
        exact T1 a j n
      have yr : ∀ j, y.2.2 x0 j = σ1.2.2 x0 j := fun j => yR x0 j (fun z => zNk hx hV.2.1.2.1 (by decide) z.1)
      have QR := MG.1.1.1
      have QRw := M.1.1.1
      obtain ⟨⟨tA, tI, tW, tM⟩, -⟩ := hL.2.2.2.1 1 (by decide)
      -- the river formed once more
      have FE := zFormE hVc td9 (V.1 1)
      have yE : ∀ a ka j, zT L1 kd1 a ka → (ka = 9 ∨ (46 ≤ ka ∧ ka ≤ 51) ∨ ka = 22 ∨ (ka = 1 ∧ j = 3)) → y.1 a j = c.1 a j := fun a ka j ha hk => by
        have T := qOf.t hL hV t9 (zTt_k hI t9) (k := 1) (by decide)
        rw [MG.2.2.2.2.2.1.2 a j (by
          rintro ((w | w | w | w | w) | w | w | w)
          · exact zNk ha (T 5 (by decide)) (by show ka ≠ 30; omega) w
          · exact zNk ha (T 6 (by decide)) (by show ka ≠ 31; omega) w
          · exact zNk ha (T 7 (by decide)) (by show ka ≠ 32; omega) w
          · exact zNk ha (T 8 (by decide)) (by show ka ≠ 20; omega) w
          · exact zNk ha (T 9 (by decide)) (by show ka ≠ 21; omega) w
          · exact zNk ha (T 20 (by decide)) (by show ka ≠ 23; omega) w
          · exact zNk ha (T 21 (by decide)) (by show ka ≠ 24; omega) w
          · have k1 : ka = 1 := by
              have e := ha.2
              rw [w.1] at e
              exact e.symm.trans (T 4 (by decide)).2
            omega)]
        exact FE a j (by
          unfold zKs
          rw [ha.2]
          omega)
      have cI : ∀ j, j < 12 → c.1 (V.2.1 1) j = σ1.1 (V.2.1 0) j := fun j hj => by
        have e := congrArg (fun c : zCo => c.1 j) T3
        have e1 : (zcc V c.1 1).1 j = c.1 (V.2.1 1) j := if_pos hj
        have e2 : (zcc V σ1.1 0).1 j = σ1.1 (V.2.1 0) j := if_pos hj
        rw [← e1, ← e2]
        exact e
      have cD : c.1 (V.1 1) 3 = σ1.1 (V.1 0) 3 := congrArg (fun c : zCo => c.2.2.2.1) T3
      obtain ⟨td2, B2, N2, gl2, u2, l2, q, Y, w, t, ⟨hq0, hY0, hw0, ht0⟩, d2, n2', S2, W2, -, -, -, -, -⟩ := zSd.of0 zGd.q1 (fun _ _ _ h => h) h hw hl hx hI hJ hm hg (s0 := y) yR (fun a ka ha hk => funext (fun j => (yE a ka j ha (by omega)).trans (congrFun (T2 a ka ha hk) j))) (k := 1) (by decide) (fun j hj => (yE _ 22 j tI (by omega)).trans (cI j hj)) ((yE _ 1 3 tA (by omega)).trans cD)
      have etd : td2 = td9 := Option.some.inj (d2.symm.trans d1)
      have eN2 : N2 = N := by omega
      subst etd eN2
      subst hq0 hY0
      rw [← ht0] at MG
      have S3 := S2.fr zFr.id MG.2.2.2.2.2.2.1
      have Dn3 : zDn (qOf σ1.2.2 rv sh cd td2 V 1) (mR σ2 m0) N2 w z := by
        unfold zDn
        rw [W2 20 (by omega), W2 21 (by omega), W2 4 (by omega)]
        exact MG.2.1
      have L3 := S3.fall Dn3 (m := 0) (by decide) zFr.id zFr.id
      have LG := MG.1.fall MG.2.1 (m := 0) (by decide) zFr.id zFr.id
      obtain ⟨x, hx0'⟩ : ∃ x, x = F_X5_fall rv 0 w := ⟨_, rfl⟩
      have L3' : zFr (zRw (qOf σ1.2.2 rv sh cd td2 V 1)) w x := by rw [hx0']; exact L3.1
      have xl : F_X5_look rv td2 (V.1 1) y = x := by
        rw [hx0', hw0]
        unfold F_X5_look
        simp only [zlt]
      have hVy : zRv L1 kd1 x0 rv sh cd y.2.2 := zRv.keep (V := V) (s := (σ1.1, y.2)) hV ⟨yR, fun _ _ => rfl⟩
      have xr : ∀ j, x.2.2 x0 j = σ1.2.2 x0 j := fun j => by
        rw [L3'.rf, hw0, (zForm (V := V) hVy td2 (V.1 1)).1.1 x0 j (fun z => zNk hx hV.2.1.2.1 (by decide) z.1)]
        exact yr j
      have x0N : x.1 td2 0 = σ1.1 td2 0 := by
        have e1 : x.1 td2 = w.1 td2 := zRw.r (i := 3) S2.1.1 L3' (by decide) (by omega)
        have e2 : w.1 td2 = y.1 td2 := W2 3 (by omega)
        rw [e1, e2, yE td2 9 0 t9 (by omega), T2 td2 9 t9 (by omega)]
      have MF := cMouthF (q := qOf σ1.2.2 rv sh cd td2 V 1) (x0 := x0) (t1 := x) (td := td2) (by rw [xr 2]; exact xrv hV) (by rw [xr 10]; exact g10) (by rw [L3'.rf]; exact S2.1.1.1.1.2.2.2.2.2.1) (by rw [x0N]; omega)
      have w55 : (z.2.2 m0 55).getD 0 = mR σ2 m0 55 := (MG.1.2.1.1.1 55 (by unfold zYj; omega)).1
      simp only [yr, xrv hV, g10, g7, xl, MF] at f1
      rw [w55, w0] at f2
      rw [(zPr2 f1).1, (zPr2 f2).1]
      have a1 : x.1 (qOf σ1.2.2 rv sh cd td2 V 1 6) 0 = (F_X11_fillsFlows m0 0 z).1 (mR σ2 m0 55) 0 := by
        rw [hx0']
        exact L3.2.2.1 0 hN
      have a2 := LG.2.2.1 0 hN
      have a3 := MG.2.2.2.2.2.2.2.2 0 hN
      rw [a1, ← a2, a3]
    · rw [if_pos A] at f1 f2
      rw [(zPr2 f1).1, (zPr2 f2).1]
  · rw [if_neg (show ¬ 0 < (σ1.1 td9 0).toInt by omega), if_pos (by decide)] at f1
    rw [(zPr2 f1).1]
    by_cases A : 0 ≤ p.toInt ∧ p.toInt ≤ 60
    · rw [if_neg (fun z => z A), if_pos (show (N : Int) = 0 by omega)] at f2
      rw [(zPr2 f2).1]
    · rw [if_pos A] at f2
      rw [(zPr2 f2).1]
end FLOWIN
section RP2
variable {κ k : Int} {L1 : List Nat} {kd1 : Nat → Nat} {L2 : List Nat} {kd2 : Nat → Nat} {σ1 σ2 τ1 τ2 : zS} {m0 x0 : Nat} {v1 v2 p q r : Int32}
theorem zRP.then (h : zRP κ L1 kd1 L2 kd2 x0 m0 σ1 σ2) (hI : zI κ 0 L1 kd1 σ1) (hJ : zJ κ L2 kd2 σ2) (hx : zT L1 kd1 x0 10) (hm : zT L2 kd2 m0 11) (hg : gN m0 σ2) (f1 : (v1, τ1) = F_X10_then x0 p q r σ1) (f2 : (v2, τ2) = F_X11_then m0 p q r σ2) : v1.toInt = v2.toInt := by
  obtain ⟨V, ps, pc, sl, rv, sh, cd, hR⟩ := h.2.2
  exact hR.then h.2.1 h.1.2 hx hI hJ hm hg f1 f2
theorem zRP.agree (h : zRP κ L1 kd1 L2 kd2 x0 m0 σ1 σ2) (hI : zI κ 0 L1 kd1 σ1) (hJ : zJ κ L2 kd2 σ2) (hx : zT L1 kd1 x0 10) (hm : zT L2 kd2 m0 11) (hg : gN m0 σ2) (f1 : (v1, τ1) = F_X10_agree x0 p σ1) (f2 : (v2, τ2) = F_X11_agree m0 p σ2) : v1.toInt = v2.toInt := by
  obtain ⟨V, ps, pc, sl, rv, sh, cd, hR⟩ := h.2.2
  exact hR.agree h.2.1 h.1.2 hx hI hJ hm hg f1 f2
theorem zRP.driest (h : zRP κ L1 kd1 L2 kd2 x0 m0 σ1 σ2) (hI : zI κ 0 L1 kd1 σ1) (hJ : zJ κ L2 kd2 σ2) (hx : zT L1 kd1 x0 10) (hm : zT L2 kd2 m0 11) (hg : gN m0 σ2) (f1 : (v1, τ1) = F_X10_driest x0 p q σ1) (f2 : (v2, τ2) = F_X11_driest m0 p q σ2) : v1.toInt = v2.toInt := by
  obtain ⟨V, ps, pc, sl, rv, sh, cd, hR⟩ := h.2.2
  exact hR.driest h.2.1 h.1.2 hx hI hJ hm hg f1 f2
theorem zRP.flowIn (h : zRP κ L1 kd1 L2 kd2 x0 m0 σ1 σ2) (hI : zI κ 0 L1 kd1 σ1) (hJ : zJ κ L2 kd2 σ2) (hx : zT L1 kd1 x0 10) (hm : zT L2 kd2 m0 11) (hg : gN m0 σ2) (f1 : (v1, τ1) = F_X10_flowIn x0 p σ1) (f2 : (v2, τ2) = F_X11_flowIn m0 p σ2) : v1.toInt = v2.toInt := by
  obtain ⟨V, ps, pc, sl, rv, sh, cd, hR⟩ := h.2.2
  exact hR.flowIn h.2.1 h.1.2 hx hI hJ hm hg f1 f2
end RP2
end
-- 35y16.lw49
section
/-! ANSWERS OF NOW: rank -/
/-- claims of all, -1 for those that can claim nothing -/
noncomputable def wg (S : Nat → Bool) (C : Nat → Int32) (p : Nat) : Int32 := if S p = true then C p else -1
/-- how many stand ahead of p -/
noncomputable def rk (W : Nat → Int32) (p : Nat) : Nat → Nat
  | 0 => 0
  | i + 1 => rk W p i + (if 1 ≤ i ∧ ((W p).toInt < (W i).toInt ∨ ((W i).toInt = (W p).toInt ∧ i < p)) then 1 else 0)
section RK
variable {W W' : Nat → Int32} {p : Nat}
theorem rk_y {i : Nat} (h : 1 ≤ i ∧ ((W p).toInt < (W i).toInt ∨ ((W i).toInt = (W p).toInt ∧ i < p))) : rk W p (i + 1) = rk W p i + 1 := by rw [rk, if_pos h]
theorem rk_n {i : Nat} (h : ¬ (1 ≤ i ∧ ((W p).toInt < (W i).toInt ∨ ((W i).toInt = (W p).toInt ∧ i < p)))) : rk W p (i + 1) = rk W p i := by rw [rk, if_neg h, Nat.add_zero]
theorem rk_1 : rk W p 1 = 0 := by
  rw [rk_n (by omega)]
  rfl
theorem rk_le : ∀ i, rk W p i ≤ i := by
  intro i
  induction i with
  | zero => exact Nat.le_refl _
  | succ i ih =>
    rw [rk]
    split <;> omega
theorem rk_N {N : Nat} : rk W p (if 1 ≤ N then N else 1) = rk W p N := by
  split
  · rfl
  · rw [show N = 0 by omega, rk_1]
    rfl
end RK
section WINC
variable {q : Nat → Nat} {R : Nat → Nat → Option Nat} {s t τ : zS} {g : zGl} {N : Nat} {u : Nat → Nat} {k : Int32} {w : Nat}
theorem cWeighAL (h : zQr q s.2.2) (hg : 0 < N → zL5 q s g) (h0 : (s.1 (q 1) 0).toInt = N) (hN : N ≤ 12) (hI : ∀ x : Int32, (F_X6_isSource (q 1) x s).1.toInt = 0 ↔ ¬ (0 ≤ x.toInt ∧ Src N u x.toInt.toNat)) (hk : k.toInt = w) (hw : w < 3) (F : Nat → Int32) : ∀ (n : Nat) (x : Int32) (i : Nat) (τ : zS), x.toInt = i → 1 ≤ i → 13 - i < n → zFr (zRw q) s τ → (∀ p, p < N → τ.1 (q 6) p = F p) → (∀ p, 1 ≤ p → p < i → p < N → τ.1 (q 7) p = wg (sB N u) (fun p => clC q s g w p (F p)) p) → zFr (zRw q) s (F_X5_weigh_2 (q 0) k n x τ) ∧ zFr (fun c _ => c = q 7 ∨ c = q 8 ∨ c = q 9) τ (F_X5_weigh_2 (q 0) k n x τ) ∧ ∀ p, 1 ≤ p → p < N → (F_X5_weigh_2 (q 0) k n x τ).1 (q 7) p = wg (sB N u) (fun p => clC q s g w p (F p)) p := by
  obtain ⟨⟨g1, -, -, -, -, g6, g7⟩, -⟩ := id h.1
  intro n
  induction n with
  | zero => intro x i τ _ _ h; exact absurd h (by omega)
  | succ n ih =>
    intro x i τ hx hi hn f hF hc
    have rt : τ.2.2 = s.2.2 := f.rf
    have t0 : (τ.1 (q 1) 0).toInt = N := by rw [congrFun (zRw.r h f (i := 1) (by decide) (by omega)) 0]; exact h0
    have nx : x.toNatClampNeg = i := by rw [ztn, hx]; rfl
    rw [F_X5_weigh_2]
    simp only [↓zlt, ↓zlt2, rt, g1, g7, cIsR h f]
    by_cases c : i < N
    · have cx : x.toInt < (τ.1 (q 1) 0).toInt := by omega
      rw [if_pos cx]
      have nI := hI x
      rw [show x.toInt.toNat = i by omega] at nI
      by_cases sx : Src N u i
      · have cz : ¬ (F_X6_isSource (q 1) x s).1.toInt = 0 := fun z => (nI.mp z) ⟨by omega, sx⟩
        rw [if_neg cz]
        obtain ⟨t, e1, e2⟩ := cClaim h (hg (by omega)) f hk hw hx
        rw [e1, nx, hF i c]
        have f2 := f.tr (zTw.up e2)
        have f3 : zFr (fun c _ => c = q 7 ∨ c = q 8 ∨ c = q 9) τ (zu t.1 (q 7) i (clC q s g w i (F i)), t.2.1, t.2.2) := (zFr.up e2 (fun c j z => Or.inr z)).w (Or.inl rfl)
        obtain ⟨a1, a2, a3⟩ := ih _ (i + 1) (zu t.1 (q 7) i (clC q s g w i (F i)), t.2.1, t.2.2) (zp1 hx (by omega)) (by omega) (by omega) (f2.w (Or.inr (Or.inr (Or.inl rfl)))) (fun p hp => by
          rw [f3.2 (q 6) p (by
            rintro (z | z | z)
            · exact h.n (by decide) (by decide) (by decide) z
            · exact h.n (by decide) (by decide) (by decide) z
            · exact h.n (by decide) (by decide) (by decide) z)]
          exact hF p hp) (fun p p1 p2 p3 => by
          show zu t.1 (q 7) i _ (q 7) p = _
          by_cases e : p = i
          · rw [e, zu_s, wg, if_pos (sB_t.mpr sx)]
          · rw [zu_j _ _ _ _ _ (fun z => e z.symm), e2.2 (q 7) p (by
              rintro (z | z)
              · exact h.n (by decide) (by decide) (by decide) z
              · exact h.n (by decide) (by decide) (by decide) z)]
            exact hc p p1 (by omega) p3)
        exact ⟨a1, f3.tr a2, a3⟩
      · have cz : (F_X6_isSource (q 1) x s).1.toInt = 0 := nI.mpr (fun z => sx z.2)
        rw [if_pos cz, nx]
        have f3 : zFr (fun c _ => c = q 7 ∨ c = q 8 ∨ c = q 9) τ (zu τ.1 (q 7) i (-1), τ.2.1, s.2.2) := by
          have z := (zFr.id (A := fun c _ => c = q 7 ∨ c = q 8 ∨ c = q 9) (σ := τ)).w (r := q 7) (j := i) (v := (-1 : Int32)) (Or.inl rfl)
          rw [rt] at z
          exact z
        have f4 : zFr (zRw q) s (zu τ.1 (q 7) i (-1), τ.2.1, s.2.2) := by
          have z := f.w (r := q 7) (j := i) (v := (-1 : Int32)) (Or.inr (Or.inr (Or.inl rfl)))
          rw [rt] at z
          exact z
        obtain ⟨a1, a2, a3⟩ := ih _ (i + 1) (zu τ.1 (q 7) i (-1), τ.2.1, s.2.2) (zp1 hx (by omega)) (by omega) (by omega) f4 (fun p hp => by
          rw [f3.2 (q 6) p (by
            rintro (z | z | z)
            · exact h.n (by decide) (by decide) (by decide) z
            · exact h.n (by decide) (by decide) (by decide) z
            · exact h.n (by decide) (by decide) (by decide) z)]
          exact hF p hp) (fun p p1 p2 p3 => by
          show zu τ.1 (q 7) i _ (q 7) p = _
          by_cases e : p = i
          · rw [e, zu_s, wg, if_neg (fun z => sx (sB_t.mp z))]
          · rw [zu_j _ _ _ _ _ (fun z => e z.symm)]
            exact hc p p1 (by omega) p3)
        exact ⟨a1, f3.tr a2, a3⟩
    · have cx : ¬ x.toInt < (τ.1 (q 1) 0).toInt := by omega
      rw [if_neg cx]
      exact ⟨f, zFr.id, fun p p1 p2 => hc p p1 (by omega) p2⟩
theorem cWeighA (h : zQr q s.2.2) (hg : 0 < N → zL5 q s g) (h0 : (s.1 (q 1) 0).toInt = N) (hN : N ≤ 12) (hI : ∀ x : Int32, (F_X6_isSource (q 1) x s).1.toInt = 0 ↔ ¬ (0 ≤ x.toInt ∧ Src N u x.toInt.toNat)) (hk : k.toInt = w) (hw : w < 3) {F : Nat → Int32} (f : zFr (zRw q) s t) (hF : ∀ p, p < N → t.1 (q 6) p = F p) : zFr (zRw q) s (F_X5_weigh (q 0) k t) ∧ zFr (fun c _ => c = q 7 ∨ c = q 8 ∨ c = q 9) t (F_X5_weigh (q 0) k t) ∧ ∀ p, 1 ≤ p → p < N → (F_X5_weigh (q 0) k t).1 (q 7) p = wg (sB N u) (fun p => clC q s g w p (F p)) p := by
  unfold F_X5_weigh
  simp only [zlt]
  exact cWeighAL h hg h0 hN hI hk hw F 10000 1 1 t (by decide) (by omega) (by omega) f hF (fun p p1 p2 => absurd p2 (by omega))
theorem cRankL (h : zQr q s.2.2) (h0 : (s.1 (q 1) 0).toInt = N) (hN : N ≤ 12) (f : zFr (zRw q) s t) {W : Nat → Int32} (hW : ∀ p, 1 ≤ p → p < N → t.1 (q 7) p = W p) {x : Int32} {P : Nat} (hp : x.toInt = P) (hP : 1 ≤ P ∧ P < N) : ∀ (n : Nat) (y z : Int32) (i : Nat), y.toInt = i → 1 ≤ i → (i ≤ N ∨ i = 1) → 13 - i < n → z.toInt = rk W P i → ∃ v, F_X5_rankOf_4 (q 0) x n y z t = (v, t) ∧ v.toInt = rk W P (if 1 ≤ N then N else 1) := by
  obtain ⟨⟨g1, -, -, -, -, -, g7⟩, -⟩ := id h.1
  have rt : t.2.2 = s.2.2 := f.rf
  have t0 : (t.1 (q 1) 0).toInt = N := by rw [congrFun (zRw.r h f (i := 1) (by decide) (by omega)) 0]; exact h0
  have nP : x.toNatClampNeg = P := by rw [ztn, hp]; rfl
  have wP := hW P hP.1 hP.2
  intro n
  induction n with
  | zero => intro y z i _ _ _ h; exact absurd h (by omega)
  | succ n ih =>
    intro y z i hy hi hi2 hn hz
    have ny : y.toNatClampNeg = i := by rw [ztn, hy]; rfl
    have rb := rk_le (W := W) (p := P) i
    rw [F_X5_rankOf_4]
    simp only [↓zlt, rt, g1, g7, ny, nP, wP]
    by_cases c : i < N
    · rw [if_pos (by omega)]
      have y1 := zp1 hy (by omega)
      have z1 := zp1 hz (by omega)
      have wi := hW i hi c
      rw [wi]
      by_cases d : (W P).toInt < (W i).toInt
      · rw [if_pos d]
        exact ih _ _ (i + 1) y1 (by omega) (by omega) (by omega) (by rw [rk_y ⟨hi, Or.inl d⟩]; exact z1)
      · rw [if_neg d]
        by_cases e : (W i).toInt = (W P).toInt
        · rw [if_pos e]
          by_cases l : i < P
          · rw [if_pos (by omega)]
            exact ih _ _ (i + 1) y1 (by omega) (by omega) (by omega) (by rw [rk_y ⟨hi, Or.inr ⟨e, l⟩⟩]; exact z1)
          · rw [if_neg (by omega)]
            exact ih _ _ (i + 1) y1 (by omega) (by omega) (by omega) (by rw [rk_n (by omega)]; exact hz)
        · rw [if_neg e]
          exact ih _ _ (i + 1) y1 (by omega) (by omega) (by omega) (by rw [rk_n (by omega)]; exact hz)
    · rw [if_neg (by omega)]
      refine ⟨z, rfl, ?_⟩
      rw [hz]
      congr 2
      split <;> omega
theorem cRank (h : zQr q s.2.2) (h0 : (s.1 (q 1) 0).toInt = N) (hN : N ≤ 12) (f : zFr (zRw q) s t) {W : Nat → Int32} (hW : ∀ p, 1 ≤ p → p < N → t.1 (q 7) p = W p) {x : Int32} {P : Nat} (hp : x.toInt = P) (hP : 1 ≤ P ∧ P < N) : ∃ v, F_X5_rankOf (q 0) x t = (v, t) ∧ v.toInt = rk W P N := by
  unfold F_X5_rankOf
  simp only [zlt]
  obtain ⟨v, e1, e2⟩ := cRankL h h0 hN f hW hp hP 10000 1 0 1 (by decide) (by omega) (Or.inr rfl) (by omega) (by rw [rk_1]; decide)
  exact ⟨v, e1, by rw [e2, rk_N]⟩
end WINC
section RANKM
variable {q Y : Nat → Nat} {a b N : Nat} {s1 s τ : zS} {g : zGl} {u l : Nat → Nat} {k : Int32} {w : Nat}
theorem mRankL (S : zSd q Y a b N g u l s1 s) (hk : k.toInt = w) (hw : w < 3) {C : Nat → Int32} (hC : C = fun p => clM Y b s g w p (s.1 (Y 55) p)) (hr : ∀ p, p < N → 0 ≤ (C p).toInt) {x v3 : Int32} {P : Nat} (hp : x.toInt = P) (sp : Src N u P) (hv : v3 = C P) : ∀ (n : Nat) (y z : Int32) (i : Nat) (τ : zS), y.toInt = i → 1 ≤ i → (i ≤ N ∨ i = 1) → 13 - i < n → zFr (zVw Y a) s τ → τ.1 (Y 55) = s.1 (Y 55) → z.toInt = rk (wg (sB N u) C) P i → ∃ v τ', F_X11_rankOf_13 v3 a x k n y z τ = (v, τ') ∧ v.toInt = rk (wg (sB N u) C) P (if 1 ≤ N then N else 1) ∧ zFr (zVw Y a) s τ' ∧ τ'.1 (Y 55) = s.1 (Y 55) := by
  obtain ⟨b1, b2, b3, b4, b5, b6, b7, b8⟩ := S.2.1
  have hN := S.1.2.2.2.1
  subst hv
  have wP : wg (sB N u) C P = C P := if_pos (sB_t.mpr sp)
  have em : (-1 : Int32).toInt = -1 := by decide
  have rP := hr P sp.2.1
  intro n
  induction n with
  | zero => intro y z i τ _ _ _ h; exact absurd h (by omega)
  | succ n ih =>
    intro y z i τ hy hi hi2 hn f f55 hz
    have M : (F_X11_many a τ).toInt = N := by rw [mMany_w b1 f]; exact b5
    have nI := b8 y
    rw [show y.toInt.toNat = i by omega] at nI
    have rb := rk_le (W := wg (sB N u) C) (p := P) i
    rw [F_X11_rankOf_13]
    simp only [↓zlt, ↓zlt2, mIsR b1 f]
    by_cases c : i < N
    · rw [if_pos (show y.toInt < (F_X11_many a τ).toInt by omega)]
      have y1 := zp1 hy (by omega)
      have z1 := zp1 hz (by omega)
      by_cases e : i = P
      · rw [if_pos (show y.toInt = x.toInt by omega)]
        exact ih _ _ (i + 1) τ y1 (by omega) (by omega) (by omega) f f55 (by rw [rk_n (by rw [e]; omega)]; exact hz)
      · rw [if_neg (show ¬ y.toInt = x.toInt by omega)]
        by_cases sx : Src N u i
        · have cz : ¬ (F_X11_isSource a y s).toInt = 0 := fun z => (nI.mp z) ⟨by omega, sx⟩
          have wi : wg (sB N u) C i = C i := if_pos (sB_t.mpr sx)
          rw [if_neg cz]
          obtain ⟨t, e1, e2⟩ := mClaimW b1 b2 b3 (b4 (by omega)) f hk hw hy (by omega)
          have f2 := f.tr (zUw.up e2)
          have t55 : t.1 (Y 55) = s.1 (Y 55) := (zUw.r55 b1 e2).trans f55
          rw [f55, show clM Y b s g w i (s.1 (Y 55) i) = C i by rw [hC]] at e1
          rw [e1]
          by_cases d : (C P).toInt < (C i).toInt
          · rw [if_pos d]
            exact ih _ _ (i + 1) t y1 (by omega) (by omega) (by omega) f2 t55 (by rw [rk_y ⟨hi, Or.inl (by rw [wP, wi]; exact d)⟩]; exact z1)
          · rw [if_neg d]
            by_cases e' : (C i).toInt = (C P).toInt
            · rw [if_pos e']
              by_cases o : i < P
              · rw [if_pos (show y.toInt < x.toInt by omega)]
                exact ih _ _ (i + 1) t y1 (by omega) (by omega) (by omega) f2 t55 (by rw [rk_y ⟨hi, Or.inr ⟨by rw [wP, wi]; exact e', o⟩⟩]; exact z1)
              · rw [if_neg (show ¬ y.toInt < x.toInt by omega)]
                exact ih _ _ (i + 1) t y1 (by omega) (by omega) (by omega) f2 t55 (by rw [rk_n (by rw [wP, wi]; omega)]; exact hz)
            · rw [if_neg e']
              exact ih _ _ (i + 1) t y1 (by omega) (by omega) (by omega) f2 t55 (by rw [rk_n (by rw [wP, wi]; omega)]; exact hz)
        · have cz : (F_X11_isSource a y s).toInt = 0 := nI.mpr (fun z => sx z.2)
          have wi : wg (sB N u) C i = -1 := if_neg (fun z => sx (sB_t.mp z))
          rw [if_pos cz]
          exact ih _ _ (i + 1) τ y1 (by omega) (by omega) (by omega) f f55 (by rw [rk_n (by rw [wP, wi, em]; omega)]; exact hz)
    · rw [if_neg (show ¬ y.toInt < (F_X11_many a τ).toInt by omega)]
      refine ⟨z, τ, rfl, ?_, f, f55⟩
      rw [hz]
      congr 2
      split <;> omega
theorem mRank (S : zSd q Y a b N g u l s1 s) (hk : k.toInt = w) (hw : w < 3) {C : Nat → Int32} (hC : C = fun p => clM Y b s g w p (s.1 (Y 55) p)) (hr : ∀ p, p < N → 0 ≤ (C p).toInt) {x : Int32} {P : Nat} (hp : x.toInt = P) (sp : Src N u P) (f : zFr (zVw Y a) s τ) (f55 : τ.1 (Y 55) = s.1 (Y 55)) : ∃ v τ', F_X11_rankOf a x k τ = (v, τ') ∧ v.toInt = rk (wg (sB N u) C) P N ∧ zFr (zVw Y a) s τ' ∧ τ'.1 (Y 55) = s.1 (Y 55) := by
  have hN := S.1.2.2.2.1
  have := sp.2.1
  obtain ⟨t, e1, e2⟩ := mClaimW S.2.1.1 S.2.1.2.1 S.2.1.2.2.1 (S.2.1.2.2.2.1 (by omega)) f hk hw hp (by omega)
  have f2 := f.tr (zUw.up e2)
  have t55 : t.1 (Y 55) = s.1 (Y 55) := (zUw.r55 S.2.1.1 e2).trans f55
  rw [f55, show clM Y b s g w P (s.1 (Y 55) P) = C P by rw [hC]] at e1
  obtain ⟨v, τ', r1, r2, r3, r4⟩ := mRankL S hk hw hC hr hp sp rfl 10000 1 0 1 t (by decide) (by omega) (Or.inr rfl) (by omega) f2 t55 (by rw [rk_1]; decide)
  refine ⟨v, τ', ?_, by rw [r2, rk_N], r3, r4⟩
  unfold F_X11_rankOf
  simp only [zlt, zlt2, e1]
  exact r1
end RANKM
section NOW3
variable {κ : Int} {L1 : List Nat} {kd1 : Nat → Nat} {L2 : List Nat} {kd2 : Nat → Nat} {σ1 σ2 τ1 τ2 s t : zS} {m0 x0 : Nat} {V : zWh} {ps pc sl rv sh cd : Nat} {v1 v2 p k : Int32}
theorem zRL.rank (h : zRL zQw L1 kd1 x0 m0 V ps pc sl rv sh cd σ1 σ2) (hw : 0 < zM m0 σ2 → zLw x0 m0 σ1 σ2) (hl : zLen x0 m0 σ1 σ2) (hx : zT L1 kd1 x0 10) (hI : zI κ 0 L1 kd1 σ1) (hJ : zJ κ L2 kd2 σ2) (hm : zT L2 kd2 m0 11) (hg : gN m0 σ2) (f1 : (v1, τ1) = F_X10_rank x0 p k σ1) (f2 : (v2, τ2) = F_X11_rank m0 p k σ2) : v1.toInt = v2.toInt := by
  obtain ⟨td, B, N, gl, u, l, q, Y, d1, n2, eL, xr, ⟨hq, hY⟩, ⟨S, Dn, FL, RN⟩, -, -⟩ := h.now hw hl hx hI hJ hm hg
  have q0 : q 0 = rv := by rw [hq]; rfl
  have q1 : q 1 = sh := by rw [hq]; rfl
  have E := S.eq Dn
  have hN := S.1.2.2.2.1
  obtain ⟨w1, e1, i1⟩ := cCt (p := p) (k := k) h.2.1 h.1 d1 eL xr q1 S
  obtain ⟨w2, e2, i2⟩ := mCt (p := p) (k := k) S
  unfold F_X10_rank at f1
  unfold F_X11_rank at f2
  simp only [zlt, zlt2, e1, e2, xr, xrv h.2.1] at f1 f2
  by_cases c : (0 ≤ k.toInt ∧ k.toInt ≤ 2) ∧ 0 ≤ p.toInt ∧ Src N u p.toInt.toNat
  · rw [if_neg (fun z => i1.mp z c)] at f1
    rw [if_neg (fun z => i2.mp z c)] at f2
    obtain ⟨⟨k1, k2⟩, p1, sp⟩ := c
    obtain ⟨P, hp⟩ : ∃ P : Nat, p.toInt = P := ⟨p.toInt.toNat, by omega⟩
    obtain ⟨w, hk⟩ : ∃ w : Nat, k.toInt = w := ⟨k.toInt.toNat, by omega⟩
    rw [show p.toInt.toNat = P by omega] at sp
    obtain ⟨s, hs⟩ : ∃ s, s = F_X10_look x0 σ1 := ⟨_, rfl⟩
    obtain ⟨t, ht⟩ : ∃ t, t = F_X11_copies m0 σ2 := ⟨_, rfl⟩
    rw [← hs] at S FL E f1 xr
    rw [← ht] at S FL E f2
    obtain ⟨C, hC⟩ : ∃ C : Nat → Int32, C = fun p => clM Y B t gl w p (t.1 (Y 55) p) := ⟨_, rfl⟩
    have cC : ∀ p, p < N → clC q s gl w p (s.1 (q 6) p) = C p := fun p hp => by rw [hC, clEq E hp, (FL p hp).1]
    have rC' : ∀ p, p < N → 0 ≤ (C p).toInt := fun p hp => by rw [← cC p hp]; exact clC_r.1
    obtain ⟨c1, c2, c3⟩ := cWeighA S.1.1 S.1.2.1 S.1.2.2.1 hN S.1.2.2.2.2.2.2.2 hk (by omega) (F := fun p => s.1 (q 6) p) zFr.id (fun p _ => rfl)
    have c3' : ∀ p, 1 ≤ p → p < N → (F_X5_weigh (q 0) k s).1 (q 7) p = wg (sB N u) C p := fun p p1 p2 => by
      rw [c3 p p1 p2]
      unfold wg
      show (if sB N u p = true then clC q s gl w p (s.1 (q 6) p) else -1) = _
      rw [cC p p2]
    obtain ⟨x, x1, x2⟩ := cRank S.1.1 S.1.2.2.1 hN c1 c3' hp ⟨sp.1, sp.2.1⟩
    obtain ⟨y, t', y1, y2, -, -⟩ := mRank S hk (by omega) hC rC' hp sp zFr.id rfl
    have xs : ∀ j, (F_X5_weigh (q 0) k s).2.2 x0 j = σ1.2.2 x0 j := fun j => by rw [c1.rf]; exact xr j
    rw [q0] at x1 xs
    simp only [xs, xrv h.2.1, x1] at f1
    rw [y1] at f2
    rw [(zPr2 f1).1, (zPr2 f2).1]
    show x.toInt = y.toInt
    rw [x2, y2]
  · rw [if_pos (i1.mpr c)] at f1
    rw [if_pos (i2.mpr c)] at f2
    rw [(zPr2 f1).1, (zPr2 f2).1]
end NOW3
section RP3
variable {κ : Int} {L1 : List Nat} {kd1 : Nat → Nat} {L2 : List Nat} {kd2 : Nat → Nat} {σ1 σ2 τ1 τ2 : zS} {m0 x0 : Nat} {v1 v2 p q r : Int32}
theorem zRP.rank (h : zRP κ L1 kd1 L2 kd2 x0 m0 σ1 σ2) (hI : zI κ 0 L1 kd1 σ1) (hJ : zJ κ L2 kd2 σ2) (hx : zT L1 kd1 x0 10) (hm : zT L2 kd2 m0 11) (hg : gN m0 σ2) (f1 : (v1, τ1) = F_X10_rank x0 p q σ1) (f2 : (v2, τ2) = F_X11_rank m0 p q σ2) : v1.toInt = v2.toInt := by
  obtain ⟨V, ps, pc, sl, rv, sh, cd, hR⟩ := h.2.2
  exact hR.rank h.2.1 h.1.2 hx hI hJ hm hg f1 f2
end RP3
end
-- 35y17.lw50
section
/-! ANSWERS OF NOW: vote -/
/-- what a law makes of a score so far -/
def vv (w : Nat) (o : Int) (r : Nat) : Int := if w = 0 then 3 * (r : Int) else if o ≤ 3 * (r : Int) + w then o else 3 * (r : Int) + w
/-- the law by which a place stands best, the first of them -/
def bl (r : Nat → Nat) : Nat := if r 2 < r (if r 1 < r 0 then 1 else 0) then 2 else if r 1 < r 0 then 1 else 0
theorem bl_e {r : Nat → Nat} {o : Int} : vv 2 (vv 1 (vv 0 o (r 0)) (r 1)) (r 2) = 3 * (r (bl r) : Int) + bl r ∧ bl r < 3 := by
  have e0 : vv 0 o (r 0) = 3 * (r 0 : Int) := if_pos rfl
  have e1 : ∀ y, vv 1 y (r 1) = if y ≤ 3 * (r 1 : Int) + 1 then y else 3 * (r 1 : Int) + 1 := fun y => if_neg (by decide)
  have e2 : ∀ y, vv 2 y (r 2) = if y ≤ 3 * (r 2 : Int) + 2 then y else 3 * (r 2 : Int) + 2 := fun y => if_neg (by decide)
  rw [e0, e1, e2]
  unfold bl
  by_cases c1 : r 1 < r 0
  · rw [if_pos c1, if_neg (show ¬ 3 * (r 0 : Int) ≤ 3 * (r 1 : Int) + 1 by omega)]
    by_cases c2 : r 2 < r 1
    · rw [if_pos c2, if_neg (show ¬ 3 * (r 1 : Int) + 1 ≤ 3 * (r 2 : Int) + 2 by omega)]
      exact ⟨rfl, by decide⟩
    · rw [if_neg c2, if_pos (show 3 * (r 1 : Int) + 1 ≤ 3 * (r 2 : Int) + 2 by omega)]
      exact ⟨rfl, by decide⟩
  · rw [if_neg c1, if_pos (show 3 * (r 0 : Int) ≤ 3 * (r 1 : Int) + 1 by omega)]
    by_cases c2 : r 2 < r 0
    · rw [if_pos c2, if_neg (show ¬ 3 * (r 0 : Int) ≤ 3 * (r 2 : Int) + 2 by omega)]
      exact ⟨rfl, by decide⟩
    · rw [if_neg c2, if_pos (show 3 * (r 0 : Int) ≤ 3 * (r 2 : Int) + 2 by omega)]
      exact ⟨by omega, by decide⟩
/-- how many vote so -/
def vc (S : Nat → Bool) (g : Nat → Nat) (law : Nat) : Nat → Nat
  | 0 => 0
  | i + 1 => vc S g law i + (if 1 ≤ i ∧ S i = true ∧ g i = law then 1 else 0)
theorem vc_1 {S : Nat → Bool} {g : Nat → Nat} {law : Nat} : vc S g law 1 = 0 := by
  rw [vc, if_neg (by omega)]
  rfl
theorem vc_le {S : Nat → Bool} {g : Nat → Nat} {law : Nat} : ∀ i, vc S g law i ≤ i := by
  intro i
  induction i with
  | zero => exact Nat.le_refl _
  | succ i ih =>
    rw [vc]
    split <;> omega
theorem vc_N {S : Nat → Bool} {g : Nat → Nat} {law N : Nat} : vc S g law (if 1 ≤ N then N else 1) = vc S g law N := by
  split
  · rfl
  · rw [show N = 0 by omega, vc_1]
    rfl
theorem m3 : ∀ n : Nat, n < 64 → (Int32.ofInt n - Int32.ofInt n / 3 * 3).toInt = (n % 3 : Nat) := by decide
theorem m3' {x : Int32} {n : Nat} (h : x.toInt = n) (hn : n < 64) : (x - x / 3 * 3).toInt = (n % 3 : Nat) := by
  rw [ofI h]
  exact m3 n hn
section VOTEC
variable {q Y : Nat → Nat} {a b N : Nat} {s1 s2 s t t1 : zS} {g : zGl} {u l : Nat → Nat} {w z : Nat}
/-- a row that is none of the river's, written -/
theorem zSd.fz (hz : ∀ i, i < 22 → ¬ q i = z) (S : zSd q Y a b N g u l s1 s2) (f : zFr (fun c _ => c = z) s1 t1) : zSd q Y a b N g u l t1 s2 := by
  obtain ⟨⟨a1, a2, a3, a4, a5, a6, a7, a8⟩, B, c, d, e⟩ := S
  have r1 := f.rf
  have r : ∀ i, i < 22 → t1.1 (q i) = s1.1 (q i) := fun i hi => funext (fun j => f.2 (q i) j (hz i hi))
  refine ⟨⟨by rw [r1]; exact a1, fun hN => (a2 hN).cg (congrFun (r 3 (by decide)) 8) (fun i hi => r i (by omega)), by rw [r 1 (by decide)]; exact a3, a4, a5, fun c c1 c2 => by rw [r 19 (by decide)]; exact a6 c c1 c2, a7.cg (r 16 (by decide)), fun x => ?_⟩, B, fun p hp => ?_, fun c c1 c2 => ?_, fun hN => ?_⟩
  · have g18 : (s1.2.2 (q 1) 4).getD 0 = q 18 := a1.1.2.2.2.1.2.2
    have e : (F_X6_isSource (q 1) x t1).1 = (F_X6_isSource (q 1) x s1).1 := by
      unfold F_X6_isSource
      simp only [zlt, r1, g18, r 1 (by decide), r 18 (by decide)]
      (repeat' split) <;> rfl
    rw [e]
    exact a8 x
  · rw [r 11 (by decide), r 17 (by decide), r 12 (by decide), r 10 (by decide), r 18 (by decide)]
    exact c p hp
  · rw [r 4 (by decide)]
    exact d c c1 c2
  · rw [r 3 (by decide)]
    exact e hN
theorem zDn.fz (hz : ∀ i, i < 22 → ¬ q i = z) (Dn : zDn q Y N s1 s2) (f : zFr (fun c _ => c = z) s1 t1) : zDn q Y N t1 s2 := by
  have r : ∀ i, i < 22 → t1.1 (q i) = s1.1 (q i) := fun i hi => funext (fun j => f.2 (q i) j (hz i hi))
  unfold zDn
  rw [r 20 (by decide), r 21 (by decide), r 4 (by decide)]
  exact Dn
/-- the votes of one law cast, behind the weights -/
theorem castL {x0 td : Nat} (S : zSd q Y a b N g u l s t) (hz : ∀ i, i < 22 → ¬ q i = z) (rx : (s.2.2 x0 2).getD 0 = q 0 ∧ (s.2.2 x0 10).getD 0 = td ∧ (s.2.2 x0 9).getD 0 = z) (q3 : q 3 = td) (n0 : (s.1 td 0).toInt = N) {W : Nat → Int32} (hW : ∀ p, 1 ≤ p → p < N → s.1 (q 7) p = W p) {o : Nat → Int} (ho : ∀ p, 1 ≤ p → p < N → (s.1 z p).toInt = o p) {x2 : Int32} (hx2 : x2.toInt = w) (hw : w < 3) {kA : Int32 → zS → zS} : ∀ (n : Nat) (x : Int32) (i : Nat) (τ : zS), x.toInt = i → 1 ≤ i → 13 - i < n → zFr (fun c _ => c = z) s τ → (∀ p, 1 ≤ p → p < N → (τ.1 z p).toInt = if p < i then vv w (o p) (rk W p N) else o p) → ∃ τ', F_X10_castVotes_17 x2 x0 kA n x τ = kA (x2 + (1 : Int32)) τ' ∧ zFr (fun c _ => c = z) s τ' ∧ ∀ p, 1 ≤ p → p < N → (τ'.1 z p).toInt = vv w (o p) (rk W p N) := by
  have hN := S.1.2.2.2.1
  have o3 : (3 : Int32).toInt = 3 := by decide
  intro n
  induction n with
  | zero => intro x i τ _ _ h; exact absurd h (by omega)
  | succ n ih =>
    intro x i τ hx hi hn f hv
    have Sτ := S.fz hz f
    have rt := f.rf
    have nx : x.toNatClampNeg = i := by rw [ztn, hx]; rfl
    have n0' : (τ.1 td 0).toInt = N := by rw [f.2 td 0 (fun e => hz 3 (by decide) (q3.trans e))]; exact n0
    rw [F_X10_castVotes_17]
    simp only [↓zlt, ↓zlt2, rt, rx.1, rx.2.1, rx.2.2]
    by_cases c : i < N
    · rw [if_pos (by omega)]
      have hW' : ∀ p, 1 ≤ p → p < N → τ.1 (q 7) p = W p := fun p p1 p2 => by rw [f.2 (q 7) p (hz 7 (by decide))]; exact hW p p1 p2
      obtain ⟨v, e1, e2⟩ := cRank Sτ.1.1 Sτ.1.2.2.1 hN zFr.id hW' hx ⟨hi, c⟩
      have rb := rk_le (W := W) (p := i) N
      have v1 : ((3 : Int32) * v).toInt = 3 * (rk W i N : Int) := by rw [zb_mul (by rw [o3]; omega) (by rw [o3]; omega), o3, e2]
      have v2 : ((3 : Int32) * v + x2).toInt = 3 * (rk W i N : Int) + w := by rw [zb_add (by omega) (by omega), v1, hx2]
      rw [e1]
      simp only [rt, rx.2.2, nx]
      have step : ∀ (y : Int32), y.toInt = vv w (o i) (rk W i N) → ∃ τ', F_X10_castVotes_17 x2 x0 kA n (x + (1 : Int32)) (zu τ.1 z i y, τ.2.1, s.2.2) = kA (x2 + (1 : Int32)) τ' ∧ zFr (fun c _ => c = z) s τ' ∧ ∀ p, 1 ≤ p → p < N → (τ'.1 z p).toInt = vv w (o p) (rk W p N) := fun y hy => by
        have f' : zFr (fun c _ => c = z) s (zu τ.1 z i y, τ.2.1, s.2.2) := by
          have k := f.w (r := z) (j := i) (v := y) rfl
          rw [rt] at k
          exact k
        refine ih _ (i + 1) _ (zp1 hx (by omega)) (by omega) (by omega) f' (fun p p1 p2 => ?_)
        show (zu τ.1 z i y z p).toInt = _
        by_cases e : p = i
        · rw [e, zu_s, if_pos (by omega)]
          exact hy
        · rw [zu_j _ _ _ _ _ (fun k => e k.symm), hv p p1 p2]
          by_cases l : p < i
          · rw [if_pos l, if_pos (by omega)]
          · rw [if_neg l, if_neg (by omega)]
      have old := hv i hi c
      rw [if_neg (Nat.lt_irrefl i)] at old
      by_cases w0 : w = 0
      · rw [if_pos (by omega)]
        exact step _ (by
          rw [v2]
          unfold vv
          rw [if_pos w0]
          omega)
      · rw [if_neg (by omega)]
        exact step _ (by
          unfold vv
          rw [if_neg w0]
          by_cases d : o i ≤ 3 * (rk W i N : Int) + w
          · rw [if_pos (show (τ.1 z i).toInt ≤ ((3 : Int32) * v + x2).toInt by omega), if_pos d]
            exact old
          · rw [if_neg (show ¬ (τ.1 z i).toInt ≤ ((3 : Int32) * v + x2).toInt by omega), if_neg d]
            exact v2)
    · rw [if_neg (by omega)]
      exact ⟨τ, rfl, f, fun p p1 p2 => by rw [hv p p1 p2, if_pos (by omega)]⟩
/-- the votes of one law -/
theorem castStep {x0 td : Nat} (S : zSd q Y a b N g u l s t) (Dn : zDn q Y N s t) (FL : ∀ p, p < N → s.1 (q 6) p = t.1 (Y 55) p) (hz : ∀ i, i < 22 → ¬ q i = z) (rx : (s.2.2 x0 2).getD 0 = q 0 ∧ (s.2.2 x0 10).getD 0 = td ∧ (s.2.2 x0 9).getD 0 = z) (q3 : q 3 = td) (n0 : (s.1 td 0).toInt = N) {o : Nat → Int} (ho : ∀ p, 1 ≤ p → p < N → (s.1 z p).toInt = o p) {x2 : Int32} (hx2 : x2.toInt = w) (hw : w < 3) (n : Nat) : ∃ τ, F_X10_castVotes_2 x0 (n + 1) x2 s = F_X10_castVotes_2 x0 n (x2 + (1 : Int32)) τ ∧ zSd q Y a b N g u l τ t ∧ zDn q Y N τ t ∧ (∀ p, p < N → τ.1 (q 6) p = t.1 (Y 55) p) ∧ τ.2.2 = s.2.2 ∧ (τ.1 td 0).toInt = N ∧ ∀ p, 1 ≤ p → p < N → (τ.1 z p).toInt = vv w (o p) (rk (wg (sB N u) (fun p => clM Y b t g w p (t.1 (Y 55) p))) p N) := by
  have E := S.eq Dn
  have hN := S.1.2.2.2.1
  have o3 : (3 : Int32).toInt = 3 := by decide
  obtain ⟨c1, c2, c3⟩ := cWeighA S.1.1 S.1.2.1 S.1.2.2.1 hN S.1.2.2.2.2.2.2.2 hx2 hw (F := fun p => s.1 (q 6) p) zFr.id (fun p _ => rfl)
  obtain ⟨x, hx⟩ : ∃ x, x = F_X5_weigh (q 0) x2 s := ⟨_, rfl⟩
  rw [← hx] at c1 c2 c3
  have c3' : ∀ p, 1 ≤ p → p < N → x.1 (q 7) p = wg (sB N u) (fun p => clM Y b t g w p (t.1 (Y 55) p)) p := fun p p1 p2 => by
    rw [c3 p p1 p2]
    unfold wg
    show (if sB N u p = true then clC q s g w p (s.1 (q 6) p) else -1) = if sB N u p = true then clM Y b t g w p (t.1 (Y 55) p) else -1
    rw [clEq E p2, FL p p2]
  have Sx := S.fr (zRw.up c1) zFr.id
  have Dx := Dn.up1 S.1.1 c1
  have nz : ∀ i, i = 7 ∨ i = 8 ∨ i = 9 → ¬ z = q i := fun i hi e => hz i (by omega) e.symm
  obtain ⟨τ, e1, e2, e3⟩ := castL (kA := F_X10_castVotes_2 x0 n) (x0 := x0) (td := td) Sx hz ⟨by rw [c1.rf]; exact rx.1, by rw [c1.rf]; exact rx.2.1, by rw [c1.rf]; exact rx.2.2⟩ q3 (by rw [← q3, zRw.r (i := 3) S.1.1 c1 (by decide) (by omega), q3]; exact n0) c3' (o := o) (fun p p1 p2 => by
    rw [c2.2 z p (by
      rintro (k | k | k)
      · exact nz 7 (by omega) k
      · exact nz 8 (by omega) k
      · exact nz 9 (by omega) k)]
    exact ho p p1 p2) hx2 hw 10000 1 1 x (by decide) (by omega) (by omega) zFr.id (fun p p1 p2 => by
    rw [if_neg (by omega), c2.2 z p (by
      rintro (k | k | k)
      · exact nz 7 (by omega) k
      · exact nz 8 (by omega) k
      · exact nz 9 (by omega) k)]
    exact ho p p1 p2)
  refine ⟨τ, ?_, Sx.fz hz e2, Dx.fz hz e2, fun p hp => ?_, e2.rf.trans c1.rf, ?_, e3⟩
  · rw [F_X10_castVotes_2]
    simp only [↓zlt, rx.1]
    rw [if_pos (by omega), ← hx]
    exact e1
  · rw [e2.2 (q 6) p (hz 6 (by decide)), c2.2 (q 6) p (by
      rintro (k | k | k)
      · exact S.1.1.n (by decide) (by decide) (by decide) k
      · exact S.1.1.n (by decide) (by decide) (by decide) k
      · exact S.1.1.n (by decide) (by decide) (by decide) k)]
    exact FL p hp
  · rw [e2.2 td 0 (fun e => hz 3 (by decide) (q3.trans e)), ← q3, zRw.r (i := 3) S.1.1 c1 (by decide) (by omega), q3]
    exact n0
/-- who votes so, counted by the class -/
theorem cVotes {x0 td sh : Nat} (S : zSd q Y a b N g u l s t) (rx : (s.2.2 x0 3).getD 0 = q 1 ∧ (s.2.2 x0 10).getD 0 = td ∧ (s.2.2 x0 9).getD 0 = z) (n0 : (s.1 td 0).toInt = N) {f : Nat → Nat} (hf : ∀ p, 1 ≤ p → p < N → ∃ m : Nat, (s.1 z p).toInt = m ∧ m < 64 ∧ m % 3 = f p) {x : Int32} {law : Nat} (hx : x.toInt = law) : ∃ v, F_X10_votesFor x0 x s = (v, s) ∧ v.toInt = vc (sB N u) f law N := by
  have hN := S.1.2.2.2.1
  have lp : ∀ (n : Nat) (y c : Int32) (i : Nat), y.toInt = i → 1 ≤ i → (i ≤ N ∨ i = 1) → 13 - i < n → c.toInt = vc (sB N u) f law i → ∃ v, F_X10_votesFor_4 x0 x n y c s = (v, s) ∧ v.toInt = vc (sB N u) f law (if 1 ≤ N then N else 1) := by
    intro n
    induction n with
    | zero => intro y c i _ _ _ h; exact absurd h (by omega)
    | succ n ih =>
      intro y c i hy hi hi2 hn hc
      have ny : y.toNatClampNeg = i := by rw [ztn, hy]; rfl
      have a8 := S.1.2.2.2.2.2.2.2 y
      rw [show y.toInt.toNat = i by omega] at a8
      have a9 := cIsR (x := y) S.1.1 (zFr.id (σ := s))
      have vb := vc_le (S := sB N u) (g := f) (law := law) i
      rw [F_X10_votesFor_4]
      simp only [↓zlt, ↓zlt2, rx.1, rx.2.1]
      by_cases d : i < N
      · rw [if_pos (by omega)]
        have y1 := zp1 hy (by omega)
        have c1 := zp1 hc (by omega)
        rw [a9]
        simp only [rx.2.2, ny]
        by_cases sx : Src N u i
        · rw [if_neg (fun k => a8.mp k ⟨by omega, sx⟩)]
          obtain ⟨m, m1, m2, m3⟩ := hf i hi d
          have mm := m3' m1 m2
          by_cases e : f i = law
          · rw [if_pos (by rw [mm, hx]; omega)]
            exact ih _ _ (i + 1) y1 (by omega) (by omega) (by omega) (by rw [vc, if_pos ⟨hi, sB_t.mpr sx, e⟩]; exact c1)
          · rw [if_neg (by rw [mm, hx]; omega)]
            exact ih _ _ (i + 1) y1 (by omega) (by omega) (by omega) (by rw [vc, if_neg (fun k => e k.2.2), Nat.add_zero]; exact hc)
        · rw [if_pos (a8.mpr (fun k => sx k.2))]
          exact ih _ _ (i + 1) y1 (by omega) (by omega) (by omega) (by rw [vc, if_neg (fun k => sx (sB_t.mp k.2.1)), Nat.add_zero]; exact hc)
      · rw [if_neg (by omega)]
        refine ⟨c, rfl, ?_⟩
        rw [hc]
        congr 2
        split <;> omega
  unfold F_X10_votesFor
  simp only [zlt]
  obtain ⟨v, e1, e2⟩ := lp 10000 1 0 1 (by decide) (by omega) (Or.inr rfl) (by omega) (by rw [vc_1]; decide)
  exact ⟨v, e1, by rw [e2, vc_N]⟩
end VOTEC
end
-- 35y18.lw51
section
/-! VOTE: the reference's side, the answer -/
theorem rk_cg {W W' : Nat → Int32} {p : Nat} (hp : W' p = W p) : ∀ n, (∀ i, i < n → W' i = W i) → rk W' p n = rk W p n := by
  intro n
  induction n with
  | zero => intro _; rfl
  | succ n ih =>
    intro h
    rw [rk, rk, ih (fun i hi => h i (by omega)), h n (by omega), hp]
/-- the law most vote for, the first of them -/
def vb (c : Nat → Nat) : Nat := if c (if c 0 < c 1 then 1 else 0) < c 2 then 2 else if c 0 < c 1 then 1 else 0
section VOTEM
variable {q Y : Nat → Nat} {a b N : Nat} {s1 s2 s t t1 t2 τ : zS} {g : zGl} {u l : Nat → Nat} {w z : Nat}
/-- a row that is none of the reference's own, written -/
theorem zSd.fz2 (hz : ∀ j, zYj j → ¬ Y j = z) (ha : ¬ a = z) (S : zSd q Y a b N g u l s1 s2) (f : zFr (fun c _ => c = z) s2 t2) : zSd q Y a b N g u l s1 t2 := by
  obtain ⟨A, ⟨b1, b2, b3, b4, b5, b6, b7, b8⟩, c, d, e⟩ := S
  have r2 := f.rf
  have qj : ∀ j, zYj j → t2.1 (Y j) = s2.1 (Y j) := fun j hj => funext (fun i => f.2 (Y j) i (hz j hj))
  have e18 : t2.1 a 18 = s2.1 a 18 := f.2 a 18 ha
  have mM : F_X11_many a t2 = F_X11_many a s2 := by
    unfold F_X11_many
    simp only [zlt]
    rw [r2, (b1.1 21 (by unfold zYj; omega)).1, e18, qj 21 (by unfold zYj; omega)]
  refine ⟨A, ⟨by rw [r2]; exact b1, by rw [e18]; exact b2, b3, fun hN => (b4 hN).cg (fun j hj => qj j (by unfold zYj; omega)), by rw [mM]; exact b5, fun c c1 c2 => by rw [qj 49 (by unfold zYj; omega)]; exact b6 c c1 c2, fun c hc => by rw [qj 53 (by unfold zYj; omega)]; exact b7 c hc, fun x => ?_⟩, fun p hp => ?_, fun c c1 c2 => ?_, fun hN => ?_⟩
  · have e : F_X11_isSource a x t2 = F_X11_isSource a x s2 := by
      have g54 := (b1.1 54 (by unfold zYj; omega)).1
      have x54 : t2.1 (Y 54) = s2.1 (Y 54) := qj 54 (by unfold zYj; omega)
      unfold F_X11_isSource F_X11_isBeside
      simp only [zlt, r2, g54, x54, mM]
    rw [e]
    exact b8 x
  · rw [qj 24 (by unfold zYj; omega), qj 52 (by unfold zYj; omega), qj 25 (by unfold zYj; omega), qj 23 (by unfold zYj; omega), qj 54 (by unfold zYj; omega)]
    exact c p hp
  · have xd : dmM Y t2 c = dmM Y s2 c := by
      unfold dmM
      rw [qj 49 (by unfold zYj; omega)]
    rw [xd]
    exact d c c1 c2
  · rw [qj 28 (by unfold zYj; omega)]
    exact e hN
theorem zDn.fz2 (hz : ∀ j, zYj j → ¬ Y j = z) (Dn : zDn q Y N s1 s2) (f : zFr (fun c _ => c = z) s2 t2) : zDn q Y N s1 t2 := by
  unfold zDn
  rw [show t2.1 (Y 49) = s2.1 (Y 49) from funext (fun i => f.2 (Y 49) i (hz 49 (by unfold zYj; omega)))]
  exact Dn
/-- by which law a place stands best -/
theorem mBest (S : zSd q Y a b N g u l s1 s) {C : Nat → Nat → Int32} (hC : ∀ w, w < 3 → C w = fun p => clM Y b s g w p (s.1 (Y 55) p)) (hr : ∀ w p, w < 3 → p < N → 0 ≤ (C w p).toInt) {x p : Int32} {P : Nat} (hp : x.toInt = P) (sp : Src N u P) {r : Nat → Nat} (hR : ∀ w, w < 3 → rk (wg (sB N u) (C w)) P N = r w) {kA kB : Int32 → zS → Int32 × zS} : ∃ τ, zFr (zVw Y a) s τ ∧ τ.1 (Y 55) = s.1 (Y 55) ∧ F_X11_vote_71 x a p kA kB 10000 1 0 s = kB (x + (1 : Int32)) (zu τ.1 ((τ.2.2 a 59).getD 0) (bl r) (τ.1 ((τ.2.2 a 59).getD 0) (bl r) + (1 : Int32)), τ.2.1, τ.2.2) := by
  have z0 : (0 : Int32).toInt = (0 : Nat) := by decide
  have z1 : (1 : Int32).toInt = (1 : Nat) := by decide
  have z2 : (2 : Int32).toInt = (2 : Nat) := by decide
  have w0 : (0 : Int32).toNatClampNeg = 0 := by decide
  have w1 : (1 : Int32).toNatClampNeg = 1 := by decide
  have w2 : (2 : Int32).toNatClampNeg = 2 := by decide
  have p12 : (1 : Int32) + 1 = 2 := by decide
  have p23 : (2 : Int32) + 1 = 3 := by decide
  have R := fun (w : Nat) (k : Int32) (hk : k.toInt = w) (hw : w < 3) (τ : zS) (f : zFr (zVw Y a) s τ) (f55 : τ.1 (Y 55) = s.1 (Y 55)) => mRank S hk hw (hC w hw) (fun p hp => hr w p hw hp) hp sp f f55
  obtain ⟨x1, t1, a1, a2, a3, a4⟩ := R 1 1 z1 (by decide) s zFr.id rfl
  obtain ⟨x2, t2, b1, b2, b3, b4⟩ := R 0 0 z0 (by decide) t1 a3 a4
  rw [hR 1 (by decide)] at a2
  rw [hR 0 (by decide)] at b2
  obtain ⟨x3, t3, c1, c2, c3, c4⟩ := R 2 2 z2 (by decide) t2 b3 b4
  rw [hR 2 (by decide)] at c2
  rw [show (10000 : Nat) = 9997 + 1 + 1 + 1 from rfl, F_X11_vote_71]
  simp only [↓zlt, ↓zlt2, a1, b1, p12]
  rw [if_pos (show (1 : Int32).toInt < (3 : Int32).toInt by decide)]
  have fin : ∀ (y : Int32) (k : Nat) (τ : zS), y.toNatClampNeg = k → F_X11_vote_71 x a p kA kB (9997 + 1) 3 y τ = kB (x + (1 : Int32)) (zu τ.1 ((τ.2.2 a 59).getD 0) k (τ.1 ((τ.2.2 a 59).getD 0) k + (1 : Int32)), τ.2.1, τ.2.2) := fun y k τ hy => by
    rw [F_X11_vote_71]
    simp only [↓zlt, hy]
    rw [if_neg (show ¬ (3 : Int32).toInt < (3 : Int32).toInt by decide)]
  by_cases d1 : r 1 < r 0
  · obtain ⟨x4, t4, e1, e2, e3, e4⟩ := R 1 1 z1 (by decide) t3 c3 c4
    rw [hR 1 (by decide)] at e2
    rw [if_pos (show x1.toInt < x2.toInt by omega), F_X11_vote_71]
    simp only [↓zlt, ↓zlt2, c1, e1, p23]
    rw [if_pos (show (2 : Int32).toInt < (3 : Int32).toInt by decide)]
    by_cases d2 : r 2 < r 1
    · rw [if_pos (show x3.toInt < x4.toInt by omega)]
      refine ⟨t4, e3, e4, ?_⟩
      rw [fin 2 2 t4 w2]
      unfold bl
      rw [if_pos d1, if_pos d2]
    · rw [if_neg (show ¬ x3.toInt < x4.toInt by omega)]
      refine ⟨t4, e3, e4, ?_⟩
      rw [fin 1 1 t4 w1]
      unfold bl
      rw [if_pos d1, if_neg d2]
  · obtain ⟨x4, t4, e1, e2, e3, e4⟩ := R 0 0 z0 (by decide) t3 c3 c4
    rw [hR 0 (by decide)] at e2
    rw [if_neg (show ¬ x1.toInt < x2.toInt by omega), F_X11_vote_71]
    simp only [↓zlt, ↓zlt2, c1, e1, p23]
    rw [if_pos (show (2 : Int32).toInt < (3 : Int32).toInt by decide)]
    by_cases d2 : r 2 < r 0
    · rw [if_pos (show x3.toInt < x4.toInt by omega)]
      refine ⟨t4, e3, e4, ?_⟩
      rw [fin 2 2 t4 w2]
      unfold bl
      rw [if_neg d1, if_pos d2]
    · rw [if_neg (show ¬ x3.toInt < x4.toInt by omega)]
      refine ⟨t4, e3, e4, ?_⟩
      rw [fin 0 0 t4 w0]
      unfold bl
      rw [if_neg d1, if_neg d2]
/-- the votes counted, the law found -/
theorem mPick {p : Int32} {c : Nat → Nat} {kA kB : Int32 → zS → Int32 × zS} (g9 : (τ.2.2 a 59).getD 0 = z) (hc : ∀ k, k < 3 → (τ.1 z k).toInt = c k) : (F_X11_vote_122 a p kA kB 10000 1 0 τ).1.toInt = if p.toInt = 0 then (vb c : Int) else c (vb c) := by
  have w0 : (0 : Int32).toNatClampNeg = 0 := by decide
  have w1 : (1 : Int32).toNatClampNeg = 1 := by decide
  have w2 : (2 : Int32).toNatClampNeg = 2 := by decide
  have i0 : (0 : Int32).toInt = (0 : Nat) := by decide
  have i1 : (1 : Int32).toInt = (1 : Nat) := by decide
  have i2 : (2 : Int32).toInt = (2 : Nat) := by decide
  have p12 : (1 : Int32) + 1 = 2 := by decide
  have p23 : (2 : Int32) + 1 = 3 := by decide
  have c0 := hc 0 (by decide)
  have c1 := hc 1 (by decide)
  have c2 := hc 2 (by decide)
  have fin : ∀ (y : Int32) (k : Nat), y.toInt = k → y.toNatClampNeg = k → k < 3 → k = vb c → (F_X11_vote_122 a p kA kB (9997 + 1) 3 y τ).1.toInt = if p.toInt = 0 then (vb c : Int) else c (vb c) := fun y k hy hk h3 e => by
    rw [F_X11_vote_122]
    simp only [↓zlt, g9, hk]
    rw [if_neg (show ¬ (3 : Int32).toInt < (3 : Int32).toInt by decide), ← e]
    by_cases p0 : p.toInt = 0
    · rw [if_pos p0, if_pos p0]
      exact hy
    · rw [if_neg p0, if_neg p0]
      exact hc k h3
  rw [show (10000 : Nat) = 9997 + 1 + 1 + 1 from rfl, F_X11_vote_122]
  simp only [↓zlt, g9, w0, w1, p12]
  rw [if_pos (show (1 : Int32).toInt < (3 : Int32).toInt by decide)]
  by_cases d1 : c 0 < c 1
  · rw [if_pos (show (τ.1 z 0).toInt < (τ.1 z 1).toInt by omega), F_X11_vote_122]
    simp only [↓zlt, g9, w1, w2, p23]
    rw [if_pos (show (2 : Int32).toInt < (3 : Int32).toInt by decide)]
    by_cases d2 : c 1 < c 2
    · rw [if_pos (show (τ.1 z 1).toInt < (τ.1 z 2).toInt by omega)]
      exact fin 2 2 i2 w2 (by decide) (by unfold vb; rw [if_pos d1, if_pos d2])
    · rw [if_neg (show ¬ (τ.1 z 1).toInt < (τ.1 z 2).toInt by omega)]
      exact fin 1 1 i1 w1 (by decide) (by unfold vb; rw [if_pos d1, if_neg d2])
  · rw [if_neg (show ¬ (τ.1 z 0).toInt < (τ.1 z 1).toInt by omega), F_X11_vote_122]
    simp only [↓zlt, g9, w0, w2, p23]
    rw [if_pos (show (2 : Int32).toInt < (3 : Int32).toInt by decide)]
    by_cases d2 : c 0 < c 2
    · rw [if_pos (show (τ.1 z 0).toInt < (τ.1 z 2).toInt by omega)]
      exact fin 2 2 i2 w2 (by decide) (by unfold vb; rw [if_neg d1, if_pos d2])
    · rw [if_neg (show ¬ (τ.1 z 0).toInt < (τ.1 z 2).toInt by omega)]
      exact fin 0 0 i0 w0 (by decide) (by unfold vb; rw [if_neg d1, if_neg d2])
theorem mVoteL (S0 : zSd q Y a b N g u l s1 t) (D0 : zDn q Y N s1 t) (hz : ∀ j, zYj j → ¬ Y j = z) (ha : ¬ a = z) (g9 : (t.2.2 a 59).getD 0 = z) {C : Nat → Nat → Int32} (hC : ∀ w p, w < 3 → p < N → clM Y b t g w p (t.1 (Y 55) p) = C w p) (hr : ∀ w p, w < 3 → p < N → 0 ≤ (C w p).toInt) {f : Nat → Nat} (hf : ∀ P, Src N u P → f P = bl (fun w => rk (wg (sB N u) (C w)) P N)) {p : Int32} {kA : Int32 → zS → Int32 × zS} : ∀ (n : Nat) (x : Int32) (i : Nat) (τ : zS), x.toInt = i → 1 ≤ i → (i ≤ N ∨ i = 1) → 13 - i < n → zSd q Y a b N g u l s1 τ → zDn q Y N s1 τ → τ.2.2 = t.2.2 → τ.1 (Y 55) = t.1 (Y 55) → (∀ k, k < 3 → (τ.1 z k).toInt = vc (sB N u) f k i) → (F_X11_vote_47 a p kA n x τ).1.toInt = if p.toInt = 0 then (vb (fun k => vc (sB N u) f k N) : Int) else vc (sB N u) f (vb (fun k => vc (sB N u) f k N)) N := by
  have hN := S0.1.2.2.2.1
  have E0 := S0.eq D0
  intro n
  induction n with
  | zero => intro x i τ _ _ _ h; exact absurd h (by omega)
  | succ n ih =>
    intro x i τ hx hi hi2 hn S Dn rt r55 hc
    have E := S.eq Dn
    have b8 := S.2.1.2.2.2.2.2.2.2 x
    rw [show x.toInt.toNat = i by omega] at b8
    have M := S.2.1.2.2.2.2.1
    rw [F_X11_vote_47]
    simp only [↓zlt]
    by_cases c : i < N
    · rw [if_pos (by omega)]
      have x1 := zp1 hx (by omega)
      by_cases sx : Src N u i
      · rw [if_neg (fun k => b8.mp k ⟨by omega, sx⟩)]
        have cw : ∀ w p, w < 3 → p < N → clM Y b τ g w p (τ.1 (Y 55) p) = C w p := fun w p hw hp => by
          rw [r55, ← clEq E hp, clEq E0 hp]
          exact hC w p hw hp
        obtain ⟨τ', e1, e2, e3⟩ := mBest (p := p) (kA := kA) (kB := F_X11_vote_47 a p kA n) S (C := fun w p => clM Y b τ g w p (τ.1 (Y 55) p)) (fun w hw => rfl) (fun w p hw hp => by rw [cw w p hw hp]; exact hr w p hw hp) hx sx (r := fun w => rk (wg (sB N u) (C w)) i N) (fun w hw => by
          have k : ∀ j, j < N → wg (sB N u) (fun p => clM Y b τ g w p (τ.1 (Y 55) p)) j = wg (sB N u) (C w) j := fun j hj => by
            unfold wg
            show (if sB N u j = true then clM Y b τ g w j (τ.1 (Y 55) j) else -1) = _
            rw [cw w j hw hj]
          exact rk_cg (k i c) N k)
        rw [e3]
        have g9' : (τ'.2.2 a 59).getD 0 = z := by rw [e1.rf, rt]; exact g9
        rw [g9', ← hf i sx]
        have S' := S.fr zFr.id (zVw.up e1)
        have D' := Dn.up2 S.2.1.1 e1
        obtain ⟨y, hy⟩ : ∃ y : zS, y = (zu τ'.1 z (f i) (τ'.1 z (f i) + (1 : Int32)), τ'.2.1, τ'.2.2) := ⟨_, rfl⟩
        rw [← hy]
        have fy : zFr (fun c _ => c = z) τ' y := by rw [hy]; exact zFr.id.w rfl
        have fl : f i < 3 := by rw [hf i sx]; exact (bl_e (o := 0)).2
        have old : ∀ k, τ'.1 z k = τ.1 z k := fun k => e1.2 z k (by
          rintro (o | o | o | o)
          · exact hz 55 (by unfold zYj; omega) o.symm
          · exact hz 45 (by unfold zYj; omega) o.symm
          · exact hz 46 (by unfold zYj; omega) o.symm
          · exact ha o.1.symm)
        refine ih _ (i + 1) y x1 (by omega) (by omega) (by omega) (S'.fz2 hz ha fy) (D'.fz2 hz fy) (by rw [fy.rf, e1.rf]; exact rt) (by rw [show y.1 (Y 55) = τ'.1 (Y 55) from funext (fun j => fy.2 _ j (hz 55 (by unfold zYj; omega))), e2]; exact r55) (fun k hk => ?_)
        rw [hy]
        show (zu τ'.1 z (f i) (τ'.1 z (f i) + (1 : Int32)) z k).toInt = _
        have vbd := vc_le (S := sB N u) (g := f) (law := k) i
        by_cases e : k = f i
        · rw [← e, zu_s, old, vc, if_pos ⟨hi, sB_t.mpr sx, e.symm⟩]
          exact zp1 (hc k hk) (by omega)
        · rw [zu_j _ _ _ _ _ (fun o => e o.symm), old, vc, if_neg (fun o => e o.2.2.symm), Nat.add_zero]
          exact hc k hk
      · rw [if_pos (b8.mpr (fun k => sx k.2))]
        exact ih _ (i + 1) τ x1 (by omega) (by omega) (by omega) S Dn rt r55 (fun k hk => by rw [vc, if_neg (fun o => sx (sB_t.mp o.2.1)), Nat.add_zero]; exact hc k hk)
    · rw [if_neg (by omega)]
      have eN : (if 1 ≤ N then N else 1) = i := by
        split <;> omega
      exact mPick (z := z) (c := fun k => vc (sB N u) f k N) (by rw [rt]; exact g9) (fun k hk => by rw [hc k hk, ← eN, vc_N])
end VOTEM
section NOW4
variable {κ : Int} {L1 : List Nat} {kd1 : Nat → Nat} {L2 : List Nat} {kd2 : Nat → Nat} {σ1 σ2 τ1 τ2 s t : zS} {m0 x0 : Nat} {V : zWh} {ps pc sl rv sh cd : Nat} {v1 v2 p k : Int32}
/-- the sources, bit by bit alike -/
theorem zRL.srcE (h : zRL zQw L1 kd1 x0 m0 V ps pc sl rv sh cd σ1 σ2) (hl : zLen x0 m0 σ1 σ2) (hx : zT L1 kd1 x0 10) (hI : zI κ 0 L1 kd1 σ1) (hJ : zJ κ L2 kd2 σ2) (hm : zT L2 kd2 m0 11) (hg : gN m0 σ2) : F_X6_sources sh (F_X10_look x0 σ1) = (F_X11_sourceBits m0 (F_X11_copies m0 σ2), F_X10_look x0 σ1) := by
  obtain ⟨N, M, u, FR, SR, ℓ, l, A1, A2, A3, A4, A6, s, t, hs, ht, ⟨⟨n1, n2, n3, n4⟩, ⟨F0, S0, hF, hS, hℓ⟩, hb, -, hM⟩, ⟨g0, g1, g2, g3, g4, g6⟩, hP, hMN⟩ := h.lk2 zGd.q1 hl hx hI hJ hm hg
  obtain ⟨SB, e1, e2⟩ := cSources hP g4 n1
  have e3 := mSources hM hJ hm n2 n1
  have eS : F_X11_sourceBits m0 t = SB := b_ext (fun j hj => by
    have a := e2 j hj
    have b := e3 j hj
    cases h1 : bt (F_X11_sourceBits m0 t) j with
    | true => rw [h1] at b; exact (a.mpr (b.mp rfl)).symm
    | false =>
      cases h2 : bt SB j with
      | false => rfl
      | true =>
        rw [h1] at b
        have := b.mpr (a.mp h2)
        cases this)
  rw [← hs, ← ht, eS]
  exact e1
theorem zRL.vote (h : zRL zQw L1 kd1 x0 m0 V ps pc sl rv sh cd σ1 σ2) (hw : 0 < zM m0 σ2 → zLw x0 m0 σ1 σ2) (hl : zLen x0 m0 σ1 σ2) (hx : zT L1 kd1 x0 10) (hI : zI κ 0 L1 kd1 σ1) (hJ : zJ κ L2 kd2 σ2) (hm : zT L2 kd2 m0 11) (hg : gN m0 σ2) (f1 : (v1, τ1) = F_X10_vote x0 p σ1) (f2 : (v2, τ2) = F_X11_vote m0 p σ2) : v1.toInt = v2.toInt := by
  obtain ⟨td, B, N, gl, u, l, q, Y, d1, n2, eL, xr, ⟨hq, hY⟩, ⟨S, Dn, FL, RN⟩, -, -⟩ := h.now hw hl hx hI hJ hm hg
  have SE := h.srcE hl hx hI hJ hm hg
  have hV := h.2.1
  have hL := h.1
  have e0 : (0 : Int32).toInt = 0 := by decide
  have o1 : (1 : Int32).toInt = 1 := by decide
  have g3 : (σ1.2.2 x0 3).getD 0 = sh := by rw [hV.1.2.1]; rfl
  have g10 : (σ1.2.2 x0 10).getD 0 = td := by rw [d1]; rfl
  obtain ⟨td9, d9, t9⟩ := zi_ref (j := 10) (k2 := 9) hI hx (by rfl)
  obtain rfl : td9 = td := Option.some.inj (d9.symm.trans d1)
  obtain ⟨N', -, -, ⟨n3, n4, -⟩, -⟩ := h.2.2
  rw [g10] at n3
  have LE := h.lookE hl hx hI hJ hm hg td9 9 t9 (by omega)
  have T := qOf.t hL hV t9 (zTt_k hI t9) (k := 0) (by decide)
  have t53 : zT L1 kd1 ((σ1.2.2 x0 9).getD 0) 53 := hV.2.2.2.2.2.1
  have hzC : ∀ i, i < 22 → ¬ q i = (σ1.2.2 x0 9).getD 0 := fun i hi e => by
    have a := T i hi
    rw [← hq] at a
    rw [e] at a
    have b := a.2.symm.trans t53.2
    have c : ∀ i, i < 22 → qK i ≠ 53 := by decide
    exact c i hi b
  unfold F_X10_vote at f1
  unfold F_X11_vote at f2
  simp only [zlt, zlt2, cWithin, mIn, e0, o1, xr, g3, SE] at f1 f2
  by_cases c : 0 ≤ p.toInt ∧ p.toInt ≤ 1
  · rw [if_neg (fun z => z c)] at f1 f2
    by_cases d : (F_X11_sourceBits m0 (F_X11_copies m0 σ2)).toInt = 0
    · rw [if_pos d] at f1 f2
      rw [(zPr2 f1).1, (zPr2 f2).1]
    · rw [if_neg d] at f1 f2
      obtain ⟨s, hs⟩ : ∃ s, s = F_X10_look x0 σ1 := ⟨_, rfl⟩
      obtain ⟨t, ht⟩ : ∃ t, t = F_X11_copies m0 σ2 := ⟨_, rfl⟩
      rw [← hs] at S Dn FL f1 xr LE
      rw [← ht] at S Dn FL f2
      have E := S.eq Dn
      have hN := S.1.2.2.2.1
      obtain ⟨C, hC⟩ : ∃ C : Nat → Nat → Int32, C = fun w p => clM Y B t gl w p (t.1 (Y 55) p) := ⟨_, rfl⟩
      have cC : ∀ w p, w < 3 → p < N → clM Y B t gl w p (t.1 (Y 55) p) = C w p := fun w p _ _ => by rw [hC]
      have rC' : ∀ w p, w < 3 → p < N → 0 ≤ (C w p).toInt := fun w p hw hp => by rw [← cC w p hw hp, ← clEq E hp]; exact clC_r.1
      obtain ⟨r, hr⟩ : ∃ r : Nat → Nat → Nat, r = fun P w => rk (wg (sB N u) (C w)) P N := ⟨_, rfl⟩
      obtain ⟨f, hf⟩ : ∃ f : Nat → Nat, f = fun P => bl (r P) := ⟨_, rfl⟩
      -- the class
      have q0 : q 0 = rv := by rw [hq]; rfl
      have q1 : q 1 = sh := by rw [hq]; rfl
      have q3 : q 3 = td9 := by rw [hq]; rfl
      obtain ⟨z, hz⟩ : ∃ z, z = (σ1.2.2 x0 9).getD 0 := ⟨_, rfl⟩
      rw [← hz] at hzC
      have z0 : (0 : Int32).toInt = (0 : Nat) := by decide
      have z1 : ((0 : Int32) + 1).toInt = (1 : Nat) := by decide
      have z2 : ((0 : Int32) + 1 + 1).toInt = (2 : Nat) := by decide
      have rx : ∀ τ : zS, τ.2.2 = s.2.2 → (τ.2.2 x0 2).getD 0 = q 0 ∧ (τ.2.2 x0 10).getD 0 = td9 ∧ (τ.2.2 x0 9).getD 0 = z := fun τ e => by
        rw [e, xr, xr, xr, q0]
        exact ⟨xrv hV, g10, hz.symm⟩
      have n0 : (s.1 td9 0).toInt = N := by rw [LE]; omega
      obtain ⟨ta, a1, a2, a3, a4, a5, a6, a7⟩ := castStep S Dn (fun p hp => (FL p hp).1) hzC (rx s rfl) q3 n0 (o := fun p => (s.1 z p).toInt) (fun p _ _ => rfl) z0 (by decide) 9999
      obtain ⟨tb, b1, b2, b3, b4, b5, b6, b7⟩ := castStep a2 a3 a4 hzC (rx ta a5) q3 a6 a7 z1 (by decide) 9998
      obtain ⟨tc, c1, c2, c3, c4, c5, c6, c7⟩ := castStep b2 b3 b4 hzC (rx tb (b5.trans a5)) q3 b6 b7 z2 (by decide) 9997
      have cast : F_X10_castVotes x0 s = tc := by
        unfold F_X10_castVotes
        simp only [zlt]
        rw [show (10000 : Nat) = 9999 + 1 from rfl, a1, show (9999 : Nat) = 9998 + 1 from rfl, b1, show (9998 : Nat) = 9997 + 1 from rfl, c1, show (9997 : Nat) = 9996 + 1 from rfl, F_X10_castVotes_2]
        simp only [zlt]
        rw [if_neg (by decide)]
      have rc := c5.trans (b5.trans a5)
      have sc : ∀ p, 1 ≤ p → p < N → ∃ m : Nat, (tc.1 z p).toInt = m ∧ m < 64 ∧ m % 3 = f p := fun p p1 p2 => by
        have e := c7 p p1 p2
        have b := bl_e (r := r p) (o := (s.1 z p).toInt)
        have x0' : r p 0 = rk (wg (sB N u) (fun p => clM Y B t gl 0 p (t.1 (Y 55) p))) p N := by rw [hr, hC]
        have x1' : r p 1 = rk (wg (sB N u) (fun p => clM Y B t gl 1 p (t.1 (Y 55) p))) p N := by rw [hr, hC]
        have x2' : r p 2 = rk (wg (sB N u) (fun p => clM Y B t gl 2 p (t.1 (Y 55) p))) p N := by rw [hr, hC]
        rw [← x0', ← x1', ← x2', b.1] at e
        have rl : r p (bl (r p)) ≤ N := by rw [hr]; exact rk_le N
        refine ⟨3 * r p (bl (r p)) + bl (r p), by rw [e]; omega, by omega, ?_⟩
        rw [hf]
        show (3 * r p (bl (r p)) + bl (r p)) % 3 = bl (r p)
        omega
      have VF := fun (x : Int32) (law : Nat) (hx' : x.toInt = law) => cVotes (x0 := x0) (td := td9) (sh := sh) (z := z) c2 ⟨by rw [rc, xr, q1]; exact g3, (rx tc rc).2.1, (rx tc rc).2.2⟩ c6 sc hx'
      obtain ⟨y0, u0, v0⟩ := VF 0 0 z0
      obtain ⟨y1, u1, v1'⟩ := VF 1 1 (by decide)
      obtain ⟨y2, u2, v2'⟩ := VF 2 2 (by decide)
      rw [cast] at f1
      have p12 : (1 : Int32) + 1 = 2 := by decide
      have p23 : (2 : Int32) + 1 = 3 := by decide
      have F1 : v1.toInt = if p.toInt = 0 then (vb (fun k => vc (sB N u) f k N) : Int) else vc (sB N u) f (vb (fun k => vc (sB N u) f k N)) N := by
        have fin : ∀ (y : Int32) (k : Nat) (yk : Int32), y.toInt = k → F_X10_votesFor x0 y tc = (yk, tc) → yk.toInt = vc (sB N u) f k N → k = vb (fun k => vc (sB N u) f k N) → (F_X10_vote_36 x0 p (9997 + 1) 3 y tc).1.toInt = if p.toInt = 0 then (vb (fun k => vc (sB N u) f k N) : Int) else vc (sB N u) f (vb (fun k => vc (sB N u) f k N)) N := fun y k yk hy hk h3 e => by
          rw [F_X10_vote_36]
          simp only [↓zlt, ↓zlt2, hk]
          rw [if_neg (show ¬ (3 : Int32).toInt < (3 : Int32).toInt by decide), ← e]
          by_cases p0 : p.toInt = 0
          · rw [if_pos p0, if_pos p0]
            exact hy
          · rw [if_neg p0, if_neg p0]
            exact h3
        rw [show v1 = _ from congrArg Prod.fst f1, show (10000 : Nat) = 9997 + 1 + 1 + 1 from rfl, F_X10_vote_36]
        simp only [↓zlt, ↓zlt2, u0, u1, p12]
        rw [if_pos (show (1 : Int32).toInt < (3 : Int32).toInt by decide)]
        by_cases g1 : vc (sB N u) f 0 N < vc (sB N u) f 1 N
        · rw [if_pos (show y0.toInt < y1.toInt by omega), F_X10_vote_36]
          simp only [↓zlt, ↓zlt2, u1, u2, p23]
          rw [if_pos (show (2 : Int32).toInt < (3 : Int32).toInt by decide)]
          by_cases g2 : vc (sB N u) f 1 N < vc (sB N u) f 2 N
          · rw [if_pos (show y1.toInt < y2.toInt by omega)]
            exact fin 2 2 y2 (by decide) u2 v2' (by unfold vb; rw [if_pos g1, if_pos g2])
          · rw [if_neg (show ¬ y1.toInt < y2.toInt by omega)]
            exact fin 1 1 y1 (by decide) u1 v1' (by unfold vb; rw [if_pos g1, if_neg g2])
        · rw [if_neg (show ¬ y0.toInt < y1.toInt by omega), F_X10_vote_36]
          simp only [↓zlt, ↓zlt2, u0, u2, p23]
          rw [if_pos (show (2 : Int32).toInt < (3 : Int32).toInt by decide)]
          by_cases g2 : vc (sB N u) f 0 N < vc (sB N u) f 2 N
          · rw [if_pos (show y0.toInt < y2.toInt by omega)]
            exact fin 2 2 y2 (by decide) u2 v2' (by unfold vb; rw [if_neg g1, if_pos g2])
          · rw [if_neg (show ¬ y0.toInt < y2.toInt by omega)]
            exact fin 0 0 y0 (by decide) u0 v0 (by unfold vb; rw [if_neg g1, if_neg g2])
      -- the reference
      have tr : t.2.2 = σ2.2.2 := by
        have k := (zCopies2 hJ hm).1
        rw [ht, k]
      obtain ⟨z9, hz9⟩ : ∃ z9, z9 = mR σ2 m0 59 := ⟨_, rfl⟩
      have g9 : (t.2.2 m0 59).getD 0 = z9 := by rw [tr, hz9]
      have k59 : zf 0 11 59 = some (100 + 59) := rfl
      have zy : ∀ j, zYj j → ¬ Y j = z9 := fun j hj => by
        rw [hz9, hY]
        exact mR_ne hJ hm (zYj_k hj).1 k59 (by unfold zYj at hj; omega)
      have zm : ¬ m0 = z9 := fun e => mR_m hJ hm k59 (by decide) (by rw [← hz9]; exact e.symm)
      have w0 : (0 : Int32).toNatClampNeg = 0 := by decide
      have w1 : (1 : Int32).toNatClampNeg = 1 := by decide
      have w2 : (2 : Int32).toNatClampNeg = 2 := by decide
      have p01 : (0 : Int32) + 1 = 1 := by decide
      obtain ⟨x, hxx⟩ : ∃ x : zS, x = (zu (zu (zu t.1 z9 0 0) z9 1 0) z9 2 0, t.2.1, t.2.2) := ⟨_, rfl⟩
      have start : F_X11_vote_27 m0 p 10000 0 t = F_X11_vote_47 m0 p (F_X11_vote_27 m0 p 9996) 10000 1 x := by
        rw [hxx, show (10000 : Nat) = 9996 + 1 + 1 + 1 + 1 from rfl, F_X11_vote_27]
        simp only [↓zlt, g9, w0, p01]
        rw [if_pos (show (0 : Int32).toInt < (3 : Int32).toInt by decide), F_X11_vote_27]
        simp only [↓zlt, g9, w1, p12]
        rw [if_pos (show (1 : Int32).toInt < (3 : Int32).toInt by decide), F_X11_vote_27]
        simp only [↓zlt, g9, w2, p23]
        rw [if_pos (show (2 : Int32).toInt < (3 : Int32).toInt by decide), F_X11_vote_27]
        simp only [↓zlt]
        rw [if_neg (show ¬ (3 : Int32).toInt < (3 : Int32).toInt by decide)]
      have fx : zFr (fun c _ => c = z9) t x := by
        rw [hxx]
        exact ((zFr.id.w (r := z9) (j := 0) (v := (0 : Int32)) rfl).w (r := z9) (j := 1) (v := (0 : Int32)) rfl).w (r := z9) (j := 2) (v := (0 : Int32)) rfl
      have F2 := mVoteL (p := p) (kA := F_X11_vote_27 m0 p 9996) S Dn zy zm g9 cC rC' (f := f) (fun P sP => by rw [hf, hr]) 10000 1 1 x (by decide) (by omega) (Or.inr rfl) (by omega) (S.fz2 zy zm fx) (Dn.fz2 zy fx) fx.rf (funext (fun j => fx.2 _ j (zy 55 (by unfold zYj; omega)))) (fun k hk => by
        rw [vc_1, hxx]
        show (zu (zu (zu t.1 z9 0 0) z9 1 0) z9 2 0 z9 k).toInt = _
        rcases (show k = 0 ∨ k = 1 ∨ k = 2 by omega) with rfl | rfl | rfl
        · rw [zu_j _ _ _ _ _ (by decide), zu_j _ _ _ _ _ (by decide), zu_s]
          decide
        · rw [zu_j _ _ _ _ _ (by decide), zu_s]
          decide
        · rw [zu_s]
          decide)
      rw [start] at f2
      rw [F1, show v2 = _ from congrArg Prod.fst f2, F2]
  · rw [if_pos c] at f1 f2
    rw [(zPr2 f1).1, (zPr2 f2).1]
end NOW4
section RP4
variable {κ : Int} {L1 : List Nat} {kd1 : Nat → Nat} {L2 : List Nat} {kd2 : Nat → Nat} {σ1 σ2 τ1 τ2 : zS} {m0 x0 : Nat} {v1 v2 p q r : Int32}
theorem zRP.vote (h : zRP κ L1 kd1 L2 kd2 x0 m0 σ1 σ2) (hI : zI κ 0 L1 kd1 σ1) (hJ : zJ κ L2 kd2 σ2) (hx : zT L1 kd1 x0 10) (hm : zT L2 kd2 m0 11) (hg : gN m0 σ2) (f1 : (v1, τ1) = F_X10_vote x0 p σ1) (f2 : (v2, τ2) = F_X11_vote m0 p σ2) : v1.toInt = v2.toInt := by
  obtain ⟨V, ps, pc, sl, rv, sh, cd, hR⟩ := h.2.2
  exact hR.vote h.2.1 h.1.2 hx hI hJ hm hg f1 f2
end RP4
end
-- 35y19.lw52
section
/-! ANSWERS OF NOW: main -/
/-- of those that run into c the one of which most flows, the first of them; -1: none -/
def gi (u : Nat → Nat) (F : Nat → Int32) (c : Nat) : Nat → Int
  | 0 => -1
  | i + 1 => if 1 ≤ i ∧ u i = c ∧ (gi u F c i < 0 ∨ (F (gi u F c i).toNat).toInt < (F i).toInt) then i else gi u F c i
section GI
variable {u : Nat → Nat} {F G : Nat → Int32} {c : Nat}
theorem gi_y {i : Nat} (h : 1 ≤ i ∧ u i = c ∧ (gi u F c i < 0 ∨ (F (gi u F c i).toNat).toInt < (F i).toInt)) : gi u F c (i + 1) = i := by rw [gi, if_pos h]
theorem gi_n {i : Nat} (h : ¬ (1 ≤ i ∧ u i = c ∧ (gi u F c i < 0 ∨ (F (gi u F c i).toNat).toInt < (F i).toInt))) : gi u F c (i + 1) = gi u F c i := by rw [gi, if_neg h]
theorem gi_1 : gi u F c 1 = -1 := by
  rw [gi_n (by omega)]
  rfl
theorem gi_r : ∀ i, gi u F c i = -1 ∨ ∃ p : Nat, p < i ∧ 1 ≤ p ∧ gi u F c i = p := by
  intro i
  induction i with
  | zero => exact Or.inl rfl
  | succ i ih =>
    by_cases h : 1 ≤ i ∧ u i = c ∧ (gi u F c i < 0 ∨ (F (gi u F c i).toNat).toInt < (F i).toInt)
    · rw [gi_y h]
      exact Or.inr ⟨i, by omega, h.1, rfl⟩
    · rw [gi_n h]
      rcases ih with e | ⟨p, p1, p2, p3⟩
      · exact Or.inl e
      · exact Or.inr ⟨p, by omega, p2, p3⟩
theorem gi_cg : ∀ n, (∀ i, i < n → G i = F i) → gi u G c n = gi u F c n := by
  intro n
  induction n with
  | zero => intro _; rfl
  | succ n ih =>
    intro h
    have e := ih (fun i hi => h i (by omega))
    rw [gi, gi, e, h n (by omega)]
    rcases gi_r (u := u) (F := F) (c := c) n with k | ⟨p, p1, p2, p3⟩
    · have : gi u F c n < 0 := by omega
      simp only [this, true_or]
    · rw [p3, show ((p : Int)).toNat = p by omega, h p (by omega)]
theorem gi_N {N : Nat} : gi u F c (if 1 ≤ N then N else 1) = gi u F c N := by
  split
  · rfl
  · rw [show N = 0 by omega, gi_1]
    rfl
end GI
section MAINR
variable {q Y : Nat → Nat} {a b N : Nat} {s t : zS} {g : zGl} {u l : Nat → Nat}
theorem cInto {x0 td : Nat} (S : zSd q Y a b N g u l s t) (rx : (s.2.2 x0 2).getD 0 = q 0 ∧ (s.2.2 x0 10).getD 0 = td ∧ (s.2.2 x0 6).getD 0 = q 4) (n0 : (s.1 td 0).toInt = N) {x : Int32} {c : Nat} (hx : x.toInt = c) : ∃ v, F_X10_greatestInto x0 x s = (v, s) ∧ v.toInt = gi u (fun p => s.1 (q 6) p) c N := by
  have hN := S.1.2.2.2.1
  have g6 : (s.2.2 (q 0) 3).getD 0 = q 6 := S.1.1.1.1.2.2.2.2.2.1
  have g19 : (s.2.2 (q 4) 0).getD 0 = q 19 := S.1.1.1.2.2.2.2.1
  have em : (-1 : Int32).toInt = -1 := by decide
  have lp : ∀ (n : Nat) (y z : Int32) (i : Nat), y.toInt = i → 1 ≤ i → (i ≤ N ∨ i = 1) → 13 - i < n → z.toInt = gi u (fun p => s.1 (q 6) p) c i → ∃ v, F_X10_greatestInto_4 x0 x n y z s = (v, s) ∧ v.toInt = gi u (fun p => s.1 (q 6) p) c (if 1 ≤ N then N else 1) := by
    intro n
    induction n with
    | zero => intro y z i _ _ _ h; exact absurd h (by omega)
    | succ n ih =>
      intro y z i hy hi hi2 hn hz
      have ny : y.toNatClampNeg = i := by rw [ztn, hy]; rfl
      rw [F_X10_greatestInto_4]
      simp only [↓zlt, rx.1, rx.2.1, rx.2.2, g6, g19, ny, em]
      by_cases d : i < N
      · rw [if_pos (by omega)]
        have y1 := zp1 hy (by omega)
        have hu := S.1.2.2.2.2.2.1 i hi d
        by_cases e : u i = c
        · rw [if_pos (show (s.1 (q 19) i).toInt = x.toInt by omega)]
          rcases gi_r (u := u) (F := fun p => s.1 (q 6) p) (c := c) i with k | ⟨p, p1, p2, p3⟩
          · rw [if_pos (show z.toInt = -1 by omega)]
            exact ih _ _ (i + 1) y1 (by omega) (by omega) (by omega) (by rw [gi_y ⟨hi, e, Or.inl (by omega)⟩]; exact hy)
          · rw [if_neg (show ¬ z.toInt = -1 by omega)]
            have nz : z.toNatClampNeg = p := by rw [ztn, hz, p3]; rfl
            rw [nz]
            by_cases f : (s.1 (q 6) p).toInt < (s.1 (q 6) i).toInt
            · rw [if_pos f]
              exact ih _ _ (i + 1) y1 (by omega) (by omega) (by omega) (by rw [gi_y ⟨hi, e, Or.inr (by rw [p3, show ((p : Int)).toNat = p by omega]; exact f)⟩]; exact hy)
            · rw [if_neg f]
              exact ih _ _ (i + 1) y1 (by omega) (by omega) (by omega) (by
                rw [gi_n (fun k => by
                  rcases k.2.2 with k | k
                  · omega
                  · rw [p3, show ((p : Int)).toNat = p by omega] at k
                    exact f k)]
                exact hz)
        · rw [if_neg (show ¬ (s.1 (q 19) i).toInt = x.toInt by omega)]
          exact ih _ _ (i + 1) y1 (by omega) (by omega) (by omega) (by rw [gi_n (fun k => e k.2.1)]; exact hz)
      · rw [if_neg (by omega)]
        refine ⟨z, rfl, ?_⟩
        rw [hz]
        congr 1
        split <;> omega
  unfold F_X10_greatestInto
  simp only [zlt]
  obtain ⟨v, e1, e2⟩ := lp 10000 1 (-1) 1 (by decide) (by omega) (Or.inr rfl) (by omega) (by rw [gi_1]; exact em)
  exact ⟨v, e1, by rw [e2, gi_N]⟩
theorem mInto (S : zSd q Y a b N g u l s t) {x10 x p : Int32} {c : Nat} (hx : x.toInt = c) {k : Int32 → Int32 → zS → Int32 × zS} : ∀ (n : Nat) (y z : Int32) (i : Nat), y.toInt = i → 1 ≤ i → (i ≤ N ∨ i = 1) → 13 - i < n → z.toInt = gi u (fun p => t.1 (Y 55) p) c i → ∃ v, v.toInt = gi u (fun p => t.1 (Y 55) p) c (if 1 ≤ N then N else 1) ∧ F_X11_main_32 x10 x a p k n y z t = if v.toInt < 0 then (-1, t) else k (x10 + (1 : Int32)) v t := by
  have hN := S.1.2.2.2.1
  have M := S.2.1.2.2.2.2.1
  have g55 := (S.2.1.1.1 55 (by unfold zYj; omega)).1
  have g49 := (S.2.1.1.1 49 (by unfold zYj; omega)).1
  intro n
  induction n with
  | zero => intro y z i _ _ _ h; exact absurd h (by omega)
  | succ n ih =>
    intro y z i hy hi hi2 hn hz
    have ny : y.toNatClampNeg = i := by rw [ztn, hy]; rfl
    rw [F_X11_main_32]
    simp only [↓zlt, g55, g49, ny]
    by_cases d : i < N
    · rw [if_pos (show y.toInt < (F_X11_many a t).toInt by omega)]
      have y1 := zp1 hy (by omega)
      have hu := S.2.1.2.2.2.2.2.1 i hi d
      by_cases e : u i = c
      · rw [if_pos (show (t.1 (Y 49) i).toInt = x.toInt by omega)]
        rcases gi_r (u := u) (F := fun p => t.1 (Y 55) p) (c := c) i with k | ⟨p, p1, p2, p3⟩
        · rw [if_pos (show z.toInt < 0 by omega)]
          exact ih _ _ (i + 1) y1 (by omega) (by omega) (by omega) (by rw [gi_y ⟨hi, e, Or.inl (by omega)⟩]; exact hy)
        · rw [if_neg (show ¬ z.toInt < 0 by omega)]
          have nz : z.toNatClampNeg = p := by rw [ztn, hz, p3]; rfl
          rw [nz]
          by_cases f : (t.1 (Y 55) p).toInt < (t.1 (Y 55) i).toInt
          · rw [if_pos f]
            exact ih _ _ (i + 1) y1 (by omega) (by omega) (by omega) (by rw [gi_y ⟨hi, e, Or.inr (by rw [p3, show ((p : Int)).toNat = p by omega]; exact f)⟩]; exact hy)
          · rw [if_neg f]
            exact ih _ _ (i + 1) y1 (by omega) (by omega) (by omega) (by
              rw [gi_n (fun k => by
                rcases k.2.2 with k | k
                · omega
                · rw [p3, show ((p : Int)).toNat = p by omega] at k
                  exact f k)]
              exact hz)
      · rw [if_neg (show ¬ (t.1 (Y 49) i).toInt = x.toInt by omega)]
        exact ih _ _ (i + 1) y1 (by omega) (by omega) (by omega) (by rw [gi_n (fun k => e k.2.1)]; exact hz)
    · rw [if_neg (show ¬ y.toInt < (F_X11_many a t).toInt by omega)]
      refine ⟨z, ?_, rfl⟩
      rw [hz]
      congr 1
      split <;> omega
theorem mainL {x0 td : Nat} (S : zSd q Y a b N g u l s t) (FL : ∀ p, p < N → s.1 (q 6) p = t.1 (Y 55) p) (rx : (s.2.2 x0 2).getD 0 = q 0 ∧ (s.2.2 x0 10).getD 0 = td ∧ (s.2.2 x0 6).getD 0 = q 4) (n0 : (s.1 td 0).toInt = N) {p : Int32} : ∀ (n : Nat) (x y : Int32) (c : Nat), y.toInt = c → 0 ≤ x.toInt → p.toInt - x.toInt < (n : Int) → 0 < n → (F_X10_main_21 x0 p n x y s).1.toInt = (F_X11_main_21 a p n x y t).1.toInt := by
  have em : (-1 : Int32).toInt = -1 := by decide
  have o1 : (1 : Int32).toInt = 1 := by decide
  intro n
  induction n with
  | zero => intro x y c _ _ _ h; exact absurd h (by omega)
  | succ n ih =>
    intro x y c hy hx hn _
    have bp := zb_rng p
    rw [F_X10_main_21, F_X11_main_21]
    simp only [↓zlt, ↓zlt2, em]
    by_cases d : x.toInt < p.toInt
    · rw [if_pos d, if_pos d, if_neg (show ¬ y.toInt = -1 by omega)]
      have x1 : (x + (1 : Int32)).toInt = x.toInt + 1 := by rw [zb_add (by rw [o1]; omega) (by rw [o1]; omega), o1]
      obtain ⟨v, e1, e2⟩ := cInto S rx n0 hy
      obtain ⟨w, f1, f2⟩ := mInto (x10 := x) (p := p) (k := F_X11_main_21 a p n) S hy 10000 1 (-1) 1 (by decide) (by omega) (Or.inr rfl) (by omega) (by rw [gi_1]; exact em)
      rw [gi_N] at f1
      have vw : v.toInt = w.toInt := by
        rw [e2, f1]
        exact gi_cg N FL
      have ew : v = w := Int32.toInt_inj.mp vw
      rw [e1, f2]
      simp only
      have n1 : 0 < n := by omega
      rcases gi_r (u := u) (F := fun p => t.1 (Y 55) p) (c := c) N with k | ⟨P, p1, p2, p3⟩
      · rw [if_pos (show w.toInt < 0 by omega)]
        obtain ⟨m, rfl⟩ : ∃ m, n = m + 1 := ⟨n - 1, by omega⟩
        rw [F_X10_main_21]
        simp only [↓zlt, ↓zlt2, em]
        have ev : v.toInt = -1 := by omega
        rw [if_pos ev]
        split <;> exact ev.trans em.symm
      · rw [if_neg (show ¬ w.toInt < 0 by omega), ew]
        exact ih _ _ P (by omega) (by omega) (by omega) n1
    · rw [if_neg d, if_neg d]
end MAINR
section NOW5
variable {κ : Int} {L1 : List Nat} {kd1 : Nat → Nat} {L2 : List Nat} {kd2 : Nat → Nat} {σ1 σ2 τ1 τ2 s t : zS} {m0 x0 : Nat} {V : zWh} {ps pc sl rv sh cd : Nat} {v1 v2 p k : Int32}
theorem zRL.main (h : zRL zQw L1 kd1 x0 m0 V ps pc sl rv sh cd σ1 σ2) (hw : 0 < zM m0 σ2 → zLw x0 m0 σ1 σ2) (hl : zLen x0 m0 σ1 σ2) (hx : zT L1 kd1 x0 10) (hI : zI κ 0 L1 kd1 σ1) (hJ : zJ κ L2 kd2 σ2) (hm : zT L2 kd2 m0 11) (hg : gN m0 σ2) (f1 : (v1, τ1) = F_X10_main x0 p σ1) (f2 : (v2, τ2) = F_X11_main m0 p σ2) : v1.toInt = v2.toInt := by
  obtain ⟨td, B, N, gl, u, l, q, Y, d1, n2, eL, xr, ⟨hq, hY⟩, ⟨S, Dn, FL, RN⟩, -, -⟩ := h.now hw hl hx hI hJ hm hg
  have hV := h.2.1
  have hL := h.1
  have e0 : (0 : Int32).toInt = 0 := by decide
  have g10 : (σ1.2.2 x0 10).getD 0 = td := by rw [d1]; rfl
  have g6 : (σ1.2.2 x0 6).getD 0 = V.1 0 := by rw [hL.1.1]; rfl
  obtain ⟨td9, d9, t9⟩ := zi_ref (j := 10) (k2 := 9) hI hx (by rfl)
  obtain rfl : td9 = td := Option.some.inj (d9.symm.trans d1)
  obtain ⟨N', -, -, ⟨n3, n4, -⟩, -⟩ := h.2.2
  rw [g10] at n3
  have LE := h.lookE hl hx hI hJ hm hg td9 9 t9 (by omega)
  have hM : F_X10_hasMouth x0 σ1 = (if 0 < (σ1.1 td9 0).toInt then 1 else 0, σ1) := by
    unfold F_X10_hasMouth
    simp only [zlt, g10]
    split <;> rfl
  unfold F_X10_main at f1
  unfold F_X11_main at f2
  simp only [zlt, zlt2, hM, mMany, n2] at f1 f2
  by_cases hN : 0 < N
  · rw [if_pos (show 0 < (σ1.1 td9 0).toInt by omega), if_neg (by decide)] at f1
    by_cases A : p.toInt < 0
    · rw [if_pos A] at f1 f2
      rw [(zPr2 f1).1, (zPr2 f2).1]
    · rw [if_neg A] at f1 f2
      rw [if_neg (show ¬ (N : Int) = 0 by omega)] at f2
      have bp := zb_rng p
      have q0 : q 0 = rv := by rw [hq]; rfl
      have q4 : q 4 = V.1 0 := by rw [hq]; rfl
      have L := mainL (x0 := x0) (td := td9) (p := p) S (fun p hp => (FL p hp).1) ⟨by rw [xr, q0]; exact xrv hV, by rw [xr]; exact g10, by rw [xr, q4]; exact g6⟩ (by rw [LE]; omega) 4294967299 0 0 0 e0 (by omega) (by omega) (by omega)
      rw [show v1 = _ from congrArg Prod.fst f1, show v2 = _ from congrArg Prod.fst f2]
      exact L
  · rw [if_neg (show ¬ 0 < (σ1.1 td9 0).toInt by omega), if_pos (by decide)] at f1
    rw [(zPr2 f1).1]
    by_cases A : p.toInt < 0
    · rw [if_pos A] at f2
      rw [(zPr2 f2).1]
    · rw [if_neg A, if_pos (show (N : Int) = 0 by omega)] at f2
      rw [(zPr2 f2).1]
theorem zRP.main (h : zRP κ L1 kd1 L2 kd2 x0 m0 σ1 σ2) (hI : zI κ 0 L1 kd1 σ1) (hJ : zJ κ L2 kd2 σ2) (hx : zT L1 kd1 x0 10) (hm : zT L2 kd2 m0 11) (hg : gN m0 σ2) (f1 : (v1, τ1) = F_X10_main x0 p σ1) (f2 : (v2, τ2) = F_X11_main m0 p σ2) : v1.toInt = v2.toInt := by
  obtain ⟨V, ps, pc, sl, rv, sh, cd, hR⟩ := h.2.2
  exact hR.main h.2.1 h.1.2 hx hI hJ hm hg f1 f2
end NOW5
end
-- 35y20.lw53
section
/-! THE REFERENCE COPIES once more, behind what it has looked at -/
section MFAR2
variable {L : List Nat} {kd : Nat → Nat} {m0 N B : Nat} {FR SR : Nat → Int32} {σ ρ : zS} {κ : Int}
set_option maxHeartbeats 1000000 in
theorem mShpT (hJ : zJ κ L kd σ) (hm : zT L kd m0 11) (h2 : ρ.2 = σ.2) (hρ : zFr (zFm [50, 51, 47] [49, 54, 52, 53, 45, 46, 55] m0 σ.2.2) σ ρ) (hM : zM m0 σ = N) (hN : N ≤ 12) (hr : zRow N (σ.1 (mR σ m0 48))) (hB : (σ.1 m0 18).toInt = B) (hB1 : B ≤ 1) (F0 : FR 0 = 0) (S0 : SR 0 = 0) (hF : ∀ c, 1 ≤ c → c < N → FR c = FR (uOf (σ.1 (mR σ m0 48)) c) + σ.1 (mR σ m0 23) (12 * B + c)) (hS : ∀ c, 1 ≤ c → c < N → SR c = SR (uOf (σ.1 (mR σ m0 48)) c) + (1 : Int32)) : zShM N (uOf (σ.1 (mR σ m0 48))) FR SR m0 σ (F_X11_copies m0 ρ) := by
  have hS7 : ([49, 54, 52, 53, 45, 46, 55] : List Nat).all (fun t => zf 0 11 t == some (100 + t)) = true := by rfl
  have r48 : ρ.1 (mR σ m0 48) = σ.1 (mR σ m0 48) := zFm.row hJ hm hρ (s := 48) (by rfl) hS7 (by rfl)
  obtain ⟨C2', C3'⟩ := zCopies3 hJ hm h2
  have C1 : (F_X11_copies m0 ρ).2 = σ.2 := C3'.1.trans h2
  have C2 : ∀ j, j < 50 → (F_X11_copies m0 ρ).1 (mR σ m0 49) j = σ.1 (mR σ m0 48) j := fun j hj => by rw [C2' j hj, r48]
  have C3 := hρ.tr C3'
  obtain ⟨s, hs⟩ : ∃ s, s = zCp m0 σ ρ := ⟨_, rfl⟩
  have hc : F_X11_copies m0 ρ = F_X11_fillsFlows m0 0 (F_X11_fillsWays m0 s) := by rw [zCopies hJ hm h2, hs]
  have rm : mR σ m0 49 ≠ m0 := mR_m hJ hm (s := 49) (k := 149) (by rfl) (by decide)
  have s2 : s.2 = σ.2 := by rw [hs]; rfl
  have rs : s.2.2 = σ.2.2 := by rw [s2]
  have row : ∀ j, j < 50 → s.1 (mR σ m0 49) j = σ.1 (mR σ m0 48) j := fun j hj => by
    rw [hs]
    show zu (zu (zcf ρ.1 (mR σ m0 49) (mR σ m0 48) 0 0 0 50) m0 50 _) m0 51 0 (mR σ m0 49) j = _
    rw [zu_n _ _ _ rm, zu_n _ _ _ rm, zcf_i ⟨by omega, by omega⟩, ← r48]
    exact congrArg _ (by omega)
  have base : zFr (zFm [50, 51, 47] [49, 54, 52, 53, 45, 46, 55] m0 σ.2.2) σ (zcf ρ.1 (mR σ m0 49) (mR σ m0 48) 0 0 0 50, σ.2.1, σ.2.2) := ⟨rfl, fun c j n => (congrFun (zcf_n (fun z => n (Or.inr ⟨49, by decide, z⟩))) j).trans (hρ.2 c j n)⟩
  have gs : zFr (zFm [50, 51, 47] [49, 54, 52, 53, 45, 46, 55] m0 σ.2.2) σ s := by
    rw [hs]
    exact (base.w (j := 50) (zFm.f (by rfl))).w (j := 51) (zFm.f (by rfl))
  have hMs : (F_X11_many m0 s).toInt = N := by rw [mMany_g hJ hm gs (by rfl) (by rfl) (by rfl), hM]
  have s18 : s.1 m0 18 = σ.1 m0 18 := zFm.fld hJ hm gs (by rfl) (by rfl)
  have s23 : s.1 (mR σ m0 23) = σ.1 (mR σ m0 23) := zFm.row hJ hm gs (s := 23) (by rfl) (by rfl) (by rfl)
  obtain ⟨t, ht⟩ : ∃ t, t = F_X11_fillsWays m0 s := ⟨_, rfl⟩
  have gt : zFr (zFm [] [54, 52, 53] m0 s.2.2) s t := by rw [ht]; exact fr_X11_fillsWays zFr.id (zFm.s rfl) (zFm.s rfl) (zFm.s rfl)
  have rt : t.2.2 = σ.2.2 := by rw [gt.rf, rs]
  have g2 : zFr (zFm [47] [45, 46, 55] m0 σ.2.2) t (F_X11_fillsFlows m0 0 t) := fr_X11_fillsFlows zFr.id (by rw [rt]; exact zFm.s rfl) (zFm.f rfl) (by rw [rt]; exact zFm.s rfl) (by rw [rt]; exact zFm.s rfl)
  have fl : ∀ x, (x = 54 ∨ x = 52 ∨ x = 53) → ∀ j, (F_X11_copies m0 ρ).1 (mR σ m0 x) j = t.1 (mR σ m0 x) j := fun x hx j => by
    rw [hc, ← ht]
    have hz : zf 0 11 x = some (100 + x) := by rcases hx with rfl | rfl | rfl <;> rfl
    refine g2.2 _ _ ?_
    rintro (⟨e, -⟩ | ⟨y, hy, e⟩)
    · exact mR_m hJ hm hz (by omega) e
    · have h2 : zf 0 11 y = some (100 + y) ∧ y ≠ x := by
        simp only [List.mem_cons, List.not_mem_nil, or_false] at hy
        rcases hy with rfl | rfl | rfl <;> exact ⟨by rfl, by omega⟩
      exact mR_ne hJ hm hz h2.1 (by omega) e
  have e2 : t = F_X11_fillsWays_2 m0 10000 0 s := by
    rw [ht]
    unfold F_X11_fillsWays
    simp only [zlt]
  have ne : ∀ {x y : Nat}, zf 0 11 x = some (100 + x) → zf 0 11 y = some (100 + y) → x ≠ y → mR σ m0 x ≠ mR σ m0 y := fun h1 h2 h3 => mR_ne hJ hm h1 h2 (by omega)
  have nm : ∀ {x : Nat}, zf 0 11 x = some (100 + x) → m0 ≠ mR σ m0 x := fun {x} h1 z => by
    have h3 := zf_100 h1
    exact mR_m hJ hm h1 h3 z.symm
  have g : ∀ x, (s.2.2 m0 x).getD 0 = mR σ m0 x := fun x => by rw [rs]
  have many : ∀ τ, zFr (zAw (mR σ m0 54) (mR σ m0 52) (mR σ m0 53)) s τ → (F_X11_many m0 τ).toInt = N := fun τ h => by
    rw [← hMs]
    unfold F_X11_many
    simp only [zlt]
    rw [h.rf, g 21]
    rw [h.2 m0 18 (fun z => z.elim (nm (by rfl)) (fun z => z.elim (nm (by rfl)) (nm (by rfl))))]
    rw [h.2 (mR σ m0 21) _ (fun z => z.elim (ne (by rfl) (by rfl) (by decide)) (fun z => z.elim (ne (by rfl) (by rfl) (by decide)) (ne (by rfl) (by rfl) (by decide))))]
  have hrs : zRow N (s.1 (mR σ m0 49)) := hr.cg (fun c _ c2 => row c (by omega))
  have ue : ∀ c, 1 ≤ c → c < N → uOf (s.1 (mR σ m0 49)) c = uOf (σ.1 (mR σ m0 48)) c := uOf_cg (fun c _ c2 => row c (by omega))
  obtain ⟨-, Q⟩ := mWay3 (s := s) (m0 := m0) (ne (x := 54) (y := 52) (by rfl) (by rfl) (by decide)) (ne (x := 54) (y := 53) (by rfl) (by rfl) (by decide)) (ne (x := 49) (y := 54) (by rfl) (by rfl) (by decide)) (ne (x := 49) (y := 52) (by rfl) (by rfl) (by decide)) (ne (x := 49) (y := 53) (by rfl) (by rfl) (by decide)) (g 54) (g 52) (g 53) (g 49) hrs hN many 10000 0 0 s (by decide) (by omega) (by omega) zFr.id (fun t ht => absurd ht (by omega))
  have W := mFar3 (s := s) (m0 := m0) (B := B) (FR := FR) (SR := SR) (ne (x := 54) (y := 52) (by rfl) (by rfl) (by decide)) (ne (x := 54) (y := 53) (by rfl) (by rfl) (by decide)) (ne (x := 52) (y := 53) (by rfl) (by rfl) (by decide)) (ne (x := 49) (y := 54) (by rfl) (by rfl) (by decide)) (ne (x := 49) (y := 52) (by rfl) (by rfl) (by decide)) (ne (x := 49) (y := 53) (by rfl) (by rfl) (by decide)) (ne (x := 23) (y := 54) (by rfl) (by rfl) (by decide)) (ne (x := 23) (y := 52) (by rfl) (by rfl) (by decide)) (ne (x := 23) (y := 53) (by rfl) (by rfl) (by decide)) (nm (x := 54) (by rfl)) (nm (x := 52) (by rfl)) (nm (x := 53) (by rfl)) (g 54) (g 52) (g 53) (g 49) (g 23) (by rw [s18]; exact hB) hB1 hrs F0 S0 (fun c c1 c2 => by rw [ue c c1 c2, s23]; exact hF c c1 c2) (fun c c1 c2 => by rw [ue c c1 c2]; exact hS c c1 c2) hN many 10000 0 0 s (by decide) (by omega) (by omega) zFr.id
  rw [← e2] at Q W
  refine ⟨C1, fun p j hp hj => ?_, fun p hp => ?_, C2, C3⟩
  · rw [fl 54 (by omega), Q p j hp hj]
    constructor
    · rintro (⟨h1, h2⟩ | ⟨-, h⟩)
      · exact ⟨h1, (An_cg hr.tr ue j h1 p).mp ((pa_An hrs hN h1).mp h2)⟩
      · exact h.elim
    · rintro ⟨h1, h2⟩
      exact Or.inl ⟨h1, (pa_An hrs hN h1).mpr ((An_cg hr.tr ue j h1 p).mpr h2)⟩
  · rw [fl 52 (by omega), fl 53 (by omega)]
    exact W p hp
end MFAR2
section LOOKB
variable {κ : Int} {L1 : List Nat} {kd1 : Nat → Nat} {L2 : List Nat} {kd2 : Nat → Nat} {σ1 σ2 ρ : zS} {m0 x0 : Nat} {Q : Nat → zCo → (Nat → Int32) → Prop} {V : zWh} {ps pc sl rv sh cd : Nat}
theorem zRL.lkT (hG : zGd Q) (h : zRL Q L1 kd1 x0 m0 V ps pc sl rv sh cd σ1 σ2) (hl : zLen x0 m0 σ1 σ2) (hx : zT L1 kd1 x0 10) (hI : zI κ 0 L1 kd1 σ1) (hJ : zJ κ L2 kd2 σ2) (hm : zT L2 kd2 m0 11) (hg : gN m0 σ2) (h2 : ρ.2 = σ2.2) (hρ : zFr (zFm [50, 51, 47] [49, 54, 52, 53, 45, 46, 55] m0 σ2.2.2) σ2 ρ) : ∃ (N : Nat) (u : Nat → Nat) (FR SR ℓ : Nat → Int32), (N ≤ 12 ∧ zM m0 σ2 = N ∧ (σ1.1 ((σ1.2.2 x0 10).getD 0) 0).toInt = N ∧ zTr N u) ∧ (FR 0 = 0 ∧ SR 0 = 0 ∧ (∀ c, 1 ≤ c → c < N → FR c = FR (u c) + ℓ c) ∧ (∀ c, 1 ≤ c → c < N → SR c = SR (u c) + (1 : Int32)) ∧ ∀ c, 1 ≤ c → c < N → 1 ≤ (ℓ c).toInt ∧ (ℓ c).toInt ≤ 99) ∧ (∀ c, 1 ≤ c → c < N → σ2.1 (mR σ2 m0 23) (12 * (σ2.1 m0 18).toInt.toNat + c) = ℓ c ∧ (σ2.1 (mR σ2 m0 48) c).toInt = u c) ∧ zShM N u FR SR m0 σ2 (F_X11_copies m0 ρ) := by
  obtain ⟨hL, hV, N, n, uu, ⟨a1, a2, a3, -⟩, hq, -⟩ := id h
  obtain ⟨r2, r1, er⟩ := h.rows hG hg a2 a3
  obtain ⟨td, d1, d2⟩ := zi_ref (j := 10) (k2 := 9) hI hx (by rfl)
  have gd : (σ1.2.2 x0 10).getD 0 = td := by rw [d1]; rfl
  obtain ⟨u, hu⟩ : ∃ u, u = uOf (σ2.1 (mR σ2 m0 48)) := ⟨_, rfl⟩
  have hT : zTr N u := by rw [hu]; exact r2.tr
  have r18 : 0 ≤ (σ2.1 m0 18).toInt ∧ (σ2.1 m0 18).toInt ≤ 1 := zj_get (j := 18) hJ hm (lo := 0) (hi := 1) (by rfl)
  obtain ⟨B, hB⟩ : ∃ B, B = (σ2.1 m0 18).toInt.toNat := ⟨_, rfl⟩
  obtain ⟨ℓ, hℓ⟩ : ∃ ℓ : Nat → Int32, ℓ = σ1.1 ((σ1.2.2 td 3).getD 0) := ⟨_, rfl⟩
  have hl' : ∀ c, 1 ≤ c → c < N → ℓ c = σ2.1 (mR σ2 m0 23) (12 * B + c) ∧ 1 ≤ (σ2.1 (mR σ2 m0 23) (12 * B + c)).toInt ∧ (σ2.1 (mR σ2 m0 23) (12 * B + c)).toInt ≤ 99 := fun c c1 c2 => by
    have := hl c c1 (by rw [a2]; omega)
    rw [gd, ← hB, ← hℓ] at this
    exact this
  obtain ⟨FR, F0, hF⟩ := hT.rec (0 : Int32) (fun c z => z + ℓ c)
  obtain ⟨SR, S0, hS⟩ := hT.rec (0 : Int32) (fun _ z => z + (1 : Int32))
  have u2 : ∀ c, 1 ≤ c → c < N → (σ2.1 (mR σ2 m0 48) c).toInt = u c := fun c c1 c2 => by rw [hu]; exact r2.u c1 c2
  rw [gd] at a1
  have M := mShpT (N := N) (B := B) (FR := FR) (SR := SR) hJ hm h2 hρ a2 a3 r2 (by omega) (by omega) F0 S0 (fun c c1 c2 => by rw [← hu, ← (hl' c c1 c2).1]; exact hF c c1 c2) (fun c c1 c2 => by rw [← hu]; exact hS c c1 c2)
  rw [← hu] at M
  refine ⟨N, u, FR, SR, ℓ, ⟨a3, a2, by rw [gd]; exact a1, hT⟩, ⟨F0, S0, hF, hS, fun c c1 c2 => ?_⟩, fun c c1 c2 => ⟨?_, u2 c c1 c2⟩, M⟩
  · obtain ⟨w1, w2, w3⟩ := hl' c c1 c2
    rw [w1]
    exact ⟨w2, w3⟩
  · rw [← hB]
    exact (hl' c c1 c2).1.symm
end LOOKB
section STANDS
variable {κ : Int} {L1 : List Nat} {kd1 : Nat → Nat} {L2 : List Nat} {kd2 : Nat → Nat} {σ1 σ2 s0 : zS} {m0 x0 : Nat} {Q : Nat → zCo → (Nat → Int32) → Prop} {V : zWh} {ps pc sl rv sh cd k : Nat}
theorem zSd.ofT (hG : zGd Q) (hQ : ∀ N c r, Q N c r → zQw N c r) (h : zRL Q L1 kd1 x0 m0 V ps pc sl rv sh cd σ1 σ2) (hw : 0 < zM m0 σ2 → zLw x0 m0 σ1 σ2) (hl : zLen x0 m0 σ1 σ2) (hx : zT L1 kd1 x0 10) (hI : zI κ 0 L1 kd1 σ1) (hJ : zJ κ L2 kd2 σ2) (hm : zT L2 kd2 m0 11) (hg : gN m0 σ2) {ρ : zS} (h2 : ρ.2 = σ2.2) (hρ : zFr (zFm [50, 51, 47] [49, 54, 52, 53, 45, 46, 55] m0 σ2.2.2) σ2 ρ) (gr : ∀ a j, ¬ (a = rv ∧ (j = 5 ∨ j = 6)) → s0.2.2 a j = σ1.2.2 a j) (he : ∀ c kc, zT L1 kd1 c kc → (kc = 9 ∨ (46 ≤ kc ∧ kc ≤ 51)) → s0.1 c = σ1.1 c) (hk : k < 45) (hcI : ∀ p, p < 12 → s0.1 (V.2.1 k) p = σ1.1 (V.2.1 0) p) (hcD : s0.1 (V.1 k) 3 = σ1.1 (V.1 0) 3) : ∃ (td B N : Nat) (gl : zGl) (u l : Nat → Nat) (q Y : Nat → Nat) (w t : zS), (q = qOf σ1.2.2 rv sh cd td V k ∧ Y = mR σ2 m0 ∧ w = F_X5_form rv td (V.1 k) s0 ∧ t = F_X11_copies m0 ρ) ∧ σ1.2.2 x0 10 = some td ∧ zM m0 σ2 = N ∧ zSd q Y m0 B N gl u l w t ∧ (∀ i, (i = 3 ∨ i = 4 ∨ i = 20 ∨ i = 21) → w.1 (q i) = s0.1 (q i)) ∧ (∀ j, j < 50 → t.1 (Y 49) j = σ2.1 (mR σ2 m0 48) j) ∧ (0 < N → zSo q Y B w t) ∧ (0 < N → t.1 m0 50 = σ1.1 td 13) ∧ (t.1 m0 51).toInt = 0 ∧ (zDn q Y N w t → ∀ p, p < N → (F_X5_fall (q 0) 0 w).1 (q 6) p = t.1 (Y 55) p) := by
  have g : zPv L1 kd1 V rv σ1 (σ1.1, s0.2) := ⟨gr, fun _ _ => rfl⟩
  obtain ⟨N, u, FR, SR, ℓ, ⟨n1, n2, n3, n4⟩, ⟨F0, S0, hF, hS, hℓ⟩, hb, hM⟩ := h.lkT hG hl hx hI hJ hm hg h2 hρ
  obtain ⟨hL, hV, N', n, uu, ⟨a1, a2, a3, -⟩, hq, -⟩ := id h
  obtain rfl : N' = N := by omega
  obtain ⟨td, d1, d2⟩ := zi_ref (j := 10) (k2 := 9) hI hx (by rfl)
  have gd : (σ1.2.2 x0 10).getD 0 = td := by rw [d1]; rfl
  have tr := zTt_k hI d2
  obtain ⟨B, w2⟩ : ∃ B, (σ2.1 m0 18).toInt.toNat = B := ⟨_, rfl⟩
  have hw' : ∃ (gl : zGl) (K : Nat), 0 < N' → ((σ1.1 td 8).toInt = K ∧ K ≤ 420) ∧ (∀ k, k < 5 → zLc ((σ1.2.2 td 6).getD 0) ((σ1.2.2 td 7).getD 0) ((σ1.2.2 td 9).getD 0) σ1 K k (gl k) ∧ zLm (mR σ2 m0) (420 * B) (130 * B) σ2 (420 * B + 420) (130 * B + 130) (5 * B + k) (gl k)) ∧ (∀ j p : Nat, 3 ≤ j → j ≤ 5 → (p : Int) < zM m0 σ2 → σ1.1 ((σ1.2.2 td j).getD 0) p = σ2.1 (mR σ2 m0 (20 + j)) (12 * B + p)) ∧ (∀ j : Nat, j < 4 → σ1.1 td (10 + j) = σ2.1 (mR σ2 m0 (26 + j)) B) ∧ 0 ≤ (σ1.1 td 11).toInt ∧ (σ1.1 td 11).toInt ≤ 99 := by
    by_cases z : 0 < N'
    · obtain ⟨td', B', K, gl, w1, w2', w3, w4, w5, w6, w7, w8⟩ := hw (by omega)
      have et' : td' = td := by rw [← w1, gd]
      have eB' : B' = B := by rw [← w2', w2]
      rw [et', eB'] at w4
      rw [et'] at w3 w5 w6 w7 w8
      rw [eB'] at w5 w6
      exact ⟨gl, K, fun _ => ⟨w3, w4, w5, w6, w7, w8⟩⟩
    · exact ⟨fun _ => none, 0, fun y => absurd y z⟩
  obtain ⟨gl, K, hw'⟩ := hw'
  obtain ⟨td', etd⟩ : ∃ td', td' = td := ⟨td, rfl⟩
  subst etd
  have w5 : ∀ j p : Nat, 3 ≤ j → j ≤ 5 → p < N' → σ1.1 ((σ1.2.2 td' j).getD 0) p = σ2.1 (mR σ2 m0 (20 + j)) (12 * B + p) := fun j p j1 j2 hp => by
    obtain ⟨-, -, x, -⟩ := hw' (by omega)
    exact x j p j1 j2 (by omega)
  have r18 : 0 ≤ (σ2.1 m0 18).toInt ∧ (σ2.1 m0 18).toInt ≤ 1 := zj_get (j := 18) hJ hm (lo := 0) (hi := 1) (by rfl)
  have hB : (σ2.1 m0 18).toInt = B := by omega
  have hB1 : B ≤ 1 := by omega
  have nB : (σ2.1 m0 18).toNatClampNeg = B := by rw [ztn, hB]; rfl
  rw [w2] at hb
  rw [gd] at a1
  have t1 : zT L1 kd1 rv 5 := hV.2.1.2.1
  have t2 : zT L1 kd1 sh 6 := hV.2.1.2.2.1
  have ntd : td' ≠ rv := zNk d2 t1 (by decide)
  have nsh : sh ≠ rv := zNk t2 t1 (by decide)
  have hL0 : zLay L1 kd1 x0 s0.2.2 V ps pc sl := zLay.pv (s := (σ1.1, s0.2)) hL t1 g
  have hV0 : zRv L1 kd1 x0 rv sh cd s0.2.2 := zRv.keep (s := (σ1.1, s0.2)) hV g
  have et : ∀ j, s0.2.2 td' j = σ1.2.2 td' j := fun j => g.1 td' j (fun z => ntd z.1)
  have es : ∀ j, s0.2.2 sh j = σ1.2.2 sh j := fun j => g.1 sh j (fun z => nsh z.1)
  have tl0 : zT L1 kd1 ((s0.2.2 td' 3).getD 0) 46 := by rw [et]; exact tr 3 (by decide) (by decide) (by decide)
  have Qk : zQw N' (zcc V σ1.1 0) (rC σ2.1 (mR σ2 m0 48) 0) := hQ _ _ _ hq
  have z22 : ∀ p, p < 12 → (zcc V σ1.1 0).1 p = s0.1 (V.2.1 k) p := fun p hp => (if_pos hp : zt12 _ p = _).trans (hcI p hp).symm
  have rc : ∀ j, j < 50 → rC σ2.1 (mR σ2 m0 48) 0 j = σ2.1 (mR σ2 m0 48) j := fun j hj => by rw [rC_i hj, Nat.zero_add]
  have hu : ∀ c, 1 ≤ c → c < N' → (s0.1 (V.2.1 k) c).toInt = u c := fun c c1 c2 => by
    rw [← z22 c (by omega), Qk.1.1 c c1 c2, rc c (by omega)]
    exact (hb c c1 c2).2
  have h0 : (s0.1 td' 0).toInt = N' := by rw [he td' 9 d2 (by omega)]; exact a1
  have hF' : ∀ c, 1 ≤ c → c < N' → FR c = FR (u c) + s0.1 ((s0.2.2 td' 3).getD 0) c := fun c c1 c2 => by
    rw [et, he _ 46 (tr 3 (by decide) (by decide) (by decide)) (by omega), w5 3 c (by decide) (by decide) (by omega), hF c c1 c2]
    show FR (u c) + ℓ c = FR (u c) + σ2.1 (mR σ2 m0 23) (12 * B + c)
    rw [(hb c c1 c2).1]
  obtain ⟨C1, C2, l, C3⟩ := cFormK hL0 hV0 d2 tl0 hk n1 h0 n4 hu F0 hF'
  rw [es, es, es, es, es] at C3
  obtain ⟨w, hw0⟩ : ∃ w, w = F_X5_form rv td' (V.1 k) s0 := ⟨_, rfl⟩
  obtain ⟨t, ht0⟩ : ∃ t, t = F_X11_copies m0 ρ := ⟨_, rfl⟩
  rw [← hw0] at C1 C2 C3
  rw [← ht0] at hM
  have hM' := hM
  obtain ⟨m1, m2, m3, m4, m5⟩ := hM'
  obtain ⟨q, hq0⟩ : ∃ q, q = qOf σ1.2.2 rv sh cd td' V k := ⟨_, rfl⟩
  have QR : zQr q w.2.2 := by
    rw [hq0]
    refine zQr.of hL hV d2 tr hk (fun a j n => ?_) ?_ ?_
    · rw [C1]
      by_cases ca : a = rv
      · subst ca
        rw [zu_j _ _ _ _ _ (fun z => n ⟨rfl, Or.inr z.symm⟩), zu_j _ _ _ _ _ (fun z => n ⟨rfl, Or.inl z.symm⟩)]
        exact g.1 _ j n
      · rw [zu_n _ _ _ ca, zu_n _ _ _ ca]
        exact g.1 a j n
    · rw [C1, zu_j _ _ _ _ _ (by decide), zu_s]
    · rw [C1, zu_s]
  have T : ∀ i, i < 22 → zT L1 kd1 (q i) (qK i) := by rw [hq0]; exact qOf.t hL hV d2 tr hk
  have W0 : ∀ i, i < 22 → (i = 3 ∨ i = 4 ∨ (10 ≤ i ∧ i ≤ 15) ∨ 19 ≤ i) → w.1 (q i) = s0.1 (q i) := fun i hi n => funext (fun j => C2 _ j (by
    have ki := (T i hi).2
    unfold zKs
    rw [ki]
    rcases (show i = 3 ∨ i = 4 ∨ i = 10 ∨ i = 11 ∨ i = 12 ∨ i = 13 ∨ i = 14 ∨ i = 15 ∨ i = 19 ∨ i = 20 ∨ i = 21 by omega) with rfl | rfl | rfl | rfl | rfl | rfl | rfl | rfl | rfl | rfl | rfl <;> decide))
  have W1 : ∀ i, (i = 3 ∨ (10 ≤ i ∧ i ≤ 15)) → w.1 (q i) = σ1.1 (q i) := fun i n => (W0 i (by omega) (by omega)).trans (he _ _ (T i (by omega)) (by
    rcases (show i = 3 ∨ i = 10 ∨ i = 11 ∨ i = 12 ∨ i = 13 ∨ i = 14 ∨ i = 15 by omega) with rfl | rfl | rfl | rfl | rfl | rfl | rfl <;> decide))
  have e3 : q 3 = td' := by rw [hq0]; rfl
  have e4 : q 4 = V.1 k := by rw [hq0]; rfl
  have e19 : q 19 = V.2.1 k := by rw [hq0]; rfl
  have e20 : q 20 = V.2.2.1 k := by rw [hq0]; rfl
  have e21 : q 21 = V.2.2.2 k := by rw [hq0]; rfl
  have eT : ∀ i j, (i = 10 ∧ j = 3) ∨ (i = 11 ∧ j = 4) ∨ (i = 12 ∧ j = 5) ∨ (i = 13 ∧ j = 6) ∨ (i = 14 ∧ j = 7) ∨ (i = 15 ∧ j = 9) → q i = (σ1.2.2 td' j).getD 0 := fun i j hij => by
    rw [hq0]
    rcases hij with ⟨rfl, rfl⟩ | ⟨rfl, rfl⟩ | ⟨rfl, rfl⟩ | ⟨rfl, rfl⟩ | ⟨rfl, rfl⟩ | ⟨rfl, rfl⟩ <;> rfl
  have e16 : q 16 = (σ1.2.2 sh 2).getD 0 := by rw [hq0]; rfl
  have e17 : q 17 = (σ1.2.2 sh 3).getD 0 := by rw [hq0]; rfl
  have e18 : q 18 = (σ1.2.2 sh 4).getD 0 := by rw [hq0]; rfl
  have e1q : q 1 = sh := by rw [hq0]; rfl
  obtain ⟨c1, c2, c3, c4⟩ := id C3
  have hY : zYm (mR σ2 m0) m0 σ2.2.2 := zYm.of hJ hm
  have hY' : zYm (mR σ2 m0) m0 t.2.2 := by rw [m1]; exact hY
  have f18 : t.1 m0 18 = σ2.1 m0 18 := zFm.fld hJ hm m5 (j := 18) (by rfl) (by rfl)
  have rows : ∀ j, (j = 21 ∨ (23 ≤ j ∧ j ≤ 31) ∨ (33 ≤ j ∧ j ≤ 37) ∨ j = 39 ∨ j = 40) → t.1 (mR σ2 m0 j) = σ2.1 (mR σ2 m0 j) := fun j hj => by
    refine zFm.row hJ hm m5 (zYj_k (by unfold zYj; omega)).1 (by rfl) ?_
    rcases (show j = 21 ∨ j = 23 ∨ j = 24 ∨ j = 25 ∨ j = 26 ∨ j = 27 ∨ j = 28 ∨ j = 29 ∨ j = 30 ∨ j = 31 ∨ j = 33 ∨ j = 34 ∨ j = 35 ∨ j = 36 ∨ j = 37 ∨ j = 39 ∨ j = 40 by omega) with rfl | rfl | rfl | rfl | rfl | rfl | rfl | rfl | rfl | rfl | rfl | rfl | rfl | rfl | rfl | rfl | rfl <;> rfl
  have L5 : 0 < N' → zL5 q w gl := fun hN => by
   obtain ⟨⟨w3, w3'⟩, w4, -⟩ := hw' hN
   exact ⟨K, by rw [W1 3 (by omega), e3]; exact w3, w3', fun v hv => by
    rw [eT 13 6 (by omega), eT 14 7 (by omega), eT 15 9 (by omega)]
    exact (w4 v hv).1.cg (by rw [← eT 13 6 (by omega)]; exact W1 13 (by omega)) (by rw [← eT 14 7 (by omega)]; exact W1 14 (by omega)) (by rw [← eT 15 9 (by omega)]; exact W1 15 (by omega))⟩
  have W5 : 0 < N' → zW5 (mR σ2 m0) B t gl := fun hN v hv => by
   obtain ⟨-, w4, -⟩ := hw' hN
   exact ⟨(w4 v hv).2.cg (Nat.le_refl _) (Nat.le_refl _) (fun i _ _ => ⟨by rw [rows 39 (by omega)], by rw [rows 40 (by omega)]⟩) (fun j i j1 j2 _ _ => by rw [rows j (by omega)]) (by rw [rows 30 (by omega)]) (by rw [rows 31 (by omega)]), (w4 v hv).1.1⟩
  have S : zSd q (mR σ2 m0) m0 B N' gl u l w t := by
    refine ⟨⟨QR, L5, by rw [e1q]; exact c1, n1, n4, fun c c1 c2 => by rw [W0 19 (by decide) (by omega), e19]; exact hu c c1 c2, by rw [e16]; exact c2.p, fun x => ?_⟩, ⟨hY', by rw [f18]; exact hB, hB1, W5, by rw [mMany_g hJ hm m5 (by rfl) (by rfl) (by rfl)]; exact n2, fun c c1 c2 => by rw [m4 c (by omega)]; exact (hb c c1 c2).2, fun c hc => ?_, fun x => mIsS hM hJ hm n2 n1⟩, fun p hp => ⟨?_, ?_, ?_, ?_, ?_⟩, fun c c1 c2 => ?_, ?_⟩
    · rw [e1q]
      exact (cIsS C3 (by
        have := QR.1.2.2.2.1.2.2
        rw [e1q, e18] at this
        exact this)).2
    · rw [(m3 c hc).2]
      have a := sr_d n4 n1 S0 hS c hc
      have b := (dep_b n4 c hc).1
      omega
    · rw [W1 11 (by omega), eT 11 4 (by omega), rows 24 (by omega)]
      exact w5 4 p (by decide) (by decide) (by omega)
    · rw [e17, c2.2.1 p hp, (m3 p hp).1]
    · rw [W1 12 (by omega), eT 12 5 (by omega), rows 25 (by omega)]
      exact w5 5 p (by decide) (by decide) (by omega)
    · rw [W1 10 (by omega), eT 10 3 (by omega), rows 23 (by omega)]
      exact w5 3 p (by decide) (by decide) (by omega)
    · have a := c3 p hp
      rw [← e18] at a
      have b : (F_X11_bits (t.1 (mR σ2 m0 54) p)).toInt = cnt (fun j => An u p j) N' := by
        rw [bitM, cnt_ext (N := N') 12 n1 (fun j j1 j2 z => by
          have := ((m2 p j hp (by omega)).mp z).1
          omega)]
        exact congrArg _ (cnt_cg N' (fun j hj => ⟨fun z => ((m2 p j hp (by omega)).mp z).2, fun z => (m2 p j hp (by omega)).mpr ⟨hj, z⟩⟩))
      have cl := cnt_le (P := fun j => An u p j) N'
      have c0 : 0 < cnt (fun j => An u p j) N' := cnt_p N' hp An_rf
      have o1 : (1 : Int32).toInt = 1 := by decide
      refine Int32.toInt_inj.mp ?_
      rw [zb_sub (by rw [o1]; omega) (by rw [o1]; omega), o1]
      omega
    · have np := pI_b c (by omega)
      have ed : w.1 (q 4) 3 = (zcc V σ1.1 0).2.2.2.1 := by rw [W0 4 (by decide) (by omega), e4, hcD]; rfl
      unfold dmC dmM
      rw [cHas np.1 (by omega), ed, m4 (12 + c) (by omega), ← rc (12 + c) (by omega)]
      rcases Qk.1.2.1 c c1 c2 with ⟨z1, z2⟩ | ⟨z1, z2⟩
      · rw [z2, z1]
        decide
      · rw [z2, z1]
        decide
    · intro hN
      obtain ⟨-, -, -, w6, -⟩ := hw' hN
      rw [W1 3 (by omega), e3, rows 28 (by omega)]
      exact w6 2 (by decide)
  have So : 0 < N' → zSo q (mR σ2 m0) B w t := fun hN => by
    obtain ⟨-, -, -, w6, w7, w8⟩ := hw' hN
    unfold zSo
    rw [W1 3 (by omega), e3, rows 26 (by omega), rows 27 (by omega)]
    exact ⟨w6 0 (by decide), w6 1 (by decide), w7, w8⟩
  -- the flows as copies leave them
  obtain ⟨y, hy⟩ : ∃ y, y = zCp m0 σ2 ρ := ⟨_, rfl⟩
  obtain ⟨t', ht'⟩ : ∃ t', t' = F_X11_fillsWays m0 y := ⟨_, rfl⟩
  have tE : t = F_X11_fillsFlows m0 0 t' := by rw [ht0, ht', hy, zCopies hJ hm h2]
  have yr : y.2.2 = σ2.2.2 := by rw [hy]; rfl
  have gw : zFr (fun c _ => c = mR σ2 m0 54 ∨ c = mR σ2 m0 52 ∨ c = mR σ2 m0 53) y t' := by rw [ht']; exact fr_X11_fillsWays zFr.id (fun _ => Or.inl (by rw [yr])) (fun _ => Or.inr (Or.inl (by rw [yr]))) (fun _ => Or.inr (Or.inr (by rw [yr])))
  have t'r : t'.2.2 = σ2.2.2 := gw.rf.trans yr
  have gf : zFr (zVw (mR σ2 m0) m0) t' t := by rw [tE]; exact fr_X11_fillsFlows zFr.id (fun _ => Or.inr (Or.inl (by rw [t'r]))) (Or.inr (Or.inr (Or.inr ⟨rfl, rfl⟩))) (fun _ => Or.inr (Or.inr (Or.inl (by rw [t'r])))) (fun _ => Or.inl (by rw [t'r]))
  have hY2 : zYm (mR σ2 m0) m0 t'.2.2 := by rw [t'r]; exact hY
  have fld : ∀ j, j ≠ 47 → t.1 m0 j = y.1 m0 j := fun j hj => by
    rw [zVw.fl hY2 gf hj, gw.2 m0 j (by
      rintro (z | z | z)
      · exact (hY.1 54 (by unfold zYj; omega)).2 z.symm
      · exact (hY.1 52 (by unfold zYj; omega)).2 z.symm
      · exact (hY.1 53 (by unfold zYj; omega)).2 z.symm)]
  have f50 : 0 < N' → t.1 m0 50 = σ1.1 td' 13 := fun hN => by
    obtain ⟨-, -, -, w6, -⟩ := hw' hN
    rw [fld 50 (by decide), hy]
    show zu (zu (zcf ρ.1 (mR σ2 m0 49) (mR σ2 m0 48) 0 0 0 50) m0 50 (ρ.1 (mR σ2 m0 29) (ρ.1 m0 18).toNatClampNeg)) m0 51 0 m0 50 = _
    have r18' : ρ.1 m0 18 = σ2.1 m0 18 := zFm.fld hJ hm hρ (j := 18) (by rfl) (by rfl)
    have r29' : ρ.1 (mR σ2 m0 29) = σ2.1 (mR σ2 m0 29) := zFm.row hJ hm hρ (s := 29) (by rfl) (by rfl) (by rfl)
    rw [zu_j _ _ _ _ _ (by decide), zu_s, r18', r29', nB]
    exact (w6 3 (by decide)).symm
  have f51 : (t.1 m0 51).toInt = 0 := by
    rw [fld 51 (by decide), hy]
    show (zu (zu (zcf ρ.1 (mR σ2 m0 49) (mR σ2 m0 48) 0 0 0 50) m0 50 (ρ.1 (mR σ2 m0 29) (ρ.1 m0 18).toNatClampNeg)) m0 51 0 m0 51).toInt = _
    rw [zu_s]
    decide
  have S' : zSd q (mR σ2 m0) m0 B N' gl u l w t' := S.fr zFr.id (zVw.up gf.sy)
  refine ⟨td', B, N', gl, u, l, q, mR σ2 m0, w, t, ⟨hq0, rfl, hw0, ht0⟩, d1, n2, S, fun i hi => W0 i (by omega) (by omega), m4, So, f50, f51, fun Dn p hp => ?_⟩
  have Dn' : zDn q (mR σ2 m0) N' w t' := Dn.up2 hY' gf.sy
  have FL := (S'.fall Dn' (m := 0) (by decide) zFr.id zFr.id).2.2.1
  have := FL p hp
  rw [← tE] at this
  exact this
end STANDS
end
-- 35y21.lw54
section
/-! ANSWERS OF NOW: loss, part -/
section STANDS
variable {κ : Int} {L1 : List Nat} {kd1 : Nat → Nat} {L2 : List Nat} {kd2 : Nat → Nat} {σ1 σ2 s0 : zS} {m0 x0 : Nat} {Q : Nat → zCo → (Nat → Int32) → Prop} {V : zWh} {ps pc sl rv sh cd k : Nat}
theorem zSd.ofM (hG : zGd Q) (hQ : ∀ N c r, Q N c r → zQw N c r) (h : zRL Q L1 kd1 x0 m0 V ps pc sl rv sh cd σ1 σ2) (hw : 0 < zM m0 σ2 → zLw x0 m0 σ1 σ2) (hl : zLen x0 m0 σ1 σ2) (hx : zT L1 kd1 x0 10) (hI : zI κ 0 L1 kd1 σ1) (hJ : zJ κ L2 kd2 σ2) (hm : zT L2 kd2 m0 11) (hg : gN m0 σ2) {ρ : zS} (hr2 : ρ.2 = σ2.2) (hρ : zFr (zFm [50, 51, 47] [49, 54, 52, 53, 45, 46, 55] m0 σ2.2.2) σ2 ρ) (gr : ∀ a j, ¬ (a = rv ∧ (j = 5 ∨ j = 6)) → s0.2.2 a j = σ1.2.2 a j) (he : ∀ c kc, zT L1 kd1 c kc → (kc = 9 ∨ (46 ≤ kc ∧ kc ≤ 51)) → s0.1 c = σ1.1 c) (hk : k < 45) (hc : zcc V s0.1 k = zcc V σ1.1 0) : ∃ (td B N : Nat) (gl : zGl) (u l : Nat → Nat), σ1.2.2 x0 10 = some td ∧ zM m0 σ2 = N ∧ (F_X5_form rv td (V.1 k) s0).1 td = s0.1 td ∧ zMb (qOf σ1.2.2 rv sh cd td V k) (mR σ2 m0) m0 B N gl u l (σ1.1 td 13) (F_X5_form rv td (V.1 k) s0) (F_X11_copies m0 ρ) (F_X5_form rv td (V.1 k) s0) (F_X11_copies m0 ρ) := by
  have hcI : ∀ p, p < 12 → s0.1 (V.2.1 k) p = σ1.1 (V.2.1 0) p := fun p hp => by
    have e := congrArg (fun c : zCo => c.1 p) hc
    have e1 : (zcc V s0.1 k).1 p = s0.1 (V.2.1 k) p := if_pos hp
    have e2 : (zcc V σ1.1 0).1 p = σ1.1 (V.2.1 0) p := if_pos hp
    rw [← e1, ← e2]
    exact e
  have hcD : s0.1 (V.1 k) 3 = σ1.1 (V.1 0) 3 := congrArg (fun c : zCo => c.2.2.2.1) hc
  obtain ⟨td, B, N, gl, u, l, q, Y, w, t, ⟨hq0, hY0, hw0, ht0⟩, d1, n2, S, W, m4, So, f50, f51, FL⟩ := zSd.ofT hG hQ h hw hl hx hI hJ hm hg hr2 hρ gr he hk hcI hcD
  obtain ⟨-, -, N', n, uu, ⟨-, a2, a3, -⟩, hq, -⟩ := id h
  obtain rfl : N' = N := by omega
  have Qk : zQw N' (zcc V s0.1 k) (rC σ2.1 (mR σ2 m0 48) 0) := by rw [hc]; exact hQ _ _ _ hq
  have z23 : ∀ p, p < 12 → (zcc V s0.1 k).2.1 p = s0.1 (V.2.2.1 k) p := fun p hp => if_pos hp
  have z24 : ∀ p, p < 12 → (zcc V s0.1 k).2.2.1 p = s0.1 (V.2.2.2 k) p := fun p hp => if_pos hp
  have rc : ∀ j, j < 50 → rC σ2.1 (mR σ2 m0 48) 0 j = σ2.1 (mR σ2 m0 48) j := fun j hj => by rw [rC_i hj, Nat.zero_add]
  have e4 : q 4 = V.1 k := by rw [hq0]; rfl
  have e20 : q 20 = V.2.2.1 k := by rw [hq0]; rfl
  have e21 : q 21 = V.2.2.2 k := by rw [hq0]; rfl
  have Dn : zDn q Y N' w t := by
    have gn := hg.2
    have g49 : zp m0 σ2 48 49 = (σ2.1 (mR σ2 m0 48) 49).toInt := rfl
    have x4 : w.1 (q 4) 4 = σ2.1 (mR σ2 m0 48) 48 := by rw [W 4 (by omega), e4, ← rc 48 (by decide)]; exact Qk.1.2.2.1
    have x5 : w.1 (q 4) 5 = σ2.1 (mR σ2 m0 48) 49 := by rw [W 4 (by omega), e4, ← rc 49 (by decide)]; exact Qk.1.2.2.2
    refine ⟨fun p hp => ?_, by rw [x4, m4 48 (by decide)], by rw [x5, m4 49 (by decide)], by rw [x5]; omega, by rw [x5]; omega⟩
    obtain ⟨y1, y2, y3, y4⟩ := Qk.2.1 p hp
    rw [z23 p (by omega)] at y1 y3 y4
    rw [z24 p (by omega)] at y2
    rw [rc _ (by omega)] at y1 y2
    rw [W 20 (by omega), W 21 (by omega), e20, e21, m4 _ (by omega), m4 _ (by omega)]
    exact ⟨y1, y2, y3, y4⟩
  have e3 : q 3 = td := by rw [hq0]; rfl
  refine ⟨td, B, N', gl, u, l, d1, n2, ?_, ?_⟩
  · have := W 3 (by omega)
    rw [e3] at this
    rw [← hw0]
    exact this
  rw [← hw0, ← ht0, ← hq0, ← hY0]
  exact ⟨S, Dn, So, f51, f50, zFr.id, zFr.id, ⟨rfl, rfl⟩, FL Dn⟩
end STANDS
theorem dmC_b {D : Int32} {c : Nat} (hc : c < 13) : dmC D c = bt D c := by
  unfold dmC
  rw [cHas (pI_b c hc).1 (by omega)]
  cases bt D c <;> decide
/-- where the reference tries dams -/
def zD4 (Y : Nat → Nat) : Nat → Nat → Prop := fun c j => c = Y 49 ∧ 12 ≤ j ∧ j < 24
section DAMS
variable {q Y : Nat → Nat} {a b N : Nat} {s1 s t τ : zS} {g : zGl} {u l : Nat → Nat} {mask : Int32}
theorem zD4.r {R : Nat → Nat → Option Nat} (h : zYm Y a R) (f : zFr (zD4 Y) s t) {j : Nat} (hj : zYj j) (n : j ≠ 49) : t.1 (Y j) = s.1 (Y j) := funext (fun i => f.2 (Y j) i (fun z => h.2 j 49 hj (by unfold zYj; omega) n z.1))
theorem zD4.fl {R : Nat → Nat → Option Nat} (h : zYm Y a R) (f : zFr (zD4 Y) s t) (j : Nat) : t.1 a j = s.1 a j := f.2 a j (fun z => (h.1 49 (by unfold zYj; omega)).2 z.1.symm)
theorem zD4.w (f : zFr (zD4 Y) s t) {j : Nat} (n : j < 12 ∨ 24 ≤ j) : t.1 (Y 49) j = s.1 (Y 49) j := f.2 (Y 49) j (fun z => by
  obtain ⟨-, k1, k2⟩ := z
  omega)
theorem fMt.d4 {R : Nat → Nat → Option Nat} (h : zYm Y a R) (f : zFr (zD4 Y) s τ) {p : Nat} (hp : p < 12) {x : Int32} : fMt Y b τ (pI p) x = fMt Y b s (pI p) x := by
  have np := (pI_b p (by omega)).2
  have r24 := zD4.r h f (j := 24) (by unfold zYj; omega) (by decide)
  have r52 := zD4.r h f (j := 52) (by unfold zYj; omega) (by decide)
  have r25 := zD4.r h f (j := 25) (by unfold zYj; omega) (by decide)
  have r23 := zD4.r h f (j := 23) (by unfold zYj; omega) (by decide)
  have r54 := zD4.r h f (j := 54) (by unfold zYj; omega) (by decide)
  have w48 := zD4.w f (j := 48) (by omega)
  have wp := zD4.w f (j := 24 + p) (by omega)
  funext i
  unfold fMt
  rw [np]
  split
  · rw [r24]
  · rw [r52]
  · rw [r25]
  · rw [w48]
  · rfl
  · rw [r23]
  · rw [wp]
  · rfl
  · rw [r54]
theorem zD4.m (h : zYm Y a s.2.2) (f : zFr (zD4 Y) s t) : F_X11_many a t = F_X11_many a s := by
  unfold F_X11_many
  simp only [zlt]
  rw [f.rf, (h.1 21 (by unfold zYj; omega)).1, zD4.fl h f 18, zD4.r h f (j := 21) (by unfold zYj; omega) (by decide)]
theorem mDams (S : zSd q Y a b N g u l s1 s) : ∀ (n : Nat) (x : Int32) (i : Nat) (τ : zS), x.toInt = i → 1 ≤ i → 13 - i < n → zFr (zD4 Y) s τ → (∀ c, 1 ≤ c → c < N → τ.1 (Y 49) (12 + c) = if c < i ∧ bt mask c = true then 1 else s.1 (Y 49) (12 + c)) → ∃ τ', F_X11_damsAll_6 a mask n x τ = F_X11_fillsFlows a 0 τ' ∧ zFr (zD4 Y) s τ' ∧ ∀ c, 1 ≤ c → c < N → τ'.1 (Y 49) (12 + c) = if bt mask c = true then 1 else s.1 (Y 49) (12 + c) := by
  have hN := S.1.2.2.2.1
  have hY := S.2.1.1
  have M := S.2.1.2.2.2.2.1
  have g49 := (hY.1 49 (by unfold zYj; omega)).1
  have e12 : (12 : Int32).toInt = 12 := by decide
  have o1 : (1 : Int32).toInt = 1 := by decide
  intro n
  induction n with
  | zero => intro x i τ _ _ h; exact absurd h (by omega)
  | succ n ih =>
    intro x i τ hx hi hn f hv
    have Mτ := zD4.m hY f
    rw [F_X11_damsAll_6]
    simp only [↓zlt, f.rf, g49, Mτ, o1]
    by_cases c : i < N
    · rw [if_pos (by omega)]
      have x1 := zp1 hx (by omega)
      have ix := ixN (m := 12) (p := x) (M := 12) (P := i) e12 (by decide) hx (by omega)
      have cut := bt_cut (x := mask) hx (by omega)
      by_cases d : bt mask i = true
      · rw [if_pos (cut.2.mpr d), ix]
        have f' : zFr (zD4 Y) s (zu τ.1 (Y 49) (12 + i) 1, τ.2.1, s.2.2) := by
          have k := f.w (r := Y 49) (j := 12 + i) (v := (1 : Int32)) ⟨rfl, by omega, by omega⟩
          rw [f.rf] at k
          exact k
        refine ih _ (i + 1) _ x1 (by omega) (by omega) f' (fun c c1 c2 => ?_)
        show zu τ.1 (Y 49) (12 + i) 1 (Y 49) (12 + c) = _
        by_cases e : c = i
        · rw [e, zu_s, if_pos ⟨by omega, d⟩]
        · rw [zu_j _ _ _ _ _ (by omega), hv c c1 c2]
          by_cases k : c < i
          · by_cases m : bt mask c = true
            · rw [if_pos ⟨k, m⟩, if_pos ⟨by omega, m⟩]
            · rw [if_neg (fun z => m z.2), if_neg (fun z => m z.2)]
          · rw [if_neg (fun z => k z.1), if_neg (by omega)]
      · rw [if_neg (fun z => d (cut.2.mp z))]
        refine ih _ (i + 1) τ x1 (by omega) (by omega) f (fun c c1 c2 => ?_)
        rw [hv c c1 c2]
        by_cases e : c = i
        · rw [e, if_neg (fun z => d z.2), if_neg (fun z => d z.2)]
        · by_cases k : c < i
          · by_cases m : bt mask c = true
            · rw [if_pos ⟨k, m⟩, if_pos ⟨by omega, m⟩]
            · rw [if_neg (fun z => m z.2), if_neg (fun z => m z.2)]
          · rw [if_neg (fun z => k z.1), if_neg (by omega)]
    · rw [if_neg (by omega)]
      refine ⟨τ, rfl, f, fun c c1 c2 => ?_⟩
      rw [hv c c1 c2]
      by_cases m : bt mask c = true
      · rw [if_pos ⟨by omega, m⟩, if_pos m]
      · rw [if_neg (fun z => m z.2), if_neg m]
/-- the flows with dams tried: alike -/
theorem damFlow (S : zSd q Y a b N g u l s1 s) (Dn : zDn q Y N s1 s) (hr : ∀ p, p < N → s1.1 (q 5) p = rCl q s1 g 0 p) {D : Int32} (f : zFr (zD4 Y) s τ) (hv : ∀ c, 1 ≤ c → c < N → τ.1 (Y 49) (12 + c) = if bt mask c = true then 1 else s.1 (Y 49) (12 + c)) (hD : ∀ c, 1 ≤ c → c < N → bt D c = (bt (s1.1 (q 4) 3) c || bt mask c)) : ∀ p, p < N → (F_X5_run (q 0) D s1).1 (q 6) p = (F_X11_fillsFlows a 0 τ).1 (Y 55) p := by
  have E := S.eq Dn
  obtain ⟨⟨a1, a2, a3, a4, a5, a6, a7, a8⟩, ⟨b1, b2, b3, b4, b5, b6, b7, b8⟩, c, d, e⟩ := S
  have r := fun j (hj : zYj j) (n : j ≠ 49) => zD4.r b1 f hj n
  have hY' : zYm Y a τ.2.2 := by rw [f.rf]; exact b1
  have hsp : ∀ c, 1 ≤ c → c < N → dep N u c - 1 = (dep N u (u c) - 1) + 1 := fun c c1 c2 => by
    have z1 := dep_s a5 c1 c2
    have z2 := (dep_b a5 (u c) (a5.u_lt c1 c2)).1
    omega
  have h11 : ∀ c, c < N → dep N u c - 1 ≤ 11 := fun c hc => by
    have := (dep_b a5 c hc).2
    omega
  have E' : zEq q Y b N D s1 τ := by
    refine ⟨fun p f' hp => ?_, fun c c1 c2 => ?_⟩
    · rw [E.1 p f' hp, fMt.d4 b1 f (by omega)]
    · have k := E.2 c c1 c2
      rw [dmC_b (by omega)] at k
      rw [dmC_b (by omega), hD c c1 c2, k]
      unfold dmM
      rw [hv c c1 c2]
      by_cases m : bt mask c = true
      · rw [m, if_pos rfl, Bool.or_true]
        decide
      · rw [if_neg m, show bt mask c = false by simpa using m, Bool.or_false]
  exact flowEq a1 a2 a3 a4 a5 a6 a7 hY' (by rw [zD4.fl b1 f]; exact b2) b3 (fun hN => (b4 hN).cg (fun j hj => r j (by unfold zYj; omega) (by omega))) (by rw [zD4.m b1 f]; exact b5) (fun c c1 c2 => by rw [zD4.w f (by omega)]; exact b6 c c1 c2) (fun c hc => by rw [r 53 (by unfold zYj; omega) (by decide)]; exact b7 c hc) hsp h11 E' (by decide) zFr.id hr zFr.id
end DAMS
section LOSS
variable {κ : Int} {L1 : List Nat} {kd1 : Nat → Nat} {L2 : List Nat} {kd2 : Nat → Nat} {σ1 σ2 τ1 τ2 : zS} {m0 x0 : Nat} {V : zWh} {ps pc sl rv sh cd : Nat} {v1 v2 p : Int32}
/-- what the mouth loses by a dam at p, on both sides; what flows there, once more -/
theorem zRL.lossE (h : zRL zQw L1 kd1 x0 m0 V ps pc sl rv sh cd σ1 σ2) (hw : 0 < zM m0 σ2 → zLw x0 m0 σ1 σ2) (hl : zLen x0 m0 σ1 σ2) (hx : zT L1 kd1 x0 10) (hI : zI κ 0 L1 kd1 σ1) (hJ : zJ κ L2 kd2 σ2) (hm : zT L2 kd2 m0 11) (hg : gN m0 σ2) (h1 : 1 ≤ p.toInt) (h2 : p.toInt < zM m0 σ2) : ∃ (F v : Int32) (s' t' : zS), F_X10_mouthFlow x0 (F_X10_look x0 σ1) = (F, F_X10_look x0 σ1) ∧ F_X10_lossOf x0 p (F_X10_look x0 σ1) = (v, s') ∧ F_X11_lossOf m0 p σ2 = (v, t') ∧ ((F_X11_copies m0 t').2.2 m0 55).getD 0 = mR σ2 m0 55 ∧ (F_X11_copies m0 t').1 (mR σ2 m0 55) 0 = F := by
  obtain ⟨td, B, N, gl, u, l, q, Y, d1, n2, eL, xr, ⟨hq, hY⟩, ⟨S, Dn, FL, RN⟩, -, -⟩ := h.now hw hl hx hI hJ hm hg
  have hV := h.2.1
  have hL := h.1
  have g10 : (σ1.2.2 x0 10).getD 0 = td := by rw [d1]; rfl
  have g6 : (σ1.2.2 x0 6).getD 0 = V.1 0 := by rw [hL.1.1]; rfl
  obtain ⟨td9, d9, t9⟩ := zi_ref (j := 10) (k2 := 9) hI hx (by rfl)
  obtain rfl : td9 = td := Option.some.inj (d9.symm.trans d1)
  obtain ⟨N', -, -, ⟨n3, n4, -⟩, -⟩ := h.2.2
  rw [g10] at n3
  have LE := h.lookE hl hx hI hJ hm hg td9 9 t9 (by omega)
  have cp := zCopies2 hJ hm
  obtain ⟨P, hp⟩ : ∃ P : Nat, p.toInt = P := ⟨p.toInt.toNat, by omega⟩
  have hN12 := S.1.2.2.2.1
  have hN : 0 < N := by omega
  have w0 : (0 : Int32).toNatClampNeg = 0 := by decide
  have q0 : q 0 = rv := by rw [hq]; rfl
  have q3 : q 3 = td9 := by rw [hq]; rfl
  have q4 : q 4 = V.1 0 := by rw [hq]; rfl
  have lookF : F_X10_look x0 σ1 = F_X5_fall rv 0 (F_X5_form rv td9 (V.1 0) σ1) := by
    rw [← eL]
    unfold F_X5_look
    simp only [zlt]
  -- copies once more
  have again : ∀ ρ : zS, ρ.2 = σ2.2 → zFr (zFm [50, 51, 47] [49, 54, 52, 53, 45, 46, 55] m0 σ2.2.2) σ2 ρ → ∃ (B : Nat) (g2 : zGl) (u2 l2 : Nat → Nat), zNw q Y m0 B N g2 u2 l2 (F_X10_look x0 σ1) (F_X11_copies m0 ρ) := fun ρ r1 r2 => by
    obtain ⟨td2, B2, N2, g2, u2, l2, d2, n2', -, M⟩ := zSd.ofM zGd.q1 (fun _ _ _ h => h) h hw hl hx hI hJ hm hg r1 r2 (s0 := σ1) (fun _ _ _ => rfl) (fun _ _ _ _ => rfl) (k := 0) (by decide) rfl
    obtain rfl : td2 = td9 := Option.some.inj (d2.symm.trans d1)
    obtain rfl : N2 = N := by omega
    have LK := M.look
    refine ⟨B2, g2, u2, l2, ?_⟩
    rw [lookF, hq, hY]
    exact LK
  obtain ⟨t, ht⟩ : ∃ t, t = F_X11_copies m0 σ2 := ⟨_, rfl⟩
  rw [← ht] at cp FL S
  obtain ⟨B2, g2, u2, l2, S2, D2, F2, R2⟩ := again t cp.1 cp.2.2
  obtain ⟨t1, ht1⟩ : ∃ t1, t1 = F_X11_copies m0 t := ⟨_, rfl⟩
  rw [← ht1] at S2 D2 F2
  obtain ⟨s, hs⟩ : ∃ s, s = F_X10_look x0 σ1 := ⟨_, rfl⟩
  rw [← hs] at S S2 D2 F2 R2 FL xr LE ⊢
  have em : (1 : Int32) <<< (p &&& 31) = F_X10_bit p := by
    unfold F_X10_bit
    simp only [zlt]
  obtain ⟨τ, e1, e2, e3⟩ := mDams (mask := F_X10_bit p) S2 10000 1 1 t1 (by decide) (by omega) (by omega) zFr.id (fun c c1 c2 => by rw [if_neg (by omega)])
  have eA : F_X11_damsAll m0 (F_X10_bit p) t = F_X11_fillsFlows m0 0 τ := by
    unfold F_X11_damsAll
    simp only [zlt]
    rw [← ht1]
    exact e1
  have DF := damFlow S2 D2 R2 (D := s.1 (V.1 0) 3 ||| F_X10_bit p) e2 e3 (fun c c1 c2 => by rw [b_or, q4]) 0 hN
  have MF := fun (y : zS) (yr : y.2.2 = s.2.2) (y0 : y.1 td9 0 = s.1 td9 0) => cMouthF (q := q) (x0 := x0) (t1 := y) (td := td9) (by rw [yr, xr 2, q0]; exact xrv hV) (by rw [yr, xr 10]; exact g10) (by rw [yr]; exact S2.1.1.1.1.2.2.2.2.2.1) (by rw [y0, LE]; omega)
  have M0 := MF s rfl rfl
  obtain ⟨x, hx8⟩ : ∃ x, x = F_X5_run rv (s.1 (V.1 0) 3 ||| F_X10_bit p) s := ⟨_, rfl⟩
  have fx : zFr (fun c _ => c = q 6 ∨ c = q 8 ∨ c = q 9) s x := by
    rw [hx8, ← q0]
    exact (cRun (D := s.1 (V.1 0) 3 ||| F_X10_bit p) S2.1.1 S2.1.2.1 S2.1.2.2.1 hN12 S2.1.2.2.2.2.1 S2.1.2.2.2.2.2.1 S2.1.2.2.2.2.2.2.1 zFr.id R2 (fun p _ => rCl_b (by decide))).2.1
  have M1 := MF x fx.rf (fx.2 td9 0 (by
    rw [← q3]
    rintro (z | z | z)
    · exact S2.1.1.n (by decide) (by decide) (by decide) z
    · exact S2.1.1.n (by decide) (by decide) (by decide) z
    · exact S2.1.1.n (by decide) (by decide) (by decide) z))
  have x6 : x.1 (q 6) 0 = (F_X11_fillsFlows m0 0 τ).1 (Y 55) 0 := by
    rw [hx8, ← q0]
    exact DF
  have t55 : (t.2.2 m0 55).getD 0 = Y 55 := (S.2.1.1.1 55 (by unfold zYj; omega)).1
  have fA : zFr (zFm [50, 51, 47] [49, 54, 52, 53, 45, 46, 55] m0 t.2.2) t (F_X11_damsAll m0 (F_X10_bit p) t) := fr_X11_damsAll zFr.id (zFm.s rfl) (zFm.f rfl) (zFm.f rfl) (zFm.s rfl) (zFm.s rfl) (zFm.s rfl) (zFm.s rfl) (zFm.f rfl) (zFm.s rfl) (zFm.s rfl)
  have tr : t.2.2 = σ2.2.2 := by rw [cp.1]
  rw [tr] at fA
  have r55 : ((F_X11_damsAll m0 (F_X10_bit p) t).2.2 m0 55).getD 0 = Y 55 := by rw [fA.rf]; exact t55
  obtain ⟨B3, g3, u3, l3, S3, D3, F3, R3⟩ := again (F_X11_damsAll m0 (F_X10_bit p) t) (fA.1.trans cp.1) (cp.2.2.tr fA)
  rw [← hs] at F3 S3
  refine ⟨s.1 (q 6) 0, s.1 (q 6) 0 - x.1 (q 6) 0, x, F_X11_damsAll m0 (F_X10_bit p) t, M0, ?_, ?_, ?_, ?_⟩
  · unfold F_X10_lossOf
    simp only [zlt, zlt2, M0, xr, xrv hV, g6, ← hx8, M1]
  · unfold F_X11_lossOf
    simp only [zlt, ← ht, em, t55, w0, r55]
    rw [(FL 0 hN).1, x6, eA]
  · rw [← hY]
    exact (S3.2.1.1.1 55 (by unfold zYj; omega)).1
  · rw [← hY]
    exact (F3 0 hN).1.symm
theorem zRL.loss (h : zRL zQw L1 kd1 x0 m0 V ps pc sl rv sh cd σ1 σ2) (hw : 0 < zM m0 σ2 → zLw x0 m0 σ1 σ2) (hl : zLen x0 m0 σ1 σ2) (hx : zT L1 kd1 x0 10) (hI : zI κ 0 L1 kd1 σ1) (hJ : zJ κ L2 kd2 σ2) (hm : zT L2 kd2 m0 11) (hg : gN m0 σ2) (f1 : (v1, τ1) = F_X10_loss x0 p σ1) (f2 : (v2, τ2) = F_X11_loss m0 p σ2) : v1.toInt = v2.toInt := by
  have e0 : (0 : Int32).toInt = 0 := by decide
  have o1 : (1 : Int32).toInt = 1 := by decide
  obtain ⟨N', -, -, ⟨n3, n4, n5, -⟩, -⟩ := h.2.2
  have xN : (σ1.1 ((σ1.2.2 x0 10).getD 0) 0 - (1 : Int32)).toInt = (N' : Int) - 1 := by rw [zb_sub (by rw [o1]; omega) (by rw [o1]; omega), o1, n3]
  have xM : (F_X11_many m0 σ2 - (1 : Int32)).toInt = (N' : Int) - 1 := by
    have : (F_X11_many m0 σ2).toInt = N' := by rw [mMany]; exact n4
    rw [zb_sub (by rw [o1]; omega) (by rw [o1]; omega), o1, this]
  unfold F_X10_loss at f1
  unfold F_X11_loss at f2
  simp only [zlt, zlt2, cPlace, mBeside, cWithin, mIn, e0, o1, xN, xM] at f1 f2
  by_cases c : 1 ≤ p.toInt ∧ p.toInt ≤ (N' : Int) - 1
  · rw [if_neg (show ¬ p.toInt = 0 by omega), if_neg (fun z => z ⟨by omega, c.2⟩)] at f1
    rw [if_neg (fun z => z c)] at f2
    obtain ⟨F, v, s', t', -, k2, k3, -⟩ := h.lossE hw hl hx hI hJ hm hg c.1 (by omega)
    rw [k2] at f1
    rw [k3] at f2
    rw [(zPr2 f1).1, (zPr2 f2).1]
  · rw [if_pos c] at f2
    rw [(zPr2 f2).1]
    by_cases z : p.toInt = 0
    · rw [if_pos z] at f1
      rw [(zPr2 f1).1]
    · rw [if_neg z, if_pos (by omega)] at f1
      rw [(zPr2 f1).1]
theorem zRL.part (h : zRL zQw L1 kd1 x0 m0 V ps pc sl rv sh cd σ1 σ2) (hw : 0 < zM m0 σ2 → zLw x0 m0 σ1 σ2) (hl : zLen x0 m0 σ1 σ2) (hx : zT L1 kd1 x0 10) (hI : zI κ 0 L1 kd1 σ1) (hJ : zJ κ L2 kd2 σ2) (hm : zT L2 kd2 m0 11) (hg : gN m0 σ2) (f1 : (v1, τ1) = F_X10_part x0 p σ1) (f2 : (v2, τ2) = F_X11_part m0 p σ2) : v1.toInt = v2.toInt := by
  have e0 : (0 : Int32).toInt = 0 := by decide
  have o1 : (1 : Int32).toInt = 1 := by decide
  have w0 : (0 : Int32).toNatClampNeg = 0 := by decide
  obtain ⟨N', -, -, ⟨n3, n4, n5, -⟩, -⟩ := h.2.2
  have xN : (σ1.1 ((σ1.2.2 x0 10).getD 0) 0 - (1 : Int32)).toInt = (N' : Int) - 1 := by rw [zb_sub (by rw [o1]; omega) (by rw [o1]; omega), o1, n3]
  have xM : (F_X11_many m0 σ2 - (1 : Int32)).toInt = (N' : Int) - 1 := by
    have : (F_X11_many m0 σ2).toInt = N' := by rw [mMany]; exact n4
    rw [zb_sub (by rw [o1]; omega) (by rw [o1]; omega), o1, this]
  unfold F_X10_part at f1
  unfold F_X11_part at f2
  simp only [zlt, zlt2, cPlace, mBeside, cWithin, mIn, e0, o1, xN, xM] at f1 f2
  by_cases c : 1 ≤ p.toInt ∧ p.toInt ≤ (N' : Int) - 1
  · rw [if_neg (show ¬ p.toInt = 0 by omega), if_neg (fun z => z ⟨by omega, c.2⟩)] at f1
    rw [if_neg (fun z => z c)] at f2
    obtain ⟨F, v, s', t', k1, k2, k3, k4, k5⟩ := h.lossE hw hl hx hI hJ hm hg c.1 (by omega)
    rw [k1] at f1
    simp only [k2] at f1
    simp only [k3, k4, w0, k5] at f2
    by_cases z : F.toInt = 0
    · rw [if_pos z] at f1 f2
      rw [(zPr2 f1).1, (zPr2 f2).1]
    · rw [if_neg z] at f1 f2
      rw [(zPr2 f1).1, (zPr2 f2).1, Int32.mul_comm]
  · rw [if_pos c] at f2
    rw [(zPr2 f2).1]
    by_cases z : p.toInt = 0
    · rw [if_pos z] at f1
      rw [(zPr2 f1).1]
    · rw [if_neg z, if_pos (by omega)] at f1
      rw [(zPr2 f1).1]
end LOSS
section RP6
variable {κ : Int} {L1 : List Nat} {kd1 : Nat → Nat} {L2 : List Nat} {kd2 : Nat → Nat} {σ1 σ2 τ1 τ2 : zS} {m0 x0 : Nat} {v1 v2 p : Int32}
theorem zRP.loss (h : zRP κ L1 kd1 L2 kd2 x0 m0 σ1 σ2) (hI : zI κ 0 L1 kd1 σ1) (hJ : zJ κ L2 kd2 σ2) (hx : zT L1 kd1 x0 10) (hm : zT L2 kd2 m0 11) (hg : gN m0 σ2) (f1 : (v1, τ1) = F_X10_loss x0 p σ1) (f2 : (v2, τ2) = F_X11_loss m0 p σ2) : v1.toInt = v2.toInt := by
  obtain ⟨V, ps, pc, sl, rv, sh, cd, hR⟩ := h.2.2
  exact hR.loss h.2.1 h.1.2 hx hI hJ hm hg f1 f2
theorem zRP.part (h : zRP κ L1 kd1 L2 kd2 x0 m0 σ1 σ2) (hI : zI κ 0 L1 kd1 σ1) (hJ : zJ κ L2 kd2 σ2) (hx : zT L1 kd1 x0 10) (hm : zT L2 kd2 m0 11) (hg : gN m0 σ2) (f1 : (v1, τ1) = F_X10_part x0 p σ1) (f2 : (v2, τ2) = F_X11_part m0 p σ2) : v1.toInt = v2.toInt := by
  obtain ⟨V, ps, pc, sl, rv, sh, cd, hR⟩ := h.2.2
  exact hR.part h.2.1 h.1.2 hx hI hJ hm hg f1 f2
end RP6
end
-- 35y22.lw55
section
/-! ANSWERS OF NOW: basin -/
section BASIN
variable {κ : Int} {L1 : List Nat} {kd1 : Nat → Nat} {L2 : List Nat} {kd2 : Nat → Nat} {σ1 σ2 τ1 τ2 s t : zS} {m0 x0 : Nat} {V : zWh} {ps pc sl rv sh cd : Nat} {v1 v2 p k x : Int32} {q Y : Nat → Nat} {B N : Nat} {gl : zGl} {u l : Nat → Nat}
/-- who comes by, bit by bit alike -/
theorem zRL.comeE (h : zRL zQw L1 kd1 x0 m0 V ps pc sl rv sh cd σ1 σ2) (hl : zLen x0 m0 σ1 σ2) (hx : zT L1 kd1 x0 10) (hI : zI κ 0 L1 kd1 σ1) (hJ : zJ κ L2 kd2 σ2) (hm : zT L2 kd2 m0 11) (hg : gN m0 σ2) {P : Nat} (hp : x.toInt = P) (hP : (P : Int) < zM m0 σ2) : F_X6_comingBy sh x (F_X10_look x0 σ1) = ((F_X11_copies m0 σ2).1 (mR σ2 m0 54) P, F_X10_look x0 σ1) := by
  obtain ⟨N, M, u, FR, SR, ℓ, l, A1, A2, A3, A4, A6, s, t, hs, ht, ⟨⟨n1, n2, n3, n4⟩, -, hb, -, hM⟩, ⟨g0, g1, g2, g3, g4, g6⟩, hS, hMN⟩ := h.lk2 zGd.q1 hl hx hI hJ hm hg
  obtain ⟨K, e1, e2⟩ := cCmg (xq := x) (q := P) hS g6 n1 hp (by omega) 10000 0 0 0 (by decide) (by omega) (by omega) (fun j hj => by
    rw [b_0]
    exact ⟨fun z => (by cases z), fun z => absurd z.2 (by omega)⟩)
  have eK : t.1 (mR σ2 m0 54) P = K := b_ext (fun j hj => by
    have a := e2 j hj
    have b := hM.2.1 P j (by omega) hj
    cases h1 : bt (t.1 (mR σ2 m0 54) P) j with
    | true =>
      rw [h1] at b
      exact (a.mpr (b.mp rfl)).symm
    | false =>
      cases h2 : bt K j with
      | false => rfl
      | true =>
        rw [h1] at b
        have := b.mpr (a.mp h2)
        cases this)
  rw [← hs, ← ht, eK]
  unfold F_X6_comingBy
  simp only [zlt]
  exact e1
theorem basinL (S : zSd q Y m0 B N gl u l s t) (Dn : zDn q Y N s t) (RN : ∀ p, p < N → s.1 (q 5) p = rCl q s gl 0 p) {K : Int32} {P : Nat} (hp : p.toInt = P) (hK : t.1 (Y 54) P = K) : ∀ (n n' : Nat) (y z : Int32) (i : Nat) (τ : zS), y.toInt = i → 13 - i < n → 13 - i < n' → zFr (zVw Y m0) t τ → (F_X5_rainsOf_4 (q 0) K n y z s).1 = (F_X11_basin_39 m0 p k n' y z τ).1 := by
  have E := S.eq Dn
  have hN := S.1.2.2.2.1
  have M := S.2.1.2.2.2.2.1
  have g54 := (S.2.1.1.1 54 (by unfold zYj; omega)).1
  have g1 : (s.2.2 (q 0) 0).getD 0 = q 1 := S.1.1.1.1.1
  have g5 : (s.2.2 (q 0) 2).getD 0 = q 5 := S.1.1.1.1.2.2.2.2.1
  have h0 := S.1.2.2.1
  have o1 : (1 : Int32).toInt = 1 := by decide
  have nP : p.toNatClampNeg = P := by rw [ztn, hp]; rfl
  intro n
  induction n with
  | zero => intro n' y z i τ _ h; exact absurd h (by omega)
  | succ n ih =>
    intro n' y z i τ hy hn hn' f
    obtain ⟨n', rfl⟩ : ∃ k, n' = k + 1 := ⟨n' - 1, by omega⟩
    have ny : y.toNatClampNeg = i := by rw [ztn, hy]; rfl
    have r54 : τ.1 (Y 54) = t.1 (Y 54) := zVw.r S.2.1.1 f (by unfold zYj; omega) (by decide)
    rw [F_X5_rainsOf_4, F_X11_basin_39]
    simp only [↓zlt, ↓zlt2, g1, g5, f.rf, g54, mMany_w S.2.1.1 f, r54, nP, hK, o1, ny]
    by_cases c : i < N
    · rw [if_pos (show y.toInt < (s.1 (q 1) 0).toInt by omega), if_pos (show y.toInt < (F_X11_many m0 t).toInt by omega)]
      have y1 := zp1 hy (by omega)
      have cut := bt_cut (x := K) hy (by omega)
      have hs := cHas (x := K) hy (by omega)
      by_cases d : bt K i = true
      · rw [if_pos d] at hs
        rw [if_neg (show ¬ (F_X10_has K y).toInt = 0 by omega), if_pos (cut.2.mpr d)]
        obtain ⟨τ', e1, e2⟩ := mRainW S.2.1.1 S.2.1.2.1 S.2.1.2.2.1 (S.2.1.2.2.2.1 (by omega)) f hy (by omega)
        rw [e1]
        have er : s.1 (q 5) i = F_X11_within (vMl Y B t gl 0 i 0) 0 999 := by
          rw [RN i c, rEq E c]
          unfold rMl
          rw [Int32.add_zero]
        rw [er]
        exact ih n' _ _ (i + 1) τ' y1 (by omega) (by omega) (f.tr (zUw.up e2))
      · rw [if_neg d] at hs
        rw [if_pos hs, if_neg (fun z => d (cut.2.mp z))]
        exact ih n' _ _ (i + 1) τ y1 (by omega) (by omega) f
    · rw [if_neg (show ¬ y.toInt < (s.1 (q 1) 0).toInt by omega), if_neg (show ¬ y.toInt < (F_X11_many m0 t).toInt by omega)]
theorem zRL.basin (h : zRL zQw L1 kd1 x0 m0 V ps pc sl rv sh cd σ1 σ2) (hw : 0 < zM m0 σ2 → zLw x0 m0 σ1 σ2) (hl : zLen x0 m0 σ1 σ2) (hx : zT L1 kd1 x0 10) (hI : zI κ 0 L1 kd1 σ1) (hJ : zJ κ L2 kd2 σ2) (hm : zT L2 kd2 m0 11) (hg : gN m0 σ2) (f1 : (v1, τ1) = F_X10_basin x0 p k σ1) (f2 : (v2, τ2) = F_X11_basin m0 p k σ2) : v1.toInt = v2.toInt := by
  obtain ⟨td, B, N, gl, u, l, q, Y, d1, n2, eL, xr, ⟨hq, hY⟩, ⟨S, Dn, FL, RN⟩, -, -⟩ := h.now hw hl hx hI hJ hm hg
  have e0 : (0 : Int32).toInt = 0 := by decide
  have o1 : (1 : Int32).toInt = 1 := by decide
  have hV := h.2.1
  have g3 : (σ1.2.2 x0 3).getD 0 = sh := by rw [hV.1.2.1]; rfl
  have q0 : q 0 = rv := by rw [hq]; rfl
  obtain ⟨N', -, -, ⟨n3, n4, n5, -⟩, -⟩ := h.2.2
  have xN : (σ1.1 ((σ1.2.2 x0 10).getD 0) 0 - (1 : Int32)).toInt = (N' : Int) - 1 := by rw [zb_sub (by rw [o1]; omega) (by rw [o1]; omega), o1, n3]
  have xM : (F_X11_many m0 σ2 - (1 : Int32)).toInt = (N' : Int) - 1 := by
    have : (F_X11_many m0 σ2).toInt = N' := by rw [mMany]; exact n4
    rw [zb_sub (by rw [o1]; omega) (by rw [o1]; omega), o1, this]
  unfold F_X10_basin at f1
  unfold F_X11_basin at f2
  simp only [zlt, zlt2, cPlace, mPlc, cWithin, mIn, e0, o1, xN, xM, xr, g3] at f1 f2
  have CE0 := fun (P : Nat) (hp : p.toInt = P) (hP : (P : Int) < zM m0 σ2) => h.comeE hl hx hI hJ hm hg hp hP
  obtain ⟨s, hs⟩ : ∃ s, s = F_X10_look x0 σ1 := ⟨_, rfl⟩
  obtain ⟨t, ht⟩ : ∃ t, t = F_X11_copies m0 σ2 := ⟨_, rfl⟩
  rw [← hs] at S Dn FL RN f1 xr
  rw [← ht] at S Dn FL f2
  rw [← hs, ← ht] at CE0
  clear eL hs ht
  by_cases c : 0 ≤ p.toInt ∧ p.toInt ≤ (N' : Int) - 1
  · rw [if_neg (fun z => z c)] at f1 f2
    obtain ⟨P, hp⟩ : ∃ P : Nat, p.toInt = P := ⟨p.toInt.toNat, by omega⟩
    have nP : p.toNatClampNeg = P := by rw [ztn, hp]; rfl
    have CE := CE0 P hp (by omega)
    by_cases d : 0 ≤ k.toInt ∧ k.toInt ≤ 1
    · rw [if_neg (fun z => z d)] at f1 f2
      rw [← hY] at CE
      simp only [CE, xr, xrv hV] at f1
      have g54 : (t.2.2 m0 54).getD 0 = Y 54 := (S.2.1.1.1 54 (by unfold zYj; omega)).1
      by_cases z : k.toInt = 0
      · rw [if_pos z] at f1 f2
        rw [(zPr2 f1).1, (zPr2 f2).1, g54, nP]
      · rw [if_neg z] at f1 f2
        have L := basinL (k := k) S Dn RN hp rfl 10000 10000 0 0 0 t (by decide) (by omega) (by omega) zFr.id
        have eR : (F_X5_rainsOf (q 0) (t.1 (Y 54) P) s).1 = (F_X5_rainsOf_4 (q 0) (t.1 (Y 54) P) 10000 0 0 s).1 := by
          unfold F_X5_rainsOf
          simp only [zlt]
        rw [q0] at eR L
        rw [show v1 = _ from congrArg Prod.fst f1, show v2 = _ from congrArg Prod.fst f2]
        exact congrArg Int32.toInt (eR.trans L)
    · rw [if_pos d] at f1 f2
      rw [(zPr2 f1).1, (zPr2 f2).1]
  · rw [if_pos c] at f1 f2
    rw [(zPr2 f1).1, (zPr2 f2).1]
theorem zRP.basin (h : zRP κ L1 kd1 L2 kd2 x0 m0 σ1 σ2) (hI : zI κ 0 L1 kd1 σ1) (hJ : zJ κ L2 kd2 σ2) (hx : zT L1 kd1 x0 10) (hm : zT L2 kd2 m0 11) (hg : gN m0 σ2) (f1 : (v1, τ1) = F_X10_basin x0 p k σ1) (f2 : (v2, τ2) = F_X11_basin m0 p k σ2) : v1.toInt = v2.toInt := by
  obtain ⟨V, ps, pc, sl, rv, sh, cd, hR⟩ := h.2.2
  exact hR.basin h.2.1 h.1.2 hx hI hJ hm hg f1 f2
end BASIN
end
