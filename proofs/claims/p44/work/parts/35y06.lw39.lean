/-! ANSWERS OF NOW: claim, winner, behind -/
/-- both look at now -/
def zNw (q Y : Nat → Nat) (a b N : Nat) (g : zGl) (u l : Nat → Nat) (s t : zS) : Prop := zSd q Y a b N g u l s t ∧ zDn q Y N s t ∧ (∀ p, p < N → s.1 (q 6) p = t.1 (Y 55) p ∧ 0 ≤ (s.1 (q 6) p).toInt) ∧ ∀ p, p < N → s.1 (q 5) p = rCl q s g 0 p
section NOW0
variable {q Y : Nat → Nat} {a b N : Nat} {s1 s2 w t : zS} {g : zGl} {v : Int32} {u l : Nat → Nat}
theorem zMb.look (M : zMb q Y a b N g u l v s1 s2 w t) : zNw q Y a b N g u l (F_X5_fall (q 0) 0 w) t := by
  obtain ⟨S, Dn, -, -, -, -, -, -, FL⟩ := M
  have L := S.fall Dn (m := 0) (by decide) zFr.id zFr.id
  refine ⟨S.fr (zRw.up L.1) zFr.id, Dn.up1 S.1.1 L.1, fun p hp => ⟨FL p hp, L.2.2.2.2 p hp⟩, fun p hp => ?_⟩
  rw [L.2.2.2.1 p hp]
  unfold rCl vCl
  rw [show fCt q (F_X5_fall (q 0) 0 w) (pI p) 0 = fCt q w (pI p) 0 from fCt.cg (fun i hi => zRw.r S.1.1 L.1 (by omega) (by omega))]
end NOW0
section WN2
variable {S : Nat → Bool} {C : Nat → Int32} {but : Int}
theorem wn_0 : ∀ i p, p < i → S p = true → (p : Int) ≠ but → 0 ≤ wn S C but i := by
  intro i
  induction i with
  | zero => intro p h; exact absurd h (by omega)
  | succ i ih =>
    intro p hp h1 h2
    by_cases c : S i = true ∧ (i : Int) ≠ but ∧ (wn S C but i < 0 ∨ (C (wn S C but i).toNat).toInt < (C i).toInt)
    · rw [wn_y c.1 c.2.1 c.2.2]
      omega
    · rw [wn_n c]
      by_cases e : p = i
      · subst e
        apply Classical.byContradiction
        intro z
        exact c ⟨h1, h2, Or.inl (by omega)⟩
      · exact ih p (by omega) h1 h2
end WN2
section NOW
variable {κ : Int} {L1 : List Nat} {kd1 : Nat → Nat} {L2 : List Nat} {kd2 : Nat → Nat} {σ1 σ2 τ1 τ2 s t : zS} {m0 x0 : Nat} {V : zWh} {ps pc sl rv sh cd B N : Nat} {q Y : Nat → Nat} {gl : zGl} {u l : Nat → Nat} {v1 v2 p k : Int32}
theorem zRL.now (h : zRL zQw L1 kd1 x0 m0 V ps pc sl rv sh cd σ1 σ2) (hw : 0 < zM m0 σ2 → zLw x0 m0 σ1 σ2) (hl : zLen x0 m0 σ1 σ2) (hx : zT L1 kd1 x0 10) (hI : zI κ 0 L1 kd1 σ1) (hJ : zJ κ L2 kd2 σ2) (hm : zT L2 kd2 m0 11) (hg : gN m0 σ2) : ∃ (td B N : Nat) (gl : zGl) (u l : Nat → Nat) (q Y : Nat → Nat), σ1.2.2 x0 10 = some td ∧ zM m0 σ2 = N ∧ F_X5_look rv td (V.1 0) σ1 = F_X10_look x0 σ1 ∧ (∀ j, (F_X10_look x0 σ1).2.2 x0 j = σ1.2.2 x0 j) ∧ (q = qOf σ1.2.2 rv sh cd td V 0 ∧ Y = mR σ2 m0) ∧ zNw q Y m0 B N gl u l (F_X10_look x0 σ1) (F_X11_copies m0 σ2) ∧ (0 < N → zSo q Y B (F_X10_look x0 σ1) (F_X11_copies m0 σ2)) ∧ (0 < N → (F_X11_copies m0 σ2).1 m0 50 = σ1.1 td 13) := by
  obtain ⟨td, B, N, gl, u, l, d1, n2, -, M⟩ := zSd.of zGd.q1 (fun _ _ _ h => h) h hw hl hx hI hJ hm hg (s0 := σ1) (fun _ _ _ => rfl) (fun _ _ _ _ => rfl) (k := 0) (by decide) rfl
  have hL := h.1
  have hV := h.2.1
  have g10 : (σ1.2.2 x0 10).getD 0 = td := by rw [d1]; rfl
  have e1 : F_X5_look rv td (V.1 0) σ1 = F_X10_look x0 σ1 := by
    unfold F_X10_look
    simp only [zlt, xrv hV, g10, xnw hL]
  have e2 : F_X10_look x0 σ1 = F_X5_fall rv 0 (F_X5_form rv td (V.1 0) σ1) := by
    rw [← e1]
    unfold F_X5_look
    simp only [zlt]
  have pv := zLookN hL hV
  have LK := M.look
  have f0 : zFr (zRw (qOf σ1.2.2 rv sh cd td V 0)) (F_X5_form rv td (V.1 0) σ1) (F_X5_fall (qOf σ1.2.2 rv sh cd td V 0 0) 0 (F_X5_form rv td (V.1 0) σ1)) := (M.1.fall M.2.1 (m := 0) (by decide) zFr.id zFr.id).1
  have So := fun hN : 0 < N => (M.2.2.1 hN).fr M.1.1.1 M.1.2.1.1 (zRw.up f0) zFr.id
  refine ⟨td, B, N, gl, u, l, _, _, d1, n2, e1, fun j => pv.1 x0 j (fun z => zNk hx hV.2.1.2.1 (by decide) z.1), ⟨rfl, rfl⟩, ?_, ?_, M.2.2.2.2.1⟩
  · rw [e2]; exact LK
  · intro hN
    rw [e2]; exact So hN
/-- who can claim by which law -/
theorem cCt (hV : zRv L1 kd1 x0 rv sh cd σ1.2.2) (hL : zLay L1 kd1 x0 σ1.2.2 V ps pc sl) {td : Nat} (d1 : σ1.2.2 x0 10 = some td) (eL : F_X5_look rv td (V.1 0) σ1 = F_X10_look x0 σ1) (xr : ∀ j, (F_X10_look x0 σ1).2.2 x0 j = σ1.2.2 x0 j) (q1 : q 1 = sh) (S : zSd q Y m0 B N gl u l (F_X10_look x0 σ1) t) : ∃ v, F_X10_isContest x0 p k σ1 = (v, F_X10_look x0 σ1) ∧ (v.toInt = 0 ↔ ¬ ((0 ≤ k.toInt ∧ k.toInt ≤ 2) ∧ 0 ≤ p.toInt ∧ Src N u p.toInt.toNat)) := by
  have e0 : (0 : Int32).toInt = 0 := by decide
  have e2 : (2 : Int32).toInt = 2 := by decide
  have e1 : ¬ (1 : Int32).toInt = 0 := by decide
  have g10 : (σ1.2.2 x0 10).getD 0 = td := by rw [d1]; rfl
  have g3 : (σ1.2.2 x0 3).getD 0 = sh := by rw [hV.1.2.1]; rfl
  have a8 := S.1.2.2.2.2.2.2.2 p
  have a9 := cIsR (x := p) S.1.1 (zFr.id (σ := F_X10_look x0 σ1))
  rw [q1] at a8 a9
  unfold F_X10_isContest
  simp only [zlt, zlt2, xrv hV, g10, xnw hL, eL, cLaw, cWithin, e0, e2, xr, g3]
  clear xr eL S
  obtain ⟨s, hs⟩ : ∃ s, s = F_X10_look x0 σ1 := ⟨_, rfl⟩
  rw [← hs] at a8 a9 ⊢
  by_cases c : 0 ≤ k.toInt ∧ k.toInt ≤ 2
  · rw [if_neg (fun z => z c)]
    by_cases d : (F_X6_isSource sh p s).1.toInt = 0
    · rw [if_pos d, a9]
      exact ⟨0, rfl, fun _ z => (a8.mp d) z.2, fun _ => e0⟩
    · rw [if_neg d, a9]
      refine ⟨1, rfl, fun z => absurd z e1, fun z => absurd ?_ z⟩
      refine ⟨c, ?_⟩
      apply Classical.byContradiction
      intro y
      exact d (a8.mpr y)
  · rw [if_pos c]
    exact ⟨0, rfl, fun _ z => c z.1, fun _ => e0⟩
theorem mCt (S : zSd q Y m0 B N gl u l s (F_X11_copies m0 σ2)) : ∃ v, F_X11_isClaim m0 p k σ2 = (v, F_X11_copies m0 σ2) ∧ (v.toInt = 0 ↔ ¬ ((0 ≤ k.toInt ∧ k.toInt ≤ 2) ∧ 0 ≤ p.toInt ∧ Src N u p.toInt.toNat)) := by
  have e0 : (0 : Int32).toInt = 0 := by decide
  have e2 : (2 : Int32).toInt = 2 := by decide
  have e1 : ¬ (1 : Int32).toInt = 0 := by decide
  have b8 := S.2.1.2.2.2.2.2.2.2 p
  unfold F_X11_isClaim
  simp only [zlt, mLaw, mIn, e0, e2]
  by_cases d : (F_X11_isSource m0 p (F_X11_copies m0 σ2)).toInt = 0
  · rw [if_pos d]
    exact ⟨0, rfl, fun _ z => (b8.mp d) z.2, fun _ => e0⟩
  · rw [if_neg d]
    have y : 0 ≤ p.toInt ∧ Src N u p.toInt.toNat := by
      apply Classical.byContradiction
      intro y
      exact d (b8.mpr y)
    by_cases c : 0 ≤ k.toInt ∧ k.toInt ≤ 2
    · rw [if_neg (fun z => z c)]
      exact ⟨1, rfl, fun z => absurd z e1, fun z => absurd ⟨c, y⟩ z⟩
    · rw [if_pos c]
      exact ⟨0, rfl, fun _ z => c z.1, fun _ => e0⟩
theorem zRL.claim (h : zRL zQw L1 kd1 x0 m0 V ps pc sl rv sh cd σ1 σ2) (hw : 0 < zM m0 σ2 → zLw x0 m0 σ1 σ2) (hl : zLen x0 m0 σ1 σ2) (hx : zT L1 kd1 x0 10) (hI : zI κ 0 L1 kd1 σ1) (hJ : zJ κ L2 kd2 σ2) (hm : zT L2 kd2 m0 11) (hg : gN m0 σ2) (f1 : (v1, τ1) = F_X10_claim x0 p k σ1) (f2 : (v2, τ2) = F_X11_claim m0 p k σ2) : v1.toInt = v2.toInt := by
  obtain ⟨td, B, N, gl, u, l, q, Y, d1, n2, eL, xr, ⟨hq, hY⟩, ⟨S, Dn, FL, RN⟩, -, -⟩ := h.now hw hl hx hI hJ hm hg
  have q0 : q 0 = rv := by rw [hq]; rfl
  have q1 : q 1 = sh := by rw [hq]; rfl
  have E := S.eq Dn
  obtain ⟨w1, e1, i1⟩ := cCt (p := p) (k := k) h.2.1 h.1 d1 eL xr q1 S
  obtain ⟨w2, e2, i2⟩ := mCt (p := p) (k := k) S
  unfold F_X10_claim at f1
  unfold F_X11_claim at f2
  simp only [zlt, zlt2, e1, e2, xr, xrv h.2.1] at f1 f2
  by_cases c : (0 ≤ k.toInt ∧ k.toInt ≤ 2) ∧ 0 ≤ p.toInt ∧ Src N u p.toInt.toNat
  · rw [if_neg (fun z => i1.mp z c)] at f1
    rw [if_neg (fun z => i2.mp z c)] at f2
    obtain ⟨⟨k1, k2⟩, p1, sp⟩ := c
    have hp : p.toInt = (p.toInt.toNat : Nat) := by omega
    have hk : k.toInt = (k.toInt.toNat : Nat) := by omega
    obtain ⟨x, x1, -⟩ := cClaim S.1.1 (S.1.2.1 (by have := sp.2.1; omega)) zFr.id hk (by omega) hp
    obtain ⟨y, y1, -⟩ := mClaimW S.2.1.1 S.2.1.2.1 S.2.1.2.2.1 (S.2.1.2.2.2.1 (by have := sp.2.1; omega)) zFr.id hk (by omega) hp (by have := sp.2.1; have := S.1.2.2.2.1; omega)
    rw [q0] at x1
    rw [x1] at f1
    rw [y1] at f2
    rw [(zPr2 f1).1, (zPr2 f2).1, clEq E sp.2.1, (FL _ sp.2.1).1]
  · rw [if_pos (i1.mpr c)] at f1
    rw [if_pos (i2.mpr c)] at f2
    rw [(zPr2 f1).1, (zPr2 f2).1]
theorem zRL.winner (h : zRL zQw L1 kd1 x0 m0 V ps pc sl rv sh cd σ1 σ2) (hw : 0 < zM m0 σ2 → zLw x0 m0 σ1 σ2) (hl : zLen x0 m0 σ1 σ2) (hx : zT L1 kd1 x0 10) (hI : zI κ 0 L1 kd1 σ1) (hJ : zJ κ L2 kd2 σ2) (hm : zT L2 kd2 m0 11) (hg : gN m0 σ2) (f1 : (v1, τ1) = F_X10_winner x0 k σ1) (f2 : (v2, τ2) = F_X11_winner m0 k σ2) : v1.toInt = v2.toInt := by
  obtain ⟨td, B, N, gl, u, l, q, Y, d1, n2, eL, xr, ⟨hq, hY⟩, ⟨S, Dn, FL, RN⟩, -, -⟩ := h.now hw hl hx hI hJ hm hg
  have e0 : (0 : Int32).toInt = 0 := by decide
  have e2 : (2 : Int32).toInt = 2 := by decide
  have q0 : q 0 = rv := by rw [hq]; rfl
  have E := S.eq Dn
  unfold F_X10_winner at f1
  unfold F_X11_winner at f2
  simp only [zlt, zlt2, cLaw, mLaw, cWithin, mIn, e0, e2, xr, xrv h.2.1] at f1 f2
  by_cases c : 0 ≤ k.toInt ∧ k.toInt ≤ 2
  · rw [if_neg (fun z => z c)] at f1 f2
    have hk : k.toInt = (k.toInt.toNat : Nat) := by omega
    obtain ⟨x, s', x1, x2, -⟩ := cWin S.1.1 S.1.2.1 S.1.2.2.1 S.1.2.2.2.1 S.1.2.2.2.2.2.2.2 hk (by omega) zFr.id (fun p _ => rfl)
    obtain ⟨y, t', y1, y2, -⟩ := mWin S.2.1.1 S.2.1.2.1 S.2.1.2.2.1 S.2.1.2.2.2.1 S.2.1.2.2.2.2.1 S.1.2.2.2.1 S.2.1.2.2.2.2.2.2.2 hk (by omega) zFr.id (fun p _ => rfl)
    rw [q0] at x1
    rw [x1] at f1
    rw [y1] at f2
    rw [(zPr2 f1).1, (zPr2 f2).1]
    show x.toInt = y.toInt
    rw [x2, y2]
    exact wnEq E (fun p hp => (FL p hp).1)
  · rw [if_pos c] at f1 f2
    rw [(zPr2 f1).1, (zPr2 f2).1]
theorem zRL.behind (h : zRL zQw L1 kd1 x0 m0 V ps pc sl rv sh cd σ1 σ2) (hw : 0 < zM m0 σ2 → zLw x0 m0 σ1 σ2) (hl : zLen x0 m0 σ1 σ2) (hx : zT L1 kd1 x0 10) (hI : zI κ 0 L1 kd1 σ1) (hJ : zJ κ L2 kd2 σ2) (hm : zT L2 kd2 m0 11) (hg : gN m0 σ2) (f1 : (v1, τ1) = F_X10_behind x0 p k σ1) (f2 : (v2, τ2) = F_X11_behind m0 p k σ2) : v1.toInt = v2.toInt := by
  obtain ⟨td, B, N, gl, u, l, q, Y, d1, n2, eL, xr, ⟨hq, hY⟩, ⟨S, Dn, FL, RN⟩, -, -⟩ := h.now hw hl hx hI hJ hm hg
  have q0 : q 0 = rv := by rw [hq]; rfl
  have q1 : q 1 = sh := by rw [hq]; rfl
  have E := S.eq Dn
  obtain ⟨w1, e1, i1⟩ := cCt (p := p) (k := k) h.2.1 h.1 d1 eL xr q1 S
  obtain ⟨w2, e2, i2⟩ := mCt (p := p) (k := k) S
  unfold F_X10_behind at f1
  unfold F_X11_behind at f2
  simp only [zlt, zlt2, e1, e2, xr, xrv h.2.1] at f1 f2
  by_cases c : (0 ≤ k.toInt ∧ k.toInt ≤ 2) ∧ 0 ≤ p.toInt ∧ Src N u p.toInt.toNat
  · rw [if_neg (fun z => i1.mp z c)] at f1
    rw [if_neg (fun z => i2.mp z c)] at f2
    obtain ⟨⟨k1, k2⟩, p1, sp⟩ := c
    obtain ⟨P, hp⟩ : ∃ P : Nat, p.toInt = P := ⟨p.toInt.toNat, by omega⟩
    obtain ⟨w, hk⟩ : ∃ w : Nat, k.toInt = w := ⟨k.toInt.toNat, by omega⟩
    rw [show p.toInt.toNat = P by omega] at sp
    have hN := S.1.2.2.2.1
    have nP : p.toNatClampNeg = P := by rw [ztn, hp]; rfl
    obtain ⟨x, s', x1, x2, x3, x4, x5⟩ := cWin S.1.1 S.1.2.1 S.1.2.2.1 hN S.1.2.2.2.2.2.2.2 hk (by omega) zFr.id (fun p _ => rfl)
    obtain ⟨y, t', y1, y2, y3, y4⟩ := mWin S.2.1.1 S.2.1.2.1 S.2.1.2.2.1 S.2.1.2.2.2.1 S.2.1.2.2.2.2.1 hN S.2.1.2.2.2.2.2.2.2 hk (by omega) zFr.id (fun p _ => rfl)
    have xy : x.toInt = y.toInt := by
      rw [x2, y2]
      exact wnEq E (fun p hp => (FL p hp).1)
    have w0 : 0 ≤ x.toInt := by
      rw [x2]
      exact wn_0 N P sp.2.1 (sB_t.mpr sp) (by omega)
    obtain ⟨W, W1, W2, W3, -⟩ := (wn_r (S := sB N u) (C := fun p => clC q (F_X10_look x0 σ1) gl w p ((F_X10_look x0 σ1).1 (q 6) p)) (but := -1) N).resolve_left (by omega)
    have hW : x.toInt = W := by omega
    have sW := sB_t.mp W3
    have nW : x.toNatClampNeg = W := by rw [ztn, hW]; rfl
    obtain ⟨a, a1, a2⟩ := mClaimW (p := y) S.2.1.1 S.2.1.2.1 S.2.1.2.2.1 (S.2.1.2.2.2.1 (by omega)) y3 hk (by omega) (xy.symm.trans hW) (by omega)
    obtain ⟨a', a1', a2'⟩ := mClaimW (p := p) S.2.1.1 S.2.1.2.1 S.2.1.2.2.1 (S.2.1.2.2.2.1 (by omega)) (y3.tr (zUw.up a2)) hk (by omega) hp (by have := sp.2.1; omega)
    have r55 : t'.1 (Y 55) = (F_X11_copies m0 σ2).1 (Y 55) := zUw.r55 S.2.1.1 y4
    have a55 : a.1 (Y 55) = (F_X11_copies m0 σ2).1 (Y 55) := (zUw.r55 S.2.1.1 a2).trans r55
    rw [r55] at a1
    rw [a55] at a1'
    have g7 : (s'.2.2 rv 4).getD 0 = q 7 := by
      have := S.1.1.1.1.2.2.2.2.2.2
      rw [q0] at this
      rw [x3.rf]
      exact this
    have xs : ∀ j, s'.2.2 x0 j = σ1.2.2 x0 j := fun j => by rw [x3.rf]; exact xr j
    rw [q0] at x1
    rw [x1] at f1
    rw [y1] at f2
    simp only [a1, a1', xs, xrv h.2.1, g7, nW, nP] at f1 f2
    rw [if_neg (by omega)] at f1
    rw [(zPr2 f1).1, (zPr2 f2).1, x5 W sW.1 sW.2.1 sW, x5 P sp.1 sp.2.1 sp, clEq E sW.2.1, clEq E sp.2.1, (FL W sW.2.1).1, (FL P sp.2.1).1]
  · rw [if_pos (i1.mpr c)] at f1
    rw [if_pos (i2.mpr c)] at f2
    rw [(zPr2 f1).1, (zPr2 f2).1]
end NOW
