section LWR3
variable {κ : Int} {L1 : List Nat} {kd1 : Nat → Nat} {L2 : List Nat} {kd2 : Nat → Nat} {σ1 σ2 τ1 τ2 : zS} {m0 x0 : Nat} {V : zWh} {ps pc sl td tt : Nat}
set_option maxHeartbeats 1000000 in
theorem zLw.read {v1 v2 : Int32} (hS : zSAM κ L1 kd1 L2 kd2 σ1 σ2) (hl : 0 < zM m0 σ2 → zLw x0 m0 σ1 σ2) (hL : zLay L1 kd1 x0 σ1.2.2 V ps pc sl) (hTt : zTt x0 σ1.2.2 td tt) (hI1 : zI κ 0 L1 kd1 σ1) (hI2 : zJ κ L2 kd2 σ2) (hx0 : zT L1 kd1 x0 10) (hm0 : zT L2 kd2 m0 11) (f1 : (v1, τ1) = F_X10_read x0 σ1) (f2 : (v2, τ2) = F_X11_read m0 σ2) (hk : zLkp m0 σ2 τ2) : 0 < zM m0 τ2 → zLw x0 m0 τ1 τ2 := by
  obtain ⟨T, m, P, tk, kA, vA, qA, tt', N0, k, q, v, nm, nO, x, p1, p2, C0, D0, S0, y, K, ⟨hd, hd', hTm, hK⟩, ⟨v0, w0⟩, ⟨e, e2⟩, ⟨P1, s1, P2, s2⟩, er, ef, es, dF, tks, hNn⟩ := zRead1N hS hI1 hI2 hx0 hm0
  have ett : tt' = tt := Option.some.inj (s1.symm.trans hTt.2.1)
  subst ett
  obtain ⟨c1, c2, c3⟩ := cRead hL hI1 hx0 hTt P1 P2 s2 hd hK v0 e er ef f1
  obtain ⟨b, E, hb1, h18, hE, rE, E19, EF, EX, m1, m2⟩ := mRead hI2 hm0 hd' hTm hK w0 e2 dF tks f2 (fun _ => (0, 0, 0, 0))
  obtain ⟨MO, MS⟩ := mLwS (b := b) hI2 hm0 hd' hTm hK w0 dF tks hb1 h18
  rw [← hE] at MO MS
  have d1 := hTt.1
  have td9 : zT L1 kd1 td 9 := by
    obtain ⟨z, z1, z2⟩ := zi_ref (j := 10) (k2 := 9) hI1 hx0 (by rfl)
    rw [d1] at z1
    rw [Option.some.inj z1]
    exact z2
  have xP : x0 ≠ P := zNk hx0 P2 (by decide)
  have tP : tt' ≠ P := zNk s2 P2 (by decide)
  have dP : td ≠ P := zNk td9 P2 (by decide)
  have kr := fun j j1 j2 j3 => zTt_k hI1 s2 j j1 j2 j3
  have krd := fun j j1 j2 j3 => zTt_k hI1 td9 j j1 j2 j3
  have gd : (σ1.2.2 x0 10).getD 0 = td := by rw [d1]; rfl
  by_cases za : aAns (aRun T 500 aZ) = 0
  · obtain ⟨⟨z1, z2⟩, g1, -, -, -, -, -, -, g8, g9, g10, -⟩ := c3 za
    obtain ⟨-, N2, l1, l2, -, l4, l5, -, -, -, -, l10⟩ := m2 za
    obtain ⟨X1, X2, X3⟩ := EX z1 z2
    obtain ⟨KK, b1, b2, b3, b4, b5⟩ := cLwS hI1 P2 s2 hd hK hNn v0 er es z1 z2
    obtain ⟨M1, M2⟩ := MS z1
    have r10 : (τ1.2.2 x0 10).getD 0 = tt' := by rw [g1, zu_s]; rfl
    have rt : τ1.2.2 tt' = σ1.2.2 tt' := by rw [g1, zu_n _ _ _ (zNk s2 hx0 (by decide)), zu_n _ _ _ (zNk s2 hx0 (by decide)), zu_n _ _ _ tP]
    have er2 : ∀ s, mR τ2 m0 s = mR σ2 m0 s := fun s => by rw [mR, l4]
    have eY : mR τ2 m0 = mR σ2 m0 := funext er2
    have eb : (τ2.1 m0 18).toInt.toNat = b := by rw [l5]; rfl
    have nB : ∀ x, zQs x → x ≤ 43 → ∀ j, ¬ zBm σ2 m0 (mR σ2 m0 x) j := fun x hx h43 j => by
      obtain ⟨hz, h21⟩ := zQs_k hx
      rintro (⟨z, -⟩ | z | z | z)
      · exact mR_m hI2 hm0 hz (by omega) z
      · exact mR_ne hI2 hm0 hz (s' := 48) (k' := 148) (by rfl) (by omega) z
      · exact mR_ne hI2 hm0 hz (s' := 49) (k' := 149) (by rfl) (by omega) z
      · exact mR_ne hI2 hm0 hz (s' := 67) (k' := 167) (by rfl) (by omega) z
    have Q : ∀ x, ((21 ≤ x ∧ x ≤ 31) ∨ (33 ≤ x ∧ x ≤ 37) ∨ x = 39 ∨ x = 40 ∨ x = 43) → zQs x := fun x hx => by unfold zQs; omega
    have lr : ∀ x, ((21 ≤ x ∧ x ≤ 31) ∨ (33 ≤ x ∧ x ≤ 37) ∨ x = 39 ∨ x = 40 ∨ x = 43) → ∀ j, τ2.1 (mR σ2 m0 x) j = E.1 (mR σ2 m0 x) j := fun x hx j => l10 _ _ (nB x (Q x hx) (by omega) j)
    have M21 : zM m0 τ2 = N2 := by
      unfold zM zp
      show (τ2.1 (mR τ2 m0 21) (τ2.1 m0 18).toInt.toNat).toInt = N2
      rw [er2, eb, lr 21 (by decide)]
      exact l2
    have GN := gN_run (T := T) 500 aZ nS (fun _ _ => ⟨by decide, by decide, by decide, by decide⟩) z1 z2
    obtain ⟨W, hW⟩ : ∃ W : Nat → Nat, W = fun j => (σ1.2.2 tt' j).getD 0 := ⟨_, rfl⟩
    have Wk : ∀ j, 2 ≤ j → j ≤ 5 → zT L1 kd1 (W j) (43 + j) := fun j j1 j2 => by
      have := kr j j1 (by omega) (by omega)
      rw [if_neg (by omega)] at this
      rw [hW]; exact this
    have rC0 : ∀ j, C0.2.2 tt' j = σ1.2.2 tt' j := fun j => by rw [er, zu_n _ _ _ tP]
    have hWz : zWz W P tt' C0.2.2 := ⟨fun j j1 j2 => ⟨by rw [rC0, hW], zNk (Wk j j1 j2) P2 (by omega)⟩, fun i j i1 i2 j1 j2 n => zNk (Wk i i1 i2) (Wk j j1 j2) (by omega)⟩
    have hXz : ∀ j, 2 ≤ j → j ≤ 5 → W j ≠ tt' ∧ W j ≠ (C0.2.2 tt' 6).getD 0 ∧ W j ≠ (C0.2.2 tt' 7).getD 0 ∧ W j ≠ (C0.2.2 tt' 9).getD 0 := fun j j1 j2 => by
      have q6 : zT L1 kd1 ((σ1.2.2 tt' 6).getD 0) 49 := kr 6 (by decide) (by decide) (by decide)
      have q7 : zT L1 kd1 ((σ1.2.2 tt' 7).getD 0) 50 := kr 7 (by decide) (by decide) (by decide)
      have q9 : zT L1 kd1 ((σ1.2.2 tt' 9).getD 0) 51 := kr 9 (by decide) (by decide) (by decide)
      rw [rC0, rC0, rC0]
      exact ⟨zNk (Wk j j1 j2) s2 (by omega), zNk (Wk j j1 j2) q6 (by omega), zNk (Wk j j1 j2) q7 (by omega), zNk (Wk j j1 j2) q9 (by omega)⟩
    obtain ⟨-, VG, -⟩ := vEndI (tt := tt') hd hK (fun τ s g => zVg W τ s g ∧ τ.2.2 = C0.2.2) (aG T) (fun τ s g hv hs hi => ⟨vTellG hd hK hv hs (by rw [hi.2]; exact hWz) (by rw [hi.2]; exact hXz) hi.1, by rw [show (F_X3_telling P τ).2.2 = τ.2.2 from rf_X3_telling (R := τ.2.2) rfl]; exact hi.2⟩) 500 C0 aZ (fun _ => (0, 0, 0, 0)) v0 ⟨fun _ _ p h1 h2 => by have h2' : (p : Int) ≤ 0 := h2; omega, rfl⟩
    have VG' := VG z1 z2
    refine fun _ => ⟨tt', b, KK, gRun T (aGL T) 500 aZ (fun _ => none), r10, eb, ⟨by rw [g9 8 (by decide)]; exact b1, b2⟩, fun w hw => ⟨?_, ?_⟩, fun j p j1 j2 hp => ?_, fun j hj => ?_, ?_⟩
    · rw [rt]
      exact (b3 w hw).cg (g10 6 (by decide) (by decide) (by decide)) (g10 7 (by decide) (by decide) (by decide)) (g10 9 (by decide) (by decide) (by decide))
    · rw [eY]
      exact (M1 w hw).cg (Nat.le_refl _) (Nat.le_refl _) (fun i _ _ => ⟨lr 39 (by decide) i, lr 40 (by decide) i⟩) (fun j i j1 j2 _ _ => lr j (by omega) i) (lr 30 (by decide) _) (lr 31 (by decide) _)
    · rw [M21] at hp
      have cm : (aRun T 500 aZ).2.2.2.2.2.1 ≠ 0 := fun z => by
        rw [l2, if_pos z] at X1
        omega
      have hp' : (p : Int) ≤ (aRun T 500 aZ).2.2.2.2.2.2.1 := by
        rw [l2, if_neg cm] at X1
        omega
      rw [rt, er2, g10 j (by omega) (by omega) (by omega), lr (20 + j) (by omega)]
      refine Int32.toInt_inj.mp ?_
      by_cases p0 : p = 0
      · subst p0
        rw [b5 cm j j1 j2]
        obtain ⟨y3, y4, y5⟩ := X2 cm
        rw [Nat.add_zero]
        rcases (show j = 3 ∨ j = 4 ∨ j = 5 by omega) with rfl | rfl | rfl
        · exact y3.symm
        · exact y4.symm
        · exact y5.symm
      · have q1 := VG' p (by omega) hp'
        have q2 := X3 p (by omega) hp'
        rw [hW] at q1
        rcases (show j = 3 ∨ j = 4 ∨ j = 5 by omega) with rfl | rfl | rfl
        · exact q1.2.1.trans q2.2.1.symm
        · exact q1.2.2.1.trans q2.2.2.1.symm
        · exact q1.2.2.2.trans q2.2.2.2.symm
    · rw [er2, g9 (10 + j) (by omega), lr (26 + j) (by omega)]
      exact Int32.toInt_inj.mp ((b4 j hj).trans (M2 j hj).symm)
    · have q := b4 1 (by decide)
      have q' : ((vEnd P T 500 aZ C0).1 tt' 11).toInt = gRun T (aGS T) 500 aZ nS 1 := q
      rw [g9 11 (by decide), q']
      exact GN.2.1
  · obtain ⟨g1, g2⟩ := c2 za
    obtain ⟨l1, l2⟩ := m1 za
    intro hz
    have r18a : 0 ≤ (σ2.1 m0 18).toInt ∧ (σ2.1 m0 18).toInt ≤ 1 := zj_get (j := 18) hI2 hm0 (lo := 0) (hi := 1) (by rfl)
    have la : ∀ c j, ¬ (c = m0 ∧ j = 17) → ¬ zAm (mR σ2 m0) m0 b x k q v c j → τ2.1 c j = σ2.1 c j := fun c j n1 n2 => (l2 c j n1).trans (EF c j n2)
    have e18a : τ2.1 m0 18 = σ2.1 m0 18 := la _ _ (fun z => by omega) (zAm.fld hI2 hm0 tks (by omega))
    have M2a : zM m0 τ2 = zM m0 σ2 := by
      have e21 : τ2.1 (mR σ2 m0 21) (σ2.1 m0 18).toInt.toNat = σ2.1 (mR σ2 m0 21) (σ2.1 m0 18).toInt.toNat := la _ _ (fun z => mR_m hI2 hm0 (s := 21) (k := 121) (by rfl) (by decide) z.1) (zAm.r21 hI2 hm0 tks (by omega))
      unfold zM zp
      rw [e18a]
      show (τ2.1 (mR τ2 m0 21) _).toInt = (σ2.1 (mR σ2 m0 21) _).toInt
      rw [show mR τ2 m0 21 = mR σ2 m0 21 by rw [mR, l1], e21]
    obtain ⟨td', B, KK, g, e10, eB, ⟨k1, k2⟩, hg, hr, hn, hs⟩ := hl (by rw [← M2a]; exact hz)
    rw [gd] at e10
    subst e10
    have ro : ∀ c, c ≠ P → τ1.2.2 c = σ1.2.2 c := fun c h1 => by rw [g1, zu_n _ _ _ h1]
    have er2 : ∀ s, mR τ2 m0 s = mR σ2 m0 s := fun s => by rw [mR, l1]
    have eY : mR τ2 m0 = mR σ2 m0 := funext er2
    have r18 : 0 ≤ (σ2.1 m0 18).toInt ∧ (σ2.1 m0 18).toInt ≤ 1 := zj_get (j := 18) hI2 hm0 (lo := 0) (hi := 1) (by rfl)
    have l : ∀ c j, ¬ (c = m0 ∧ j = 17) → ¬ zAm (mR σ2 m0) m0 b x k q v c j → τ2.1 c j = σ2.1 c j := fun c j n1 n2 => (l2 c j n1).trans (EF c j n2)
    have e18 : τ2.1 m0 18 = σ2.1 m0 18 := l _ _ (fun z => by omega) (zAm.fld hI2 hm0 tks (by omega))
    have hB : (σ2.1 m0 18).toInt = B := by omega
    have bB : B + b = 1 := by omega
    -- the class
    have krn : ∀ i, 2 ≤ i → i ≤ 9 → i ≠ 8 → ∀ j, 2 ≤ j → j ≤ 9 → j ≠ 8 → (σ1.2.2 td j).getD 0 ≠ (σ1.2.2 tt' i).getD 0 := fun i i1 i2 i3 j j1 j2 j3 z => by
      by_cases ij : i = j
      · subst ij
        exact hTt.2.2.2 i (by omega) i2 i3 z
      · have a1 := (kr i i1 i2 i3).2
        have a2 := (krd j j1 j2 j3).2
        rw [z, a1] at a2
        split at a2 <;> split at a2 <;> omega
    have fy : ∀ j, 2 ≤ j → j ≤ 9 → j ≠ 8 → τ1.1 ((σ1.2.2 td j).getD 0) = σ1.1 ((σ1.2.2 td j).getD 0) := fun j j1 j2 j3 => funext (fun i => by
      have kj := krd j j1 j2 j3
      have kj2 : 45 ≤ kd1 ((σ1.2.2 td j).getD 0) ∧ kd1 ((σ1.2.2 td j).getD 0) ≤ 51 := by
        rw [kj.2]
        split <;> omega
      exact g2 _ _ (by
        rintro (⟨-, z⟩ | z | ⟨i', i1, i2, i3, z⟩)
        · omega
        · rw [z, s2.2] at kj2; omega
        · exact krn i' i1 i2 i3 j j1 j2 j3 z) (fun z => by rw [z.1, hx0.2] at kj2; omega) (by omega))
    have ft : ∀ j, τ1.1 td j = σ1.1 td j := fun j => g2 td j (by
      rintro (⟨-, z⟩ | z | ⟨i', i1, i2, i3, z⟩)
      · rw [td9.2] at z; omega
      · exact hTt.2.2.1 z
      · have a1 := (kr i' i1 i2 i3).2
        rw [← z, td9.2] at a1
        split at a1 <;> omega) (fun z => zNk td9 hx0 (by decide) z.1) (by rw [td9.2]; decide)
    have rd : τ1.2.2 td = σ1.2.2 td := ro td dP
    have M2 : zM m0 τ2 = zM m0 σ2 := by
      have e21 : τ2.1 (mR σ2 m0 21) (σ2.1 m0 18).toInt.toNat = σ2.1 (mR σ2 m0 21) (σ2.1 m0 18).toInt.toNat := l _ _ (fun z => mR_m hI2 hm0 (s := 21) (k := 121) (by rfl) (by decide) z.1) (zAm.r21 hI2 hm0 tks (by omega))
      unfold zM zp
      rw [e18]
      show (τ2.1 (mR τ2 m0 21) _).toInt = (σ2.1 (mR σ2 m0 21) _).toInt
      rw [er2, e21]
    refine ⟨td, B, KK, g, by rw [ro x0 xP]; exact gd, by rw [e18]; exact eB, ⟨by rw [ft]; exact k1, k2⟩, fun w hw => ⟨?_, ?_⟩, fun j p j1 j2 hp => ?_, fun j hj => ?_, by rw [ft]; exact hs⟩
    · rw [rd]
      exact (hg w hw).1.cg (fy 6 (by decide) (by decide) (by decide)) (fy 7 (by decide) (by decide) (by decide)) (fy 9 (by decide) (by decide) (by decide))
    · rw [eY]
      exact zLm.lk hk er2 hB hw (hg w hw).2
    · rw [M2] at hp
      have mN : zM m0 σ2 ≤ 12 := (zM_in hI2 hm0).2
      have qj : zQs (20 + j) := by unfold zQs; omega
      have tj : zT L2 kd2 (mR σ2 m0 (20 + j)) (100 + (20 + j)) := mR_t hI2 hm0 (zQs_k qj).1
      rw [rd, fy j (by omega) (by omega) (by omega), er2, hr j p j1 j2 hp]
      refine (l _ _ (fun z => mR_m hI2 hm0 (zQs_k qj).1 (by omega) z.1) ?_).symm
      have n : ∀ i, zQs i → i ≠ 20 + j → mR σ2 m0 (20 + j) ≠ mR σ2 m0 i := fun i hi h => mR_ne hI2 hm0 (zQs_k qj).1 (zQs_k hi).1 (by omega)
      rintro ((⟨z, -⟩ | ⟨-, z1, z2⟩ | ⟨z, -⟩ | ⟨i, z1, z2, z3, z⟩) | ⟨z, -⟩ | z | z | z | z)
      · exact zNk tj hm0 (by omega) z
      · omega
      · exact n 21 (by unfold zQs; omega) (by omega) z
      · exact n i z1 (by omega) z
      · exact zNk tj hm0 (by omega) z
      · exact zNk tj tks.1 (by omega) z
      · exact zNk tj tks.2.1 (by omega) z
      · exact zNk tj tks.2.2.1 (by omega) z
      · exact zNk tj tks.2.2.2 (by omega) z
    · have qj : zQs (26 + j) := by unfold zQs; omega
      rw [ft, er2, hn j hj]
      have a1 := l2 (mR σ2 m0 (26 + j)) B (fun z => mR_m hI2 hm0 (zQs_k qj).1 (by omega) z.1)
      have a2 := MO (26 + j) (by omega) (by omega) B (by omega)
      exact (a1.trans a2).symm
end LWR3
