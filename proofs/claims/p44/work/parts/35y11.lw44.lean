/-! WHAT GOES ON, WHOLE: read, made -/
section RD8C
variable {κ : Int} {L1 : List Nat} {kd1 : Nat → Nat} {L2 : List Nat} {kd2 : Nat → Nat} {σ1 σ2 τ1 τ2 : zS} {m0 x0 : Nat} {V : zWh} {ps pc sl rv sh cd td tt : Nat}
theorem zRL.read1 {v1 v2 : Int32} (hS : zSAM κ L1 kd1 L2 kd2 σ1 σ2) (h : zRL zQw L1 kd1 x0 m0 V ps pc sl rv sh cd σ1 σ2) (hTt : zTt x0 σ1.2.2 td tt) (hI1 : zI κ 0 L1 kd1 σ1) (hI2 : zJ κ L2 kd2 σ2) (hx0 : zT L1 kd1 x0 10) (hm0 : zT L2 kd2 m0 11) (f1 : (v1, τ1) = F_X10_read x0 σ1) (f2 : (v2, τ2) = F_X11_read m0 σ2) : zRL zQw L1 kd1 x0 m0 V ps pc sl rv sh cd τ1 τ2 ∧ ∃ td' tt', zTt x0 τ1.2.2 td' tt' := by
  obtain ⟨T, m, P, tk, kA, vA, qA, tt', N0, k, q, v, nm, nO, x, p1, p2, C0, D0, S0, y, K, ⟨hd, hd', hTm, hK⟩, ⟨v0, w0⟩, ⟨e, e2⟩, ⟨P1, s1, P2, s2⟩, er, ef, -, dF, tks⟩ := zRead1 hS hI1 hI2 hx0 hm0
  have ett : tt' = tt := Option.some.inj (s1.symm.trans hTt.2.1)
  subst ett
  obtain ⟨hL, hV, N, n, u, ⟨a1, a2, a3, a4, a5, a6, a7, a8, a9⟩, hq, hu, hh⟩ := id h
  obtain ⟨c1, c2, c3⟩ := cRead hL hI1 hx0 hTt P1 P2 s2 hd hK v0 e er ef f1
  obtain ⟨b, E, hb1, h18, hE, rE, E19, EF, EX, m1, m2⟩ := mRead hI2 hm0 hd' hTm hK w0 e2 dF tks f2 (fun _ => (0, 0, 0, 0))
  obtain ⟨dy, y1, y2⟩ := zi_ref (j := 5) (k2 := 2) hI1 hx0 (by rfl)
  have d1 := hTt.1
  have td9 : zT L1 kd1 td 9 := by
    obtain ⟨z, z1, z2⟩ := zi_ref (j := 10) (k2 := 9) hI1 hx0 (by rfl)
    rw [d1] at z1
    rw [Option.some.inj z1]
    exact z2
  have xP : x0 ≠ P := zNk hx0 P2 (by decide)
  have tP : tt' ≠ P := zNk s2 P2 (by decide)
  have dP : td ≠ P := zNk td9 P2 (by decide)
  have tps : zT L1 kd1 ps 4 := hL.2.2.2.2.2.2.1
  have kr := fun j j1 j2 j3 => zTt_k hI1 s2 j j1 j2 j3
  have krn : ∀ j, 2 ≤ j → j ≤ 9 → j ≠ 8 → 45 ≤ kd1 ((σ1.2.2 tt' j).getD 0) ∧ kd1 ((σ1.2.2 tt' j).getD 0) ≤ 51 := fun j j1 j2 j3 => by
    rw [(kr j j1 j2 j3).2]
    split <;> omega
  by_cases za : aAns (aRun T 500 aZ) = 0
  · obtain ⟨⟨z1, z2⟩, g1, g2, g3, g4, g5, g6, g7, g8, -, g10, -⟩ := c3 za
    obtain ⟨-, N2, l1, l2, -, l4, l5, l6, l7, l8, l9, l10⟩ := m2 za
    obtain ⟨X1, -, X3⟩ := EX z1 z2
    have M2 := mRead2 hI2 hm0 hd' hTm hK w0 dF tks hb1 h18
    rw [← hE] at M2
    have rx : ∀ j, j ≠ 10 → j ≠ 11 → τ1.2.2 x0 j = σ1.2.2 x0 j := fun j j1 j2 => by
      rw [g1, zu_j _ _ _ _ _ (fun z => j1 z.symm), zu_j _ _ _ _ _ (fun z => j2 z.symm), zu_n _ _ _ xP]
    have ro : ∀ c, c ≠ x0 → c ≠ P → τ1.2.2 c = σ1.2.2 c := fun c h1 h2 => by rw [g1, zu_n _ _ _ h1, zu_n _ _ _ h1, zu_n _ _ _ h2]
    have rk : ∀ a ∈ L1, kd1 a ≠ 10 → kd1 a ≠ 3 → τ1.2.2 a = σ1.2.2 a := fun a _ k1 k2 => ro a (fun z => k1 (by rw [z]; exact hx0.2)) (fun z => k2 (by rw [z]; exact P2.2))
    have r10 : τ1.2.2 x0 10 = some tt' := by rw [g1, zu_s]
    have r11 : τ1.2.2 x0 11 = some td := by rw [g1, zu_j _ _ _ _ _ (by decide), zu_s]
    have g10' : (τ1.2.2 x0 10).getD 0 = tt' := by rw [r10]; rfl
    have g5' : (τ1.2.2 x0 5).getD 0 = dy := by rw [rx 5 (by decide) (by decide), y1]; rfl
    have er2 : ∀ s, mR τ2 m0 s = mR σ2 m0 s := fun s => by rw [mR, l4]
    have n48 : ∀ j, ¬ zBm σ2 m0 (mR σ2 m0 21) j := fun j => by
      rintro (⟨z, -⟩ | z | z | z)
      · exact mR_m hI2 hm0 (s := 21) (k := 121) (by rfl) (by decide) z
      · exact mR_ne hI2 hm0 (s := 21) (s' := 48) (k := 121) (k' := 148) (by rfl) (by rfl) (by decide) z
      · exact mR_ne hI2 hm0 (s := 21) (s' := 49) (k := 121) (k' := 149) (by rfl) (by rfl) (by decide) z
      · exact mR_ne hI2 hm0 (s := 21) (s' := 67) (k := 121) (k' := 167) (by rfl) (by rfl) (by decide) z
    -- the class' rows at the end of the tellings
    obtain ⟨W, hW⟩ : ∃ W : Nat → Nat, W = fun j => (σ1.2.2 tt' j).getD 0 := ⟨_, rfl⟩
    have Wk : ∀ j, 2 ≤ j → j ≤ 5 → zT L1 kd1 (W j) (43 + j) := fun j j1 j2 => by
      have := kr j j1 (by omega) (by omega)
      rw [if_neg (by omega)] at this
      rw [hW]; exact this
    have rC0 : ∀ j, C0.2.2 tt' j = σ1.2.2 tt' j := fun j => by rw [er, zu_n _ _ _ tP]
    have hWz : zWz W P tt' C0.2.2 := ⟨fun j j1 j2 => ⟨by rw [rC0, hW], zNk (Wk j j1 j2) P2 (by omega)⟩, fun i j i1 i2 j1 j2 n => zNk (Wk i i1 i2) (Wk j j1 j2) (by omega)⟩
    have hXz : ∀ j, 2 ≤ j → j ≤ 5 → W j ≠ tt' ∧ W j ≠ (C0.2.2 tt' 6).getD 0 ∧ W j ≠ (C0.2.2 tt' 7).getD 0 ∧ W j ≠ (C0.2.2 tt' 9).getD 0 := fun j j1 j2 => by
      have q6 : zT L1 kd1 ((σ1.2.2 tt' 6).getD 0) 49 := kr 6 (by decide) (by decide) (by decide)
      have q7 : zT L1 kd1 ((σ1.2.2 tt' 7).getD 0) 50 := kr 7 (by decide) (by decide) (by decide)
      have q9 : zT L1 kd1 ((σ1.2.2 tt' 9).getD 0) 51 := kr 9 (by decide) (by decide) (by decide)
      rw [rC0, rC0, rC0]
      exact ⟨zNk (Wk j j1 j2) s2 (by omega), zNk (Wk j j1 j2) q6 (by omega), zNk (Wk j j1 j2) q7 (by omega), zNk (Wk j j1 j2) q9 (by omega)⟩
    obtain ⟨-, VG, -⟩ := vEndI (tt := tt') hd hK (fun τ s g => zVg W τ s g ∧ τ.2.2 = C0.2.2) (aG T) (fun τ s g hv hs hi => ⟨vTellG hd hK hv hs (by rw [hi.2]; exact hWz) (by rw [hi.2]; exact hXz) hi.1, by rw [show (F_X3_telling P τ).2.2 = τ.2.2 from rf_X3_telling (R := τ.2.2) rfl]; exact hi.2⟩) 500 C0 aZ (fun _ => (0, 0, 0, 0)) v0 ⟨fun _ _ p h1 h2 => by have h2' : (p : Int) ≤ 0 := h2; omega, rfl⟩
    have VG' := VG z1 z2
    have tree : ∀ p : Nat, 1 ≤ p → p < N2 → (vEnd P T 500 aZ C0).1 ((σ1.2.2 tt' 2).getD 0) p = E.1 (mR σ2 m0 22) (12 * b + p) := fun p h1 h2 => by
      have hp : (p : Int) ≤ (aRun T 500 aZ).2.2.2.2.2.2.1 := by
        rw [l2] at X1
        split at X1
        · omega
        · omega
      have q1 := (VG' p h1 hp).1
      have q2 := (X3 p h1 hp).1
      rw [hW] at q1
      exact Int32.toInt_inj.mp (q1.trans q2.symm)
    refine ⟨⟨hL.keep (fun a ha hk => rk a ha (by omega) (by omega)) (fun j hj => rx j (by omega) (by omega)), hV.cl2 (fun a ha hk => rk a ha (by omega) (by omega)) (fun j hj => rx j (by omega) (by omega)) (by rw [g10']; exact s2), N2, n, 0, ⟨?_, ?_, l1, by rw [g4]; exact a4, a5, by rw [g5]; rfl, by omega, by rw [l6]; rfl, ?_⟩, ?_, fun i hi => absurd hi (by omega), fun s hs => Or.inr ⟨by rw [g7]; exact b_0 s, by rw [er2]; exact l8 s hs⟩⟩, tt', td, r10, r11, fun z => hTt.2.2.1 z.symm, fun j j1 j2 j3 => ?_⟩
    · rw [g10', g8, ← X1, l2]
    · unfold zM zp
      show (τ2.1 (mR τ2 m0 21) (τ2.1 m0 18).toInt.toNat).toInt = N2
      rw [er2, l5, l10 _ _ (n48 _)]
      exact l2
    · rw [g5', g6 dy y1, l7]
    · have e0 : ∀ j, j < 50 → rC τ2.1 (mR τ2 m0 48) 0 j = if j < N2 then E.1 (mR σ2 m0 22) (12 * b + j) else 0 := fun j hj => by rw [rC_i hj, Nat.zero_add, er2, l9 j hj]
      rw [g2]
      have eN : ∀ j, N2 ≤ j → j < 50 → rC τ2.1 (mR τ2 m0 48) 0 j = 0 := fun j j1 j2 => by rw [e0 j j2, if_neg (by omega)]
      refine ⟨⟨fun p h1 h2 => ?_, fun p h1 h2 => Or.inr ⟨b_0 p, ?_⟩, ?_, ?_⟩, fun p hp => ⟨(eN (24 + p) (by omega) (by omega)).symm, (eN (36 + p) (by omega) (by omega)).symm, by show 0 ≤ (0 : Int32).toInt; decide, by show (0 : Int32).toInt ≤ 999; decide⟩, fun hN => ⟨⟨b_0 0, eN 12 (by omega) (by omega)⟩, ⟨rfl, eN 36 (by omega) (by omega)⟩, ?_⟩⟩
      · rw [e0 p (by omega), if_pos h2]
        show zt12 _ p = _
        unfold zt12
        rw [if_pos (by omega)]
        exact tree p h1 h2
      · rw [e0 _ (by omega), if_neg (by omega)]
      · rw [e0 _ (by omega), if_neg (by omega)]
      · rw [e0 _ (by omega), if_neg (by omega)]
      · rw [e0 0 (by omega), if_pos hN]
        refine M2 z1 (fun z => ?_)
        rw [if_pos z, l2] at X1
        omega
    · rw [ro tt' (zNk s2 hx0 (by decide)) tP, ro td (zNk td9 hx0 (by decide)) dP]
      exact fun z => hTt.2.2.2 j j1 j2 j3 z.symm
  · obtain ⟨g1, g2⟩ := c2 za
    obtain ⟨l1, l2⟩ := m1 za
    have ro : ∀ c, c ≠ P → τ1.2.2 c = σ1.2.2 c := fun c h1 => by rw [g1, zu_n _ _ _ h1]
    have fr : ∀ c j, kd1 c ≠ 3 → kd1 c ≠ 7 → kd1 c ≠ 8 → kd1 c ≠ 41 → kd1 c ≠ 43 → ¬ (45 ≤ kd1 c ∧ kd1 c ≤ 51) → c ≠ tt' → ¬ (c = x0 ∧ j = 13) → τ1.1 c j = σ1.1 c j := fun c j n3 n7 n8 n41 n43 n45 nt nx => g2 c j (by
      rintro (⟨-, z⟩ | z | ⟨i, i1, i2, i3, z⟩)
      · omega
      · exact nt z
      · have := krn i i1 i2 i3
        rw [← z] at this
        exact n45 this) nx n7
    have frk : ∀ c kc, zT L1 kd1 c kc → kc = 1 ∨ kc = 2 ∨ kc = 4 ∨ kc = 22 ∨ kc = 23 ∨ kc = 24 → τ1.1 c = σ1.1 c := fun c kc hc hk => funext (fun j => fr c j (by rw [hc.2]; omega) (by rw [hc.2]; omega) (by rw [hc.2]; omega) (by rw [hc.2]; omega) (by rw [hc.2]; omega) (by rw [hc.2]; omega) (fun z => by rw [z] at hc; have := hc.2.symm.trans s2.2; omega) (fun z => by have z1 := z.1; rw [z1] at hc; have := hc.2.symm.trans hx0.2; omega))
    have A := h.cl2 (τ1 := τ1) hx0 d1 y1 (fun a ha hk => ro a (fun z => by rw [z, P2.2] at hk; omega)) (fr td 0 (by rw [td9.2]; decide) (by rw [td9.2]; decide) (by rw [td9.2]; decide) (by rw [td9.2]; decide) (by rw [td9.2]; decide) (by rw [td9.2]; decide) hTt.2.2.1 (fun z => by omega)) (congrFun (frk ps 4 tps (by omega)) 1) (congrFun (frk ps 4 tps (by omega)) 2) (congrFun (frk dy 2 y2 (by omega)) 4) (fr x0 12 (by rw [hx0.2]; decide) (by rw [hx0.2]; decide) (by rw [hx0.2]; decide) (by rw [hx0.2]; decide) (by rw [hx0.2]; decide) (by rw [hx0.2]; decide) (zNk hx0 s2 (by decide)) (fun z => by omega)) (fun k hk => by
      obtain ⟨⟨uA, uI, uW, uM⟩, -⟩ := hL.2.2.2.1 k hk
      exact zcc.st (frk _ _ uA (by omega)) (frk _ _ uI (by omega)) (frk _ _ uW (by omega)) (frk _ _ uM (by omega)))
    have l : ∀ c j, ¬ (c = m0 ∧ j = 17) → ¬ zAm (mR σ2 m0) m0 b x k q v c j → τ2.1 c j = σ2.1 c j := fun c j n1 n2 => (l2 c j n1).trans (EF c j n2)
    refine ⟨A.m2 l1 (fun j hj => l _ _ (fun z => by omega) (zAm.fld hI2 hm0 tks hj)) (l _ _ (fun z => mR_m hI2 hm0 (s := 21) (k := 121) (by rfl) (by decide) z.1) (zAm.r21 hI2 hm0 tks (by omega))) (fun s hs j => l _ _ (fun z => mR_m hI2 hm0 (s := s) (k := 100 + s) (by rcases hs with rfl | rfl | rfl | rfl <;> rfl) (by omega) z.1) (zAm.row hI2 hm0 tks (by rcases hs with rfl | rfl | rfl | rfl <;> rfl) (by omega) j)), td, tt', hTt.keep (fun j => by rw [ro x0 xP]) (fun j => by rw [ro td dP]) (fun j => by rw [ro tt' tP])⟩
end RD8C
section RD9B
variable {b : Bool} {ks L1 L2 : List Nat} {kd1 kd2 : Nat → Nat} {σ1 σ2 : zS} {x0 m0 : Nat}
theorem zRL.start1 (hk : zKb b ks L1 kd1 σ1) (hx : zT L1 kd1 x0 10) (hJ : zJ 0 L2 kd2 σ2) (hm : zT L2 kd2 m0 11) (h0 : zRf0 m0 σ2) : ∃ V ps pc sl rv sh cd, zRL zQw L1 kd1 x0 m0 V ps pc sl rv sh cd σ1 σ2 := by
  obtain ⟨V, ps, pc, sl, hL⟩ := zLay.of hk hx
  obtain ⟨rv, sh, cd, hV⟩ := zRv.ofK hk hx
  have hI := hk.1
  have hz := hk.2.2.1
  obtain ⟨td, d1, d2⟩ := zi_ref (j := 10) (k2 := 9) hI hx (by rfl)
  obtain ⟨dy, y1, y2⟩ := zi_ref (j := 5) (k2 := 2) hI hx (by rfl)
  have gd : (σ1.2.2 x0 10).getD 0 = td := by rw [d1]; rfl
  have gy : (σ1.2.2 x0 5).getD 0 = dy := by rw [y1]; rfl
  have tp : zT L1 kd1 ps 4 := hL.2.2.2.2.2.2.1
  obtain ⟨⟨tA, tI, tW, tM⟩, -⟩ := hL.2.2.2.1 0 (by decide)
  have z1 := (hz _ tA.1).1 tA.2
  have z2 := (hz _ y2.1).2.1 y2.2
  have z4 := (hz _ tp.1).2.2.1 tp.2
  have z9 := (hz _ d2.1).2.2.2.1 d2.2
  have z10 := (hz _ hx.1).2.2.2.2.1 hx.2
  have hr := mStart hJ hm h0
  obtain ⟨-, h57, h62, -, hM, h67, -⟩ := h0
  have e0 : (0 : Int32).toInt = 0 := by decide
  refine ⟨V, ps, pc, sl, rv, sh, cd, hL, hV, 0, 0, 0, ⟨by rw [gd, z9.1]; exact e0, hM, by omega, by rw [z4.1]; exact e0, by omega, by rw [z4.2]; exact e0, by omega, h57, by rw [gy, z2, h62]; exact e0⟩, ⟨⟨fun p h1 h2 => absurd h2 (by omega), fun p h1 h2 => absurd h2 (by omega), ?_, ?_⟩, fun p hp => absurd hp (by omega), fun hN => absurd hN (by omega)⟩, fun i hi => absurd hi (by omega), fun s hs => Or.inr ⟨by rw [z10.1]; exact b_0 s, ?_⟩⟩
  · show σ1.1 (V.1 0) 4 = _
    rw [z1.2.1, rC_i (by decide), hr _ (by decide)]
  · show σ1.1 (V.1 0) 5 = _
    rw [z1.2.2, rC_i (by decide), hr _ (by decide)]
  · have q : (σ2.1 (mR σ2 m0 67) (s : Int).toNat).toInt = 0 := h67 s
    exact Int32.toInt_inj.mp (q.trans e0.symm)
end RD9B
