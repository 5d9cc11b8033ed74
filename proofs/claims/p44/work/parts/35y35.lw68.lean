/-! RICHEST, COUNT: where all begins -/
section STARTX
variable {b : Bool} {ks L1 L2 : List Nat} {kd1 kd2 : Nat → Nat} {σ1 σ2 : zS} {x0 m0 : Nat}
theorem zRL.startX (hk : zKb b ks L1 kd1 σ1) (hx : zT L1 kd1 x0 10) (hJ : zJ 0 L2 kd2 σ2) (hm : zT L2 kd2 m0 11) (h0 : zRf0 m0 σ2) : ∃ V ps pc sl rv sh cd, zRL zQx L1 kd1 x0 m0 V ps pc sl rv sh cd σ1 σ2 := by
  obtain ⟨V, ps, pc, sl, hL⟩ := zLay.of hk hx
  obtain ⟨rv, sh, cd, hV⟩ := zRv.ofK hk hx
  have hI := hk.1
  have hz := hk.2.2.1
  obtain ⟨td, d1, d2⟩ := zi_ref (j := 10) (k2 := 9) hI hx (by rfl)
  obtain ⟨dy, y1, y2⟩ := zi_ref (j := 5) (k2 := 2) hI hx (by rfl)
  have gd : (σ1.2.2 x0 10).getD 0 = td := by rw [d1]; rfl
  have gy : (σ1.2.2 x0 5).getD 0 = dy := by rw [y1]; rfl
  have tp : zT L1 kd1 ps 4 := hL.2.2.2.2.2.2.1
  obtain ⟨⟨tA, tI, tW, tM⟩, -⟩ := hL.2.2.2.1 0 (by decide)
  have z1 := (hz _ tA.1).1 tA.2
  have z2 := (hz _ y2.1).2.1 y2.2
  have z4 := (hz _ tp.1).2.2.1 tp.2
  have z9 := (hz _ d2.1).2.2.2.1 d2.2
  have z10 := (hz _ hx.1).2.2.2.2.1 hx.2
  have z24 := (hz _ tM.1).2.2.2.2.2.2 tM.2
  have hr := mStart hJ hm h0
  obtain ⟨-, h57, h62, -, hM, h67, -⟩ := h0
  have e0 : (0 : Int32).toInt = 0 := by decide
  refine ⟨V, ps, pc, sl, rv, sh, cd, hL, hV, 0, 0, 0, ⟨by rw [gd, z9.1]; exact e0, hM, by omega, by rw [z4.1]; exact e0, by omega, by rw [z4.2]; exact e0, by omega, h57, by rw [gy, z2, h62]; exact e0⟩, ⟨⟨⟨fun p h1 h2 => absurd h2 (by omega), fun p h1 h2 => absurd h2 (by omega), ?_, ?_⟩, fun p hp => absurd hp (by omega), fun hN => absurd hN (by omega)⟩, z24, fun j hj w => ?_⟩, fun i hi => absurd hi (by omega), fun s hs => Or.inr ⟨by rw [z10.1]; exact b_0 s, ?_⟩⟩
  · show σ1.1 (V.1 0) 4 = _
    rw [z1.2.1, rC_i (by decide), hr _ (by decide)]
  · show σ1.1 (V.1 0) 5 = _
    rw [z1.2.2, rC_i (by decide), hr _ (by decide)]
  · have w' : bt (σ1.1 (V.1 0) 3) j = true := w
    rw [z1.1, b_0] at w'
    exact absurd w' (by decide)
  · have q : (σ2.1 (mR σ2 m0 67) (s : Int).toNat).toInt = 0 := h67 s
    exact Int32.toInt_inj.mp (q.trans e0.symm)
theorem zTy.start (hk : zKb b ks L1 kd1 σ1) (hx : zT L1 kd1 x0 10) (h0 : zRf0 m0 σ2) : zTy x0 m0 σ1 σ2 := by
  obtain ⟨td, d1, d2⟩ := zi_ref (j := 10) (k2 := 9) hk.1 hx (by rfl)
  have z9 := (hk.2.2.1 _ d2.1).2.2.2.1 d2.2
  obtain ⟨-, -, -, h18, hM, -, -, h26⟩ := h0
  exact ⟨td, 0, by rw [d1]; rfl, by rw [h18]; rfl, Or.inr ⟨by rw [z9.2]; decide, h26⟩, fun hz => absurd hz (by rw [hM]; decide), fun p _ hp => absurd hp (by rw [hM]; omega)⟩
theorem zHs.start (hk : zKb b ks L1 kd1 σ1) (hx : zT L1 kd1 x0 10) : zHs x0 σ1 := fun j _ _ => by
  rw [((hk.2.2.1 x0 hx.1).2.2.2.2.1 hx.2).1]
  exact b_0 j
theorem zRQ.start (hS : zSAM 0 L1 kd1 L2 kd2 σ1 σ2) (hk : zKb b ks L1 kd1 σ1) (hx : zT L1 kd1 x0 10) (hJ : zJ 0 L2 kd2 σ2) (hm : zT L2 kd2 m0 11) (h0 : zRf0 m0 σ2) : zRQ 0 L1 kd1 L2 kd2 x0 m0 σ1 σ2 := by
  obtain ⟨V, ps, pc, sl, rv, sh, cd, hR⟩ := zRL.startX hk hx hJ hm h0
  exact ⟨zRN.start hS hk hx hJ hm h0, fun z => absurd z (by rw [h0.2.2.2.2.1]; decide), ⟨zTy.start hk hx h0, zHs.start hk hx⟩, V, ps, pc, sl, rv, sh, cd, hR⟩
end STARTX
