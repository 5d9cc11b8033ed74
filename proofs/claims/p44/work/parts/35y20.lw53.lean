/-! THE REFERENCE COPIES once more, behind what it has looked at -/
section MFAR2
variable {L : List Nat} {kd : Nat → Nat} {m0 N B : Nat} {FR SR : Nat → Int32} {σ ρ : zS} {κ : Int}
set_option maxHeartbeats 1000000 in
theorem mShpT (hJ : zJ κ L kd σ) (hm : zT L kd m0 11) (h2 : ρ.2 = σ.2) (hρ : zFr (zFm [50, 51, 47] [49, 54, 52, 53, 45, 46, 55] m0 σ.2.2) σ ρ) (hM : zM m0 σ = N) (hN : N ≤ 12) (hr : zRow N (σ.1 (mR σ m0 48))) (hB : (σ.1 m0 18).toInt = B) (hB1 : B ≤ 1) (F0 : FR 0 = 0) (S0 : SR 0 = 0) (hF : ∀ c, 1 ≤ c → c < N → FR c = FR (uOf (σ.1 (mR σ m0 48)) c) + σ.1 (mR σ m0 23) (12 * B + c)) (hS : ∀ c, 1 ≤ c → c < N → SR c = SR (uOf (σ.1 (mR σ m0 48)) c) + (1 : Int32)) : zShM N (uOf (σ.1 (mR σ m0 48))) FR SR m0 σ (F_X11_copies m0 ρ) := by
  have hS7 : ([49, 54, 52, 53, 45, 46, 55] : List Nat).all (fun t => zf 0 11 t == some (100 + t)) = true := by rfl
  have r48 : ρ.1 (mR σ m0 48) = σ.1 (mR σ m0 48) := zFm.row hJ hm hρ (s := 48) (by rfl) hS7 (by rfl)
  obtain ⟨C2', C3'⟩ := zCopies3 hJ hm h2
  have C1 : (F_X11_copies m0 ρ).2 = σ.2 := C3'.1.trans h2
  have C2 : ∀ j, j < 50 → (F_X11_copies m0 ρ).1 (mR σ m0 49) j = σ.1 (mR σ m0 48) j := fun j hj => by rw [C2' j hj, r48]
  have C3 := hρ.tr C3'
  obtain ⟨s, hs⟩ : ∃ s, s = zCp m0 σ ρ := ⟨_, rfl⟩
  have hc : F_X11_copies m0 ρ = F_X11_fillsFlows m0 0 (F_X11_fillsWays m0 s) := by rw [zCopies hJ hm h2, hs]
  have rm : mR σ m0 49 ≠ m0 := mR_m hJ hm (s := 49) (k := 149) (by rfl) (by decide)
  have s2 : s.2 = σ.2 := by rw [hs]; rfl
  have rs : s.2.2 = σ.2.2 := by rw [s2]
  have row : ∀ j, j < 50 → s.1 (mR σ m0 49) j = σ.1 (mR σ m0 48) j := fun j hj => by
    rw [hs]
    show zu (zu (zcf ρ.1 (mR σ m0 49) (mR σ m0 48) 0 0 0 50) m0 50 _) m0 51 0 (mR σ m0 49) j = _
    rw [zu_n _ _ _ rm, zu_n _ _ _ rm, zcf_i ⟨by omega, by omega⟩, ← r48]
    exact congrArg _ (by omega)
  have base : zFr (zFm [50, 51, 47] [49, 54, 52, 53, 45, 46, 55] m0 σ.2.2) σ (zcf ρ.1 (mR σ m0 49) (mR σ m0 48) 0 0 0 50, σ.2.1, σ.2.2) := ⟨rfl, fun c j n => (congrFun (zcf_n (fun z => n (Or.inr ⟨49, by decide, z⟩))) j).trans (hρ.2 c j n)⟩
  have gs : zFr (zFm [50, 51, 47] [49, 54, 52, 53, 45, 46, 55] m0 σ.2.2) σ s := by
    rw [hs]
    exact (base.w (j := 50) (zFm.f (by rfl))).w (j := 51) (zFm.f (by rfl))
  have hMs : (F_X11_many m0 s).toInt = N := by rw [mMany_g hJ hm gs (by rfl) (by rfl) (by rfl), hM]
  have s18 : s.1 m0 18 = σ.1 m0 18 := zFm.fld hJ hm gs (by rfl) (by rfl)
  have s23 : s.1 (mR σ m0 23) = σ.1 (mR σ m0 23) := zFm.row hJ hm gs (s := 23) (by rfl) (by rfl) (by rfl)
  obtain ⟨t, ht⟩ : ∃ t, t = F_X11_fillsWays m0 s := ⟨_, rfl⟩
  have gt : zFr (zFm [] [54, 52, 53] m0 s.2.2) s t := by rw [ht]; exact fr_X11_fillsWays zFr.id (zFm.s rfl) (zFm.s rfl) (zFm.s rfl)
  have rt : t.2.2 = σ.2.2 := by rw [gt.rf, rs]
  have g2 : zFr (zFm [47] [45, 46, 55] m0 σ.2.2) t (F_X11_fillsFlows m0 0 t) := fr_X11_fillsFlows zFr.id (by rw [rt]; exact zFm.s rfl) (zFm.f rfl) (by rw [rt]; exact zFm.s rfl) (by rw [rt]; exact zFm.s rfl)
  have fl : ∀ x, (x = 54 ∨ x = 52 ∨ x = 53) → ∀ j, (F_X11_copies m0 ρ).1 (mR σ m0 x) j = t.1 (mR σ m0 x) j := fun x hx j => by
    rw [hc, ← ht]
    have hz : zf 0 11 x = some (100 + x) := by rcases hx with rfl | rfl | rfl <;> rfl
    refine g2.2 _ _ ?_
    rintro (⟨e, -⟩ | ⟨y, hy, e⟩)
    · exact mR_m hJ hm hz (by omega) e
    · have h2 : zf 0 11 y = some (100 + y) ∧ y ≠ x := by
        simp only [List.mem_cons, List.not_mem_nil, or_false] at hy
        rcases hy with rfl | rfl | rfl <;> exact ⟨by rfl, by omega⟩
      exact mR_ne hJ hm hz h2.1 (by omega) e
  have e2 : t = F_X11_fillsWays_2 m0 10000 0 s := by
    rw [ht]
    unfold F_X11_fillsWays
    simp only [zlt]
  have ne : ∀ {x y : Nat}, zf 0 11 x = some (100 + x) → zf 0 11 y = some (100 + y) → x ≠ y → mR σ m0 x ≠ mR σ m0 y := fun h1 h2 h3 => mR_ne hJ hm h1 h2 (by omega)
  have nm : ∀ {x : Nat}, zf 0 11 x = some (100 + x) → m0 ≠ mR σ m0 x := fun {x} h1 z => by
    have h3 := zf_100 h1
    exact mR_m hJ hm h1 h3 z.symm
  have g : ∀ x, (s.2.2 m0 x).getD 0 = mR σ m0 x := fun x => by rw [rs]
  have many : ∀ τ, zFr (zAw (mR σ m0 54) (mR σ m0 52) (mR σ m0 53)) s τ → (F_X11_many m0 τ).toInt = N := fun τ h => by
    rw [← hMs]
    unfold F_X11_many
    simp only [zlt]
    rw [h.rf, g 21]
    rw [h.2 m0 18 (fun z => z.elim (nm (by rfl)) (fun z => z.elim (nm (by rfl)) (nm (by rfl))))]
    rw [h.2 (mR σ m0 21) _ (fun z => z.elim (ne (by rfl) (by rfl) (by decide)) (fun z => z.elim (ne (by rfl) (by rfl) (by decide)) (ne (by rfl) (by rfl) (by decide))))]
  have hrs : zRow N (s.1 (mR σ m0 49)) := hr.cg (fun c _ c2 => row c (by omega))
  have ue : ∀ c, 1 ≤ c → c < N → uOf (s.1 (mR σ m0 49)) c = uOf (σ.1 (mR σ m0 48)) c := uOf_cg (fun c _ c2 => row c (by omega))
  obtain ⟨-, Q⟩ := mWay3 (s := s) (m0 := m0) (ne (x := 54) (y := 52) (by rfl) (by rfl) (by decide)) (ne (x := 54) (y := 53) (by rfl) (by rfl) (by decide)) (ne (x := 49) (y := 54) (by rfl) (by rfl) (by decide)) (ne (x := 49) (y := 52) (by rfl) (by rfl) (by decide)) (ne (x := 49) (y := 53) (by rfl) (by rfl) (by decide)) (g 54) (g 52) (g 53) (g 49) hrs hN many 10000 0 0 s (by decide) (by omega) (by omega) zFr.id (fun t ht => absurd ht (by omega))
  have W := mFar3 (s := s) (m0 := m0) (B := B) (FR := FR) (SR := SR) (ne (x := 54) (y := 52) (by rfl) (by rfl) (by decide)) (ne (x := 54) (y := 53) (by rfl) (by rfl) (by decide)) (ne (x := 52) (y := 53) (by rfl) (by rfl) (by decide)) (ne (x := 49) (y := 54) (by rfl) (by rfl) (by decide)) (ne (x := 49) (y := 52) (by rfl) (by rfl) (by decide)) (ne (x := 49) (y := 53) (by rfl) (by rfl) (by decide)) (ne (x := 23) (y := 54) (by rfl) (by rfl) (by decide)) (ne (x := 23) (y := 52) (by rfl) (by rfl) (by decide)) (ne (x := 23) (y := 53) (by rfl) (by rfl) (by decide)) (nm (x := 54) (by rfl)) (nm (x := 52) (by rfl)) (nm (x := 53) (by rfl)) (g 54) (g 52) (g 53) (g 49) (g 23) (by rw [s18]; exact hB) hB1 hrs F0 S0 (fun c c1 c2 => by rw [ue c c1 c2, s23]; exact hF c c1 c2) (fun c c1 c2 => by rw [ue c c1 c2]; exact hS c c1 c2) hN many 10000 0 0 s (by decide) (by omega) (by omega) zFr.id
  rw [← e2] at Q W
  refine ⟨C1, fun p j hp hj => ?_, fun p hp => ?_, C2, C3⟩
  · rw [fl 54 (by omega), Q p j hp hj]
    constructor
    · rintro (⟨h1, h2⟩ | ⟨-, h⟩)
      · exact ⟨h1, (An_cg hr.tr ue j h1 p).mp ((pa_An hrs hN h1).mp h2)⟩
      · exact h.elim
    · rintro ⟨h1, h2⟩
      exact Or.inl ⟨h1, (pa_An hrs hN h1).mpr ((An_cg hr.tr ue j h1 p).mpr h2)⟩
  · rw [fl 52 (by omega), fl 53 (by omega)]
    exact W p hp
end MFAR2
section LOOKB
variable {κ : Int} {L1 : List Nat} {kd1 : Nat → Nat} {L2 : List Nat} {kd2 : Nat → Nat} {σ1 σ2 ρ : zS} {m0 x0 : Nat} {Q : Nat → zCo → (Nat → Int32) → Prop} {V : zWh} {ps pc sl rv sh cd : Nat}
theorem zRL.lkT (hG : zGd Q) (h : zRL Q L1 kd1 x0 m0 V ps pc sl rv sh cd σ1 σ2) (hl : zLen x0 m0 σ1 σ2) (hx : zT L1 kd1 x0 10) (hI : zI κ 0 L1 kd1 σ1) (hJ : zJ κ L2 kd2 σ2) (hm : zT L2 kd2 m0 11) (hg : gN m0 σ2) (h2 : ρ.2 = σ2.2) (hρ : zFr (zFm [50, 51, 47] [49, 54, 52, 53, 45, 46, 55] m0 σ2.2.2) σ2 ρ) : ∃ (N : Nat) (u : Nat → Nat) (FR SR ℓ : Nat → Int32), (N ≤ 12 ∧ zM m0 σ2 = N ∧ (σ1.1 ((σ1.2.2 x0 10).getD 0) 0).toInt = N ∧ zTr N u) ∧ (FR 0 = 0 ∧ SR 0 = 0 ∧ (∀ c, 1 ≤ c → c < N → FR c = FR (u c) + ℓ c) ∧ (∀ c, 1 ≤ c → c < N → SR c = SR (u c) + (1 : Int32)) ∧ ∀ c, 1 ≤ c → c < N → 1 ≤ (ℓ c).toInt ∧ (ℓ c).toInt ≤ 99) ∧ (∀ c, 1 ≤ c → c < N → σ2.1 (mR σ2 m0 23) (12 * (σ2.1 m0 18).toInt.toNat + c) = ℓ c ∧ (σ2.1 (mR σ2 m0 48) c).toInt = u c) ∧ zShM N u FR SR m0 σ2 (F_X11_copies m0 ρ) := by
  obtain ⟨hL, hV, N, n, uu, ⟨a1, a2, a3, -⟩, hq, -⟩ := id h
  obtain ⟨r2, r1, er⟩ := h.rows hG hg a2 a3
  obtain ⟨td, d1, d2⟩ := zi_ref (j := 10) (k2 := 9) hI hx (by rfl)
  have gd : (σ1.2.2 x0 10).getD 0 = td := by rw [d1]; rfl
  obtain ⟨u, hu⟩ : ∃ u, u = uOf (σ2.1 (mR σ2 m0 48)) := ⟨_, rfl⟩
  have hT : zTr N u := by rw [hu]; exact r2.tr
  have r18 : 0 ≤ (σ2.1 m0 18).toInt ∧ (σ2.1 m0 18).toInt ≤ 1 := zj_get (j := 18) hJ hm (lo := 0) (hi := 1) (by rfl)
  obtain ⟨B, hB⟩ : ∃ B, B = (σ2.1 m0 18).toInt.toNat := ⟨_, rfl⟩
  obtain ⟨ℓ, hℓ⟩ : ∃ ℓ : Nat → Int32, ℓ = σ1.1 ((σ1.2.2 td 3).getD 0) := ⟨_, rfl⟩
  have hl' : ∀ c, 1 ≤ c → c < N → ℓ c = σ2.1 (mR σ2 m0 23) (12 * B + c) ∧ 1 ≤ (σ2.1 (mR σ2 m0 23) (12 * B + c)).toInt ∧ (σ2.1 (mR σ2 m0 23) (12 * B + c)).toInt ≤ 99 := fun c c1 c2 => by
    have := hl c c1 (by rw [a2]; omega)
    rw [gd, ← hB, ← hℓ] at this
    exact this
  obtain ⟨FR, F0, hF⟩ := hT.rec (0 : Int32) (fun c z => z + ℓ c)
  obtain ⟨SR, S0, hS⟩ := hT.rec (0 : Int32) (fun _ z => z + (1 : Int32))
  have u2 : ∀ c, 1 ≤ c → c < N → (σ2.1 (mR σ2 m0 48) c).toInt = u c := fun c c1 c2 => by rw [hu]; exact r2.u c1 c2
  rw [gd] at a1
  have M := mShpT (N := N) (B := B) (FR := FR) (SR := SR) hJ hm h2 hρ a2 a3 r2 (by omega) (by omega) F0 S0 (fun c c1 c2 => by rw [← hu, ← (hl' c c1 c2).1]; exact hF c c1 c2) (fun c c1 c2 => by rw [← hu]; exact hS c c1 c2)
  rw [← hu] at M
  refine ⟨N, u, FR, SR, ℓ, ⟨a3, a2, by rw [gd]; exact a1, hT⟩, ⟨F0, S0, hF, hS, fun c c1 c2 => ?_⟩, fun c c1 c2 => ⟨?_, u2 c c1 c2⟩, M⟩
  · obtain ⟨w1, w2, w3⟩ := hl' c c1 c2
    rw [w1]
    exact ⟨w2, w3⟩
  · rw [← hB]
    exact (hl' c c1 c2).1.symm
end LOOKB
section STANDS
variable {κ : Int} {L1 : List Nat} {kd1 : Nat → Nat} {L2 : List Nat} {kd2 : Nat → Nat} {σ1 σ2 s0 : zS} {m0 x0 : Nat} {Q : Nat → zCo → (Nat → Int32) → Prop} {V : zWh} {ps pc sl rv sh cd k : Nat}
theorem zSd.ofT (hG : zGd Q) (hQ : ∀ N c r, Q N c r → zQw N c r) (h : zRL Q L1 kd1 x0 m0 V ps pc sl rv sh cd σ1 σ2) (hw : 0 < zM m0 σ2 → zLw x0 m0 σ1 σ2) (hl : zLen x0 m0 σ1 σ2) (hx : zT L1 kd1 x0 10) (hI : zI κ 0 L1 kd1 σ1) (hJ : zJ κ L2 kd2 σ2) (hm : zT L2 kd2 m0 11) (hg : gN m0 σ2) {ρ : zS} (h2 : ρ.2 = σ2.2) (hρ : zFr (zFm [50, 51, 47] [49, 54, 52, 53, 45, 46, 55] m0 σ2.2.2) σ2 ρ) (gr : ∀ a j, ¬ (a = rv ∧ (j = 5 ∨ j = 6)) → s0.2.2 a j = σ1.2.2 a j) (he : ∀ c kc, zT L1 kd1 c kc → (kc = 9 ∨ (46 ≤ kc ∧ kc ≤ 51)) → s0.1 c = σ1.1 c) (hk : k < 45) (hcI : ∀ p, p < 12 → s0.1 (V.2.1 k) p = σ1.1 (V.2.1 0) p) (hcD : s0.1 (V.1 k) 3 = σ1.1 (V.1 0) 3) : ∃ (td B N : Nat) (gl : zGl) (u l : Nat → Nat) (q Y : Nat → Nat) (w t : zS), (q = qOf σ1.2.2 rv sh cd td V k ∧ Y = mR σ2 m0 ∧ w = F_X5_form rv td (V.1 k) s0 ∧ t = F_X11_copies m0 ρ) ∧ σ1.2.2 x0 10 = some td ∧ zM m0 σ2 = N ∧ zSd q Y m0 B N gl u l w t ∧ (∀ i, (i = 3 ∨ i = 4 ∨ i = 20 ∨ i = 21) → w.1 (q i) = s0.1 (q i)) ∧ (∀ j, j < 50 → t.1 (Y 49) j = σ2.1 (mR σ2 m0 48) j) ∧ (0 < N → zSo q Y B w t) ∧ (0 < N → t.1 m0 50 = σ1.1 td 13) ∧ (t.1 m0 51).toInt = 0 ∧ (zDn q Y N w t → ∀ p, p < N → (F_X5_fall (q 0) 0 w).1 (q 6) p = t.1 (Y 55) p) := by
  have g : zPv L1 kd1 V rv σ1 (σ1.1, s0.2) := ⟨gr, fun _ _ => rfl⟩
  obtain ⟨N, u, FR, SR, ℓ, ⟨n1, n2, n3, n4⟩, ⟨F0, S0, hF, hS, hℓ⟩, hb, hM⟩ := h.lkT hG hl hx hI hJ hm hg h2 hρ
  obtain ⟨hL, hV, N', n, uu, ⟨a1, a2, a3, -⟩, hq, -⟩ := id h
  obtain rfl : N' = N := by omega
  obtain ⟨td, d1, d2⟩ := zi_ref (j := 10) (k2 := 9) hI hx (by rfl)
  have gd : (σ1.2.2 x0 10).getD 0 = td := by rw [d1]; rfl
  have tr := zTt_k hI d2
  obtain ⟨B, w2⟩ : ∃ B, (σ2.1 m0 18).toInt.toNat = B := ⟨_, rfl⟩
  have hw' : ∃ (gl : zGl) (K : Nat), 0 < N' → ((σ1.1 td 8).toInt = K ∧ K ≤ 420) ∧ (∀ k, k < 5 → zLc ((σ1.2.2 td 6).getD 0) ((σ1.2.2 td 7).getD 0) ((σ1.2.2 td 9).getD 0) σ1 K k (gl k) ∧ zLm (mR σ2 m0) (420 * B) (130 * B) σ2 (420 * B + 420) (130 * B + 130) (5 * B + k) (gl k)) ∧ (∀ j p : Nat, 3 ≤ j → j ≤ 5 → (p : Int) < zM m0 σ2 → σ1.1 ((σ1.2.2 td j).getD 0) p = σ2.1 (mR σ2 m0 (20 + j)) (12 * B + p)) ∧ (∀ j : Nat, j < 4 → σ1.1 td (10 + j) = σ2.1 (mR σ2 m0 (26 + j)) B) ∧ 0 ≤ (σ1.1 td 11).toInt ∧ (σ1.1 td 11).toInt ≤ 99 := by
    by_cases z : 0 < N'
    · obtain ⟨td', B', K, gl, w1, w2', w3, w4, w5, w6, w7, w8⟩ := hw (by omega)
      have et' : td' = td := by rw [← w1, gd]
      have eB' : B' = B := by rw [← w2', w2]
      rw [et', eB'] at w4
      rw [et'] at w3 w5 w6 w7 w8
      rw [eB'] at w5 w6
      exact ⟨gl, K, fun _ => ⟨w3, w4, w5, w6, w7, w8⟩⟩
    · exact ⟨fun _ => none, 0, fun y => absurd y z⟩
  obtain ⟨gl, K, hw'⟩ := hw'
  obtain ⟨td', etd⟩ : ∃ td', td' = td := ⟨td, rfl⟩
  subst etd
  have w5 : ∀ j p : Nat, 3 ≤ j → j ≤ 5 → p < N' → σ1.1 ((σ1.2.2 td' j).getD 0) p = σ2.1 (mR σ2 m0 (20 + j)) (12 * B + p) := fun j p j1 j2 hp => by
    obtain ⟨-, -, x, -⟩ := hw' (by omega)
    exact x j p j1 j2 (by omega)
  have r18 : 0 ≤ (σ2.1 m0 18).toInt ∧ (σ2.1 m0 18).toInt ≤ 1 := zj_get (j := 18) hJ hm (lo := 0) (hi := 1) (by rfl)
  have hB : (σ2.1 m0 18).toInt = B := by omega
  have hB1 : B ≤ 1 := by omega
  have nB : (σ2.1 m0 18).toNatClampNeg = B := by rw [ztn, hB]; rfl
  rw [w2] at hb
  rw [gd] at a1
  have t1 : zT L1 kd1 rv 5 := hV.2.1.2.1
  have t2 : zT L1 kd1 sh 6 := hV.2.1.2.2.1
  have ntd : td' ≠ rv := zNk d2 t1 (by decide)
  have nsh : sh ≠ rv := zNk t2 t1 (by decide)
  have hL0 : zLay L1 kd1 x0 s0.2.2 V ps pc sl := zLay.pv (s := (σ1.1, s0.2)) hL t1 g
  have hV0 : zRv L1 kd1 x0 rv sh cd s0.2.2 := zRv.keep (s := (σ1.1, s0.2)) hV g
  have et : ∀ j, s0.2.2 td' j = σ1.2.2 td' j := fun j => g.1 td' j (fun z => ntd z.1)
  have es : ∀ j, s0.2.2 sh j = σ1.2.2 sh j := fun j => g.1 sh j (fun z => nsh z.1)
  have tl0 : zT L1 kd1 ((s0.2.2 td' 3).getD 0) 46 := by rw [et]; exact tr 3 (by decide) (by decide) (by decide)
  have Qk : zQw N' (zcc V σ1.1 0) (rC σ2.1 (mR σ2 m0 48) 0) := hQ _ _ _ hq
  have z22 : ∀ p, p < 12 → (zcc V σ1.1 0).1 p = s0.1 (V.2.1 k) p := fun p hp => (if_pos hp : zt12 _ p = _).trans (hcI p hp).symm
  have rc : ∀ j, j < 50 → rC σ2.1 (mR σ2 m0 48) 0 j = σ2.1 (mR σ2 m0 48) j := fun j hj => by rw [rC_i hj, Nat.zero_add]
  have hu : ∀ c, 1 ≤ c → c < N' → (s0.1 (V.2.1 k) c).toInt = u c := fun c c1 c2 => by
    rw [← z22 c (by omega), Qk.1.1 c c1 c2, rc c (by omega)]
    exact (hb c c1 c2).2
  have h0 : (s0.1 td' 0).toInt = N' := by rw [he td' 9 d2 (by omega)]; exact a1
  have hF' : ∀ c, 1 ≤ c → c < N' → FR c = FR (u c) + s0.1 ((s0.2.2 td' 3).getD 0) c := fun c c1 c2 => by
    rw [et, he _ 46 (tr 3 (by decide) (by decide) (by decide)) (by omega), w5 3 c (by decide) (by decide) (by omega), hF c c1 c2]
    show FR (u c) + ℓ c = FR (u c) + σ2.1 (mR σ2 m0 23) (12 * B + c)
    rw [(hb c c1 c2).1]
  obtain ⟨C1, C2, l, C3⟩ := cFormK hL0 hV0 d2 tl0 hk n1 h0 n4 hu F0 hF'
  rw [es, es, es, es, es] at C3
  obtain ⟨w, hw0⟩ : ∃ w, w = F_X5_form rv td' (V.1 k) s0 := ⟨_, rfl⟩
  obtain ⟨t, ht0⟩ : ∃ t, t = F_X11_copies m0 ρ := ⟨_, rfl⟩
  rw [← hw0] at C1 C2 C3
  rw [← ht0] at hM
  have hM' := hM
  obtain ⟨m1, m2, m3, m4, m5⟩ := hM'
  obtain ⟨q, hq0⟩ : ∃ q, q = qOf σ1.2.2 rv sh cd td' V k := ⟨_, rfl⟩
  have QR : zQr q w.2.2 := by
    rw [hq0]
    refine zQr.of hL hV d2 tr hk (fun a j n => ?_) ?_ ?_
    · rw [C1]
      by_cases ca : a = rv
      · subst ca
        rw [zu_j _ _ _ _ _ (fun z => n ⟨rfl, Or.inr z.symm⟩), zu_j _ _ _ _ _ (fun z => n ⟨rfl, Or.inl z.symm⟩)]
        exact g.1 _ j n
      · rw [zu_n _ _ _ ca, zu_n _ _ _ ca]
        exact g.1 a j n
    · rw [C1, zu_j _ _ _ _ _ (by decide), zu_s]
    · rw [C1, zu_s]
  have T : ∀ i, i < 22 → zT L1 kd1 (q i) (qK i) := by rw [hq0]; exact qOf.t hL hV d2 tr hk
  have W0 : ∀ i, i < 22 → (i = 3 ∨ i = 4 ∨ (10 ≤ i ∧ i ≤ 15) ∨ 19 ≤ i) → w.1 (q i) = s0.1 (q i) := fun i hi n => funext (fun j => C2 _ j (by
    have ki := (T i hi).2
    unfold zKs
    rw [ki]
    rcases (show i = 3 ∨ i = 4 ∨ i = 10 ∨ i = 11 ∨ i = 12 ∨ i = 13 ∨ i = 14 ∨ i = 15 ∨ i = 19 ∨ i = 20 ∨ i = 21 by omega) with rfl | rfl | rfl | rfl | rfl | rfl | rfl | rfl | rfl | rfl | rfl <;> decide))
  have W1 : ∀ i, (i = 3 ∨ (10 ≤ i ∧ i ≤ 15)) → w.1 (q i) = σ1.1 (q i) := fun i n => (W0 i (by omega) (by omega)).trans (he _ _ (T i (by omega)) (by
    rcases (show i = 3 ∨ i = 10 ∨ i = 11 ∨ i = 12 ∨ i = 13 ∨ i = 14 ∨ i = 15 by omega) with rfl | rfl | rfl | rfl | rfl | rfl | rfl <;> decide))
  have e3 : q 3 = td' := by rw [hq0]; rfl
  have e4 : q 4 = V.1 k := by rw [hq0]; rfl
  have e19 : q 19 = V.2.1 k := by rw [hq0]; rfl
  have e20 : q 20 = V.2.2.1 k := by rw [hq0]; rfl
  have e21 : q 21 = V.2.2.2 k := by rw [hq0]; rfl
  have eT : ∀ i j, (i = 10 ∧ j = 3) ∨ (i = 11 ∧ j = 4) ∨ (i = 12 ∧ j = 5) ∨ (i = 13 ∧ j = 6) ∨ (i = 14 ∧ j = 7) ∨ (i = 15 ∧ j = 9) → q i = (σ1.2.2 td' j).getD 0 := fun i j hij => by
    rw [hq0]
    rcases hij with ⟨rfl, rfl⟩ | ⟨rfl, rfl⟩ | ⟨rfl, rfl⟩ | ⟨rfl, rfl⟩ | ⟨rfl, rfl⟩ | ⟨rfl, rfl⟩ <;> rfl
  have e16 : q 16 = (σ1.2.2 sh 2).getD 0 := by rw [hq0]; rfl
  have e17 : q 17 = (σ1.2.2 sh 3).getD 0 := by rw [hq0]; rfl
  have e18 : q 18 = (σ1.2.2 sh 4).getD 0 := by rw [hq0]; rfl
  have e1q : q 1 = sh := by rw [hq0]; rfl
  obtain ⟨c1, c2, c3, c4⟩ := id C3
  have hY : zYm (mR σ2 m0) m0 σ2.2.2 := zYm.of hJ hm
  have hY' : zYm (mR σ2 m0) m0 t.2.2 := by rw [m1]; exact hY
  have f18 : t.1 m0 18 = σ2.1 m0 18 := zFm.fld hJ hm m5 (j := 18) (by rfl) (by rfl)
  have rows : ∀ j, (j = 21 ∨ (23 ≤ j ∧ j ≤ 31) ∨ (33 ≤ j ∧ j ≤ 37) ∨ j = 39 ∨ j = 40) → t.1 (mR σ2 m0 j) = σ2.1 (mR σ2 m0 j) := fun j hj => by
    refine zFm.row hJ hm m5 (zYj_k (by unfold zYj; omega)).1 (by rfl) ?_
    rcases (show j = 21 ∨ j = 23 ∨ j = 24 ∨ j = 25 ∨ j = 26 ∨ j = 27 ∨ j = 28 ∨ j = 29 ∨ j = 30 ∨ j = 31 ∨ j = 33 ∨ j = 34 ∨ j = 35 ∨ j = 36 ∨ j = 37 ∨ j = 39 ∨ j = 40 by omega) with rfl | rfl | rfl | rfl | rfl | rfl | rfl | rfl | rfl | rfl | rfl | rfl | rfl | rfl | rfl | rfl | rfl <;> rfl
  have L5 : 0 < N' → zL5 q w gl := fun hN => by
   obtain ⟨⟨w3, w3'⟩, w4, -⟩ := hw' hN
   exact ⟨K, by rw [W1 3 (by omega), e3]; exact w3, w3', fun v hv => by
    rw [eT 13 6 (by omega), eT 14 7 (by omega), eT 15 9 (by omega)]
    exact (w4 v hv).1.cg (by rw [← eT 13 6 (by omega)]; exact W1 13 (by omega)) (by rw [← eT 14 7 (by omega)]; exact W1 14 (by omega)) (by rw [← eT 15 9 (by omega)]; exact W1 15 (by omega))⟩
  have W5 : 0 < N' → zW5 (mR σ2 m0) B t gl := fun hN v hv => by
   obtain ⟨-, w4, -⟩ := hw' hN
   exact ⟨(w4 v hv).2.cg (Nat.le_refl _) (Nat.le_refl _) (fun i _ _ => ⟨by rw [rows 39 (by omega)], by rw [rows 40 (by omega)]⟩) (fun j i j1 j2 _ _ => by rw [rows j (by omega)]) (by rw [rows 30 (by omega)]) (by rw [rows 31 (by omega)]), (w4 v hv).1.1⟩
  have S : zSd q (mR σ2 m0) m0 B N' gl u l w t := by
    refine ⟨⟨QR, L5, by rw [e1q]; exact c1, n1, n4, fun c c1 c2 => by rw [W0 19 (by decide) (by omega), e19]; exact hu c c1 c2, by rw [e16]; exact c2.p, fun x => ?_⟩, ⟨hY', by rw [f18]; exact hB, hB1, W5, by rw [mMany_g hJ hm m5 (by rfl) (by rfl) (by rfl)]; exact n2, fun c c1 c2 => by rw [m4 c (by omega)]; exact (hb c c1 c2).2, fun c hc => ?_, fun x => mIsS hM hJ hm n2 n1⟩, fun p hp => ⟨?_, ?_, ?_, ?_, ?_⟩, fun c c1 c2 => ?_, ?_⟩
    · rw [e1q]
      exact (cIsS C3 (by
        have := QR.1.2.2.2.1.2.2
        rw [e1q, e18] at this
        exact this)).2
    · rw [(m3 c hc).2]
      have a := sr_d n4 n1 S0 hS c hc
      have b := (dep_b n4 c hc).1
      omega
    · rw [W1 11 (by omega), eT 11 4 (by omega), rows 24 (by omega)]
      exact w5 4 p (by decide) (by decide) (by omega)
    · rw [e17, c2.2.1 p hp, (m3 p hp).1]
    · rw [W1 12 (by omega), eT 12 5 (by omega), rows 25 (by omega)]
      exact w5 5 p (by decide) (by decide) (by omega)
    · rw [W1 10 (by omega), eT 10 3 (by omega), rows 23 (by omega)]
      exact w5 3 p (by decide) (by decide) (by omega)
    · have a := c3 p hp
      rw [← e18] at a
      have b : (F_X11_bits (t.1 (mR σ2 m0 54) p)).toInt = cnt (fun j => An u p j) N' := by
        rw [bitM, cnt_ext (N := N') 12 n1 (fun j j1 j2 z => by
          have := ((m2 p j hp (by omega)).mp z).1
          omega)]
        exact congrArg _ (cnt_cg N' (fun j hj => ⟨fun z => ((m2 p j hp (by omega)).mp z).2, fun z => (m2 p j hp (by omega)).mpr ⟨hj, z⟩⟩))
      have cl := cnt_le (P := fun j => An u p j) N'
      have c0 : 0 < cnt (fun j => An u p j) N' := cnt_p N' hp An_rf
      have o1 : (1 : Int32).toInt = 1 := by decide
      refine Int32.toInt_inj.mp ?_
      rw [zb_sub (by rw [o1]; omega) (by rw [o1]; omega), o1]
      omega
    · have np := pI_b c (by omega)
      have ed : w.1 (q 4) 3 = (zcc V σ1.1 0).2.2.2.1 := by rw [W0 4 (by decide) (by omega), e4, hcD]; rfl
      unfold dmC dmM
      rw [cHas np.1 (by omega), ed, m4 (12 + c) (by omega), ← rc (12 + c) (by omega)]
      rcases Qk.1.2.1 c c1 c2 with ⟨z1, z2⟩ | ⟨z1, z2⟩
      · rw [z2, z1]
        decide
      · rw [z2, z1]
        decide
    · intro hN
      obtain ⟨-, -, -, w6, -⟩ := hw' hN
      rw [W1 3 (by omega), e3, rows 28 (by omega)]
      exact w6 2 (by decide)
  have So : 0 < N' → zSo q (mR σ2 m0) B w t := fun hN => by
    obtain ⟨-, -, -, w6, w7, w8⟩ := hw' hN
    unfold zSo
    rw [W1 3 (by omega), e3, rows 26 (by omega), rows 27 (by omega)]
    exact ⟨w6 0 (by decide), w6 1 (by decide), w7, w8⟩
  -- the flows as copies leave them
  obtain ⟨y, hy⟩ : ∃ y, y = zCp m0 σ2 ρ := ⟨_, rfl⟩
  obtain ⟨t', ht'⟩ : ∃ t', t' = F_X11_fillsWays m0 y := ⟨_, rfl⟩
  have tE : t = F_X11_fillsFlows m0 0 t' := by rw [ht0, ht', hy, zCopies hJ hm h2]
  have yr : y.2.2 = σ2.2.2 := by rw [hy]; rfl
  have gw : zFr (fun c _ => c = mR σ2 m0 54 ∨ c = mR σ2 m0 52 ∨ c = mR σ2 m0 53) y t' := by rw [ht']; exact fr_X11_fillsWays zFr.id (fun _ => Or.inl (by rw [yr])) (fun _ => Or.inr (Or.inl (by rw [yr]))) (fun _ => Or.inr (Or.inr (by rw [yr])))
  have t'r : t'.2.2 = σ2.2.2 := gw.rf.trans yr
  have gf : zFr (zVw (mR σ2 m0) m0) t' t := by rw [tE]; exact fr_X11_fillsFlows zFr.id (fun _ => Or.inr (Or.inl (by rw [t'r]))) (Or.inr (Or.inr (Or.inr ⟨rfl, rfl⟩))) (fun _ => Or.inr (Or.inr (Or.inl (by rw [t'r])))) (fun _ => Or.inl (by rw [t'r]))
  have hY2 : zYm (mR σ2 m0) m0 t'.2.2 := by rw [t'r]; exact hY
  have fld : ∀ j, j ≠ 47 → t.1 m0 j = y.1 m0 j := fun j hj => by
    rw [zVw.fl hY2 gf hj, gw.2 m0 j (by
      rintro (z | z | z)
      · exact (hY.1 54 (by unfold zYj; omega)).2 z.symm
      · exact (hY.1 52 (by unfold zYj; omega)).2 z.symm
      · exact (hY.1 53 (by unfold zYj; omega)).2 z.symm)]
  have f50 : 0 < N' → t.1 m0 50 = σ1.1 td' 13 := fun hN => by
    obtain ⟨-, -, -, w6, -⟩ := hw' hN
    rw [fld 50 (by decide), hy]
    show zu (zu (zcf ρ.1 (mR σ2 m0 49) (mR σ2 m0 48) 0 0 0 50) m0 50 (ρ.1 (mR σ2 m0 29) (ρ.1 m0 18).toNatClampNeg)) m0 51 0 m0 50 = _
    have r18' : ρ.1 m0 18 = σ2.1 m0 18 := zFm.fld hJ hm hρ (j := 18) (by rfl) (by rfl)
    have r29' : ρ.1 (mR σ2 m0 29) = σ2.1 (mR σ2 m0 29) := zFm.row hJ hm hρ (s := 29) (by rfl) (by rfl) (by rfl)
    rw [zu_j _ _ _ _ _ (by decide), zu_s, r18', r29', nB]
    exact (w6 3 (by decide)).symm
  have f51 : (t.1 m0 51).toInt = 0 := by
    rw [fld 51 (by decide), hy]
    show (zu (zu (zcf ρ.1 (mR σ2 m0 49) (mR σ2 m0 48) 0 0 0 50) m0 50 (ρ.1 (mR σ2 m0 29) (ρ.1 m0 18).toNatClampNeg)) m0 51 0 m0 51).toInt = _
    rw [zu_s]
    decide
  have S' : zSd q (mR σ2 m0) m0 B N' gl u l w t' := S.fr zFr.id (zVw.up gf.sy)
  refine ⟨td', B, N', gl, u, l, q, mR σ2 m0, w, t, ⟨hq0, rfl, hw0, ht0⟩, d1, n2, S, fun i hi => W0 i (by omega) (by omega), m4, So, f50, f51, fun Dn p hp => ?_⟩
  have Dn' : zDn q (mR σ2 m0) N' w t' := Dn.up2 hY' gf.sy
  have FL := (S'.fall Dn' (m := 0) (by decide) zFr.id zFr.id).2.2.1
  have := FL p hp
  rw [← tE] at this
  exact this
end STANDS
