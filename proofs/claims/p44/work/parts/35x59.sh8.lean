/-! THE LENGTHS TOLD ARE ALIKE, through all -/
/-- the lengths lie within what may be told -/
def zGb (s : zA) (g : zGa) : Prop := s.1 = 0 → s.2.2.2.1 = 0 → ∀ p : Nat, 1 ≤ p → (p : Int) ≤ s.2.2.2.2.2.2.1 → 1 ≤ (g p).2.1 ∧ (g p).2.1 ≤ 99
section GB
variable {T : zTn} {s : zA} {g : zGa}
theorem aNumb_in {lo hi : Int} (hs : s.1 = 0) (hz : (aNumb T lo hi s).1 = 0) (h : (aNumb T lo hi s).2.2.2.1 = 0) : lo ≤ T.2.2.1 s.2.2.1 ∧ T.2.2.1 s.2.2.1 ≤ hi := by
  have k := aNumb_k hz
  apply Classical.byContradiction
  intro n
  unfold aNumb at h
  rw [aTake_l, if_pos ⟨hs, k, n⟩] at h
  exact aLate_l h (by decide) hs
theorem gB_tell (hs : s.1 = 0) (hg : zGb s g) : zGb (aTell T s) (aG T s g) := by
  intro q l p hp1 hp2
  by_cases ht : T.1 s.2.2.1 = 1
  · have Ea : aTell T s = aTake T 24 (aPlace T s) := by
      unfold aTell
      rw [if_neg (by omega), if_pos ht]
    rw [Ea] at q l hp2
    have qp : (aPlace T s).1 = 0 := (aTake_i q).1
    have lp : (aPlace T s).2.2.2.1 = 0 := by rw [aTake_l] at l; exact l
    have q2 : (aPlace2 T (aPlace1 T s)).1 = 0 := by
      have qp' := qp
      unfold aPlace at qp'
      split at qp'
      · next c => exact c.1
      · exact qp'
    obtain ⟨s1z, -, i2⟩ := aPlace2_i q2
    have c11 : s.2.2.2.2.2.2.1 < 11 := by
      apply Classical.byContradiction
      intro n
      have s1z' := s1z
      unfold aPlace1 at s1z'
      rw [if_pos (by omega)] at s1z'
      have := (aTake_i s1z').1
      unfold aFail at this
      rw [if_neg (zne hs)] at this
      exact absurd this (by decide : ¬ (2 : Int) = 0)
    have es1 : aPlace1 T s = aTake T 1 s := by
      unfold aPlace1
      rw [if_neg (by omega)]
    obtain ⟨-, -, t3, t4⟩ := aTake_i (es1 ▸ s1z)
    have cnt' : (aPlace2 T (aPlace1 T s)).2.2.2.2.2.2.1 = s.2.2.2.2.2.2.1 := by
      rw [show (aPlace2 T (aPlace1 T s)).2.2.2.2.2.2.1 = (aPlace1 T s).2.2.2.2.2.2.1 from congrArg (fun z => z.2.1) i2, es1]
      exact congrArg (fun z => z.2.2.2.1) t4
    have ep : aPlace T s = aSetP (aPlace2 T (aPlace1 T s)) (T.2.1 (aPlace1 T s).2.2.1) := by
      unfold aPlace
      rw [if_pos ⟨q2, by omega⟩]
    have l2 : (aPlace2 T (aPlace1 T s)).2.2.2.1 = 0 := by rw [ep] at lp; exact lp
    have ec : (aTake T 24 (aPlace T s)).2.2.2.2.2.2.1 = (aPlace T s).2.2.2.2.2.2.1 := congrArg (fun z => z.2.2.2.1) (aTake_i q).2.2.2
    have hp3 : (p : Int) ≤ s.2.2.2.2.2.2.1 + 1 := by rw [ec, ep] at hp2; rw [← cnt']; exact hp2
    have eg : aG T s g = fun p : Nat => if (p : Int) = s.2.2.2.2.2.2.1 + 1 then aVals T (aPlace1 T s) else g p := by
      unfold aG
      rw [if_pos ⟨ht, qp⟩]
    obtain ⟨z4, -, -⟩ := aNumb_i (lo := 0) (hi := 99) q2
    obtain ⟨z3, -, -⟩ := aNumb_i z4
    obtain ⟨z2, -, -⟩ := aNumb_i z3
    obtain ⟨z1, k22, -⟩ := aKnown_i z2
    have l4 := aNumb_l (lo := 0) (hi := 99) z4 l2
    have l3 := aNumb_l z3 l4
    have l1 := aNumb_l z2 l3
    obtain ⟨l0, -⟩ := aKnown_l z1 l1 k22
    have lN := aNew_l s1z l0
    have lS : s.2.2.2.1 = 0 := by rw [es1, aTake_l] at lN; exact lN
    have b := aNumb_in z2 z3 l3
    rw [eg]
    show 1 ≤ (if (p : Int) = s.2.2.2.2.2.2.1 + 1 then aVals T (aPlace1 T s) else g p).2.1 ∧ (if (p : Int) = s.2.2.2.2.2.2.1 + 1 then aVals T (aPlace1 T s) else g p).2.1 ≤ 99
    by_cases cp : (p : Int) = s.2.2.2.2.2.2.1 + 1
    · rw [if_pos cp]
      exact b
    · rw [if_neg cp]
      exact hg hs lS p hp1 (by omega)
  · have eg : aG T s g = g := by
      unfold aG
      rw [if_neg (fun z => ht z.1)]
    have k := aK_tell (T := T) (l := s.2.2.2.1) (c := s.2.2.2.2.2.2.1) ⟨id, rfl⟩ ht
    rw [eg]
    exact hg hs (k.1 l) p hp1 (by rw [← k.2]; exact hp2)
theorem gB_run : ∀ (l : Nat) (s : zA) (g : zGa), zGb s g → zGb (aRun T l s) (gRun T (aG T) l s g) := by
  intro l
  induction l with
  | zero => intro s g h; exact h
  | succ l ih =>
    intro s g h
    rw [aRun, gRun]
    by_cases c : s.1 = 0
    · rw [if_neg (zne c), if_neg (zne c)]
      by_cases c1 : T.1 s.2.2.1 = 33
      · rw [if_pos c1, if_pos c1]; exact h
      · rw [if_neg c1, if_neg c1]
        exact ih _ _ (gB_tell c h)
    · rw [if_pos c, if_pos c]; exact h
end GB
section TLR
variable {κ : Int} {L1 : List Nat} {kd1 : Nat → Nat} {L2 : List Nat} {kd2 : Nat → Nat} {σ1 σ2 τ1 τ2 : zS} {m0 x0 : Nat} {V : zWh} {ps pc sl rv sh cd td tt : Nat}
set_option maxHeartbeats 1000000 in
theorem zLen.read {v1 v2 : Int32} (hS : zSAM κ L1 kd1 L2 kd2 σ1 σ2) (hl : zLen x0 m0 σ1 σ2) (hL : zLay L1 kd1 x0 σ1.2.2 V ps pc sl) (hTt : zTt x0 σ1.2.2 td tt) (hI1 : zI κ 0 L1 kd1 σ1) (hI2 : zJ κ L2 kd2 σ2) (hx0 : zT L1 kd1 x0 10) (hm0 : zT L2 kd2 m0 11) (f1 : (v1, τ1) = F_X10_read x0 σ1) (f2 : (v2, τ2) = F_X11_read m0 σ2) : zLen x0 m0 τ1 τ2 := by
  obtain ⟨T, m, P, tk, kA, vA, qA, tt', N0, k, q, v, nm, nO, x, p1, p2, C0, D0, S0, y, K, ⟨hd, hd', hTm, hK⟩, ⟨v0, w0⟩, ⟨e, e2⟩, ⟨P1, s1, P2, s2⟩, er, ef, -, dF, tks⟩ := zRead1 hS hI1 hI2 hx0 hm0
  have ett : tt' = tt := Option.some.inj (s1.symm.trans hTt.2.1)
  subst ett
  obtain ⟨c1, c2, c3⟩ := cRead hL hI1 hx0 hTt P1 P2 s2 hd hK v0 e er ef f1
  obtain ⟨b, E, hb1, h18, hE, rE, E19, EF, EX, m1, m2⟩ := mRead hI2 hm0 hd' hTm hK w0 e2 dF tks f2 (fun _ => (0, 0, 0, 0))
  have d1 := hTt.1
  have td9 : zT L1 kd1 td 9 := by
    obtain ⟨z, z1, z2⟩ := zi_ref (j := 10) (k2 := 9) hI1 hx0 (by rfl)
    rw [d1] at z1
    rw [Option.some.inj z1]
    exact z2
  have xP : x0 ≠ P := zNk hx0 P2 (by decide)
  have tP : tt' ≠ P := zNk s2 P2 (by decide)
  have dP : td ≠ P := zNk td9 P2 (by decide)
  have kr := fun j j1 j2 j3 => zTt_k hI1 s2 j j1 j2 j3
  have r3 := kr 3 (by decide) (by decide) (by decide)
  have gd : (σ1.2.2 x0 10).getD 0 = td := by rw [d1]; rfl
  have t23 : zf 0 11 23 = some (100 + 23) := by rfl
  by_cases za : aAns (aRun T 500 aZ) = 0
  · obtain ⟨⟨z1, z2⟩, g1, -, -, -, -, -, -, g8, -, g10, -⟩ := c3 za
    obtain ⟨-, N2, l1, l2, -, l4, l5, -, -, -, -, l10⟩ := m2 za
    obtain ⟨X1, -, X3⟩ := EX z1 z2
    have r10 : (τ1.2.2 x0 10).getD 0 = tt' := by rw [g1, zu_s]; rfl
    have rt : τ1.2.2 tt' = σ1.2.2 tt' := by rw [g1, zu_n _ _ _ (zNk s2 hx0 (by decide)), zu_n _ _ _ (zNk s2 hx0 (by decide)), zu_n _ _ _ tP]
    have er2 : ∀ s, mR τ2 m0 s = mR σ2 m0 s := fun s => by rw [mR, l4]
    have nB : ∀ x, (x = 21 ∨ x = 23) → ∀ j, ¬ zBm σ2 m0 (mR σ2 m0 x) j := fun x hx j => by
      have hz : zf 0 11 x = some (100 + x) := by rcases hx with rfl | rfl <;> rfl
      rintro (⟨z, -⟩ | z | z | z)
      · exact mR_m hI2 hm0 hz (by omega) z
      · exact mR_ne hI2 hm0 hz (s' := 48) (k' := 148) (by rfl) (by omega) z
      · exact mR_ne hI2 hm0 hz (s' := 49) (k' := 149) (by rfl) (by omega) z
      · exact mR_ne hI2 hm0 hz (s' := 67) (k' := 167) (by rfl) (by omega) z
    obtain ⟨W, hW⟩ : ∃ W : Nat → Nat, W = fun j => (σ1.2.2 tt' j).getD 0 := ⟨_, rfl⟩
    have Wk : ∀ j, 2 ≤ j → j ≤ 5 → zT L1 kd1 (W j) (43 + j) := fun j j1 j2 => by
      have := kr j j1 (by omega) (by omega)
      rw [if_neg (by omega)] at this
      rw [hW]; exact this
    have rC0 : ∀ j, C0.2.2 tt' j = σ1.2.2 tt' j := fun j => by rw [er, zu_n _ _ _ tP]
    have hWz : zWz W P tt' C0.2.2 := ⟨fun j j1 j2 => ⟨by rw [rC0, hW], zNk (Wk j j1 j2) P2 (by omega)⟩, fun i j i1 i2 j1 j2 n => zNk (Wk i i1 i2) (Wk j j1 j2) (by omega)⟩
    have hXz : ∀ j, 2 ≤ j → j ≤ 5 → W j ≠ tt' ∧ W j ≠ (C0.2.2 tt' 6).getD 0 ∧ W j ≠ (C0.2.2 tt' 7).getD 0 ∧ W j ≠ (C0.2.2 tt' 9).getD 0 := fun j j1 j2 => by
      have q6 : zT L1 kd1 ((σ1.2.2 tt' 6).getD 0) 49 := kr 6 (by decide) (by decide) (by decide)
      have q7 : zT L1 kd1 ((σ1.2.2 tt' 7).getD 0) 50 := kr 7 (by decide) (by decide) (by decide)
      have q9 : zT L1 kd1 ((σ1.2.2 tt' 9).getD 0) 51 := kr 9 (by decide) (by decide) (by decide)
      rw [rC0, rC0, rC0]
      exact ⟨zNk (Wk j j1 j2) s2 (by omega), zNk (Wk j j1 j2) q6 (by omega), zNk (Wk j j1 j2) q7 (by omega), zNk (Wk j j1 j2) q9 (by omega)⟩
    obtain ⟨-, VG, -⟩ := vEndI (tt := tt') hd hK (fun τ s g => zVg W τ s g ∧ τ.2.2 = C0.2.2) (aG T) (fun τ s g hv hs hi => ⟨vTellG hd hK hv hs (by rw [hi.2]; exact hWz) (by rw [hi.2]; exact hXz) hi.1, by rw [show (F_X3_telling P τ).2.2 = τ.2.2 from rf_X3_telling (R := τ.2.2) rfl]; exact hi.2⟩) 500 C0 aZ (fun _ => (0, 0, 0, 0)) v0 ⟨fun _ _ p h1 h2 => by have h2' : (p : Int) ≤ 0 := h2; omega, rfl⟩
    have VG' := VG z1 z2
    have GB := gB_run (T := T) 500 aZ (fun _ => (0, 0, 0, 0)) (fun _ _ p h1 h2 => by have h2' : (p : Int) ≤ 0 := h2; omega) z1 z2
    have M2 : zM m0 τ2 = N2 := by
      unfold zM zp
      show (τ2.1 (mR τ2 m0 21) (τ2.1 m0 18).toInt.toNat).toInt = N2
      rw [er2, l5, l10 _ _ (nB 21 (by omega) _)]
      exact l2
    intro p h1 h2
    rw [M2] at h2
    have hp : (p : Int) ≤ (aRun T 500 aZ).2.2.2.2.2.2.1 := by
      rw [l2] at X1
      split at X1
      · omega
      · omega
    have q1 := (VG' p h1 hp).2.1
    have q2 := (X3 p h1 hp).2.1
    have q3 := GB p h1 hp
    rw [hW] at q1
    have eb : (τ2.1 m0 18).toInt.toNat = b := by rw [l5]; rfl
    rw [er2, eb, l10 _ _ (nB 23 (by omega) _), r10, rt, g10 3 (by decide) (by decide) (by decide)]
    refine ⟨Int32.toInt_inj.mp (q1.trans q2.symm), ?_⟩
    rw [q2]
    exact q3
  · obtain ⟨g1, g2⟩ := c2 za
    obtain ⟨l1, l2⟩ := m1 za
    have ro : ∀ c, c ≠ P → τ1.2.2 c = σ1.2.2 c := fun c h1 => by rw [g1, zu_n _ _ _ h1]
    obtain ⟨y3, y1, y2⟩ := zi_ref (j := 3) (k2 := 46) hI1 td9 (by rfl)
    have gy : (σ1.2.2 td 3).getD 0 = y3 := by rw [y1]; rfl
    have ny := hTt.2.2.2 3 (by decide) (by decide) (by decide)
    rw [gy] at ny
    have krn : ∀ j, 2 ≤ j → j ≤ 9 → j ≠ 8 → j ≠ 3 → kd1 ((σ1.2.2 tt' j).getD 0) ≠ 46 := fun j j1 j2 j3 j4 => by
      rw [(kr j j1 j2 j3).2]
      split <;> omega
    have fy : ∀ j, τ1.1 y3 j = σ1.1 y3 j := fun j => g2 y3 j (by
      rintro (⟨-, z⟩ | z | ⟨i, i1, i2, i3, z⟩)
      · rw [y2.2] at z; omega
      · exact zNk y2 s2 (by decide) z
      · by_cases e3 : i = 3
        · rw [e3] at z; exact ny z
        · exact krn i i1 i2 i3 e3 (by rw [← z]; exact y2.2)) (fun z => zNk y2 hx0 (by decide) z.1) (by rw [y2.2]; decide)
    have er2 : ∀ s, mR τ2 m0 s = mR σ2 m0 s := fun s => by rw [mR, l1]
    have l : ∀ c j, ¬ (c = m0 ∧ j = 17) → ¬ zAm (mR σ2 m0) m0 b x k q v c j → τ2.1 c j = σ2.1 c j := fun c j n1 n2 => (l2 c j n1).trans (EF c j n2)
    have e18 : τ2.1 m0 18 = σ2.1 m0 18 := l _ _ (fun z => by omega) (zAm.fld hI2 hm0 tks (by omega))
    have e21 : τ2.1 (mR σ2 m0 21) (σ2.1 m0 18).toInt.toNat = σ2.1 (mR σ2 m0 21) (σ2.1 m0 18).toInt.toNat := l _ _ (fun z => mR_m hI2 hm0 (s := 21) (k := 121) (by rfl) (by decide) z.1) (zAm.r21 hI2 hm0 tks (by omega))
    have M2 : zM m0 τ2 = zM m0 σ2 := by
      unfold zM zp
      rw [e18]
      show (τ2.1 (mR τ2 m0 21) _).toInt = (σ2.1 (mR σ2 m0 21) _).toInt
      rw [er2, e21]
    have mN : zM m0 σ2 ≤ 12 := (zM_in hI2 hm0).2
    have t23k : zT L2 kd2 (mR σ2 m0 23) 123 := mR_t hI2 hm0 (by rfl)
    have e23 : ∀ p : Nat, p < 12 → τ2.1 (mR σ2 m0 23) (12 * (σ2.1 m0 18).toInt.toNat + p) = σ2.1 (mR σ2 m0 23) (12 * (σ2.1 m0 18).toInt.toNat + p) := fun p hp => l _ _ (fun z => mR_m hI2 hm0 (s := 23) (k := 123) (by rfl) (by decide) z.1) (by
      have q23 : zQs 23 := by unfold zQs; omega
      have n : ∀ i, zQs i → i ≠ 23 → mR σ2 m0 23 ≠ mR σ2 m0 i := fun i hi h => mR_ne hI2 hm0 (zQs_k q23).1 (zQs_k hi).1 (by omega)
      rintro ((⟨z, -⟩ | ⟨-, z1, z2⟩ | ⟨z, -⟩ | ⟨i, z1, z2, z3, z⟩) | ⟨z, -⟩ | z | z | z | z)
      · exact zNk t23k hm0 (by decide) z
      · omega
      · exact n 21 (by unfold zQs; omega) (by decide) z
      · exact n i z1 (by omega) z
      · exact zNk t23k hm0 (by decide) z
      · exact zNk t23k tks.1 (by decide) z
      · exact zNk t23k tks.2.1 (by decide) z
      · exact zNk t23k tks.2.2.1 (by decide) z
      · exact zNk t23k tks.2.2.2 (by decide) z)
    intro p h1 h2
    rw [M2] at h2
    have A := hl p h1 h2
    rw [gd, gy] at A
    rw [er2, e18, e23 p (by omega), ro x0 xP, gd, ro td dP, gy, fy]
    exact A
theorem zLen.c {Wk Wr : List Nat} (h : zLen x0 m0 σ1 σ2) (hI : zI κ 0 L1 kd1 σ1) (hx : zT L1 kd1 x0 10) (g : zSm Wk Wr L1 kd1 σ1 τ1) (h1 : Wk.contains 46 = false) (h2 : (Wr.all (fun j => j == 5)) = true) : zLen x0 m0 τ1 σ2 := by
  have n : ∀ a ∈ L1, kd1 a ≠ 5 → τ1.2.2 a = σ1.2.2 a := fun a ha h5 => (g a ha).2 (fun q => h5 (by
    have := List.all_eq_true.mp h2 _ q
    simpa using this))
  obtain ⟨td, d1, d2⟩ := zi_ref (j := 10) (k2 := 9) hI hx (by rfl)
  obtain ⟨y, y1, y2⟩ := zi_ref (j := 3) (k2 := 46) hI d2 (by rfl)
  have gd : (σ1.2.2 x0 10).getD 0 = td := by rw [d1]; rfl
  have gy : (σ1.2.2 td 3).getD 0 = y := by rw [y1]; rfl
  have ey : τ1.1 y = σ1.1 y := ((g y y2.1).1 (by rw [y2.2]; exact fun q => by simp [q] at h1)).1
  intro p p1 p2
  have A := h p p1 p2
  rw [gd, gy] at A
  rw [n x0 hx.1 (by rw [hx.2]; decide), gd, n td d2.1 (by rw [d2.2]; decide), gy, ey]
  exact A
theorem zLen.m {Wf Wa : List Nat} (h : zLen x0 m0 σ1 σ2) (hJ : zJ κ L2 kd2 σ2) (hm : zT L2 kd2 m0 11) (g : zSame m0 Wf Wa L2 kd2 σ2 τ2) (h1 : Wf.contains 18 = false) (h2 : ([121, 123].all (fun j => !(Wa.contains j))) = true) : zLen x0 m0 σ1 τ2 := by
  have er : ∀ s, mR τ2 m0 s = mR σ2 m0 s := fun s => by rw [mR, g.2.2]
  have r : ∀ s, (s = 21 ∨ s = 23) → τ2.1 (mR σ2 m0 s) = σ2.1 (mR σ2 m0 s) := fun s hs => by
    have ht : zT L2 kd2 (mR σ2 m0 s) (100 + s) := by rcases hs with rfl | rfl <;> exact mR_t hJ hm (by rfl)
    refine (g.1 _ ht.1 (by rw [ht.2]; omega) (fun q => ?_)).1
    rw [ht.2] at q
    have z := List.all_eq_true.mp h2 (100 + s) (by rcases hs with rfl | rfl <;> decide)
    simp [q] at z
  have e18 : τ2.1 m0 18 = σ2.1 m0 18 := g.2.1 18 (fun q => by simp [q] at h1)
  have M2 : zM m0 τ2 = zM m0 σ2 := by
    unfold zM zp
    rw [e18]
    show (τ2.1 (mR τ2 m0 21) _).toInt = (σ2.1 (mR σ2 m0 21) _).toInt
    rw [er, r 21 (by omega)]
  intro p p1 p2
  rw [M2] at p2
  have A := h p p1 p2
  rw [er, e18, r 23 (by omega)]
  exact A
end TLR
