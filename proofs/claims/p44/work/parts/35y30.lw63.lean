/-! TOLD BESIDE: storms alike also where there is no place, the tree as told, nothing of the mouth; what is held -/
def zTy (x0 m0 : Nat) (σ1 σ2 : zS) : Prop := ∃ td B : Nat, (σ1.2.2 x0 10).getD 0 = td ∧ (σ2.1 m0 18).toInt.toNat = B ∧ ((∀ j : Nat, j < 4 → σ1.1 td (10 + j) = σ2.1 (mR σ2 m0 (26 + j)) B) ∨ ((σ1.1 td 10).toInt = 0 ∧ (σ2.1 (mR σ2 m0 26) B).toInt = 0)) ∧ (0 < zM m0 σ2 → ∀ j, 3 ≤ j → j ≤ 5 → (σ1.1 ((σ1.2.2 td j).getD 0) 0).toInt = 0) ∧ ∀ p : Nat, 1 ≤ p → (p : Int) < zM m0 σ2 → σ1.1 ((σ1.2.2 td 2).getD 0) p = σ2.1 (mR σ2 m0 22) (12 * B + p)
def zHs (x0 : Nat) (σ1 : zS) : Prop := ∀ j, 3 ≤ j → j < 32 → bt (σ1.1 x0 12) j = false
section TDS
variable {κ k : Int} {L1 : List Nat} {kd1 : Nat → Nat} {L2 : List Nat} {kd2 : Nat → Nat} {σ1 σ2 τ1 τ2 : zS} {Wk Wr Wf Wa : List Nat} {m0 x0 : Nat} {V : zWh} {ps pc sl : Nat} {v1 p : Int32}
theorem zHs.c (h : zHs x0 σ1) (hx : zT L1 kd1 x0 10) (g : zSm Wk Wr L1 kd1 σ1 τ1) (h1 : Wk.contains 10 = false) : zHs x0 τ1 := by
  have e : τ1.1 x0 = σ1.1 x0 := ((g x0 hx.1).1 (fun q => by
    rw [hx.2] at q
    simp [q] at h1)).1
  unfold zHs
  rw [e]
  exact h
theorem zHs.hold (h : zHs x0 σ1) (hL : zLay L1 kd1 x0 σ1.2.2 V ps pc sl) (f1 : (v1, τ1) = F_X10_hold x0 p σ1) : zHs x0 τ1 := by
  have e0 : (0 : Int32).toInt = 0 := by decide
  have e2 : (2 : Int32).toInt = 2 := by decide
  unfold F_X10_hold at f1
  simp only [zlt, cWithin, e0, e2] at f1
  by_cases c : 0 ≤ p.toInt ∧ p.toInt ≤ 2
  · rw [if_neg (fun z => z c)] at f1
    obtain ⟨P, hp⟩ : ∃ P : Nat, p.toInt = P := ⟨p.toInt.toNat, by omega⟩
    have nP : p.toNatClampNeg = P := by rw [ztn, hp]; rfl
    have g8 : (σ1.2.2 x0 8).getD 0 = sl := by rw [hL.1.2.2.1]; rfl
    have gs : (σ1.2.2 sl P).getD 0 = V.1 (2 + P) := by rw [hL.2.1 P (by omega)]; rfl
    have g6 : (σ1.2.2 x0 6).getD 0 = V.1 0 := by rw [hL.1.1]; rfl
    simp only [g8, nP, gs, g6] at f1
    obtain ⟨-, -, -, c4⟩ := zCopy hL (k := 2 + P) (q := 0) (by omega) (by decide)
    obtain ⟨⟨uA, uI, uW, uM⟩, -⟩ := hL.2.2.2.1 (2 + P) (by omega)
    have hx : zT L1 kd1 x0 10 := hL.2.2.2.2.2.1
    have ex : (F_X1_copy (V.1 (2 + P)) (V.1 0) σ1).1 x0 = σ1.1 x0 := c4 x0 (by
      rintro (z | z | z | z)
      · exact zNk hx uA (by decide) z
      · exact zNk hx uI (by decide) z
      · exact zNk hx uW (by decide) z
      · exact zNk hx uM (by decide) z)
    have et : τ1.1 x0 12 = σ1.1 x0 12 ||| F_X10_bit p := by
      rw [show τ1 = _ from congrArg Prod.snd f1]
      show zu (F_X1_copy (V.1 (2 + P)) (V.1 0) σ1).1 x0 12 _ x0 12 = _
      rw [zu_s, ex]
    intro j j1 j2
    have eb : F_X10_bit p = (1 : Int32) <<< (nI P &&& 31) := by
      unfold F_X10_bit
      simp only [zlt]
      rw [zNi hp (by omega)]
    rw [et, b_or, h j j1 j2, eb, bt_1 (by omega) j2, decide_eq_false (by omega)]
    rfl
  · rw [if_pos c] at f1
    rw [show τ1 = σ1 from congrArg Prod.snd f1]
    exact h
theorem zTy.c (h : zTy x0 m0 σ1 σ2) (hI : zI κ 0 L1 kd1 σ1) (hx : zT L1 kd1 x0 10) (g : zSm Wk Wr L1 kd1 σ1 τ1) (h1 : ([9, 45, 46, 47, 48].all (fun j => !(Wk.contains j))) = true) (h2 : (Wr.all (fun j => j == 5)) = true) : zTy x0 m0 τ1 σ2 := by
  have n : ∀ a ∈ L1, kd1 a ≠ 5 → τ1.2.2 a = σ1.2.2 a := fun a ha h5 => (g a ha).2 (fun q => h5 (by
    have := List.all_eq_true.mp h2 _ q
    simpa using this))
  have c : ∀ a kc, zT L1 kd1 a kc → kc ∈ ([9, 45, 46, 47, 48] : List Nat) → τ1.1 a = σ1.1 a := fun a kc ha hk => ((g a ha.1).1 (fun q => by
    rw [ha.2] at q
    have z := List.all_eq_true.mp h1 kc hk
    simp [q] at z)).1
  obtain ⟨td, d1, d2⟩ := zi_ref (j := 10) (k2 := 9) hI hx (by rfl)
  have gd : (σ1.2.2 x0 10).getD 0 = td := by rw [d1]; rfl
  have tr := zTt_k hI d2
  obtain ⟨td', B, w1, w2, w3, w4, w5⟩ := h
  have et : td' = td := by rw [← w1, gd]
  rw [et] at w3 w4 w5
  have rt := n td d2.1 (by rw [d2.2]; decide)
  have ct : τ1.1 td = σ1.1 td := c td 9 d2 (by decide)
  have ec : ∀ j, (j = 2 ∨ j = 3 ∨ j = 4 ∨ j = 5) → τ1.1 ((σ1.2.2 td j).getD 0) = σ1.1 ((σ1.2.2 td j).getD 0) := fun j hj => by
    rcases hj with rfl | rfl | rfl | rfl
    · exact c _ 45 (tr 2 (by decide) (by decide) (by decide)) (by decide)
    · exact c _ 46 (tr 3 (by decide) (by decide) (by decide)) (by decide)
    · exact c _ 47 (tr 4 (by decide) (by decide) (by decide)) (by decide)
    · exact c _ 48 (tr 5 (by decide) (by decide) (by decide)) (by decide)
  refine ⟨td, B, by rw [n x0 hx.1 (by rw [hx.2]; decide)]; exact gd, w2, by rw [ct]; exact w3, fun hz j j1 j2 => ?_, fun p p1 hp => ?_⟩
  · rw [rt, ec j (by omega)]
    exact w4 hz j j1 j2
  · rw [rt, ec 2 (by omega)]
    exact w5 p p1 hp
theorem zTy.m (h : zTy x0 m0 σ1 σ2) (hJ : zJ k L2 kd2 σ2) (hm : zT L2 kd2 m0 11) (g : zSame m0 Wf Wa L2 kd2 σ2 τ2) (h1 : Wf.contains 18 = false) (h2 : ([121, 122, 126, 127, 128, 129].all (fun j => !(Wa.contains j))) = true) : zTy x0 m0 σ1 τ2 := by
  have M2 : zM m0 τ2 = zM m0 σ2 := zM.m hJ hm g h1 (nC h2 (by rfl))
  have er : ∀ s, mR τ2 m0 s = mR σ2 m0 s := fun s => by rw [mR, g.2.2]
  have r : ∀ s, zQs s → 100 + s ∈ ([121, 122, 126, 127, 128, 129] : List Nat) → τ2.1 (mR σ2 m0 s) = σ2.1 (mR σ2 m0 s) := fun s hs hk => by
    have ht : zT L2 kd2 (mR σ2 m0 s) (100 + s) := mR_t hJ hm (zQs_k hs).1
    refine (g.1 _ ht.1 (by rw [ht.2]; omega) (fun q => ?_)).1
    rw [ht.2] at q
    have z := List.all_eq_true.mp h2 (100 + s) hk
    simp [q] at z
  have e18 : τ2.1 m0 18 = σ2.1 m0 18 := g.2.1 18 (fun q => by simp [q] at h1)
  have qq : ∀ s, (s = 22 ∨ (26 ≤ s ∧ s ≤ 29)) → τ2.1 (mR σ2 m0 s) = σ2.1 (mR σ2 m0 s) := fun s hs => r s (by unfold zQs; omega) (by
    simp only [List.mem_cons, List.not_mem_nil, or_false]
    omega)
  obtain ⟨td, B, w1, w2, w3, w4, w5⟩ := h
  refine ⟨td, B, w1, by rw [e18]; exact w2, ?_, fun hz => w4 (by rw [← M2]; exact hz), fun p p1 hp => ?_⟩
  · rcases w3 with w3 | ⟨n1, n2⟩
    · exact Or.inl (fun j hj => by rw [er, qq (26 + j) (by omega)]; exact w3 j hj)
    · exact Or.inr ⟨n1, by rw [er, qq 26 (by omega)]; exact n2⟩
  · rw [M2] at hp
    rw [er, qq 22 (by omega)]
    exact w5 p p1 hp
end TDS
section TDS2
variable {κ : Int} {L1 : List Nat} {kd1 : Nat → Nat} {L2 : List Nat} {kd2 : Nat → Nat} {σ1 σ2 τ1 τ2 : zS} {m0 x0 : Nat} {V : zWh} {ps pc sl td tt : Nat}
set_option maxHeartbeats 1000000 in
theorem zTy.read {v1 v2 : Int32} (hS : zSAM κ L1 kd1 L2 kd2 σ1 σ2) (hl : zTy x0 m0 σ1 σ2) (hL : zLay L1 kd1 x0 σ1.2.2 V ps pc sl) (hTt : zTt x0 σ1.2.2 td tt) (hI1 : zI κ 0 L1 kd1 σ1) (hI2 : zJ κ L2 kd2 σ2) (hx0 : zT L1 kd1 x0 10) (hm0 : zT L2 kd2 m0 11) (f1 : (v1, τ1) = F_X10_read x0 σ1) (f2 : (v2, τ2) = F_X11_read m0 σ2) : zTy x0 m0 τ1 τ2 ∧ (zHs x0 σ1 → zHs x0 τ1) := by
  obtain ⟨T, m, P, tk, kA, vA, qA, tt', N0, k, q, v, nm, nO, x, p1, p2, C0, D0, S0, y, K, ⟨hd, hd', hTm, hK⟩, ⟨v0, w0⟩, ⟨e, e2⟩, ⟨P1, s1, P2, s2⟩, er, ef, es, dF, tks, hNn⟩ := zRead1N hS hI1 hI2 hx0 hm0
  have ett : tt' = tt := Option.some.inj (s1.symm.trans hTt.2.1)
  subst ett
  obtain ⟨c1, c2, c3⟩ := cRead hL hI1 hx0 hTt P1 P2 s2 hd hK v0 e er ef f1
  obtain ⟨b, E, hb1, h18, hE, rE, E19, EF, EX, m1, m2⟩ := mRead hI2 hm0 hd' hTm hK w0 e2 dF tks f2 (fun _ => (0, 0, 0, 0))
  obtain ⟨MO, MS⟩ := mLwS (b := b) hI2 hm0 hd' hTm hK w0 dF tks hb1 h18
  rw [← hE] at MO MS
  have d1 := hTt.1
  have td9 : zT L1 kd1 td 9 := by
    obtain ⟨z, z1, z2⟩ := zi_ref (j := 10) (k2 := 9) hI1 hx0 (by rfl)
    rw [d1] at z1
    rw [Option.some.inj z1]
    exact z2
  have xP : x0 ≠ P := zNk hx0 P2 (by decide)
  have tP : tt' ≠ P := zNk s2 P2 (by decide)
  have dP : td ≠ P := zNk td9 P2 (by decide)
  have kr := fun j j1 j2 j3 => zTt_k hI1 s2 j j1 j2 j3
  have krd := fun j j1 j2 j3 => zTt_k hI1 td9 j j1 j2 j3
  have gd : (σ1.2.2 x0 10).getD 0 = td := by rw [d1]; rfl
  by_cases za : aAns (aRun T 500 aZ) = 0
  · obtain ⟨⟨z1, z2⟩, g1, -, -, -, -, -, g7, g8, g9, g10, -⟩ := c3 za
    obtain ⟨-, N2, l1, l2, -, l4, l5, -, -, -, -, l10⟩ := m2 za
    obtain ⟨X1, X2, X3⟩ := EX z1 z2
    obtain ⟨KK, b1, b2, b3, b4, b5⟩ := cLwS hI1 P2 s2 hd hK hNn v0 er es z1 z2
    obtain ⟨M1, M2⟩ := MS z1
    have r10 : (τ1.2.2 x0 10).getD 0 = tt' := by rw [g1, zu_s]; rfl
    have rt : τ1.2.2 tt' = σ1.2.2 tt' := by rw [g1, zu_n _ _ _ (zNk s2 hx0 (by decide)), zu_n _ _ _ (zNk s2 hx0 (by decide)), zu_n _ _ _ tP]
    have er2 : ∀ s, mR τ2 m0 s = mR σ2 m0 s := fun s => by rw [mR, l4]
    have eY : mR τ2 m0 = mR σ2 m0 := funext er2
    have eb : (τ2.1 m0 18).toInt.toNat = b := by rw [l5]; rfl
    have nB : ∀ x, zQs x → x ≤ 43 → ∀ j, ¬ zBm σ2 m0 (mR σ2 m0 x) j := fun x hx h43 j => by
      obtain ⟨hz, h21⟩ := zQs_k hx
      rintro (⟨z, -⟩ | z | z | z)
      · exact mR_m hI2 hm0 hz (by omega) z
      · exact mR_ne hI2 hm0 hz (s' := 48) (k' := 148) (by rfl) (by omega) z
      · exact mR_ne hI2 hm0 hz (s' := 49) (k' := 149) (by rfl) (by omega) z
      · exact mR_ne hI2 hm0 hz (s' := 67) (k' := 167) (by rfl) (by omega) z
    have Q : ∀ x, ((21 ≤ x ∧ x ≤ 31) ∨ (33 ≤ x ∧ x ≤ 37) ∨ x = 39 ∨ x = 40 ∨ x = 43) → zQs x := fun x hx => by unfold zQs; omega
    have lr : ∀ x, ((21 ≤ x ∧ x ≤ 31) ∨ (33 ≤ x ∧ x ≤ 37) ∨ x = 39 ∨ x = 40 ∨ x = 43) → ∀ j, τ2.1 (mR σ2 m0 x) j = E.1 (mR σ2 m0 x) j := fun x hx j => l10 _ _ (nB x (Q x hx) (by omega) j)
    have M21 : zM m0 τ2 = N2 := by
      unfold zM zp
      show (τ2.1 (mR τ2 m0 21) (τ2.1 m0 18).toInt.toNat).toInt = N2
      rw [er2, eb, lr 21 (by decide)]
      exact l2
    have GN := gN_run (T := T) 500 aZ nS (fun _ _ => ⟨by decide, by decide, by decide, by decide⟩) z1 z2
    obtain ⟨W, hW⟩ : ∃ W : Nat → Nat, W = fun j => (σ1.2.2 tt' j).getD 0 := ⟨_, rfl⟩
    have Wk : ∀ j, 2 ≤ j → j ≤ 5 → zT L1 kd1 (W j) (43 + j) := fun j j1 j2 => by
      have := kr j j1 (by omega) (by omega)
      rw [if_neg (by omega)] at this
      rw [hW]; exact this
    have rC0 : ∀ j, C0.2.2 tt' j = σ1.2.2 tt' j := fun j => by rw [er, zu_n _ _ _ tP]
    have hWz : zWz W P tt' C0.2.2 := ⟨fun j j1 j2 => ⟨by rw [rC0, hW], zNk (Wk j j1 j2) P2 (by omega)⟩, fun i j i1 i2 j1 j2 n => zNk (Wk i i1 i2) (Wk j j1 j2) (by omega)⟩
    have hXz : ∀ j, 2 ≤ j → j ≤ 5 → W j ≠ tt' ∧ W j ≠ (C0.2.2 tt' 6).getD 0 ∧ W j ≠ (C0.2.2 tt' 7).getD 0 ∧ W j ≠ (C0.2.2 tt' 9).getD 0 := fun j j1 j2 => by
      have q6 : zT L1 kd1 ((σ1.2.2 tt' 6).getD 0) 49 := kr 6 (by decide) (by decide) (by decide)
      have q7 : zT L1 kd1 ((σ1.2.2 tt' 7).getD 0) 50 := kr 7 (by decide) (by decide) (by decide)
      have q9 : zT L1 kd1 ((σ1.2.2 tt' 9).getD 0) 51 := kr 9 (by decide) (by decide) (by decide)
      rw [rC0, rC0, rC0]
      exact ⟨zNk (Wk j j1 j2) s2 (by omega), zNk (Wk j j1 j2) q6 (by omega), zNk (Wk j j1 j2) q7 (by omega), zNk (Wk j j1 j2) q9 (by omega)⟩
    obtain ⟨-, VG, -⟩ := vEndI (tt := tt') hd hK (fun τ s g => zVg W τ s g ∧ τ.2.2 = C0.2.2) (aG T) (fun τ s g hv hs hi => ⟨vTellG hd hK hv hs (by rw [hi.2]; exact hWz) (by rw [hi.2]; exact hXz) hi.1, by rw [show (F_X3_telling P τ).2.2 = τ.2.2 from rf_X3_telling (R := τ.2.2) rfl]; exact hi.2⟩) 500 C0 aZ (fun _ => (0, 0, 0, 0)) v0 ⟨fun _ _ p h1 h2 => by have h2' : (p : Int) ≤ 0 := h2; omega, rfl⟩
    have VG' := VG z1 z2
    have cm0 : 0 < zM m0 τ2 → (aRun T 500 aZ).2.2.2.2.2.1 ≠ 0 := fun hz z => by
      rw [M21] at hz
      rw [l2, if_pos z] at X1
      omega
    refine ⟨⟨tt', b, r10, eb, Or.inl (fun j hj => ?_), fun hz j j1 j2 => ?_, fun p p1 hp => ?_⟩, fun _ j j1 j2 => by rw [g7]; exact b_0 j⟩
    · rw [er2, g9 (10 + j) (by omega), lr (26 + j) (by omega)]
      exact Int32.toInt_inj.mp ((b4 j hj).trans (M2 j hj).symm)
    · rw [rt, g10 j (by omega) (by omega) (by omega)]
      exact b5 (cm0 hz) j j1 j2
    · have cm := cm0 (by omega)
      rw [M21] at hp
      have hp' : (p : Int) ≤ (aRun T 500 aZ).2.2.2.2.2.2.1 := by
        rw [l2, if_neg cm] at X1
        omega
      rw [rt, er2, g10 2 (by omega) (by omega) (by omega), lr 22 (by omega)]
      refine Int32.toInt_inj.mp ?_
      have q1 := VG' p p1 hp'
      have q2 := X3 p p1 hp'
      rw [hW] at q1
      exact q1.1.trans q2.1.symm
  · obtain ⟨g1, g2⟩ := c2 za
    obtain ⟨l1, l2⟩ := m1 za
    obtain ⟨td', B, e10, eB, hn, hr0, hr⟩ := hl
    rw [gd] at e10
    subst e10
    have ro : ∀ c, c ≠ P → τ1.2.2 c = σ1.2.2 c := fun c h1 => by rw [g1, zu_n _ _ _ h1]
    have er2 : ∀ s, mR τ2 m0 s = mR σ2 m0 s := fun s => by rw [mR, l1]
    have eY : mR τ2 m0 = mR σ2 m0 := funext er2
    have r18 : 0 ≤ (σ2.1 m0 18).toInt ∧ (σ2.1 m0 18).toInt ≤ 1 := zj_get (j := 18) hI2 hm0 (lo := 0) (hi := 1) (by rfl)
    have l : ∀ c j, ¬ (c = m0 ∧ j = 17) → ¬ zAm (mR σ2 m0) m0 b x k q v c j → τ2.1 c j = σ2.1 c j := fun c j n1 n2 => (l2 c j n1).trans (EF c j n2)
    have e18 : τ2.1 m0 18 = σ2.1 m0 18 := l _ _ (fun z => by omega) (zAm.fld hI2 hm0 tks (by omega))
    have hB : (σ2.1 m0 18).toInt = B := by omega
    have bB : B + b = 1 := by omega
    -- the class
    have krn : ∀ i, 2 ≤ i → i ≤ 9 → i ≠ 8 → ∀ j, 2 ≤ j → j ≤ 9 → j ≠ 8 → (σ1.2.2 td j).getD 0 ≠ (σ1.2.2 tt' i).getD 0 := fun i i1 i2 i3 j j1 j2 j3 z => by
      by_cases ij : i = j
      · subst ij
        exact hTt.2.2.2 i (by omega) i2 i3 z
      · have a1 := (kr i i1 i2 i3).2
        have a2 := (krd j j1 j2 j3).2
        rw [z, a1] at a2
        split at a2 <;> split at a2 <;> omega
    have fy : ∀ j, 2 ≤ j → j ≤ 9 → j ≠ 8 → τ1.1 ((σ1.2.2 td j).getD 0) = σ1.1 ((σ1.2.2 td j).getD 0) := fun j j1 j2 j3 => funext (fun i => by
      have kj := krd j j1 j2 j3
      have kj2 : 45 ≤ kd1 ((σ1.2.2 td j).getD 0) ∧ kd1 ((σ1.2.2 td j).getD 0) ≤ 51 := by
        rw [kj.2]
        split <;> omega
      exact g2 _ _ (by
        rintro (⟨-, z⟩ | z | ⟨i', i1, i2, i3, z⟩)
        · omega
        · rw [z, s2.2] at kj2; omega
        · exact krn i' i1 i2 i3 j j1 j2 j3 z) (fun z => by rw [z.1, hx0.2] at kj2; omega) (by omega))
    have ft : ∀ j, τ1.1 td j = σ1.1 td j := fun j => g2 td j (by
      rintro (⟨-, z⟩ | z | ⟨i', i1, i2, i3, z⟩)
      · rw [td9.2] at z; omega
      · exact hTt.2.2.1 z
      · have a1 := (kr i' i1 i2 i3).2
        rw [← z, td9.2] at a1
        split at a1 <;> omega) (fun z => zNk td9 hx0 (by decide) z.1) (by rw [td9.2]; decide)
    have rd : τ1.2.2 td = σ1.2.2 td := ro td dP
    have M2 : zM m0 τ2 = zM m0 σ2 := by
      have e21 : τ2.1 (mR σ2 m0 21) (σ2.1 m0 18).toInt.toNat = σ2.1 (mR σ2 m0 21) (σ2.1 m0 18).toInt.toNat := l _ _ (fun z => mR_m hI2 hm0 (s := 21) (k := 121) (by rfl) (by decide) z.1) (zAm.r21 hI2 hm0 tks (by omega))
      unfold zM zp
      rw [e18]
      show (τ2.1 (mR τ2 m0 21) _).toInt = (σ2.1 (mR σ2 m0 21) _).toInt
      rw [er2, e21]
    have fx : τ1.1 x0 12 = σ1.1 x0 12 := g2 x0 12 (by
      rintro (⟨-, z⟩ | z | ⟨i', i1, i2, i3, z⟩)
      · rw [hx0.2] at z; omega
      · exact zNk hx0 s2 (by decide) z
      · have a1 := (kr i' i1 i2 i3).2
        rw [← z, hx0.2] at a1
        split at a1 <;> omega) (fun z => by omega) (by rw [hx0.2]; decide)
    refine ⟨⟨td, B, by rw [ro x0 xP]; exact gd, by rw [e18]; exact eB, ?_, fun hp j j1 j2 => ?_, fun p p1 hp => ?_⟩, fun hh => by unfold zHs; rw [fx]; exact hh⟩
    · have nm : ∀ j : Nat, j < 4 → τ2.1 (mR τ2 m0 (26 + j)) B = σ2.1 (mR σ2 m0 (26 + j)) B := fun j hj => by
        have qj : zQs (26 + j) := by unfold zQs; omega
        rw [er2]
        have a1 := l2 (mR σ2 m0 (26 + j)) B (fun z => mR_m hI2 hm0 (zQs_k qj).1 (by omega) z.1)
        have a2 := MO (26 + j) (by omega) (by omega) B (by omega)
        exact a1.trans a2
      rcases hn with hn | ⟨n1, n2⟩
      · exact Or.inl (fun j hj => by rw [ft, nm j hj]; exact hn j hj)
      · exact Or.inr ⟨by rw [ft]; exact n1, (congrArg Int32.toInt (nm 0 (by decide))).trans n2⟩
    · rw [M2] at hp
      rw [rd, fy j (by omega) (by omega) (by omega)]
      exact hr0 hp j j1 j2
    · rw [M2] at hp
      have mN : zM m0 σ2 ≤ 12 := (zM_in hI2 hm0).2
      have qj : zQs 22 := by unfold zQs; omega
      have tj : zT L2 kd2 (mR σ2 m0 22) 122 := mR_t hI2 hm0 (zQs_k qj).1
      rw [rd, fy 2 (by omega) (by omega) (by omega), er2, hr p p1 hp]
      refine (l _ _ (fun z => mR_m hI2 hm0 (zQs_k qj).1 (by omega) z.1) ?_).symm
      have n : ∀ i, zQs i → i ≠ 22 → mR σ2 m0 22 ≠ mR σ2 m0 i := fun i hi h => mR_ne hI2 hm0 (zQs_k qj).1 (zQs_k hi).1 (by omega)
      rintro ((⟨z, -⟩ | ⟨-, z1, z2⟩ | ⟨z, -⟩ | ⟨i, z1, z2, z3, z⟩) | ⟨z, -⟩ | z | z | z | z)
      · exact zNk tj hm0 (by omega) z
      · omega
      · exact n 21 (by unfold zQs; omega) (by omega) z
      · exact n i z1 (by omega) z
      · exact zNk tj hm0 (by omega) z
      · exact zNk tj tks.1 (by omega) z
      · exact zNk tj tks.2.1 (by omega) z
      · exact zNk tj tks.2.2.1 (by omega) z
      · exact zNk tj tks.2.2.2 (by omega) z
end TDS2
