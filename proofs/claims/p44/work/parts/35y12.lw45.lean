/-! THE RELATION OF THE ROWS OF LAWS: as zRN, what goes on whole, and the laws told alike -/
/-- where there are places, both texts tell alike -/
def zLwP (x0 m0 : Nat) (σ1 σ2 : zS) : Prop := 0 < zM m0 σ2 → zLw x0 m0 σ1 σ2
section LWP
variable {κ k : Int} {L1 : List Nat} {kd1 : Nat → Nat} {L2 : List Nat} {kd2 : Nat → Nat} {σ1 σ2 τ1 τ2 : zS} {Wk Wr Wf Wa : List Nat} {m0 x0 : Nat}
theorem zLw.c (h : zLw x0 m0 σ1 σ2) (hI : zI κ 0 L1 kd1 σ1) (hx : zT L1 kd1 x0 10) (g : zSm Wk Wr L1 kd1 σ1 τ1) (h1 : ([9, 46, 47, 48, 49, 50, 51].all (fun j => !(Wk.contains j))) = true) (h2 : (Wr.all (fun j => j == 5)) = true) : zLw x0 m0 τ1 σ2 := by
  have n : ∀ a ∈ L1, kd1 a ≠ 5 → τ1.2.2 a = σ1.2.2 a := fun a ha h5 => (g a ha).2 (fun q => h5 (by
    have := List.all_eq_true.mp h2 _ q
    simpa using this))
  have c : ∀ a kc, zT L1 kd1 a kc → kc ∈ ([9, 46, 47, 48, 49, 50, 51] : List Nat) → τ1.1 a = σ1.1 a := fun a kc ha hk => ((g a ha.1).1 (fun q => by
    rw [ha.2] at q
    have z := List.all_eq_true.mp h1 kc hk
    simp [q] at z)).1
  obtain ⟨td, d1, d2⟩ := zi_ref (j := 10) (k2 := 9) hI hx (by rfl)
  have gd : (σ1.2.2 x0 10).getD 0 = td := by rw [d1]; rfl
  have tr := zTt_k hI d2
  obtain ⟨td', B, K, gl, w1, w2, w3, w4, w5, w6, w7, w8⟩ := h
  have et : td' = td := by rw [← w1, gd]
  rw [et] at w3 w4 w5 w6 w7 w8
  have rt := n td d2.1 (by rw [d2.2]; decide)
  have ct : τ1.1 td = σ1.1 td := c td 9 d2 (by decide)
  have ec : ∀ j, (j = 3 ∨ j = 4 ∨ j = 5 ∨ j = 6 ∨ j = 7 ∨ j = 9) → τ1.1 ((σ1.2.2 td j).getD 0) = σ1.1 ((σ1.2.2 td j).getD 0) := fun j hj => by
    rcases hj with rfl | rfl | rfl | rfl | rfl | rfl
    · exact c _ 46 (tr 3 (by decide) (by decide) (by decide)) (by decide)
    · exact c _ 47 (tr 4 (by decide) (by decide) (by decide)) (by decide)
    · exact c _ 48 (tr 5 (by decide) (by decide) (by decide)) (by decide)
    · exact c _ 49 (tr 6 (by decide) (by decide) (by decide)) (by decide)
    · exact c _ 50 (tr 7 (by decide) (by decide) (by decide)) (by decide)
    · exact c _ 51 (tr 9 (by decide) (by decide) (by decide)) (by decide)
  refine ⟨td, B, K, gl, by rw [n x0 hx.1 (by rw [hx.2]; decide)]; exact gd, w2, by rw [ct]; exact w3, fun v hv => ⟨?_, (w4 v hv).2⟩, fun j p j1 j2 hp => ?_, fun j hj => by rw [ct]; exact w6 j hj, by rw [ct]; exact w7, by rw [ct]; exact w8⟩
  · rw [rt]
    exact (w4 v hv).1.cg (ec 6 (by omega)) (ec 7 (by omega)) (ec 9 (by omega))
  · rw [rt, ec j (by omega)]
    exact w5 j p j1 j2 hp
theorem zM.m (hJ : zJ k L2 kd2 σ2) (hm : zT L2 kd2 m0 11) (g : zSame m0 Wf Wa L2 kd2 σ2 τ2) (h1 : Wf.contains 18 = false) (h2 : Wa.contains 121 = false) : zM m0 τ2 = zM m0 σ2 := by
  have er : ∀ s, mR τ2 m0 s = mR σ2 m0 s := fun s => by rw [mR, g.2.2]
  have e18 : τ2.1 m0 18 = σ2.1 m0 18 := g.2.1 18 (fun q => by simp [q] at h1)
  have ht : zT L2 kd2 (mR σ2 m0 21) 121 := mR_t hJ hm (by rfl)
  have r : τ2.1 (mR σ2 m0 21) = σ2.1 (mR σ2 m0 21) := (g.1 _ ht.1 (by rw [ht.2]; decide) (fun q => by rw [ht.2] at q; simp [q] at h2)).1
  unfold zM zp
  rw [e18]
  show (τ2.1 (mR τ2 m0 21) _).toInt = (σ2.1 (mR σ2 m0 21) _).toInt
  rw [er, r]
theorem zLwP.m (h : zLwP x0 m0 σ1 σ2) (hJ : zJ k L2 kd2 σ2) (hm : zT L2 kd2 m0 11) (g : zSame m0 Wf Wa L2 kd2 σ2 τ2) (h1 : Wf.contains 18 = false) (h2 : ([121, 123, 124, 125, 126, 127, 128, 129, 130, 131, 133, 134, 135, 136, 137, 139, 140].all (fun j => !(Wa.contains j))) = true) : zLwP x0 m0 σ1 τ2 := by
  have M2 : zM m0 τ2 = zM m0 σ2 := zM.m hJ hm g h1 (nC h2 (by rfl))
  have er : ∀ s, mR τ2 m0 s = mR σ2 m0 s := fun s => by rw [mR, g.2.2]
  have eY : mR τ2 m0 = mR σ2 m0 := funext er
  have r : ∀ s, zQs s → 100 + s ∈ ([121, 123, 124, 125, 126, 127, 128, 129, 130, 131, 133, 134, 135, 136, 137, 139, 140] : List Nat) → τ2.1 (mR σ2 m0 s) = σ2.1 (mR σ2 m0 s) := fun s hs hk => by
    have ht : zT L2 kd2 (mR σ2 m0 s) (100 + s) := mR_t hJ hm (zQs_k hs).1
    refine (g.1 _ ht.1 (by rw [ht.2]; omega) (fun q => ?_)).1
    rw [ht.2] at q
    have z := List.all_eq_true.mp h2 (100 + s) hk
    simp [q] at z
  have e18 : τ2.1 m0 18 = σ2.1 m0 18 := g.2.1 18 (fun q => by simp [q] at h1)
  have qq : ∀ s, ((23 ≤ s ∧ s ≤ 31) ∨ (33 ≤ s ∧ s ≤ 37) ∨ s = 39 ∨ s = 40) → τ2.1 (mR σ2 m0 s) = σ2.1 (mR σ2 m0 s) := fun s hs => r s (by unfold zQs; omega) (by
    simp only [List.mem_cons, List.not_mem_nil, or_false]
    omega)
  intro hz
  rw [M2] at hz
  obtain ⟨td, B, K, gl, w1, w2, w3, w4, w5, w6, w7, w8⟩ := h hz
  refine ⟨td, B, K, gl, w1, by rw [e18]; exact w2, w3, fun v hv => ⟨(w4 v hv).1, ?_⟩, fun j p j1 j2 hp => ?_, fun j hj => ?_, w7, w8⟩
  · rw [eY]
    exact (w4 v hv).2.cg (Nat.le_refl _) (Nat.le_refl _) (fun i _ _ => ⟨by rw [qq 39 (by omega)], by rw [qq 40 (by omega)]⟩) (fun j i j1 j2 _ _ => by rw [qq j (by omega)]) (by rw [qq 30 (by omega)]) (by rw [qq 31 (by omega)])
  · rw [M2] at hp
    rw [er, qq (20 + j) (by omega)]
    exact w5 j p j1 j2 hp
  · rw [er, qq (26 + j) (by omega)]
    exact w6 j hj
theorem zLwP.c (h : zLwP x0 m0 σ1 σ2) (hI : zI κ 0 L1 kd1 σ1) (hx : zT L1 kd1 x0 10) (g : zSm Wk Wr L1 kd1 σ1 τ1) (h1 : ([9, 46, 47, 48, 49, 50, 51].all (fun j => !(Wk.contains j))) = true) (h2 : (Wr.all (fun j => j == 5)) = true) : zLwP x0 m0 τ1 σ2 := fun hz => (h hz).c hI hx g h1 h2
end LWP
def zRP (κ : Int) (L1 : List Nat) (kd1 : Nat → Nat) (L2 : List Nat) (kd2 : Nat → Nat) (x0 m0 : Nat) (σ1 σ2 : zS) : Prop := zRN κ L1 kd1 L2 kd2 x0 m0 σ1 σ2 ∧ zLwP x0 m0 σ1 σ2 ∧ ∃ V ps pc sl rv sh cd, zRL zQw L1 kd1 x0 m0 V ps pc sl rv sh cd σ1 σ2
section RP
variable {κ k : Int} {L1 : List Nat} {kd1 : Nat → Nat} {L2 : List Nat} {kd2 : Nat → Nat} {σ1 σ2 τ1 τ2 : zS} {Wk Wr Wf Wa : List Nat} {m0 x0 : Nat} {v1 v2 p q r : Int32}
theorem zRP.le (h0 : k ≤ κ) (h : zRP κ L1 kd1 L2 kd2 x0 m0 σ1 σ2) : zRP k L1 kd1 L2 kd2 x0 m0 σ1 σ2 := ⟨h.1.le h0, h.2⟩
theorem zRP.c0 (h : zRP κ L1 kd1 L2 kd2 x0 m0 σ1 σ2) (hx : zT L1 kd1 x0 10) (hI : zI κ 0 L1 kd1 σ1) (g : zSm Wk [] L1 kd1 σ1 τ1) (h1 : ([1, 2, 4, 9, 10, 22, 23, 24, 39, 40, 46, 47, 48, 49, 50, 51].all (fun j => !(Wk.contains j))) = true) : zRP κ L1 kd1 L2 kd2 x0 m0 τ1 σ2 := by
  obtain ⟨V, ps, pc, sl, rv, sh, cd, hR⟩ := h.2.2
  exact ⟨h.1.c0 hx hI g (aSub h1 (by rfl)), h.2.1.c hI hx g (aSub h1 (by rfl)) (by rfl), V, ps, pc, sl, rv, sh, cd, hR.c0 hx hI g (aSub h1 (by rfl))⟩
theorem zRP.c (h : zRP κ L1 kd1 L2 kd2 x0 m0 σ1 σ2) (hx : zT L1 kd1 x0 10) (hI : zI κ 0 L1 kd1 σ1) (g : zSm Wk Wr L1 kd1 σ1 τ1) (hv : zRz σ1.2.2 τ1) (h1 : ([1, 2, 4, 9, 10, 22, 23, 24, 39, 40, 46, 47, 48, 49, 50, 51].all (fun j => !(Wk.contains j))) = true) (h2 : (Wr.all (fun j => j == 5)) = true) : zRP κ L1 kd1 L2 kd2 x0 m0 τ1 σ2 := by
  obtain ⟨V, ps, pc, sl, rv, sh, cd, hR⟩ := h.2.2
  exact ⟨h.1.c hx hI g hv (aSub h1 (by rfl)) h2, h.2.1.c hI hx g (aSub h1 (by rfl)) h2, V, ps, pc, sl, rv, sh, cd, hR.c hx hI g hv (aSub h1 (by rfl)) h2⟩
theorem zRP.t (h : zRP κ L1 kd1 L2 kd2 x0 m0 σ1 σ2) (hx : zT L1 kd1 x0 10) (hI : zI κ 0 L1 kd1 σ1) (g : zSm Wk Wr L1 kd1 σ1 τ1) (p : ∀ (V : zWh) (ps pc sl rv sh cd : Nat), zLay L1 kd1 x0 σ1.2.2 V ps pc sl → zRv L1 kd1 x0 rv sh cd σ1.2.2 → zPv L1 kd1 V rv σ1 τ1) (h1 : ([2, 4, 9, 10, 39, 40, 46, 47, 48, 49, 50, 51].all (fun j => !(Wk.contains j))) = true) (h2 : (Wr.all (fun j => j == 5)) = true) : zRP κ L1 kd1 L2 kd2 x0 m0 τ1 σ2 := by
  obtain ⟨V, ps, pc, sl, rv, sh, cd, hR⟩ := h.2.2
  exact ⟨h.1.t hx hI g p (aSub h1 (by rfl)) h2, h.2.1.c hI hx g (aSub h1 (by rfl)) h2, V, ps, pc, sl, rv, sh, cd, hR.t hx hI g (p V ps pc sl rv sh cd hR.1 hR.2.1) (aSub h1 (by rfl)) h2 (zI_rv hI hR.2.1)⟩
theorem zRP.m (h : zRP κ L1 kd1 L2 kd2 x0 m0 σ1 σ2) (hJ : zJ k L2 kd2 σ2) (hm : zT L2 kd2 m0 11) (g : zSame m0 Wf Wa L2 kd2 σ2 τ2) (h1 : ([17, 18, 57, 62].all (fun j => !(Wf.contains j))) = true) (h2 : ([101, 109, 121, 123, 124, 125, 126, 127, 128, 129, 130, 131, 133, 134, 135, 136, 137, 139, 140, 148, 158, 167, 168].all (fun j => !(Wa.contains j))) = true) : zRP κ L1 kd1 L2 kd2 x0 m0 σ1 τ2 := by
  obtain ⟨V, ps, pc, sl, rv, sh, cd, hR⟩ := h.2.2
  exact ⟨h.1.m hJ hm g h1 (aSub h2 (by rfl)), h.2.1.m hJ hm g (nC h1 (by rfl)) (aSub h2 (by rfl)), V, ps, pc, sl, rv, sh, cd, hR.m hJ hm g (aSub h1 (by rfl)) (aSub h2 (by rfl))⟩
theorem zRP.feed {p1 p2 p3 p4 p5 : Int32} (h : zRP κ L1 kd1 L2 kd2 x0 m0 σ1 σ2) (hI1 : zI κ 0 L1 kd1 σ1) (hI2 : zJ κ L2 kd2 σ2) (hx0 : zT L1 kd1 x0 10) (hm0 : zT L2 kd2 m0 11) (f1 : (v1, τ1) = F_X10_feed x0 p1 p2 p3 p4 p5 σ1) (f2 : (v2, τ2) = F_X11_feed m0 p1 p2 p3 p4 p5 σ2) (g1 : zSm [7, 39] [] L1 kd1 σ1 τ1) (g2 : zSame m0 [2] [101] L2 kd2 σ2 τ2) (hk : (k = κ ∧ 2000 < κ + 20) ∨ (k = κ + 20 ∧ κ + 20 ≤ 2000)) : zRP k L1 kd1 L2 kd2 x0 m0 τ1 τ2 := by
  obtain ⟨V, ps, pc, sl, rv, sh, cd, hR⟩ := h.2.2
  exact ⟨zRN.feed h.1 hI1 hI2 hx0 hm0 f1 f2 g1 g2 hk, (h.2.1.c hI1 hx0 g1 (by rfl) (by rfl)).m hI2 hm0 g2 (by rfl) (by rfl), V, ps, pc, sl, rv, sh, cd, (hR.c0 hx0 hI1 g1 (by rfl)).m hI2 hm0 g2 (by rfl) (by rfl)⟩
theorem zRP.read (h : zRP κ L1 kd1 L2 kd2 x0 m0 σ1 σ2) (hI1 : zI κ 0 L1 kd1 σ1) (hI2 : zJ κ L2 kd2 σ2) (hx0 : zT L1 kd1 x0 10) (hm0 : zT L2 kd2 m0 11) (f1 : (v1, τ1) = F_X10_read x0 σ1) (f2 : (v2, τ2) = F_X11_read m0 σ2) (hk : zLkp m0 σ2 τ2) (g1 : zSm Wk Wr L1 kd1 σ1 τ1) (g2 : zSame m0 Wf Wa L2 kd2 σ2 τ2) (h1 : Wk.contains 39 = false := by decide) (h2 : Wk.contains 40 = false := by decide) (h3 : Wr.contains 7 = false := by decide) (h4 : Wa.contains 101 = false := by decide) (h5 : Wa.contains 109 = false := by decide) : v1.toInt = v2.toInt ∧ zRP 0 L1 kd1 L2 kd2 x0 m0 τ1 τ2 := by
  obtain ⟨a, b⟩ := zRN.read h.1 hI1 hI2 hx0 hm0 f1 f2 g1 g2 h1 h2 h3 h4 h5
  obtain ⟨V, ps, pc, sl, rv, sh, cd, hR⟩ := h.2.2
  obtain ⟨V', ps', pc', sl', rv', sh', cd', hR', td, tt, hT⟩ := h.1.1.2
  exact ⟨a, b, zLw.read h.1.1.1.1 h.2.1 hR.1 hT hI1 hI2 hx0 hm0 f1 f2 hk, V, ps, pc, sl, rv, sh, cd, (zRL.read1 h.1.1.1.1 hR hT hI1 hI2 hx0 hm0 f1 f2).1⟩
theorem zRP.hold (h : zRP κ L1 kd1 L2 kd2 x0 m0 σ1 σ2) (hI : zI κ 0 L1 kd1 σ1) (hJ : zJ κ L2 kd2 σ2) (hx : zT L1 kd1 x0 10) (hm : zT L2 kd2 m0 11) (f1 : (v1, τ1) = F_X10_hold x0 p σ1) (f2 : (v2, τ2) = F_X11_hold m0 p σ2) (g1 : zSm Wk Wr L1 kd1 σ1 τ1) (g2 : zSame m0 Wf Wa L2 kd2 σ2 τ2) (h1 : ([39, 40].all (fun j => !(Wk.contains j))) = true := by decide) (h2 : (Wr.all (fun j => j == 5)) = true := by decide) (h3 : Wf.contains 17 = false := by decide) (h4 : ([101, 109].all (fun j => !(Wa.contains j))) = true := by decide) (h7 : Wr.contains 7 = false := by decide) (k1 : Wk.contains 46 = false := by decide) (k2 : Wf.contains 18 = false := by decide) (k3 : ([121, 123].all (fun j => !(Wa.contains j))) = true := by decide) (k4 : ([9, 46, 47, 48, 49, 50, 51].all (fun j => !(Wk.contains j))) = true := by decide) (k6 : ([121, 123, 124, 125, 126, 127, 128, 129, 130, 131, 133, 134, 135, 136, 137, 139, 140].all (fun j => !(Wa.contains j))) = true := by decide) : v1.toInt = v2.toInt ∧ zRP κ L1 kd1 L2 kd2 x0 m0 τ1 τ2 := by
  obtain ⟨a', b'⟩ := zRN.hold h.1 hI hJ hx hm f1 f2 g1 g2 h1 h2 h3 h4 h7 k1 k2 k3
  obtain ⟨V, ps, pc, sl, rv, sh, cd, hR⟩ := h.2.2
  obtain ⟨-, hR'⟩ := hR.hold hx hI hJ hm f1 f2
  exact ⟨a', b', (h.2.1.c hI hx g1 k4 h2).m hJ hm g2 k2 k6, V, ps, pc, sl, rv, sh, cd, hR'⟩
theorem zRP.rule (h : zRP κ L1 kd1 L2 kd2 x0 m0 σ1 σ2) (hI : zI κ 0 L1 kd1 σ1) (hJ : zJ κ L2 kd2 σ2) (hx : zT L1 kd1 x0 10) (hm : zT L2 kd2 m0 11) (f1 : (v1, τ1) = F_X10_rule x0 p σ1) (f2 : (v2, τ2) = F_X11_rule m0 p σ2) (g1 : zSm Wk Wr L1 kd1 σ1 τ1) (g2 : zSame m0 Wf Wa L2 kd2 σ2 τ2) (h1 : ([10, 39, 40].all (fun j => !(Wk.contains j))) = true := by decide) (h2 : (Wr.all (fun j => j == 5)) = true := by decide) (h3 : Wf.contains 17 = false := by decide) (h4 : ([101, 109].all (fun j => !(Wa.contains j))) = true := by decide) (k1 : Wk.contains 46 = false := by decide) (k2 : Wf.contains 18 = false := by decide) (k3 : ([121, 123].all (fun j => !(Wa.contains j))) = true := by decide) (k4 : ([9, 46, 47, 48, 49, 50, 51].all (fun j => !(Wk.contains j))) = true := by decide) (k6 : ([121, 123, 124, 125, 126, 127, 128, 129, 130, 131, 133, 134, 135, 136, 137, 139, 140].all (fun j => !(Wa.contains j))) = true := by decide) : v1.toInt = v2.toInt ∧ zRP κ L1 kd1 L2 kd2 x0 m0 τ1 τ2 := by
  obtain ⟨a', b'⟩ := zRN.rule h.1 hI hJ hx hm f1 f2 g1 g2 h1 h2 h3 h4 k1 k2 k3
  obtain ⟨V, ps, pc, sl, rv, sh, cd, hR⟩ := h.2.2
  obtain ⟨-, hR'⟩ := hR.rule zGd.q1 hx hI hJ hm f1 f2
  exact ⟨a', b', (h.2.1.c hI hx g1 k4 h2).m hJ hm g2 k2 k6, V, ps, pc, sl, rv, sh, cd, hR'⟩
theorem zRP.dam (h : zRP κ L1 kd1 L2 kd2 x0 m0 σ1 σ2) (hI : zI κ 0 L1 kd1 σ1) (hJ : zJ κ L2 kd2 σ2) (hx : zT L1 kd1 x0 10) (hm : zT L2 kd2 m0 11) (f1 : (v1, τ1) = F_X10_dam x0 p q σ1) (f2 : (v2, τ2) = F_X11_dam m0 p q σ2) (g1 : zSm Wk Wr L1 kd1 σ1 τ1) (g2 : zSame m0 Wf Wa L2 kd2 σ2 τ2) (hq : q.toInt = 0 ∨ q.toInt = 1) (h1 : ([10, 39, 40].all (fun j => !(Wk.contains j))) = true := by decide) (h2 : (Wr.all (fun j => j == 5)) = true := by decide) (h3 : Wf.contains 17 = false := by decide) (h4 : ([101, 109].all (fun j => !(Wa.contains j))) = true := by decide) (k1 : Wk.contains 46 = false := by decide) (k2 : Wf.contains 18 = false := by decide) (k3 : ([121, 123].all (fun j => !(Wa.contains j))) = true := by decide) (k4 : ([9, 46, 47, 48, 49, 50, 51].all (fun j => !(Wk.contains j))) = true := by decide) (k6 : ([121, 123, 124, 125, 126, 127, 128, 129, 130, 131, 133, 134, 135, 136, 137, 139, 140].all (fun j => !(Wa.contains j))) = true := by decide) : v1.toInt = v2.toInt ∧ zRP κ L1 kd1 L2 kd2 x0 m0 τ1 τ2 := by
  obtain ⟨a', b'⟩ := zRN.dam h.1 hI hJ hx hm f1 f2 g1 g2 hq h1 h2 h3 h4 k1 k2 k3
  obtain ⟨V, ps, pc, sl, rv, sh, cd, hR⟩ := h.2.2
  obtain ⟨-, hR'⟩ := hR.dam zGd.q1 hx hI hJ hm hq f1 f2
  exact ⟨a', b', (h.2.1.c hI hx g1 k4 h2).m hJ hm g2 k2 k6, V, ps, pc, sl, rv, sh, cd, hR'⟩
theorem zRP.turn (h : zRP κ L1 kd1 L2 kd2 x0 m0 σ1 σ2) (hI : zI κ 0 L1 kd1 σ1) (hJ : zJ κ L2 kd2 σ2) (hx : zT L1 kd1 x0 10) (hm : zT L2 kd2 m0 11) (f1 : (v1, τ1) = F_X10_turn x0 p q σ1) (f2 : (v2, τ2) = F_X11_turn m0 p q σ2) (g1 : zSm Wk Wr L1 kd1 σ1 τ1) (g2 : zSame m0 Wf Wa L2 kd2 σ2 τ2) (hg : gN m0 σ2) (h1 : ([10, 39, 40].all (fun j => !(Wk.contains j))) = true := by decide) (h2 : (Wr.all (fun j => j == 5)) = true := by decide) (h3 : Wf.contains 17 = false := by decide) (h4 : ([101, 109].all (fun j => !(Wa.contains j))) = true := by decide) (k1 : Wk.contains 46 = false := by decide) (k2 : Wf.contains 18 = false := by decide) (k3 : ([121, 123].all (fun j => !(Wa.contains j))) = true := by decide) (k4 : ([9, 46, 47, 48, 49, 50, 51].all (fun j => !(Wk.contains j))) = true := by decide) (k6 : ([121, 123, 124, 125, 126, 127, 128, 129, 130, 131, 133, 134, 135, 136, 137, 139, 140].all (fun j => !(Wa.contains j))) = true := by decide) : v1.toInt = v2.toInt ∧ zRP κ L1 kd1 L2 kd2 x0 m0 τ1 τ2 := by
  obtain ⟨a', b'⟩ := zRN.turn h.1 hI hJ hx hm f1 f2 g1 g2 hg h1 h2 h3 h4 k1 k2 k3
  obtain ⟨V, ps, pc, sl, rv, sh, cd, hR⟩ := h.2.2
  obtain ⟨-, hR'⟩ := hR.turn zGd.q1 hx hI hJ hm hg f1 f2
  exact ⟨a', b', (h.2.1.c hI hx g1 k4 h2).m hJ hm g2 k2 k6, V, ps, pc, sl, rv, sh, cd, hR'⟩
theorem zRP.months (h : zRP κ L1 kd1 L2 kd2 x0 m0 σ1 σ2) (hI : zI κ 0 L1 kd1 σ1) (hJ : zJ κ L2 kd2 σ2) (hx : zT L1 kd1 x0 10) (hm : zT L2 kd2 m0 11) (f1 : (v1, τ1) = F_X10_months x0 p σ1) (f2 : (v2, τ2) = F_X11_months m0 p σ2) (g1 : zSm Wk Wr L1 kd1 σ1 τ1) (g2 : zSame m0 Wf Wa L2 kd2 σ2 τ2) (hg : gN m0 σ2) (h1 : ([10, 39, 40].all (fun j => !(Wk.contains j))) = true := by decide) (h2 : (Wr.all (fun j => j == 5)) = true := by decide) (h3 : Wf.contains 17 = false := by decide) (h4 : ([101, 109].all (fun j => !(Wa.contains j))) = true := by decide) (k1 : Wk.contains 46 = false := by decide) (k2 : Wf.contains 18 = false := by decide) (k3 : ([121, 123].all (fun j => !(Wa.contains j))) = true := by decide) (k4 : ([9, 46, 47, 48, 49, 50, 51].all (fun j => !(Wk.contains j))) = true := by decide) (k6 : ([121, 123, 124, 125, 126, 127, 128, 129, 130, 131, 133, 134, 135, 136, 137, 139, 140].all (fun j => !(Wa.contains j))) = true := by decide) : v1.toInt = v2.toInt ∧ zRP κ L1 kd1 L2 kd2 x0 m0 τ1 τ2 := by
  obtain ⟨a', b'⟩ := zRN.months h.1 hI hJ hx hm f1 f2 g1 g2 h1 h2 h3 h4 k1 k2 k3
  obtain ⟨V, ps, pc, sl, rv, sh, cd, hR⟩ := h.2.2
  obtain ⟨-, hR'⟩ := hR.months1 h.2.1 h.1.2 hg (zM.m hJ hm g2 k2 (nC k3 (by rfl))) hx hI hJ hm (zI_rv hI hR.2.1) f1 f2
  exact ⟨a', b', (h.2.1.c hI hx g1 k4 h2).m hJ hm g2 k2 k6, V, ps, pc, sl, rv, sh, cd, hR'⟩
theorem zRP.undo (h : zRP κ L1 kd1 L2 kd2 x0 m0 σ1 σ2) (hI : zI κ 0 L1 kd1 σ1) (hJ : zJ κ L2 kd2 σ2) (hx : zT L1 kd1 x0 10) (hm : zT L2 kd2 m0 11) (f1 : (v1, τ1) = F_X10_undo x0 σ1) (f2 : (v2, τ2) = F_X11_undo m0 σ2) (g1 : zSm Wk Wr L1 kd1 σ1 τ1) (g2 : zSame m0 Wf Wa L2 kd2 σ2 τ2) (h1 : ([10, 39, 40].all (fun j => !(Wk.contains j))) = true := by decide) (h2 : (Wr.all (fun j => j == 5)) = true := by decide) (h3 : Wf.contains 17 = false := by decide) (h4 : ([101, 109].all (fun j => !(Wa.contains j))) = true := by decide) (k1 : Wk.contains 46 = false := by decide) (k2 : Wf.contains 18 = false := by decide) (k3 : ([121, 123].all (fun j => !(Wa.contains j))) = true := by decide) (k4 : ([9, 46, 47, 48, 49, 50, 51].all (fun j => !(Wk.contains j))) = true := by decide) (k6 : ([121, 123, 124, 125, 126, 127, 128, 129, 130, 131, 133, 134, 135, 136, 137, 139, 140].all (fun j => !(Wa.contains j))) = true := by decide) : v1.toInt = v2.toInt ∧ zRP κ L1 kd1 L2 kd2 x0 m0 τ1 τ2 := by
  obtain ⟨a', b'⟩ := zRN.undo h.1 hI hJ hx hm f1 f2 g1 g2 h1 h2 h3 h4 k1 k2 k3
  obtain ⟨V, ps, pc, sl, rv, sh, cd, hR⟩ := h.2.2
  obtain ⟨-, hR'⟩ := hR.undo hx hI hJ hm f1 f2
  exact ⟨a', b', (h.2.1.c hI hx g1 k4 h2).m hJ hm g2 k2 k6, V, ps, pc, sl, rv, sh, cd, hR'⟩
theorem zRP.restore (h : zRP κ L1 kd1 L2 kd2 x0 m0 σ1 σ2) (hI : zI κ 0 L1 kd1 σ1) (hJ : zJ κ L2 kd2 σ2) (hx : zT L1 kd1 x0 10) (hm : zT L2 kd2 m0 11) (f1 : (v1, τ1) = F_X10_restore x0 p σ1) (f2 : (v2, τ2) = F_X11_restore m0 p σ2) (g1 : zSm Wk Wr L1 kd1 σ1 τ1) (g2 : zSame m0 Wf Wa L2 kd2 σ2 τ2) (h1 : ([10, 39, 40].all (fun j => !(Wk.contains j))) = true := by decide) (h2 : (Wr.all (fun j => j == 5)) = true := by decide) (h3 : Wf.contains 17 = false := by decide) (h4 : ([101, 109].all (fun j => !(Wa.contains j))) = true := by decide) (k1 : Wk.contains 46 = false := by decide) (k2 : Wf.contains 18 = false := by decide) (k3 : ([121, 123].all (fun j => !(Wa.contains j))) = true := by decide) (k4 : ([9, 46, 47, 48, 49, 50, 51].all (fun j => !(Wk.contains j))) = true := by decide) (k6 : ([121, 123, 124, 125, 126, 127, 128, 129, 130, 131, 133, 134, 135, 136, 137, 139, 140].all (fun j => !(Wa.contains j))) = true := by decide) : v1.toInt = v2.toInt ∧ zRP κ L1 kd1 L2 kd2 x0 m0 τ1 τ2 := by
  obtain ⟨a', b'⟩ := zRN.restore h.1 hI hJ hx hm f1 f2 g1 g2 h1 h2 h3 h4 k1 k2 k3
  obtain ⟨V, ps, pc, sl, rv, sh, cd, hR⟩ := h.2.2
  obtain ⟨-, hR'⟩ := hR.restore hx hI hJ hm f1 f2
  exact ⟨a', b', (h.2.1.c hI hx g1 k4 h2).m hJ hm g2 k2 k6, V, ps, pc, sl, rv, sh, cd, hR'⟩
theorem zRP.forget (h : zRP κ L1 kd1 L2 kd2 x0 m0 σ1 σ2) (hI : zI κ 0 L1 kd1 σ1) (hJ : zJ κ L2 kd2 σ2) (hx : zT L1 kd1 x0 10) (hm : zT L2 kd2 m0 11) (f1 : (v1, τ1) = F_X10_forget x0 σ1) (f2 : (v2, τ2) = F_X11_forget m0 σ2) (g1 : zSm Wk [] L1 kd1 σ1 τ1) (g2 : zSame m0 Wf Wa L2 kd2 σ2 τ2) (h1 : ([1, 4, 9, 10, 22, 23, 24, 39, 40].all (fun j => !(Wk.contains j))) = true := by decide) (h3 : ([17, 18, 57].all (fun j => !(Wf.contains j))) = true := by decide) (h4 : ([101, 109, 121, 148, 158, 167, 168].all (fun j => !(Wa.contains j))) = true := by decide) (k1 : Wk.contains 46 = false := by decide) (k2 : Wf.contains 18 = false := by decide) (k3 : ([121, 123].all (fun j => !(Wa.contains j))) = true := by decide) (k4 : ([9, 46, 47, 48, 49, 50, 51].all (fun j => !(Wk.contains j))) = true := by decide) (k6 : ([121, 123, 124, 125, 126, 127, 128, 129, 130, 131, 133, 134, 135, 136, 137, 139, 140].all (fun j => !(Wa.contains j))) = true := by decide) : v1.toInt = v2.toInt ∧ zRP κ L1 kd1 L2 kd2 x0 m0 τ1 τ2 := by
  obtain ⟨a', b'⟩ := zRN.forget h.1 hI hJ hx hm f1 f2 g1 g2 h1 h3 h4 k1 k2 k3
  obtain ⟨V, ps, pc, sl, rv, sh, cd, hR⟩ := h.2.2
  obtain ⟨-, hR'⟩ := hR.forget hx hI hJ hm f1 f2 g1 g2 (aSub h1 (by rfl)) (aSub h3 (by rfl)) (aSub h4 (by rfl))
  exact ⟨a', b', (h.2.1.c hI hx g1 k4 (by rfl)).m hJ hm g2 k2 k6, V, ps, pc, sl, rv, sh, cd, hR'⟩
theorem zRP.tell {a b c e : Int32} (h : zRP κ L1 kd1 L2 kd2 x0 m0 σ1 σ2) (hI : zI κ 0 L1 kd1 σ1) (hJ : zJ κ L2 kd2 σ2) (hx : zT L1 kd1 x0 10) (hm : zT L2 kd2 m0 11) (f1 : (v1, τ1) = F_X10_tell x0 a b c e σ1) (f2 : (v2, τ2) = F_X11_tell m0 a b c e σ2) (g1 : zSm Wk [] L1 kd1 σ1 τ1) (g2 : zSame m0 Wf Wa L2 kd2 σ2 τ2) (h1 : ([1, 4, 9, 10, 22, 23, 24, 39, 40].all (fun j => !(Wk.contains j))) = true := by decide) (h3 : ([17, 18, 57].all (fun j => !(Wf.contains j))) = true := by decide) (h4 : ([101, 109, 121, 148, 158, 167, 168].all (fun j => !(Wa.contains j))) = true := by decide) (k1 : Wk.contains 46 = false := by decide) (k2 : Wf.contains 18 = false := by decide) (k3 : ([121, 123].all (fun j => !(Wa.contains j))) = true := by decide) (k4 : ([9, 46, 47, 48, 49, 50, 51].all (fun j => !(Wk.contains j))) = true := by decide) (k6 : ([121, 123, 124, 125, 126, 127, 128, 129, 130, 131, 133, 134, 135, 136, 137, 139, 140].all (fun j => !(Wa.contains j))) = true := by decide) : v1.toInt = v2.toInt ∧ zRP κ L1 kd1 L2 kd2 x0 m0 τ1 τ2 := by
  obtain ⟨a', b'⟩ := zRN.tell h.1 hI hJ hx hm f1 f2 g1 g2 h1 h3 h4 k1 k2 k3
  obtain ⟨V, ps, pc, sl, rv, sh, cd, hR⟩ := h.2.2
  obtain ⟨-, hR'⟩ := hR.tell hx hI hJ hm f1 f2 g1 g2 (aSub h1 (by rfl)) (aSub h3 (by rfl)) (aSub h4 (by rfl))
  exact ⟨a', b', (h.2.1.c hI hx g1 k4 (by rfl)).m hJ hm g2 k2 k6, V, ps, pc, sl, rv, sh, cd, hR'⟩
theorem zRP.start {b : Bool} {ks : List Nat} (hS : zSAM 0 L1 kd1 L2 kd2 σ1 σ2) (hk : zKb b ks L1 kd1 σ1) (hx : zT L1 kd1 x0 10) (hJ : zJ 0 L2 kd2 σ2) (hm : zT L2 kd2 m0 11) (h0 : zRf0 m0 σ2) : zRP 0 L1 kd1 L2 kd2 x0 m0 σ1 σ2 := by
  obtain ⟨V, ps, pc, sl, rv, sh, cd, hR⟩ := zRL.start1 hk hx hJ hm h0
  exact ⟨zRN.start hS hk hx hJ hm h0, fun z => absurd z (by rw [h0.2.2.2.2.1]; decide), V, ps, pc, sl, rv, sh, cd, hR⟩
theorem zRP.spot (h : zRP κ L1 kd1 L2 kd2 x0 m0 σ1 σ2) (hI : zI κ 0 L1 kd1 σ1) (hJ : zJ κ L2 kd2 σ2) (hx : zT L1 kd1 x0 10) (hm : zT L2 kd2 m0 11) (hg : gN m0 σ2) (f1 : (v1, τ1) = F_X10_spot x0 p q σ1) (f2 : (v2, τ2) = F_X11_spot m0 p q σ2) : v1.toInt = v2.toInt := by
  obtain ⟨V, ps, pc, sl, rv, sh, cd, hR⟩ := h.2.2
  exact hR.spot h.2.1 h.1.2 hx hI hJ hm hg f1 f2
theorem zRP.claim (h : zRP κ L1 kd1 L2 kd2 x0 m0 σ1 σ2) (hI : zI κ 0 L1 kd1 σ1) (hJ : zJ κ L2 kd2 σ2) (hx : zT L1 kd1 x0 10) (hm : zT L2 kd2 m0 11) (hg : gN m0 σ2) (f1 : (v1, τ1) = F_X10_claim x0 p q σ1) (f2 : (v2, τ2) = F_X11_claim m0 p q σ2) : v1.toInt = v2.toInt := by
  obtain ⟨V, ps, pc, sl, rv, sh, cd, hR⟩ := h.2.2
  exact hR.claim h.2.1 h.1.2 hx hI hJ hm hg f1 f2
theorem zRP.winner (h : zRP κ L1 kd1 L2 kd2 x0 m0 σ1 σ2) (hI : zI κ 0 L1 kd1 σ1) (hJ : zJ κ L2 kd2 σ2) (hx : zT L1 kd1 x0 10) (hm : zT L2 kd2 m0 11) (hg : gN m0 σ2) (f1 : (v1, τ1) = F_X10_winner x0 p σ1) (f2 : (v2, τ2) = F_X11_winner m0 p σ2) : v1.toInt = v2.toInt := by
  obtain ⟨V, ps, pc, sl, rv, sh, cd, hR⟩ := h.2.2
  exact hR.winner h.2.1 h.1.2 hx hI hJ hm hg f1 f2
theorem zRP.behind (h : zRP κ L1 kd1 L2 kd2 x0 m0 σ1 σ2) (hI : zI κ 0 L1 kd1 σ1) (hJ : zJ κ L2 kd2 σ2) (hx : zT L1 kd1 x0 10) (hm : zT L2 kd2 m0 11) (hg : gN m0 σ2) (f1 : (v1, τ1) = F_X10_behind x0 p q σ1) (f2 : (v2, τ2) = F_X11_behind m0 p q σ2) : v1.toInt = v2.toInt := by
  obtain ⟨V, ps, pc, sl, rv, sh, cd, hR⟩ := h.2.2
  exact hR.behind h.2.1 h.1.2 hx hI hJ hm hg f1 f2
theorem zRP.margin (h : zRP κ L1 kd1 L2 kd2 x0 m0 σ1 σ2) (hI : zI κ 0 L1 kd1 σ1) (hJ : zJ κ L2 kd2 σ2) (hx : zT L1 kd1 x0 10) (hm : zT L2 kd2 m0 11) (hg : gN m0 σ2) (f1 : (v1, τ1) = F_X10_margin x0 p σ1) (f2 : (v2, τ2) = F_X11_margin m0 p σ2) : v1.toInt = v2.toInt := by
  obtain ⟨V, ps, pc, sl, rv, sh, cd, hR⟩ := h.2.2
  exact hR.margin h.2.1 h.1.2 hx hI hJ hm hg f1 f2
end RP
