/-! BOTH WORLDS ALIKE IN WHAT GOES ON: courses against rows, whatever Q asks of one and the other -/
/-- the tree, the dams, the month, the law that rules -/
def zQ0 (N : Nat) (c : zCo) (r : Nat → Int32) : Prop :=
  (∀ p, 1 ≤ p → p < N → c.1 p = r p) ∧ (∀ p, 1 ≤ p → p < N → (bt c.2.2.2.1 p = true ∧ r (12 + p) = 1) ∨ (bt c.2.2.2.1 p = false ∧ r (12 + p) = 0)) ∧ c.2.2.2.2.1 = r 48 ∧ c.2.2.2.2.2 = r 49
/-- the numbers beside: places, the past's, what was told of dye -/
def zRn (V : zWh) (x0 ps m0 : Nat) (N n u : Nat) (σ1 σ2 : zS) : Prop :=
  (σ1.1 ((σ1.2.2 x0 10).getD 0) 0).toInt = N ∧ zM m0 σ2 = N ∧ N ≤ 12 ∧ (σ1.1 ps 1).toInt = n ∧ n < 40 ∧ (σ1.1 ps 2).toInt = u ∧ u ≤ 40 ∧ (σ2.1 m0 57).toInt = u ∧ (σ1.1 ((σ1.2.2 x0 5).getD 0) 4).toInt = (σ2.1 m0 62).toInt
/-- what is held -/
def zRh (Q : zCo → (Nat → Int32) → Prop) (V : zWh) (x0 m0 : Nat) (σ1 σ2 : zS) : Prop := ∀ s, s < 3 → (bt (σ1.1 x0 12) s = true ∧ σ2.1 (mR σ2 m0 67) s = 1 ∧ Q (zcc V σ1.1 (2 + s)) (rC σ2.1 (mR σ2 m0 68) (50 * s))) ∨ (bt (σ1.1 x0 12) s = false ∧ σ2.1 (mR σ2 m0 67) s = 0)
/-- what can be gone back to -/
def zRu (Q : zCo → (Nat → Int32) → Prop) (V : zWh) (m0 n u : Nat) (σ1 σ2 : zS) : Prop := ∀ i, i < u → Q (zcc V σ1.1 (5 + (n + 39 - i) % 40)) (rC σ2.1 (mR σ2 m0 58) (50 * (u - 1 - i)))
def zRL (Q : Nat → zCo → (Nat → Int32) → Prop) (L1 : List Nat) (kd1 : Nat → Nat) (x0 m0 : Nat) (V : zWh) (ps pc sl rv sh cd : Nat) (σ1 σ2 : zS) : Prop :=
  zLay L1 kd1 x0 σ1.2.2 V ps pc sl ∧ zRv L1 kd1 x0 rv sh cd σ1.2.2 ∧ ∃ N n u : Nat, zRn V x0 ps m0 N n u σ1 σ2 ∧ Q N (zcc V σ1.1 0) (rC σ2.1 (mR σ2 m0 48) 0) ∧ zRu (Q N) V m0 n u σ1 σ2 ∧ zRh (Q N) V x0 m0 σ1 σ2
section ZREL
variable {κ k : Int} {L1 : List Nat} {kd1 : Nat → Nat} {L2 : List Nat} {kd2 : Nat → Nat} {σ1 σ2 τ1 τ2 : zS} {Wk Wr Wf Wa : List Nat} {m0 x0 : Nat} {Q : Nat → zCo → (Nat → Int32) → Prop} {V : zWh} {ps pc sl rv sh cd : Nat}
/-- the class' side: what else may change -/
theorem zRL.cl (h : zRL Q L1 kd1 x0 m0 V ps pc sl rv sh cd σ1 σ2) (hx : zT L1 kd1 x0 10) (hI : zI κ 0 L1 kd1 σ1) (hr : ∀ a ∈ L1, kd1 a ≠ 5 → τ1.2.2 a = σ1.2.2 a) (hr5 : ∀ a ∈ L1, kd1 a = 5 → ∀ j, j ≠ 5 → j ≠ 6 → τ1.2.2 a j = σ1.2.2 a j) (hi : ∀ a ∈ L1, kd1 a = 2 ∨ kd1 a = 4 ∨ kd1 a = 9 ∨ kd1 a = 10 → τ1.1 a = σ1.1 a) (hc : ∀ k, k < 45 → k ≠ 1 → zcc V τ1.1 k = zcc V σ1.1 k) : zRL Q L1 kd1 x0 m0 V ps pc sl rv sh cd τ1 σ2 := by
  obtain ⟨hL, hV, N, n, u, ⟨a1, a2, a3, a4, a5, a6, a7, a8, a9⟩, hq, hu, hh⟩ := h
  have rx : τ1.2.2 x0 = σ1.2.2 x0 := hr x0 hx.1 (by rw [hx.2]; decide)
  obtain ⟨td, d1, d2⟩ := zi_ref (j := 10) (k2 := 9) hI hx (by rfl)
  obtain ⟨dy, y1, y2⟩ := zi_ref (j := 5) (k2 := 2) hI hx (by rfl)
  have gd : (σ1.2.2 x0 10).getD 0 = td := by rw [d1]; rfl
  have gy : (σ1.2.2 x0 5).getD 0 = dy := by rw [y1]; rfl
  have tp : zT L1 kd1 ps 4 := hL.2.2.2.2.2.2.1
  have ip : τ1.1 ps = σ1.1 ps := hi ps tp.1 (by rw [tp.2]; decide)
  have ix : τ1.1 x0 = σ1.1 x0 := hi x0 hx.1 (by rw [hx.2]; decide)
  refine ⟨hL.keep (fun a ha hk => hr a ha (by omega)) (fun j _ => by rw [rx]), ?_, N, n, u, ⟨?_, a2, a3, by rw [ip]; exact a4, a5, by rw [ip]; exact a6, a7, a8, ?_⟩, by rw [hc 0 (by decide) (by decide)]; exact hq, fun i hi' => ?_, fun s hs => ?_⟩
  · obtain ⟨⟨b1, b2, b3, b4⟩, ⟨t0, t1, t2, t3⟩, b, c, d, e, f⟩ := hV
    have rr : ∀ j, j ≠ 5 → j ≠ 6 → τ1.2.2 rv j = σ1.2.2 rv j := hr5 rv t1.1 t1.2
    have rs : τ1.2.2 sh = σ1.2.2 sh := hr sh t2.1 (by rw [t2.2]; decide)
    have rc : τ1.2.2 cd = σ1.2.2 cd := hr cd t3.1 (by rw [t3.2]; decide)
    exact ⟨⟨by rw [rx]; exact b1, by rw [rx]; exact b2, by rw [rr 0 (by decide) (by decide)]; exact b3, by rw [rr 1 (by decide) (by decide)]; exact b4⟩, ⟨t0, t1, t2, t3⟩, fun j hj => by rw [rr j (by omega) (by omega)]; exact b j hj, fun j hj => by rw [rc]; exact c j hj, fun j h1 h2 => by rw [rs]; exact d j h1 h2, by rw [rx]; exact e, by rw [rx]; exact f⟩
  · rw [rx, gd, hi td d2.1 (by rw [d2.2]; decide), ← gd]; exact a1
  · rw [rx, gy, hi dy y2.1 (by rw [y2.2]; decide), ← gy]; exact a9
  · rw [hc _ (by omega) (by omega)]; exact hu i hi'
  · rw [ix, hc (2 + s) (by omega) (by omega)]; exact hh s hs
/-- a question of the class: no course is written -/
theorem zRL.c (h : zRL Q L1 kd1 x0 m0 V ps pc sl rv sh cd σ1 σ2) (hx : zT L1 kd1 x0 10) (hI : zI κ 0 L1 kd1 σ1) (g : zSm Wk Wr L1 kd1 σ1 τ1) (hv : zRz σ1.2.2 τ1) (h1 : ([1, 2, 4, 9, 10, 22, 23, 24].all (fun j => !(Wk.contains j))) = true) (h2 : (Wr.all (fun j => j == 5)) = true) : zRL Q L1 kd1 x0 m0 V ps pc sl rv sh cd τ1 σ2 := by
  have n : ∀ {k : Nat}, (k = 1 ∨ k = 2 ∨ k = 4 ∨ k = 9 ∨ k = 10 ∨ k = 22 ∨ k = 23 ∨ k = 24) → k ∉ Wk := fun {k} hk q => by
    have z := List.all_eq_true.mp h1 k (by rcases hk with rfl | rfl | rfl | rfl | rfl | rfl | rfl | rfl <;> decide)
    simp [q] at z
  refine h.cl hx hI (fun a ha h5 => (g a ha).2 (fun q => h5 ?_)) (fun a _ _ j j5 j6 => hv a j j5 j6) (fun a ha hk => ((g a ha).1 (n (by omega))).1) (fun k hk _ => ?_)
  · have := List.all_eq_true.mp h2 _ q
    simpa using this
  · obtain ⟨⟨tA, tI, tW, tM⟩, -⟩ := h.1.2.2.2.1 k hk
    exact zcc.st ((g _ tA.1).1 (n (by rw [tA.2]; omega))).1 ((g _ tI.1).1 (n (by rw [tI.2]; omega))).1 ((g _ tW.1).1 (n (by rw [tW.2]; omega))).1 ((g _ tM.1).1 (n (by rw [tM.2]; omega))).1
/-- a question that tries: the tried course alone is written -/
theorem zRL.t (h : zRL Q L1 kd1 x0 m0 V ps pc sl rv sh cd σ1 σ2) (hx : zT L1 kd1 x0 10) (hI : zI κ 0 L1 kd1 σ1) (g : zSm Wk Wr L1 kd1 σ1 τ1) (p : zPv L1 kd1 V rv σ1 τ1) (h1 : ([2, 4, 9, 10].all (fun j => !(Wk.contains j))) = true) (h2 : (Wr.all (fun j => j == 5)) = true) (hs : ∀ a ∈ L1, kd1 a = 5 → a = rv) : zRL Q L1 kd1 x0 m0 V ps pc sl rv sh cd τ1 σ2 := by
  have n : ∀ {k : Nat}, (k = 2 ∨ k = 4 ∨ k = 9 ∨ k = 10) → k ∉ Wk := fun {k} hk q => by
    have z := List.all_eq_true.mp h1 k (by rcases hk with rfl | rfl | rfl | rfl <;> decide)
    simp [q] at z
  refine h.cl hx hI (fun a ha h5 => (g a ha).2 (fun q => h5 ?_)) (fun a ha h5 j j5 j6 => p.1 a j (fun q => by omega)) (fun a ha hk => ((g a ha).1 (n hk)).1) (fun k hk hk1 => p.cc h.1 hk hk1)
  have := List.all_eq_true.mp h2 _ q
  simpa using this
/-- a question of the reference -/
theorem zRL.m (h : zRL Q L1 kd1 x0 m0 V ps pc sl rv sh cd σ1 σ2) (hJ : zJ κ L2 kd2 σ2) (hm : zT L2 kd2 m0 11) (g : zSame m0 Wf Wa L2 kd2 σ2 τ2) (h1 : ([18, 57, 62].all (fun j => !(Wf.contains j))) = true) (h2 : ([121, 148, 158, 167, 168].all (fun j => !(Wa.contains j))) = true) : zRL Q L1 kd1 x0 m0 V ps pc sl rv sh cd σ1 τ2 := by
  obtain ⟨hL, hV, N, n, u, ⟨a1, a2, a3, a4, a5, a6, a7, a8, a9⟩, hq, hu, hh⟩ := h
  have f : ∀ j, (j = 18 ∨ j = 57 ∨ j = 62) → τ2.1 m0 j = σ2.1 m0 j := fun j hj => g.2.1 j (fun q => by
    have z := List.all_eq_true.mp h1 j (by rcases hj with rfl | rfl | rfl <;> decide)
    simp [q] at z)
  have er : ∀ s, mR τ2 m0 s = mR σ2 m0 s := fun s => by rw [mR, g.2.2]
  have r : ∀ s, (s = 21 ∨ s = 48 ∨ s = 58 ∨ s = 67 ∨ s = 68) → τ2.1 (mR σ2 m0 s) = σ2.1 (mR σ2 m0 s) := fun s hs => by
    have ht : zT L2 kd2 (mR σ2 m0 s) (100 + s) := by rcases hs with rfl | rfl | rfl | rfl | rfl <;> exact mR_t hJ hm (by rfl)
    refine (g.1 _ ht.1 (by rw [ht.2]; omega) (fun q => ?_)).1
    rw [ht.2] at q
    have z := List.all_eq_true.mp h2 (100 + s) (by rcases hs with rfl | rfl | rfl | rfl | rfl <;> decide)
    simp [q] at z
  refine ⟨hL, hV, N, n, u, ⟨a1, ?_, a3, a4, a5, a6, a7, by rw [f 57 (by omega)]; exact a8, by rw [f 62 (by omega)]; exact a9⟩, ?_, fun i hi => ?_, fun s hs => ?_⟩
  · rw [← a2]
    unfold zM zp
    rw [f 18 (by omega)]
    show (τ2.1 (mR τ2 m0 21) _).toInt = (σ2.1 (mR σ2 m0 21) _).toInt
    rw [er, r 21 (by omega)]
  · rw [er, rC_e (g := σ2.1) (r' := mR σ2 m0 48) (o' := 0) (fun j _ => by rw [r 48 (by omega)])]; exact hq
  · rw [er, rC_e (g := σ2.1) (r' := mR σ2 m0 58) (o' := 50 * (u - 1 - i)) (fun j _ => by rw [r 58 (by omega)])]; exact hu i hi
  · rw [er, er, r 67 (by omega), rC_e (g := σ2.1) (r' := mR σ2 m0 68) (o' := 50 * s) (fun j _ => by rw [r 68 (by omega)])]; exact hh s hs
end ZREL
