/-! DYE: what was told of it is alike -/
def zDy (x0 m0 : Nat) (σ1 σ2 : zS) : Prop := ∀ i : Nat, (i : Int) < (σ2.1 m0 62).toInt → (∀ k, k < 4 → σ1.1 ((σ1.2.2 ((σ1.2.2 x0 5).getD 0) k).getD 0) i = σ2.1 (mR σ2 m0 (63 + k)) i) ∧ 0 ≤ (σ2.1 (mR σ2 m0 63) i).toInt ∧ (σ2.1 (mR σ2 m0 63) i).toInt < zM m0 σ2
theorem zu_if {f : Nat → Nat → Int32} {a j i : Nat} {v : Int32} : zu f a j v a i = if i = j then v else f a i := by
  by_cases c : i = j
  · rw [c, zu_s, if_pos rfl]
  · rw [zu_j _ _ _ _ _ (fun z => c z.symm), if_neg c]
section DYR
variable {κ : Int} {L1 : List Nat} {kd1 : Nat → Nat} {L2 : List Nat} {kd2 : Nat → Nat} {σ1 σ2 τ1 τ2 : zS} {m0 x0 : Nat} {Wk Wr Wf Wa : List Nat} {Q : Nat → zCo → (Nat → Int32) → Prop} {V : zWh} {ps pc sl rv sh cd td tt : Nat} {v1 v2 : Int32}
theorem zDy_r (hI : zI κ 0 L1 kd1 σ1) (hx : zT L1 kd1 x0 10) : ∃ dy, (σ1.2.2 x0 5).getD 0 = dy ∧ zT L1 kd1 dy 2 ∧ ∀ k, k < 4 → zT L1 kd1 ((σ1.2.2 dy k).getD 0) (25 + k) := by
  obtain ⟨dy, y1, y2⟩ := zi_ref (j := 5) (k2 := 2) hI hx (by rfl)
  refine ⟨dy, by rw [y1]; rfl, y2, fun k hk => ?_⟩
  have h : k = 0 ∨ k = 1 ∨ k = 2 ∨ k = 3 := by omega
  rcases h with rfl | rfl | rfl | rfl
  · obtain ⟨r, r1, r2⟩ := zi_ref (j := 0) (k2 := 25) hI y2 (by rfl)
    rw [r1]
    exact r2
  · obtain ⟨r, r1, r2⟩ := zi_ref (j := 1) (k2 := 26) hI y2 (by rfl)
    rw [r1]
    exact r2
  · obtain ⟨r, r1, r2⟩ := zi_ref (j := 2) (k2 := 27) hI y2 (by rfl)
    rw [r1]
    exact r2
  · obtain ⟨r, r1, r2⟩ := zi_ref (j := 3) (k2 := 28) hI y2 (by rfl)
    rw [r1]
    exact r2
theorem zDy.c (h : zDy x0 m0 σ1 σ2) (hI : zI κ 0 L1 kd1 σ1) (hx : zT L1 kd1 x0 10) (g : zSm Wk Wr L1 kd1 σ1 τ1) (h1 : ([25, 26, 27, 28].all (fun j => !(Wk.contains j))) = true) (h2 : (Wr.all (fun j => j == 5)) = true) : zDy x0 m0 τ1 σ2 := by
  have n : ∀ a ∈ L1, kd1 a ≠ 5 → τ1.2.2 a = σ1.2.2 a := fun a ha h5 => (g a ha).2 (fun q => h5 (by
    have := List.all_eq_true.mp h2 _ q
    simpa using this))
  obtain ⟨dy, d1, d2, d3⟩ := zDy_r hI hx
  intro i hi
  obtain ⟨A, B⟩ := h i hi
  refine ⟨fun k hk => ?_, B⟩
  have a := A k hk
  rw [d1] at a
  have e : τ1.1 ((σ1.2.2 dy k).getD 0) = σ1.1 ((σ1.2.2 dy k).getD 0) := ((g _ (d3 k hk).1).1 (fun q => by
    rw [(d3 k hk).2] at q
    have z := List.all_eq_true.mp h1 (25 + k) (by
      have h : k = 0 ∨ k = 1 ∨ k = 2 ∨ k = 3 := by omega
      rcases h with rfl | rfl | rfl | rfl <;> decide)
    simp [q] at z)).1
  rw [n x0 hx.1 (by rw [hx.2]; decide), d1, n dy d2.1 (by rw [d2.2]; decide), e]
  exact a
theorem zDy.m (h : zDy x0 m0 σ1 σ2) (hJ : zJ κ L2 kd2 σ2) (hm : zT L2 kd2 m0 11) (g : zSame m0 Wf Wa L2 kd2 σ2 τ2) (h1 : ([18, 62].all (fun j => !(Wf.contains j))) = true) (h2 : ([121, 163, 164, 165, 166].all (fun j => !(Wa.contains j))) = true) : zDy x0 m0 σ1 τ2 := by
  have er : ∀ s, mR τ2 m0 s = mR σ2 m0 s := fun s => by rw [mR, g.2.2]
  have r : ∀ s, (s = 21 ∨ s = 63 ∨ s = 64 ∨ s = 65 ∨ s = 66) → τ2.1 (mR σ2 m0 s) = σ2.1 (mR σ2 m0 s) := fun s hs => by
    have ht : zT L2 kd2 (mR σ2 m0 s) (100 + s) := by rcases hs with rfl | rfl | rfl | rfl | rfl <;> exact mR_t hJ hm (by rfl)
    refine (g.1 _ ht.1 (by rw [ht.2]; omega) (fun q => ?_)).1
    rw [ht.2] at q
    have z := List.all_eq_true.mp h2 (100 + s) (by rcases hs with rfl | rfl | rfl | rfl | rfl <;> decide)
    simp [q] at z
  have f : ∀ j, (j = 18 ∨ j = 62) → τ2.1 m0 j = σ2.1 m0 j := fun j hj => g.2.1 j (fun q => by
    have z := List.all_eq_true.mp h1 j (by rcases hj with rfl | rfl <;> decide)
    simp [q] at z)
  have M2 : zM m0 τ2 = zM m0 σ2 := by
    unfold zM zp
    rw [f 18 (by omega)]
    show (τ2.1 (mR τ2 m0 21) _).toInt = (σ2.1 (mR σ2 m0 21) _).toInt
    rw [er, r 21 (by omega)]
  intro i hi
  rw [f 62 (by omega)] at hi
  obtain ⟨A, B⟩ := h i hi
  refine ⟨fun k hk => ?_, ?_⟩
  · rw [er, r (63 + k) (by omega)]
    exact A k hk
  · rw [er, M2, r 63 (by omega)]
    exact B
theorem zDy_0 (h : τ2.1 m0 62 = 0) : zDy x0 m0 τ1 τ2 := by
  intro i hi
  have e : (0 : Int32).toInt = 0 := by decide
  rw [h] at hi
  omega
theorem zDy_fg (f2 : (v2, τ2) = F_X11_forget m0 σ2) : zDy x0 m0 τ1 τ2 := by
  unfold F_X11_forget at f2
  simp only [zlt] at f2
  refine zDy_0 ?_
  rw [(zPr2 f2).2]
  exact zu_s _ _ _ _
theorem zRL.tellD {a b c e : Int32} (h : zRL Q L1 kd1 x0 m0 V ps pc sl rv sh cd σ1 σ2) (hd : zDy x0 m0 σ1 σ2) (hx : zT L1 kd1 x0 10) (hI : zI κ 0 L1 kd1 σ1) (hJ : zJ κ L2 kd2 σ2) (hm : zT L2 kd2 m0 11) (f1 : (v1, τ1) = F_X10_tell x0 a b c e σ1) (f2 : (v2, τ2) = F_X11_tell m0 a b c e σ2) (g2 : zSame m0 Wf Wa L2 kd2 σ2 τ2) (h1 : Wf.contains 18 = false) (h2 : Wa.contains 121 = false) : zDy x0 m0 τ1 τ2 := by
  obtain ⟨-, -, N, n, u, ⟨a1, a2, a3, -, -, -, -, -, a9⟩, -⟩ := h
  obtain ⟨dy, gy, y2, tr⟩ := zDy_r hI hx
  have rg := zi_get (j := 4) hI y2 (lo := 0) (hi := 20) (by rfl)
  have e0 : (0 : Int32).toInt = 0 := by decide
  have e1 : (1 : Int32).toInt = 1 := by decide
  have e20 : (20 : Int32).toInt = 20 := by decide
  have e9 : (9999 : Int32).toInt = 9999 := by decide
  have k1 := zN1 a1 a3
  have k2 := zN1 (x := F_X11_many m0 σ2) (mMany.trans a2) a3
  rw [gy] at a9
  unfold F_X10_tell at f1
  unfold F_X11_tell at f2
  simp only [zlt, zlt2, cPlace, mPlc, cWithin, mIn, e0, e20, e9, k1, k2, gy] at f1 f2
  have no : ∀ w : Int32, (v1, τ1) = (w, σ1) → (v2, τ2) = (w, σ2) → zDy x0 m0 τ1 τ2 := fun w f1 f2 => by
    cases f1
    cases f2
    exact hd
  by_cases c1 : 0 ≤ a.toInt ∧ a.toInt ≤ (N : Int) - 1
  · rw [if_neg (fun z => z c1)] at f1
    by_cases c2 : 0 ≤ b.toInt ∧ b.toInt ≤ 9999
    · rw [if_neg (fun z => z c2)] at f1
      by_cases c3 : b.toInt ≤ c.toInt ∧ c.toInt ≤ 9999
      · rw [if_neg (fun z => z c3)] at f1
        unfold F_X2_add at f1
        simp only [zlt, e20] at f1
        by_cases c4 : (σ1.1 dy 4).toInt < 20
        · rw [if_pos c4] at f1
          rw [if_neg (by omega), if_neg (fun z => z c1), if_neg (fun z => z c2), if_neg (fun z => z c3)] at f2
          obtain ⟨r0, w0⟩ : ∃ r, (σ1.2.2 dy 0).getD 0 = r := ⟨_, rfl⟩
          obtain ⟨r1, w1⟩ : ∃ r, (σ1.2.2 dy 1).getD 0 = r := ⟨_, rfl⟩
          obtain ⟨r2, w2⟩ : ∃ r, (σ1.2.2 dy 2).getD 0 = r := ⟨_, rfl⟩
          obtain ⟨r3, w3⟩ : ∃ r, (σ1.2.2 dy 3).getD 0 = r := ⟨_, rfl⟩
          have p0 : zT L1 kd1 r0 25 := w0 ▸ tr 0 (by decide)
          have p1 : zT L1 kd1 r1 26 := w1 ▸ tr 1 (by decide)
          have p2 : zT L1 kd1 r2 27 := w2 ▸ tr 2 (by decide)
          have p3 : zT L1 kd1 r3 28 := w3 ▸ tr 3 (by decide)
          have n0 : ¬ dy = r0 := zNk y2 p0 (by decide)
          have n1 : ¬ dy = r1 := zNk y2 p1 (by decide)
          have n2 : ¬ dy = r2 := zNk y2 p2 (by decide)
          have n3 : ¬ dy = r3 := zNk y2 p3 (by decide)
          simp only [w0, w1, w2, w3, zu_n _ _ _ n0, zu_n _ _ _ n1, zu_n _ _ _ n2, zu_n _ _ _ n3, zu_s] at f1
          have q : ∀ {x : Nat}, zf 0 11 x = some (100 + x) → 1 ≤ x → ¬ m0 = (σ2.2.2 m0 x).getD 0 := fun {x} hz hx z => mR_m hJ hm (s := x) (k := 100 + x) hz (by omega) z.symm
          have m3 := q (x := 63) (by rfl) (by decide)
          have m4 := q (x := 64) (by rfl) (by decide)
          have m5 := q (x := 65) (by rfl) (by decide)
          have m6 := q (x := 66) (by rfl) (by decide)
          simp only [zu_n _ _ _ m3, zu_n _ _ _ m4, zu_n _ _ _ m5, zu_n _ _ _ m6, zu_s] at f2
          have b2 : (σ2.1 m0 62 + (1 : Int32)).toInt = (σ2.1 m0 62).toInt + 1 := by rw [zb_add (by rw [e1]; omega) (by rw [e1]; omega), e1]
          obtain ⟨k, hk⟩ : ∃ k : Nat, k = (σ1.1 dy 4).toNatClampNeg := ⟨_, rfl⟩
          have hk2 : (σ2.1 m0 62).toNatClampNeg = k := by rw [hk, ztn, ztn, a9]
          have kk : (k : Int) = (σ2.1 m0 62).toInt := by rw [hk, ztn]; omega
          have t1 : τ1 = _ := congrArg Prod.snd f1
          have t2 : τ2 = _ := congrArg Prod.snd f2
          have c1r : τ1.2.2 = σ1.2.2 := by rw [t1]
          have c2r : τ2.2.2 = σ2.2.2 := by rw [t2]
          have c1i : τ1.1 = zu (zu (zu (zu (zu σ1.1 r0 (σ1.1 dy 4).toNatClampNeg a) r1 (σ1.1 dy 4).toNatClampNeg b) r2 (σ1.1 dy 4).toNatClampNeg c) r3 (σ1.1 dy 4).toNatClampNeg (vp_nar .boolean e)) dy 4 (σ1.1 dy 4 + (1 : Int32)) := congrArg (fun s : zS => s.1) t1
          have c2i : τ2.1 = zu (zu (zu (zu (zu σ2.1 (mR σ2 m0 63) (σ2.1 m0 62).toNatClampNeg a) (mR σ2 m0 64) (σ2.1 m0 62).toNatClampNeg b) (mR σ2 m0 65) (σ2.1 m0 62).toNatClampNeg c) (mR σ2 m0 66) (σ2.1 m0 62).toNatClampNeg (vp_nar .boolean e)) m0 62 (σ2.1 m0 62 + (1 : Int32)) := congrArg (fun s : zS => s.1) t2
          rw [← hk] at c1i
          rw [hk2] at c2i
          have s01 : ¬ r0 = r1 := zNk p0 p1 (by decide)
          have s02 : ¬ r0 = r2 := zNk p0 p2 (by decide)
          have s03 : ¬ r0 = r3 := zNk p0 p3 (by decide)
          have s12 : ¬ r1 = r2 := zNk p1 p2 (by decide)
          have s13 : ¬ r1 = r3 := zNk p1 p3 (by decide)
          have s23 : ¬ r2 = r3 := zNk p2 p3 (by decide)
          have z01 : ¬ mR σ2 m0 63 = mR σ2 m0 64 := mR_ne hJ hm (k := 163) (k' := 164) (by rfl) (by rfl) (by decide)
          have z02 : ¬ mR σ2 m0 63 = mR σ2 m0 65 := mR_ne hJ hm (k := 163) (k' := 165) (by rfl) (by rfl) (by decide)
          have z03 : ¬ mR σ2 m0 63 = mR σ2 m0 66 := mR_ne hJ hm (k := 163) (k' := 166) (by rfl) (by rfl) (by decide)
          have z12 : ¬ mR σ2 m0 64 = mR σ2 m0 65 := mR_ne hJ hm (k := 164) (k' := 165) (by rfl) (by rfl) (by decide)
          have z13 : ¬ mR σ2 m0 64 = mR σ2 m0 66 := mR_ne hJ hm (k := 164) (k' := 166) (by rfl) (by rfl) (by decide)
          have z23 : ¬ mR σ2 m0 65 = mR σ2 m0 66 := mR_ne hJ hm (k := 165) (k' := 166) (by rfl) (by rfl) (by decide)
          have o3 : ¬ mR σ2 m0 63 = m0 := fun z => m3 z.symm
          have o4 : ¬ mR σ2 m0 64 = m0 := fun z => m4 z.symm
          have o5 : ¬ mR σ2 m0 65 = m0 := fun z => m5 z.symm
          have o6 : ¬ mR σ2 m0 66 = m0 := fun z => m6 z.symm
          have cw0 : ∀ i, τ1.1 r0 i = if i = k then a else σ1.1 r0 i := fun i => by rw [c1i, zu_n _ _ _ (fun z => n0 z.symm), zu_n _ _ _ s03, zu_n _ _ _ s02, zu_n _ _ _ s01, zu_if]
          have cw1 : ∀ i, τ1.1 r1 i = if i = k then b else σ1.1 r1 i := fun i => by rw [c1i, zu_n _ _ _ (fun z => n1 z.symm), zu_n _ _ _ s13, zu_n _ _ _ s12, zu_if, zu_n _ _ _ (fun z => s01 z.symm)]
          have cw2 : ∀ i, τ1.1 r2 i = if i = k then c else σ1.1 r2 i := fun i => by rw [c1i, zu_n _ _ _ (fun z => n2 z.symm), zu_n _ _ _ s23, zu_if, zu_n _ _ _ (fun z => s12 z.symm), zu_n _ _ _ (fun z => s02 z.symm)]
          have cw3 : ∀ i, τ1.1 r3 i = if i = k then (vp_nar .boolean e) else σ1.1 r3 i := fun i => by rw [c1i, zu_n _ _ _ (fun z => n3 z.symm), zu_if, zu_n _ _ _ (fun z => s23 z.symm), zu_n _ _ _ (fun z => s13 z.symm), zu_n _ _ _ (fun z => s03 z.symm)]
          have mw0 : ∀ i, τ2.1 (mR σ2 m0 63) i = if i = k then a else σ2.1 (mR σ2 m0 63) i := fun i => by rw [c2i, zu_n _ _ _ o3, zu_n _ _ _ z03, zu_n _ _ _ z02, zu_n _ _ _ z01, zu_if]
          have mw1 : ∀ i, τ2.1 (mR σ2 m0 64) i = if i = k then b else σ2.1 (mR σ2 m0 64) i := fun i => by rw [c2i, zu_n _ _ _ o4, zu_n _ _ _ z13, zu_n _ _ _ z12, zu_if, zu_n _ _ _ (fun z => z01 z.symm)]
          have mw2 : ∀ i, τ2.1 (mR σ2 m0 65) i = if i = k then c else σ2.1 (mR σ2 m0 65) i := fun i => by rw [c2i, zu_n _ _ _ o5, zu_n _ _ _ z23, zu_if, zu_n _ _ _ (fun z => z12 z.symm), zu_n _ _ _ (fun z => z02 z.symm)]
          have mw3 : ∀ i, τ2.1 (mR σ2 m0 66) i = if i = k then (vp_nar .boolean e) else σ2.1 (mR σ2 m0 66) i := fun i => by rw [c2i, zu_n _ _ _ o6, zu_if, zu_n _ _ _ (fun z => z23 z.symm), zu_n _ _ _ (fun z => z13 z.symm), zu_n _ _ _ (fun z => z03 z.symm)]
          have er : ∀ s, mR τ2 m0 s = mR σ2 m0 s := fun s => by rw [mR, c2r]
          have M2 : zM m0 τ2 = zM m0 σ2 := by
            have f18 : τ2.1 m0 18 = σ2.1 m0 18 := g2.2.1 18 (fun q => by simp [q] at h1)
            have t21 : zT L2 kd2 (mR σ2 m0 21) 121 := mR_t hJ hm (by rfl)
            have r21 : τ2.1 (mR σ2 m0 21) = σ2.1 (mR σ2 m0 21) := (g2.1 _ t21.1 (by rw [t21.2]; decide) (fun q => by
              rw [t21.2] at q
              simp [q] at h2)).1
            unfold zM zp
            rw [f18]
            show (τ2.1 (mR τ2 m0 21) _).toInt = (σ2.1 (mR σ2 m0 21) _).toInt
            rw [er, r21]
          have m62 : τ2.1 m0 62 = σ2.1 m0 62 + (1 : Int32) := by rw [c2i, zu_s]
          intro i hi
          rw [m62, b2] at hi
          refine ⟨fun k' hk' => ?_, ?_⟩
          · rw [c1r, gy, er]
            have old : i ≠ k → σ1.1 ((σ1.2.2 dy k').getD 0) i = σ2.1 (mR σ2 m0 (63 + k')) i := fun hne => by
              have := (hd i (by omega)).1 k' hk'
              rw [gy] at this
              exact this
            have hk4 : k' = 0 ∨ k' = 1 ∨ k' = 2 ∨ k' = 3 := by omega
            rcases hk4 with rfl | rfl | rfl | rfl
            · rw [w0] at old ⊢
              rw [cw0]
              refine Eq.trans ?_ (mw0 i).symm
              by_cases ci : i = k
              · rw [if_pos ci, if_pos ci]
              · rw [if_neg ci, if_neg ci]
                exact old ci
            · rw [w1] at old ⊢
              rw [cw1]
              refine Eq.trans ?_ (mw1 i).symm
              by_cases ci : i = k
              · rw [if_pos ci, if_pos ci]
              · rw [if_neg ci, if_neg ci]
                exact old ci
            · rw [w2] at old ⊢
              rw [cw2]
              refine Eq.trans ?_ (mw2 i).symm
              by_cases ci : i = k
              · rw [if_pos ci, if_pos ci]
              · rw [if_neg ci, if_neg ci]
                exact old ci
            · rw [w3] at old ⊢
              rw [cw3]
              refine Eq.trans ?_ (mw3 i).symm
              by_cases ci : i = k
              · rw [if_pos ci, if_pos ci]
              · rw [if_neg ci, if_neg ci]
                exact old ci
          · rw [er, M2, mw0]
            by_cases ci : i = k
            · rw [if_pos ci, a2]
              omega
            · rw [if_neg ci]
              exact (hd i (by omega)).2
        · rw [if_neg c4] at f1
          rw [if_pos (by omega)] at f2
          exact no _ f1 f2
      · rw [if_pos c3] at f1
        by_cases c5 : (σ2.1 m0 62).toInt = 20
        · rw [if_pos c5] at f2
          exact no _ f1 f2
        · rw [if_neg c5, if_neg (fun z => z c1), if_neg (fun z => z c2), if_pos c3] at f2
          exact no _ f1 f2
    · rw [if_pos c2] at f1
      by_cases c5 : (σ2.1 m0 62).toInt = 20
      · rw [if_pos c5] at f2
        exact no _ f1 f2
      · rw [if_neg c5, if_neg (fun z => z c1), if_pos c2] at f2
        exact no _ f1 f2
  · rw [if_pos c1] at f1
    by_cases c5 : (σ2.1 m0 62).toInt = 20
    · rw [if_pos c5] at f2
      exact no _ f1 f2
    · rw [if_neg c5, if_pos c1] at f2
      exact no _ f1 f2
set_option maxHeartbeats 1000000 in
theorem zDy.read (hd0 : zDy x0 m0 σ1 σ2) (hS : zSAM κ L1 kd1 L2 kd2 σ1 σ2) (hL : zLay L1 kd1 x0 σ1.2.2 V ps pc sl) (hTt : zTt x0 σ1.2.2 td tt) (hI1 : zI κ 0 L1 kd1 σ1) (hI2 : zJ κ L2 kd2 σ2) (hx0 : zT L1 kd1 x0 10) (hm0 : zT L2 kd2 m0 11) (f1 : (v1, τ1) = F_X10_read x0 σ1) (f2 : (v2, τ2) = F_X11_read m0 σ2) : zDy x0 m0 τ1 τ2 := by
  obtain ⟨T, m, P, tk, kA, vA, qA, tt', N0, k, q, v, nm, nO, x, p1, p2, C0, D0, S0, y, K, ⟨hd, hd', hTm, hK⟩, ⟨v0, w0⟩, ⟨e, e2⟩, ⟨P1, s1, P2, s2⟩, er, ef, -, dF, tks⟩ := zRead1 hS hI1 hI2 hx0 hm0
  have ett : tt' = tt := Option.some.inj (s1.symm.trans hTt.2.1)
  subst ett
  obtain ⟨c1, c2, c3⟩ := cRead hL hI1 hx0 hTt P1 P2 s2 hd hK v0 e er ef f1
  obtain ⟨b, E, hb1, h18, hE, rE, E19, EF, EX, m1, m2⟩ := mRead hI2 hm0 hd' hTm hK w0 e2 dF tks f2 (fun _ => (0, 0, 0, 0))
  by_cases za : aAns (aRun T 500 aZ) = 0
  · obtain ⟨-, N2, -, -, -, -, -, -, l7, -⟩ := m2 za
    exact zDy_0 l7
  · obtain ⟨g1, g2⟩ := c2 za
    obtain ⟨l1, l2⟩ := m1 za
    obtain ⟨dy, d1, d2, d3⟩ := zDy_r hI1 hx0
    have xP : x0 ≠ P := zNk hx0 P2 (by decide)
    have dP : dy ≠ P := zNk d2 P2 (by decide)
    have ro : ∀ c, c ≠ P → τ1.2.2 c = σ1.2.2 c := fun c h1 => by rw [g1, zu_n _ _ _ h1]
    have kr := fun j j1 j2 j3 => zTt_k hI1 s2 j j1 j2 j3
    have kk : ∀ c j, 25 ≤ kd1 c → kd1 c ≤ 28 → ¬ zAc L1 kd1 tt' σ1.2.2 c j := fun c j h1 h2 z => by
      have := zAc.kk (fun j j1 j2 j3 => by rw [(kr j j1 j2 j3).2]; split <;> omega) s2.2 z
      omega
    have er2 : ∀ s, mR τ2 m0 s = mR σ2 m0 s := fun s => by rw [mR, l1]
    have l : ∀ c j, ¬ (c = m0 ∧ j = 17) → ¬ zAm (mR σ2 m0) m0 b x k q v c j → τ2.1 c j = σ2.1 c j := fun c j n1 n2 => (l2 c j n1).trans (EF c j n2)
    have e18 : τ2.1 m0 18 = σ2.1 m0 18 := l _ _ (fun z => by omega) (zAm.fld hI2 hm0 tks (by omega))
    have e62 : τ2.1 m0 62 = σ2.1 m0 62 := l _ _ (fun z => by omega) (zAm.fld hI2 hm0 tks (by omega))
    have e21 : τ2.1 (mR σ2 m0 21) (σ2.1 m0 18).toInt.toNat = σ2.1 (mR σ2 m0 21) (σ2.1 m0 18).toInt.toNat := l _ _ (fun z => mR_m hI2 hm0 (s := 21) (k := 121) (by rfl) (by decide) z.1) (zAm.r21 hI2 hm0 tks (by omega))
    have row : ∀ s, (s = 63 ∨ s = 64 ∨ s = 65 ∨ s = 66) → ∀ j, τ2.1 (mR σ2 m0 s) j = σ2.1 (mR σ2 m0 s) j := fun s hs j => by
      have hz : zf 0 11 s = some (100 + s) := by rcases hs with rfl | rfl | rfl | rfl <;> rfl
      exact l _ _ (fun z => mR_m hI2 hm0 hz (by omega) z.1) (zAm.row hI2 hm0 tks hz (by omega) j)
    have M2 : zM m0 τ2 = zM m0 σ2 := by
      unfold zM zp
      rw [e18]
      show (τ2.1 (mR τ2 m0 21) _).toInt = (σ2.1 (mR σ2 m0 21) _).toInt
      rw [er2, e21]
    intro i hi
    rw [e62] at hi
    obtain ⟨A, B⟩ := hd0 i hi
    refine ⟨fun k' hk' => ?_, ?_⟩
    · have t := d3 k' hk'
      have a := A k' hk'
      rw [d1] at a
      rw [ro x0 xP, d1, ro dy dP, er2, row (63 + k') (by omega), ← a]
      exact g2 _ _ (kk _ _ (by rw [t.2]; omega) (by rw [t.2]; omega)) (fun z => zNk t hx0 (by omega) z.1) (by rw [t.2]; omega)
    · rw [er2, M2, row 63 (by omega)]
      exact B
end DYR
