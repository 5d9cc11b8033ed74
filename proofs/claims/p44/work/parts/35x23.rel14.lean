theorem zPr2 {α β : Type} {a b : α} {s t : β} (h : (a, s) = (b, t)) : a = b ∧ s = t := by
  cases h
  exact ⟨rfl, rfl⟩
section ZREL14
variable {κ : Int} {L1 : List Nat} {kd1 : Nat → Nat} {L2 : List Nat} {kd2 : Nat → Nat} {σ1 σ2 τ1 τ2 : zS} {m0 x0 : Nat} {Q : Nat → zCo → (Nat → Int32) → Prop} {V : zWh} {ps pc sl rv sh cd : Nat}
/-- a deed behind copies -/
theorem zDoes2 {L : List Nat} {kd : Nat → Nat} {σ : zS} (hJ : zJ κ L kd σ) (hm : zT L kd m0 11) {u : Nat} (hu : (σ.1 m0 57).toInt = u) (hu2 : u ≤ 40) {p v : Int32} {k : Nat} (hp : p.toInt = k) (hk : k < 50) : zDone σ m0 u (updR (rC σ.1 (mR σ m0 48) 0) k v) (F_X11_does m0 p v (F_X11_copies m0 σ)) := by
  obtain ⟨-, c3⟩ := zCopies3 hJ hm (τ := σ) rfl
  have hS : ([49, 54, 52, 53, 45, 46, 55] : List Nat).all (fun t => zf 0 11 t == some (100 + t)) = true := by rfl
  have r48 : (F_X11_copies m0 σ).1 (mR σ m0 48) = σ.1 (mR σ m0 48) := zFm.row hJ hm c3 (s := 48) (by rfl) hS (by rfl)
  obtain ⟨d2, d3⟩ := zCopies3 hJ hm (τ := F_X11_copies m0 σ) c3.1
  have en : p.toNatClampNeg = k := by rw [ztn, hp]; rfl
  have c4 := c3.tr d3
  have er : ((F_X11_copies m0 (F_X11_copies m0 σ)).2.2 m0 49).getD 0 = mR σ m0 49 := by rw [c4.rf]
  unfold F_X11_does
  simp only [zlt, er, en]
  refine zDone.of hJ hm hu hu2 (F := [50, 51, 47]) (S := [49, 54, 52, 53, 45, 46, 55]) (c4.w (zFm.s (s := 49) rfl k)) (by rfl) (by rfl) (by rfl) ?_
  funext j
  by_cases hj : j < 50
  · rw [rC_i hj, Nat.zero_add]
    by_cases e : j = k
    · rw [show updR (rC σ.1 (mR σ m0 48) 0) k v j = v from if_pos e, e]
      exact zu_s _ _ _ _
    · rw [show updR (rC σ.1 (mR σ m0 48) 0) k v j = rC σ.1 (mR σ m0 48) 0 j from if_neg e, rC_i hj, Nat.zero_add]
      exact (zu_j _ _ _ _ _ (fun z => e z.symm)).trans ((d2 j hj).trans (by rw [r48]))
  · rw [show updR (rC σ.1 (mR σ m0 48) 0) k v j = rC σ.1 (mR σ m0 48) 0 j from if_neg (by omega)]
    unfold rC
    rw [if_neg hj, if_neg hj]
/-- the reference's side, by what is written -/
theorem zRL.mf {F S : List Nat} (h : zRL Q L1 kd1 x0 m0 V ps pc sl rv sh cd σ1 σ2) (hJ : zJ κ L2 kd2 σ2) (hm : zT L2 kd2 m0 11) (g : zFr (zFm F S m0 σ2.2.2) σ2 τ2) (hS : S.all (fun t => zf 0 11 t == some (100 + t)) = true) (h1 : ([18, 57, 62].all (fun j => !(F.contains j))) = true) (h2 : ([21, 48, 58, 67, 68].all (fun j => !(S.contains j))) = true) : zRL Q L1 kd1 x0 m0 V ps pc sl rv sh cd σ1 τ2 := by
  obtain ⟨hL, hV, N, n, u, ⟨a1, a2, a3, a4, a5, a6, a7, a8, a9⟩, hq, hu, hh⟩ := h
  have f : ∀ j, (j = 18 ∨ j = 57 ∨ j = 62) → τ2.1 m0 j = σ2.1 m0 j := fun j hj => zFm.fld hJ hm g hS (by
    have z := List.all_eq_true.mp h1 j (by rcases hj with rfl | rfl | rfl <;> decide)
    simpa using z)
  have er : ∀ s, mR τ2 m0 s = mR σ2 m0 s := fun s => by rw [mR, g.rf]
  have r : ∀ s, (s = 21 ∨ s = 48 ∨ s = 58 ∨ s = 67 ∨ s = 68) → τ2.1 (mR σ2 m0 s) = σ2.1 (mR σ2 m0 s) := fun s hs => zFm.row hJ hm g (by rcases hs with rfl | rfl | rfl | rfl | rfl <;> rfl) hS (by
    have z := List.all_eq_true.mp h2 s (by rcases hs with rfl | rfl | rfl | rfl | rfl <;> decide)
    simpa using z)
  refine ⟨hL, hV, N, n, u, ⟨a1, ?_, a3, a4, a5, a6, a7, by rw [f 57 (by omega)]; exact a8, by rw [f 62 (by omega)]; exact a9⟩, ?_, fun i hi => ?_, fun s hs => ?_⟩
  · rw [← a2]
    unfold zM zp
    rw [f 18 (by omega)]
    show (τ2.1 (mR τ2 m0 21) _).toInt = (σ2.1 (mR σ2 m0 21) _).toInt
    rw [er, r 21 (by omega)]
  · rw [er, rC_e (g := σ2.1) (r' := mR σ2 m0 48) (o' := 0) (fun j _ => by rw [r 48 (by omega)])]; exact hq
  · rw [er, rC_e (g := σ2.1) (r' := mR σ2 m0 58) (o' := 50 * (u - 1 - i)) (fun j _ => by rw [r 58 (by omega)])]; exact hu i hi
  · rw [er, er, r 67 (by omega), rC_e (g := σ2.1) (r' := mR σ2 m0 68) (o' := 50 * s) (fun j _ => by rw [r 68 (by omega)])]; exact hh s hs
/-- the class' row leads where the reference's does -/
theorem zRL.rows (hG : zGd Q) (h : zRL Q L1 kd1 x0 m0 V ps pc sl rv sh cd σ1 σ2) (hg : gN m0 σ2) {N : Nat} (hM : zM m0 σ2 = N) (hN : N ≤ 12) : zRow N (σ2.1 (mR σ2 m0 48)) ∧ zRow N (σ1.1 (V.2.1 0)) ∧ ∀ c, 1 ≤ c → c < N → σ1.1 (V.2.1 0) c = σ2.1 (mR σ2 m0 48) c := by
  obtain ⟨hL, hV, N', n, u, ⟨a1, a2, a3, a4, a5, a6, a7, a8, a9⟩, hq, hu, hh⟩ := h
  have q0 := (hG.1 _ _ _ hq).1
  obtain rfl : N' = N := by omega
  have hr := zRow.of hg hM hN
  have e : ∀ c, 1 ≤ c → c < N' → σ1.1 (V.2.1 0) c = σ2.1 (mR σ2 m0 48) c := fun c c1 c2 => by
    have z := q0 c c1 c2
    rw [rC_i (by omega), Nat.zero_add] at z
    rw [← z]
    show _ = zt12 (σ1.1 (V.2.1 0)) c
    exact (if_pos (by omega)).symm
  exact ⟨hr, hr.cg e, e⟩
theorem zRL.turn {v1 v2 p q : Int32} (hG : zGd Q) (h : zRL Q L1 kd1 x0 m0 V ps pc sl rv sh cd σ1 σ2) (hx : zT L1 kd1 x0 10) (hI : zI κ 0 L1 kd1 σ1) (hJ : zJ κ L2 kd2 σ2) (hm : zT L2 kd2 m0 11) (hg : gN m0 σ2) (f1 : (v1, τ1) = F_X10_turn x0 p q σ1) (f2 : (v2, τ2) = F_X11_turn m0 p q σ2) : v1.toInt = v2.toInt ∧ zRL Q L1 kd1 x0 m0 V ps pc sl rv sh cd τ1 τ2 := by
  obtain ⟨hL, hV, N, n, u, ⟨a1, a2, a3, a4, a5, a6, a7, a8, a9⟩, hq, hu, hh⟩ := id h
  obtain ⟨r2, r1, re⟩ := h.rows hG hg a2 a3
  obtain ⟨m1, m2⟩ := cTurnOk (p := p) (q := q) hL a1 a3 r1
  have m3 := mTurnOk (p := p) (q := q) hJ hm a2 a3 r2
  have m4 : zTu N (σ1.1 (V.2.1 0)) p q ↔ zTu N (σ2.1 (mR σ2 m0 48)) p q := zTu.cg r2 re
  have g6 : (σ1.2.2 x0 6).getD 0 = V.1 0 := xnw hL
  have g4 : (σ1.2.2 x0 4).getD 0 = ps := by rw [hL.1.2.2.2.1]; rfl
  obtain ⟨-, c3⟩ := zCopies3 hJ hm (τ := σ2) rfl
  unfold F_X10_turn at f1
  unfold F_X11_turn at f2
  simp only [zlt, zlt2, m1, g6, g4] at f1 f2
  by_cases c : zTu N (σ1.1 (V.2.1 0)) p q
  · rw [if_neg (fun z => m2.mp z c)] at f1
    rw [if_neg (fun z => m3.mp z (m4.mp c))] at f2
    obtain ⟨c1, c2, -⟩ := id c
    obtain ⟨k, hk⟩ : ∃ k : Nat, p.toInt = k := ⟨p.toInt.toNat, by omega⟩
    have nk : p.toNatClampNeg = k := by rw [ztn, hk]; rfl
    obtain ⟨s, e', p2, -⟩ := zPush hL (k := 0) (by decide) a4 a5 a6 a7
    have g6' : ((F_X4_push ps (V.1 0) σ1).2.2 x0 6).getD 0 = V.1 0 := by rw [e', p2]; exact g6
    have g0' : ((F_X4_push ps (V.1 0) σ1).2.2 (V.1 0) 0).getD 0 = V.2.1 0 := by rw [e', p2]; exact (hL.gA (k := 0) (by decide)).1
    rw [g6', g0', nk] at f1
    have t1 : τ1 = (zu (F_X4_push ps (V.1 0) σ1).1 (V.2.1 0) k q, (F_X4_push ps (V.1 0) σ1).2) := congrArg Prod.snd f1
    have t2 : τ2 = F_X11_does m0 p q (F_X11_copies m0 σ2) := congrArg Prod.snd f2
    refine ⟨by rw [show v1 = 1 from congrArg Prod.fst f1, show v2 = 1 from congrArg Prod.fst f2], h.act1 hx hI (Or.inr rfl) t1 (fun u' b1 b2 => by rw [t2]; exact zDoes2 hJ hm b1 b2 hk (by omega)) (fun N' b1 b2 b3 f hf => ?_)⟩
    obtain rfl : N' = N := by omega
    rw [zcc_i hL (by omega), hf]
    exact hG.2.2.2 N' _ _ k q (by omega) (by omega) b2 b3
  · rw [if_pos (m2.mpr c)] at f1
    rw [if_pos (m3.mpr (fun z => c (m4.mpr z)))] at f2
    cases f1
    obtain ⟨w2, t2⟩ := zPr2 f2
    refine ⟨by rw [w2], ?_⟩
    rw [t2]
    exact h.mf hJ hm c3 (by rfl) (by rfl) (by rfl)
end ZREL14
