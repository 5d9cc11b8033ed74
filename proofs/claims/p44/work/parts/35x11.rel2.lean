section ZREL2
variable {κ k : Int} {L1 : List Nat} {kd1 : Nat → Nat} {L2 : List Nat} {kd2 : Nat → Nat} {σ1 σ2 τ1 τ2 : zS} {Wk Wr Wf Wa : List Nat} {m0 x0 : Nat} {Q : Nat → zCo → (Nat → Int32) → Prop} {V : zWh} {ps pc sl rv sh cd : Nat}
/-- a deed: what was is kept on both sides, then now is another -/
theorem zRL.act (h : zRL Q L1 kd1 x0 m0 V ps pc sl rv sh cd σ1 σ2) (hx : zT L1 kd1 x0 10) (hI : zI κ 0 L1 kd1 σ1) (hr : ∀ a ∈ L1, kd1 a ≠ 5 → τ1.2.2 a = σ1.2.2 a) (hr5 : ∀ a ∈ L1, kd1 a = 5 → ∀ j, j ≠ 5 → j ≠ 6 → τ1.2.2 a j = σ1.2.2 a j) (hi : ∀ a ∈ L1, kd1 a = 2 ∨ kd1 a = 9 ∨ kd1 a = 10 → τ1.1 a = σ1.1 a) (hps : τ1.1 ps = (F_X4_push ps (V.1 0) σ1).1 ps) (hc : ∀ k, k < 45 → k ≠ 0 → k ≠ 1 → zcc V τ1.1 k = zcc V (F_X4_push ps (V.1 0) σ1).1 k) {now' : Nat → Int32} (hD : ∀ u : Nat, (σ2.1 m0 57).toInt = u → u ≤ 40 → zDone σ2 m0 u now' τ2) (hQ : ∀ N : Nat, (σ1.1 ((σ1.2.2 x0 10).getD 0) 0).toInt = N → zM m0 σ2 = N → N ≤ 12 → Q N (zcc V σ1.1 0) (rC σ2.1 (mR σ2 m0 48) 0) → Q N (zcc V τ1.1 0) now') : zRL Q L1 kd1 x0 m0 V ps pc sl rv sh cd τ1 τ2 := by
  obtain ⟨hL, hV, N, n, u, ⟨a1, a2, a3, a4, a5, a6, a7, a8, a9⟩, hq, hu, hh⟩ := h
  obtain ⟨σ', e', p2, p3, p4, p5, p6, p7⟩ := zPush hL (k := 0) (by decide) a4 a5 a6 a7
  rw [e'] at hps hc
  obtain ⟨d0, d1, d2, d3, d4, d5, d6, d7, d8, d9⟩ := hD u a8 a7
  have er : ∀ s, mR τ2 m0 s = mR σ2 m0 s := fun s => by rw [mR, d0]
  have rx : τ1.2.2 x0 = σ1.2.2 x0 := hr x0 hx.1 (by rw [hx.2]; decide)
  obtain ⟨td, t1, t2⟩ := zi_ref (j := 10) (k2 := 9) hI hx (by rfl)
  obtain ⟨dy, y1, y2⟩ := zi_ref (j := 5) (k2 := 2) hI hx (by rfl)
  have gd : (σ1.2.2 x0 10).getD 0 = td := by rw [t1]; rfl
  have gy : (σ1.2.2 x0 5).getD 0 = dy := by rw [y1]; rfl
  have ix : τ1.1 x0 = σ1.1 x0 := hi x0 hx.1 (by rw [hx.2]; decide)
  -- the layout
  have hL' : zLay L1 kd1 x0 τ1.2.2 V ps pc sl := hL.keep (fun a ha hk => hr a ha (by omega)) (fun j _ => by rw [rx])
  have hV' : zRv L1 kd1 x0 rv sh cd τ1.2.2 := by
    obtain ⟨⟨b1, b2, b3, b4⟩, ⟨t0, t1, t2, t3⟩, b, c, d, e, f⟩ := hV
    have rr : ∀ j, j ≠ 5 → j ≠ 6 → τ1.2.2 rv j = σ1.2.2 rv j := hr5 rv t1.1 t1.2
    have rs : τ1.2.2 sh = σ1.2.2 sh := hr sh t2.1 (by rw [t2.2]; decide)
    have rc : τ1.2.2 cd = σ1.2.2 cd := hr cd t3.1 (by rw [t3.2]; decide)
    exact ⟨⟨by rw [rx]; exact b1, by rw [rx]; exact b2, by rw [rr 0 (by decide) (by decide)]; exact b3, by rw [rr 1 (by decide) (by decide)]; exact b4⟩, ⟨t0, t1, t2, t3⟩, fun j hj => by rw [rr j (by omega) (by omega)]; exact b j hj, fun j hj => by rw [rc]; exact c j hj, fun j h1 h2 => by rw [rs]; exact d j h1 h2, by rw [rx]; exact e, by rw [rx]; exact f⟩
  refine ⟨hL', hV', N, (n + 1) % 40, if u = 40 then 40 else u + 1, ⟨?_, ?_, a3, by rw [hps]; exact p5, by omega, by rw [hps]; exact p6, by split <;> omega, d1, ?_⟩, ?_, fun i hi' => ?_, fun s hs => ?_⟩
  · rw [rx, gd, hi td t2.1 (by rw [t2.2]; decide), ← gd]; exact a1
  · rw [← a2]
    unfold zM zp
    rw [d5]
    show (τ2.1 (mR τ2 m0 21) _).toInt = (σ2.1 (mR σ2 m0 21) _).toInt
    rw [er, d7]
  · rw [rx, gy, hi dy y2.1 (by rw [y2.2]; decide), ← gy, d6]; exact a9
  · rw [er, d2]; exact hQ N a1 a2 a3 hq
  · rw [er]
    by_cases c0 : i = 0
    · subst c0
      have e1 : 5 + ((n + 1) % 40 + 39 - 0) % 40 = 5 + n := by omega
      have e2 : 50 * ((if u = 40 then 40 else u + 1) - 1 - 0) = 50 * (if u = 40 then 39 else u) := by split <;> omega
      rw [e1, e2, d3, hc _ (by omega) (by omega) (by omega), p3]
      exact hq
    · have e1 : 5 + ((n + 1) % 40 + 39 - i) % 40 = 5 + (n + 39 - (i - 1)) % 40 := by
        have h40 : (if u = 40 then 40 else u + 1) ≤ 40 := by split <;> omega
        have : i ≤ 39 := by omega
        omega
      have hi2 : i - 1 < (if u = 40 then 39 else u) := by
        by_cases c : u = 40
        · rw [if_pos c] at hi' ⊢; omega
        · rw [if_neg c] at hi' ⊢; omega
      have hi3 : i - 1 < u := by
        by_cases c : u = 40
        · rw [if_pos c] at hi2; omega
        · rw [if_neg c] at hi2; exact hi2
      have e2 : (if u = 40 then 40 else u + 1) - 1 - i = (if u = 40 then 39 else u) - 1 - (i - 1) := by split <;> omega
      have e3 : (if u = 40 then (if u = 40 then 39 else u) - 1 - (i - 1) + 1 else (if u = 40 then 39 else u) - 1 - (i - 1)) = u - 1 - (i - 1) := by
        by_cases c : u = 40
        · rw [if_pos c, if_pos c]; rw [if_pos c] at hi2; omega
        · rw [if_neg c, if_neg c]
      have hne : 5 + (n + 39 - (i - 1)) % 40 ≠ 5 + n := by
        by_cases c : u = 40
        · rw [if_pos c] at hi2; omega
        · rw [if_neg c] at hi2; omega
      rw [e1, e2, d4 _ (by omega), e3, hc _ (by omega) (by omega) (by omega), p4 _ (by omega) hne]
      exact hu (i - 1) hi3
  · have hs' := hh s hs
    have e1 : zcc V τ1.1 (2 + s) = zcc V σ1.1 (2 + s) := by rw [hc _ (by omega) (by omega) (by omega), p4 _ (by omega) (by omega)]
    rw [er, er, d8, ix, e1, rC_e (g := σ2.1) (r' := mR σ2 m0 68) (o' := 50 * s) (fun j _ => by rw [d9])]
    exact hs'
end ZREL2
