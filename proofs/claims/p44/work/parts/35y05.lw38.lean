/-! WHAT STANDS AT FIRST: both rivers formed -/
/-- courses against rows, whole: with what was won and the money -/
def zQw (N : Nat) (c : zCo) (r : Nat → Int32) : Prop := zQ0 N c r ∧ (∀ p, p < N → c.2.1 p = r (24 + p) ∧ c.2.2.1 p = r (36 + p) ∧ 0 ≤ (c.2.1 p).toInt ∧ (c.2.1 p).toInt ≤ 999) ∧ (0 < N → (bt c.2.2.2.1 0 = false ∧ r 12 = 0) ∧ (c.2.2.1 0 = 0 ∧ r 36 = 0) ∧ r 0 = -2)
theorem zQw.z {c : zCo} {r : Nat → Int32} (h : zQ0 0 c r) : zQw 0 c r := ⟨h, fun p hp => absurd hp (by omega), fun hN => absurd hN (by omega)⟩
theorem zGd.q1 : zGd zQw := by
  obtain ⟨g0, g1, g2, g3⟩ := zGd.q0
  have U : ∀ (N : Nat) (c : zCo) (r : Nat → Int32) (k : Nat) (v : Int32), N ≤ 12 → 1 ≤ k → (k < 24 ∨ k = 49) → ((∀ p, p < N → c.2.1 p = r (24 + p) ∧ c.2.2.1 p = r (36 + p) ∧ 0 ≤ (c.2.1 p).toInt ∧ (c.2.1 p).toInt ≤ 999) → ∀ p, p < N → c.2.1 p = updR r k v (24 + p) ∧ c.2.2.1 p = updR r k v (36 + p) ∧ 0 ≤ (c.2.1 p).toInt ∧ (c.2.1 p).toInt ≤ 999) ∧ updR r k v 0 = r 0 ∧ (k ≠ 12 → updR r k v 12 = r 12) ∧ updR r k v 36 = r 36 := fun N c r k v h12 k1 hk => by
    refine ⟨fun h p hp => ?_, if_neg (by omega), fun n => if_neg (fun z => n z.symm), if_neg (by omega)⟩
    have e1 : updR r k v (24 + p) = r (24 + p) := if_neg (by omega)
    have e2 : updR r k v (36 + p) = r (36 + p) := if_neg (by omega)
    rw [e1, e2]
    exact h p hp
  refine ⟨fun _ _ _ h => h.1, fun N c r p h12 h => ?_, fun N c r k b h1 h2 h12 hb h => ?_, fun N c r k v h1 h2 h12 h => ?_⟩
  · obtain ⟨u1, u2, u3, u4⟩ := U N c r 49 p h12 (by decide) (Or.inr rfl)
    refine ⟨g1 N c r p h12 h.1, u1 h.2.1, fun hN => ?_⟩
    obtain ⟨⟨x1, x2⟩, ⟨x3, x4⟩, x5⟩ := h.2.2 hN
    exact ⟨⟨x1, (u3 (by decide)).trans x2⟩, ⟨x3, u4.trans x4⟩, u2.trans x5⟩
  · obtain ⟨u1, u2, u3, u4⟩ := U N c r (12 + k) (if bt c.2.2.2.1 k = true then 0 else 1) h12 (by omega) (Or.inl (by omega))
    refine ⟨g2 N c r k b h1 h2 h12 hb h.1, u1 h.2.1, fun hN => ?_⟩
    obtain ⟨⟨x1, x2⟩, ⟨x3, x4⟩, x5⟩ := h.2.2 hN
    refine ⟨⟨?_, (u3 (by omega)).trans x2⟩, ⟨x3, u4.trans x4⟩, u2.trans x5⟩
    show bt (c.2.2.2.1 ^^^ b) 0 = false
    rw [b_xor, hb 0 (by decide), x1, decide_eq_false (by omega)]
    rfl
  · by_cases e : k = 12
    · omega
    · obtain ⟨u1, u2, u3, u4⟩ := U N c r k v h12 h1 (Or.inl (by omega))
      refine ⟨g3 N c r k v h1 h2 h12 h.1, u1 h.2.1, fun hN => ?_⟩
      obtain ⟨⟨x1, x2⟩, ⟨x3, x4⟩, x5⟩ := h.2.2 hN
      exact ⟨⟨x1, (u3 e).trans x2⟩, ⟨x3, u4.trans x4⟩, u2.trans x5⟩
section MONO
variable {L1 : List Nat} {kd1 : Nat → Nat} {σ1 σ2 : zS} {m0 x0 : Nat} {Q Q' : Nat → zCo → (Nat → Int32) → Prop} {V : zWh} {ps pc sl rv sh cd : Nat}
theorem zRL.mono (h : zRL Q L1 kd1 x0 m0 V ps pc sl rv sh cd σ1 σ2) (hQ : ∀ N c r, Q N c r → Q' N c r) : zRL Q' L1 kd1 x0 m0 V ps pc sl rv sh cd σ1 σ2 := by
  obtain ⟨hL, hV, N, n, u, hn, hq, hu, hh⟩ := h
  refine ⟨hL, hV, N, n, u, hn, hQ _ _ _ hq, fun i hi => hQ _ _ _ (hu i hi), fun s hs => ?_⟩
  rcases hh s hs with ⟨a, b, c⟩ | c
  · exact Or.inl ⟨a, b, hQ _ _ _ c⟩
  · exact Or.inr c
/-- nowhere: no more is asked -/
theorem zRL.mono0 (h : zRL zQ0 L1 kd1 x0 m0 V ps pc sl rv sh cd σ1 σ2) (z : zM m0 σ2 = 0) : zRL zQw L1 kd1 x0 m0 V ps pc sl rv sh cd σ1 σ2 := by
  obtain ⟨hL, hV, N, n, u, hn, hq, hu, hh⟩ := h
  have eN : N = 0 := by
    have := hn.2.1
    omega
  subst eN
  refine ⟨hL, hV, 0, n, u, hn, zQw.z hq, fun i hi => zQw.z (hu i hi), fun s hs => ?_⟩
  rcases hh s hs with ⟨a, b, c⟩ | c
  · exact Or.inl ⟨a, b, zQw.z c⟩
  · exact Or.inr c
end MONO
theorem zFr.sy {A : Nat → Nat → Prop} {s t : zS} (f : zFr A s t) : zFr A t s := ⟨f.1.symm, fun c j n => (f.2 c j n).symm⟩
section STANDS
variable {κ : Int} {L1 : List Nat} {kd1 : Nat → Nat} {L2 : List Nat} {kd2 : Nat → Nat} {σ1 σ2 s0 : zS} {m0 x0 : Nat} {Q : Nat → zCo → (Nat → Int32) → Prop} {V : zWh} {ps pc sl rv sh cd k : Nat}
theorem zSd.of0 (hG : zGd Q) (hQ : ∀ N c r, Q N c r → zQw N c r) (h : zRL Q L1 kd1 x0 m0 V ps pc sl rv sh cd σ1 σ2) (hw : 0 < zM m0 σ2 → zLw x0 m0 σ1 σ2) (hl : zLen x0 m0 σ1 σ2) (hx : zT L1 kd1 x0 10) (hI : zI κ 0 L1 kd1 σ1) (hJ : zJ κ L2 kd2 σ2) (hm : zT L2 kd2 m0 11) (hg : gN m0 σ2) (gr : ∀ a j, ¬ (a = rv ∧ (j = 5 ∨ j = 6)) → s0.2.2 a j = σ1.2.2 a j) (he : ∀ c kc, zT L1 kd1 c kc → (kc = 9 ∨ (46 ≤ kc ∧ kc ≤ 51)) → s0.1 c = σ1.1 c) (hk : k < 45) (hcI : ∀ p, p < 12 → s0.1 (V.2.1 k) p = σ1.1 (V.2.1 0) p) (hcD : s0.1 (V.1 k) 3 = σ1.1 (V.1 0) 3) : ∃ (td B N : Nat) (gl : zGl) (u l : Nat → Nat) (q Y : Nat → Nat) (w t : zS), (q = qOf σ1.2.2 rv sh cd td V k ∧ Y = mR σ2 m0 ∧ w = F_X5_form rv td (V.1 k) s0 ∧ t = F_X11_copies m0 σ2) ∧ σ1.2.2 x0 10 = some td ∧ zM m0 σ2 = N ∧ zSd q Y m0 B N gl u l w t ∧ (∀ i, (i = 3 ∨ i = 4 ∨ i = 20 ∨ i = 21) → w.1 (q i) = s0.1 (q i)) ∧ (∀ j, j < 50 → t.1 (Y 49) j = σ2.1 (mR σ2 m0 48) j) ∧ (0 < N → zSo q Y B w t) ∧ (0 < N → t.1 m0 50 = σ1.1 td 13) ∧ (t.1 m0 51).toInt = 0 ∧ (zDn q Y N w t → ∀ p, p < N → (F_X5_fall (q 0) 0 w).1 (q 6) p = t.1 (Y 55) p) := by
  have g : zPv L1 kd1 V rv σ1 (σ1.1, s0.2) := ⟨gr, fun _ _ => rfl⟩
  obtain ⟨N, u, FR, SR, ℓ, l0, ⟨n1, n2, n3, n4⟩, ⟨F0, S0, hF, hS, hℓ⟩, hb, -, hM⟩ := h.lk hG hl hx hI hJ hm hg
  obtain ⟨hL, hV, N', n, uu, ⟨a1, a2, a3, -⟩, hq, -⟩ := id h
  obtain rfl : N' = N := by omega
  obtain ⟨td, d1, d2⟩ := zi_ref (j := 10) (k2 := 9) hI hx (by rfl)
  have gd : (σ1.2.2 x0 10).getD 0 = td := by rw [d1]; rfl
  have tr := zTt_k hI d2
  obtain ⟨B, w2⟩ : ∃ B, (σ2.1 m0 18).toInt.toNat = B := ⟨_, rfl⟩
  have hw' : ∃ (gl : zGl) (K : Nat), 0 < N' → ((σ1.1 td 8).toInt = K ∧ K ≤ 420) ∧ (∀ k, k < 5 → zLc ((σ1.2.2 td 6).getD 0) ((σ1.2.2 td 7).getD 0) ((σ1.2.2 td 9).getD 0) σ1 K k (gl k) ∧ zLm (mR σ2 m0) (420 * B) (130 * B) σ2 (420 * B + 420) (130 * B + 130) (5 * B + k) (gl k)) ∧ (∀ j p : Nat, 3 ≤ j → j ≤ 5 → (p : Int) < zM m0 σ2 → σ1.1 ((σ1.2.2 td j).getD 0) p = σ2.1 (mR σ2 m0 (20 + j)) (12 * B + p)) ∧ (∀ j : Nat, j < 4 → σ1.1 td (10 + j) = σ2.1 (mR σ2 m0 (26 + j)) B) ∧ 0 ≤ (σ1.1 td 11).toInt ∧ (σ1.1 td 11).toInt ≤ 99 := by
    by_cases z : 0 < N'
    · obtain ⟨td', B', K, gl, w1, w2', w3, w4, w5, w6, w7, w8⟩ := hw (by omega)
      have et' : td' = td := by rw [← w1, gd]
      have eB' : B' = B := by rw [← w2', w2]
      rw [et', eB'] at w4
      rw [et'] at w3 w5 w6 w7 w8
      rw [eB'] at w5 w6
      exact ⟨gl, K, fun _ => ⟨w3, w4, w5, w6, w7, w8⟩⟩
    · exact ⟨fun _ => none, 0, fun y => absurd y z⟩
  obtain ⟨gl, K, hw'⟩ := hw'
  obtain ⟨td', etd⟩ : ∃ td', td' = td := ⟨td, rfl⟩
  subst etd
  have w5 : ∀ j p : Nat, 3 ≤ j → j ≤ 5 → p < N' → σ1.1 ((σ1.2.2 td' j).getD 0) p = σ2.1 (mR σ2 m0 (20 + j)) (12 * B + p) := fun j p j1 j2 hp => by
    obtain ⟨-, -, x, -⟩ := hw' (by omega)
    exact x j p j1 j2 (by omega)
  have r18 : 0 ≤ (σ2.1 m0 18).toInt ∧ (σ2.1 m0 18).toInt ≤ 1 := zj_get (j := 18) hJ hm (lo := 0) (hi := 1) (by rfl)
  have hB : (σ2.1 m0 18).toInt = B := by omega
  have hB1 : B ≤ 1 := by omega
  have nB : (σ2.1 m0 18).toNatClampNeg = B := by rw [ztn, hB]; rfl
  rw [w2] at hb
  rw [gd] at a1
  have t1 : zT L1 kd1 rv 5 := hV.2.1.2.1
  have t2 : zT L1 kd1 sh 6 := hV.2.1.2.2.1
  have ntd : td' ≠ rv := zNk d2 t1 (by decide)
  have nsh : sh ≠ rv := zNk t2 t1 (by decide)
  have hL0 : zLay L1 kd1 x0 s0.2.2 V ps pc sl := zLay.pv (s := (σ1.1, s0.2)) hL t1 g
  have hV0 : zRv L1 kd1 x0 rv sh cd s0.2.2 := zRv.keep (s := (σ1.1, s0.2)) hV g
  have et : ∀ j, s0.2.2 td' j = σ1.2.2 td' j := fun j => g.1 td' j (fun z => ntd z.1)
  have es : ∀ j, s0.2.2 sh j = σ1.2.2 sh j := fun j => g.1 sh j (fun z => nsh z.1)
  have tl0 : zT L1 kd1 ((s0.2.2 td' 3).getD 0) 46 := by rw [et]; exact tr 3 (by decide) (by decide) (by decide)
  have Qk : zQw N' (zcc V σ1.1 0) (rC σ2.1 (mR σ2 m0 48) 0) := hQ _ _ _ hq
  have z22 : ∀ p, p < 12 → (zcc V σ1.1 0).1 p = s0.1 (V.2.1 k) p := fun p hp => (if_pos hp : zt12 _ p = _).trans (hcI p hp).symm
  have rc : ∀ j, j < 50 → rC σ2.1 (mR σ2 m0 48) 0 j = σ2.1 (mR σ2 m0 48) j := fun j hj => by rw [rC_i hj, Nat.zero_add]
  have hu : ∀ c, 1 ≤ c → c < N' → (s0.1 (V.2.1 k) c).toInt = u c := fun c c1 c2 => by
    rw [← z22 c (by omega), Qk.1.1 c c1 c2, rc c (by omega)]
    exact (hb c c1 c2).2
  have h0 : (s0.1 td' 0).toInt = N' := by rw [he td' 9 d2 (by omega)]; exact a1
  have hF' : ∀ c, 1 ≤ c → c < N' → FR c = FR (u c) + s0.1 ((s0.2.2 td' 3).getD 0) c := fun c c1 c2 => by
    rw [et, he _ 46 (tr 3 (by decide) (by decide) (by decide)) (by omega), w5 3 c (by decide) (by decide) (by omega), hF c c1 c2]
    show FR (u c) + ℓ c = FR (u c) + σ2.1 (mR σ2 m0 23) (12 * B + c)
    rw [(hb c c1 c2).1]
  obtain ⟨C1, C2, l, C3⟩ := cFormK hL0 hV0 d2 tl0 hk n1 h0 n4 hu F0 hF'
  rw [es, es, es, es, es] at C3
  obtain ⟨w, hw0⟩ : ∃ w, w = F_X5_form rv td' (V.1 k) s0 := ⟨_, rfl⟩
  obtain ⟨t, ht0⟩ : ∃ t, t = F_X11_copies m0 σ2 := ⟨_, rfl⟩
  rw [← hw0] at C1 C2 C3
  rw [← ht0] at hM
  have hM' := hM
  obtain ⟨m1, m2, m3, m4, m5⟩ := hM'
  obtain ⟨q, hq0⟩ : ∃ q, q = qOf σ1.2.2 rv sh cd td' V k := ⟨_, rfl⟩
  have QR : zQr q w.2.2 := by
    rw [hq0]
    refine zQr.of hL hV d2 tr hk (fun a j n => ?_) ?_ ?_
    · rw [C1]
      by_cases ca : a = rv
      · subst ca
        rw [zu_j _ _ _ _ _ (fun z => n ⟨rfl, Or.inr z.symm⟩), zu_j _ _ _ _ _ (fun z => n ⟨rfl, Or.inl z.symm⟩)]
        exact g.1 _ j n
      · rw [zu_n _ _ _ ca, zu_n _ _ _ ca]
        exact g.1 a j n
    · rw [C1, zu_j _ _ _ _ _ (by decide), zu_s]
    · rw [C1, zu_s]
  have T : ∀ i, i < 22 → zT L1 kd1 (q i) (qK i) := by rw [hq0]; exact qOf.t hL hV d2 tr hk
  have W0 : ∀ i, i < 22 → (i = 3 ∨ i = 4 ∨ (10 ≤ i ∧ i ≤ 15) ∨ 19 ≤ i) → w.1 (q i) = s0.1 (q i) := fun i hi n => funext (fun j => C2 _ j (by
    have ki := (T i hi).2
    unfold zKs
    rw [ki]
    rcases (show i = 3 ∨ i = 4 ∨ i = 10 ∨ i = 11 ∨ i = 12 ∨ i = 13 ∨ i = 14 ∨ i = 15 ∨ i = 19 ∨ i = 20 ∨ i = 21 by omega) with rfl | rfl | rfl | rfl | rfl | rfl | rfl | rfl | rfl | rfl | rfl <;> decide))
  have W1 : ∀ i, (i = 3 ∨ (10 ≤ i ∧ i ≤ 15)) → w.1 (q i) = σ1.1 (q i) := fun i n => (W0 i (by omega) (by omega)).trans (he _ _ (T i (by omega)) (by
    rcases (show i = 3 ∨ i = 10 ∨ i = 11 ∨ i = 12 ∨ i = 13 ∨ i = 14 ∨ i = 15 by omega) with rfl | rfl | rfl | rfl | rfl | rfl | rfl <;> decide))
  have e3 : q 3 = td' := by rw [hq0]; rfl
  have e4 : q 4 = V.1 k := by rw [hq0]; rfl
  have e19 : q 19 = V.2.1 k := by rw [hq0]; rfl
  have e20 : q 20 = V.2.2.1 k := by rw [hq0]; rfl
  have e21 : q 21 = V.2.2.2 k := by rw [hq0]; rfl
  have eT : ∀ i j, (i = 10 ∧ j = 3) ∨ (i = 11 ∧ j = 4) ∨ (i = 12 ∧ j = 5) ∨ (i = 13 ∧ j = 6) ∨ (i = 14 ∧ j = 7) ∨ (i = 15 ∧ j = 9) → q i = (σ1.2.2 td' j).getD 0 := fun i j hij => by
    rw [hq0]
    rcases hij with ⟨rfl, rfl⟩ | ⟨rfl, rfl⟩ | ⟨rfl, rfl⟩ | ⟨rfl, rfl⟩ | ⟨rfl, rfl⟩ | ⟨rfl, rfl⟩ <;> rfl
  have e16 : q 16 = (σ1.2.2 sh 2).getD 0 := by rw [hq0]; rfl
  have e17 : q 17 = (σ1.2.2 sh 3).getD 0 := by rw [hq0]; rfl
  have e18 : q 18 = (σ1.2.2 sh 4).getD 0 := by rw [hq0]; rfl
  have e1q : q 1 = sh := by rw [hq0]; rfl
  obtain ⟨c1, c2, c3, c4⟩ := id C3
  have hY : zYm (mR σ2 m0) m0 σ2.2.2 := zYm.of hJ hm
  have hY' : zYm (mR σ2 m0) m0 t.2.2 := by rw [m1]; exact hY
  have f18 : t.1 m0 18 = σ2.1 m0 18 := zFm.fld hJ hm m5 (j := 18) (by rfl) (by rfl)
  have rows : ∀ j, (j = 21 ∨ (23 ≤ j ∧ j ≤ 31) ∨ (33 ≤ j ∧ j ≤ 37) ∨ j = 39 ∨ j = 40) → t.1 (mR σ2 m0 j) = σ2.1 (mR σ2 m0 j) := fun j hj => by
    refine zFm.row hJ hm m5 (zYj_k (by unfold zYj; omega)).1 (by rfl) ?_
    rcases (show j = 21 ∨ j = 23 ∨ j = 24 ∨ j = 25 ∨ j = 26 ∨ j = 27 ∨ j = 28 ∨ j = 29 ∨ j = 30 ∨ j = 31 ∨ j = 33 ∨ j = 34 ∨ j = 35 ∨ j = 36 ∨ j = 37 ∨ j = 39 ∨ j = 40 by omega) with rfl | rfl | rfl | rfl | rfl | rfl | rfl | rfl | rfl | rfl | rfl | rfl | rfl | rfl | rfl | rfl | rfl <;> rfl
  have L5 : 0 < N' → zL5 q w gl := fun hN => by
   obtain ⟨⟨w3, w3'⟩, w4, -⟩ := hw' hN
   exact ⟨K, by rw [W1 3 (by omega), e3]; exact w3, w3', fun v hv => by
    rw [eT 13 6 (by omega), eT 14 7 (by omega), eT 15 9 (by omega)]
    exact (w4 v hv).1.cg (by rw [← eT 13 6 (by omega)]; exact W1 13 (by omega)) (by rw [← eT 14 7 (by omega)]; exact W1 14 (by omega)) (by rw [← eT 15 9 (by omega)]; exact W1 15 (by omega))⟩
  have W5 : 0 < N' → zW5 (mR σ2 m0) B t gl := fun hN v hv => by
   obtain ⟨-, w4, -⟩ := hw' hN
   exact ⟨(w4 v hv).2.cg (Nat.le_refl _) (Nat.le_refl _) (fun i _ _ => ⟨by rw [rows 39 (by omega)], by rw [rows 40 (by omega)]⟩) (fun j i j1 j2 _ _ => by rw [rows j (by omega)]) (by rw [rows 30 (by omega)]) (by rw [rows 31 (by omega)]), (w4 v hv).1.1⟩
  have S : zSd q (mR σ2 m0) m0 B N' gl u l w t := by
    refine ⟨⟨QR, L5, by rw [e1q]; exact c1, n1, n4, fun c c1 c2 => by rw [W0 19 (by decide) (by omega), e19]; exact hu c c1 c2, by rw [e16]; exact c2.p, fun x => ?_⟩, ⟨hY', by rw [f18]; exact hB, hB1, W5, by rw [mMany_g hJ hm m5 (by rfl) (by rfl) (by rfl)]; exact n2, fun c c1 c2 => by rw [m4 c (by omega)]; exact (hb c c1 c2).2, fun c hc => ?_, fun x => mIsS hM hJ hm n2 n1⟩, fun p hp => ⟨?_, ?_, ?_, ?_, ?_⟩, fun c c1 c2 => ?_, ?_⟩
    · rw [e1q]
      exact (cIsS C3 (by
        have := QR.1.2.2.2.1.2.2
        rw [e1q, e18] at this
        exact this)).2
    · rw [(m3 c hc).2]
      have a := sr_d n4 n1 S0 hS c hc
      have b := (dep_b n4 c hc).1
      omega
    · rw [W1 11 (by omega), eT 11 4 (by omega), rows 24 (by omega)]
      exact w5 4 p (by decide) (by decide) (by omega)
    · rw [e17, c2.2.1 p hp, (m3 p hp).1]
    · rw [W1 12 (by omega), eT 12 5 (by omega), rows 25 (by omega)]
      exact w5 5 p (by decide) (by decide) (by omega)
    · rw [W1 10 (by omega), eT 10 3 (by omega), rows 23 (by omega)]
      exact w5 3 p (by decide) (by decide) (by omega)
    · have a := c3 p hp
      rw [← e18] at a
      have b : (F_X11_bits (t.1 (mR σ2 m0 54) p)).toInt = cnt (fun j => An u p j) N' := by
        rw [bitM, cnt_ext (N := N') 12 n1 (fun j j1 j2 z => by
          have := ((m2 p j hp (by omega)).mp z).1
          omega)]
        exact congrArg _ (cnt_cg N' (fun j hj => ⟨fun z => ((m2 p j hp (by omega)).mp z).2, fun z => (m2 p j hp (by omega)).mpr ⟨hj, z⟩⟩))
      have cl := cnt_le (P := fun j => An u p j) N'
      have c0 : 0 < cnt (fun j => An u p j) N' := cnt_p N' hp An_rf
      have o1 : (1 : Int32).toInt = 1 := by decide
      refine Int32.toInt_inj.mp ?_
      rw [zb_sub (by rw [o1]; omega) (by rw [o1]; omega), o1]
      omega
    · have np := pI_b c (by omega)
      have ed : w.1 (q 4) 3 = (zcc V σ1.1 0).2.2.2.1 := by rw [W0 4 (by decide) (by omega), e4, hcD]; rfl
      unfold dmC dmM
      rw [cHas np.1 (by omega), ed, m4 (12 + c) (by omega), ← rc (12 + c) (by omega)]
      rcases Qk.1.2.1 c c1 c2 with ⟨z1, z2⟩ | ⟨z1, z2⟩
      · rw [z2, z1]
        decide
      · rw [z2, z1]
        decide
    · intro hN
      obtain ⟨-, -, -, w6, -⟩ := hw' hN
      rw [W1 3 (by omega), e3, rows 28 (by omega)]
      exact w6 2 (by decide)
  have So : 0 < N' → zSo q (mR σ2 m0) B w t := fun hN => by
    obtain ⟨-, -, -, w6, w7, w8⟩ := hw' hN
    unfold zSo
    rw [W1 3 (by omega), e3, rows 26 (by omega), rows 27 (by omega)]
    exact ⟨w6 0 (by decide), w6 1 (by decide), w7, w8⟩
  -- the flows as copies leave them
  obtain ⟨y, hy⟩ : ∃ y, y = zCp m0 σ2 σ2 := ⟨_, rfl⟩
  obtain ⟨t', ht'⟩ : ∃ t', t' = F_X11_fillsWays m0 y := ⟨_, rfl⟩
  have tE : t = F_X11_fillsFlows m0 0 t' := by rw [ht0, ht', hy, zCopies hJ hm rfl]
  have yr : y.2.2 = σ2.2.2 := by rw [hy]; rfl
  have gw : zFr (fun c _ => c = mR σ2 m0 54 ∨ c = mR σ2 m0 52 ∨ c = mR σ2 m0 53) y t' := by rw [ht']; exact fr_X11_fillsWays zFr.id (fun _ => Or.inl (by rw [yr])) (fun _ => Or.inr (Or.inl (by rw [yr]))) (fun _ => Or.inr (Or.inr (by rw [yr])))
  have t'r : t'.2.2 = σ2.2.2 := gw.rf.trans yr
  have gf : zFr (zVw (mR σ2 m0) m0) t' t := by rw [tE]; exact fr_X11_fillsFlows zFr.id (fun _ => Or.inr (Or.inl (by rw [t'r]))) (Or.inr (Or.inr (Or.inr ⟨rfl, rfl⟩))) (fun _ => Or.inr (Or.inr (Or.inl (by rw [t'r])))) (fun _ => Or.inl (by rw [t'r]))
  have hY2 : zYm (mR σ2 m0) m0 t'.2.2 := by rw [t'r]; exact hY
  have fld : ∀ j, j ≠ 47 → t.1 m0 j = y.1 m0 j := fun j hj => by
    rw [zVw.fl hY2 gf hj, gw.2 m0 j (by
      rintro (z | z | z)
      · exact (hY.1 54 (by unfold zYj; omega)).2 z.symm
      · exact (hY.1 52 (by unfold zYj; omega)).2 z.symm
      · exact (hY.1 53 (by unfold zYj; omega)).2 z.symm)]
  have f50 : 0 < N' → t.1 m0 50 = σ1.1 td' 13 := fun hN => by
    obtain ⟨-, -, -, w6, -⟩ := hw' hN
    rw [fld 50 (by decide), hy]
    show zu (zu (zcf σ2.1 (mR σ2 m0 49) (mR σ2 m0 48) 0 0 0 50) m0 50 (σ2.1 (mR σ2 m0 29) (σ2.1 m0 18).toNatClampNeg)) m0 51 0 m0 50 = _
    rw [zu_j _ _ _ _ _ (by decide), zu_s, nB]
    exact (w6 3 (by decide)).symm
  have f51 : (t.1 m0 51).toInt = 0 := by
    rw [fld 51 (by decide), hy]
    show (zu (zu (zcf σ2.1 (mR σ2 m0 49) (mR σ2 m0 48) 0 0 0 50) m0 50 (σ2.1 (mR σ2 m0 29) (σ2.1 m0 18).toNatClampNeg)) m0 51 0 m0 51).toInt = _
    rw [zu_s]
    decide
  have S' : zSd q (mR σ2 m0) m0 B N' gl u l w t' := S.fr zFr.id (zVw.up gf.sy)
  refine ⟨td', B, N', gl, u, l, q, mR σ2 m0, w, t, ⟨hq0, rfl, hw0, ht0⟩, d1, n2, S, fun i hi => W0 i (by omega) (by omega), m4, So, f50, f51, fun Dn p hp => ?_⟩
  have Dn' : zDn q (mR σ2 m0) N' w t' := Dn.up2 hY' gf.sy
  have FL := (S'.fall Dn' (m := 0) (by decide) zFr.id zFr.id).2.2.1
  have := FL p hp
  rw [← tE] at this
  exact this

/-- and all of what goes by, where the course is now's -/
theorem zSd.of (hG : zGd Q) (hQ : ∀ N c r, Q N c r → zQw N c r) (h : zRL Q L1 kd1 x0 m0 V ps pc sl rv sh cd σ1 σ2) (hw : 0 < zM m0 σ2 → zLw x0 m0 σ1 σ2) (hl : zLen x0 m0 σ1 σ2) (hx : zT L1 kd1 x0 10) (hI : zI κ 0 L1 kd1 σ1) (hJ : zJ κ L2 kd2 σ2) (hm : zT L2 kd2 m0 11) (hg : gN m0 σ2) (gr : ∀ a j, ¬ (a = rv ∧ (j = 5 ∨ j = 6)) → s0.2.2 a j = σ1.2.2 a j) (he : ∀ c kc, zT L1 kd1 c kc → (kc = 9 ∨ (46 ≤ kc ∧ kc ≤ 51)) → s0.1 c = σ1.1 c) (hk : k < 45) (hc : zcc V s0.1 k = zcc V σ1.1 0) : ∃ (td B N : Nat) (gl : zGl) (u l : Nat → Nat), σ1.2.2 x0 10 = some td ∧ zM m0 σ2 = N ∧ (F_X5_form rv td (V.1 k) s0).1 td = s0.1 td ∧ zMb (qOf σ1.2.2 rv sh cd td V k) (mR σ2 m0) m0 B N gl u l (σ1.1 td 13) (F_X5_form rv td (V.1 k) s0) (F_X11_copies m0 σ2) (F_X5_form rv td (V.1 k) s0) (F_X11_copies m0 σ2) := by
  have hcI : ∀ p, p < 12 → s0.1 (V.2.1 k) p = σ1.1 (V.2.1 0) p := fun p hp => by
    have e := congrArg (fun c : zCo => c.1 p) hc
    have e1 : (zcc V s0.1 k).1 p = s0.1 (V.2.1 k) p := if_pos hp
    have e2 : (zcc V σ1.1 0).1 p = σ1.1 (V.2.1 0) p := if_pos hp
    rw [← e1, ← e2]
    exact e
  have hcD : s0.1 (V.1 k) 3 = σ1.1 (V.1 0) 3 := congrArg (fun c : zCo => c.2.2.2.1) hc
  obtain ⟨td, B, N, gl, u, l, q, Y, w, t, ⟨hq0, hY0, hw0, ht0⟩, d1, n2, S, W, m4, So, f50, f51, FL⟩ := zSd.of0 hG hQ h hw hl hx hI hJ hm hg gr he hk hcI hcD
  obtain ⟨-, -, N', n, uu, ⟨-, a2, a3, -⟩, hq, -⟩ := id h
  obtain rfl : N' = N := by omega
  have Qk : zQw N' (zcc V s0.1 k) (rC σ2.1 (mR σ2 m0 48) 0) := by rw [hc]; exact hQ _ _ _ hq
  have z23 : ∀ p, p < 12 → (zcc V s0.1 k).2.1 p = s0.1 (V.2.2.1 k) p := fun p hp => if_pos hp
  have z24 : ∀ p, p < 12 → (zcc V s0.1 k).2.2.1 p = s0.1 (V.2.2.2 k) p := fun p hp => if_pos hp
  have rc : ∀ j, j < 50 → rC σ2.1 (mR σ2 m0 48) 0 j = σ2.1 (mR σ2 m0 48) j := fun j hj => by rw [rC_i hj, Nat.zero_add]
  have e4 : q 4 = V.1 k := by rw [hq0]; rfl
  have e20 : q 20 = V.2.2.1 k := by rw [hq0]; rfl
  have e21 : q 21 = V.2.2.2 k := by rw [hq0]; rfl
  have Dn : zDn q Y N' w t := by
    have gn := hg.2
    have g49 : zp m0 σ2 48 49 = (σ2.1 (mR σ2 m0 48) 49).toInt := rfl
    have x4 : w.1 (q 4) 4 = σ2.1 (mR σ2 m0 48) 48 := by rw [W 4 (by omega), e4, ← rc 48 (by decide)]; exact Qk.1.2.2.1
    have x5 : w.1 (q 4) 5 = σ2.1 (mR σ2 m0 48) 49 := by rw [W 4 (by omega), e4, ← rc 49 (by decide)]; exact Qk.1.2.2.2
    refine ⟨fun p hp => ?_, by rw [x4, m4 48 (by decide)], by rw [x5, m4 49 (by decide)], by rw [x5]; omega, by rw [x5]; omega⟩
    obtain ⟨y1, y2, y3, y4⟩ := Qk.2.1 p hp
    rw [z23 p (by omega)] at y1 y3 y4
    rw [z24 p (by omega)] at y2
    rw [rc _ (by omega)] at y1 y2
    rw [W 20 (by omega), W 21 (by omega), e20, e21, m4 _ (by omega), m4 _ (by omega)]
    exact ⟨y1, y2, y3, y4⟩
  have e3 : q 3 = td := by rw [hq0]; rfl
  refine ⟨td, B, N', gl, u, l, d1, n2, ?_, ?_⟩
  · have := W 3 (by omega)
    rw [e3] at this
    rw [← hw0]
    exact this
  rw [← hw0, ← ht0, ← hq0, ← hY0]
  exact ⟨S, Dn, So, f51, f50, zFr.id, zFr.id, ⟨rfl, rfl⟩, FL Dn⟩
end STANDS
