/-! ANSWERS OF NOW: loss, part -/
section STANDS
variable {κ : Int} {L1 : List Nat} {kd1 : Nat → Nat} {L2 : List Nat} {kd2 : Nat → Nat} {σ1 σ2 s0 : zS} {m0 x0 : Nat} {Q : Nat → zCo → (Nat → Int32) → Prop} {V : zWh} {ps pc sl rv sh cd k : Nat}
theorem zSd.ofM (hG : zGd Q) (hQ : ∀ N c r, Q N c r → zQw N c r) (h : zRL Q L1 kd1 x0 m0 V ps pc sl rv sh cd σ1 σ2) (hw : 0 < zM m0 σ2 → zLw x0 m0 σ1 σ2) (hl : zLen x0 m0 σ1 σ2) (hx : zT L1 kd1 x0 10) (hI : zI κ 0 L1 kd1 σ1) (hJ : zJ κ L2 kd2 σ2) (hm : zT L2 kd2 m0 11) (hg : gN m0 σ2) {ρ : zS} (hr2 : ρ.2 = σ2.2) (hρ : zFr (zFm [50, 51, 47] [49, 54, 52, 53, 45, 46, 55] m0 σ2.2.2) σ2 ρ) (gr : ∀ a j, ¬ (a = rv ∧ (j = 5 ∨ j = 6)) → s0.2.2 a j = σ1.2.2 a j) (he : ∀ c kc, zT L1 kd1 c kc → (kc = 9 ∨ (46 ≤ kc ∧ kc ≤ 51)) → s0.1 c = σ1.1 c) (hk : k < 45) (hc : zcc V s0.1 k = zcc V σ1.1 0) : ∃ (td B N : Nat) (gl : zGl) (u l : Nat → Nat), σ1.2.2 x0 10 = some td ∧ zM m0 σ2 = N ∧ (F_X5_form rv td (V.1 k) s0).1 td = s0.1 td ∧ zMb (qOf σ1.2.2 rv sh cd td V k) (mR σ2 m0) m0 B N gl u l (σ1.1 td 13) (F_X5_form rv td (V.1 k) s0) (F_X11_copies m0 ρ) (F_X5_form rv td (V.1 k) s0) (F_X11_copies m0 ρ) := by
  have hcI : ∀ p, p < 12 → s0.1 (V.2.1 k) p = σ1.1 (V.2.1 0) p := fun p hp => by
    have e := congrArg (fun c : zCo => c.1 p) hc
    have e1 : (zcc V s0.1 k).1 p = s0.1 (V.2.1 k) p := if_pos hp
    have e2 : (zcc V σ1.1 0).1 p = σ1.1 (V.2.1 0) p := if_pos hp
    rw [← e1, ← e2]
    exact e
  have hcD : s0.1 (V.1 k) 3 = σ1.1 (V.1 0) 3 := congrArg (fun c : zCo => c.2.2.2.1) hc
  obtain ⟨td, B, N, gl, u, l, q, Y, w, t, ⟨hq0, hY0, hw0, ht0⟩, d1, n2, S, W, m4, So, f50, f51, FL⟩ := zSd.ofT hG hQ h hw hl hx hI hJ hm hg hr2 hρ gr he hk hcI hcD
  obtain ⟨-, -, N', n, uu, ⟨-, a2, a3, -⟩, hq, -⟩ := id h
  obtain rfl : N' = N := by omega
  have Qk : zQw N' (zcc V s0.1 k) (rC σ2.1 (mR σ2 m0 48) 0) := by rw [hc]; exact hQ _ _ _ hq
  have z23 : ∀ p, p < 12 → (zcc V s0.1 k).2.1 p = s0.1 (V.2.2.1 k) p := fun p hp => if_pos hp
  have z24 : ∀ p, p < 12 → (zcc V s0.1 k).2.2.1 p = s0.1 (V.2.2.2 k) p := fun p hp => if_pos hp
  have rc : ∀ j, j < 50 → rC σ2.1 (mR σ2 m0 48) 0 j = σ2.1 (mR σ2 m0 48) j := fun j hj => by rw [rC_i hj, Nat.zero_add]
  have e4 : q 4 = V.1 k := by rw [hq0]; rfl
  have e20 : q 20 = V.2.2.1 k := by rw [hq0]; rfl
  have e21 : q 21 = V.2.2.2 k := by rw [hq0]; rfl
  have Dn : zDn q Y N' w t := by
    have gn := hg.2
    have g49 : zp m0 σ2 48 49 = (σ2.1 (mR σ2 m0 48) 49).toInt := rfl
    have x4 : w.1 (q 4) 4 = σ2.1 (mR σ2 m0 48) 48 := by rw [W 4 (by omega), e4, ← rc 48 (by decide)]; exact Qk.1.2.2.1
    have x5 : w.1 (q 4) 5 = σ2.1 (mR σ2 m0 48) 49 := by rw [W 4 (by omega), e4, ← rc 49 (by decide)]; exact Qk.1.2.2.2
    refine ⟨fun p hp => ?_, by rw [x4, m4 48 (by decide)], by rw [x5, m4 49 (by decide)], by rw [x5]; omega, by rw [x5]; omega⟩
    obtain ⟨y1, y2, y3, y4⟩ := Qk.2.1 p hp
    rw [z23 p (by omega)] at y1 y3 y4
    rw [z24 p (by omega)] at y2
    rw [rc _ (by omega)] at y1 y2
    rw [W 20 (by omega), W 21 (by omega), e20, e21, m4 _ (by omega), m4 _ (by omega)]
    exact ⟨y1, y2, y3, y4⟩
  have e3 : q 3 = td := by rw [hq0]; rfl
  refine ⟨td, B, N', gl, u, l, d1, n2, ?_, ?_⟩
  · have := W 3 (by omega)
    rw [e3] at this
    rw [← hw0]
    exact this
  rw [← hw0, ← ht0, ← hq0, ← hY0]
  exact ⟨S, Dn, So, f51, f50, zFr.id, zFr.id, ⟨rfl, rfl⟩, FL Dn⟩
end STANDS
theorem dmC_b {D : Int32} {c : Nat} (hc : c < 13) : dmC D c = bt D c := by
  unfold dmC
  rw [cHas (pI_b c hc).1 (by omega)]
  cases bt D c <;> decide
/-- where the reference tries dams -/
def zD4 (Y : Nat → Nat) : Nat → Nat → Prop := fun c j => c = Y 49 ∧ 12 ≤ j ∧ j < 24
section DAMS
variable {q Y : Nat → Nat} {a b N : Nat} {s1 s t τ : zS} {g : zGl} {u l : Nat → Nat} {mask : Int32}
theorem zD4.r {R : Nat → Nat → Option Nat} (h : zYm Y a R) (f : zFr (zD4 Y) s t) {j : Nat} (hj : zYj j) (n : j ≠ 49) : t.1 (Y j) = s.1 (Y j) := funext (fun i => f.2 (Y j) i (fun z => h.2 j 49 hj (by unfold zYj; omega) n z.1))
theorem zD4.fl {R : Nat → Nat → Option Nat} (h : zYm Y a R) (f : zFr (zD4 Y) s t) (j : Nat) : t.1 a j = s.1 a j := f.2 a j (fun z => (h.1 49 (by unfold zYj; omega)).2 z.1.symm)
theorem zD4.w (f : zFr (zD4 Y) s t) {j : Nat} (n : j < 12 ∨ 24 ≤ j) : t.1 (Y 49) j = s.1 (Y 49) j := f.2 (Y 49) j (fun z => by
  obtain ⟨-, k1, k2⟩ := z
  omega)
theorem fMt.d4 {R : Nat → Nat → Option Nat} (h : zYm Y a R) (f : zFr (zD4 Y) s τ) {p : Nat} (hp : p < 12) {x : Int32} : fMt Y b τ (pI p) x = fMt Y b s (pI p) x := by
  have np := (pI_b p (by omega)).2
  have r24 := zD4.r h f (j := 24) (by unfold zYj; omega) (by decide)
  have r52 := zD4.r h f (j := 52) (by unfold zYj; omega) (by decide)
  have r25 := zD4.r h f (j := 25) (by unfold zYj; omega) (by decide)
  have r23 := zD4.r h f (j := 23) (by unfold zYj; omega) (by decide)
  have r54 := zD4.r h f (j := 54) (by unfold zYj; omega) (by decide)
  have w48 := zD4.w f (j := 48) (by omega)
  have wp := zD4.w f (j := 24 + p) (by omega)
  funext i
  unfold fMt
  rw [np]
  split
  · rw [r24]
  · rw [r52]
  · rw [r25]
  · rw [w48]
  · rfl
  · rw [r23]
  · rw [wp]
  · rfl
  · rw [r54]
theorem zD4.m (h : zYm Y a s.2.2) (f : zFr (zD4 Y) s t) : F_X11_many a t = F_X11_many a s := by
  unfold F_X11_many
  simp only [zlt]
  rw [f.rf, (h.1 21 (by unfold zYj; omega)).1, zD4.fl h f 18, zD4.r h f (j := 21) (by unfold zYj; omega) (by decide)]
theorem mDams (S : zSd q Y a b N g u l s1 s) : ∀ (n : Nat) (x : Int32) (i : Nat) (τ : zS), x.toInt = i → 1 ≤ i → 13 - i < n → zFr (zD4 Y) s τ → (∀ c, 1 ≤ c → c < N → τ.1 (Y 49) (12 + c) = if c < i ∧ bt mask c = true then 1 else s.1 (Y 49) (12 + c)) → ∃ τ', F_X11_damsAll_6 a mask n x τ = F_X11_fillsFlows a 0 τ' ∧ zFr (zD4 Y) s τ' ∧ ∀ c, 1 ≤ c → c < N → τ'.1 (Y 49) (12 + c) = if bt mask c = true then 1 else s.1 (Y 49) (12 + c) := by
  have hN := S.1.2.2.2.1
  have hY := S.2.1.1
  have M := S.2.1.2.2.2.2.1
  have g49 := (hY.1 49 (by unfold zYj; omega)).1
  have e12 : (12 : Int32).toInt = 12 := by decide
  have o1 : (1 : Int32).toInt = 1 := by decide
  intro n
  induction n with
  | zero => intro x i τ _ _ h; exact absurd h (by omega)
  | succ n ih =>
    intro x i τ hx hi hn f hv
    have Mτ := zD4.m hY f
    rw [F_X11_damsAll_6]
    simp only [↓zlt, f.rf, g49, Mτ, o1]
    by_cases c : i < N
    · rw [if_pos (by omega)]
      have x1 := zp1 hx (by omega)
      have ix := ixN (m := 12) (p := x) (M := 12) (P := i) e12 (by decide) hx (by omega)
      have cut := bt_cut (x := mask) hx (by omega)
      by_cases d : bt mask i = true
      · rw [if_pos (cut.2.mpr d), ix]
        have f' : zFr (zD4 Y) s (zu τ.1 (Y 49) (12 + i) 1, τ.2.1, s.2.2) := by
          have k := f.w (r := Y 49) (j := 12 + i) (v := (1 : Int32)) ⟨rfl, by omega, by omega⟩
          rw [f.rf] at k
          exact k
        refine ih _ (i + 1) _ x1 (by omega) (by omega) f' (fun c c1 c2 => ?_)
        show zu τ.1 (Y 49) (12 + i) 1 (Y 49) (12 + c) = _
        by_cases e : c = i
        · rw [e, zu_s, if_pos ⟨by omega, d⟩]
        · rw [zu_j _ _ _ _ _ (by omega), hv c c1 c2]
          by_cases k : c < i
          · by_cases m : bt mask c = true
            · rw [if_pos ⟨k, m⟩, if_pos ⟨by omega, m⟩]
            · rw [if_neg (fun z => m z.2), if_neg (fun z => m z.2)]
          · rw [if_neg (fun z => k z.1), if_neg (by omega)]
      · rw [if_neg (fun z => d (cut.2.mp z))]
        refine ih _ (i + 1) τ x1 (by omega) (by omega) f (fun c c1 c2 => ?_)
        rw [hv c c1 c2]
        by_cases e : c = i
        · rw [e, if_neg (fun z => d z.2), if_neg (fun z => d z.2)]
        · by_cases k : c < i
          · by_cases m : bt mask c = true
            · rw [if_pos ⟨k, m⟩, if_pos ⟨by omega, m⟩]
            · rw [if_neg (fun z => m z.2), if_neg (fun z => m z.2)]
          · rw [if_neg (fun z => k z.1), if_neg (by omega)]
    · rw [if_neg (by omega)]
      refine ⟨τ, rfl, f, fun c c1 c2 => ?_⟩
      rw [hv c c1 c2]
      by_cases m : bt mask c = true
      · rw [if_pos ⟨by omega, m⟩, if_pos m]
      · rw [if_neg (fun z => m z.2), if_neg m]
/-- the flows with dams tried: alike -/
theorem damFlow (S : zSd q Y a b N g u l s1 s) (Dn : zDn q Y N s1 s) (hr : ∀ p, p < N → s1.1 (q 5) p = rCl q s1 g 0 p) {D : Int32} (f : zFr (zD4 Y) s τ) (hv : ∀ c, 1 ≤ c → c < N → τ.1 (Y 49) (12 + c) = if bt mask c = true then 1 else s.1 (Y 49) (12 + c)) (hD : ∀ c, 1 ≤ c → c < N → bt D c = (bt (s1.1 (q 4) 3) c || bt mask c)) : ∀ p, p < N → (F_X5_run (q 0) D s1).1 (q 6) p = (F_X11_fillsFlows a 0 τ).1 (Y 55) p := by
  have E := S.eq Dn
  obtain ⟨⟨a1, a2, a3, a4, a5, a6, a7, a8⟩, ⟨b1, b2, b3, b4, b5, b6, b7, b8⟩, c, d, e⟩ := S
  have r := fun j (hj : zYj j) (n : j ≠ 49) => zD4.r b1 f hj n
  have hY' : zYm Y a τ.2.2 := by rw [f.rf]; exact b1
  have hsp : ∀ c, 1 ≤ c → c < N → dep N u c - 1 = (dep N u (u c) - 1) + 1 := fun c c1 c2 => by
    have z1 := dep_s a5 c1 c2
    have z2 := (dep_b a5 (u c) (a5.u_lt c1 c2)).1
    omega
  have h11 : ∀ c, c < N → dep N u c - 1 ≤ 11 := fun c hc => by
    have := (dep_b a5 c hc).2
    omega
  have E' : zEq q Y b N D s1 τ := by
    refine ⟨fun p f' hp => ?_, fun c c1 c2 => ?_⟩
    · rw [E.1 p f' hp, fMt.d4 b1 f (by omega)]
    · have k := E.2 c c1 c2
      rw [dmC_b (by omega)] at k
      rw [dmC_b (by omega), hD c c1 c2, k]
      unfold dmM
      rw [hv c c1 c2]
      by_cases m : bt mask c = true
      · rw [m, if_pos rfl, Bool.or_true]
        decide
      · rw [if_neg m, show bt mask c = false by simpa using m, Bool.or_false]
  exact flowEq a1 a2 a3 a4 a5 a6 a7 hY' (by rw [zD4.fl b1 f]; exact b2) b3 (fun hN => (b4 hN).cg (fun j hj => r j (by unfold zYj; omega) (by omega))) (by rw [zD4.m b1 f]; exact b5) (fun c c1 c2 => by rw [zD4.w f (by omega)]; exact b6 c c1 c2) (fun c hc => by rw [r 53 (by unfold zYj; omega) (by decide)]; exact b7 c hc) hsp h11 E' (by decide) zFr.id hr zFr.id
end DAMS
section LOSS
variable {κ : Int} {L1 : List Nat} {kd1 : Nat → Nat} {L2 : List Nat} {kd2 : Nat → Nat} {σ1 σ2 τ1 τ2 : zS} {m0 x0 : Nat} {V : zWh} {ps pc sl rv sh cd : Nat} {v1 v2 p : Int32}
/-- what the mouth loses by a dam at p, on both sides; what flows there, once more -/
theorem zRL.lossE (h : zRL zQw L1 kd1 x0 m0 V ps pc sl rv sh cd σ1 σ2) (hw : 0 < zM m0 σ2 → zLw x0 m0 σ1 σ2) (hl : zLen x0 m0 σ1 σ2) (hx : zT L1 kd1 x0 10) (hI : zI κ 0 L1 kd1 σ1) (hJ : zJ κ L2 kd2 σ2) (hm : zT L2 kd2 m0 11) (hg : gN m0 σ2) (h1 : 1 ≤ p.toInt) (h2 : p.toInt < zM m0 σ2) : ∃ (F v : Int32) (s' t' : zS), F_X10_mouthFlow x0 (F_X10_look x0 σ1) = (F, F_X10_look x0 σ1) ∧ F_X10_lossOf x0 p (F_X10_look x0 σ1) = (v, s') ∧ F_X11_lossOf m0 p σ2 = (v, t') ∧ ((F_X11_copies m0 t').2.2 m0 55).getD 0 = mR σ2 m0 55 ∧ (F_X11_copies m0 t').1 (mR σ2 m0 55) 0 = F := by
  obtain ⟨td, B, N, gl, u, l, q, Y, d1, n2, eL, xr, ⟨hq, hY⟩, ⟨S, Dn, FL, RN⟩, -, -⟩ := h.now hw hl hx hI hJ hm hg
  have hV := h.2.1
  have hL := h.1
  have g10 : (σ1.2.2 x0 10).getD 0 = td := by rw [d1]; rfl
  have g6 : (σ1.2.2 x0 6).getD 0 = V.1 0 := by rw [hL.1.1]; rfl
  obtain ⟨td9, d9, t9⟩ := zi_ref (j := 10) (k2 := 9) hI hx (by rfl)
  obtain rfl : td9 = td := Option.some.inj (d9.symm.trans d1)
  obtain ⟨N', -, -, ⟨n3, n4, -⟩, -⟩ := h.2.2
  rw [g10] at n3
  have LE := h.lookE hl hx hI hJ hm hg td9 9 t9 (by omega)
  have cp := zCopies2 hJ hm
  obtain ⟨P, hp⟩ : ∃ P : Nat, p.toInt = P := ⟨p.toInt.toNat, by omega⟩
  have hN12 := S.1.2.2.2.1
  have hN : 0 < N := by omega
  have w0 : (0 : Int32).toNatClampNeg = 0 := by decide
  have q0 : q 0 = rv := by rw [hq]; rfl
  have q3 : q 3 = td9 := by rw [hq]; rfl
  have q4 : q 4 = V.1 0 := by rw [hq]; rfl
  have lookF : F_X10_look x0 σ1 = F_X5_fall rv 0 (F_X5_form rv td9 (V.1 0) σ1) := by
    rw [← eL]
    unfold F_X5_look
    simp only [zlt]
  -- copies once more
  have again : ∀ ρ : zS, ρ.2 = σ2.2 → zFr (zFm [50, 51, 47] [49, 54, 52, 53, 45, 46, 55] m0 σ2.2.2) σ2 ρ → ∃ (B : Nat) (g2 : zGl) (u2 l2 : Nat → Nat), zNw q Y m0 B N g2 u2 l2 (F_X10_look x0 σ1) (F_X11_copies m0 ρ) := fun ρ r1 r2 => by
    obtain ⟨td2, B2, N2, g2, u2, l2, d2, n2', -, M⟩ := zSd.ofM zGd.q1 (fun _ _ _ h => h) h hw hl hx hI hJ hm hg r1 r2 (s0 := σ1) (fun _ _ _ => rfl) (fun _ _ _ _ => rfl) (k := 0) (by decide) rfl
    obtain rfl : td2 = td9 := Option.some.inj (d2.symm.trans d1)
    obtain rfl : N2 = N := by omega
    have LK := M.look
    refine ⟨B2, g2, u2, l2, ?_⟩
    rw [lookF, hq, hY]
    exact LK
  obtain ⟨t, ht⟩ : ∃ t, t = F_X11_copies m0 σ2 := ⟨_, rfl⟩
  rw [← ht] at cp FL S
  obtain ⟨B2, g2, u2, l2, S2, D2, F2, R2⟩ := again t cp.1 cp.2.2
  obtain ⟨t1, ht1⟩ : ∃ t1, t1 = F_X11_copies m0 t := ⟨_, rfl⟩
  rw [← ht1] at S2 D2 F2
  obtain ⟨s, hs⟩ : ∃ s, s = F_X10_look x0 σ1 := ⟨_, rfl⟩
  rw [← hs] at S S2 D2 F2 R2 FL xr LE ⊢
  have em : (1 : Int32) <<< (p &&& 31) = F_X10_bit p := by
    unfold F_X10_bit
    simp only [zlt]
  obtain ⟨τ, e1, e2, e3⟩ := mDams (mask := F_X10_bit p) S2 10000 1 1 t1 (by decide) (by omega) (by omega) zFr.id (fun c c1 c2 => by rw [if_neg (by omega)])
  have eA : F_X11_damsAll m0 (F_X10_bit p) t = F_X11_fillsFlows m0 0 τ := by
    unfold F_X11_damsAll
    simp only [zlt]
    rw [← ht1]
    exact e1
  have DF := damFlow S2 D2 R2 (D := s.1 (V.1 0) 3 ||| F_X10_bit p) e2 e3 (fun c c1 c2 => by rw [b_or, q4]) 0 hN
  have MF := fun (y : zS) (yr : y.2.2 = s.2.2) (y0 : y.1 td9 0 = s.1 td9 0) => cMouthF (q := q) (x0 := x0) (t1 := y) (td := td9) (by rw [yr, xr 2, q0]; exact xrv hV) (by rw [yr, xr 10]; exact g10) (by rw [yr]; exact S2.1.1.1.1.2.2.2.2.2.1) (by rw [y0, LE]; omega)
  have M0 := MF s rfl rfl
  obtain ⟨x, hx8⟩ : ∃ x, x = F_X5_run rv (s.1 (V.1 0) 3 ||| F_X10_bit p) s := ⟨_, rfl⟩
  have fx : zFr (fun c _ => c = q 6 ∨ c = q 8 ∨ c = q 9) s x := by
    rw [hx8, ← q0]
    exact (cRun (D := s.1 (V.1 0) 3 ||| F_X10_bit p) S2.1.1 S2.1.2.1 S2.1.2.2.1 hN12 S2.1.2.2.2.2.1 S2.1.2.2.2.2.2.1 S2.1.2.2.2.2.2.2.1 zFr.id R2 (fun p _ => rCl_b (by decide))).2.1
  have M1 := MF x fx.rf (fx.2 td9 0 (by
    rw [← q3]
    rintro (z | z | z)
    · exact S2.1.1.n (by decide) (by decide) (by decide) z
    · exact S2.1.1.n (by decide) (by decide) (by decide) z
    · exact S2.1.1.n (by decide) (by decide) (by decide) z))
  have x6 : x.1 (q 6) 0 = (F_X11_fillsFlows m0 0 τ).1 (Y 55) 0 := by
    rw [hx8, ← q0]
    exact DF
  have t55 : (t.2.2 m0 55).getD 0 = Y 55 := (S.2.1.1.1 55 (by unfold zYj; omega)).1
  have fA : zFr (zFm [50, 51, 47] [49, 54, 52, 53, 45, 46, 55] m0 t.2.2) t (F_X11_damsAll m0 (F_X10_bit p) t) := fr_X11_damsAll zFr.id (zFm.s rfl) (zFm.f rfl) (zFm.f rfl) (zFm.s rfl) (zFm.s rfl) (zFm.s rfl) (zFm.s rfl) (zFm.f rfl) (zFm.s rfl) (zFm.s rfl)
  have tr : t.2.2 = σ2.2.2 := by rw [cp.1]
  rw [tr] at fA
  have r55 : ((F_X11_damsAll m0 (F_X10_bit p) t).2.2 m0 55).getD 0 = Y 55 := by rw [fA.rf]; exact t55
  obtain ⟨B3, g3, u3, l3, S3, D3, F3, R3⟩ := again (F_X11_damsAll m0 (F_X10_bit p) t) (fA.1.trans cp.1) (cp.2.2.tr fA)
  rw [← hs] at F3 S3
  refine ⟨s.1 (q 6) 0, s.1 (q 6) 0 - x.1 (q 6) 0, x, F_X11_damsAll m0 (F_X10_bit p) t, M0, ?_, ?_, ?_, ?_⟩
  · unfold F_X10_lossOf
    simp only [zlt, zlt2, M0, xr, xrv hV, g6, ← hx8, M1]
  · unfold F_X11_lossOf
    simp only [zlt, ← ht, em, t55, w0, r55]
    rw [(FL 0 hN).1, x6, eA]
  · rw [← hY]
    exact (S3.2.1.1.1 55 (by unfold zYj; omega)).1
  · rw [← hY]
    exact (F3 0 hN).1.symm
theorem zRL.loss (h : zRL zQw L1 kd1 x0 m0 V ps pc sl rv sh cd σ1 σ2) (hw : 0 < zM m0 σ2 → zLw x0 m0 σ1 σ2) (hl : zLen x0 m0 σ1 σ2) (hx : zT L1 kd1 x0 10) (hI : zI κ 0 L1 kd1 σ1) (hJ : zJ κ L2 kd2 σ2) (hm : zT L2 kd2 m0 11) (hg : gN m0 σ2) (f1 : (v1, τ1) = F_X10_loss x0 p σ1) (f2 : (v2, τ2) = F_X11_loss m0 p σ2) : v1.toInt = v2.toInt := by
  have e0 : (0 : Int32).toInt = 0 := by decide
  have o1 : (1 : Int32).toInt = 1 := by decide
  obtain ⟨N', -, -, ⟨n3, n4, n5, -⟩, -⟩ := h.2.2
  have xN : (σ1.1 ((σ1.2.2 x0 10).getD 0) 0 - (1 : Int32)).toInt = (N' : Int) - 1 := by rw [zb_sub (by rw [o1]; omega) (by rw [o1]; omega), o1, n3]
  have xM : (F_X11_many m0 σ2 - (1 : Int32)).toInt = (N' : Int) - 1 := by
    have : (F_X11_many m0 σ2).toInt = N' := by rw [mMany]; exact n4
    rw [zb_sub (by rw [o1]; omega) (by rw [o1]; omega), o1, this]
  unfold F_X10_loss at f1
  unfold F_X11_loss at f2
  simp only [zlt, zlt2, cPlace, mBeside, cWithin, mIn, e0, o1, xN, xM] at f1 f2
  by_cases c : 1 ≤ p.toInt ∧ p.toInt ≤ (N' : Int) - 1
  · rw [if_neg (show ¬ p.toInt = 0 by omega), if_neg (fun z => z ⟨by omega, c.2⟩)] at f1
    rw [if_neg (fun z => z c)] at f2
    obtain ⟨F, v, s', t', -, k2, k3, -⟩ := h.lossE hw hl hx hI hJ hm hg c.1 (by omega)
    rw [k2] at f1
    rw [k3] at f2
    rw [(zPr2 f1).1, (zPr2 f2).1]
  · rw [if_pos c] at f2
    rw [(zPr2 f2).1]
    by_cases z : p.toInt = 0
    · rw [if_pos z] at f1
      rw [(zPr2 f1).1]
    · rw [if_neg z, if_pos (by omega)] at f1
      rw [(zPr2 f1).1]
theorem zRL.part (h : zRL zQw L1 kd1 x0 m0 V ps pc sl rv sh cd σ1 σ2) (hw : 0 < zM m0 σ2 → zLw x0 m0 σ1 σ2) (hl : zLen x0 m0 σ1 σ2) (hx : zT L1 kd1 x0 10) (hI : zI κ 0 L1 kd1 σ1) (hJ : zJ κ L2 kd2 σ2) (hm : zT L2 kd2 m0 11) (hg : gN m0 σ2) (f1 : (v1, τ1) = F_X10_part x0 p σ1) (f2 : (v2, τ2) = F_X11_part m0 p σ2) : v1.toInt = v2.toInt := by
  have e0 : (0 : Int32).toInt = 0 := by decide
  have o1 : (1 : Int32).toInt = 1 := by decide
  have w0 : (0 : Int32).toNatClampNeg = 0 := by decide
  obtain ⟨N', -, -, ⟨n3, n4, n5, -⟩, -⟩ := h.2.2
  have xN : (σ1.1 ((σ1.2.2 x0 10).getD 0) 0 - (1 : Int32)).toInt = (N' : Int) - 1 := by rw [zb_sub (by rw [o1]; omega) (by rw [o1]; omega), o1, n3]
  have xM : (F_X11_many m0 σ2 - (1 : Int32)).toInt = (N' : Int) - 1 := by
    have : (F_X11_many m0 σ2).toInt = N' := by rw [mMany]; exact n4
    rw [zb_sub (by rw [o1]; omega) (by rw [o1]; omega), o1, this]
  unfold F_X10_part at f1
  unfold F_X11_part at f2
  simp only [zlt, zlt2, cPlace, mBeside, cWithin, mIn, e0, o1, xN, xM] at f1 f2
  by_cases c : 1 ≤ p.toInt ∧ p.toInt ≤ (N' : Int) - 1
  · rw [if_neg (show ¬ p.toInt = 0 by omega), if_neg (fun z => z ⟨by omega, c.2⟩)] at f1
    rw [if_neg (fun z => z c)] at f2
    obtain ⟨F, v, s', t', k1, k2, k3, k4, k5⟩ := h.lossE hw hl hx hI hJ hm hg c.1 (by omega)
    rw [k1] at f1
    simp only [k2] at f1
    simp only [k3, k4, w0, k5] at f2
    by_cases z : F.toInt = 0
    · rw [if_pos z] at f1 f2
      rw [(zPr2 f1).1, (zPr2 f2).1]
    · rw [if_neg z] at f1 f2
      rw [(zPr2 f1).1, (zPr2 f2).1, Int32.mul_comm]
  · rw [if_pos c] at f2
    rw [(zPr2 f2).1]
    by_cases z : p.toInt = 0
    · rw [if_pos z] at f1
      rw [(zPr2 f1).1]
    · rw [if_neg z, if_pos (by omega)] at f1
      rw [(zPr2 f1).1]
end LOSS
section RP6
variable {κ : Int} {L1 : List Nat} {kd1 : Nat → Nat} {L2 : List Nat} {kd2 : Nat → Nat} {σ1 σ2 τ1 τ2 : zS} {m0 x0 : Nat} {v1 v2 p : Int32}
theorem zRP.loss (h : zRP κ L1 kd1 L2 kd2 x0 m0 σ1 σ2) (hI : zI κ 0 L1 kd1 σ1) (hJ : zJ κ L2 kd2 σ2) (hx : zT L1 kd1 x0 10) (hm : zT L2 kd2 m0 11) (hg : gN m0 σ2) (f1 : (v1, τ1) = F_X10_loss x0 p σ1) (f2 : (v2, τ2) = F_X11_loss m0 p σ2) : v1.toInt = v2.toInt := by
  obtain ⟨V, ps, pc, sl, rv, sh, cd, hR⟩ := h.2.2
  exact hR.loss h.2.1 h.1.2 hx hI hJ hm hg f1 f2
theorem zRP.part (h : zRP κ L1 kd1 L2 kd2 x0 m0 σ1 σ2) (hI : zI κ 0 L1 kd1 σ1) (hJ : zJ κ L2 kd2 σ2) (hx : zT L1 kd1 x0 10) (hm : zT L2 kd2 m0 11) (hg : gN m0 σ2) (f1 : (v1, τ1) = F_X10_part x0 p σ1) (f2 : (v2, τ2) = F_X11_part m0 p σ2) : v1.toInt = v2.toInt := by
  obtain ⟨V, ps, pc, sl, rv, sh, cd, hR⟩ := h.2.2
  exact hR.part h.2.1 h.1.2 hx hI hJ hm hg f1 f2
end RP6
