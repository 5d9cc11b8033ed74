-- 35x90.lw23
section
/-! BOTH READ, once more: a number token bears no sign -/
theorem zCT_n {b : Nat → Int32} {n a e : Nat} {W : Nat → Int64} {K Q : Int} {V : Int64} (h : zCT b n W a K V Q e) (hK : K = 23) : 0 ≤ V.toInt32.toInt := by
  obtain ⟨s, h1, h2, h3, h4⟩ := h
  rcases h4 with ⟨c1, c2, -⟩ | ⟨c1, c2, c3, c4, c5⟩ | ⟨c1, c2, c3, c5⟩ | ⟨c1, c2, c3, c4, c5⟩
  · omega
  · rcases c5 with ⟨c6, c7⟩ | ⟨c6, c7⟩
    · omega
    · rcases c7 with ⟨x1, -⟩ | ⟨i, x1, x2, -⟩
      · omega
      · omega
  · rcases c5 with ⟨c6, c7⟩ | ⟨c6, c7, y, c8, c9⟩
    · omega
    · have hse := c3.1
      rw [c8, Int32.toInt32_toInt64, c9]
      exact (zdv_b (e - s) c6 (fun j hj => (c3.2.1 (s + j) (by omega) (by omega)).2)).1
  · have r : zsg (b s).toInt = 24 ∨ zsg (b s).toInt = 25 ∨ zsg (b s).toInt = 26 ∨ zsg (b s).toInt = 27 ∨ zsg (b s).toInt = 28 ∨ zsg (b s).toInt = 29 ∨ zsg (b s).toInt = 30 ∨ zsg (b s).toInt = 31 ∨ zsg (b s).toInt = 32 ∨ zsg (b s).toInt = 34 := by
      unfold zsg
      (repeat' split) <;> omega
    omega
section READ1
variable {κ k : Int} {L1 : List Nat} {kd1 : Nat → Nat} {L2 : List Nat} {kd2 : Nat → Nat} {σ1 σ2 τ1 τ2 : zS} {m0 x0 : Nat}
set_option maxHeartbeats 1000000 in
theorem zRead1N (h : zSAM κ L1 kd1 L2 kd2 σ1 σ2) (hI1 : zI κ 0 L1 kd1 σ1) (hI2 : zJ κ L2 kd2 σ2) (hx0 : zT L1 kd1 x0 10) (hm0 : zT L2 kd2 m0 11) : ∃ (T : zTn) (m P tk kA vA qA tt N k q v nm nO x p1 : Nat) (p2 : Int32) (C0 D0 S0 : zS) (y : Int32) (K : Int32 → zS → Int32 × zS),
    (zVd P tk kA vA qA N ∧ zWd m0 k q v nm nO ∧ zTm T m ∧ zTK T m) ∧ (zV P tk kA vA qA tt N m T C0 aZ ∧ zXo m0 k q v nm nO m T (zRi m0 D0) aZ) ∧ (zPs x0 σ1 = F_X3_parse_59 P p1 p2 tt 10000 0 C0 ∧ F_X11_read m0 σ2 = F_X11_read_117 y m0 K 10000 (zRi m0 D0)) ∧ (σ1.2.2 x0 1 = some P ∧ σ1.2.2 x0 11 = some tt ∧ zT L1 kd1 P 3 ∧ zT L1 kd1 tt 9) ∧ C0.2.2 = zu σ1.2.2 P 1 (some tt) ∧ (∀ c j, ¬ zAc L1 kd1 tt σ1.2.2 c j → C0.1 c j = σ1.1 c j) ∧ zFi (fun c _ => c = P) (F_X9_clear tt (S0.1, S0.2.1, zu σ1.2.2 P 1 (some tt))) C0 ∧ zFi (fun c j => (c = m0 ∧ (j = 2 ∨ j = 4 ∨ j = 10)) ∨ c = x ∨ c = k ∨ c = q ∨ c = v) σ2 D0 ∧ (zT L2 kd2 x 103 ∧ zT L2 kd2 k 105 ∧ zT L2 kd2 q 106 ∧ zT L2 kd2 v 107) ∧ zNn T m := by
  obtain ⟨t, t1, t2⟩ := zi_ref (j := 0) (k2 := 7) hI1 hx0 (by rfl)
  obtain ⟨P, P1, P2⟩ := zi_ref (j := 1) (k2 := 3) hI1 hx0 (by rfl)
  obtain ⟨tt, s1, s2⟩ := zi_ref (j := 11) (k2 := 9) hI1 hx0 (by rfl)
  obtain ⟨bt, b1, b2⟩ := zj_ref (j := 1) (k2 := 101) hI2 hm0 (by rfl)
  obtain ⟨p1, u1, u2, u3⟩ := h.1 t bt t2 b2
  obtain ⟨tk, l0, k2⟩ := zi_ref (j := 0) (k2 := 8) hI1 P2 (by rfl)
  obtain ⟨w, w1, w2⟩ := zi_ref (j := 0) (k2 := 40) hI1 k2 (by rfl)
  obtain ⟨kA, ka1, ka2⟩ := zi_ref (j := 1) (k2 := 41) hI1 k2 (by rfl)
  obtain ⟨vA, va1, va2⟩ := zi_ref (j := 2) (k2 := 42) hI1 k2 (by rfl)
  obtain ⟨qA, qa1, qa2⟩ := zi_ref (j := 3) (k2 := 43) hI1 k2 (by rfl)
  obtain ⟨N, n1, n2⟩ := zi_ref (j := 1) (k2 := 44) hI1 s2 (by rfl)
  have rt := zi_get (j := 1) hI1 t2 (lo := κ) (hi := κ) (by rfl)
  have rm := zj_get (j := 2) hI2 hm0 (lo := κ) (hi := κ) (by rfl)
  have hκ := hI1.2.2.1
  obtain ⟨n, hn⟩ : ∃ n : Nat, (n : Int) = κ := ⟨κ.toNat, by omega⟩
  obtain ⟨x, x1, x2⟩ := zj_ref (j := 3) (k2 := 103) hI2 hm0 (by rfl)
  obtain ⟨k, ck1, ck2⟩ := zj_ref (j := 5) (k2 := 105) hI2 hm0 (by rfl)
  obtain ⟨q, cq1, cq2⟩ := zj_ref (j := 6) (k2 := 106) hI2 hm0 (by rfl)
  obtain ⟨v, cv1, cv2⟩ := zj_ref (j := 7) (k2 := 107) hI2 hm0 (by rfl)
  obtain ⟨nm, cn1, cn2⟩ := zj_ref (j := 8) (k2 := 108) hI2 hm0 (by rfl)
  obtain ⟨ky, cy1, cy2⟩ := zj_ref (j := 9) (k2 := 109) hI2 hm0 (by rfl)
  obtain ⟨nO, co1, co2⟩ := zj_ref (j := 20) (k2 := 120) hI2 hm0 (by rfl)
  have gt : (σ1.2.2 x0 0).getD 0 = t := by rw [t1]; rfl
  have gP : (σ1.2.2 x0 1).getD 0 = P := by rw [P1]; rfl
  have gs : (σ1.2.2 x0 11).getD 0 = tt := by rw [s1]; rfl
  have gp : (σ1.2.2 t 0).getD 0 = p1 := by rw [u1]; rfl
  have arr : ∀ j, (j = 2 ∨ j = 3 ∨ j = 4 ∨ j = 5 ∨ j = 6 ∨ j = 7 ∨ j = 9) → ∃ k2, 45 ≤ k2 ∧ zT L1 kd1 ((σ1.2.2 tt j).getD 0) k2 := fun j hj => by
    rcases hj with z | z | z | z | z | z | z <;> subst z
    · obtain ⟨y, y1, y2⟩ := zi_ref (j := 2) hI1 s2 (by rfl)
      exact ⟨45, by decide, by rw [y1]; exact y2⟩
    · obtain ⟨y, y1, y2⟩ := zi_ref (j := 3) hI1 s2 (by rfl)
      exact ⟨46, by decide, by rw [y1]; exact y2⟩
    · obtain ⟨y, y1, y2⟩ := zi_ref (j := 4) hI1 s2 (by rfl)
      exact ⟨47, by decide, by rw [y1]; exact y2⟩
    · obtain ⟨y, y1, y2⟩ := zi_ref (j := 5) hI1 s2 (by rfl)
      exact ⟨48, by decide, by rw [y1]; exact y2⟩
    · obtain ⟨y, y1, y2⟩ := zi_ref (j := 6) hI1 s2 (by rfl)
      exact ⟨49, by decide, by rw [y1]; exact y2⟩
    · obtain ⟨y, y1, y2⟩ := zi_ref (j := 7) hI1 s2 (by rfl)
      exact ⟨50, by decide, by rw [y1]; exact y2⟩
    · obtain ⟨y, y1, y2⟩ := zi_ref (j := 9) hI1 s2 (by rfl)
      exact ⟨51, by decide, by rw [y1]; exact y2⟩
  have hd : zVd P tk kA vA qA N := ⟨zNe k2 P2 (by decide), zNe ka2 P2 (by decide), zNe qa2 P2 (by decide), zNe va2 P2 (by decide), zNe n2 P2 (by decide), zNe n2 va2 (by decide)⟩
  have hd' : zRd m0 k q v nm := ⟨zNe ck2 hm0 (by decide), zNe cq2 hm0 (by decide), zNe cv2 hm0 (by decide), zNe ck2 cq2 (by decide), zNe ck2 cv2 (by decide), zNe cq2 cv2 (by decide)⟩
  obtain ⟨m, E, c1, c2, c3, c4, cr, c5⟩ := vRead1 (w := w) (p2 := σ1.1 t 1) (n := n) (p1 := p1) (σ := σ1) hd (zNe ka2 k2 (by decide)) (zNe qa2 k2 (by decide)) (zNe ka2 qa2 (by decide)) ⟨zNe u2 k2 (by decide), zNe u2 ka2 (by decide), zNe u2 qa2 (by decide)⟩ (zNe w2 va2 (by decide)) (by omega) (by omega) ⟨w1, ka1, va1, qa1⟩ l0 n1 ⟨⟨zNe s2 P2 (by decide), zNe s2 k2 (by decide), zNe s2 ka2 (by decide), zNe s2 qa2 (by decide)⟩, fun j hj => by
    obtain ⟨k3, y1, y2⟩ := arr j hj
    exact ⟨zNe y2 P2 (by omega), zNe y2 k2 (by omega), zNe y2 ka2 (by omega), zNe y2 qa2 (by omega)⟩⟩ (fun j => zi_get (lo := -128) (hi := 127) hI1 u2 (by rfl))
  obtain ⟨τc, m', E', d1, d2, dF, d3, d4⟩ := wRead1 (n := n) (τ := σ2) hd' ⟨zNe x2 hm0 (by decide), zNe x2 ck2 (by decide), zNe x2 cq2 (by decide), zNe x2 cv2 (by decide)⟩ (zNe b2 x2 (by decide)) (zNe b2 hm0 (by decide)) (zNe cy2 cn2 (by decide)) (zNe cn2 co2 (by decide)) ⟨ck1, cq1, cv1, cn1, cy1⟩ x1 b1 co1 (by omega) (by omega) (fun j => zj_get (lo := -128) (hi := 127) hI2 x2 (by rfl)) (fun j => zj_get (lo := -128) (hi := 127) hI2 b2 (by rfl)) (fun j hj => by
    obtain ⟨f, f21⟩ := zQs_k hj
    obtain ⟨y, y1, y2⟩ := zj_ref (j := j) hI2 hm0 f
    rw [y1]
    exact ⟨zNe y2 hm0 (by omega), zNe y2 ck2 (by omega), zNe y2 cq2 (by omega), zNe y2 cv2 (by omega)⟩)
  have d2' := zRq_cg (b' := σ1.1 p1) (fun j hj => (u3 j (by omega)).symm) d2
  have z := zall (fun i hi => h.2.1 w w2 i hi) (fun i hi => h.2.2 ky cy2 i hi) c3 d2' c2 d3 c1 (by rcases d3 with y | y <;> omega)
  obtain ⟨hK, C0, v0, e, er, ef⟩ := c5 (fun j => τc.2.1 nm j)
  have hTm : zTm (zTo kA vA qA (F_X8_scan tk p1 (σ1.1 t 1) σ1) (fun j => τc.2.1 nm j)) m := by
    refine ⟨fun j hj => zmono c3 j hj, fun j hj => ?_, fun j hj h22 => ?_⟩
    · obtain ⟨-, -, -, -, t1, t2, -, -⟩ := z j hj
      exact ⟨t1, t2⟩
    · obtain ⟨-, -, -, -, t1, t2, t3, -⟩ := z j hj
      exact t3 h22
  obtain ⟨y, K, w0, e2⟩ := d4 _ m hTm hK (fun j hj => by
    obtain ⟨-, -, t1, t2, -, -, -, t4⟩ := z j hj
    exact ⟨t2, t1.symm, fun y => (t4 y).symm, rfl⟩)
  rw [cr] at ef
  refine ⟨_, m, P, tk, kA, vA, qA, tt, N, k, q, v, nm, nO, x, p1, σ1.1 t 1, C0, τc, F_X8_scan tk p1 (σ1.1 t 1) σ1, y, K, ⟨hd, ⟨hd'.1, hd'.2.1, hd'.2.2.1, zNe cn2 co2 (by decide)⟩, hTm, hK⟩, ⟨v0, w0⟩, ⟨?_, e2⟩, ⟨P1, s1, P2, s2⟩, er, fun c j hc => ?_, ef, dF, ⟨x2, ck2, cq2, cv2⟩, fun j hj h23 => zCT_n (c3.2.1 j hj).1 h23⟩
  · unfold zPs
    rw [gt, gP, gs, gp]
    exact e
  · have nP : c ≠ P := fun z => hc (Or.inl ⟨by rw [z]; exact P2.1, by rw [z, P2.2]; exact Or.inl rfl⟩)
    have ntk : c ≠ tk := fun z => hc (Or.inl ⟨by rw [z]; exact k2.1, by rw [z, k2.2]; exact Or.inr (Or.inl rfl)⟩)
    have nkA : c ≠ kA := fun z => hc (Or.inl ⟨by rw [z]; exact ka2.1, by rw [z, ka2.2]; exact Or.inr (Or.inr (Or.inl rfl))⟩)
    have nqA : c ≠ qA := fun z => hc (Or.inl ⟨by rw [z]; exact qa2.1, by rw [z, qa2.2]; exact Or.inr (Or.inr (Or.inr rfl))⟩)
    have ntt : c ≠ tt := fun z => hc (Or.inr (Or.inl z))
    have na : ∀ i, 2 ≤ i → i ≤ 9 → i ≠ 8 → c ≠ (σ1.2.2 tt i).getD 0 := fun i i1 i2 i3 z => hc (Or.inr (Or.inr ⟨i, i1, i2, i3, z⟩))
    rw [ef.2 c j nP]
    have gk : (σ1.2.2 tk 1).getD 0 = kA := by rw [ka1]; rfl
    have gq : (σ1.2.2 tk 3).getD 0 = qA := by rw [qa1]; rfl
    have nt : ∀ i, (zu σ1.2.2 P 1 (some tt) tt i) = σ1.2.2 tt i := fun i => by rw [zu_n _ _ _ (zNe s2 P2 (by decide))]
    have fs : zFi (fun c' _ => c' = tk ∨ c' = kA ∨ c' = qA) σ1 (F_X8_scan tk p1 (σ1.1 t 1) σ1) := fi_X8_scan zFi.id (Or.inl rfl) (fun _ => Or.inr (Or.inl gk)) (fun _ => Or.inr (Or.inr gq))
    have fc : zFi (fun c' _ => c' = tt ∨ ∃ i, 2 ≤ i ∧ i ≤ 9 ∧ i ≠ 8 ∧ c' = (σ1.2.2 tt i).getD 0) ((F_X8_scan tk p1 (σ1.1 t 1) σ1).1, (F_X8_scan tk p1 (σ1.1 t 1) σ1).2.1, zu σ1.2.2 P 1 (some tt)) (F_X9_clear tt ((F_X8_scan tk p1 (σ1.1 t 1) σ1).1, (F_X8_scan tk p1 (σ1.1 t 1) σ1).2.1, zu σ1.2.2 P 1 (some tt))) := fi_X9_clear zFi.id (Or.inl rfl) (Or.inl rfl) (fun _ => Or.inr ⟨9, by decide, by decide, by decide, by show (zu σ1.2.2 P 1 (some tt) tt 9).getD 0 = _; rw [nt]⟩) (fun _ => Or.inr ⟨6, by decide, by decide, by decide, by show (zu σ1.2.2 P 1 (some tt) tt 6).getD 0 = _; rw [nt]⟩) (fun _ => Or.inr ⟨7, by decide, by decide, by decide, by show (zu σ1.2.2 P 1 (some tt) tt 7).getD 0 = _; rw [nt]⟩) (Or.inl rfl) (Or.inl rfl) (Or.inl rfl) (Or.inl rfl)
    rw [fc.2 c j (by
      rintro (z | ⟨i, i1, i2, i3, z⟩)
      · exact ntt z
      · exact na i i1 i2 i3 z)]
    exact fs.2 c j (by
      rintro (z | z | z)
      · exact ntk z
      · exact nkA z
      · exact nqA z)
end READ1
end
-- 35x91.lw24
section
/-! BOTH TEXTS TELL ALIKE: laws, rains, tales, storms, the prize, the seed -/
/-- told side: what the class holds and what the reference holds on side B -/
def zLw (x0 m0 : Nat) (σ1 σ2 : zS) : Prop := ∃ (td B K : Nat) (g : zGl), (σ1.2.2 x0 10).getD 0 = td ∧ (σ2.1 m0 18).toInt.toNat = B ∧ ((σ1.1 td 8).toInt = K ∧ K ≤ 420) ∧ (∀ k, k < 5 → zLc ((σ1.2.2 td 6).getD 0) ((σ1.2.2 td 7).getD 0) ((σ1.2.2 td 9).getD 0) σ1 K k (g k) ∧ zLm (mR σ2 m0) (420 * B) (130 * B) σ2 (420 * B + 420) (130 * B + 130) (5 * B + k) (g k)) ∧ (∀ j p : Nat, 3 ≤ j → j ≤ 5 → (p : Int) < zM m0 σ2 → σ1.1 ((σ1.2.2 td j).getD 0) p = σ2.1 (mR σ2 m0 (20 + j)) (12 * B + p)) ∧ (∀ j : Nat, j < 4 → σ1.1 td (10 + j) = σ2.1 (mR σ2 m0 (26 + j)) B) ∧ 0 ≤ (σ1.1 td 11).toInt ∧ (σ1.1 td 11).toInt ≤ 99
section LWR
variable {κ : Int} {L1 : List Nat} {kd1 : Nat → Nat} {L2 : List Nat} {kd2 : Nat → Nat} {σ1 σ2 τ1 τ2 : zS} {m0 x0 : Nat} {V : zWh} {ps pc sl td tt : Nat}
theorem zLc.cg {A6 A7 A9 K v : Nat} {g : Option (List zBr)} (h : zLc A6 A7 A9 σ1 K v g) (e6 : τ1.1 A6 = σ1.1 A6) (e7 : τ1.1 A7 = σ1.1 A7) (e9 : τ1.1 A9 = σ1.1 A9) : zLc A6 A7 A9 τ1 K v g := by
  obtain ⟨ho, i, h1, h2, h3⟩ := h
  exact ⟨ho, i, by rw [e9]; exact h1, zHo_cg _ i (fun j _ _ => ⟨by rw [e6], by rw [e7]⟩) h2, h3⟩
theorem zLm.up {Y : Nat → Nat} {cl bl N N' M M' w : Nat} {x : Option (List zBr)} (h : zLm Y cl bl σ2 N M w x) (hN : N ≤ N') (hM : M ≤ M') : zLm Y cl bl σ2 N' M' w x := h.cg hN hM (fun _ _ _ => ⟨rfl, rfl⟩) (fun _ _ _ _ _ _ => rfl) rfl rfl
/-- from the walk: the live side's laws kept -/
theorem zLm.lk {B k : Nat} {x : Option (List zBr)} (hk : zLkp m0 σ2 τ2) (er : ∀ s, mR τ2 m0 s = mR σ2 m0 s) (hB : (σ2.1 m0 18).toInt = B) (k5 : k < 5) (h : zLm (mR σ2 m0) (420 * B) (130 * B) σ2 (420 * B + 420) (130 * B + 130) (5 * B + k) x) : zLm (mR σ2 m0) (420 * B) (130 * B) τ2 (420 * B + 420) (130 * B + 130) (5 * B + k) x := by
  have er' : ∀ s, (τ2.2.2 m0 s).getD 0 = (σ2.2.2 m0 s).getD 0 := er
  obtain ⟨k1, k2, k3⟩ := hk
  rw [hB] at k1 k2 k3
  have z : ∀ (s : Nat) (i : Nat) (c : Int), c = i → zp m0 τ2 s c = zp m0 σ2 s c → τ2.1 (mR σ2 m0 s) i = σ2.1 (mR σ2 m0 s) i := fun s i c hc e => by
    unfold zp at e
    rw [er' s, hc] at e
    exact Int32.toInt_inj.mp e
  refine h.cg (Nat.le_refl _) (Nat.le_refl _) (fun i i1 i2 => ?_) (fun j i j1 j2 i1 i2 => ?_) ?_ ?_
  · have q := k1 (i : Int) (by omega) (by omega)
    exact ⟨z 39 i i rfl q.1, z 40 i i rfl q.2⟩
  · have q := k2 (i : Int) (by omega) (by omega)
    rcases (show j = 33 ∨ j = 34 ∨ j = 35 ∨ j = 36 ∨ j = 37 by omega) with rfl | rfl | rfl | rfl | rfl
    · exact z 33 i i rfl q.1
    · exact z 34 i i rfl q.2.1
    · exact z 35 i i rfl q.2.2.1
    · exact z 36 i i rfl q.2.2.2.1
    · exact z 37 i i rfl q.2.2.2.2
  · exact z 30 (5 * B + k) (5 * (B : Int) + (k : Int)) (by omega) (k3 k (by omega) (by omega)).1
  · exact z 31 (5 * B + k) (5 * (B : Int) + (k : Int)) (by omega) (k3 k (by omega) (by omega)).2
end LWR
theorem gRun_2 {γ δ : Type} {T : zTn} (st1 : zA → γ → γ) (st2 : zA → δ → δ) : ∀ (l : Nat) (s : zA) (g : γ × δ), gRun T (fun s (g : γ × δ) => (st1 s g.1, st2 s g.2)) l s g = (gRun T st1 l s g.1, gRun T st2 l s g.2) := by
  intro l
  induction l with
  | zero => intro s g; rfl
  | succ l ih =>
    intro s g
    rw [gRun, gRun, gRun]
    by_cases c : s.1 = 0
    · rw [if_neg (zne c), if_neg (zne c), if_neg (zne c)]
      by_cases c1 : T.1 s.2.2.1 = 33
      · rw [if_pos c1, if_pos c1, if_pos c1]
      · rw [if_neg c1, if_neg c1, if_neg c1]
        exact ih _ _
    · rw [if_pos c, if_pos c, if_pos c]
/-- numbers as no text tells them -/
def nS : zNf := fun j => if j = 2 then 1 else 0
section NUMS
variable {P tt : Nat} {σ τ τ' : zS}
theorem cClrN : ∀ (n : Nat) (x : Int32) (v : Nat) (τ : zS), x.toInt = v → v ≤ 5 → 5 - v < n → ∀ j, j < 4 → ((F_X9_clear_12 tt n x τ).1 tt (10 + j)).toInt = nS j := by
  intro n
  induction n with
  | zero => intro x v τ _ _ h; exact absurd h (by omega)
  | succ n ih =>
    intro x v τ hx hv hn
    by_cases c : v < 5
    · obtain ⟨k, y, q1, q2, q3⟩ := cClr1 (n := n) (tt := tt) (τ := τ) hx c rfl
      rw [q3]
      exact ih _ (v + 1) _ (zp1 hx (by omega)) (by omega) (by omega)
    · have e5 : (5 : Int32).toInt = 5 := by decide
      have nx : ¬ x.toInt < 5 := by omega
      rw [F_X9_clear_12]
      simp only [zlt, e5]
      rw [if_neg nx]
      intro j hj
      rcases (show j = 0 ∨ j = 1 ∨ j = 2 ∨ j = 3 by omega) with rfl | rfl | rfl | rfl
      · show (zu (zu (zu (zu τ.1 tt 10 0) tt 11 0) tt 12 1) tt 13 0 tt 10).toInt = _
        rw [zu_j _ _ _ _ _ (by decide), zu_j _ _ _ _ _ (by decide), zu_j _ _ _ _ _ (by decide), zu_s]
        decide
      · show (zu (zu (zu (zu τ.1 tt 10 0) tt 11 0) tt 12 1) tt 13 0 tt 11).toInt = _
        rw [zu_j _ _ _ _ _ (by decide), zu_j _ _ _ _ _ (by decide), zu_s]
        decide
      · show (zu (zu (zu (zu τ.1 tt 10 0) tt 11 0) tt 12 1) tt 13 0 tt 12).toInt = _
        rw [zu_j _ _ _ _ _ (by decide), zu_s]
        decide
      · show (zu (zu (zu (zu τ.1 tt 10 0) tt 11 0) tt 12 1) tt 13 0 tt 13).toInt = _
        rw [zu_s]
        decide
theorem zCn.st0 (g : zFi (fun c _ => c = P) (F_X9_clear tt τ) τ') (hP : tt ≠ P) : zCn tt τ' aZ nS := fun _ j hj => by
  rw [g.2 tt _ hP]
  unfold F_X9_clear
  simp only [zlt]
  exact cClrN 10000 0 0 _ (by decide) (by omega) (by omega) j hj
end NUMS
section OTHER
variable {a k q v nm nO m b : Nat} {Y : Nat → Nat} {T : zTn} {R : Nat → Nat → Option Nat} {τ τ' t : zS} {s s' : zA} {g : zGl}
/-- what a telling writes: numbers on its own side alone -/
def aPn (Y : Nat → Nat) (a b : Nat) : Nat → Nat → Prop := fun c i => (c = a ∧ i ≠ 19) ∨ (∃ j, zQs j ∧ (j < 26 ∨ 29 < j) ∧ c = Y j) ∨ ∃ j, zQs j ∧ 26 ≤ j ∧ j ≤ 29 ∧ c = Y j ∧ i = b
theorem aPn.o {i : Nat} (h : i ≠ 19) : aPn Y a b a i := Or.inl ⟨rfl, h⟩
theorem aPn.r (hY : zYz Y a R) {j : Nat} (h : zQs j) (h2 : j < 26 ∨ 29 < j) (i : Nat) : aPn Y a b ((R a j).getD 0) i := Or.inr (Or.inl ⟨j, h, h2, (hY.1 j h).1⟩)
theorem aPn.s19 (hY : zYz Y a R) (h : zFi (aPn Y a b) τ τ') : τ'.1 a 19 = τ.1 a 19 := h.2 a 19 (by
  rintro (z | ⟨j, z1, -, z⟩ | ⟨j, z1, -, -, z, -⟩)
  · exact z.2 rfl
  · exact (hY.1 j z1).2 z.symm
  · exact (hY.1 j z1).2 z.symm)
theorem aPn.b1 (hY : zYz Y a R) (hR : τ.2.2 = R) (h19 : (τ.1 a 19).toInt = b) (h : zFi (aPn Y a b) τ τ') {j : Nat} (hj : zQs j) (h26 : 26 ≤ j) (h29 : j ≤ 29) (lo hi : Int32) : zFi (aPn Y a b) τ (mB1 a j lo hi τ') := by
  have e : (τ'.2.2 a j).getD 0 = Y j := by rw [h.1, hR]; exact (hY.1 j hj).1
  have f : zFj (aPn Y a b) τ (F_X11_bounded a lo hi τ') := fi_X11_bounded h (aPn.o (by decide)) (aPn.o (by decide)) (aPn.o (by decide)) (aPn.o (by decide)) (aPn.o (by decide))
  have n : (τ'.1 a 19).toNatClampNeg = b := by rw [aPn.s19 hY h, ztn, h19]; rfl
  unfold mB1
  rw [e, n]
  exact zFi.w (s := (F_X11_bounded a lo hi τ').2) f (Or.inr (Or.inr ⟨j, hj, h26, h29, rfl, rfl⟩))
theorem xTell1 (hd : zWd a k q v nm nO) (hT : zTm T m) (hK : zTK T m) (hY : zYz Y a R) (hR : τ.2.2 = R) (h19 : (τ.1 a 19).toInt = b) (hx : zXo a k q v nm nO m T τ s) (hs : s.1 = 0) : zFi (aPn Y a b) τ (F_X11_tellOne a τ) := by
  obtain ⟨D1, D2, D3, D4, D5, D6, D7, D8, D9⟩ := xDisp hd hT hK hx hs
  have rg := hT.2.1 _ (hx.1.2.2.2.2 hs).1
  have o : ∀ i, i ≠ 19 → aPn Y a b a i := fun i hi => aPn.o hi
  have qq : ∀ l, ((21 ≤ l ∧ l ≤ 31) ∨ l = 33 ∨ l = 34 ∨ l = 35 ∨ l = 36 ∨ l = 37 ∨ l = 39 ∨ l = 40 ∨ l = 43) → zQs l := fun l hl => by unfold zQs; omega
  have r : ∀ l, zQs l → (l < 26 ∨ 29 < l) → ∀ i, aPn Y a b ((τ.2.2 a l).getD 0) i := fun l hl h26 i => by rw [hR]; exact aPn.r hY hl h26 i
  have on : zFi (aPn Y a b) τ (F_X11_goesOn a τ) := fi_X11_goesOn zFi.id (o _ (by decide)) (o _ (by decide)) (o _ (by decide))
  have fa : ∀ p : Int32, zFi (aPn Y a b) τ (F_X11_fail a p τ) := fun p => fi_X11_fail zFi.id (o _ (by decide)) (o _ (by decide))
  have mu : ∀ (p : Int32) t, zFi (aPn Y a b) τ t → zFi (aPn Y a b) τ (F_X11_must a p t) := fun p t h => fi_X11_must h (o _ (by decide)) (o _ (by decide)) (o _ (by decide))
  by_cases c0 : T.1 s.2.2.1 = 0
  · by_cases cm : s.2.2.2.2.2.1 = 0
    · rw [D1 c0 cm]
      exact fi_X11_tellMouth on (o _ (by decide)) (o _ (by decide)) (o _ (by decide)) (o _ (by decide)) (o _ (by decide)) (o _ (by decide)) (r 22 (qq _ (by decide)) (by decide)) (r 23 (qq _ (by decide)) (by decide)) (r 24 (qq _ (by decide)) (by decide)) (r 25 (qq _ (by decide)) (by decide)) (r 21 (qq _ (by decide)) (by decide))
    · rw [D2 c0 cm]
      exact fa 2
  · by_cases c1 : T.1 s.2.2.1 = 1
    · by_cases cm : s.2.2.2.2.2.2.1 = 11
      · rw [D4 c1 cm]
        exact fa 2
      · rw [D3 c1 cm]
        exact fi_X11_tellPlace on (o _ (by decide)) (o _ (by decide)) (o _ (by decide)) (o _ (by decide)) (o _ (by decide)) (r 22 (qq _ (by decide)) (by decide)) (r 23 (qq _ (by decide)) (by decide)) (r 24 (qq _ (by decide)) (by decide)) (r 25 (qq _ (by decide)) (by decide)) (o _ (by decide)) (r 21 (qq _ (by decide)) (by decide))
    · by_cases c6 : T.1 s.2.2.1 ≤ 6
      · obtain ⟨p, -, e⟩ := D5 (by omega) c6
        rw [e]
        exact fi_X11_tellLaw on (o _ (by decide)) (o _ (by decide)) (o _ (by decide)) (r 33 (qq _ (by decide)) (by decide)) (r 36 (qq _ (by decide)) (by decide)) (o _ (by decide)) (r 39 (qq _ (by decide)) (by decide)) (r 40 (qq _ (by decide)) (by decide)) (o _ (by decide)) (r 43 (qq _ (by decide)) (by decide)) (o _ (by decide)) (r 37 (qq _ (by decide)) (by decide)) (o _ (by decide)) (r 30 (qq _ (by decide)) (by decide)) (r 31 (qq _ (by decide)) (by decide)) (r 34 (qq _ (by decide)) (by decide)) (r 35 (qq _ (by decide)) (by decide))
      · by_cases c7 : T.1 s.2.2.1 = 7
        · rw [D6 c7]
          exact mu _ _ (aPn.b1 hY hR h19 (aPn.b1 hY hR h19 on (qq 26 (by decide)) (by decide) (by decide) _ _) (qq 27 (by decide)) (by decide) (by decide) _ _)
        · by_cases c8 : T.1 s.2.2.1 = 8
          · rw [D7 c8]
            exact mu _ _ (aPn.b1 hY hR h19 on (qq 28 (by decide)) (by decide) (by decide) _ _)
          · by_cases c9 : T.1 s.2.2.1 = 9
            · rw [D8 c9]
              exact mu _ _ (aPn.b1 hY hR h19 on (qq 29 (by decide)) (by decide) (by decide) _ _)
            · rw [D9 (by omega)]
              exact fa 1
/-- the other side's numbers -/
def zNo (Y : Nat → Nat) (b : Nat) (t τ : zS) : Prop := ∀ j, 26 ≤ j → j ≤ 29 → ∀ i, i ≠ b → τ.1 (Y j) i = t.1 (Y j) i
theorem zNo.fi (hY : zYz Y a R) (h : zNo Y b t τ) (f : zFi (aPn Y a b) τ τ') : zNo Y b t τ' := fun j j1 j2 i hi => by
  have qj : zQs j := by unfold zQs; omega
  rw [f.2 (Y j) i (by
    rintro (z | ⟨l, z1, z2, z⟩ | ⟨l, z1, z2, z3, z4, z5⟩)
    · exact (hY.1 j qj).2 z.1
    · exact hY.2 j l qj z1 (by omega) z
    · exact hi z5)]
  exact h j j1 j2 i hi
theorem zNo.st0 (hY : zYz Y a t.2.2) (hb1 : b ≤ 1) (h18 : (t.1 a 18).toInt = 1 - (b : Int)) : zNo Y b t (zRi a t) := by
  have e1 : (1 : Int32).toInt = 1 := by decide
  have q : ∀ j, 21 ≤ j → j ≤ 31 → zQs j := fun j h1 h2 => by unfold zQs; omega
  obtain ⟨p, f, x, y, hp, hf, E⟩ := zRi_e (a := a) (t := t)
  have hpb : p.toInt = b := by rw [hp, zb_sub (by rw [e1, h18]; omega) (by rw [e1, h18]; omega), e1, h18]; omega
  have en : p.toNatClampNeg = b := by rw [ztn, hpb]; rfl
  have ef : ∀ c i, c ≠ a → f c i = t.1 c i := fun c i hc => by rw [hf, zu_n _ _ _ hc, zu_n _ _ _ hc, zu_n _ _ _ hc, zu_n _ _ _ hc, zu_n _ _ _ hc]
  have gY : ∀ j, 21 ≤ j → j ≤ 31 → (t.2.2 a j).getD 0 = Y j := fun j h1 h2 => (hY.1 j (q j h1 h2)).1
  intro j j1 j2 i hi
  have na := (hY.1 j (q j (by omega) (by omega))).2
  have d : ∀ l, 21 ≤ l → l ≤ 31 → l ≠ j → ¬ Y j = Y l := fun l l1 l2 n => hY.2 j l (q j (by omega) (by omega)) (q l l1 l2) (fun e => n e.symm)
  rw [E]
  show zu (zu (zu (zu (F_X11_plain a p (f, t.2.1, t.2.2)).1 a 32 x) a 38 y) a 41 0) a 42 0 (Y j) i = _
  rw [zu_n _ _ _ na, zu_n _ _ _ na, zu_n _ _ _ na, zu_n _ _ _ na]
  have f37 : ∀ u : zS, u.2.2 = t.2.2 → (F_X11_plain_37 a p 10000 0 u).1 (Y j) i = u.1 (Y j) i := fun u hu => by
    have z : zFi (fun c _ => c = Y 30 ∨ c = Y 31) u (F_X11_plain_37 a p 10000 0 u) := fi_X11_plain_37 (fun _ => Or.inl (by rw [hu]; exact gY 30 (by decide) (by decide))) (fun _ => Or.inr (by rw [hu]; exact gY 31 (by decide) (by decide))) _ _ _ zFi.id
    exact z.2 _ _ (by
      rintro (w | w)
      · exact d 30 (by decide) (by decide) (by omega) w
      · exact d 31 (by decide) (by decide) (by omega) w)
  unfold F_X11_plain
  simp only [zlt, en, gY 21 (by decide) (by decide), gY 26 (by decide) (by decide), gY 27 (by decide) (by decide), gY 28 (by decide) (by decide), gY 29 (by decide) (by decide)]
  rw [f37 (zu (zu (zu (zu (zu f (Y 21) b 0) (Y 26) b 0) (Y 27) b 0) (Y 28) b 1) (Y 29) b 0, t.2.1, t.2.2) rfl]
  have w : ∀ (h : Nat → Nat → Int32) (l : Nat) (z : Int32), zu h (Y l) b z (Y j) i = h (Y j) i := fun h l z => by
    by_cases e : Y j = Y l
    · rw [e, zu_j _ _ _ _ _ (fun z => hi z.symm)]
    · rw [zu_n _ _ _ e]
  show zu (zu (zu (zu (zu f (Y 21) b 0) (Y 26) b 0) (Y 27) b 0) (Y 28) b 1) (Y 29) b 0 (Y j) i = _
  rw [w, w, w, w, w]
  exact ef _ _ na
end OTHER
end
-- 35x92.lw25
section
/-! BOTH TEXTS TELL ALIKE, through a reading -/
section LWR2
variable {κ : Int} {L1 : List Nat} {kd1 : Nat → Nat} {L2 : List Nat} {kd2 : Nat → Nat} {σ1 σ2 τ1 τ2 : zS} {m0 x0 : Nat} {V : zWh} {ps pc sl td tt : Nat}
/-- the class' side of a text that is good -/
theorem cLwS {T : zTn} {m P tk kA vA qA N : Nat} {C0 S0 : zS} (hI1 : zI κ 0 L1 kd1 σ1) (P2 : zT L1 kd1 P 3) (s2 : zT L1 kd1 tt 9) (hd : zVd P tk kA vA qA N) (hK : zTK T m) (hN : zNn T m) (v0 : zV P tk kA vA qA tt N m T C0 aZ) (er : C0.2.2 = zu σ1.2.2 P 1 (some tt)) (es : zFi (fun c _ => c = P) (F_X9_clear tt (S0.1, S0.2.1, zu σ1.2.2 P 1 (some tt))) C0) (z1 : (aRun T 500 aZ).1 = 0) (z2 : (aRun T 500 aZ).2.2.2.1 = 0) : ∃ K : Nat, ((vEnd P T 500 aZ C0).1 tt 8).toInt = K ∧ K ≤ 420 ∧ (∀ k, k < 5 → zLc ((σ1.2.2 tt 6).getD 0) ((σ1.2.2 tt 7).getD 0) ((σ1.2.2 tt 9).getD 0) (vEnd P T 500 aZ C0) K k (gRun T (aGL T) 500 aZ (fun _ => none) k)) ∧ (∀ j, j < 4 → ((vEnd P T 500 aZ C0).1 tt (10 + j)).toInt = gRun T (aGS T) 500 aZ nS j) ∧ ((aRun T 500 aZ).2.2.2.2.2.1 ≠ 0 → ∀ j, 3 ≤ j → j ≤ 5 → ((vEnd P T 500 aZ C0).1 ((σ1.2.2 tt j).getD 0) 0).toInt = 0) := by
  have tP : tt ≠ P := zNk s2 P2 (by decide)
  have kr := fun j j1 j2 j3 => zTt_k hI1 s2 j j1 j2 j3
  have q6 : zT L1 kd1 ((σ1.2.2 tt 6).getD 0) 49 := kr 6 (by decide) (by decide) (by decide)
  have q7 : zT L1 kd1 ((σ1.2.2 tt 7).getD 0) 50 := kr 7 (by decide) (by decide) (by decide)
  have q9 : zT L1 kd1 ((σ1.2.2 tt 9).getD 0) 51 := kr 9 (by decide) (by decide) (by decide)
  have rT : ∀ j, zu σ1.2.2 P 1 (some tt) tt j = σ1.2.2 tt j := fun j => by rw [zu_n _ _ _ tP]
  have rC0 : ∀ j, C0.2.2 tt j = σ1.2.2 tt j := fun j => by rw [er, rT]
  obtain ⟨A6, h6⟩ : ∃ A6, A6 = (σ1.2.2 tt 6).getD 0 := ⟨_, rfl⟩
  obtain ⟨A7, h7⟩ : ∃ A7, A7 = (σ1.2.2 tt 7).getD 0 := ⟨_, rfl⟩
  obtain ⟨A9, h9⟩ : ∃ A9, A9 = (σ1.2.2 tt 9).getD 0 := ⟨_, rfl⟩
  rw [← h6, ← h7, ← h9]
  rw [← h6] at q6
  rw [← h7] at q7
  rw [← h9] at q9
  have nA : (A6 ≠ tt ∧ A7 ≠ tt) ∧ A6 ≠ A7 := ⟨⟨zNk q6 s2 (by decide), zNk q7 s2 (by decide)⟩, zNk q6 q7 (by decide)⟩
  have n9 : A9 ≠ tt ∧ A9 ≠ A6 ∧ A9 ≠ A7 := ⟨zNk q9 s2 (by decide), zNk q9 q6 (by decide), zNk q9 q7 (by decide)⟩
  have nP : tt ≠ P ∧ A6 ≠ P ∧ A7 ≠ P := ⟨tP, zNk q6 P2 (by decide), zNk q7 P2 (by decide)⟩
  have n9P : A9 ≠ P := zNk q9 P2 (by decide)
  have c5 := cClear5 (tt := tt) (σ := (S0.1, S0.2.1, zu σ1.2.2 P 1 (some tt))) n9 nA (by show (zu σ1.2.2 P 1 (some tt) tt 6).getD 0 = _ ∧ (zu σ1.2.2 P 1 (some tt) tt 7).getD 0 = _; rw [rT, rT]; exact ⟨h6.symm, h7.symm⟩) (by show (zu σ1.2.2 P 1 (some tt) tt 9).getD 0 = _; rw [rT]; exact h9.symm)
  have g0 : zCg tt A6 A7 A9 C0 aZ (fun _ => none) := zCg.st0 c5 es nP n9P
  have nu0 : zCn tt C0 aZ nS := zCn.st0 es tP
  have rg : ∀ τ : zS, (F_X3_telling P τ).2.2 = τ.2.2 := fun τ => rf_X3_telling (R := τ.2.2) rfl
  have rows : ∀ j, 2 ≤ j → j ≤ 9 → j ≠ 8 → (C0.2.2 tt j).getD 0 ≠ tt := fun j j1 j2 j3 => by
    rw [rC0]
    exact zNk (kr j j1 j2 j3) s2 (by split <;> omega)
  -- laws
  obtain ⟨-, VL, -⟩ := vEndI (tt := tt) hd hK (fun τ s g => zCg tt A6 A7 A9 τ s g ∧ τ.2.2 = C0.2.2) (aGL T) (fun τ s g hv hs hi => ⟨cTellL hd hK nP hN ⟨by rw [hi.2, rC0]; exact h6.symm, by rw [hi.2, rC0]; exact h7.symm⟩ (by rw [hi.2, rC0]; exact h9.symm) ⟨n9P, n9.1, n9.2.1, n9.2.2⟩ nA.1 (fun j j1 j2 => by
    rw [hi.2, rC0]
    have kj := kr j j1 (by omega) (by omega)
    rw [if_neg (by omega)] at kj
    exact ⟨zNk kj s2 (by omega), zNk kj q6 (by omega), zNk kj q7 (by omega), zNk kj q9 (by omega)⟩) hv hs hi.1, (rg τ).trans hi.2⟩) 500 C0 aZ (fun _ => none) v0 ⟨g0, rfl⟩
  -- numbers
  obtain ⟨-, VN, -⟩ := vEndI (tt := tt) hd hK (fun τ s g => zCn tt τ s g ∧ τ.2.2 = C0.2.2) (aGS T) (fun τ s g hv hs hi => ⟨cTellN hd hK tP (fun j j1 j2 j3 => by rw [hi.2]; exact rows j j1 j2 j3) hv hs hi.1, (rg τ).trans hi.2⟩) 500 C0 aZ nS v0 ⟨nu0, rfl⟩
  -- the mouth
  obtain ⟨W, hW⟩ : ∃ W : Nat → Nat, W = fun j => (σ1.2.2 tt j).getD 0 := ⟨_, rfl⟩
  have Wk : ∀ j, 2 ≤ j → j ≤ 5 → zT L1 kd1 (W j) (43 + j) := fun j j1 j2 => by
    have := kr j j1 (by omega) (by omega)
    rw [if_neg (by omega)] at this
    rw [hW]; exact this
  have hWz : zWz W P tt C0.2.2 := ⟨fun j j1 j2 => ⟨by rw [rC0, hW], zNk (Wk j j1 j2) P2 (by omega)⟩, fun i j i1 i2 j1 j2 n => zNk (Wk i i1 i2) (Wk j j1 j2) (by omega)⟩
  have hXz : zXz W tt C0.2.2 := fun j j1 j2 => by
    rw [rC0, rC0, rC0, ← h6, ← h7, ← h9]
    exact ⟨zNk (Wk j j1 j2) s2 (by omega), zNk (Wk j j1 j2) q6 (by omega), zNk (Wk j j1 j2) q7 (by omega), zNk (Wk j j1 j2) q9 (by omega)⟩
  obtain ⟨-, V0, -⟩ := vEndI (γ := Unit) (tt := tt) hd hK (fun τ s _ => zC0 W τ s ∧ τ.2.2 = C0.2.2) (fun _ g => g) (fun τ s g hv hs hi => ⟨cTell0 hd hK (by rw [hi.2]; exact hWz) (by rw [hi.2]; exact hXz) hv hs hi.1, (rg τ).trans hi.2⟩) 500 C0 aZ () v0 ⟨fun _ z => absurd rfl z, rfl⟩
  obtain ⟨CC, ⟨-, h8, -⟩, hl, -⟩ := id (VL z1)
  have VE := (vEndI (γ := Unit) (tt := tt) hd hK (fun _ _ _ => True) (fun _ g => g) (fun _ _ _ _ _ _ => trivial) 500 C0 aZ () v0 trivial).1
  have pm := (VE.2.2.2 z1).1
  have rk := hK.2.1
  refine ⟨CC.length, by rw [h8]; omega, by omega, fun k hk => VL.zL z1 (by rw [h8]; omega) hk, fun j hj => VN z1 j hj, fun cm j j1 j2 => ?_⟩
  have q := V0 z1 cm j j1 j2
  rw [hW] at q
  exact q
/-- the reference's side of a text that is good -/
theorem mLwS {T : zTn} {m k q v nm nO x b : Nat} {D0 : zS} (hJ : zJ κ L2 kd2 σ2) (hm : zT L2 kd2 m0 11) (hd : zWd m0 k q v nm nO) (hT : zTm T m) (hK : zTK T m) (w0 : zXo m0 k q v nm nO m T (zRi m0 D0) aZ) (dF : zFi (fun c j => (c = m0 ∧ (j = 2 ∨ j = 4 ∨ j = 10)) ∨ c = x ∨ c = k ∨ c = q ∨ c = v) σ2 D0) (tk : zT L2 kd2 x 103 ∧ zT L2 kd2 k 105 ∧ zT L2 kd2 q 106 ∧ zT L2 kd2 v 107) (hb1 : b ≤ 1) (h18 : (σ2.1 m0 18).toInt = 1 - (b : Int)) : zNo (mR σ2 m0) b σ2 (xEnd m0 T 500 aZ (zRi m0 D0)) ∧ ((aRun T 500 aZ).1 = 0 → (∀ k, k < 5 → zLm (mR σ2 m0) (420 * b) (130 * b) (xEnd m0 T 500 aZ (zRi m0 D0)) (420 * b + 420) (130 * b + 130) (5 * b + k) (gRun T (aGL T) 500 aZ (fun _ => none) k)) ∧ ∀ j, j < 4 → ((xEnd m0 T 500 aZ (zRi m0 D0)).1 (mR σ2 m0 (26 + j)) b).toInt = gRun T (aGS T) 500 aZ nS j) := by
  have hY := zYz.of hJ hm
  have nk : ∀ c kc : Nat, zT L2 kd2 c kc → kc ≠ 103 → kc ≠ 105 → kc ≠ 106 → kc ≠ 107 → c ≠ x ∧ c ≠ k ∧ c ≠ q ∧ c ≠ v := fun c kc hc n1 n2 n3 n4 => ⟨zNk hc tk.1 n1, zNk hc tk.2.1 n2, zNk hc tk.2.2.1 n3, zNk hc tk.2.2.2 n4⟩
  have m1 := nk m0 11 hm (by decide) (by decide) (by decide) (by decide)
  have d18 : D0.1 m0 18 = σ2.1 m0 18 := dF.2 _ _ (by
    rintro (⟨-, z⟩ | z | z | z | z)
    · omega
    · exact m1.1 z
    · exact m1.2.1 z
    · exact m1.2.2.1 z
    · exact m1.2.2.2 z)
  have rD : D0.2.2 = σ2.2.2 := dF.1
  have hYD : zYz (mR σ2 m0) m0 D0.2.2 := by rw [rD]; exact hY
  have hD18 : (D0.1 m0 18).toInt = 1 - (b : Int) := by rw [d18]; exact h18
  have X0 := zRi_x (t := D0) hYD hb1 hD18
  have N0 := zNo.st0 (t := D0) hYD hb1 hD18
  obtain ⟨t5, g1, g2, g3, g4, -, g26, g27, g28, g29⟩ := zRi_g (t := D0) hYD hb1 hD18
  have nu0 : zXn (mR σ2 m0) b (zRi m0 D0) aZ nS := fun _ j hj => by
    rcases (show j = 0 ∨ j = 1 ∨ j = 2 ∨ j = 3 by omega) with rfl | rfl | rfl | rfl
    · exact (congrArg Int32.toInt g26).trans (by decide)
    · exact (congrArg Int32.toInt g27).trans (by decide)
    · exact (congrArg Int32.toInt g28).trans (by decide)
    · exact (congrArg Int32.toInt g29).trans (by decide)
  rw [rD] at X0 hYD
  obtain ⟨I0, IX, IN, IO⟩ := xEndI hd hT hK (fun τ s (g : zGl × zNf) => zXl m0 (mR σ2 m0) σ2.2.2 b τ s g.1 ∧ zXn (mR σ2 m0) b τ s g.2 ∧ zNo (mR σ2 m0) b D0 τ) (fun s g => (aGL T s g.1, aGS T s g.2)) (fun τ s g h hs hi => by
    obtain ⟨h19, nb, nc, hl, -⟩ := hi.1 hs
    exact ⟨xTellL hd hT hK hY hb1 hi.1 h hs, xTellN hd hT hK hY hl.1 h19 h hs hi.2.1, hi.2.2.fi hY (xTell1 hd hT hK hY hl.1 h19 h hs)⟩) 500 (zRi m0 D0) aZ (fun _ => none, nS) w0 ⟨X0, nu0, N0⟩
  rw [gRun_2] at IX IN
  refine ⟨fun j j1 j2 i hi => ?_, fun z1 => ⟨fun w hw => ?_, fun j hj => IN z1 j hj⟩⟩
  · rw [IO j j1 j2 i hi]
    have qj : zQs j := by unfold zQs; omega
    obtain ⟨f, f21⟩ := zQs_k qj
    have tj : zT L2 kd2 (mR σ2 m0 j) (100 + j) := mR_t hJ hm f
    have mj := nk _ _ tj (by omega) (by omega) (by omega) (by omega)
    exact dF.2 _ _ (by
      rintro (⟨z, -⟩ | z | z | z | z)
      · exact (hY.1 j qj).2 z
      · exact mj.1 z
      · exact mj.2.1 z
      · exact mj.2.2.1 z
      · exact mj.2.2.2 z)
  · obtain ⟨-, nb, nc, -, -, h1, h2, h3⟩ := IX z1
    have pm := (I0.1.2.2.2.2 z1).1
    have rk := hK.2.1
    exact (h3 w hw).cg (by omega) (by omega) (fun _ _ _ => ⟨rfl, rfl⟩) (fun _ _ _ _ _ _ => rfl) rfl rfl
end LWR2
end
-- 35x93.lw26
section
section LWR3
variable {κ : Int} {L1 : List Nat} {kd1 : Nat → Nat} {L2 : List Nat} {kd2 : Nat → Nat} {σ1 σ2 τ1 τ2 : zS} {m0 x0 : Nat} {V : zWh} {ps pc sl td tt : Nat}
set_option maxHeartbeats 1000000 in
theorem zLw.read {v1 v2 : Int32} (hS : zSAM κ L1 kd1 L2 kd2 σ1 σ2) (hl : 0 < zM m0 σ2 → zLw x0 m0 σ1 σ2) (hL : zLay L1 kd1 x0 σ1.2.2 V ps pc sl) (hTt : zTt x0 σ1.2.2 td tt) (hI1 : zI κ 0 L1 kd1 σ1) (hI2 : zJ κ L2 kd2 σ2) (hx0 : zT L1 kd1 x0 10) (hm0 : zT L2 kd2 m0 11) (f1 : (v1, τ1) = F_X10_read x0 σ1) (f2 : (v2, τ2) = F_X11_read m0 σ2) (hk : zLkp m0 σ2 τ2) : 0 < zM m0 τ2 → zLw x0 m0 τ1 τ2 := by
  obtain ⟨T, m, P, tk, kA, vA, qA, tt', N0, k, q, v, nm, nO, x, p1, p2, C0, D0, S0, y, K, ⟨hd, hd', hTm, hK⟩, ⟨v0, w0⟩, ⟨e, e2⟩, ⟨P1, s1, P2, s2⟩, er, ef, es, dF, tks, hNn⟩ := zRead1N hS hI1 hI2 hx0 hm0
  have ett : tt' = tt := Option.some.inj (s1.symm.trans hTt.2.1)
  subst ett
  obtain ⟨c1, c2, c3⟩ := cRead hL hI1 hx0 hTt P1 P2 s2 hd hK v0 e er ef f1
  obtain ⟨b, E, hb1, h18, hE, rE, E19, EF, EX, m1, m2⟩ := mRead hI2 hm0 hd' hTm hK w0 e2 dF tks f2 (fun _ => (0, 0, 0, 0))
  obtain ⟨MO, MS⟩ := mLwS (b := b) hI2 hm0 hd' hTm hK w0 dF tks hb1 h18
  rw [← hE] at MO MS
  have d1 := hTt.1
  have td9 : zT L1 kd1 td 9 := by
    obtain ⟨z, z1, z2⟩ := zi_ref (j := 10) (k2 := 9) hI1 hx0 (by rfl)
    rw [d1] at z1
    rw [Option.some.inj z1]
    exact z2
  have xP : x0 ≠ P := zNk hx0 P2 (by decide)
  have tP : tt' ≠ P := zNk s2 P2 (by decide)
  have dP : td ≠ P := zNk td9 P2 (by decide)
  have kr := fun j j1 j2 j3 => zTt_k hI1 s2 j j1 j2 j3
  have krd := fun j j1 j2 j3 => zTt_k hI1 td9 j j1 j2 j3
  have gd : (σ1.2.2 x0 10).getD 0 = td := by rw [d1]; rfl
  by_cases za : aAns (aRun T 500 aZ) = 0
  · obtain ⟨⟨z1, z2⟩, g1, -, -, -, -, -, -, g8, g9, g10, -⟩ := c3 za
    obtain ⟨-, N2, l1, l2, -, l4, l5, -, -, -, -, l10⟩ := m2 za
    obtain ⟨X1, X2, X3⟩ := EX z1 z2
    obtain ⟨KK, b1, b2, b3, b4, b5⟩ := cLwS hI1 P2 s2 hd hK hNn v0 er es z1 z2
    obtain ⟨M1, M2⟩ := MS z1
    have r10 : (τ1.2.2 x0 10).getD 0 = tt' := by rw [g1, zu_s]; rfl
    have rt : τ1.2.2 tt' = σ1.2.2 tt' := by rw [g1, zu_n _ _ _ (zNk s2 hx0 (by decide)), zu_n _ _ _ (zNk s2 hx0 (by decide)), zu_n _ _ _ tP]
    have er2 : ∀ s, mR τ2 m0 s = mR σ2 m0 s := fun s => by rw [mR, l4]
    have eY : mR τ2 m0 = mR σ2 m0 := funext er2
    have eb : (τ2.1 m0 18).toInt.toNat = b := by rw [l5]; rfl
    have nB : ∀ x, zQs x → x ≤ 43 → ∀ j, ¬ zBm σ2 m0 (mR σ2 m0 x) j := fun x hx h43 j => by
      obtain ⟨hz, h21⟩ := zQs_k hx
      rintro (⟨z, -⟩ | z | z | z)
      · exact mR_m hI2 hm0 hz (by omega) z
      · exact mR_ne hI2 hm0 hz (s' := 48) (k' := 148) (by rfl) (by omega) z
      · exact mR_ne hI2 hm0 hz (s' := 49) (k' := 149) (by rfl) (by omega) z
      · exact mR_ne hI2 hm0 hz (s' := 67) (k' := 167) (by rfl) (by omega) z
    have Q : ∀ x, ((21 ≤ x ∧ x ≤ 31) ∨ (33 ≤ x ∧ x ≤ 37) ∨ x = 39 ∨ x = 40 ∨ x = 43) → zQs x := fun x hx => by unfold zQs; omega
    have lr : ∀ x, ((21 ≤ x ∧ x ≤ 31) ∨ (33 ≤ x ∧ x ≤ 37) ∨ x = 39 ∨ x = 40 ∨ x = 43) → ∀ j, τ2.1 (mR σ2 m0 x) j = E.1 (mR σ2 m0 x) j := fun x hx j => l10 _ _ (nB x (Q x hx) (by omega) j)
    have M21 : zM m0 τ2 = N2 := by
      unfold zM zp
      show (τ2.1 (mR τ2 m0 21) (τ2.1 m0 18).toInt.toNat).toInt = N2
      rw [er2, eb, lr 21 (by decide)]
      exact l2
    have GN := gN_run (T := T) 500 aZ nS (fun _ _ => ⟨by decide, by decide, by decide, by decide⟩) z1 z2
    obtain ⟨W, hW⟩ : ∃ W : Nat → Nat, W = fun j => (σ1.2.2 tt' j).getD 0 := ⟨_, rfl⟩
    have Wk : ∀ j, 2 ≤ j → j ≤ 5 → zT L1 kd1 (W j) (43 + j) := fun j j1 j2 => by
      have := kr j j1 (by omega) (by omega)
      rw [if_neg (by omega)] at this
      rw [hW]; exact this
    have rC0 : ∀ j, C0.2.2 tt' j = σ1.2.2 tt' j := fun j => by rw [er, zu_n _ _ _ tP]
    have hWz : zWz W P tt' C0.2.2 := ⟨fun j j1 j2 => ⟨by rw [rC0, hW], zNk (Wk j j1 j2) P2 (by omega)⟩, fun i j i1 i2 j1 j2 n => zNk (Wk i i1 i2) (Wk j j1 j2) (by omega)⟩
    have hXz : ∀ j, 2 ≤ j → j ≤ 5 → W j ≠ tt' ∧ W j ≠ (C0.2.2 tt' 6).getD 0 ∧ W j ≠ (C0.2.2 tt' 7).getD 0 ∧ W j ≠ (C0.2.2 tt' 9).getD 0 := fun j j1 j2 => by
      have q6 : zT L1 kd1 ((σ1.2.2 tt' 6).getD 0) 49 := kr 6 (by decide) (by decide) (by decide)
      have q7 : zT L1 kd1 ((σ1.2.2 tt' 7).getD 0) 50 := kr 7 (by decide) (by decide) (by decide)
      have q9 : zT L1 kd1 ((σ1.2.2 tt' 9).getD 0) 51 := kr 9 (by decide) (by decide) (by decide)
      rw [rC0, rC0, rC0]
      exact ⟨zNk (Wk j j1 j2) s2 (by omega), zNk (Wk j j1 j2) q6 (by omega), zNk (Wk j j1 j2) q7 (by omega), zNk (Wk j j1 j2) q9 (by omega)⟩
    obtain ⟨-, VG, -⟩ := vEndI (tt := tt') hd hK (fun τ s g => zVg W τ s g ∧ τ.2.2 = C0.2.2) (aG T) (fun τ s g hv hs hi => ⟨vTellG hd hK hv hs (by rw [hi.2]; exact hWz) (by rw [hi.2]; exact hXz) hi.1, by rw [show (F_X3_telling P τ).2.2 = τ.2.2 from rf_X3_telling (R := τ.2.2) rfl]; exact hi.2⟩) 500 C0 aZ (fun _ => (0, 0, 0, 0)) v0 ⟨fun _ _ p h1 h2 => by have h2' : (p : Int) ≤ 0 := h2; omega, rfl⟩
    have VG' := VG z1 z2
    refine fun _ => ⟨tt', b, KK, gRun T (aGL T) 500 aZ (fun _ => none), r10, eb, ⟨by rw [g9 8 (by decide)]; exact b1, b2⟩, fun w hw => ⟨?_, ?_⟩, fun j p j1 j2 hp => ?_, fun j hj => ?_, ?_⟩
    · rw [rt]
      exact (b3 w hw).cg (g10 6 (by decide) (by decide) (by decide)) (g10 7 (by decide) (by decide) (by decide)) (g10 9 (by decide) (by decide) (by decide))
    · rw [eY]
      exact (M1 w hw).cg (Nat.le_refl _) (Nat.le_refl _) (fun i _ _ => ⟨lr 39 (by decide) i, lr 40 (by decide) i⟩) (fun j i j1 j2 _ _ => lr j (by omega) i) (lr 30 (by decide) _) (lr 31 (by decide) _)
    · rw [M21] at hp
      have cm : (aRun T 500 aZ).2.2.2.2.2.1 ≠ 0 := fun z => by
        rw [l2, if_pos z] at X1
        omega
      have hp' : (p : Int) ≤ (aRun T 500 aZ).2.2.2.2.2.2.1 := by
        rw [l2, if_neg cm] at X1
        omega
      rw [rt, er2, g10 j (by omega) (by omega) (by omega), lr (20 + j) (by omega)]
      refine Int32.toInt_inj.mp ?_
      by_cases p0 : p = 0
      · subst p0
        rw [b5 cm j j1 j2]
        obtain ⟨y3, y4, y5⟩ := X2 cm
        rw [Nat.add_zero]
        rcases (show j = 3 ∨ j = 4 ∨ j = 5 by omega) with rfl | rfl | rfl
        · exact y3.symm
        · exact y4.symm
        · exact y5.symm
      · have q1 := VG' p (by omega) hp'
        have q2 := X3 p (by omega) hp'
        rw [hW] at q1
        rcases (show j = 3 ∨ j = 4 ∨ j = 5 by omega) with rfl | rfl | rfl
        · exact q1.2.1.trans q2.2.1.symm
        · exact q1.2.2.1.trans q2.2.2.1.symm
        · exact q1.2.2.2.trans q2.2.2.2.symm
    · rw [er2, g9 (10 + j) (by omega), lr (26 + j) (by omega)]
      exact Int32.toInt_inj.mp ((b4 j hj).trans (M2 j hj).symm)
    · have q := b4 1 (by decide)
      have q' : ((vEnd P T 500 aZ C0).1 tt' 11).toInt = gRun T (aGS T) 500 aZ nS 1 := q
      rw [g9 11 (by decide), q']
      exact GN.2.1
  · obtain ⟨g1, g2⟩ := c2 za
    obtain ⟨l1, l2⟩ := m1 za
    intro hz
    have r18a : 0 ≤ (σ2.1 m0 18).toInt ∧ (σ2.1 m0 18).toInt ≤ 1 := zj_get (j := 18) hI2 hm0 (lo := 0) (hi := 1) (by rfl)
    have la : ∀ c j, ¬ (c = m0 ∧ j = 17) → ¬ zAm (mR σ2 m0) m0 b x k q v c j → τ2.1 c j = σ2.1 c j := fun c j n1 n2 => (l2 c j n1).trans (EF c j n2)
    have e18a : τ2.1 m0 18 = σ2.1 m0 18 := la _ _ (fun z => by omega) (zAm.fld hI2 hm0 tks (by omega))
    have M2a : zM m0 τ2 = zM m0 σ2 := by
      have e21 : τ2.1 (mR σ2 m0 21) (σ2.1 m0 18).toInt.toNat = σ2.1 (mR σ2 m0 21) (σ2.1 m0 18).toInt.toNat := la _ _ (fun z => mR_m hI2 hm0 (s := 21) (k := 121) (by rfl) (by decide) z.1) (zAm.r21 hI2 hm0 tks (by omega))
      unfold zM zp
      rw [e18a]
      show (τ2.1 (mR τ2 m0 21) _).toInt = (σ2.1 (mR σ2 m0 21) _).toInt
      rw [show mR τ2 m0 21 = mR σ2 m0 21 by rw [mR, l1], e21]
    obtain ⟨td', B, KK, g, e10, eB, ⟨k1, k2⟩, hg, hr, hn, hs⟩ := hl (by rw [← M2a]; exact hz)
    rw [gd] at e10
    subst e10
    have ro : ∀ c, c ≠ P → τ1.2.2 c = σ1.2.2 c := fun c h1 => by rw [g1, zu_n _ _ _ h1]
    have er2 : ∀ s, mR τ2 m0 s = mR σ2 m0 s := fun s => by rw [mR, l1]
    have eY : mR τ2 m0 = mR σ2 m0 := funext er2
    have r18 : 0 ≤ (σ2.1 m0 18).toInt ∧ (σ2.1 m0 18).toInt ≤ 1 := zj_get (j := 18) hI2 hm0 (lo := 0) (hi := 1) (by rfl)
    have l : ∀ c j, ¬ (c = m0 ∧ j = 17) → ¬ zAm (mR σ2 m0) m0 b x k q v c j → τ2.1 c j = σ2.1 c j := fun c j n1 n2 => (l2 c j n1).trans (EF c j n2)
    have e18 : τ2.1 m0 18 = σ2.1 m0 18 := l _ _ (fun z => by omega) (zAm.fld hI2 hm0 tks (by omega))
    have hB : (σ2.1 m0 18).toInt = B := by omega
    have bB : B + b = 1 := by omega
    -- the class
    have krn : ∀ i, 2 ≤ i → i ≤ 9 → i ≠ 8 → ∀ j, 2 ≤ j → j ≤ 9 → j ≠ 8 → (σ1.2.2 td j).getD 0 ≠ (σ1.2.2 tt' i).getD 0 := fun i i1 i2 i3 j j1 j2 j3 z => by
      by_cases ij : i = j
      · subst ij
        exact hTt.2.2.2 i (by omega) i2 i3 z
      · have a1 := (kr i i1 i2 i3).2
        have a2 := (krd j j1 j2 j3).2
        rw [z, a1] at a2
        split at a2 <;> split at a2 <;> omega
    have fy : ∀ j, 2 ≤ j → j ≤ 9 → j ≠ 8 → τ1.1 ((σ1.2.2 td j).getD 0) = σ1.1 ((σ1.2.2 td j).getD 0) := fun j j1 j2 j3 => funext (fun i => by
      have kj := krd j j1 j2 j3
      have kj2 : 45 ≤ kd1 ((σ1.2.2 td j).getD 0) ∧ kd1 ((σ1.2.2 td j).getD 0) ≤ 51 := by
        rw [kj.2]
        split <;> omega
      exact g2 _ _ (by
        rintro (⟨-, z⟩ | z | ⟨i', i1, i2, i3, z⟩)
        · omega
        · rw [z, s2.2] at kj2; omega
        · exact krn i' i1 i2 i3 j j1 j2 j3 z) (fun z => by rw [z.1, hx0.2] at kj2; omega) (by omega))
    have ft : ∀ j, τ1.1 td j = σ1.1 td j := fun j => g2 td j (by
      rintro (⟨-, z⟩ | z | ⟨i', i1, i2, i3, z⟩)
      · rw [td9.2] at z; omega
      · exact hTt.2.2.1 z
      · have a1 := (kr i' i1 i2 i3).2
        rw [← z, td9.2] at a1
        split at a1 <;> omega) (fun z => zNk td9 hx0 (by decide) z.1) (by rw [td9.2]; decide)
    have rd : τ1.2.2 td = σ1.2.2 td := ro td dP
    have M2 : zM m0 τ2 = zM m0 σ2 := by
      have e21 : τ2.1 (mR σ2 m0 21) (σ2.1 m0 18).toInt.toNat = σ2.1 (mR σ2 m0 21) (σ2.1 m0 18).toInt.toNat := l _ _ (fun z => mR_m hI2 hm0 (s := 21) (k := 121) (by rfl) (by decide) z.1) (zAm.r21 hI2 hm0 tks (by omega))
      unfold zM zp
      rw [e18]
      show (τ2.1 (mR τ2 m0 21) _).toInt = (σ2.1 (mR σ2 m0 21) _).toInt
      rw [er2, e21]
    refine ⟨td, B, KK, g, by rw [ro x0 xP]; exact gd, by rw [e18]; exact eB, ⟨by rw [ft]; exact k1, k2⟩, fun w hw => ⟨?_, ?_⟩, fun j p j1 j2 hp => ?_, fun j hj => ?_, by rw [ft]; exact hs⟩
    · rw [rd]
      exact (hg w hw).1.cg (fy 6 (by decide) (by decide) (by decide)) (fy 7 (by decide) (by decide) (by decide)) (fy 9 (by decide) (by decide) (by decide))
    · rw [eY]
      exact zLm.lk hk er2 hB hw (hg w hw).2
    · rw [M2] at hp
      have mN : zM m0 σ2 ≤ 12 := (zM_in hI2 hm0).2
      have qj : zQs (20 + j) := by unfold zQs; omega
      have tj : zT L2 kd2 (mR σ2 m0 (20 + j)) (100 + (20 + j)) := mR_t hI2 hm0 (zQs_k qj).1
      rw [rd, fy j (by omega) (by omega) (by omega), er2, hr j p j1 j2 hp]
      refine (l _ _ (fun z => mR_m hI2 hm0 (zQs_k qj).1 (by omega) z.1) ?_).symm
      have n : ∀ i, zQs i → i ≠ 20 + j → mR σ2 m0 (20 + j) ≠ mR σ2 m0 i := fun i hi h => mR_ne hI2 hm0 (zQs_k qj).1 (zQs_k hi).1 (by omega)
      rintro ((⟨z, -⟩ | ⟨-, z1, z2⟩ | ⟨z, -⟩ | ⟨i, z1, z2, z3, z⟩) | ⟨z, -⟩ | z | z | z | z)
      · exact zNk tj hm0 (by omega) z
      · omega
      · exact n 21 (by unfold zQs; omega) (by omega) z
      · exact n i z1 (by omega) z
      · exact zNk tj hm0 (by omega) z
      · exact zNk tj tks.1 (by omega) z
      · exact zNk tj tks.2.1 (by omega) z
      · exact zNk tj tks.2.2.1 (by omega) z
      · exact zNk tj tks.2.2.2 (by omega) z
    · have qj : zQs (26 + j) := by unfold zQs; omega
      rw [ft, er2, hn j hj]
      have a1 := l2 (mR σ2 m0 (26 + j)) B (fun z => mR_m hI2 hm0 (zQs_k qj).1 (by omega) z.1)
      have a2 := MO (26 + j) (by omega) (by omega) B (by omega)
      exact (a1.trans a2).symm
end LWR3
end
-- 35x94.lw27
section
/-! THE CLASS' RIVER: what a law tells of a place -/
theorem pEta {α β : Type} (p : α × β) : (p.1, p.2) = p := rfl
/-- where all lies: 0 river 1 shape 2 code 3 told 4 course 5 rains 6 flow 7 claims 8 vars 9 kept 10 length 11 rain 12 tale 13 steps 14 values 15 start 16 line 17 far 18 above 19 into 20 won 21 money -/
def zQr (q : Nat → Nat) (R : Nat → Nat → Option Nat) : Prop := (((R (q 0) 0).getD 0 = q 1 ∧ (R (q 0) 1).getD 0 = q 2 ∧ (R (q 0) 5).getD 0 = q 3 ∧ (R (q 0) 6).getD 0 = q 4 ∧ (R (q 0) 2).getD 0 = q 5 ∧ (R (q 0) 3).getD 0 = q 6 ∧ (R (q 0) 4).getD 0 = q 7) ∧ ((R (q 2) 0).getD 0 = q 8 ∧ (R (q 2) 1).getD 0 = q 9) ∧ ((R (q 3) 3).getD 0 = q 10 ∧ (R (q 3) 4).getD 0 = q 11 ∧ (R (q 3) 5).getD 0 = q 12 ∧ (R (q 3) 6).getD 0 = q 13 ∧ (R (q 3) 7).getD 0 = q 14 ∧ (R (q 3) 9).getD 0 = q 15) ∧ ((R (q 1) 2).getD 0 = q 16 ∧ (R (q 1) 3).getD 0 = q 17 ∧ (R (q 1) 4).getD 0 = q 18) ∧ (R (q 4) 0).getD 0 = q 19 ∧ (R (q 4) 1).getD 0 = q 20 ∧ (R (q 4) 2).getD 0 = q 21) ∧ ∀ i j, i < 22 → j < 22 → i ≠ j → ¬ q i = q j
/-- the facts of a place p of which f flows -/
def fCt (q : Nat → Nat) (s : zS) (p : Int32) (f : Int32) : Nat → Int32
  | 0 => s.1 (q 11) p.toNatClampNeg
  | 1 => s.1 (q 17) p.toNatClampNeg
  | 2 => s.1 (q 12) p.toNatClampNeg
  | 3 => s.1 (q 4) 4 - s.1 (q 4) 4 / 12 * 12
  | 4 => f
  | 5 => s.1 (q 10) p.toNatClampNeg
  | 6 => s.1 (q 20) p.toNatClampNeg
  | 7 => p
  | _ => s.1 (q 18) p.toNatClampNeg
/-- the five laws of the class -/
def zL5 (q : Nat → Nat) (s : zS) (g : zGl) : Prop := ∃ K : Nat, (s.1 (q 3) 8).toInt = K ∧ K ≤ 420 ∧ ∀ k, k < 5 → zLc (q 13) (q 14) (q 15) s K k (g k)
/-- what going through a law writes -/
def zTw (q : Nat → Nat) : Nat → Nat → Prop := fun c _ => c = q 8 ∨ c = q 9
section TELLSC
variable {q : Nat → Nat} {R : Nat → Nat → Option Nat} {s t τ : zS} {g : zGl} {p f : Int32}
theorem zQr.n (h : zQr q R) {i j : Nat} (hi : i < 22) (hj : j < 22) (n : i ≠ j) : ¬ q i = q j := h.2 i j hi hj n
theorem zTw.r (h : zQr q R) (f : zFr (zTw q) s t) {i : Nat} (hi : i < 22) (n8 : i ≠ 8) (n9 : i ≠ 9) : t.1 (q i) = s.1 (q i) := funext (fun j => f.2 (q i) j (by
  rintro (z | z)
  · exact h.n hi (by decide) n8 z
  · exact h.n hi (by decide) n9 z))
theorem zL5.cg (h : zL5 q s g) (e8 : t.1 (q 3) 8 = s.1 (q 3) 8) (e : ∀ i, (i = 13 ∨ i = 14 ∨ i = 15) → t.1 (q i) = s.1 (q i)) : zL5 q t g := by
  obtain ⟨K, h1, h2, h3⟩ := h
  exact ⟨K, by rw [e8]; exact h1, h2, fun k hk => (h3 k hk).cg (e 13 (by omega)) (e 14 (by omega)) (e 15 (by omega))⟩
theorem fCt.cg (e : ∀ i, (i = 4 ∨ i = 10 ∨ i = 11 ∨ i = 12 ∨ i = 17 ∨ i = 18 ∨ i = 20) → t.1 (q i) = s.1 (q i)) : fCt q t p f = fCt q s p f := by
  funext i
  unfold fCt
  split
  · rw [e 11 (by omega)]
  · rw [e 17 (by omega)]
  · rw [e 12 (by omega)]
  · rw [e 4 (by omega)]
  · rfl
  · rw [e 10 (by omega)]
  · rw [e 20 (by omega)]
  · rfl
  · rw [e 18 (by omega)]
theorem cTells (h : zQr q s.2.2) (hg : zL5 q s g) {k : Int32} {w : Nat} (hk : k.toInt = w) (hw : w < 5) : ∃ τ, F_X5_tells (q 0) k p f s = (evB (fCt q s p f) (lwB w (g w)), τ) ∧ zFr (zTw q) s τ := by
  obtain ⟨⟨⟨g1, g2, g3, g4, -, -, -⟩, ⟨g8, g9⟩, ⟨g10, g11, g12, g13, g14, g15⟩, ⟨-, g17, g18⟩, -, g20, -⟩, hn⟩ := id h
  have w0 : (0 : Int32).toNatClampNeg = 0 := by decide
  have w1 : (1 : Int32).toNatClampNeg = 1 := by decide
  have w2 : (2 : Int32).toNatClampNeg = 2 := by decide
  have w3 : (3 : Int32).toNatClampNeg = 3 := by decide
  have w4 : (4 : Int32).toNatClampNeg = 4 := by decide
  have w5 : (5 : Int32).toNatClampNeg = 5 := by decide
  have w6 : (6 : Int32).toNatClampNeg = 6 := by decide
  have w7 : (7 : Int32).toNatClampNeg = 7 := by decide
  have w8 : (8 : Int32).toNatClampNeg = 8 := by decide
  have z4 : ¬ q 4 = q 8 := hn 4 8 (by decide) (by decide) (by decide)
  have z10 : ¬ q 10 = q 8 := hn 10 8 (by decide) (by decide) (by decide)
  have z11 : ¬ q 11 = q 8 := hn 11 8 (by decide) (by decide) (by decide)
  have z12 : ¬ q 12 = q 8 := hn 12 8 (by decide) (by decide) (by decide)
  have z17 : ¬ q 17 = q 8 := hn 17 8 (by decide) (by decide) (by decide)
  have z18 : ¬ q 18 = q 8 := hn 18 8 (by decide) (by decide) (by decide)
  have z20 : ¬ q 20 = q 8 := hn 20 8 (by decide) (by decide) (by decide)
  obtain ⟨ft, hft⟩ : ∃ ft, ft = fCt q s p f := ⟨_, rfl⟩
  obtain ⟨u, hu⟩ : ∃ u : zS, u = (zu (zu (zu (zu (zu (zu (zu (zu (zu s.1 (q 8) 0 (ft 0)) (q 8) 1 (ft 1)) (q 8) 2 (ft 2)) (q 8) 3 (ft 3)) (q 8) 4 (ft 4)) (q 8) 5 (ft 5)) (q 8) 6 (ft 6)) (q 8) 7 (ft 7)) (q 8) 8 (ft 8), s.2.1, s.2.2) := ⟨_, rfl⟩
  have E : F_X5_tells (q 0) k p f s = F_X0_answer (q 2) (q 3) k u := by
    have f0 : ft 0 = s.1 (q 11) p.toNatClampNeg := by rw [hft]; rfl
    have f1 : ft 1 = s.1 (q 17) p.toNatClampNeg := by rw [hft]; rfl
    have f2 : ft 2 = s.1 (q 12) p.toNatClampNeg := by rw [hft]; rfl
    have f3 : ft 3 = s.1 (q 4) 4 - s.1 (q 4) 4 / 12 * 12 := by rw [hft]; rfl
    have f4 : ft 4 = f := by rw [hft]; rfl
    have f5 : ft 5 = s.1 (q 10) p.toNatClampNeg := by rw [hft]; rfl
    have f6 : ft 6 = s.1 (q 20) p.toNatClampNeg := by rw [hft]; rfl
    have f7 : ft 7 = p := by rw [hft]; rfl
    have f8 : ft 8 = s.1 (q 18) p.toNatClampNeg := by rw [hft]; rfl
    rw [hu, f0, f1, f2, f3, f4, f5, f6, f7, f8]
    unfold F_X5_tells F_X1_moon
    simp only [↓zlt, ↓zlt2, g1, g2, g3, g4, g8, g10, g11, g12, g17, g18, g20, w0, w1, w2, w3, w4, w5, w6, w7, w8, zu_n _ _ _ z4, zu_n _ _ _ z10, zu_n _ _ _ z11, zu_n _ _ _ z12, zu_n _ _ _ z17, zu_n _ _ _ z18, zu_n _ _ _ z20, pEta]
  have fu : zFr (zTw q) s u := by
    rw [hu]
    exact ((((((((zFr.id.w (Or.inl rfl)).w (Or.inl rfl)).w (Or.inl rfl)).w (Or.inl rfl)).w (Or.inl rfl)).w (Or.inl rfl)).w (Or.inl rfl)).w (Or.inl rfl)).w (Or.inl rfl)
  obtain ⟨K, k1, k2, k3⟩ := hg
  have ru : u.2.2 = s.2.2 := fu.rf
  have row : ∀ i, i < 22 → i ≠ 8 → i ≠ 9 → u.1 (q i) = s.1 (q i) := fun i hi n8 n9 => zTw.r h fu hi n8 n9
  have Ec : zEc (q 2) (q 3) (q 9) (q 8) (q 13) (q 14) K ft u := by
    refine ⟨⟨by rw [ru]; exact g9, by rw [ru]; exact g8, by rw [ru]; exact g13, by rw [ru]; exact g14⟩, ⟨hn 8 9 (by decide) (by decide) (by decide), hn 13 9 (by decide) (by decide) (by decide), hn 14 9 (by decide) (by decide) (by decide), hn 3 9 (by decide) (by decide) (by decide)⟩, by rw [row 3 (by decide) (by decide) (by decide)]; exact k1, k2, fun i hi => ?_⟩
    rw [hu]
    show zu (zu (zu (zu (zu (zu (zu (zu (zu s.1 (q 8) 0 (ft 0)) (q 8) 1 (ft 1)) (q 8) 2 (ft 2)) (q 8) 3 (ft 3)) (q 8) 4 (ft 4)) (q 8) 5 (ft 5)) (q 8) 6 (ft 6)) (q 8) 7 (ft 7)) (q 8) 8 (ft 8) (q 8) i = ft i
    rcases (show i = 0 ∨ i = 1 ∨ i = 2 ∨ i = 3 ∨ i = 4 ∨ i = 5 ∨ i = 6 ∨ i = 7 ∨ i = 8 by omega) with rfl | rfl | rfl | rfl | rfl | rfl | rfl | rfl | rfl
    · rw [zu_j _ _ _ _ _ (by decide), zu_j _ _ _ _ _ (by decide), zu_j _ _ _ _ _ (by decide), zu_j _ _ _ _ _ (by decide), zu_j _ _ _ _ _ (by decide), zu_j _ _ _ _ _ (by decide), zu_j _ _ _ _ _ (by decide), zu_j _ _ _ _ _ (by decide), zu_s]
    · rw [zu_j _ _ _ _ _ (by decide), zu_j _ _ _ _ _ (by decide), zu_j _ _ _ _ _ (by decide), zu_j _ _ _ _ _ (by decide), zu_j _ _ _ _ _ (by decide), zu_j _ _ _ _ _ (by decide), zu_j _ _ _ _ _ (by decide), zu_s]
    · rw [zu_j _ _ _ _ _ (by decide), zu_j _ _ _ _ _ (by decide), zu_j _ _ _ _ _ (by decide), zu_j _ _ _ _ _ (by decide), zu_j _ _ _ _ _ (by decide), zu_j _ _ _ _ _ (by decide), zu_s]
    · rw [zu_j _ _ _ _ _ (by decide), zu_j _ _ _ _ _ (by decide), zu_j _ _ _ _ _ (by decide), zu_j _ _ _ _ _ (by decide), zu_j _ _ _ _ _ (by decide), zu_s]
    · rw [zu_j _ _ _ _ _ (by decide), zu_j _ _ _ _ _ (by decide), zu_j _ _ _ _ _ (by decide), zu_j _ _ _ _ _ (by decide), zu_s]
    · rw [zu_j _ _ _ _ _ (by decide), zu_j _ _ _ _ _ (by decide), zu_j _ _ _ _ _ (by decide), zu_s]
    · rw [zu_j _ _ _ _ _ (by decide), zu_j _ _ _ _ _ (by decide), zu_s]
    · rw [zu_j _ _ _ _ _ (by decide), zu_s]
    · rw [zu_s]
  obtain ⟨τ, a1, a2⟩ := cLawA (p2 := k) Ec (by rw [ru]; exact g15) hk ((k3 w hw).cg (row 13 (by decide) (by decide) (by decide)) (row 14 (by decide) (by decide) (by decide)) (row 15 (by decide) (by decide) (by decide)))
  refine ⟨τ, ?_, fu.tr (zFr.up a2 (fun c j z => Or.inr z))⟩
  rw [E, a1, hft]
/-- held between, as the class does and as the reference does -/
theorem held_e {v lo hi : Int32} (h : lo.toInt ≤ hi.toInt) : F_X10_held v lo hi = F_X11_within v lo hi := by
  unfold F_X10_held F_X11_within
  simp only [zlt]
  by_cases c1 : hi.toInt ≤ v.toInt
  · rw [if_pos c1, if_pos h]
    by_cases c2 : v.toInt < lo.toInt
    · have e : hi = lo := Int32.toInt_inj.mp (by omega)
      rw [if_pos c2, e]
    · rw [if_neg c2]
      by_cases c3 : hi.toInt < v.toInt
      · rw [if_pos c3]
      · rw [if_neg c3]
        exact Int32.toInt_inj.mp (by omega)
  · rw [if_neg c1]
    by_cases c2 : lo.toInt ≤ v.toInt
    · rw [if_pos c2, if_neg (by omega), if_neg (by omega)]
    · rw [if_neg c2, if_pos (by omega)]
theorem held_r {v lo hi : Int32} (h : lo.toInt ≤ hi.toInt) : lo.toInt ≤ (F_X10_held v lo hi).toInt ∧ (F_X10_held v lo hi).toInt ≤ hi.toInt := by
  unfold F_X10_held
  simp only [zlt]
  by_cases c1 : hi.toInt ≤ v.toInt
  · rw [if_pos c1, if_pos h]
    omega
  · rw [if_neg c1]
    by_cases c2 : lo.toInt ≤ v.toInt
    · rw [if_pos c2]
      omega
    · rw [if_neg c2]
      omega
end TELLSC
end
-- 35x95.lw28
section
/-! THE REFERENCE'S RIVER: what a law tells of a place -/
def zYj (j : Nat) : Prop := (21 ≤ j ∧ j ≤ 31) ∨ (33 ≤ j ∧ j ≤ 37) ∨ j = 39 ∨ j = 40 ∨ j = 45 ∨ j = 46 ∨ j = 48 ∨ j = 49 ∨ (52 ≤ j ∧ j ≤ 55)
def zYm (Y : Nat → Nat) (a : Nat) (R : Nat → Nat → Option Nat) : Prop := (∀ j, zYj j → (R a j).getD 0 = Y j ∧ ¬ Y j = a) ∧ ∀ i j, zYj i → zYj j → i ≠ j → ¬ Y i = Y j
/-- the facts of a place p of which f flows -/
noncomputable def fMt (Y : Nat → Nat) (b : Nat) (s : zS) (p : Int32) (f : Int32) : Nat → Int32
  | 0 => s.1 (Y 24) (12 * b + p.toNatClampNeg)
  | 1 => s.1 (Y 52) p.toNatClampNeg
  | 2 => s.1 (Y 25) (12 * b + p.toNatClampNeg)
  | 3 => s.1 (Y 49) 48 - s.1 (Y 49) 48 / 12 * 12
  | 4 => f
  | 5 => s.1 (Y 23) (12 * b + p.toNatClampNeg)
  | 6 => s.1 (Y 49) (24 + p.toNatClampNeg)
  | 7 => p
  | _ => F_X11_bits (s.1 (Y 54) p.toNatClampNeg) - 1
/-- the five laws of the reference -/
def zW5 (Y : Nat → Nat) (b : Nat) (s : zS) (g : zGl) : Prop := ∀ k, k < 5 → zLm Y (420 * b) (130 * b) s (420 * b + 420) (130 * b + 130) (5 * b + k) (g k) ∧ okB (lwB k (g k))
/-- what going through a law writes -/
def zUw (Y : Nat → Nat) (a : Nat) : Nat → Nat → Prop := fun c j => c = Y 45 ∨ c = Y 46 ∨ (c = a ∧ j = 47)
section TELLSM
variable {a b : Nat} {Y : Nat → Nat} {R : Nat → Nat → Option Nat} {s t τ : zS} {g : zGl} {p f : Int32}
theorem zUw.r (h : zYm Y a R) (g : zFr (zUw Y a) s t) {j : Nat} (hj : zYj j) (n5 : j ≠ 45) (n6 : j ≠ 46) : t.1 (Y j) = s.1 (Y j) := funext (fun i => g.2 (Y j) i (by
  rintro (z | z | z)
  · exact h.2 j 45 hj (by unfold zYj; omega) n5 z
  · exact h.2 j 46 hj (by unfold zYj; omega) n6 z
  · exact (h.1 j hj).2 z.1))
theorem zUw.fl (h : zYm Y a R) (g : zFr (zUw Y a) s t) {j : Nat} (n : j ≠ 47) : t.1 a j = s.1 a j := g.2 a j (by
  rintro (z | z | z)
  · exact (h.1 45 (by unfold zYj; omega)).2 z.symm
  · exact (h.1 46 (by unfold zYj; omega)).2 z.symm
  · exact n z.2)
theorem zW5.cg (h : zW5 Y b s g) (e : ∀ j, (j = 30 ∨ j = 31 ∨ (33 ≤ j ∧ j ≤ 37) ∨ j = 39 ∨ j = 40) → t.1 (Y j) = s.1 (Y j)) : zW5 Y b t g := fun k hk => ⟨(h k hk).1.cg (Nat.le_refl _) (Nat.le_refl _) (fun i _ _ => ⟨by rw [e 39 (by omega)], by rw [e 40 (by omega)]⟩) (fun j i j1 j2 _ _ => by rw [e j (by omega)]) (by rw [e 30 (by omega)]) (by rw [e 31 (by omega)]), (h k hk).2⟩
theorem fMt.cg (e : ∀ j, (j = 23 ∨ j = 24 ∨ j = 25 ∨ j = 49 ∨ j = 52 ∨ j = 54) → t.1 (Y j) = s.1 (Y j)) : fMt Y b t p f = fMt Y b s p f := by
  funext i
  unfold fMt
  split
  · rw [e 24 (by omega)]
  · rw [e 52 (by omega)]
  · rw [e 25 (by omega)]
  · rw [e 49 (by omega)]
  · rfl
  · rw [e 23 (by omega)]
  · rw [e 49 (by omega)]
  · rfl
  · rw [e 54 (by omega)]
theorem mLooks (h : zYm Y a s.2.2) (h18 : (s.1 a 18).toInt = b) (hb : b ≤ 1) {P : Nat} (hp : p.toInt = P) (hP : P < 12) : zFr (zUw Y a) s (F_X11_looks a p f s) ∧ ∀ i, i < 9 → (F_X11_looks a p f s).1 (Y 45) i = fMt Y b s p f i := by
  have e12 : (12 : Int32).toInt = 12 := by decide
  have e24 : (24 : Int32).toInt = 24 := by decide
  have w0 : (0 : Int32).toNatClampNeg = 0 := by decide
  have w1 : (1 : Int32).toNatClampNeg = 1 := by decide
  have w2 : (2 : Int32).toNatClampNeg = 2 := by decide
  have w3 : (3 : Int32).toNatClampNeg = 3 := by decide
  have w4 : (4 : Int32).toNatClampNeg = 4 := by decide
  have w5 : (5 : Int32).toNatClampNeg = 5 := by decide
  have w6 : (6 : Int32).toNatClampNeg = 6 := by decide
  have w7 : (7 : Int32).toNatClampNeg = 7 := by decide
  have w8 : (8 : Int32).toNatClampNeg = 8 := by decide
  have w48 : (48 : Int32).toNatClampNeg = 48 := by decide
  have q : ∀ j, (j = 23 ∨ j = 24 ∨ j = 25 ∨ j = 45 ∨ j = 49 ∨ j = 52 ∨ j = 54) → zYj j := fun j hj => by unfold zYj; omega
  have g23 := (h.1 23 (q 23 (by omega))).1
  have g24 := (h.1 24 (q 24 (by omega))).1
  have g25 := (h.1 25 (q 25 (by omega))).1
  have g45 := (h.1 45 (q 45 (by omega))).1
  have g49 := (h.1 49 (q 49 (by omega))).1
  have g52 := (h.1 52 (q 52 (by omega))).1
  have g54 := (h.1 54 (q 54 (by omega))).1
  have z : ∀ j, (j = 23 ∨ j = 24 ∨ j = 25 ∨ j = 49 ∨ j = 52 ∨ j = 54) → ¬ Y j = Y 45 := fun j hj => h.2 j 45 (q j (by omega)) (q 45 (by omega)) (by omega)
  have z23 := z 23 (by omega)
  have z24 := z 24 (by omega)
  have z25 := z 25 (by omega)
  have z49 := z 49 (by omega)
  have z52 := z 52 (by omega)
  have z54 := z 54 (by omega)
  have za : ¬ a = Y 45 := fun e => (h.1 45 (q 45 (by omega))).2 e.symm
  have x1 : ((12 : Int32) * s.1 a 18).toInt = 12 * (b : Int) := by rw [zb_mul (by rw [e12, h18]; omega) (by rw [e12, h18]; omega), e12, h18]
  have x2 : ((12 : Int32) * s.1 a 18 + p).toInt = ((12 * b + P : Nat) : Int) := by rw [zb_add (by rw [x1]; omega) (by rw [x1]; omega), x1, hp]; omega
  have wp : p.toNatClampNeg = P := by rw [ztn, hp]; rfl
  have x3 : ((12 : Int32) * s.1 a 18 + p).toNatClampNeg = 12 * b + P := by rw [ztn, x2]; rfl
  have x4 : ((24 : Int32) + p).toInt = ((24 + P : Nat) : Int) := by rw [zb_add (by rw [e24]; omega) (by rw [e24]; omega), e24, hp]; omega
  have x5 : ((24 : Int32) + p).toNatClampNeg = 24 + P := by rw [ztn, x4]; rfl
  obtain ⟨ft, hft⟩ : ∃ ft, ft = fMt Y b s p f := ⟨_, rfl⟩
  have E : F_X11_looks a p f s = (zu (zu (zu (zu (zu (zu (zu (zu (zu s.1 (Y 45) 0 (ft 0)) (Y 45) 1 (ft 1)) (Y 45) 2 (ft 2)) (Y 45) 3 (ft 3)) (Y 45) 4 (ft 4)) (Y 45) 5 (ft 5)) (Y 45) 6 (ft 6)) (Y 45) 7 (ft 7)) (Y 45) 8 (ft 8), s.2.1, s.2.2) := by
    rw [hft]
    have f0 : fMt Y b s p f 0 = s.1 (Y 24) (12 * b + P) := by rw [← wp]; rfl
    have f1 : fMt Y b s p f 1 = s.1 (Y 52) P := by rw [← wp]; rfl
    have f2 : fMt Y b s p f 2 = s.1 (Y 25) (12 * b + P) := by rw [← wp]; rfl
    have f3 : fMt Y b s p f 3 = s.1 (Y 49) 48 - s.1 (Y 49) 48 / 12 * 12 := rfl
    have f4 : fMt Y b s p f 4 = f := rfl
    have f5 : fMt Y b s p f 5 = s.1 (Y 23) (12 * b + P) := by rw [← wp]; rfl
    have f6 : fMt Y b s p f 6 = s.1 (Y 49) (24 + P) := by rw [← wp]; rfl
    have f7 : fMt Y b s p f 7 = p := rfl
    have f8 : fMt Y b s p f 8 = F_X11_bits (s.1 (Y 54) P) - 1 := by rw [← wp]; rfl
    rw [f0, f1, f2, f3, f4, f5, f6, f7, f8]
    unfold F_X11_looks
    simp only [↓zlt, ↓zlt2, g23, g24, g25, g45, g49, g52, g54, w0, w1, w2, w3, w4, w5, w6, w7, w8, w48, zu_n _ _ _ z23, zu_n _ _ _ z24, zu_n _ _ _ z25, zu_n _ _ _ z49, zu_n _ _ _ z52, zu_n _ _ _ z54, zu_n _ _ _ za, x3, x5, wp]
  rw [E, hft]
  refine ⟨((((((((zFr.id.w (Or.inl rfl)).w (Or.inl rfl)).w (Or.inl rfl)).w (Or.inl rfl)).w (Or.inl rfl)).w (Or.inl rfl)).w (Or.inl rfl)).w (Or.inl rfl)).w (Or.inl rfl), fun i hi => ?_⟩
  rw [← hft]
  show zu (zu (zu (zu (zu (zu (zu (zu (zu s.1 (Y 45) 0 (ft 0)) (Y 45) 1 (ft 1)) (Y 45) 2 (ft 2)) (Y 45) 3 (ft 3)) (Y 45) 4 (ft 4)) (Y 45) 5 (ft 5)) (Y 45) 6 (ft 6)) (Y 45) 7 (ft 7)) (Y 45) 8 (ft 8) (Y 45) i = ft i
  rcases (show i = 0 ∨ i = 1 ∨ i = 2 ∨ i = 3 ∨ i = 4 ∨ i = 5 ∨ i = 6 ∨ i = 7 ∨ i = 8 by omega) with rfl | rfl | rfl | rfl | rfl | rfl | rfl | rfl | rfl
  · rw [zu_j _ _ _ _ _ (by decide), zu_j _ _ _ _ _ (by decide), zu_j _ _ _ _ _ (by decide), zu_j _ _ _ _ _ (by decide), zu_j _ _ _ _ _ (by decide), zu_j _ _ _ _ _ (by decide), zu_j _ _ _ _ _ (by decide), zu_j _ _ _ _ _ (by decide), zu_s]
  · rw [zu_j _ _ _ _ _ (by decide), zu_j _ _ _ _ _ (by decide), zu_j _ _ _ _ _ (by decide), zu_j _ _ _ _ _ (by decide), zu_j _ _ _ _ _ (by decide), zu_j _ _ _ _ _ (by decide), zu_j _ _ _ _ _ (by decide), zu_s]
  · rw [zu_j _ _ _ _ _ (by decide), zu_j _ _ _ _ _ (by decide), zu_j _ _ _ _ _ (by decide), zu_j _ _ _ _ _ (by decide), zu_j _ _ _ _ _ (by decide), zu_j _ _ _ _ _ (by decide), zu_s]
  · rw [zu_j _ _ _ _ _ (by decide), zu_j _ _ _ _ _ (by decide), zu_j _ _ _ _ _ (by decide), zu_j _ _ _ _ _ (by decide), zu_j _ _ _ _ _ (by decide), zu_s]
  · rw [zu_j _ _ _ _ _ (by decide), zu_j _ _ _ _ _ (by decide), zu_j _ _ _ _ _ (by decide), zu_j _ _ _ _ _ (by decide), zu_s]
  · rw [zu_j _ _ _ _ _ (by decide), zu_j _ _ _ _ _ (by decide), zu_j _ _ _ _ _ (by decide), zu_s]
  · rw [zu_j _ _ _ _ _ (by decide), zu_j _ _ _ _ _ (by decide), zu_s]
  · rw [zu_j _ _ _ _ _ (by decide), zu_s]
  · rw [zu_s]
/-- a law asked behind a look -/
theorem mTells (h : zYm Y a s.2.2) (h18 : (s.1 a 18).toInt = b) (hb : b ≤ 1) (hg : zW5 Y b s g) {ft : Nat → Int32} {u : zS} (hu : zFr (zUw Y a) s u) (hf : ∀ i, i < 9 → u.1 (Y 45) i = ft i) {k d : Int32} {w : Nat} (hk : k.toInt = w) (hw : w < 5) (hd : d = evB ft [(none, [dfl w])]) : ∃ τ, F_X11_lawTells a k d u = (evB ft (lwB w (g w)), τ) ∧ zFr (zUw Y a) s τ := by
  have ru := hu.rf
  have M : zMc a Y ft u := ⟨fun j hj => by
    have qj : zYj j := by unfold zMj at hj; unfold zYj; omega
    exact ⟨by rw [ru]; exact (h.1 j qj).1, (h.1 j qj).2, fun n => h.2 j 46 qj (by unfold zYj; omega) n⟩, hf⟩
  have G := zW5.cg (t := u) hg (fun j hj => zUw.r h hu (by unfold zYj; omega) (by omega) (by omega))
  obtain ⟨τ, e1, e2⟩ := mLawA (p2 := d) M (by omega) (by omega) (by rw [zUw.fl h hu (by decide)]; exact h18) hb hk hw (G w hw).1 (fun B hB => by
    have o := (G w hw).2
    rw [hB] at o
    exact o)
  refine ⟨τ, ?_, hu.tr (zFr.up e2 (fun c j z => Or.inr z))⟩
  rw [e1, lwV_e (v := w) (g w) hd]
/-- what comes down, what dries, what a law claims -/
theorem mRainsAt (h : zYm Y a s.2.2) (h18 : (s.1 a 18).toInt = b) (hb : b ≤ 1) (hg : zW5 Y b s g) {P : Nat} (hp : p.toInt = P) (hP : P < 12) : ∃ τ, F_X11_rainsAt a p s = (F_X11_within (evB (fMt Y b s p 0) (lwB 0 (g 0))) 0 999, τ) ∧ zFr (zUw Y a) s τ := by
  obtain ⟨l1, l2⟩ := mLooks (f := 0) h h18 hb hp hP
  obtain ⟨u, hu⟩ : ∃ u, u = F_X11_looks a p 0 s := ⟨_, rfl⟩
  rw [← hu] at l1 l2
  have g45 : (u.2.2 a 45).getD 0 = Y 45 := by rw [l1.rf]; exact (h.1 45 (by unfold zYj; omega)).1
  have w0 : (0 : Int32).toNatClampNeg = 0 := by decide
  obtain ⟨τ, e1, e2⟩ := mTells (k := 0) (d := fMt Y b s p 0 0) (w := 0) h h18 hb hg l1 l2 (by decide) (by decide) lwV_0.symm
  refine ⟨τ, ?_, e2⟩
  unfold F_X11_rainsAt
  simp only [zlt, zlt2]
  rw [← hu, g45, w0, l2 0 (by decide), e1]
theorem mDriesAt (h : zYm Y a s.2.2) (h18 : (s.1 a 18).toInt = b) (hb : b ≤ 1) (hg : zW5 Y b s g) {P : Nat} (hp : p.toInt = P) (hP : P < 12) : ∃ τ, F_X11_driesAt a p s = (F_X11_within (evB (fMt Y b s p (s.1 (Y 55) P)) (lwB 1 (g 1))) 0 (s.1 (Y 55) P), τ) ∧ zFr (zUw Y a) s τ := by
  have g55 : (s.2.2 a 55).getD 0 = Y 55 := (h.1 55 (by unfold zYj; omega)).1
  have wp : p.toNatClampNeg = P := by rw [ztn, hp]; rfl
  obtain ⟨l1, l2⟩ := mLooks (f := s.1 (Y 55) P) h h18 hb hp hP
  obtain ⟨u, hu⟩ : ∃ u, u = F_X11_looks a p (s.1 (Y 55) P) s := ⟨_, rfl⟩
  rw [← hu] at l1 l2
  obtain ⟨τ, e1, e2⟩ := mTells (k := 1) (d := 0) (w := 1) h h18 hb hg l1 l2 (by decide) (by decide) lwV_1.symm
  refine ⟨τ, ?_, e2⟩
  have t55 : (τ.2.2 a 55).getD 0 = Y 55 := by rw [e2.rf]; exact g55
  have r55 : τ.1 (Y 55) P = s.1 (Y 55) P := congrFun (zUw.r h e2 (j := 55) (by unfold zYj; omega) (by decide) (by decide)) P
  unfold F_X11_driesAt
  simp only [zlt, zlt2, g55, wp]
  rw [← hu, e1]
  simp only [t55, r55]
theorem mClaimOf (h : zYm Y a s.2.2) (h18 : (s.1 a 18).toInt = b) (hb : b ≤ 1) (hg : zW5 Y b s g) {P : Nat} (hp : p.toInt = P) (hP : P < 12) {k : Int32} {w : Nat} (hk : k.toInt = w) (hw : w < 3) : ∃ τ, F_X11_claimOf a p k s = (F_X11_within (evB (fMt Y b s p (s.1 (Y 55) P)) (lwB (2 + w) (g (2 + w)))) 0 99999, τ) ∧ zFr (zUw Y a) s τ := by
  have g55 : (s.2.2 a 55).getD 0 = Y 55 := (h.1 55 (by unfold zYj; omega)).1
  have wp : p.toNatClampNeg = P := by rw [ztn, hp]; rfl
  have e1' : (1 : Int32).toInt = 1 := by decide
  have e2' : (2 : Int32).toInt = 2 := by decide
  have w1 : (1 : Int32).toNatClampNeg = 1 := by decide
  have w2 : (2 : Int32).toNatClampNeg = 2 := by decide
  have w4 : (4 : Int32).toNatClampNeg = 4 := by decide
  have hk2 : ((2 : Int32) + k).toInt = ((2 + w : Nat) : Int) := by rw [zb_add (by rw [e2']; omega) (by rw [e2']; omega), e2', hk]; omega
  obtain ⟨l1, l2⟩ := mLooks (f := s.1 (Y 55) P) h h18 hb hp hP
  obtain ⟨u, hu⟩ : ∃ u, u = F_X11_looks a p (s.1 (Y 55) P) s := ⟨_, rfl⟩
  rw [← hu] at l1 l2
  have g45 : (u.2.2 a 45).getD 0 = Y 45 := by rw [l1.rf]; exact (h.1 45 (by unfold zYj; omega)).1
  have T := fun d (hd : d = evB (fMt Y b s p (s.1 (Y 55) P)) [(none, [dfl (2 + w)])]) => mTells (k := (2 : Int32) + k) (d := d) (w := 2 + w) h h18 hb hg l1 l2 hk2 (by omega) hd
  unfold F_X11_claimOf
  simp only [zlt, zlt2, g55, wp, e1']
  rw [← hu, g45, w1, w2, w4]
  rcases (show w = 0 ∨ w = 1 ∨ w = 2 by omega) with rfl | rfl | rfl
  · have c : k.toInt = 0 := hk
    rw [if_pos c, l2 1 (by decide)]
    obtain ⟨τ, e1, e2⟩ := T _ lwV_2.symm
    exact ⟨τ, by rw [e1], e2⟩
  · have c : ¬ k.toInt = 0 := by omega
    have c1 : k.toInt = 1 := hk
    rw [if_neg c, if_pos c1, l2 4 (by decide)]
    obtain ⟨τ, e1, e2⟩ := T _ lwV_3.symm
    exact ⟨τ, by rw [e1], e2⟩
  · have c : ¬ k.toInt = 0 := by omega
    have c1 : ¬ k.toInt = 1 := by omega
    rw [if_neg c, if_neg c1, l2 2 (by decide)]
    obtain ⟨τ, e1, e2⟩ := T _ lwV_4.symm
    exact ⟨τ, by rw [e1], e2⟩
end TELLSM
end
-- 35x96.lw29
section
/-! FLOWS: what comes down the tree, in whatever order it is worked out -/
def sm (v : Nat → Int32) : Nat → Int32
  | 0 => 0
  | n + 1 => sm v n + v n
theorem sm_cg {v w : Nat → Int32} : ∀ n, (∀ i, i < n → w i = v i) → sm w n = sm v n := by
  intro n
  induction n with
  | zero => intro _; rfl
  | succ n ih =>
    intro h
    rw [sm, sm, ih (fun i hi => h i (by omega)), h n (by omega)]
theorem sm_up {v w : Nat → Int32} {c : Nat} : ∀ n, c < n → (∀ i, i < n → i ≠ c → w i = v i) → v c = 0 → sm w n = sm v n + w c := by
  intro n
  induction n with
  | zero => intro h; exact absurd h (by omega)
  | succ n ih =>
    intro hc h h0
    rw [sm, sm]
    by_cases e : c = n
    · subst e
      rw [sm_cg (v := v) c (fun i hi => h i (by omega) (by omega)), h0, Int32.add_zero]
    · rw [ih (by omega) (fun i hi n => h i (by omega) n) h0, h n (by omega) (fun z => e z.symm), Int32.add_assoc, Int32.add_assoc, Int32.add_comm (w c)]
def smI (v : Nat → Int) : Nat → Int
  | 0 => 0
  | n + 1 => smI v n + v n
theorem smI_cg {v w : Nat → Int} : ∀ n, (∀ i, i < n → w i = v i) → smI w n = smI v n := by
  intro n
  induction n with
  | zero => intro _; rfl
  | succ n ih =>
    intro h
    rw [smI, smI, ih (fun i hi => h i (by omega)), h n (by omega)]
theorem smI_0 {v : Nat → Int} : ∀ n, (∀ i, i < n → 0 ≤ v i) → 0 ≤ smI v n := by
  intro n
  induction n with
  | zero => intro _; exact Int.le_refl _
  | succ n ih =>
    intro h
    have a := ih (fun i hi => h i (by omega))
    have b := h n (by omega)
    rw [smI]
    omega
theorem smI_1 (v : Nat → Int) {c : Nat} : ∀ n, c < n → smI v n = smI (fun i => if i = c then 0 else v i) n + v c := by
  intro n
  induction n with
  | zero => intro h; exact absurd h (by omega)
  | succ n ih =>
    intro h
    rw [smI, smI]
    by_cases e : c = n
    · subst e
      rw [smI_cg (v := v) (w := fun i => if i = c then 0 else v i) c (fun i hi => if_neg (by omega)), if_pos rfl]
      omega
    · have q := ih (by omega)
      rw [if_neg (fun z => e z.symm)]
      omega
theorem smI_2 (v : Nat → Int) {c d n : Nat} (hcd : c ≠ d) (hc : c < n) (hd : d < n) : smI v n = smI (fun i => if i = c then 0 else if i = d then 0 else v i) n + v c + v d := by
  have a := smI_1 v n hd
  have b := smI_1 (fun i => if i = d then 0 else v i) n hc
  rw [if_neg hcd] at b
  omega
/-- what runs from c into q of those gone through -/
def inF (u : Nat → Nat) (dm Pr : Nat → Bool) (dr : Nat → Int32 → Int32) (F : Nat → Int32) (q c : Nat) : Int32 := if (decide (1 ≤ c) && (Pr c && (decide (u c = q) && !dm c))) = true then F c - dr c (F c) else 0
/-- flows worked out so far: those gone through come behind all that run into them -/
def zFw (N : Nat) (u : Nat → Nat) (dm : Nat → Bool) (dr : Nat → Int32 → Int32) (r : Nat → Int32) (Pr : Nat → Bool) (F : Nat → Int32) : Prop := (∀ c, 1 ≤ c → c < N → Pr c = true → ∀ e, 1 ≤ e → e < N → u e = c → Pr e = true) ∧ ∀ q, q < N → F q = r q + sm (inF u dm Pr dr F q) N
section FLOW
variable {N : Nat} {u : Nat → Nat} {dm Pr Pr' : Nat → Bool} {dr dr' : Nat → Int32 → Int32} {r r' F F' G : Nat → Int32} {c : Nat}
theorem inF_0 {q : Nat} (h : ¬ (1 ≤ c ∧ Pr c = true ∧ u c = q ∧ dm c = false)) : inF u dm Pr dr F q c = 0 := by
  unfold inF
  rw [if_neg]
  intro z
  simp only [Bool.and_eq_true, decide_eq_true_eq, Bool.not_eq_true'] at z
  exact h ⟨z.1, z.2.1, z.2.2.1, z.2.2.2⟩
theorem inF_1 {q : Nat} (h1 : 1 ≤ c) (h2 : Pr c = true) (h3 : u c = q) (h4 : dm c = false) : inF u dm Pr dr F q c = F c - dr c (F c) := by
  unfold inF
  rw [if_pos]
  simp only [Bool.and_eq_true, decide_eq_true_eq, Bool.not_eq_true']
  exact ⟨h1, h2, h3, h4⟩
theorem zFw.st (hF : ∀ q, q < N → F q = r q) (hP : ∀ c, 1 ≤ c → c < N → Pr c = false) : zFw N u dm dr r Pr F := ⟨fun c c1 c2 h => absurd h (by rw [hP c c1 c2]; decide), fun q hq => by
  have e : sm (inF u dm Pr dr F q) N = sm (fun _ => 0) N := sm_cg N (fun i hi => by
    refine inF_0 (fun z => ?_)
    have := hP i z.1 hi
    rw [this] at z
    cases z.2.1)
  have z : ∀ n, sm (fun _ => 0) n = 0 := by
    intro n
    induction n with
    | zero => rfl
    | succ n ih => rw [sm, ih]; rfl
  rw [e, z, Int32.add_zero, hF q hq]⟩
theorem zFw.step (hT : zTr N u) (h : zFw N u dm dr r Pr F) (c1 : 1 ≤ c) (c2 : c < N) (hc : Pr c = false) (hk : ∀ e, 1 ≤ e → e < N → u e = c → Pr e = true) (hP : ∀ x, Pr' x = (Pr x || decide (x = c))) (hF : ∀ q, q < N → F' q = if dm c = false ∧ q = u c then F q + (F c - dr c (F c)) else F q) : zFw N u dm dr r Pr' F' := by
  obtain ⟨h1, h2⟩ := h
  have uc := hT.u_lt c1 c2
  have un : ∀ x, 1 ≤ x → x < N → Pr x = true → x ≠ u c := fun x x1 x2 hx e => by
    have := h1 x x1 x2 hx c c1 c2 e.symm
    rw [hc] at this
    cases this
  have ucc : c ≠ u c := fun e => hT.acyc c1 c2 (by rw [← e]; exact An_rf)
  have Fx : ∀ x, x < N → (Pr x = true ∧ 1 ≤ x ∨ x = c) → F' x = F x := fun x x2 hx => by
    rw [hF x x2, if_neg]
    rintro ⟨-, z⟩
    rcases hx with hx | hx
    · exact un x hx.2 x2 hx.1 z
    · rw [hx] at z
      exact ucc z
  have Pc : Pr' c = true := by rw [hP]; simp
  have Pn : ∀ x, x ≠ c → Pr' x = Pr x := fun x hx => by rw [hP]; simp [hx]
  refine ⟨fun x x1 x2 hx e e1 e2 eu => ?_, fun q hq => ?_⟩
  · by_cases ec : e = c
    · rw [ec]; exact Pc
    · rw [Pn e ec]
      by_cases xc : x = c
      · exact hk e e1 e2 (eu.trans xc)
      · rw [Pn x xc] at hx
        exact h1 x x1 x2 hx e e1 e2 eu
  · have old : inF u dm Pr dr F q c = 0 := inF_0 (fun z => by rw [hc] at z; cases z.2.1)
    have oth : ∀ i, i < N → i ≠ c → inF u dm Pr' dr F' q i = inF u dm Pr dr F q i := fun i hi n => by
      by_cases z : 1 ≤ i ∧ Pr i = true ∧ u i = q ∧ dm i = false
      · obtain ⟨z1, z2, z3, z4⟩ := z
        rw [inF_1 z1 (by rw [Pn i n]; exact z2) z3 z4, inF_1 z1 z2 z3 z4, Fx i hi (Or.inl ⟨z2, z1⟩)]
      · rw [inF_0 (by rw [Pn i n]; exact z), inF_0 z]
    rw [sm_up (v := inF u dm Pr dr F q) (c := c) N c2 oth old, hF q hq]
    by_cases z : dm c = false ∧ q = u c
    · rw [if_pos z, inF_1 c1 Pc z.2.symm z.1, Fx c c2 (Or.inr rfl), h2 q hq, Int32.add_assoc]
    · rw [if_neg z, inF_0 (fun w => z ⟨w.2.2.2, w.2.2.1.symm⟩), Int32.add_zero]
      exact h2 q hq
/-- all gone through: one outcome -/
theorem zFw.uniq (hT : zTr N u) (h : zFw N u dm dr r Pr F) (g : zFw N u dm dr' r' Pr' G) (hP : ∀ c, 1 ≤ c → c < N → Pr c = true) (hP' : ∀ c, 1 ≤ c → c < N → Pr' c = true) (hr : ∀ q, q < N → r q = r' q) (hd : ∀ c f, c < N → 0 ≤ f.toInt → dr c f = dr' c f) (hb : ∀ q, q < N → 0 ≤ (F q).toInt) : ∀ q, q < N → F q = G q := by
  have key : ∀ n q, q < N → N - dep N u q < n → F q = G q := by
    intro n
    induction n with
    | zero => intro q _ h; exact absurd h (by omega)
    | succ n ih =>
      intro q hq hn
      rw [h.2 q hq, g.2 q hq, hr q hq]
      congr 1
      refine (sm_cg N (fun i hi => ?_)).symm
      by_cases z : 1 ≤ i ∧ u i = q ∧ dm i = false
      · obtain ⟨z1, z2, z3⟩ := z
        have e : F i = G i := ih i hi (by
          have a := dep_s hT z1 hi
          have b := (dep_b hT i hi).2
          rw [z2] at a
          omega)
        rw [inF_1 z1 (hP' i z1 hi) z2 z3, inF_1 z1 (hP i z1 hi) z2 z3, hd i _ hi (hb i hi), e]
      · rw [inF_0 (fun w => z ⟨w.1, w.2.2⟩), inF_0 (fun w => z ⟨w.1, w.2.2⟩)]
  exact fun q hq => key (N - dep N u q + 1) q hq (by omega)
/-- what has not been gone through stays small in all -/
def zFb (N : Nat) (Pr : Nat → Bool) (F : Nat → Int32) : Prop := (∀ q, q < N → 0 ≤ (F q).toInt ∧ (F q).toInt ≤ 13176) ∧ smI (fun q => if Pr q = true then 0 else (F q).toInt) N ≤ 13176
theorem zFb.st (hN : N ≤ 12) (hF : ∀ q, q < N → 0 ≤ (F q).toInt ∧ (F q).toInt ≤ 1098) : zFb N Pr F := by
  have z : ∀ n, n ≤ N → smI (fun q => if Pr q = true then 0 else (F q).toInt) n ≤ 1098 * (n : Int) := by
    intro n
    induction n with
    | zero => intro _; exact Int.le_refl _
    | succ n ih =>
      intro hn
      have q := ih (by omega)
      have b := hF n (by omega)
      rw [smI]
      by_cases e : Pr n = true
      · rw [if_pos e]; omega
      · rw [if_neg e]; omega
  exact ⟨fun q hq => by have := hF q hq; omega, by have := z N (Nat.le_refl _); omega⟩
theorem zFb.step (hT : zTr N u) (h : zFb N Pr F) (c1 : 1 ≤ c) (c2 : c < N) (hc : Pr c = false) (hu : Pr (u c) = false) (hd : 0 ≤ (dr c (F c)).toInt ∧ (dr c (F c)).toInt ≤ (F c).toInt) (hP : ∀ x, Pr' x = (Pr x || decide (x = c))) (hF : ∀ q, q < N → F' q = if dm c = false ∧ q = u c then F q + (F c - dr c (F c)) else F q) : zFb N Pr' F' := by
  obtain ⟨h1, h2⟩ := h
  have uc := hT.u_lt c1 c2
  have ucc : c ≠ u c := fun e => hT.acyc c1 c2 (by rw [← e]; exact An_rf)
  obtain ⟨w, hw⟩ : ∃ w : Nat → Int, w = fun q => if Pr q = true then 0 else (F q).toInt := ⟨_, rfl⟩
  obtain ⟨w', hw'⟩ : ∃ w : Nat → Int, w = fun q => if Pr' q = true then 0 else (F' q).toInt := ⟨_, rfl⟩
  rw [← hw] at h2
  have w0 : ∀ i, i < N → 0 ≤ w i := fun i hi => by
    rw [hw]
    show 0 ≤ (if Pr i = true then 0 else (F i).toInt)
    split
    · exact Int.le_refl _
    · exact (h1 i hi).1
  have wc : w c = (F c).toInt := by
    rw [hw]
    show (if Pr c = true then 0 else (F c).toInt) = _
    rw [if_neg (by rw [hc]; decide)]
  have wu : w (u c) = (F (u c)).toInt := by
    rw [hw]
    show (if Pr (u c) = true then 0 else (F (u c)).toInt) = _
    rw [if_neg (by rw [hu]; decide)]
  have Pc : Pr' c = true := by rw [hP]; simp
  have Pn : ∀ x, x ≠ c → Pr' x = Pr x := fun x hx => by rw [hP]; simp [hx]
  have wc' : w' c = 0 := by
    rw [hw']
    show (if Pr' c = true then 0 else (F' c).toInt) = _
    rw [if_pos Pc]
  have wu' : w' (u c) = (F' (u c)).toInt := by
    rw [hw']
    show (if Pr' (u c) = true then 0 else (F' (u c)).toInt) = _
    rw [if_neg (by rw [Pn _ (fun e => ucc e.symm), hu]; decide)]
  have oth : ∀ i, i < N → i ≠ c → i ≠ u c → w' i = w i := fun i hi n1 n2 => by
    rw [hw, hw']
    show (if Pr' i = true then 0 else (F' i).toInt) = (if Pr i = true then 0 else (F i).toInt)
    rw [Pn i n1]
    by_cases pi : Pr i = true
    · rw [if_pos pi, if_pos pi]
    · rw [if_neg pi, if_neg pi, hF i hi, if_neg (fun z => n2 z.2)]
  have E1 := smI_2 w ucc c2 uc
  have E2 := smI_2 w' ucc c2 uc
  have E3 : smI (fun i => if i = c then 0 else if i = u c then 0 else w' i) N = smI (fun i => if i = c then 0 else if i = u c then 0 else w i) N := smI_cg N (fun i hi => by
    by_cases n1 : i = c
    · rw [if_pos n1, if_pos n1]
    · rw [if_neg n1, if_neg n1]
      by_cases n2 : i = u c
      · rw [if_pos n2, if_pos n2]
      · rw [if_neg n2, if_neg n2]
        exact oth i hi n1 n2)
  have E4 : 0 ≤ smI (fun i => if i = c then 0 else if i = u c then 0 else w i) N := smI_0 N (fun i hi => by
    show 0 ≤ (if i = c then 0 else if i = u c then 0 else w i)
    split
    · exact Int.le_refl _
    · split
      · exact Int.le_refl _
      · exact w0 i hi)
  rw [E3, wc', wu'] at E2
  rw [wc, wu] at E1
  have bc := h1 c c2
  have bu := h1 (u c) uc
  have fu : F' (u c) = if dm c = false then F (u c) + (F c - dr c (F c)) else F (u c) := by
    rw [hF _ uc]
    by_cases z : dm c = false
    · rw [if_pos ⟨z, rfl⟩, if_pos z]
    · rw [if_neg (fun q => z q.1), if_neg z]
  have nu : 0 ≤ (F' (u c)).toInt ∧ (F' (u c)).toInt ≤ (F (u c)).toInt + (F c).toInt := by
    rw [fu]
    split
    · have s1 : (F c - dr c (F c)).toInt = (F c).toInt - (dr c (F c)).toInt := zb_sub (by omega) (by omega)
      rw [zb_add (by rw [s1]; omega) (by rw [s1]; omega), s1]
      omega
    · omega
  refine ⟨fun q hq => ?_, ?_⟩
  · by_cases e : q = u c
    · rw [e]; omega
    · rw [hF q hq, if_neg (fun z => e z.2)]
      exact h1 q hq
  · rw [← hw']
    omega
end FLOW
end
-- 35x97.lw30
section
/-! THE CLASS: what comes down as rain -/
def pI (p : Nat) : Int32 := Int32.ofInt (p : Int)
theorem pI_b : ∀ p, p < 13 → (pI p).toInt = p ∧ (pI p).toNatClampNeg = p := by decide
theorem pI_e {x : Int32} {p : Nat} (h : x.toInt = p) : x = pI p := ofI h
/-- what the river writes while it is looked at -/
def zRw (q : Nat → Nat) : Nat → Nat → Prop := fun c _ => c = q 5 ∨ c = q 6 ∨ c = q 7 ∨ c = q 8 ∨ c = q 9
/-- what a law is worth at a place -/
noncomputable def vCl (q : Nat → Nat) (s : zS) (g : zGl) (k p : Nat) (f : Int32) : Int32 := evB (fCt q s (pI p) f) (lwB k (g k))
/-- what comes down at a place -/
noncomputable def rCl (q : Nat → Nat) (s : zS) (g : zGl) (m : Int32) (p : Nat) : Int32 := F_X10_held (vCl q s g 0 p 0) 0 999 + m
section RAINC
variable {q : Nat → Nat} {R : Nat → Nat → Option Nat} {s t τ : zS} {g : zGl} {N : Nat} {m : Int32}
theorem zRw.r (h : zQr q R) (f : zFr (zRw q) s t) {i : Nat} (hi : i < 22) (n : i < 5 ∨ 9 < i) : t.1 (q i) = s.1 (q i) := funext (fun j => f.2 (q i) j (by
  rintro (z | z | z | z | z)
  · exact h.n hi (by decide) (by omega) z
  · exact h.n hi (by decide) (by omega) z
  · exact h.n hi (by decide) (by omega) z
  · exact h.n hi (by decide) (by omega) z
  · exact h.n hi (by decide) (by omega) z))
theorem zTw.up (f : zFr (zTw q) s t) : zFr (zRw q) s t := zFr.up f (fun c j z => by
  rcases z with z | z
  · exact Or.inr (Or.inr (Or.inr (Or.inl z)))
  · exact Or.inr (Or.inr (Or.inr (Or.inr z))))
/-- a law asked later on: by what stood at first -/
theorem cTellsR (h : zQr q s.2.2) (hg : zL5 q s g) (f : zFr (zRw q) s t) {k x y : Int32} {w p : Nat} (hk : k.toInt = w) (hw : w < 5) (hp : x.toInt = p) : ∃ τ, F_X5_tells (q 0) k x y t = (vCl q s g w p y, τ) ∧ zFr (zTw q) t τ := by
  have rt : t.2.2 = s.2.2 := f.rf
  have hg' : zL5 q t g := hg.cg (congrFun (zRw.r h f (by decide) (by omega)) 8) (fun i hi => zRw.r h f (by omega) (by omega))
  obtain ⟨τ, e1, e2⟩ := cTells (p := x) (f := y) (by rw [rt]; exact h) hg' hk hw
  refine ⟨τ, ?_, e2⟩
  have e : fCt q t x y = fCt q s x y := fCt.cg (fun i hi => zRw.r h f (by omega) (by omega))
  rw [e1, e, pI_e hp]
  rfl
theorem cRainL (h : zQr q s.2.2) (hg : 0 < N → zL5 q s g) (h0 : (s.1 (q 1) 0).toInt = N) (hN : N ≤ 12) : ∀ (n : Nat) (x : Int32) (i : Nat) (τ : zS), x.toInt = i → i ≤ N → N - i < n → zFr (zRw q) s τ → (∀ p, p < i → τ.1 (q 5) p = rCl q s g m p) → zFr (zRw q) s (F_X5_rainDown_2 (q 0) m n x τ) ∧ ∀ p, p < N → (F_X5_rainDown_2 (q 0) m n x τ).1 (q 5) p = rCl q s g m p := by
  obtain ⟨⟨g1, -, -, -, g5, -, -⟩, -⟩ := id h.1
  intro n
  induction n with
  | zero => intro x i τ _ _ h; exact absurd h (by omega)
  | succ n ih =>
    intro x i τ hx hi hn f hr
    have rt : τ.2.2 = s.2.2 := f.rf
    have t0 : (τ.1 (q 1) 0).toInt = N := by rw [congrFun (zRw.r h f (i := 1) (by decide) (by omega)) 0]; exact h0
    have nx : x.toNatClampNeg = i := by rw [ztn, hx]; rfl
    rw [F_X5_rainDown_2]
    simp only [↓zlt, ↓zlt2, rt, g1, g5]
    by_cases c : i < N
    · have cx : x.toInt < (τ.1 (q 1) 0).toInt := by omega
      rw [if_pos cx]
      obtain ⟨t, e1, e2⟩ := cTellsR (k := 0) (y := 0) (w := 0) h (hg (by omega)) f (by decide) (by decide) hx
      rw [e1]
      have f2 := f.tr (zTw.up e2)
      have f3 : zFr (zRw q) s (zu t.1 (q 5) i (F_X10_held (vCl q s g 0 i 0) 0 999 + m), t.2.1, t.2.2) := f2.w (Or.inl rfl)
      rw [nx]
      refine ih _ (i + 1) _ (zp1 hx (by omega)) (by omega) (by omega) f3 (fun p hp => ?_)
      show zu t.1 (q 5) i _ (q 5) p = _
      by_cases e : p = i
      · rw [e, zu_s]
        rfl
      · rw [zu_j _ _ _ _ _ (fun z => e z.symm), e2.2 (q 5) p (by
          rintro (z | z)
          · exact h.n (by decide) (by decide) (by decide) z
          · exact h.n (by decide) (by decide) (by decide) z)]
        exact hr p (by omega)
    · have cx : ¬ x.toInt < (τ.1 (q 1) 0).toInt := by omega
      rw [if_neg cx]
      exact ⟨f, fun p hp => hr p (by omega)⟩
theorem cRain (h : zQr q s.2.2) (hg : 0 < N → zL5 q s g) (h0 : (s.1 (q 1) 0).toInt = N) (hN : N ≤ 12) (f : zFr (zRw q) s t) : zFr (zRw q) s (F_X5_rainDown (q 0) m t) ∧ ∀ p, p < N → (F_X5_rainDown (q 0) m t).1 (q 5) p = rCl q s g m p := by
  unfold F_X5_rainDown
  simp only [zlt]
  exact cRainL h hg h0 hN 10000 0 0 t (by decide) (by omega) (by omega) f (fun p hp => absurd hp (by omega))
end RAINC
/-! THE CLASS: what flows -/
/-- the line: each place behind the one that it runs into -/
def zLnP (N : Nat) (u : Nat → Nat) (A2 : Nat) (l : Nat → Nat) (τ : zS) : Prop := (∀ j, j < N → (τ.1 A2 j).toInt = l j ∧ l j < N) ∧ (∀ j j', j < N → j' < N → l j = l j' → j = j') ∧ (∀ j, 1 ≤ j → j < N → 1 ≤ l j ∧ ∃ j', j' < j ∧ l j' = u (l j)) ∧ ∀ q, q < N → ∃ j, j < N ∧ l j = q
theorem zLnE.p {N A2 A3 A6 : Nat} {u l : Nat → Nat} {FR : Nat → Int32} {τ : zS} (h : zLnE N u A2 A3 A6 FR l τ) : zLnP N u A2 l τ := ⟨h.1, h.2.2.2.1, h.2.2.2.2.1, h.2.2.2.2.2⟩
theorem zLnP.cg {N A2 : Nat} {u l : Nat → Nat} {τ τ' : zS} (h : zLnP N u A2 l τ) (e : τ'.1 A2 = τ.1 A2) : zLnP N u A2 l τ' := ⟨fun j hj => by rw [e]; exact h.1 j hj, h.2⟩
/-- those at positions behind i -/
noncomputable def PrC (N : Nat) (l : Nat → Nat) (i c : Nat) : Bool := @decide (∃ j, i < j ∧ j < N ∧ l j = c) (Classical.propDecidable _)
theorem PrC_t {N i c : Nat} {l : Nat → Nat} : PrC N l i c = true ↔ ∃ j, i < j ∧ j < N ∧ l j = c := by
  unfold PrC
  exact @decide_eq_true_iff _ (Classical.propDecidable _)
/-- dammed, by bits -/
noncomputable def dmC (D : Int32) (c : Nat) : Bool := !decide ((F_X10_has D (pI c)).toInt = 0)
theorem dmC_f {D : Int32} {c : Nat} : dmC D c = false ↔ (F_X10_has D (pI c)).toInt = 0 := by
  unfold dmC
  simp
/-- what dries at a place of which f flows -/
noncomputable def drC (q : Nat → Nat) (s : zS) (g : zGl) (c : Nat) (f : Int32) : Int32 := F_X10_held (vCl q s g 1 c f) 0 f
section RUNC
variable {q : Nat → Nat} {R : Nat → Nat → Option Nat} {s t τ : zS} {g : zGl} {N : Nat} {D : Int32} {u l : Nat → Nat}
theorem cDried (h : zQr q s.2.2) (hg : zL5 q s g) (f : zFr (zRw q) s t) {x : Int32} {p : Nat} (hp : x.toInt = p) : ∃ τ, F_X5_dried (q 0) x t = (drC q s g p (t.1 (q 6) p), τ) ∧ zFr (zTw q) t τ := by
  obtain ⟨⟨-, -, -, -, -, g6, -⟩, -⟩ := id h.1
  have rt : t.2.2 = s.2.2 := f.rf
  have nx : x.toNatClampNeg = p := by rw [ztn, hp]; rfl
  obtain ⟨τ, e1, e2⟩ := cTellsR (k := 1) (y := t.1 (q 6) p) (w := 1) h hg f (by decide) (by decide) hp
  have rτ : τ.2.2 = s.2.2 := e2.rf.trans rt
  have r6 : τ.1 (q 6) p = t.1 (q 6) p := e2.2 _ _ (by
    rintro (z | z)
    · exact h.n (by decide) (by decide) (by decide) z
    · exact h.n (by decide) (by decide) (by decide) z)
  refine ⟨τ, ?_, e2⟩
  unfold F_X5_dried
  simp only [↓zlt, ↓zlt2, rt, g6, nx, e1, rτ, r6]
  rfl
theorem cRunL (h : zQr q s.2.2) (hg : 0 < N → zL5 q s g) (hN : N ≤ 12) (hT : zTr N u) (hu : ∀ c, 1 ≤ c → c < N → (s.1 (q 19) c).toInt = u c) (E : zLnP N u (q 16) l s) {r : Nat → Int32} : ∀ (n : Nat) (x : Int32) (i : Nat) (τ : zS), x.toInt = i → i < N → i < n → zFr (zRw q) s τ → zFw N u (dmC D) (drC q s g) r (PrC N l i) (fun c => τ.1 (q 6) c) → zFb N (PrC N l i) (fun c => τ.1 (q 6) c) → zFr (zRw q) s (F_X5_run_25 (q 0) D n x τ) ∧ zFr (fun c _ => c = q 6 ∨ c = q 8 ∨ c = q 9) τ (F_X5_run_25 (q 0) D n x τ) ∧ zFw N u (dmC D) (drC q s g) r (PrC N l 0) (fun c => (F_X5_run_25 (q 0) D n x τ).1 (q 6) c) ∧ zFb N (PrC N l 0) (fun c => (F_X5_run_25 (q 0) D n x τ).1 (q 6) c) := by
  obtain ⟨⟨g1, -, -, g4, -, g6, -⟩, -, -, ⟨g16, -, -⟩, g19, -, -⟩ := id h.1
  have em : (-1 : Int32).toInt = -1 := by decide
  obtain ⟨E1, E4, E5, E6⟩ := E
  intro n
  induction n with
  | zero => intro x i τ _ _ h; exact absurd h (by omega)
  | succ n ih =>
    intro x i τ hx hi hn f hw hb
    have rt : τ.2.2 = s.2.2 := f.rf
    have nx : x.toNatClampNeg = i := by rw [ztn, hx]; rfl
    have t16 : τ.1 (q 16) i = s.1 (q 16) i := congrFun (zRw.r h f (by decide) (by omega)) i
    have hl := E1 i hi
    have hx1 : 1 ≤ i → (x + (-1 : Int32)).toInt = ((i - 1 : Nat) : Int) := fun h1 => by rw [zb_add (by rw [em]; omega) (by rw [em]; omega), em, hx]; omega
    rw [F_X5_run_25]
    simp only [↓zlt, ↓zlt2, rt, g1, g4, g6, g16, g19, nx, t16]
    by_cases c : 1 ≤ i
    · have cx : 0 < x.toInt := by omega
      rw [if_pos cx]
      obtain ⟨p, hp⟩ : ∃ p, p = l i := ⟨_, rfl⟩
      rw [← hp] at hl
      obtain ⟨v, hv⟩ : ∃ v, v = s.1 (q 16) i := ⟨_, rfl⟩
      rw [← hv] at hl ⊢
      have p1 : 1 ≤ p := by rw [hp]; exact (E5 i c hi).1
      have nv : v.toNatClampNeg = p := by rw [ztn, hl.1]; rfl
      have ev : v = pI p := pI_e hl.1
      have up := hT.u_lt p1 hl.2
      -- what has been gone through
      have Pc : PrC N l i p = false := by
        apply Classical.byContradiction
        intro z
        rw [Bool.not_eq_false, PrC_t] at z
        obtain ⟨j, j1, j2, j3⟩ := z
        have := E4 j i j2 hi (by rw [j3, hp])
        omega
      have Pk : ∀ e, 1 ≤ e → e < N → u e = p → PrC N l i e = true := fun e e1 e2 eu => by
        obtain ⟨j, j1, j2⟩ := E6 e e2
        have jp : 1 ≤ j := by
          apply Classical.byContradiction
          intro z
          have z0 : j = 0 := by omega
          obtain ⟨k, k1, k2⟩ := E6 0 (by omega)
          by_cases k0 : k = 0
          · rw [k0] at k2
            rw [z0, k2] at j2
            omega
          · have := (E5 k (by omega) k1).1
            omega
        obtain ⟨-, j', j3, j4⟩ := E5 j jp j1
        rw [j2, eu, hp] at j4
        have := E4 j' i (by omega) hi j4
        exact PrC_t.mpr ⟨j, by omega, j1, j2⟩
      have Ps : ∀ y, PrC N l (i - 1) y = (PrC N l i y || decide (y = p)) := fun y => by
        rw [Bool.eq_iff_iff]
        simp only [Bool.or_eq_true, decide_eq_true_eq]
        rw [PrC_t, PrC_t]
        constructor
        · rintro ⟨j, j1, j2, j3⟩
          by_cases e : j = i
          · exact Or.inr (by rw [← j3, e, hp])
          · exact Or.inl ⟨j, by omega, j2, j3⟩
        · rintro (⟨j, j1, j2, j3⟩ | e)
          · exact ⟨j, by omega, j2, j3⟩
          · exact ⟨i, by omega, hi, by rw [e, hp]⟩
      have Pu : PrC N l i (u p) = false := by
        apply Classical.byContradiction
        intro z
        rw [Bool.not_eq_false] at z
        by_cases u0 : 1 ≤ u p
        · have := hw.1 (u p) u0 up z p p1 hl.2 rfl
          rw [Pc] at this
          cases this
        · obtain ⟨j, j1, j2, j3⟩ := PrC_t.mp z
          have := (E5 j (by omega) j2).1
          omega
      have bd : 0 ≤ (drC q s g p (τ.1 (q 6) p)).toInt ∧ (drC q s g p (τ.1 (q 6) p)).toInt ≤ (τ.1 (q 6) p).toInt := by
        have b0 := (hb.1 p hl.2).1
        have z0 : (0 : Int32).toInt = 0 := by decide
        have r := held_r (v := vCl q s g 1 p (τ.1 (q 6) p)) (lo := 0) (hi := τ.1 (q 6) p) (by rw [z0]; exact b0)
        rw [z0] at r
        exact r
      by_cases d : (F_X10_has D v).toInt = 0
      · rw [if_pos d]
        obtain ⟨t, e1, e2⟩ := cDried h (hg (by omega)) f hl.1
        have up' : τ.1 (q 19) p = s.1 (q 19) p := congrFun (zRw.r h f (by decide) (by omega)) p
        have nu : (s.1 (q 19) p).toNatClampNeg = u p := by rw [ztn, hu p p1 hl.2]; rfl
        rw [nv, up', nu, e1]
        have f2 := f.tr (zTw.up e2)
        have f3 : zFr (fun c _ => c = q 6 ∨ c = q 8 ∨ c = q 9) τ (zu t.1 (q 6) (u p) (τ.1 (q 6) (u p) + (τ.1 (q 6) p - drC q s g p (τ.1 (q 6) p))), t.2.1, t.2.2) := (zFr.up e2 (fun c j z => Or.inr z)).w (Or.inl rfl)
        have dm : dmC D p = false := dmC_f.mpr (by rw [← ev]; exact d)
        have H : ∀ y, y < N → zu t.1 (q 6) (u p) (τ.1 (q 6) (u p) + (τ.1 (q 6) p - drC q s g p (τ.1 (q 6) p))) (q 6) y = if dmC D p = false ∧ y = u p then τ.1 (q 6) y + (τ.1 (q 6) p - drC q s g p (τ.1 (q 6) p)) else τ.1 (q 6) y := fun y hy => by
          have r6 : t.1 (q 6) y = τ.1 (q 6) y := e2.2 _ _ (by
            rintro (z | z)
            · exact h.n (by decide) (by decide) (by decide) z
            · exact h.n (by decide) (by decide) (by decide) z)
          by_cases e : y = u p
          · rw [if_pos ⟨dm, e⟩, e, zu_s]
          · rw [if_neg (fun z => e z.2), zu_j _ _ _ _ _ (fun z => e z.symm)]
            exact r6
        obtain ⟨a1, a2, a3, a4⟩ := ih _ (i - 1) (zu t.1 (q 6) (u p) (τ.1 (q 6) (u p) + (τ.1 (q 6) p - drC q s g p (τ.1 (q 6) p))), t.2.1, t.2.2) (hx1 c) (by omega) (by omega) (f2.w (Or.inr (Or.inl rfl))) (hw.step hT p1 hl.2 Pc Pk Ps H) (hb.step (dm := dmC D) (dr := drC q s g) hT p1 hl.2 Pc Pu bd Ps H)
        exact ⟨a1, f3.tr a2, a3, a4⟩
      · rw [if_neg d]
        have dm : ¬ dmC D p = false := fun z => d (by rw [ev]; exact dmC_f.mp z)
        have H : ∀ y, y < N → τ.1 (q 6) y = if dmC D p = false ∧ y = u p then τ.1 (q 6) y + (τ.1 (q 6) p - drC q s g p (τ.1 (q 6) p)) else τ.1 (q 6) y := fun y hy => by rw [if_neg (fun z => dm z.1)]
        exact ih _ (i - 1) τ (hx1 c) (by omega) (by omega) f (hw.step hT p1 hl.2 Pc Pk Ps H) (hb.step (dm := dmC D) (dr := drC q s g) hT p1 hl.2 Pc Pu bd Ps H)
    · have cx : ¬ 0 < x.toInt := by omega
      have i0 : i = 0 := by omega
      rw [if_neg cx]
      rw [i0] at hw hb
      exact ⟨f, zFr.id, hw, hb⟩
end RUNC
section RUNC2
variable {q : Nat → Nat} {R : Nat → Nat → Option Nat} {s t τ : zS} {g : zGl} {N : Nat} {D m : Int32} {u l : Nat → Nat}
theorem zcp_v {a b : Nat} (j : Nat) (hj : j < 12) : (zcpy t a b 12).1 b j = t.1 a j := zc12_b (f := t.1) (a := a) (b := b) hj
/-- what flows: behind the rain -/
theorem cRun (h : zQr q s.2.2) (hg : 0 < N → zL5 q s g) (h0 : (s.1 (q 1) 0).toInt = N) (hN : N ≤ 12) (hT : zTr N u) (hu : ∀ c, 1 ≤ c → c < N → (s.1 (q 19) c).toInt = u c) (E : zLnP N u (q 16) l s) (f : zFr (zRw q) s t) {r : Nat → Int32} (hr : ∀ p, p < N → t.1 (q 5) p = r p) (hr2 : ∀ p, p < N → 0 ≤ (r p).toInt ∧ (r p).toInt ≤ 1098) : zFr (zRw q) s (F_X5_run (q 0) D t) ∧ zFr (fun c _ => c = q 6 ∨ c = q 8 ∨ c = q 9) t (F_X5_run (q 0) D t) ∧ zFw N u (dmC D) (drC q s g) r (PrC N l 0) (fun c => (F_X5_run (q 0) D t).1 (q 6) c) ∧ ∀ p, p < N → 0 ≤ ((F_X5_run (q 0) D t).1 (q 6) p).toInt := by
  obtain ⟨⟨g1, -, -, -, g5, g6, -⟩, -⟩ := id h.1
  have rt : t.2.2 = s.2.2 := f.rf
  have e1 : (1 : Int32).toInt = 1 := by decide
  obtain ⟨w, hw⟩ : ∃ w : zS, w = zcpy t (q 5) (q 6) 12 := ⟨_, rfl⟩
  have fw : zFr (fun c _ => c = q 6 ∨ c = q 8 ∨ c = q 9) t w := by rw [hw]; exact zFr.id.cp (fun _ => Or.inl rfl)
  have fs : zFr (zRw q) s w := by rw [hw]; exact f.cp (fun _ => Or.inr (Or.inl rfl))
  have rw0 : (w.1 (q 1) 0).toInt = N := by rw [congrFun (zRw.r h fs (i := 1) (by decide) (by omega)) 0]; exact h0
  have rw2 : w.2.2 = s.2.2 := fs.rf
  have row : ∀ p, p < N → w.1 (q 6) p = r p := fun p hp => by rw [hw, zcp_v p (by omega)]; exact hr p hp
  have X : F_X5_run (q 0) D t = F_X5_run_25 (q 0) D 10000 (w.1 (q 1) 0 - (1 : Int32)) w := by
    unfold F_X5_run
    simp only [↓zlt, rt, g5, g6]
    rw [← hw]
    simp only [rw2, g1]
    rw [show w.1 (q 1) = (if q 1 = q 6 then va_cpy (t.1 (q 5)) (t.1 (q 6)) 0 0 12 else t.1 (q 1)) from by rw [hw]]
  rw [X]
  by_cases c : 1 ≤ N
  · have xN : (w.1 (q 1) 0 - (1 : Int32)).toInt = ((N - 1 : Nat) : Int) := by rw [zb_sub (by rw [e1]; omega) (by rw [e1]; omega), e1, rw0]; omega
    have st : zFw N u (dmC D) (drC q s g) r (PrC N l (N - 1)) (fun c => w.1 (q 6) c) := zFw.st (fun p hp => row p hp) (fun c _ _ => by
      apply Classical.byContradiction
      intro z
      rw [Bool.not_eq_false, PrC_t] at z
      obtain ⟨j, j1, j2, -⟩ := z
      omega)
    obtain ⟨a1, a2, a3, a4⟩ := cRunL h hg hN hT hu E 10000 _ (N - 1) w xN (by omega) (by omega) fs st (zFb.st hN (fun p hp => by rw [row p hp]; exact hr2 p hp))
    exact ⟨a1, fw.tr a2, a3, fun p hp => (a4.1 p hp).1⟩
  · have xN : ¬ 0 < (w.1 (q 1) 0 - (1 : Int32)).toInt := by rw [zb_sub (by rw [e1]; omega) (by rw [e1]; omega), e1, rw0]; omega
    have e : F_X5_run_25 (q 0) D 10000 (w.1 (q 1) 0 - (1 : Int32)) w = w := by
      rw [show (10000 : Nat) = 9999 + 1 from rfl, F_X5_run_25, if_neg xN]
    rw [e]
    exact ⟨fs, fw, ⟨fun c c1 c2 => absurd c2 (by omega), fun y hy => absurd hy (by omega)⟩, fun p hp => absurd hp (by omega)⟩
/-- all have been gone through -/
theorem PrC_all (E : zLnP N u (q 16) l s) : ∀ c, 1 ≤ c → c < N → PrC N l 0 c = true := fun c c1 c2 => by
  obtain ⟨-, E4, E5, E6⟩ := E
  obtain ⟨j, j1, j2⟩ := E6 c c2
  refine PrC_t.mpr ⟨j, ?_, j1, j2⟩
  apply Classical.byContradiction
  intro z
  have z0 : j = 0 := by omega
  obtain ⟨k, k1, k2⟩ := E6 0 (by omega)
  by_cases k0 : k = 0
  · rw [k0] at k2
    rw [z0, k2] at j2
    omega
  · have := (E5 k (by omega) k1).1
    omega
end RUNC2
end
-- 35x98.lw31
section
/-! THE REFERENCE: what comes down as rain, what flows -/
/-- what the reference writes while it fills the flows -/
def zVw (Y : Nat → Nat) (a : Nat) : Nat → Nat → Prop := fun c j => c = Y 55 ∨ c = Y 45 ∨ c = Y 46 ∨ (c = a ∧ j = 47)
noncomputable def vMl (Y : Nat → Nat) (b : Nat) (s : zS) (g : zGl) (k p : Nat) (f : Int32) : Int32 := evB (fMt Y b s (pI p) f) (lwB k (g k))
noncomputable def rMl (Y : Nat → Nat) (b : Nat) (s : zS) (g : zGl) (m : Int32) (p : Nat) : Int32 := F_X11_within (vMl Y b s g 0 p 0) 0 999 + m
noncomputable def drM (Y : Nat → Nat) (b : Nat) (s : zS) (g : zGl) (c : Nat) (f : Int32) : Int32 := F_X11_within (vMl Y b s g 1 c f) 0 f
def dmM (Y : Nat → Nat) (s : zS) (c : Nat) : Bool := decide ((s.1 (Y 49) (12 + c)).toInt = 1)
/-- those farther than d, and of those as far those ahead of i -/
def PrM (sp : Nat → Nat) (d i c : Nat) : Bool := decide (1 ≤ c ∧ (d < sp c ∨ (sp c = d ∧ c < i)))
section FLM
variable {a b : Nat} {Y : Nat → Nat} {R : Nat → Nat → Option Nat} {s t τ : zS} {g : zGl} {N : Nat} {m : Int32} {u sp : Nat → Nat}
theorem zVw.r (h : zYm Y a R) (f : zFr (zVw Y a) s t) {j : Nat} (hj : zYj j) (n : j ≠ 45 ∧ j ≠ 46 ∧ j ≠ 55) : t.1 (Y j) = s.1 (Y j) := funext (fun i => f.2 (Y j) i (by
  rintro (z | z | z | z)
  · exact h.2 j 55 hj (by unfold zYj; omega) n.2.2 z
  · exact h.2 j 45 hj (by unfold zYj; omega) n.1 z
  · exact h.2 j 46 hj (by unfold zYj; omega) n.2.1 z
  · exact (h.1 j hj).2 z.1))
theorem zVw.fl (h : zYm Y a R) (g : zFr (zVw Y a) s t) {j : Nat} (n : j ≠ 47) : t.1 a j = s.1 a j := g.2 a j (by
  rintro (z | z | z | z)
  · exact (h.1 55 (by unfold zYj; omega)).2 z.symm
  · exact (h.1 45 (by unfold zYj; omega)).2 z.symm
  · exact (h.1 46 (by unfold zYj; omega)).2 z.symm
  · exact n z.2)
theorem zUw.up (f : zFr (zUw Y a) s t) : zFr (zVw Y a) s t := zFr.up f (fun c j z => Or.inr z)
theorem zUw.r55 (h : zYm Y a R) (f : zFr (zUw Y a) s t) : t.1 (Y 55) = s.1 (Y 55) := zUw.r h f (by unfold zYj; omega) (by decide) (by decide)
/-- what goes through all stands -/
theorem zVw.all (h : zYm Y a s.2.2) (h18 : (s.1 a 18).toInt = b) (hg : zW5 Y b s g) (f : zFr (zVw Y a) s t) : zYm Y a t.2.2 ∧ (t.1 a 18).toInt = b ∧ zW5 Y b t g ∧ ∀ p y, fMt Y b t p y = fMt Y b s p y := by
  refine ⟨by rw [f.rf]; exact h, by rw [zVw.fl h f (by decide)]; exact h18, hg.cg (fun j hj => zVw.r h f (by unfold zYj; omega) (by omega)), fun p y => fMt.cg (fun j hj => zVw.r h f (by unfold zYj; omega) (by omega))⟩
theorem mMany_w (h : zYm Y a s.2.2) (f : zFr (zVw Y a) s t) : F_X11_many a t = F_X11_many a s := by
  unfold F_X11_many
  simp only [zlt]
  have g21 := (h.1 21 (by unfold zYj; omega)).1
  rw [f.rf, g21, zVw.fl h f (by decide), zVw.r h f (j := 21) (by unfold zYj; omega) (by decide)]
theorem mRainW (h : zYm Y a s.2.2) (h18 : (s.1 a 18).toInt = b) (hb : b ≤ 1) (hg : zW5 Y b s g) (f : zFr (zVw Y a) s t) {p : Int32} {P : Nat} (hp : p.toInt = P) (hP : P < 12) : ∃ τ, F_X11_rainsAt a p t = (F_X11_within (vMl Y b s g 0 P 0) 0 999, τ) ∧ zFr (zUw Y a) t τ := by
  obtain ⟨a1, a2, a3, a4⟩ := zVw.all h h18 hg f
  obtain ⟨τ, e1, e2⟩ := mRainsAt a1 a2 hb a3 hp hP
  refine ⟨τ, ?_, e2⟩
  rw [e1, a4, pI_e hp]
  rfl
theorem mDriesW (h : zYm Y a s.2.2) (h18 : (s.1 a 18).toInt = b) (hb : b ≤ 1) (hg : zW5 Y b s g) (f : zFr (zVw Y a) s t) {p : Int32} {P : Nat} (hp : p.toInt = P) (hP : P < 12) : ∃ τ, F_X11_driesAt a p t = (drM Y b s g P (t.1 (Y 55) P), τ) ∧ zFr (zUw Y a) t τ := by
  obtain ⟨a1, a2, a3, a4⟩ := zVw.all h h18 hg f
  obtain ⟨τ, e1, e2⟩ := mDriesAt a1 a2 hb a3 hp hP
  refine ⟨τ, ?_, e2⟩
  rw [e1, a4, pI_e hp]
  rfl
theorem PrM_t {d i c : Nat} : PrM sp d i c = true ↔ 1 ≤ c ∧ (d < sp c ∨ (sp c = d ∧ c < i)) := by
  unfold PrM
  exact decide_eq_true_iff
theorem PrM_f {d i c : Nat} : PrM sp d i c = false ↔ ¬ (1 ≤ c ∧ (d < sp c ∨ (sp c = d ∧ c < i))) := by
  unfold PrM
  exact decide_eq_false_iff_not
theorem zFw.cgP {dm Pr Pr' : Nat → Bool} {dr : Nat → Int32 → Int32} {r F : Nat → Int32} (h : zFw N u dm dr r Pr F) (e : ∀ c, 1 ≤ c → c < N → Pr' c = Pr c) : zFw N u dm dr r Pr' F := by
  refine ⟨fun c c1 c2 hc x x1 x2 ux => ?_, fun q hq => ?_⟩
  · rw [e x x1 x2]
    rw [e c c1 c2] at hc
    exact h.1 c c1 c2 hc x x1 x2 ux
  · rw [h.2 q hq]
    congr 1
    refine (sm_cg N (fun i hi => ?_)).symm
    by_cases z : 1 ≤ i
    · unfold inF
      rw [e i z hi]
    · rw [inF_0 (fun w => z w.1), inF_0 (fun w => z w.1)]
/-- the rain comes down everywhere -/
theorem mFl2 (h : zYm Y a s.2.2) (h18 : (s.1 a 18).toInt = b) (hb : b ≤ 1) (hg : 0 < N → zW5 Y b s g) (hM : (F_X11_many a s).toInt = N) (hN : N ≤ 12) : ∀ (n : Nat) (x : Int32) (i : Nat) (τ : zS), x.toInt = i → i ≤ N → N - i < n → zFr (zVw Y a) s τ → (∀ p, p < i → τ.1 (Y 55) p = rMl Y b s g m p) → ∃ (τ' : zS) (kL : Int32 → zS → zS), F_X11_fillsFlows_2 a m n x τ = F_X11_fillsFlows_32 a m kL 10000 11 τ' ∧ zFr (zVw Y a) s τ' ∧ ∀ p, p < N → τ'.1 (Y 55) p = rMl Y b s g m p := by
  have g55 := (h.1 55 (by unfold zYj; omega)).1
  intro n
  induction n with
  | zero => intro x i τ _ _ h; exact absurd h (by omega)
  | succ n ih =>
    intro x i τ hx hi hn f hr
    have M : (F_X11_many a τ).toInt = N := by rw [mMany_w h f]; exact hM
    have nx : x.toNatClampNeg = i := by rw [ztn, hx]; rfl
    rw [F_X11_fillsFlows_2]
    simp only [↓zlt, ↓zlt2, f.rf, g55]
    by_cases c : i < N
    · have cx : x.toInt < (F_X11_many a τ).toInt := by omega
      rw [if_pos cx]
      obtain ⟨t, e1, e2⟩ := mRainW h h18 hb (hg (by omega)) f hx (by omega)
      rw [e1, nx]
      have f2 := f.tr (zUw.up e2)
      have f3 : zFr (zVw Y a) s (zu t.1 (Y 55) i (F_X11_within (vMl Y b s g 0 i 0) 0 999 + m), t.2.1, t.2.2) := f2.w (Or.inl rfl)
      refine ih _ (i + 1) _ (zp1 hx (by omega)) (by omega) (by omega) f3 (fun p hp => ?_)
      show zu t.1 (Y 55) i _ (Y 55) p = _
      by_cases e : p = i
      · rw [e, zu_s]
        rfl
      · rw [zu_j _ _ _ _ _ (fun z => e z.symm), zUw.r55 h e2]
        exact hr p (by omega)
    · have cx : ¬ x.toInt < (F_X11_many a τ).toInt := by omega
      rw [if_neg cx]
      exact ⟨τ, _, rfl, f, fun p hp => hr p (by omega)⟩
/-- those that are so far -/
theorem mFl38 (h : zYm Y a s.2.2) (h18 : (s.1 a 18).toInt = b) (hb : b ≤ 1) (hg : 0 < N → zW5 Y b s g) (hM : (F_X11_many a s).toInt = N) (hN : N ≤ 12) (hT : zTr N u) (hu : ∀ c, 1 ≤ c → c < N → (s.1 (Y 49) c).toInt = u c) (hS : ∀ c, c < N → (s.1 (Y 53) c).toInt = sp c) (hsp : ∀ c, 1 ≤ c → c < N → sp c = sp (u c) + 1) {r : Nat → Int32} {x8 : Int32} {d : Nat} (h8 : x8.toInt = d) {k3 k9 : Int32 → zS → zS} : ∀ (n : Nat) (x : Int32) (i : Nat) (τ : zS), x.toInt = i → 1 ≤ i → (i ≤ N ∨ i = 1) → 13 - i < n → zFr (zVw Y a) s τ → zFw N u (dmM Y s) (drM Y b s g) r (PrM sp d i) (fun c => τ.1 (Y 55) c) → ∃ τ', F_X11_fillsFlows_38 x8 a m k3 k9 n x τ = k9 (x8 + (-1 : Int32)) τ' ∧ zFr (zVw Y a) s τ' ∧ zFw N u (dmM Y s) (drM Y b s g) r (PrM sp d 13) (fun c => τ'.1 (Y 55) c) := by
  have g55 := (h.1 55 (by unfold zYj; omega)).1
  have g53 := (h.1 53 (by unfold zYj; omega)).1
  have g49 := (h.1 49 (by unfold zYj; omega)).1
  have e1' : (1 : Int32).toInt = 1 := by decide
  have e12 : (12 : Int32).toInt = 12 := by decide
  intro n
  induction n with
  | zero => intro x i τ _ _ _ h; exact absurd h (by omega)
  | succ n ih =>
    intro x i τ hx hi hi2 hn f hw
    have M : (F_X11_many a τ).toInt = N := by rw [mMany_w h f]; exact hM
    have nx : x.toNatClampNeg = i := by rw [ztn, hx]; rfl
    have r53 : τ.1 (Y 53) = s.1 (Y 53) := zVw.r h f (by unfold zYj; omega) (by decide)
    have r49 : τ.1 (Y 49) = s.1 (Y 49) := zVw.r h f (by unfold zYj; omega) (by decide)
    have x12 : ((12 : Int32) + x).toNatClampNeg = 12 + i := by
      rw [ztn, zb_add (by rw [e12]; omega) (by rw [e12]; omega), e12, hx]
      omega
    rw [F_X11_fillsFlows_38]
    simp only [↓zlt, ↓zlt2, f.rf, g55, g53, g49, nx, r53, r49, x12, e1']
    by_cases c : i < N
    · have cx : x.toInt < (F_X11_many a τ).toInt := by omega
      rw [if_pos cx]
      by_cases cd : sp i = d
      · have cs : (s.1 (Y 53) i).toInt = x8.toInt := by rw [hS i c, h8, cd]
        rw [if_pos cs]
        have Pc : PrM sp d i i = false := PrM_f.mpr (by omega)
        have Pk : ∀ e, 1 ≤ e → e < N → u e = i → PrM sp d i e = true := fun e x1 x2 eu => PrM_t.mpr ⟨x1, Or.inl (by have := hsp e x1 x2; rw [eu] at this; omega)⟩
        have Ps : ∀ y, PrM sp d (i + 1) y = (PrM sp d i y || decide (y = i)) := fun y => by
          rw [Bool.eq_iff_iff]
          simp only [Bool.or_eq_true, decide_eq_true_eq]
          rw [PrM_t, PrM_t]
          constructor
          · rintro ⟨y1, y2⟩
            by_cases e : y = i
            · exact Or.inr e
            · exact Or.inl ⟨y1, by omega⟩
          · rintro (⟨y1, y2⟩ | e)
            · exact ⟨y1, by omega⟩
            · rw [e]
              exact ⟨hi, Or.inr ⟨cd, by omega⟩⟩
        by_cases dm : (s.1 (Y 49) (12 + i)).toInt = 1
        · rw [if_pos dm]
          have dm' : ¬ dmM Y s i = false := fun z => by
            unfold dmM at z
            rw [decide_eq_false_iff_not] at z
            exact z dm
          exact ih _ (i + 1) τ (zp1 hx (by omega)) (by omega) (by omega) (by omega) f (hw.step hT hi c Pc Pk Ps (fun y hy => by rw [if_neg (fun z => dm' z.1)]))
        · rw [if_neg dm]
          have dm' : dmM Y s i = false := by
            unfold dmM
            rw [decide_eq_false_iff_not]
            exact dm
          obtain ⟨t, d1, d2⟩ := mDriesW h h18 hb (hg (by omega)) f hx (by omega)
          have r55 := zUw.r55 h d2
          have t49 : t.1 (Y 49) = s.1 (Y 49) := (zUw.r h d2 (j := 49) (by unfold zYj; omega) (by decide) (by decide)).trans r49
          have rt : t.2.2 = s.2.2 := d2.rf.trans f.rf
          have nu : (s.1 (Y 49) i).toNatClampNeg = u i := by rw [ztn, hu i hi c]; rfl
          rw [d1]
          simp only [rt, g55, g49, t49, nu, r55]
          have f2 := f.tr (zUw.up d2)
          have F : zFr (zVw Y a) s (zu t.1 (Y 55) (u i) (τ.1 (Y 55) (u i) + (τ.1 (Y 55) i - drM Y b s g i (τ.1 (Y 55) i))), t.2.1, s.2.2) := by
            have q := f2.w (r := Y 55) (j := u i) (v := τ.1 (Y 55) (u i) + (τ.1 (Y 55) i - drM Y b s g i (τ.1 (Y 55) i))) (Or.inl rfl)
            rw [rt] at q
            exact q
          exact ih _ (i + 1) _ (zp1 hx (by omega)) (by omega) (by omega) (by omega) F (hw.step hT hi c Pc Pk Ps (fun y hy => by
            show zu t.1 (Y 55) (u i) _ (Y 55) y = _
            by_cases e : y = u i
            · rw [if_pos ⟨dm', e⟩, e, zu_s]
            · rw [if_neg (fun z => e z.2), zu_j _ _ _ _ _ (fun z => e z.symm), r55]))
      · have cs : ¬ (s.1 (Y 53) i).toInt = x8.toInt := by rw [hS i c, h8]; omega
        rw [if_neg cs]
        refine ih _ (i + 1) τ (zp1 hx (by omega)) (by omega) (by omega) (by omega) f (hw.cgP (fun y y1 y2 => ?_))
        rw [Bool.eq_iff_iff, PrM_t, PrM_t]
        constructor
        · rintro ⟨z1, z2⟩
          refine ⟨z1, ?_⟩
          rcases z2 with z2 | ⟨z2, z3⟩
          · exact Or.inl z2
          · by_cases e : y = i
            · rw [e] at z2
              exact absurd z2 cd
            · exact Or.inr ⟨z2, by omega⟩
        · rintro ⟨z1, z2⟩
          exact ⟨z1, by omega⟩
    · have cx : ¬ x.toInt < (F_X11_many a τ).toInt := by omega
      rw [if_neg cx]
      refine ⟨τ, rfl, f, hw.cgP (fun y y1 y2 => ?_)⟩
      rw [Bool.eq_iff_iff, PrM_t, PrM_t]
      constructor
      · rintro ⟨z1, z2⟩
        exact ⟨z1, by omega⟩
      · rintro ⟨z1, z2⟩
        exact ⟨z1, by omega⟩
theorem mFl32 (h : zYm Y a s.2.2) (h18 : (s.1 a 18).toInt = b) (hb : b ≤ 1) (hg : 0 < N → zW5 Y b s g) (hM : (F_X11_many a s).toInt = N) (hN : N ≤ 12) (hT : zTr N u) (hu : ∀ c, 1 ≤ c → c < N → (s.1 (Y 49) c).toInt = u c) (hS : ∀ c, c < N → (s.1 (Y 53) c).toInt = sp c) (hsp : ∀ c, 1 ≤ c → c < N → sp c = sp (u c) + 1) {r : Nat → Int32} {k3 : Int32 → zS → zS} : ∀ (n : Nat) (x : Int32) (d : Nat) (τ : zS), x.toInt = d → d < n → zFr (zVw Y a) s τ → zFw N u (dmM Y s) (drM Y b s g) r (PrM sp d 1) (fun c => τ.1 (Y 55) c) → zFr (zVw Y a) s (F_X11_fillsFlows_32 a m k3 n x τ) ∧ zFw N u (dmM Y s) (drM Y b s g) r (fun c => decide (1 ≤ c)) (fun c => (F_X11_fillsFlows_32 a m k3 n x τ).1 (Y 55) c) := by
  have em : (-1 : Int32).toInt = -1 := by decide
  have e1' : (1 : Int32).toInt = 1 := by decide
  intro n
  induction n with
  | zero => intro x d τ _ h; exact absurd h (by omega)
  | succ n ih =>
    intro x d τ hx hd f hw
    rw [F_X11_fillsFlows_32]
    simp only [↓zlt]
    by_cases c : 0 < d
    · have cx : 0 < x.toInt := by omega
      rw [if_pos cx]
      obtain ⟨τ', e1, e2, e3⟩ := mFl38 (m := m) (k3 := k3) (k9 := F_X11_fillsFlows_32 a m k3 n) h h18 hb hg hM hN hT hu hS hsp hx 10000 1 1 τ e1' (Nat.le_refl _) (Or.inr rfl) (by omega) f hw
      rw [e1]
      have bx := zb_rng x
      refine ih _ (d - 1) τ' (by rw [zb_add (by rw [em]; omega) (by rw [em]; omega), em, hx]; omega) (by omega) e2 (e3.cgP (fun y y1 y2 => ?_))
      rw [Bool.eq_iff_iff, PrM_t, PrM_t]
      constructor
      · rintro ⟨z1, z2⟩
        exact ⟨z1, by omega⟩
      · rintro ⟨z1, z2⟩
        exact ⟨z1, by omega⟩
    · have cx : ¬ 0 < x.toInt := by omega
      have d0 : d = 0 := by omega
      rw [if_neg cx]
      rw [d0] at hw
      refine ⟨f, hw.cgP (fun y y1 y2 => ?_)⟩
      rw [Bool.eq_iff_iff, PrM_t, decide_eq_true_iff]
      have := hsp y y1 y2
      constructor
      · intro _
        exact ⟨y1, Or.inl (by omega)⟩
      · intro z
        exact z.1
/-- the flows filled -/
theorem mFlow (h : zYm Y a s.2.2) (h18 : (s.1 a 18).toInt = b) (hb : b ≤ 1) (hg : 0 < N → zW5 Y b s g) (hM : (F_X11_many a s).toInt = N) (hN : N ≤ 12) (hT : zTr N u) (hu : ∀ c, 1 ≤ c → c < N → (s.1 (Y 49) c).toInt = u c) (hS : ∀ c, c < N → (s.1 (Y 53) c).toInt = sp c) (hsp : ∀ c, 1 ≤ c → c < N → sp c = sp (u c) + 1) (h11 : ∀ c, c < N → sp c ≤ 11) (f : zFr (zVw Y a) s t) : zFr (zVw Y a) s (F_X11_fillsFlows a m t) ∧ zFw N u (dmM Y s) (drM Y b s g) (rMl Y b s g m) (fun c => decide (1 ≤ c)) (fun c => (F_X11_fillsFlows a m t).1 (Y 55) c) := by
  have e0 : (0 : Int32).toInt = 0 := by decide
  unfold F_X11_fillsFlows
  simp only [zlt]
  obtain ⟨τ', kL, e1, e2, e3⟩ := mFl2 (m := m) h h18 hb hg hM hN 10000 0 0 t e0 (by omega) (by omega) f (fun p hp => absurd hp (by omega))
  rw [e1]
  refine mFl32 h h18 hb hg hM hN hT hu hS hsp 10000 11 11 τ' (by decide) (by omega) e2 (zFw.st e3 (fun c c1 c2 => PrM_f.mpr (fun z => ?_)))
  have := h11 c c2
  omega
end FLM
end
-- 35x99.lw32
section
/-! BOTH RIVERS FLOW ALIKE -/
/-- what stands alike: facts and dams -/
def zEq (q Y : Nat → Nat) (b N : Nat) (D : Int32) (s1 s2 : zS) : Prop := (∀ p f, p < N → fCt q s1 (pI p) f = fMt Y b s2 (pI p) f) ∧ ∀ c, 1 ≤ c → c < N → dmC D c = dmM Y s2 c
section BOTHF
variable {q Y : Nat → Nat} {a b N : Nat} {R : Nat → Nat → Option Nat} {s1 s2 t1 t2 τ : zS} {g : zGl} {D m : Int32} {u l sp : Nat → Nat}
theorem vEq (E : zEq q Y b N D s1 s2) {k p : Nat} {f : Int32} (hp : p < N) : vCl q s1 g k p f = vMl Y b s2 g k p f := by
  unfold vCl vMl
  rw [E.1 p f hp]
theorem rEq (E : zEq q Y b N D s1 s2) {p : Nat} (hp : p < N) : rCl q s1 g m p = rMl Y b s2 g m p := by
  unfold rCl rMl
  rw [vEq E hp, held_e (by decide)]
theorem drEq (E : zEq q Y b N D s1 s2) {p : Nat} {f : Int32} (hp : p < N) (hf : 0 ≤ f.toInt) : drC q s1 g p f = drM Y b s2 g p f := by
  have z0 : (0 : Int32).toInt = 0 := by decide
  unfold drC drM
  rw [vEq E hp, held_e (by rw [z0]; exact hf)]
theorem rCl_b {s : zS} {p : Nat} (hm : 0 ≤ m.toInt ∧ m.toInt ≤ 99) : 0 ≤ (rCl q s g m p).toInt ∧ (rCl q s g m p).toInt ≤ 1098 := by
  have z0 : (0 : Int32).toInt = 0 := by decide
  have z9 : (999 : Int32).toInt = 999 := by decide
  have r := held_r (v := vCl q s g 0 p 0) (lo := 0) (hi := 999) (by decide)
  rw [z0, z9] at r
  unfold rCl
  rw [zb_add (by omega) (by omega)]
  omega
/-- the same water everywhere -/
theorem flowEq (h : zQr q s1.2.2) (hg1 : 0 < N → zL5 q s1 g) (h0 : (s1.1 (q 1) 0).toInt = N) (hN : N ≤ 12) (hT : zTr N u) (hu1 : ∀ c, 1 ≤ c → c < N → (s1.1 (q 19) c).toInt = u c) (E : zLnP N u (q 16) l s1) (hy : zYm Y a s2.2.2) (h18 : (s2.1 a 18).toInt = b) (hb : b ≤ 1) (hg2 : 0 < N → zW5 Y b s2 g) (hM : (F_X11_many a s2).toInt = N) (hu2 : ∀ c, 1 ≤ c → c < N → (s2.1 (Y 49) c).toInt = u c) (hS : ∀ c, c < N → (s2.1 (Y 53) c).toInt = sp c) (hsp : ∀ c, 1 ≤ c → c < N → sp c = sp (u c) + 1) (h11 : ∀ c, c < N → sp c ≤ 11) (hE : zEq q Y b N D s1 s2) (hm : 0 ≤ m.toInt ∧ m.toInt ≤ 99) (f1 : zFr (zRw q) s1 t1) (hr : ∀ p, p < N → t1.1 (q 5) p = rCl q s1 g m p) (f2 : zFr (zVw Y a) s2 t2) : ∀ p, p < N → (F_X5_run (q 0) D t1).1 (q 6) p = (F_X11_fillsFlows a m t2).1 (Y 55) p := by
  obtain ⟨-, -, a3, a4⟩ := cRun (D := D) h hg1 h0 hN hT hu1 E f1 hr (fun p _ => rCl_b hm)
  obtain ⟨-, b2⟩ := mFlow (m := m) hy h18 hb hg2 hM hN hT hu2 hS hsp h11 f2
  have dmE : zFw N u (dmC D) (drM Y b s2 g) (rMl Y b s2 g m) (fun c => decide (1 ≤ c)) (fun c => (F_X11_fillsFlows a m t2).1 (Y 55) c) := by
    refine ⟨b2.1, fun p hp => ?_⟩
    rw [b2.2 p hp]
    congr 1
    refine (sm_cg N (fun i hi => ?_)).symm
    by_cases z : 1 ≤ i
    · unfold inF
      rw [hE.2 i z hi]
    · rw [inF_0 (fun w => z w.1), inF_0 (fun w => z w.1)]
  exact a3.uniq hT dmE (PrC_all E) (fun c c1 _ => decide_eq_true c1) (fun p hp => rEq hE hp) (fun c f hc hf => drEq hE hc hf) a4
end BOTHF
end
-- 35y00.lw33
section
/-! CLAIMS AND WINNERS -/
noncomputable def sB (N : Nat) (u : Nat → Nat) (p : Nat) : Bool := @decide (Src N u p) (Classical.propDecidable _)
theorem sB_t {N p : Nat} {u : Nat → Nat} : sB N u p = true ↔ Src N u p := by
  unfold sB
  exact @decide_eq_true_iff _ (Classical.propDecidable _)
/-- the first with the greatest claim, but for one; -2: nobody -/
def wn (S : Nat → Bool) (C : Nat → Int32) (but : Int) : Nat → Int
  | 0 => -2
  | p + 1 => if (S p && (!decide ((p : Int) = but) && (decide (wn S C but p < 0) || decide ((C (wn S C but p).toNat).toInt < (C p).toInt)))) = true then (p : Int) else wn S C but p
section WN
variable {S : Nat → Bool} {C C' : Nat → Int32} {but : Int} {p : Nat}
theorem wn_r : ∀ i, wn S C but i = -2 ∨ ∃ p : Nat, p < i ∧ wn S C but i = p ∧ S p = true ∧ (p : Int) ≠ but := by
  intro i
  induction i with
  | zero => exact Or.inl rfl
  | succ i ih =>
    rw [wn]
    split
    · next c =>
      simp only [Bool.and_eq_true, Bool.not_eq_true', decide_eq_false_iff_not] at c
      exact Or.inr ⟨i, by omega, rfl, c.1, c.2.1⟩
    · rcases ih with ih | ⟨p, p1, p2, p3⟩
      · exact Or.inl ih
      · exact Or.inr ⟨p, by omega, p2, p3⟩
theorem wn_y (h1 : S p = true) (h2 : (p : Int) ≠ but) (h3 : wn S C but p < 0 ∨ (C (wn S C but p).toNat).toInt < (C p).toInt) : wn S C but (p + 1) = p := by
  rw [wn, if_pos]
  simp only [Bool.and_eq_true, Bool.not_eq_true', decide_eq_false_iff_not, Bool.or_eq_true, decide_eq_true_eq]
  exact ⟨h1, h2, h3⟩
theorem wn_n (h : ¬ (S p = true ∧ (p : Int) ≠ but ∧ (wn S C but p < 0 ∨ (C (wn S C but p).toNat).toInt < (C p).toInt))) : wn S C but (p + 1) = wn S C but p := by
  rw [wn, if_neg]
  simp only [Bool.and_eq_true, Bool.not_eq_true', decide_eq_false_iff_not, Bool.or_eq_true, decide_eq_true_eq]
  exact h
theorem wn_cg : ∀ i, (∀ p, p < i → S p = true → C' p = C p) → wn S C' but i = wn S C but i := by
  intro i
  induction i with
  | zero => intro _; rfl
  | succ i ih =>
    intro h
    have q := ih (fun p hp => h p (by omega))
    have r := wn_r (S := S) (C := C) (but := but) i
    by_cases s : S i = true
    · have ci := h i (by omega) s
      by_cases z : (i : Int) ≠ but ∧ (wn S C but i < 0 ∨ (C (wn S C but i).toNat).toInt < (C i).toInt)
      · rw [wn_y s z.1 z.2, wn_y s z.1]
        rw [q, ci]
        rcases z.2 with z2 | z2
        · exact Or.inl z2
        · rcases r with r | ⟨p, p1, p2, p3, -⟩
          · exact Or.inl (by omega)
          · right
            rw [h (wn S C but i).toNat (by omega) (by rw [p2]; exact p3)]
            exact z2
      · rw [wn_n (fun w => z w.2), wn_n, q]
        rw [q, ci]
        rintro ⟨-, w1, w2⟩
        refine z ⟨w1, ?_⟩
        rcases w2 with w2 | w2
        · exact Or.inl w2
        · rcases r with r | ⟨p, p1, p2, p3, -⟩
          · exact Or.inl (by omega)
          · right
            rw [h (wn S C but i).toNat (by omega) (by rw [p2]; exact p3)] at w2
            exact w2
    · rw [wn_n (fun w => s w.1), wn_n (fun w => s w.1), q]
theorem wn_1 (h : S 0 = false) : wn S C but 1 = -2 := by
  rw [wn_n (fun z => by rw [h] at z; exact absurd z.1 (by decide))]
  rfl
end WN
/-- what a place claims by a law -/
noncomputable def clC (q : Nat → Nat) (s : zS) (g : zGl) (w p : Nat) (f : Int32) : Int32 := F_X10_held (vCl q s g (2 + w) p f) 0 99999
noncomputable def clM (Y : Nat → Nat) (b : Nat) (s : zS) (g : zGl) (w p : Nat) (f : Int32) : Int32 := F_X11_within (vMl Y b s g (2 + w) p f) 0 99999
section WINC
variable {q : Nat → Nat} {R : Nat → Nat → Option Nat} {s t τ : zS} {g : zGl} {N : Nat} {u : Nat → Nat} {k : Int32} {w : Nat}
theorem cIsR (h : zQr q s.2.2) (f : zFr (zRw q) s τ) {x : Int32} : F_X6_isSource (q 1) x τ = ((F_X6_isSource (q 1) x s).1, τ) := by
  obtain ⟨-, -, -, ⟨-, -, g18⟩, -⟩ := id h.1
  have r0 : τ.1 (q 1) 0 = s.1 (q 1) 0 := congrFun (zRw.r h f (by decide) (by omega)) 0
  have r18 : τ.1 (q 18) = s.1 (q 18) := zRw.r h f (by decide) (by omega)
  unfold F_X6_isSource
  simp only [zlt, f.rf, g18, r0, r18]
  (repeat' split) <;> rfl
theorem cClaim (h : zQr q s.2.2) (hg : zL5 q s g) (f : zFr (zRw q) s t) (hk : k.toInt = w) (hw : w < 3) {x : Int32} {p : Nat} (hp : x.toInt = p) : ∃ τ, F_X5_claimOf (q 0) x k t = (clC q s g w p (t.1 (q 6) p), τ) ∧ zFr (zTw q) t τ := by
  obtain ⟨⟨-, -, -, -, -, g6, -⟩, -⟩ := id h.1
  have e2' : (2 : Int32).toInt = 2 := by decide
  have hk2 : ((2 : Int32) + k).toInt = ((2 + w : Nat) : Int) := by rw [zb_add (by rw [e2']; omega) (by rw [e2']; omega), e2', hk]; omega
  have rt : t.2.2 = s.2.2 := f.rf
  have nx : x.toNatClampNeg = p := by rw [ztn, hp]; rfl
  obtain ⟨τ, e1, e2⟩ := cTellsR (k := (2 : Int32) + k) (y := t.1 (q 6) p) (w := 2 + w) h hg f hk2 (by omega) hp
  refine ⟨τ, ?_, e2⟩
  unfold F_X5_claimOf
  simp only [↓zlt, ↓zlt2, rt, g6, nx, e1]
  rfl
theorem cWeighL (h : zQr q s.2.2) (hg : 0 < N → zL5 q s g) (h0 : (s.1 (q 1) 0).toInt = N) (hN : N ≤ 12) (hI : ∀ x : Int32, (F_X6_isSource (q 1) x s).1.toInt = 0 ↔ ¬ (0 ≤ x.toInt ∧ Src N u x.toInt.toNat)) (hk : k.toInt = w) (hw : w < 3) (F : Nat → Int32) : ∀ (n : Nat) (x : Int32) (i : Nat) (τ : zS), x.toInt = i → 1 ≤ i → 13 - i < n → zFr (zRw q) s τ → (∀ p, p < N → τ.1 (q 6) p = F p) → (∀ p, 1 ≤ p → p < i → p < N → Src N u p → τ.1 (q 7) p = clC q s g w p (F p)) → zFr (zRw q) s (F_X5_weigh_2 (q 0) k n x τ) ∧ zFr (fun c _ => c = q 7 ∨ c = q 8 ∨ c = q 9) τ (F_X5_weigh_2 (q 0) k n x τ) ∧ ∀ p, 1 ≤ p → p < N → Src N u p → (F_X5_weigh_2 (q 0) k n x τ).1 (q 7) p = clC q s g w p (F p) := by
  obtain ⟨⟨g1, -, -, -, -, g6, g7⟩, -⟩ := id h.1
  intro n
  induction n with
  | zero => intro x i τ _ _ h; exact absurd h (by omega)
  | succ n ih =>
    intro x i τ hx hi hn f hF hc
    have rt : τ.2.2 = s.2.2 := f.rf
    have t0 : (τ.1 (q 1) 0).toInt = N := by rw [congrFun (zRw.r h f (i := 1) (by decide) (by omega)) 0]; exact h0
    have nx : x.toNatClampNeg = i := by rw [ztn, hx]; rfl
    rw [F_X5_weigh_2]
    simp only [↓zlt, ↓zlt2, rt, g1, g7, cIsR h f]
    by_cases c : i < N
    · have cx : x.toInt < (τ.1 (q 1) 0).toInt := by omega
      rw [if_pos cx]
      have nI := hI x
      rw [show x.toInt.toNat = i by omega] at nI
      by_cases sx : Src N u i
      · have cz : ¬ (F_X6_isSource (q 1) x s).1.toInt = 0 := fun z => (nI.mp z) ⟨by omega, sx⟩
        rw [if_neg cz]
        obtain ⟨t, e1, e2⟩ := cClaim h (hg (by omega)) f hk hw hx
        rw [e1, nx, hF i c]
        have f2 := f.tr (zTw.up e2)
        have f3 : zFr (fun c _ => c = q 7 ∨ c = q 8 ∨ c = q 9) τ (zu t.1 (q 7) i (clC q s g w i (F i)), t.2.1, t.2.2) := (zFr.up e2 (fun c j z => Or.inr z)).w (Or.inl rfl)
        obtain ⟨a1, a2, a3⟩ := ih _ (i + 1) (zu t.1 (q 7) i (clC q s g w i (F i)), t.2.1, t.2.2) (zp1 hx (by omega)) (by omega) (by omega) (f2.w (Or.inr (Or.inr (Or.inl rfl)))) (fun p hp => by
          rw [f3.2 (q 6) p (by
            rintro (z | z | z)
            · exact h.n (by decide) (by decide) (by decide) z
            · exact h.n (by decide) (by decide) (by decide) z
            · exact h.n (by decide) (by decide) (by decide) z)]
          exact hF p hp) (fun p p1 p2 p3 p4 => by
          show zu t.1 (q 7) i _ (q 7) p = _
          by_cases e : p = i
          · rw [e, zu_s]
          · rw [zu_j _ _ _ _ _ (fun z => e z.symm), e2.2 (q 7) p (by
              rintro (z | z)
              · exact h.n (by decide) (by decide) (by decide) z
              · exact h.n (by decide) (by decide) (by decide) z)]
            exact hc p p1 (by omega) p3 p4)
        exact ⟨a1, f3.tr a2, a3⟩
      · have cz : (F_X6_isSource (q 1) x s).1.toInt = 0 := nI.mpr (fun z => sx z.2)
        rw [if_pos cz, nx]
        have f3 : zFr (fun c _ => c = q 7 ∨ c = q 8 ∨ c = q 9) τ (zu τ.1 (q 7) i (-1), τ.2.1, s.2.2) := by
          have z := (zFr.id (A := fun c _ => c = q 7 ∨ c = q 8 ∨ c = q 9) (σ := τ)).w (r := q 7) (j := i) (v := (-1 : Int32)) (Or.inl rfl)
          rw [rt] at z
          exact z
        have f4 : zFr (zRw q) s (zu τ.1 (q 7) i (-1), τ.2.1, s.2.2) := by
          have z := f.w (r := q 7) (j := i) (v := (-1 : Int32)) (Or.inr (Or.inr (Or.inl rfl)))
          rw [rt] at z
          exact z
        obtain ⟨a1, a2, a3⟩ := ih _ (i + 1) (zu τ.1 (q 7) i (-1), τ.2.1, s.2.2) (zp1 hx (by omega)) (by omega) (by omega) f4 (fun p hp => by
          rw [f3.2 (q 6) p (by
            rintro (z | z | z)
            · exact h.n (by decide) (by decide) (by decide) z
            · exact h.n (by decide) (by decide) (by decide) z
            · exact h.n (by decide) (by decide) (by decide) z)]
          exact hF p hp) (fun p p1 p2 p3 p4 => by
          show zu τ.1 (q 7) i _ (q 7) p = _
          have e : p ≠ i := fun z => sx (by rw [← z]; exact p4)
          rw [zu_j _ _ _ _ _ (fun z => e z.symm)]
          exact hc p p1 (by omega) p3 p4)
        exact ⟨a1, f3.tr a2, a3⟩
    · have cx : ¬ x.toInt < (τ.1 (q 1) 0).toInt := by omega
      rw [if_neg cx]
      exact ⟨f, zFr.id, fun p p1 p2 p3 => hc p p1 (by omega) p2 p3⟩
theorem cWeigh (h : zQr q s.2.2) (hg : 0 < N → zL5 q s g) (h0 : (s.1 (q 1) 0).toInt = N) (hN : N ≤ 12) (hI : ∀ x : Int32, (F_X6_isSource (q 1) x s).1.toInt = 0 ↔ ¬ (0 ≤ x.toInt ∧ Src N u x.toInt.toNat)) (hk : k.toInt = w) (hw : w < 3) {F : Nat → Int32} (f : zFr (zRw q) s t) (hF : ∀ p, p < N → t.1 (q 6) p = F p) : zFr (zRw q) s (F_X5_weigh (q 0) k t) ∧ zFr (fun c _ => c = q 7 ∨ c = q 8 ∨ c = q 9) t (F_X5_weigh (q 0) k t) ∧ ∀ p, 1 ≤ p → p < N → Src N u p → (F_X5_weigh (q 0) k t).1 (q 7) p = clC q s g w p (F p) := by
  unfold F_X5_weigh
  simp only [zlt]
  exact cWeighL h hg h0 hN hI hk hw F 10000 1 1 t (by decide) (by omega) (by omega) f hF (fun p p1 p2 => absurd p2 (by omega))
theorem cGreatL (h : zQr q s.2.2) (h0 : (s.1 (q 1) 0).toInt = N) (hN : N ≤ 12) (hI : ∀ x : Int32, (F_X6_isSource (q 1) x s).1.toInt = 0 ↔ ¬ (0 ≤ x.toInt ∧ Src N u x.toInt.toNat)) (f : zFr (zRw q) s t) {but : Int32} : ∀ (n : Nat) (x y : Int32) (i : Nat), x.toInt = i → 1 ≤ i → (i ≤ N ∨ i = 1) → 13 - i < n → y.toInt = wn (sB N u) (fun p => t.1 (q 7) p) but.toInt i → ∃ v, F_X5_greatestClaim_5 (q 0) but n x y t = (v, t) ∧ v.toInt = wn (sB N u) (fun p => t.1 (q 7) p) but.toInt (if 1 ≤ N then N else 1) := by
  obtain ⟨⟨g1, -, -, -, -, g6, g7⟩, -⟩ := id h.1
  have rt : t.2.2 = s.2.2 := f.rf
  have t0 : (t.1 (q 1) 0).toInt = N := by rw [congrFun (zRw.r h f (i := 1) (by decide) (by omega)) 0]; exact h0
  intro n
  induction n with
  | zero => intro x y i _ _ _ h; exact absurd h (by omega)
  | succ n ih =>
    intro x y i hx hi hi2 hn hy
    have nx : x.toNatClampNeg = i := by rw [ztn, hx]; rfl
    have nI := hI x
    rw [show x.toInt.toNat = i by omega] at nI
    rw [F_X5_greatestClaim_5]
    simp only [↓zlt, ↓zlt2, rt, g1, g7, cIsR h f, nx]
    by_cases c : i < N
    · have cx : x.toInt < (t.1 (q 1) 0).toInt := by omega
      rw [if_pos cx]
      have go : ∀ z : Int32, z.toInt = wn (sB N u) (fun p => t.1 (q 7) p) but.toInt (i + 1) → ∃ v, F_X5_greatestClaim_5 (q 0) but n (x + (1 : Int32)) z t = (v, t) ∧ v.toInt = wn (sB N u) (fun p => t.1 (q 7) p) but.toInt (if 1 ≤ N then N else 1) := fun z hz => ih _ z (i + 1) (zp1 hx (by omega)) (by omega) (by omega) (by omega) hz
      by_cases cb : x.toInt = but.toInt
      · rw [if_pos cb]
        exact go y (by rw [wn_n (fun z => z.2.1 (by omega))]; exact hy)
      · rw [if_neg cb]
        by_cases sx : Src N u i
        · have cz : ¬ (F_X6_isSource (q 1) x s).1.toInt = 0 := fun z => (nI.mp z) ⟨by omega, sx⟩
          rw [if_neg cz]
          have ny : y.toNatClampNeg = (wn (sB N u) (fun p => t.1 (q 7) p) but.toInt i).toNat := by rw [ztn, hy]
          by_cases c0 : y.toInt < 0
          · rw [if_pos c0]
            exact go x (by rw [wn_y (sB_t.mpr sx) (by omega) (Or.inl (by omega))]; exact hx)
          · rw [if_neg c0, ny]
            by_cases c1 : (t.1 (q 7) (wn (sB N u) (fun p => t.1 (q 7) p) but.toInt i).toNat).toInt < (t.1 (q 7) i).toInt
            · rw [if_pos c1]
              exact go x (by rw [wn_y (sB_t.mpr sx) (by omega) (Or.inr c1)]; exact hx)
            · rw [if_neg c1]
              exact go y (by rw [wn_n (fun z => z.2.2.elim (fun w => by omega) c1)]; exact hy)
        · have cz : (F_X6_isSource (q 1) x s).1.toInt = 0 := nI.mpr (fun z => sx z.2)
          rw [if_pos cz]
          exact go y (by rw [wn_n (fun z => sx (sB_t.mp z.1))]; exact hy)
    · have cx : ¬ x.toInt < (t.1 (q 1) 0).toInt := by omega
      rw [if_neg cx]
      refine ⟨y, rfl, ?_⟩
      rw [hy]
      congr 1
      split <;> omega
theorem sB_0 : sB N u 0 = false := by
  cases e : sB N u 0 with
  | false => rfl
  | true => exact absurd (sB_t.mp e).1 (by omega)
/-- at most N: as for N ≥ 1 -/
theorem wn_N {C : Nat → Int32} {but : Int} : wn (sB N u) C but (if 1 ≤ N then N else 1) = wn (sB N u) C but N := by
  by_cases c : 1 ≤ N
  · rw [if_pos c]
  · rw [if_neg c, wn_1 sB_0, show N = 0 by omega]
    rfl
theorem cGreat (h : zQr q s.2.2) (h0 : (s.1 (q 1) 0).toInt = N) (hN : N ≤ 12) (hI : ∀ x : Int32, (F_X6_isSource (q 1) x s).1.toInt = 0 ↔ ¬ (0 ≤ x.toInt ∧ Src N u x.toInt.toNat)) (f : zFr (zRw q) s t) (but : Int32) : ∃ v, F_X5_greatestClaim (q 0) but t = (v, t) ∧ v.toInt = wn (sB N u) (fun p => t.1 (q 7) p) but.toInt N := by
  unfold F_X5_greatestClaim
  simp only [zlt]
  obtain ⟨v, e1, e2⟩ := cGreatL (but := but) h h0 hN hI f 10000 1 (-2) 1 (by decide) (by omega) (Or.inr rfl) (by omega) (by rw [wn_1 sB_0]; decide)
  exact ⟨v, e1, e2.trans wn_N⟩
/-- who wins, to the class -/
theorem cWin (h : zQr q s.2.2) (hg : 0 < N → zL5 q s g) (h0 : (s.1 (q 1) 0).toInt = N) (hN : N ≤ 12) (hI : ∀ x : Int32, (F_X6_isSource (q 1) x s).1.toInt = 0 ↔ ¬ (0 ≤ x.toInt ∧ Src N u x.toInt.toNat)) (hk : k.toInt = w) (hw : w < 3) {F : Nat → Int32} (f : zFr (zRw q) s t) (hF : ∀ p, p < N → t.1 (q 6) p = F p) : ∃ v τ, F_X5_winnerBy (q 0) k t = (v, τ) ∧ v.toInt = wn (sB N u) (fun p => clC q s g w p (F p)) (-1) N ∧ zFr (zRw q) s τ ∧ zFr (fun c _ => c = q 7 ∨ c = q 8 ∨ c = q 9) t τ ∧ ∀ p, 1 ≤ p → p < N → Src N u p → τ.1 (q 7) p = clC q s g w p (F p) := by
  obtain ⟨a1, a2, a3⟩ := cWeigh h hg h0 hN hI hk hw f hF
  obtain ⟨v, e1, e2⟩ := cGreat h h0 hN hI a1 (-1)
  refine ⟨v, F_X5_weigh (q 0) k t, ?_, ?_, a1, a2, a3⟩
  · unfold F_X5_winnerBy
    simp only [zlt, zlt2, e1]
  · rw [e2, show ((-1 : Int32)).toInt = -1 from by decide]
    exact wn_cg N (fun p hp sp => a3 p (sB_t.mp sp).1 hp (sB_t.mp sp))
end WINC
section WINM
variable {a b : Nat} {Y : Nat → Nat} {R : Nat → Nat → Option Nat} {s t τ : zS} {g : zGl} {N : Nat} {u : Nat → Nat} {k : Int32} {w : Nat}
theorem mIsR (h : zYm Y a s.2.2) (f : zFr (zVw Y a) s τ) {x : Int32} : F_X11_isSource a x τ = F_X11_isSource a x s := by
  have g54 := (h.1 54 (by unfold zYj; omega)).1
  have r54 : τ.1 (Y 54) = s.1 (Y 54) := zVw.r h f (by unfold zYj; omega) (by decide)
  unfold F_X11_isSource F_X11_isBeside
  simp only [zlt, f.rf, g54, r54, mMany_w h f]
theorem mClaimW (h : zYm Y a s.2.2) (h18 : (s.1 a 18).toInt = b) (hb : b ≤ 1) (hg : zW5 Y b s g) (f : zFr (zVw Y a) s t) (hk : k.toInt = w) (hw : w < 3) {p : Int32} {P : Nat} (hp : p.toInt = P) (hP : P < 12) : ∃ τ, F_X11_claimOf a p k t = (clM Y b s g w P (t.1 (Y 55) P), τ) ∧ zFr (zUw Y a) t τ := by
  obtain ⟨a1, a2, a3, a4⟩ := zVw.all h h18 hg f
  obtain ⟨τ, e1, e2⟩ := mClaimOf a1 a2 hb a3 hp hP hk hw
  refine ⟨τ, ?_, e2⟩
  rw [e1, a4, pI_e hp]
  rfl
theorem mWinL (h : zYm Y a s.2.2) (h18 : (s.1 a 18).toInt = b) (hb : b ≤ 1) (hg : 0 < N → zW5 Y b s g) (hM : (F_X11_many a s).toInt = N) (hN : N ≤ 12) (hI : ∀ x : Int32, (F_X11_isSource a x s).toInt = 0 ↔ ¬ (0 ≤ x.toInt ∧ Src N u x.toInt.toNat)) (hk : k.toInt = w) (hw : w < 3) (F : Nat → Int32) : ∀ (n : Nat) (x y z : Int32) (i : Nat) (τ : zS), x.toInt = i → 1 ≤ i → (i ≤ N ∨ i = 1) → 13 - i < n → zFr (zVw Y a) s τ → (∀ p, p < N → τ.1 (Y 55) p = F p) → z.toInt = wn (sB N u) (fun p => clM Y b s g w p (F p)) (-1) i → (0 ≤ z.toInt → y = clM Y b s g w z.toInt.toNat (F z.toInt.toNat)) → ∃ v τ', F_X11_winnerBy_8 a k n x y z τ = (v, τ') ∧ v.toInt = wn (sB N u) (fun p => clM Y b s g w p (F p)) (-1) (if 1 ≤ N then N else 1) ∧ zFr (zVw Y a) s τ' ∧ zFr (zUw Y a) τ τ' := by
  intro n
  induction n with
  | zero => intro x y z i τ _ _ _ h; exact absurd h (by omega)
  | succ n ih =>
    intro x y z i τ hx hi hi2 hn f hF hz hy
    have M : (F_X11_many a τ).toInt = N := by rw [mMany_w h f]; exact hM
    have nI := hI x
    rw [show x.toInt.toNat = i by omega] at nI
    rw [F_X11_winnerBy_8]
    simp only [↓zlt, ↓zlt2, mIsR h f]
    by_cases c : i < N
    · have cx : x.toInt < (F_X11_many a τ).toInt := by omega
      rw [if_pos cx]
      by_cases sx : Src N u i
      · have cz : ¬ (F_X11_isSource a x s).toInt = 0 := fun z => (nI.mp z) ⟨by omega, sx⟩
        rw [if_neg cz]
        obtain ⟨t, e1, e2⟩ := mClaimW h h18 hb (hg (by omega)) f hk hw hx (by omega)
        rw [e1, hF i c]
        have f2 := f.tr (zUw.up e2)
        have hF2 : ∀ p, p < N → t.1 (Y 55) p = F p := fun p hp => by rw [zUw.r55 h e2]; exact hF p hp
        have go : ∀ y' z' : Int32, z'.toInt = wn (sB N u) (fun p => clM Y b s g w p (F p)) (-1) (i + 1) → (0 ≤ z'.toInt → y' = clM Y b s g w z'.toInt.toNat (F z'.toInt.toNat)) → ∃ v τ', F_X11_winnerBy_8 a k n (x + (1 : Int32)) y' z' t = (v, τ') ∧ v.toInt = wn (sB N u) (fun p => clM Y b s g w p (F p)) (-1) (if 1 ≤ N then N else 1) ∧ zFr (zVw Y a) s τ' ∧ zFr (zUw Y a) τ τ' := fun y' z' q1 q2 => by
          obtain ⟨v, τ', r1, r2, r3, r4⟩ := ih _ y' z' (i + 1) t (zp1 hx (by omega)) (by omega) (by omega) (by omega) f2 hF2 q1 q2
          exact ⟨v, τ', r1, r2, r3, e2.tr r4⟩
        have new : ∀ (_ : z.toInt < 0 ∨ y.toInt < (clM Y b s g w i (F i)).toInt), ∃ v τ', F_X11_winnerBy_8 a k n (x + (1 : Int32)) (clM Y b s g w i (F i)) x t = (v, τ') ∧ v.toInt = wn (sB N u) (fun p => clM Y b s g w p (F p)) (-1) (if 1 ≤ N then N else 1) ∧ zFr (zVw Y a) s τ' ∧ zFr (zUw Y a) τ τ' := fun d => go _ x (by
            rw [wn_y (sB_t.mpr sx) (by omega) (by
              rcases d with d | d
              · exact Or.inl (by omega)
              · by_cases z0 : z.toInt < 0
                · exact Or.inl (by omega)
                · right
                  rw [hy (by omega)] at d
                  rw [← hz]
                  exact d)]
            exact hx) (fun _ => by rw [show x.toInt.toNat = i by omega])
        by_cases c0 : z.toInt < 0
        · rw [if_pos c0]
          exact new (Or.inl c0)
        · rw [if_neg c0]
          by_cases c1 : y.toInt < (clM Y b s g w i (F i)).toInt
          · rw [if_pos c1]
            exact new (Or.inr c1)
          · rw [if_neg c1]
            refine go y z ?_ hy
            rw [wn_n (fun q => q.2.2.elim (fun w => by omega) (fun d => c1 (by rw [hy (by omega), hz]; exact d)))]
            exact hz
      · have cz : (F_X11_isSource a x s).toInt = 0 := nI.mpr (fun z => sx z.2)
        rw [if_pos cz]
        exact ih _ y z (i + 1) τ (zp1 hx (by omega)) (by omega) (by omega) (by omega) f hF (by rw [wn_n (fun q => sx (sB_t.mp q.1))]; exact hz) hy
    · have cx : ¬ x.toInt < (F_X11_many a τ).toInt := by omega
      rw [if_neg cx]
      refine ⟨z, τ, rfl, ?_, f, zFr.id⟩
      rw [hz]
      congr 1
      split <;> omega
/-- who wins, to the reference -/
theorem mWin (h : zYm Y a s.2.2) (h18 : (s.1 a 18).toInt = b) (hb : b ≤ 1) (hg : 0 < N → zW5 Y b s g) (hM : (F_X11_many a s).toInt = N) (hN : N ≤ 12) (hI : ∀ x : Int32, (F_X11_isSource a x s).toInt = 0 ↔ ¬ (0 ≤ x.toInt ∧ Src N u x.toInt.toNat)) (hk : k.toInt = w) (hw : w < 3) {F : Nat → Int32} (f : zFr (zVw Y a) s t) (hF : ∀ p, p < N → t.1 (Y 55) p = F p) : ∃ v τ, F_X11_winnerBy a k t = (v, τ) ∧ v.toInt = wn (sB N u) (fun p => clM Y b s g w p (F p)) (-1) N ∧ zFr (zVw Y a) s τ ∧ zFr (zUw Y a) t τ := by
  unfold F_X11_winnerBy
  simp only [zlt]
  obtain ⟨v, τ, e1, e2, e3, e4⟩ := mWinL h h18 hb hg hM hN hI hk hw F 10000 1 0 (-2) 1 t (by decide) (by omega) (Or.inr rfl) (by omega) f hF (by rw [wn_1 sB_0]; decide) (fun z => absurd z (by decide))
  exact ⟨v, τ, e1, e2.trans wn_N, e3, e4⟩
end WINM
section WINB
variable {q Y : Nat → Nat} {b N w : Nat} {s1 s2 : zS} {g : zGl} {D : Int32} {u : Nat → Nat} {F G : Nat → Int32}
theorem clEq (E : zEq q Y b N D s1 s2) {p : Nat} {f : Int32} (hp : p < N) : clC q s1 g w p f = clM Y b s2 g w p f := by
  unfold clC clM
  rw [vEq E hp, held_e (by decide)]
theorem wnEq (E : zEq q Y b N D s1 s2) (h : ∀ p, p < N → F p = G p) {but : Int} : wn (sB N u) (fun p => clC q s1 g w p (F p)) but N = wn (sB N u) (fun p => clM Y b s2 g w p (G p)) but N := wn_cg N (fun p hp _ => by
  show clC q s1 g w p (F p) = clM Y b s2 g w p (G p)
  rw [clEq E hp, h p hp])
end WINB
end
-- 35y01.lw34
section
/-! A MONTH ON BOTH SIDES -/
/-- what stands while months go by -/
def zSd (q Y : Nat → Nat) (a b N : Nat) (g : zGl) (u l : Nat → Nat) (s1 s2 : zS) : Prop :=
  (zQr q s1.2.2 ∧ (0 < N → zL5 q s1 g) ∧ (s1.1 (q 1) 0).toInt = N ∧ N ≤ 12 ∧ zTr N u ∧ (∀ c, 1 ≤ c → c < N → (s1.1 (q 19) c).toInt = u c) ∧ zLnP N u (q 16) l s1 ∧ ∀ x : Int32, (F_X6_isSource (q 1) x s1).1.toInt = 0 ↔ ¬ (0 ≤ x.toInt ∧ Src N u x.toInt.toNat)) ∧
  (zYm Y a s2.2.2 ∧ (s2.1 a 18).toInt = b ∧ b ≤ 1 ∧ (0 < N → zW5 Y b s2 g) ∧ (F_X11_many a s2).toInt = N ∧ (∀ c, 1 ≤ c → c < N → (s2.1 (Y 49) c).toInt = u c) ∧ (∀ c, c < N → (s2.1 (Y 53) c).toInt = (dep N u c - 1 : Nat)) ∧ ∀ x : Int32, (F_X11_isSource a x s2).toInt = 0 ↔ ¬ (0 ≤ x.toInt ∧ Src N u x.toInt.toNat)) ∧
  (∀ p, p < N → s1.1 (q 11) p = s2.1 (Y 24) (12 * b + p) ∧ s1.1 (q 17) p = s2.1 (Y 52) p ∧ s1.1 (q 12) p = s2.1 (Y 25) (12 * b + p) ∧ s1.1 (q 10) p = s2.1 (Y 23) (12 * b + p) ∧ s1.1 (q 18) p = F_X11_bits (s2.1 (Y 54) p) - 1) ∧
  (∀ c, 1 ≤ c → c < N → dmC (s1.1 (q 4) 3) c = dmM Y s2 c) ∧ (0 < N → s1.1 (q 3) 12 = s2.1 (Y 28) b)
/-- what goes by, alike -/
def zDn (q Y : Nat → Nat) (N : Nat) (s1 s2 : zS) : Prop := (∀ p, p < N → s1.1 (q 20) p = s2.1 (Y 49) (24 + p) ∧ s1.1 (q 21) p = s2.1 (Y 49) (36 + p) ∧ 0 ≤ (s1.1 (q 20) p).toInt ∧ (s1.1 (q 20) p).toInt ≤ 999) ∧ s1.1 (q 4) 4 = s2.1 (Y 49) 48 ∧ s1.1 (q 4) 5 = s2.1 (Y 49) 49 ∧ 0 ≤ (s1.1 (q 4) 5).toInt ∧ (s1.1 (q 4) 5).toInt ≤ 2
def zGw (q : Nat → Nat) : Nat → Nat → Prop := fun c j => zRw q c j ∨ c = q 20 ∨ c = q 21 ∨ (c = q 4 ∧ j = 4)
def zHw (Y : Nat → Nat) (a : Nat) : Nat → Nat → Prop := fun c j => zVw Y a c j ∨ (c = a ∧ j = 56) ∨ (c = Y 49 ∧ 24 ≤ j ∧ j ≤ 48)
section MONTH
variable {q Y : Nat → Nat} {a b N : Nat} {R : Nat → Nat → Option Nat} {s1 s2 t1 t2 τ : zS} {g : zGl} {m : Int32} {u l : Nat → Nat}
theorem zGw.r (h : zQr q R) (f : zFr (zGw q) s1 t1) {i : Nat} (hi : i < 22) (n : i < 4 ∨ (9 < i ∧ i < 20)) : t1.1 (q i) = s1.1 (q i) := funext (fun j => f.2 (q i) j (by
  rintro ((z | z | z | z | z) | z | z | z)
  · exact h.n hi (by decide) (by omega) z
  · exact h.n hi (by decide) (by omega) z
  · exact h.n hi (by decide) (by omega) z
  · exact h.n hi (by decide) (by omega) z
  · exact h.n hi (by decide) (by omega) z
  · exact h.n hi (by decide) (by omega) z
  · exact h.n hi (by decide) (by omega) z
  · exact h.n hi (by decide) (by omega) z.1))
theorem zGw.c (h : zQr q R) (f : zFr (zGw q) s1 t1) {j : Nat} (n : j ≠ 4) : t1.1 (q 4) j = s1.1 (q 4) j := f.2 (q 4) j (by
  rintro ((z | z | z | z | z) | z | z | z)
  · exact h.n (by decide) (by decide) (by decide) z
  · exact h.n (by decide) (by decide) (by decide) z
  · exact h.n (by decide) (by decide) (by decide) z
  · exact h.n (by decide) (by decide) (by decide) z
  · exact h.n (by decide) (by decide) (by decide) z
  · exact h.n (by decide) (by decide) (by decide) z
  · exact h.n (by decide) (by decide) (by decide) z
  · exact n z.2)
theorem zHw.r (h : zYm Y a R) (f : zFr (zHw Y a) s1 t1) {j : Nat} (hj : zYj j) (n : j ≠ 45 ∧ j ≠ 46 ∧ j ≠ 55 ∧ j ≠ 49) : t1.1 (Y j) = s1.1 (Y j) := funext (fun i => f.2 (Y j) i (by
  rintro ((z | z | z | z) | z | z)
  · exact h.2 j 55 hj (by unfold zYj; omega) n.2.2.1 z
  · exact h.2 j 45 hj (by unfold zYj; omega) n.1 z
  · exact h.2 j 46 hj (by unfold zYj; omega) n.2.1 z
  · exact (h.1 j hj).2 z.1
  · exact (h.1 j hj).2 z.1
  · exact h.2 j 49 hj (by unfold zYj; omega) n.2.2.2 z.1))
theorem zHw.w (h : zYm Y a R) (f : zFr (zHw Y a) s1 t1) {i : Nat} (n : i < 24 ∨ 48 < i) : t1.1 (Y 49) i = s1.1 (Y 49) i := f.2 (Y 49) i (by
  rintro ((z | z | z | z) | z | z)
  · exact h.2 49 55 (by unfold zYj; omega) (by unfold zYj; omega) (by decide) z
  · exact h.2 49 45 (by unfold zYj; omega) (by unfold zYj; omega) (by decide) z
  · exact h.2 49 46 (by unfold zYj; omega) (by unfold zYj; omega) (by decide) z
  · exact (h.1 49 (by unfold zYj; omega)).2 z.1
  · exact (h.1 49 (by unfold zYj; omega)).2 z.1
  · omega)
theorem zHw.fl (h : zYm Y a R) (f : zFr (zHw Y a) s1 t1) {j : Nat} (n : j ≠ 47 ∧ j ≠ 56) : t1.1 a j = s1.1 a j := f.2 a j (by
  rintro ((z | z | z | z) | z | z)
  · exact (h.1 55 (by unfold zYj; omega)).2 z.symm
  · exact (h.1 45 (by unfold zYj; omega)).2 z.symm
  · exact (h.1 46 (by unfold zYj; omega)).2 z.symm
  · exact n.1 z.2
  · exact n.2 z.2
  · exact (h.1 49 (by unfold zYj; omega)).2 z.1.symm)
theorem zRw.up (f : zFr (zRw q) s1 t1) : zFr (zGw q) s1 t1 := zFr.up f (fun _ _ z => Or.inl z)
theorem zVw.up (f : zFr (zVw Y a) s1 t1) : zFr (zHw Y a) s1 t1 := zFr.up f (fun _ _ z => Or.inl z)
/-- what stands, stands on -/
theorem zSd.fr (S : zSd q Y a b N g u l s1 s2) (f1 : zFr (zGw q) s1 t1) (f2 : zFr (zHw Y a) s2 t2) : zSd q Y a b N g u l t1 t2 := by
  obtain ⟨⟨a1, a2, a3, a4, a5, a6, a7, a8⟩, ⟨b1, b2, b3, b4, b5, b6, b7, b8⟩, c, d, e⟩ := S
  have r1 := f1.rf
  have r2 := f2.rf
  have qj : ∀ j, (j = 21 ∨ j = 23 ∨ j = 24 ∨ j = 25 ∨ j = 28 ∨ j = 30 ∨ j = 31 ∨ (33 ≤ j ∧ j ≤ 37) ∨ j = 39 ∨ j = 40 ∨ j = 52 ∨ j = 53 ∨ j = 54) → t2.1 (Y j) = s2.1 (Y j) := fun j hj => zHw.r b1 f2 (by unfold zYj; omega) (by omega)
  have e18 : t2.1 a 18 = s2.1 a 18 := zHw.fl b1 f2 (by decide)
  have mM : F_X11_many a t2 = F_X11_many a s2 := by
    unfold F_X11_many
    simp only [zlt]
    rw [r2, (b1.1 21 (by unfold zYj; omega)).1, e18, qj 21 (by omega)]
  refine ⟨⟨by rw [r1]; exact a1, fun hN => (a2 hN).cg (congrFun (zGw.r a1 f1 (by decide) (by omega)) 8) (fun i hi => zGw.r a1 f1 (by omega) (by omega)), by rw [zGw.r a1 f1 (i := 1) (by decide) (by omega)]; exact a3, a4, a5, fun c c1 c2 => by rw [zGw.r a1 f1 (i := 19) (by decide) (by omega)]; exact a6 c c1 c2, a7.cg (zGw.r a1 f1 (by decide) (by omega)), fun x => ?_⟩, ⟨by rw [r2]; exact b1, by rw [e18]; exact b2, b3, fun hN => (b4 hN).cg (fun j hj => qj j (by omega)), by rw [mM]; exact b5, fun c c1 c2 => by rw [zHw.w b1 f2 (by omega)]; exact b6 c c1 c2, fun c hc => by rw [qj 53 (by omega)]; exact b7 c hc, fun x => ?_⟩, fun p hp => ?_, fun c c1 c2 => ?_, ?_⟩
  · have g18 : (s1.2.2 (q 1) 4).getD 0 = q 18 := a1.1.2.2.2.1.2.2
    have e : (F_X6_isSource (q 1) x t1).1 = (F_X6_isSource (q 1) x s1).1 := by
      have x0 : t1.1 (q 1) 0 = s1.1 (q 1) 0 := congrFun (zGw.r a1 f1 (by decide) (by omega)) 0
      have x18 : t1.1 (q 18) = s1.1 (q 18) := zGw.r a1 f1 (by decide) (by omega)
      unfold F_X6_isSource
      simp only [zlt, r1, g18, x0, x18]
      (repeat' split) <;> rfl
    rw [e]
    exact a8 x
  · have e : F_X11_isSource a x t2 = F_X11_isSource a x s2 := by
      have g54 := (b1.1 54 (by unfold zYj; omega)).1
      have x54 : t2.1 (Y 54) = s2.1 (Y 54) := qj 54 (by omega)
      unfold F_X11_isSource F_X11_isBeside
      simp only [zlt, r2, g54, x54, mM]
    rw [e]
    exact b8 x
  · rw [zGw.r a1 f1 (i := 11) (by decide) (by omega), zGw.r a1 f1 (i := 17) (by decide) (by omega), zGw.r a1 f1 (i := 12) (by decide) (by omega), zGw.r a1 f1 (i := 10) (by decide) (by omega), zGw.r a1 f1 (i := 18) (by decide) (by omega), qj 24 (by omega), qj 52 (by omega), qj 25 (by omega), qj 23 (by omega), qj 54 (by omega)]
    exact c p hp
  · have x3 : t1.1 (q 4) 3 = s1.1 (q 4) 3 := zGw.c a1 f1 (by decide)
    have xd : dmM Y t2 c = dmM Y s2 c := by
      unfold dmM
      rw [zHw.w b1 f2 (by omega)]
    rw [x3, xd]
    exact d c c1 c2
  · intro hN
    rw [zGw.r a1 f1 (i := 3) (by decide) (by omega), qj 28 (by omega)]
    exact e hN
theorem zSd.eq (S : zSd q Y a b N g u l s1 s2) (Dn : zDn q Y N s1 s2) : zEq q Y b N (s1.1 (q 4) 3) s1 s2 := by
  obtain ⟨⟨-, -, -, a4, -, -, -, -⟩, -, c, d, -⟩ := S
  obtain ⟨d1, d2, -, -, -⟩ := Dn
  refine ⟨fun p f hp => ?_, d⟩
  obtain ⟨c1, c2, c3, c4, c5⟩ := c p hp
  have np := (pI_b p (by omega)).2
  funext i
  unfold fCt fMt
  rw [np]
  match i with
  | 0 => exact c1
  | 1 => exact c2
  | 2 => exact c3
  | 3 =>
    show s1.1 (q 4) 4 - s1.1 (q 4) 4 / 12 * 12 = s2.1 (Y 49) 48 - s2.1 (Y 49) 48 / 12 * 12
    rw [d2]
  | 4 => rfl
  | 5 => exact c4
  | 6 => exact (d1 p hp).1
  | 7 => rfl
  | _ + 8 => exact c5
/-- rain and flows on both sides -/
theorem zSd.fall (S : zSd q Y a b N g u l s1 s2) (Dn : zDn q Y N s1 s2) (hm : 0 ≤ m.toInt ∧ m.toInt ≤ 99) (f1 : zFr (zRw q) s1 t1) (f2 : zFr (zVw Y a) s2 t2) : zFr (zRw q) s1 (F_X5_fall (q 0) m t1) ∧ zFr (zVw Y a) s2 (F_X11_fillsFlows a m t2) ∧ (∀ p, p < N → (F_X5_fall (q 0) m t1).1 (q 6) p = (F_X11_fillsFlows a m t2).1 (Y 55) p) ∧ (∀ p, p < N → (F_X5_fall (q 0) m t1).1 (q 5) p = rCl q s1 g m p) ∧ ∀ p, p < N → 0 ≤ ((F_X5_fall (q 0) m t1).1 (q 6) p).toInt := by
  have E := S.eq Dn
  obtain ⟨⟨a1, a2, a3, a4, a5, a6, a7, a8⟩, ⟨b1, b2, b3, b4, b5, b6, b7, b8⟩, c, d, e⟩ := S
  obtain ⟨r1, r2⟩ := cRain (m := m) a1 a2 a3 a4 f1
  have g4 : (s1.2.2 (q 0) 6).getD 0 = q 4 := a1.1.1.2.2.2.1
  have x3 : (F_X5_rainDown (q 0) m t1).1 (q 4) 3 = s1.1 (q 4) 3 := congrFun (zRw.r a1 r1 (by decide) (by omega)) 3
  have X : F_X5_fall (q 0) m t1 = F_X5_run (q 0) (s1.1 (q 4) 3) (F_X5_rainDown (q 0) m t1) := by
    unfold F_X5_fall
    simp only [↓zlt, r1.rf, g4, x3]
  have hsp : ∀ c, 1 ≤ c → c < N → dep N u c - 1 = (dep N u (u c) - 1) + 1 := fun c c1 c2 => by
    have z1 := dep_s a5 c1 c2
    have z2 := (dep_b a5 (u c) (a5.u_lt c1 c2)).1
    omega
  have h11 : ∀ c, c < N → dep N u c - 1 ≤ 11 := fun c hc => by
    have := (dep_b a5 c hc).2
    omega
  obtain ⟨v1, v2, v3, v4⟩ := cRun (D := s1.1 (q 4) 3) a1 a2 a3 a4 a5 a6 a7 r1 r2 (fun p _ => rCl_b hm)
  have w1 := (mFlow (m := m) b1 b2 b3 b4 b5 a4 a5 b6 b7 hsp h11 f2).1
  have w2 := flowEq (m := m) a1 a2 a3 a4 a5 a6 a7 b1 b2 b3 b4 b5 b6 b7 hsp h11 E hm r1 r2 f2
  rw [X]
  refine ⟨v1, w1, w2, fun p hp => ?_, v4⟩
  rw [v2.2 (q 5) p (by
    rintro (z | z | z)
    · exact a1.n (by decide) (by decide) (by decide) z
    · exact a1.n (by decide) (by decide) (by decide) z
    · exact a1.n (by decide) (by decide) (by decide) z)]
  exact r2 p hp
end MONTH
end
-- 35y02.lw35
section
/-! THE MONTH ENDS -/
/-- what is won then: one more, 999 at most -/
noncomputable def wonN (x : Int32) : Int32 := F_X11_within (x + (1 : Int32)) 0 999
theorem wonN_b {x : Int32} (h : 0 ≤ x.toInt ∧ x.toInt ≤ 999) : 0 ≤ (wonN x).toInt ∧ (wonN x).toInt ≤ 999 ∧ (if (999 : Int32).toInt ≤ (x + (1 : Int32)).toInt then (999 : Int32) else x + (1 : Int32)) = wonN x := by
  have e0 : (0 : Int32).toInt = 0 := by decide
  have e1 : (1 : Int32).toInt = 1 := by decide
  have e9 : (999 : Int32).toInt = 999 := by decide
  have y : (x + (1 : Int32)).toInt = x.toInt + 1 := by rw [zb_add (by rw [e1]; omega) (by rw [e1]; omega), e1]
  unfold wonN F_X11_within
  rw [e0, e9, if_neg (by omega)]
  by_cases c : 999 ≤ (x + (1 : Int32)).toInt
  · rw [if_pos c]
    by_cases c2 : 999 < (x + (1 : Int32)).toInt
    · rw [if_pos c2]
      exact ⟨by decide, by decide, rfl⟩
    · rw [if_neg c2]
      exact ⟨by omega, by omega, Int32.toInt_inj.mp (by rw [e9]; omega)⟩
  · rw [if_neg c, if_neg (by omega)]
    exact ⟨by omega, by omega, rfl⟩
section ENDM
variable {q Y : Nat → Nat} {a b N : Nat} {R : Nat → Nat → Option Nat} {s1 s2 t1 t2 τ : zS} {g : zGl} {m : Int32} {u l : Nat → Nat}
/-- the winner of the month -/
noncomputable def wnM (q : Nat → Nat) (N : Nat) (u : Nat → Nat) (s : zS) (g : zGl) (F : Nat → Int32) : Int := wn (sB N u) (fun p => clC q s g (s.1 (q 4) 5).toInt.toNat p (F p)) (-1) N
theorem wnM_r {s : zS} {F : Nat → Int32} : wnM q N u s g F = -2 ∨ ∃ W : Nat, wnM q N u s g F = W ∧ 1 ≤ W ∧ W < N := by
  unfold wnM
  rcases wn_r (S := sB N u) (C := fun p => clC q s g (s.1 (q 4) 5).toInt.toNat p (F p)) (but := -1) N with h | ⟨p, p1, p2, p3, -⟩
  · exact Or.inl h
  · exact Or.inr ⟨p, p2, (sB_t.mp p3).1, p1⟩
theorem cEndM (h : zQr q s1.2.2) (hg : 0 < N → zL5 q s1 g) (h0 : (s1.1 (q 1) 0).toInt = N) (hN : N ≤ 12) (hI : ∀ x : Int32, (F_X6_isSource (q 1) x s1).1.toInt = 0 ↔ ¬ (0 ≤ x.toInt ∧ Src N u x.toInt.toNat)) (h5 : 0 ≤ (s1.1 (q 4) 5).toInt ∧ (s1.1 (q 4) 5).toInt ≤ 2) {F : Nat → Int32} (f : zFr (zRw q) s1 t1) (hF : ∀ p, p < N → t1.1 (q 6) p = F p) : zFr (zGw q) s1 (F_X5_endMonth (q 0) t1) ∧ (F_X5_endMonth (q 0) t1).1 (q 4) 4 = s1.1 (q 4) 4 + (1 : Int32) ∧ (∀ p : Nat, (F_X5_endMonth (q 0) t1).1 (q 21) p = if wnM q N u s1 g F = p then s1.1 (q 21) p + s1.1 (q 3) 12 else s1.1 (q 21) p) ∧ ∀ p : Nat, (F_X5_endMonth (q 0) t1).1 (q 20) p = if wnM q N u s1 g F = p then (if (999 : Int32).toInt ≤ (s1.1 (q 20) p + (1 : Int32)).toInt then (999 : Int32) else s1.1 (q 20) p + (1 : Int32)) else s1.1 (q 20) p := by
  obtain ⟨⟨-, -, g3, g4, -, -, -⟩, -, -, -, -, g20, g21⟩ := id h.1
  obtain ⟨w, hw⟩ : ∃ w : Nat, (s1.1 (q 4) 5).toInt = w := ⟨(s1.1 (q 4) 5).toInt.toNat, by omega⟩
  have x5 : t1.1 (q 4) 5 = s1.1 (q 4) 5 := congrFun (zRw.r h f (by decide) (by omega)) 5
  obtain ⟨v, τ, e1, e2, e3, e4, -⟩ := cWin h hg h0 hN hI (k := s1.1 (q 4) 5) hw (by omega) f hF
  have ev : v.toInt = wnM q N u s1 g F := by
    rw [e2]
    unfold wnM
    rw [show (s1.1 (q 4) 5).toInt.toNat = w by omega]
  have rt : τ.2.2 = s1.2.2 := e3.rf
  have y4 : τ.1 (q 4) = s1.1 (q 4) := zRw.r h e3 (by decide) (by omega)
  have y3 : τ.1 (q 3) = s1.1 (q 3) := zRw.r h e3 (by decide) (by omega)
  have y20 : τ.1 (q 20) = s1.1 (q 20) := zRw.r h e3 (by decide) (by omega)
  have y21 : τ.1 (q 21) = s1.1 (q 21) := zRw.r h e3 (by decide) (by omega)
  have n4a : ¬ q 4 = q 20 := h.n (by decide) (by decide) (by decide)
  have n4b : ¬ q 4 = q 21 := h.n (by decide) (by decide) (by decide)
  have nab : ¬ q 20 = q 21 := h.n (by decide) (by decide) (by decide)
  have eS : zFr (zGw q) s1 τ := zRw.up e3
  by_cases c : 0 < v.toInt
  · obtain ⟨W, hW, W1, W2⟩ : ∃ W : Nat, wnM q N u s1 g F = W ∧ 1 ≤ W ∧ W < N := by
      rcases wnM_r (q := q) (N := N) (u := u) (s := s1) (g := g) (F := F) with z | z
      · omega
      · exact z
    have nv : v.toNatClampNeg = W := by rw [ztn, ev, hW]; rfl
    obtain ⟨A, hA⟩ : ∃ A : zS, A = (zu (zu (zu τ.1 (q 21) W (s1.1 (q 21) W + s1.1 (q 3) 12)) (q 20) W (if (999 : Int32).toInt ≤ (s1.1 (q 20) W + (1 : Int32)).toInt then (999 : Int32) else s1.1 (q 20) W + (1 : Int32))) (q 4) 4 (s1.1 (q 4) 4 + (1 : Int32)), τ.2.1, s1.2.2) := ⟨_, rfl⟩
    have X : F_X5_endMonth (q 0) t1 = A := by
      rw [hA]
      unfold F_X5_endMonth F_X1_pay
      simp only [↓zlt, ↓zlt2, f.rf, g4, x5, e1]
      rw [if_pos c]
      simp only [rt, g3, g4, g20, g21, nv, y3, y20, y21, zu_n _ _ _ nab, zu_n _ _ _ n4a, zu_n _ _ _ n4b, y4]
    have FA : zFr (zGw q) s1 A := by
      rw [hA]
      have z := ((eS.w (r := q 21) (j := W) (v := s1.1 (q 21) W + s1.1 (q 3) 12) (Or.inr (Or.inr (Or.inl rfl)))).w (r := q 20) (j := W) (v := if (999 : Int32).toInt ≤ (s1.1 (q 20) W + (1 : Int32)).toInt then (999 : Int32) else s1.1 (q 20) W + (1 : Int32)) (Or.inr (Or.inl rfl))).w (r := q 4) (j := 4) (v := s1.1 (q 4) 4 + (1 : Int32)) (Or.inr (Or.inr (Or.inr ⟨rfl, rfl⟩)))
      have z' : zFr (zGw q) s1 (zu (zu (zu τ.1 (q 21) W (s1.1 (q 21) W + s1.1 (q 3) 12)) (q 20) W (if (999 : Int32).toInt ≤ (s1.1 (q 20) W + (1 : Int32)).toInt then (999 : Int32) else s1.1 (q 20) W + (1 : Int32))) (q 4) 4 (s1.1 (q 4) 4 + (1 : Int32)), τ.2.1, τ.2.2) := z
      rw [rt] at z'
      exact z'
    rw [X]
    refine ⟨FA, ?_, fun p => ?_, fun p => ?_⟩
    · rw [hA]
      exact zu_s _ _ _ _
    · rw [hA, hW]
      show zu (zu (zu τ.1 (q 21) W _) (q 20) W _) (q 4) 4 _ (q 21) p = _
      rw [zu_n _ _ _ (fun z => n4b z.symm), zu_n _ _ _ (fun z => nab z.symm)]
      by_cases e : p = W
      · rw [e, zu_s, if_pos rfl]
      · rw [zu_j _ _ _ _ _ (fun z => e z.symm), y21, if_neg (by omega)]
    · rw [hA, hW]
      show zu (zu (zu τ.1 (q 21) W _) (q 20) W _) (q 4) 4 _ (q 20) p = _
      rw [zu_n _ _ _ (fun z => n4a z.symm)]
      by_cases e : p = W
      · rw [e, zu_s, if_pos rfl]
      · rw [zu_j _ _ _ _ _ (fun z => e z.symm), zu_n _ _ _ nab, y20, if_neg (by omega)]
  · have hm2 : wnM q N u s1 g F = -2 := by
      rcases wnM_r (q := q) (N := N) (u := u) (s := s1) (g := g) (F := F) with z | ⟨W, z, z1, -⟩
      · exact z
      · omega
    have X : F_X5_endMonth (q 0) t1 = (zu τ.1 (q 4) 4 (s1.1 (q 4) 4 + (1 : Int32)), τ.2.1, s1.2.2) := by
      unfold F_X5_endMonth
      simp only [↓zlt, ↓zlt2, f.rf, g4, x5, e1]
      rw [if_neg c]
      simp only [rt, g4, y4]
    have z' : zFr (zGw q) s1 (zu τ.1 (q 4) 4 (s1.1 (q 4) 4 + (1 : Int32)), τ.2.1, τ.2.2) := eS.w (r := q 4) (j := 4) (v := s1.1 (q 4) 4 + (1 : Int32)) (Or.inr (Or.inr (Or.inr ⟨rfl, rfl⟩)))
    rw [rt] at z'
    rw [X]
    refine ⟨z', zu_s _ _ _ _, fun p => ?_, fun p => ?_⟩
    · show zu τ.1 (q 4) 4 _ (q 21) p = _
      rw [zu_n _ _ _ (fun z => n4b z.symm), y21, hm2, if_neg (by omega)]
    · show zu τ.1 (q 4) 4 _ (q 20) p = _
      rw [zu_n _ _ _ (fun z => n4a z.symm), y20, hm2, if_neg (by omega)]
/-- the reference's, by the same winner -/
theorem mEndM (h : zYm Y a s2.2.2) (h18 : (s2.1 a 18).toInt = b) (hb : b ≤ 1) (hg : 0 < N → zW5 Y b s2 g) (hM : (F_X11_many a s2).toInt = N) (hN : N ≤ 12) (hI : ∀ x : Int32, (F_X11_isSource a x s2).toInt = 0 ↔ ¬ (0 ≤ x.toInt ∧ Src N u x.toInt.toNat)) (h5 : 0 ≤ (s2.1 (Y 49) 49).toInt ∧ (s2.1 (Y 49) 49).toInt ≤ 2) {F : Nat → Int32} (f : zFr (zVw Y a) s2 t2) (hF : ∀ p, p < N → t2.1 (Y 55) p = F p) {Z : Int} (hZ : Z = wn (sB N u) (fun p => clM Y b s2 g (s2.1 (Y 49) 49).toInt.toNat p (F p)) (-1) N) : ∃ τ, mTail a t2 = F_X11_fillsFlows a 0 τ ∧ zFr (zHw Y a) s2 τ ∧ τ.1 a 51 = s2.1 a 51 ∧ (τ.1 a 56).toInt = Z ∧ τ.1 (Y 49) 48 = s2.1 (Y 49) 48 + (1 : Int32) ∧ (∀ p : Nat, p < 12 → τ.1 (Y 49) (36 + p) = if Z = p then s2.1 (Y 49) (36 + p) + s2.1 (Y 28) b else s2.1 (Y 49) (36 + p)) ∧ ∀ p : Nat, p < 12 → τ.1 (Y 49) (24 + p) = if Z = p then wonN (s2.1 (Y 49) (24 + p)) else s2.1 (Y 49) (24 + p) := by
  have e24 : (24 : Int32).toInt = 24 := by decide
  have e36 : (36 : Int32).toInt = 36 := by decide
  have w48 : (48 : Int32).toNatClampNeg = 48 := by decide
  have w49 : (49 : Int32).toNatClampNeg = 49 := by decide
  have g49 := (h.1 49 (by unfold zYj; omega)).1
  have g28 := (h.1 28 (by unfold zYj; omega)).1
  have na : ¬ Y 49 = a := (h.1 49 (by unfold zYj; omega)).2
  have na' : ¬ a = Y 49 := fun z => na z.symm
  have n28 : ¬ Y 28 = a := (h.1 28 (by unfold zYj; omega)).2
  have n28' : ¬ Y 28 = Y 49 := h.2 28 49 (by unfold zYj; omega) (by unfold zYj; omega) (by decide)
  obtain ⟨w, hw⟩ : ∃ w : Nat, (s2.1 (Y 49) 49).toInt = w := ⟨(s2.1 (Y 49) 49).toInt.toNat, by omega⟩
  have x49 : t2.1 (Y 49) = s2.1 (Y 49) := zVw.r h f (by unfold zYj; omega) (by decide)
  obtain ⟨v, τ, e1, e2, e3, e4⟩ := mWin h h18 hb hg hM hN hI (k := s2.1 (Y 49) 49) hw (by omega) f hF
  have ev : v.toInt = Z := by
    rw [e2, hZ, show (s2.1 (Y 49) 49).toInt.toNat = w by omega]
  have rt : τ.2.2 = s2.2.2 := e3.rf
  have y49 : τ.1 (Y 49) = s2.1 (Y 49) := zVw.r h e3 (by unfold zYj; omega) (by decide)
  have y28 : τ.1 (Y 28) = s2.1 (Y 28) := zVw.r h e3 (by unfold zYj; omega) (by decide)
  have y18 : τ.1 a 18 = s2.1 a 18 := zVw.fl h e3 (by decide)
  have y51 : τ.1 a 51 = s2.1 a 51 := zVw.fl h e3 (by decide)
  have n18 : (s2.1 a 18).toNatClampNeg = b := by rw [ztn, h18]; rfl
  have eS : zFr (zHw Y a) s2 (zu τ.1 a 56 v, τ.2.1, s2.2.2) := by
    have z := (zVw.up e3).w (r := a) (j := 56) (v := v) (Or.inr (Or.inl ⟨rfl, rfl⟩))
    rw [rt] at z
    exact z
  have zr := wn_r (S := sB N u) (C := fun p => clM Y b s2 g (s2.1 (Y 49) 49).toInt.toNat p (F p)) (but := -1) N
  rw [← hZ] at zr
  by_cases c : v.toInt < 0
  · have Zm : Z < 0 := by omega
    obtain ⟨A, hA⟩ : ∃ A : zS, A = (zu (zu τ.1 a 56 v) (Y 49) 48 (s2.1 (Y 49) 48 + (1 : Int32)), τ.2.1, s2.2.2) := ⟨_, rfl⟩
    have X : mTail a t2 = F_X11_fillsFlows a 0 A := by
      rw [hA]
      unfold mTail
      simp only [↓zlt, ↓zlt2, f.rf, g49, w49, x49, e1]
      simp only [zu_s, rt, g49, w48, zu_n _ _ _ na, y49]
      rw [if_pos c]
    refine ⟨A, X, ?_, ?_, ?_, ?_, fun p hp => ?_, fun p hp => ?_⟩
    · rw [hA]
      exact eS.w (r := Y 49) (j := 48) (v := s2.1 (Y 49) 48 + (1 : Int32)) (Or.inr (Or.inr ⟨rfl, by decide, by decide⟩))
    · rw [hA]
      show zu (zu τ.1 a 56 v) (Y 49) 48 _ a 51 = _
      rw [zu_n _ _ _ na', zu_j _ _ _ _ _ (by decide)]
      exact y51
    · rw [hA]
      show (zu (zu τ.1 a 56 v) (Y 49) 48 _ a 56).toInt = _
      rw [zu_n _ _ _ na', zu_s]
      exact ev
    · rw [hA]
      exact zu_s _ _ _ _
    · rw [hA, if_neg (by omega)]
      show zu (zu τ.1 a 56 v) (Y 49) 48 _ (Y 49) (36 + p) = _
      rw [zu_j _ _ _ _ _ (by omega), zu_n _ _ _ na, y49]
    · rw [hA, if_neg (by omega)]
      show zu (zu τ.1 a 56 v) (Y 49) 48 _ (Y 49) (24 + p) = _
      rw [zu_j _ _ _ _ _ (by omega), zu_n _ _ _ na, y49]
  · obtain ⟨W, W1, hW, W3, -⟩ := zr.resolve_left (by omega)
    have vW : v.toInt = W := by omega
    have n24 : ((24 : Int32) + v).toNatClampNeg = 24 + W := by
      rw [ztn, zb_add (by rw [e24]; omega) (by rw [e24]; omega), e24, vW]
      omega
    have n36 : ((36 : Int32) + v).toNatClampNeg = 36 + W := by
      rw [ztn, zb_add (by rw [e36]; omega) (by rw [e36]; omega), e36, vW]
      omega
    obtain ⟨A, hA⟩ : ∃ A : zS, A = (zu (zu (zu (zu τ.1 a 56 v) (Y 49) (24 + W) (wonN (s2.1 (Y 49) (24 + W)))) (Y 49) (36 + W) (s2.1 (Y 49) (36 + W) + s2.1 (Y 28) b)) (Y 49) 48 (s2.1 (Y 49) 48 + (1 : Int32)), τ.2.1, s2.2.2) := ⟨_, rfl⟩
    have j1 : ∀ x : Int32, zu (zu τ.1 a 56 v) (Y 49) (24 + W) x (Y 49) (36 + W) = s2.1 (Y 49) (36 + W) := fun x => by rw [zu_j _ _ _ _ _ (by omega), zu_n _ _ _ na, y49]
    have j2 : ∀ x y : Int32, zu (zu (zu τ.1 a 56 v) (Y 49) (24 + W) x) (Y 49) (36 + W) y (Y 49) 48 = s2.1 (Y 49) 48 := fun x y => by rw [zu_j _ _ _ _ _ (by omega), zu_j _ _ _ _ _ (by omega), zu_n _ _ _ na, y49]
    have j3 : ∀ x : Int32, zu (zu τ.1 a 56 v) (Y 49) (24 + W) x a 56 = v := fun x => by rw [zu_n _ _ _ na', zu_s]
    have j4 : ∀ x : Int32, zu (zu τ.1 a 56 v) (Y 49) (24 + W) x a 18 = s2.1 a 18 := fun x => by rw [zu_n _ _ _ na', zu_j _ _ _ _ _ (by decide), y18]
    have j5 : ∀ (x : Int32) (i : Nat), zu (zu τ.1 a 56 v) (Y 49) (24 + W) x (Y 28) i = s2.1 (Y 28) i := fun x i => by rw [zu_n _ _ _ n28', zu_n _ _ _ n28, y28]
    have j6 : ∀ i : Nat, zu τ.1 a 56 v (Y 49) i = s2.1 (Y 49) i := fun i => by rw [zu_n _ _ _ na, y49]
    have X : mTail a t2 = F_X11_fillsFlows a 0 A := by
      rw [hA]
      unfold mTail
      simp only [↓zlt, ↓zlt2, f.rf, g49, w49, x49, e1]
      simp only [zu_s, rt, g49, g28, w48, n24]
      rw [if_neg c]
      simp only [j6, j3, n36, j1, j4, n18, j5, j2]
      rfl
    refine ⟨A, X, ?_, ?_, ?_, ?_, fun p hp => ?_, fun p hp => ?_⟩
    · rw [hA]
      exact ((eS.w (r := Y 49) (j := 24 + W) (v := wonN (s2.1 (Y 49) (24 + W))) (Or.inr (Or.inr ⟨rfl, by omega, by omega⟩))).w (r := Y 49) (j := 36 + W) (v := s2.1 (Y 49) (36 + W) + s2.1 (Y 28) b) (Or.inr (Or.inr ⟨rfl, by omega, by omega⟩))).w (r := Y 49) (j := 48) (v := s2.1 (Y 49) 48 + (1 : Int32)) (Or.inr (Or.inr ⟨rfl, by decide, by decide⟩))
    · rw [hA]
      show zu (zu (zu (zu τ.1 a 56 v) (Y 49) (24 + W) _) (Y 49) (36 + W) _) (Y 49) 48 _ a 51 = _
      rw [zu_n _ _ _ na', zu_n _ _ _ na', zu_n _ _ _ na', zu_j _ _ _ _ _ (by decide)]
      exact y51
    · rw [hA]
      show (zu (zu (zu (zu τ.1 a 56 v) (Y 49) (24 + W) _) (Y 49) (36 + W) _) (Y 49) 48 _ a 56).toInt = _
      rw [zu_n _ _ _ na', zu_n _ _ _ na', zu_n _ _ _ na', zu_s]
      exact ev
    · rw [hA]
      exact zu_s _ _ _ _
    · rw [hA]
      show zu (zu (zu (zu τ.1 a 56 v) (Y 49) (24 + W) _) (Y 49) (36 + W) _) (Y 49) 48 _ (Y 49) (36 + p) = _
      rw [zu_j _ _ _ _ _ (by omega)]
      by_cases e : p = W
      · rw [e, zu_s, if_pos hW]
      · rw [zu_j _ _ _ _ _ (by omega), zu_j _ _ _ _ _ (by omega), zu_n _ _ _ na, y49, if_neg (by omega)]
    · rw [hA]
      show zu (zu (zu (zu τ.1 a 56 v) (Y 49) (24 + W) _) (Y 49) (36 + W) _) (Y 49) 48 _ (Y 49) (24 + p) = _
      rw [zu_j _ _ _ _ _ (by omega), zu_j _ _ _ _ _ (by omega)]
      by_cases e : p = W
      · rw [e, zu_s, if_pos hW]
      · rw [zu_j _ _ _ _ _ (by omega), zu_n _ _ _ na, y49, if_neg (by omega)]
/-- a month ends on both sides -/
theorem zSd.endM (S : zSd q Y a b N g u l s1 s2) (Dn : zDn q Y N s1 s2) (f1 : zFr (zRw q) s1 t1) (f2 : zFr (zVw Y a) s2 t2) (hF : ∀ p, p < N → t1.1 (q 6) p = t2.1 (Y 55) p) : ∃ τ, mTail a t2 = F_X11_fillsFlows a 0 τ ∧ zSd q Y a b N g u l (F_X5_endMonth (q 0) t1) τ ∧ zDn q Y N (F_X5_endMonth (q 0) t1) τ ∧ zFr (zGw q) s1 (F_X5_endMonth (q 0) t1) ∧ zFr (zHw Y a) s2 τ ∧ τ.1 a 51 = s2.1 a 51 ∧ (τ.1 a 56).toInt = wnM q N u s1 g (fun p => t1.1 (q 6) p) ∧ (F_X5_endMonth (q 0) t1).1 (q 21) 0 = s1.1 (q 21) 0 ∧ τ.1 (Y 49) 36 = s2.1 (Y 49) 36 := by
  have E := S.eq Dn
  obtain ⟨⟨a1, a2, a3, a4, a5, a6, a7, a8⟩, ⟨b1, b2, b3, b4, b5, b6, b7, b8⟩, c, d, e⟩ := id S
  obtain ⟨d1, d2, d3, d4, d5⟩ := id Dn
  have Zq : wnM q N u s1 g (fun p => t1.1 (q 6) p) = wn (sB N u) (fun p => clM Y b s2 g (s2.1 (Y 49) 49).toInt.toNat p (t2.1 (Y 55) p)) (-1) N := by
    unfold wnM
    rw [d3]
    exact wnEq E hF
  obtain ⟨x1, x2, x3, x4⟩ := cEndM (F := fun p => t1.1 (q 6) p) a1 a2 a3 a4 a8 ⟨d4, d5⟩ f1 (fun p hp => rfl)
  obtain ⟨τ, y1, y2, y3, y4, y5, y6, y7⟩ := mEndM (F := fun p => t2.1 (Y 55) p) b1 b2 b3 b4 b5 a4 b8 (by rw [← d3]; exact ⟨d4, d5⟩) f2 (fun p hp => rfl) Zq
  have W0 : ¬ wnM q N u s1 g (fun p => t1.1 (q 6) p) = ((0 : Nat) : Int) := by
    rcases wnM_r (q := q) (N := N) (u := u) (s := s1) (g := g) (F := fun p => t1.1 (q 6) p) with z | ⟨W, z, z1, -⟩ <;> omega
  refine ⟨τ, y1, S.fr x1 y2, ⟨fun p hp => ?_, by rw [x2, y5, d2], by rw [zGw.c a1 x1 (by decide), zHw.w b1 y2 (by omega)]; exact d3, by rw [zGw.c a1 x1 (by decide)]; exact d4, by rw [zGw.c a1 x1 (by decide)]; exact d5⟩, x1, y2, y3, y4, ?_, ?_⟩
  · obtain ⟨p1, p2, p3, p4⟩ := d1 p hp
    obtain ⟨o1, o2, o3⟩ := wonN_b ⟨p3, p4⟩
    rw [x3 p, x4 p, y6 p (by omega), y7 p (by omega), o3, ← p1, ← p2, e (by omega)]
    refine ⟨rfl, rfl, ?_, ?_⟩
    · split
      · exact o1
      · exact p3
    · split
      · exact o2
      · exact p4
  · rw [x3 0, if_neg W0]
  · have := y6 0 (by decide)
    rw [if_neg W0] at this
    exact this
end ENDM
end
-- 35y03.lw36
section
/-! MONTHS GO BY ON BOTH SIDES -/
theorem stir_e (x y : Int32) : F_X9_stirred x y = F_X11_mixed x y := by
  unfold F_X9_stirred F_X11_mixed
  simp only [zlt]
/-- storms alike -/
def zSo (q Y : Nat → Nat) (b : Nat) (s1 s2 : zS) : Prop := s1.1 (q 3) 10 = s2.1 (Y 26) b ∧ s1.1 (q 3) 11 = s2.1 (Y 27) b ∧ 0 ≤ (s1.1 (q 3) 11).toInt ∧ (s1.1 (q 3) 11).toInt ≤ 99
section MONTHS
variable {q Y : Nat → Nat} {a b N : Nat} {R : Nat → Nat → Option Nat} {s1 s2 t1 t2 z1 z2 τ : zS} {g : zGl} {m v : Int32} {u l : Nat → Nat}
theorem zSo.fr (h : zQr q s1.2.2) (h2 : zYm Y a s2.2.2) (So : zSo q Y b s1 s2) (f1 : zFr (zGw q) s1 t1) (f2 : zFr (zHw Y a) s2 t2) : zSo q Y b t1 t2 := by
  unfold zSo
  rw [zGw.r h f1 (i := 3) (by decide) (by omega), zHw.r h2 f2 (j := 26) (by unfold zYj; omega) (by decide), zHw.r h2 f2 (j := 27) (by unfold zYj; omega) (by decide)]
  exact So
theorem stormEq (h : zYm Y a s2.2.2) (h18 : (s2.1 a 18).toInt = b) {x w : Int32} {t : Nat} (h10 : s1.1 t 10 = s2.1 (Y 26) b) (hx : x = s2.1 a 50) (hw : w = s2.1 (Y 49) 48) : F_X9_isStorm t x w s1 = (F_X11_isStorm a s2, s1) := by
  have g49 := (h.1 49 (by unfold zYj; omega)).1
  have g26 := (h.1 26 (by unfold zYj; omega)).1
  have w48 : (48 : Int32).toNatClampNeg = 48 := by decide
  have n18 : (s2.1 a 18).toNatClampNeg = b := by rw [ztn, h18]; rfl
  have e7 : (if (1 : Int32).toInt ≤ (100 : Int32).toInt then (100 : Int32) else 1) = 100 := by decide
  unfold F_X9_isStorm F_X9_lot F_X11_isStorm
  simp only [zlt, stir_e, e7, g49, w48, g26, n18, h10, hx, hw]
  split <;> rfl
theorem zDn.up1 (h : zQr q s1.2.2) (Dn : zDn q Y N s1 s2) (f : zFr (zRw q) s1 t1) : zDn q Y N t1 s2 := by
  unfold zDn
  rw [zRw.r h f (i := 20) (by decide) (by omega), zRw.r h f (i := 21) (by decide) (by omega), zRw.r h f (i := 4) (by decide) (by omega)]
  exact Dn
theorem zDn.up2 (h : zYm Y a s2.2.2) (Dn : zDn q Y N s1 s2) (f : zFr (zVw Y a) s2 t2) : zDn q Y N s1 t2 := by
  unfold zDn
  rw [zVw.r h f (j := 49) (by unfold zYj; omega) (by decide)]
  exact Dn
/-- a month of rain m: behind it all stands alike -/
theorem zSd.month (S : zSd q Y a b N g u l s1 s2) (Dn : zDn q Y N s1 s2) (hm : 0 ≤ m.toInt ∧ m.toInt ≤ 99) (hG : F_X11_monthGoes a s2 = mTail a (F_X11_fillsFlows a m s2)) (f1 : zFr (zRw q) s1 t1) (hF : ∀ p, p < N → t1.1 (q 6) p = (F_X11_fillsFlows a m s2).1 (Y 55) p) : zSd q Y a b N g u l (F_X5_endMonth (q 0) t1) (F_X11_monthGoes a s2) ∧ zDn q Y N (F_X5_endMonth (q 0) t1) (F_X11_monthGoes a s2) ∧ zFr (zGw q) s1 (F_X5_endMonth (q 0) t1) ∧ zFr (zHw Y a) s2 (F_X11_monthGoes a s2) ∧ (F_X11_monthGoes a s2).1 a 51 = s2.1 a 51 ∧ (F_X11_monthGoes a s2).1 a 50 = s2.1 a 50 ∧ ((F_X11_monthGoes a s2).1 a 56).toInt = wnM q N u s1 g (fun p => t1.1 (q 6) p) ∧ ((F_X5_endMonth (q 0) t1).1 (q 21) 0 = s1.1 (q 21) 0 ∧ (F_X11_monthGoes a s2).1 (Y 49) 36 = s2.1 (Y 49) 36) ∧ ∀ p, p < N → (F_X5_fall (q 0) 0 (F_X5_endMonth (q 0) t1)).1 (q 6) p = (F_X11_monthGoes a s2).1 (Y 55) p ∧ (F_X5_fall (q 0) 0 (F_X5_endMonth (q 0) t1)).1 (q 6) p = (F_X11_fillsFlows a 0 (F_X11_monthGoes a s2)).1 (Y 55) p := by
  have z0 : (0 : Int32).toInt = 0 := by decide
  have hY : zYm Y a s2.2.2 := S.2.1.1
  have W := (S.fall Dn hm zFr.id zFr.id).2.1
  obtain ⟨τ, y1, y2, y3, y4, y5, y6, y7, y8, y9⟩ := S.endM Dn f1 W hF
  have hQ' : zQr q (F_X5_endMonth (q 0) t1).2.2 := y2.1.1
  have hY' : zYm Y a τ.2.2 := y2.2.1.1
  have L := y2.fall y3 (m := 0) (by rw [z0]; omega) zFr.id zFr.id
  rw [hG, y1]
  have L2 := y2.fall y3 (m := 0) (by rw [z0]; omega) zFr.id L.2.1
  have e50 : τ.1 a 50 = s2.1 a 50 := zHw.fl hY y5 (by decide)
  refine ⟨y2.fr zFr.id (zVw.up L.2.1), y3.up2 hY' L.2.1, y4, y5.tr (zVw.up L.2.1), ?_, ?_, ?_, ⟨y8, ?_⟩, fun p hp => ⟨L.2.2.1 p hp, L2.2.2.1 p hp⟩⟩
  · rw [zVw.fl hY' L.2.1 (by decide)]; exact y6
  · rw [zVw.fl hY' L.2.1 (by decide)]; exact e50
  · rw [zVw.fl hY' L.2.1 (by decide)]; exact y7
  · rw [zVw.r hY' L.2.1 (j := 49) (by unfold zYj; omega) (by decide)]; exact y9
/-- going through months: what holds at each -/
def zMb (q Y : Nat → Nat) (a b N : Nat) (g : zGl) (u l : Nat → Nat) (v : Int32) (s1 s2 t1 t2 : zS) : Prop := zSd q Y a b N g u l t1 t2 ∧ zDn q Y N t1 t2 ∧ (0 < N → zSo q Y b t1 t2) ∧ (t2.1 a 51).toInt = 0 ∧ (0 < N → t2.1 a 50 = v) ∧ zFr (zGw q) s1 t1 ∧ zFr (zHw Y a) s2 t2 ∧ (t1.1 (q 21) 0 = s1.1 (q 21) 0 ∧ t2.1 (Y 49) 36 = s2.1 (Y 49) 36) ∧ ∀ p, p < N → (F_X5_fall (q 0) 0 t1).1 (q 6) p = t2.1 (Y 55) p
theorem zMb.step (hN : 0 < N) (M : zMb q Y a b N g u l v s1 s2 t1 t2) : ∃ m, (F_X9_isStorm (q 3) v (t1.1 (q 4) 4) t1).2 = t1 ∧ m = (if (F_X9_isStorm (q 3) v (t1.1 (q 4) 4) t1).1.toInt = 0 then (0 : Int32) else t1.1 (q 3) 11) ∧ zMb q Y a b N g u l v s1 s2 (F_X5_endMonth (q 0) (F_X5_fall (q 0) m t1)) (F_X11_monthGoes a t2) := by
  obtain ⟨S, Dn, So, h51, h50, f1, f2, ⟨o1, o2⟩, -⟩ := M
  have So := So hN
  have h50 := h50 hN
  have z0 : (0 : Int32).toInt = 0 := by decide
  have hY : zYm Y a t2.2.2 := S.2.1.1
  have hQ : zQr q t1.2.2 := S.1.1
  have h18 := S.2.1.2.1
  have g27 := (hY.1 27 (by unfold zYj; omega)).1
  have n18 : (t2.1 a 18).toNatClampNeg = b := by rw [ztn, h18]; rfl
  have eS := stormEq (s1 := t1) (t := q 3) (x := v) (w := t1.1 (q 4) 4) hY h18 So.1 h50.symm Dn.2.1
  obtain ⟨m, hm⟩ : ∃ m, m = (if (F_X9_isStorm (q 3) v (t1.1 (q 4) 4) t1).1.toInt = 0 then (0 : Int32) else t1.1 (q 3) 11) := ⟨_, rfl⟩
  have hm' := hm
  rw [eS] at hm'
  have bm : 0 ≤ m.toInt ∧ m.toInt ≤ 99 := by
    rw [hm']
    split
    · rw [z0]; omega
    · exact So.2.2
  have hG : F_X11_monthGoes a t2 = mTail a (F_X11_fillsFlows a m t2) := by
    rw [mMon_e, if_pos h51, hm', g27, n18]
    by_cases c : (F_X11_isStorm a t2).toInt = 0
    · rw [if_pos c, if_pos c]
    · rw [if_neg c, if_neg c, So.2.1]
  have W := S.fall Dn bm zFr.id zFr.id
  obtain ⟨x1, x2, x3, x4, x5, x6, -, ⟨x9, x10⟩, x8⟩ := S.month Dn bm hG W.1 W.2.2.1
  refine ⟨m, by rw [eS], hm, x1, x2, fun _ => So.fr hQ hY x3 x4, by rw [x5]; exact h51, fun _ => by rw [x6]; exact h50, f1.tr x3, f2.tr x4, ⟨x9.trans o1, x10.trans o2⟩, fun p hp => (x8 p hp).1⟩
theorem zMb.go (hN : 0 < N) {p : Int32} {T : Nat} (hp : p.toInt = T) (hT : T < 4000) : ∀ (d n n' : Nat) (x : Int32) (i : Nat) (t1 t2 : zS), x.toInt = i → i + d = T → d < n → d < n' → zMb q Y a b N g u l v s1 s2 t1 t2 → zMb q Y a b N g u l v s1 s2 (F_X5_goThrough_9 (q 0) (q 3) (q 4) p v n x t1) (F_X11_goes_2 a p n' x t2) := by
  intro d
  induction d with
  | zero =>
    intro n n' x i t1 t2 hx hi hn hn' M
    obtain ⟨n, rfl⟩ : ∃ k, n = k + 1 := ⟨n - 1, by omega⟩
    obtain ⟨n', rfl⟩ : ∃ k, n' = k + 1 := ⟨n' - 1, by omega⟩
    rw [F_X5_goThrough_9, F_X11_goes_2, if_neg (by omega), if_neg (by omega)]
    exact M
  | succ d ih =>
    intro n n' x i t1 t2 hx hi hn hn' M
    obtain ⟨n, rfl⟩ : ∃ k, n = k + 1 := ⟨n - 1, by omega⟩
    obtain ⟨n', rfl⟩ : ∃ k, n' = k + 1 := ⟨n' - 1, by omega⟩
    obtain ⟨m, e1, e2, e3⟩ := M.step hN
    obtain ⟨w, hw⟩ : ∃ w, w = F_X9_isStorm (q 3) v (t1.1 (q 4) 4) t1 := ⟨_, rfl⟩
    rw [F_X5_goThrough_9, F_X11_goes_2, if_pos (by omega), if_pos (by omega)]
    simp only [zlt, zlt2]
    rw [← hw] at e1 e2 ⊢
    have R := ih n n' (x + (1 : Int32)) (i + 1) _ _ (zp1 hx (by omega)) (by omega) (by omega) (by omega) e3
    by_cases c : w.1.toInt = 0
    · rw [if_pos c] at e2 ⊢
      rw [e1]
      rw [e2] at R
      exact R
    · rw [if_neg c] at e2 ⊢
      rw [e1]
      rw [e2] at R
      exact R
/-- still months: flows at hand -/
def zMh (q Y : Nat → Nat) (a b N : Nat) (g : zGl) (u l : Nat → Nat) (s1 s2 t1 t2 : zS) : Prop := zSd q Y a b N g u l t1 t2 ∧ zDn q Y N t1 t2 ∧ ¬ (t2.1 a 51).toInt = 0 ∧ zFr (zGw q) s1 t1 ∧ zFr (zHw Y a) s2 t2 ∧ ∀ p, p < N → t1.1 (q 6) p = t2.1 (Y 55) p ∧ t1.1 (q 6) p = (F_X11_fillsFlows a 0 t2).1 (Y 55) p
theorem zMh.up (M : zMh q Y a b N g u l s1 s2 t1 t2) (f1 : zFr (zRw q) t1 z1) (e1 : z1.1 (q 6) = t1.1 (q 6)) (f2 : zFr (zVw Y a) t2 z2) (e2 : z2.1 (Y 55) = t2.1 (Y 55)) : zMh q Y a b N g u l s1 s2 z1 z2 := by
  obtain ⟨S, Dn, h51, g1, g2, hF⟩ := M
  have z0 : (0 : Int32).toInt = 0 := by decide
  have hY : zYm Y a t2.2.2 := S.2.1.1
  have hQ : zQr q t1.2.2 := S.1.1
  have L := S.fall Dn (m := 0) (by rw [z0]; omega) zFr.id zFr.id
  have L2 := S.fall Dn (m := 0) (by rw [z0]; omega) zFr.id f2
  refine ⟨S.fr (zRw.up f1) (zVw.up f2), (Dn.up1 hQ f1).up2 hY f2, by rw [zVw.fl hY f2 (by decide)]; exact h51, g1.tr (zRw.up f1), g2.tr (zVw.up f2), fun p hp => ?_⟩
  rw [e1, e2]
  exact ⟨(hF p hp).1, by rw [(hF p hp).2, ← L.2.2.1 p hp, L2.2.2.1 p hp]⟩
theorem zMh.step (M : zMh q Y a b N g u l s1 s2 t1 t2) : zMh q Y a b N g u l s1 s2 (F_X5_goOn (q 0) t1) (F_X11_monthGoes a t2) ∧ ((F_X11_monthGoes a t2).1 a 56).toInt = wnM q N u t1 g (fun p => t1.1 (q 6) p) := by
  obtain ⟨S, Dn, h51, g1, g2, hF⟩ := M
  have z0 : (0 : Int32).toInt = 0 := by decide
  have hG : F_X11_monthGoes a t2 = mTail a (F_X11_fillsFlows a 0 t2) := by rw [mMon_e, if_neg h51]
  obtain ⟨x1, x2, x3, x4, x5, x6, x7, -, x8⟩ := S.month Dn (m := 0) (by rw [z0]; omega) hG zFr.id (fun p hp => (hF p hp).2)
  have e : F_X5_goOn (q 0) t1 = F_X5_fall (q 0) 0 (F_X5_endMonth (q 0) t1) := by
    unfold F_X5_goOn
    simp only [zlt]
  have L := x1.fall x2 (m := 0) (by rw [z0]; omega) zFr.id zFr.id
  rw [e]
  exact ⟨⟨x1.fr (zRw.up L.1) zFr.id, x2.up1 x1.1.1 L.1, by rw [x5]; exact h51, g1.tr (x3.tr (zRw.up L.1)), g2.tr x4, x8⟩, x7⟩
end MONTHS
end
-- 35y04.lw37
section
/-! WHERE THE RIVER'S ROWS LIE, on both sides -/
def qOf (W : Nat → Nat → Option Nat) (rv sh cd td : Nat) (V : zWh) (k : Nat) : Nat → Nat
  | 0 => rv
  | 1 => sh
  | 2 => cd
  | 3 => td
  | 4 => V.1 k
  | 5 => (W rv 2).getD 0
  | 6 => (W rv 3).getD 0
  | 7 => (W rv 4).getD 0
  | 8 => (W cd 0).getD 0
  | 9 => (W cd 1).getD 0
  | 10 => (W td 3).getD 0
  | 11 => (W td 4).getD 0
  | 12 => (W td 5).getD 0
  | 13 => (W td 6).getD 0
  | 14 => (W td 7).getD 0
  | 15 => (W td 9).getD 0
  | 16 => (W sh 2).getD 0
  | 17 => (W sh 3).getD 0
  | 18 => (W sh 4).getD 0
  | 19 => V.2.1 k
  | 20 => V.2.2.1 k
  | _ => V.2.2.2 k
def qK : Nat → Nat := fun i => [5, 6, 0, 9, 1, 30, 31, 32, 20, 21, 46, 47, 48, 49, 50, 51, 34, 35, 36, 22, 23, 24].getD i 0
theorem qK_n : ∀ i, i < 22 → ∀ j, j < 22 → i ≠ j → qK i ≠ qK j := by decide
theorem zYj_k {j : Nat} (h : zYj j) : zf 0 11 j = some (100 + j) ∧ 21 ≤ j := by
  unfold zYj at h
  rcases (show j = 21 ∨ j = 22 ∨ j = 23 ∨ j = 24 ∨ j = 25 ∨ j = 26 ∨ j = 27 ∨ j = 28 ∨ j = 29 ∨ j = 30 ∨ j = 31 ∨ j = 33 ∨ j = 34 ∨ j = 35 ∨ j = 36 ∨ j = 37 ∨ j = 39 ∨ j = 40 ∨ j = 45 ∨ j = 46 ∨ j = 48 ∨ j = 49 ∨ j = 52 ∨ j = 53 ∨ j = 54 ∨ j = 55 by omega) with rfl | rfl | rfl | rfl | rfl | rfl | rfl | rfl | rfl | rfl | rfl | rfl | rfl | rfl | rfl | rfl | rfl | rfl | rfl | rfl | rfl | rfl | rfl | rfl | rfl | rfl <;> exact ⟨rfl, by decide⟩
section QOF
variable {κ : Int} {L L2 : List Nat} {kd kd2 : Nat → Nat} {x0 m0 rv sh cd td k N : Nat} {V : zWh} {ps pc sl : Nat} {W R : Nat → Nat → Option Nat} {σ σ2 : zS} {u : Nat → Nat} {FR : Nat → Int32}
theorem qOf.t (hL : zLay L kd x0 W V ps pc sl) (hV : zRv L kd x0 rv sh cd W) (t9 : zT L kd td 9) (tr : ∀ j, 2 ≤ j → j ≤ 9 → j ≠ 8 → zT L kd ((W td j).getD 0) (if j = 9 then 51 else 43 + j)) (hk : k < 45) : ∀ i, i < 22 → zT L kd (qOf W rv sh cd td V k i) (qK i) := by
  obtain ⟨-, ⟨t0, t1, t2, t3⟩, b, c, d, -, -⟩ := hV
  obtain ⟨⟨tA, tI, tW, tM⟩, -⟩ := hL.2.2.2.1 k hk
  intro i hi
  rcases (show i = 0 ∨ i = 1 ∨ i = 2 ∨ i = 3 ∨ i = 4 ∨ i = 5 ∨ i = 6 ∨ i = 7 ∨ i = 8 ∨ i = 9 ∨ i = 10 ∨ i = 11 ∨ i = 12 ∨ i = 13 ∨ i = 14 ∨ i = 15 ∨ i = 16 ∨ i = 17 ∨ i = 18 ∨ i = 19 ∨ i = 20 ∨ i = 21 by omega) with rfl | rfl | rfl | rfl | rfl | rfl | rfl | rfl | rfl | rfl | rfl | rfl | rfl | rfl | rfl | rfl | rfl | rfl | rfl | rfl | rfl | rfl
  · exact t1
  · exact t2
  · exact t3
  · exact t9
  · exact tA
  · exact b 2 (by omega)
  · exact b 3 (by omega)
  · exact b 4 (by omega)
  · exact c 0 (by omega)
  · exact c 1 (by omega)
  · exact tr 3 (by decide) (by decide) (by decide)
  · exact tr 4 (by decide) (by decide) (by decide)
  · exact tr 5 (by decide) (by decide) (by decide)
  · exact tr 6 (by decide) (by decide) (by decide)
  · exact tr 7 (by decide) (by decide) (by decide)
  · exact tr 9 (by decide) (by decide) (by decide)
  · exact d 2 (by decide) (by decide)
  · exact d 3 (by decide) (by decide)
  · exact d 4 (by decide) (by decide)
  · exact tI
  · exact tW
  · exact tM
theorem zQr.of (hL : zLay L kd x0 W V ps pc sl) (hV : zRv L kd x0 rv sh cd W) (t9 : zT L kd td 9) (tr : ∀ j, 2 ≤ j → j ≤ 9 → j ≠ 8 → zT L kd ((W td j).getD 0) (if j = 9 then 51 else 43 + j)) (hk : k < 45) (hR : ∀ a j, ¬ (a = rv ∧ (j = 5 ∨ j = 6)) → R a j = W a j) (R5 : R rv 5 = some td) (R6 : R rv 6 = some (V.1 k)) : zQr (qOf W rv sh cd td V k) R := by
  have T := qOf.t hL hV t9 tr hk
  obtain ⟨⟨a1, a2, a3, a4⟩, ⟨t0, t1, t2, t3⟩, -⟩ := id hV
  obtain ⟨⟨tA, -⟩, -⟩ := hL.2.2.2.1 k hk
  obtain ⟨g0, g1, g2⟩ := hL.gA hk
  have e : ∀ a ka, zT L kd a ka → ka ≠ 5 → ∀ j, (R a j).getD 0 = (W a j).getD 0 := fun a ka ha hn j => by rw [hR a j (fun z => zNk ha t1 hn z.1)]
  have er : ∀ j, j ≠ 5 → j ≠ 6 → (R rv j).getD 0 = (W rv j).getD 0 := fun j h5 h6 => by rw [hR rv j (fun z => by omega)]
  refine ⟨⟨⟨?_, ?_, ?_, ?_, ?_, ?_, ?_⟩, ⟨?_, ?_⟩, ⟨?_, ?_, ?_, ?_, ?_, ?_⟩, ⟨?_, ?_, ?_⟩, ?_, ?_, ?_⟩, fun i j hi hj n => zNk (T i hi) (T j hj) (qK_n i hi j hj n)⟩
  · show (R rv 0).getD 0 = sh
    rw [er 0 (by decide) (by decide), a3]; rfl
  · show (R rv 1).getD 0 = cd
    rw [er 1 (by decide) (by decide), a4]; rfl
  · show (R rv 5).getD 0 = td
    rw [R5]; rfl
  · show (R rv 6).getD 0 = V.1 k
    rw [R6]; rfl
  · exact er 2 (by decide) (by decide)
  · exact er 3 (by decide) (by decide)
  · exact er 4 (by decide) (by decide)
  · exact e cd 0 t3 (by decide) 0
  · exact e cd 0 t3 (by decide) 1
  · exact e td 9 t9 (by decide) 3
  · exact e td 9 t9 (by decide) 4
  · exact e td 9 t9 (by decide) 5
  · exact e td 9 t9 (by decide) 6
  · exact e td 9 t9 (by decide) 7
  · exact e td 9 t9 (by decide) 9
  · exact e sh 6 t2 (by decide) 2
  · exact e sh 6 t2 (by decide) 3
  · exact e sh 6 t2 (by decide) 4
  · exact (e (V.1 k) 1 tA (by decide) 0).trans g0
  · exact (e (V.1 k) 1 tA (by decide) 1).trans g1
  · exact (e (V.1 k) 1 tA (by decide) 2).trans g2
theorem zYm.of (hJ : zJ κ L2 kd2 σ2) (hm : zT L2 kd2 m0 11) : zYm (mR σ2 m0) m0 σ2.2.2 := ⟨fun j hj => ⟨rfl, mR_m hJ hm (zYj_k hj).1 (by have := (zYj_k hj).2; omega)⟩, fun i j hi hj n => mR_ne hJ hm (zYj_k hi).1 (zYj_k hj).1 (by omega)⟩
/-- the class forms its river of a course -/
theorem cFormK (hL : zLay L kd x0 σ.2.2 V ps pc sl) (hV : zRv L kd x0 rv sh cd σ.2.2) (td9 : zT L kd td 9) (tl : zT L kd ((σ.2.2 td 3).getD 0) 46) (hk : k < 45) (hN : N ≤ 12) (h0 : (σ.1 td 0).toInt = N) (hT : zTr N u) (hu : ∀ c, 1 ≤ c → c < N → (σ.1 (V.2.1 k) c).toInt = u c) (F0 : FR 0 = 0) (hF : ∀ c, 1 ≤ c → c < N → FR c = FR (u c) + σ.1 ((σ.2.2 td 3).getD 0) c) : (F_X5_form rv td (V.1 k) σ).2.2 = zu (zu σ.2.2 rv 5 (some td)) rv 6 (some (V.1 k)) ∧ (∀ c j, ¬ zKs kd c j → (F_X5_form rv td (V.1 k) σ).1 c j = σ.1 c j) ∧ ∃ l, zShp N u (σ.1 ((σ.2.2 td 3).getD 0)) FR sh ((σ.2.2 sh 1).getD 0) ((σ.2.2 sh 2).getD 0) ((σ.2.2 sh 3).getD 0) ((σ.2.2 sh 4).getD 0) ((σ.2.2 sh 6).getD 0) l (F_X5_form rv td (V.1 k) σ) := by
  obtain ⟨⟨a1, a2, a3, a4⟩, ⟨t0, t1, t2, t3⟩, b, c, d, e, f⟩ := id hV
  obtain ⟨TL, gT⟩ : ∃ TL, (σ.2.2 td 3).getD 0 = TL := ⟨_, rfl⟩
  rw [gT] at hF tl ⊢
  obtain ⟨⟨tA, tI, tW, tM⟩, -⟩ := hL.2.2.2.1 k hk
  have k1 := d 1 (by omega) (by omega)
  have k2 := d 2 (by omega) (by omega)
  have k3 := d 3 (by omega) (by omega)
  have k4 := d 4 (by omega) (by omega)
  have k6 := d 6 (by omega) (by omega)
  generalize hA1 : (σ.2.2 sh 1).getD 0 = A1 at k1 ⊢
  generalize hA2 : (σ.2.2 sh 2).getD 0 = A2 at k2 ⊢
  generalize hA3 : (σ.2.2 sh 3).getD 0 = A3 at k3 ⊢
  generalize hA4 : (σ.2.2 sh 4).getD 0 = A4 at k4 ⊢
  generalize hA6 : (σ.2.2 sh 6).getD 0 = A6 at k6 ⊢
  obtain ⟨s, hs⟩ : ∃ s : zS, s = (σ.1, σ.2.1, zu (zu σ.2.2 rv 5 (some td)) rv 6 (some (V.1 k))) := ⟨_, rfl⟩
  have sr : ∀ a, a ≠ rv → s.2.2 a = σ.2.2 a := fun a ha => by
    rw [hs]
    show zu (zu σ.2.2 rv 5 _) rv 6 _ a = _
    rw [zu_n _ _ _ ha, zu_n _ _ _ ha]
  have g0 : (zu (zu σ.2.2 rv 5 (some td)) rv 6 (some (V.1 k)) rv 0).getD 0 = sh := by
    rw [zu_j _ _ _ _ _ (by decide), zu_j _ _ _ _ _ (by decide), a3]
    rfl
  have eq : F_X5_form rv td (V.1 k) σ = F_X6_form sh td (V.1 k) s := by
    rw [hs]
    unfold F_X5_form
    simp only [zlt, g0]
  have nsh : sh ≠ rv := zNk t2 t1 (by decide)
  have nA : V.1 k ≠ rv := zNk tA t1 (by decide)
  have ntd : td ≠ rv := zNk td9 t1 (by decide)
  have ss : ∀ c j, s.1 c j = σ.1 c j := fun c j => by rw [hs]
  obtain ⟨fr, l, hP⟩ := cForm (tt := td) (co := V.1 k) (sh := sh) (I := V.2.1 k) (σ := s) (FR := FR) (TL := TL) (N := N) (u := u) (A1 := A1) (A2 := A2) (A3 := A3) (A4 := A4) (A6 := A6) ⟨⟨zNk k1 t2 (by decide), zNk k2 t2 (by decide), zNk k3 t2 (by decide), zNk k4 t2 (by decide), zNk k6 t2 (by decide), zNk tI t2 (by decide)⟩, ⟨zNk k2 k1 (by decide), zNk k3 k1 (by decide), zNk k4 k1 (by decide), zNk k6 k1 (by decide)⟩, ⟨zNk k3 k2 (by decide), zNk k4 k2 (by decide), zNk k6 k2 (by decide)⟩, ⟨zNk k4 k3 (by decide), zNk k6 k3 (by decide)⟩, zNk k6 k4 (by decide), ⟨zNk tI k2 (by decide), zNk tI k3 (by decide), zNk tI k4 (by decide), zNk tI k6 (by decide)⟩⟩ ⟨by rw [sr sh nsh]; exact hA1, by rw [sr sh nsh]; exact hA2, by rw [sr sh nsh]; exact hA3, by rw [sr sh nsh]; exact hA4, by rw [sr sh nsh]; exact hA6, by rw [sr _ nA]; exact (hL.gA hk).1⟩ (by rw [sr td ntd]; exact gT) ⟨zNk tl t2 (by decide), zNk tl k1 (by decide)⟩ (zNk tI k1 (by decide)) hN hT (fun c h1 h2 => by rw [ss]; exact hu c h1 h2) (by rw [ss]; exact h0) F0 (fun c h1 h2 => by rw [ss]; exact hF c h1 h2)
  have hP' : zShp N u (σ.1 TL) FR sh A1 A2 A3 A4 A6 l (F_X6_form sh td (V.1 k) s) := by
    have e : s.1 TL = σ.1 TL := funext (fun j => ss TL j)
    rw [← e]
    exact hP
  rw [eq]
  refine ⟨?_, fun c j n => ?_, l, hP'⟩
  · rw [fr.rf, hs]
  · rw [fr.2 c j (by
      rintro (⟨z, -⟩ | z | z | z | z | z)
      · exact n (by unfold zKs; rw [z, t2.2]; omega)
      · exact n (by unfold zKs; rw [z, k1.2]; omega)
      · exact n (by unfold zKs; rw [z, k2.2]; omega)
      · exact n (by unfold zKs; rw [z, k3.2]; omega)
      · exact n (by unfold zKs; rw [z, k4.2]; omega)
      · exact n (by unfold zKs; rw [z, k6.2]; omega)), ss]
end QOF
end
-- 35y05.lw38
section
/-! WHAT STANDS AT FIRST: both rivers formed -/
/-- courses against rows, whole: with what was won and the money -/
def zQw (N : Nat) (c : zCo) (r : Nat → Int32) : Prop := zQ0 N c r ∧ (∀ p, p < N → c.2.1 p = r (24 + p) ∧ c.2.2.1 p = r (36 + p) ∧ 0 ≤ (c.2.1 p).toInt ∧ (c.2.1 p).toInt ≤ 999) ∧ (0 < N → (bt c.2.2.2.1 0 = false ∧ r 12 = 0) ∧ (c.2.2.1 0 = 0 ∧ r 36 = 0) ∧ r 0 = -2)
theorem zQw.z {c : zCo} {r : Nat → Int32} (h : zQ0 0 c r) : zQw 0 c r := ⟨h, fun p hp => absurd hp (by omega), fun hN => absurd hN (by omega)⟩
theorem zGd.q1 : zGd zQw := by
  obtain ⟨g0, g1, g2, g3⟩ := zGd.q0
  have U : ∀ (N : Nat) (c : zCo) (r : Nat → Int32) (k : Nat) (v : Int32), N ≤ 12 → 1 ≤ k → (k < 24 ∨ k = 49) → ((∀ p, p < N → c.2.1 p = r (24 + p) ∧ c.2.2.1 p = r (36 + p) ∧ 0 ≤ (c.2.1 p).toInt ∧ (c.2.1 p).toInt ≤ 999) → ∀ p, p < N → c.2.1 p = updR r k v (24 + p) ∧ c.2.2.1 p = updR r k v (36 + p) ∧ 0 ≤ (c.2.1 p).toInt ∧ (c.2.1 p).toInt ≤ 999) ∧ updR r k v 0 = r 0 ∧ (k ≠ 12 → updR r k v 12 = r 12) ∧ updR r k v 36 = r 36 := fun N c r k v h12 k1 hk => by
    refine ⟨fun h p hp => ?_, if_neg (by omega), fun n => if_neg (fun z => n z.symm), if_neg (by omega)⟩
    have e1 : updR r k v (24 + p) = r (24 + p) := if_neg (by omega)
    have e2 : updR r k v (36 + p) = r (36 + p) := if_neg (by omega)
    rw [e1, e2]
    exact h p hp
  refine ⟨fun _ _ _ h => h.1, fun N c r p h12 h => ?_, fun N c r k b h1 h2 h12 hb h => ?_, fun N c r k v h1 h2 h12 h => ?_⟩
  · obtain ⟨u1, u2, u3, u4⟩ := U N c r 49 p h12 (by decide) (Or.inr rfl)
    refine ⟨g1 N c r p h12 h.1, u1 h.2.1, fun hN => ?_⟩
    obtain ⟨⟨x1, x2⟩, ⟨x3, x4⟩, x5⟩ := h.2.2 hN
    exact ⟨⟨x1, (u3 (by decide)).trans x2⟩, ⟨x3, u4.trans x4⟩, u2.trans x5⟩
  · obtain ⟨u1, u2, u3, u4⟩ := U N c r (12 + k) (if bt c.2.2.2.1 k = true then 0 else 1) h12 (by omega) (Or.inl (by omega))
    refine ⟨g2 N c r k b h1 h2 h12 hb h.1, u1 h.2.1, fun hN => ?_⟩
    obtain ⟨⟨x1, x2⟩, ⟨x3, x4⟩, x5⟩ := h.2.2 hN
    refine ⟨⟨?_, (u3 (by omega)).trans x2⟩, ⟨x3, u4.trans x4⟩, u2.trans x5⟩
    show bt (c.2.2.2.1 ^^^ b) 0 = false
    rw [b_xor, hb 0 (by decide), x1, decide_eq_false (by omega)]
    rfl
  · by_cases e : k = 12
    · omega
    · obtain ⟨u1, u2, u3, u4⟩ := U N c r k v h12 h1 (Or.inl (by omega))
      refine ⟨g3 N c r k v h1 h2 h12 h.1, u1 h.2.1, fun hN => ?_⟩
      obtain ⟨⟨x1, x2⟩, ⟨x3, x4⟩, x5⟩ := h.2.2 hN
      exact ⟨⟨x1, (u3 e).trans x2⟩, ⟨x3, u4.trans x4⟩, u2.trans x5⟩
section MONO
variable {L1 : List Nat} {kd1 : Nat → Nat} {σ1 σ2 : zS} {m0 x0 : Nat} {Q Q' : Nat → zCo → (Nat → Int32) → Prop} {V : zWh} {ps pc sl rv sh cd : Nat}
theorem zRL.mono (h : zRL Q L1 kd1 x0 m0 V ps pc sl rv sh cd σ1 σ2) (hQ : ∀ N c r, Q N c r → Q' N c r) : zRL Q' L1 kd1 x0 m0 V ps pc sl rv sh cd σ1 σ2 := by
  obtain ⟨hL, hV, N, n, u, hn, hq, hu, hh⟩ := h
  refine ⟨hL, hV, N, n, u, hn, hQ _ _ _ hq, fun i hi => hQ _ _ _ (hu i hi), fun s hs => ?_⟩
  rcases hh s hs with ⟨a, b, c⟩ | c
  · exact Or.inl ⟨a, b, hQ _ _ _ c⟩
  · exact Or.inr c
/-- nowhere: no more is asked -/
theorem zRL.mono0 (h : zRL zQ0 L1 kd1 x0 m0 V ps pc sl rv sh cd σ1 σ2) (z : zM m0 σ2 = 0) : zRL zQw L1 kd1 x0 m0 V ps pc sl rv sh cd σ1 σ2 := by
  obtain ⟨hL, hV, N, n, u, hn, hq, hu, hh⟩ := h
  have eN : N = 0 := by
    have := hn.2.1
    omega
  subst eN
  refine ⟨hL, hV, 0, n, u, hn, zQw.z hq, fun i hi => zQw.z (hu i hi), fun s hs => ?_⟩
  rcases hh s hs with ⟨a, b, c⟩ | c
  · exact Or.inl ⟨a, b, zQw.z c⟩
  · exact Or.inr c
end MONO
theorem zFr.sy {A : Nat → Nat → Prop} {s t : zS} (f : zFr A s t) : zFr A t s := ⟨f.1.symm, fun c j n => (f.2 c j n).symm⟩
section STANDS
variable {κ : Int} {L1 : List Nat} {kd1 : Nat → Nat} {L2 : List Nat} {kd2 : Nat → Nat} {σ1 σ2 s0 : zS} {m0 x0 : Nat} {Q : Nat → zCo → (Nat → Int32) → Prop} {V : zWh} {ps pc sl rv sh cd k : Nat}
theorem zSd.of0 (hG : zGd Q) (hQ : ∀ N c r, Q N c r → zQw N c r) (h : zRL Q L1 kd1 x0 m0 V ps pc sl rv sh cd σ1 σ2) (hw : 0 < zM m0 σ2 → zLw x0 m0 σ1 σ2) (hl : zLen x0 m0 σ1 σ2) (hx : zT L1 kd1 x0 10) (hI : zI κ 0 L1 kd1 σ1) (hJ : zJ κ L2 kd2 σ2) (hm : zT L2 kd2 m0 11) (hg : gN m0 σ2) (gr : ∀ a j, ¬ (a = rv ∧ (j = 5 ∨ j = 6)) → s0.2.2 a j = σ1.2.2 a j) (he : ∀ c kc, zT L1 kd1 c kc → (kc = 9 ∨ (46 ≤ kc ∧ kc ≤ 51)) → s0.1 c = σ1.1 c) (hk : k < 45) (hcI : ∀ p, p < 12 → s0.1 (V.2.1 k) p = σ1.1 (V.2.1 0) p) (hcD : s0.1 (V.1 k) 3 = σ1.1 (V.1 0) 3) : ∃ (td B N : Nat) (gl : zGl) (u l : Nat → Nat) (q Y : Nat → Nat) (w t : zS), (q = qOf σ1.2.2 rv sh cd td V k ∧ Y = mR σ2 m0 ∧ w = F_X5_form rv td (V.1 k) s0 ∧ t = F_X11_copies m0 σ2) ∧ σ1.2.2 x0 10 = some td ∧ zM m0 σ2 = N ∧ zSd q Y m0 B N gl u l w t ∧ (∀ i, (i = 3 ∨ i = 4 ∨ i = 20 ∨ i = 21) → w.1 (q i) = s0.1 (q i)) ∧ (∀ j, j < 50 → t.1 (Y 49) j = σ2.1 (mR σ2 m0 48) j) ∧ (0 < N → zSo q Y B w t) ∧ (0 < N → t.1 m0 50 = σ1.1 td 13) ∧ (t.1 m0 51).toInt = 0 ∧ (zDn q Y N w t → ∀ p, p < N → (F_X5_fall (q 0) 0 w).1 (q 6) p = t.1 (Y 55) p) := by
  have g : zPv L1 kd1 V rv σ1 (σ1.1, s0.2) := ⟨gr, fun _ _ => rfl⟩
  obtain ⟨N, u, FR, SR, ℓ, l0, ⟨n1, n2, n3, n4⟩, ⟨F0, S0, hF, hS, hℓ⟩, hb, -, hM⟩ := h.lk hG hl hx hI hJ hm hg
  obtain ⟨hL, hV, N', n, uu, ⟨a1, a2, a3, -⟩, hq, -⟩ := id h
  obtain rfl : N' = N := by omega
  obtain ⟨td, d1, d2⟩ := zi_ref (j := 10) (k2 := 9) hI hx (by rfl)
  have gd : (σ1.2.2 x0 10).getD 0 = td := by rw [d1]; rfl
  have tr := zTt_k hI d2
  obtain ⟨B, w2⟩ : ∃ B, (σ2.1 m0 18).toInt.toNat = B := ⟨_, rfl⟩
  have hw' : ∃ (gl : zGl) (K : Nat), 0 < N' → ((σ1.1 td 8).toInt = K ∧ K ≤ 420) ∧ (∀ k, k < 5 → zLc ((σ1.2.2 td 6).getD 0) ((σ1.2.2 td 7).getD 0) ((σ1.2.2 td 9).getD 0) σ1 K k (gl k) ∧ zLm (mR σ2 m0) (420 * B) (130 * B) σ2 (420 * B + 420) (130 * B + 130) (5 * B + k) (gl k)) ∧ (∀ j p : Nat, 3 ≤ j → j ≤ 5 → (p : Int) < zM m0 σ2 → σ1.1 ((σ1.2.2 td j).getD 0) p = σ2.1 (mR σ2 m0 (20 + j)) (12 * B + p)) ∧ (∀ j : Nat, j < 4 → σ1.1 td (10 + j) = σ2.1 (mR σ2 m0 (26 + j)) B) ∧ 0 ≤ (σ1.1 td 11).toInt ∧ (σ1.1 td 11).toInt ≤ 99 := by
    by_cases z : 0 < N'
    · obtain ⟨td', B', K, gl, w1, w2', w3, w4, w5, w6, w7, w8⟩ := hw (by omega)
      have et' : td' = td := by rw [← w1, gd]
      have eB' : B' = B := by rw [← w2', w2]
      rw [et', eB'] at w4
      rw [et'] at w3 w5 w6 w7 w8
      rw [eB'] at w5 w6
      exact ⟨gl, K, fun _ => ⟨w3, w4, w5, w6, w7, w8⟩⟩
    · exact ⟨fun _ => none, 0, fun y => absurd y z⟩
  obtain ⟨gl, K, hw'⟩ := hw'
  obtain ⟨td', etd⟩ : ∃ td', td' = td := ⟨td, rfl⟩
  subst etd
  have w5 : ∀ j p : Nat, 3 ≤ j → j ≤ 5 → p < N' → σ1.1 ((σ1.2.2 td' j).getD 0) p = σ2.1 (mR σ2 m0 (20 + j)) (12 * B + p) := fun j p j1 j2 hp => by
    obtain ⟨-, -, x, -⟩ := hw' (by omega)
    exact x j p j1 j2 (by omega)
  have r18 : 0 ≤ (σ2.1 m0 18).toInt ∧ (σ2.1 m0 18).toInt ≤ 1 := zj_get (j := 18) hJ hm (lo := 0) (hi := 1) (by rfl)
  have hB : (σ2.1 m0 18).toInt = B := by omega
  have hB1 : B ≤ 1 := by omega
  have nB : (σ2.1 m0 18).toNatClampNeg = B := by rw [ztn, hB]; rfl
  rw [w2] at hb
  rw [gd] at a1
  have t1 : zT L1 kd1 rv 5 := hV.2.1.2.1
  have t2 : zT L1 kd1 sh 6 := hV.2.1.2.2.1
  have ntd : td' ≠ rv := zNk d2 t1 (by decide)
  have nsh : sh ≠ rv := zNk t2 t1 (by decide)
  have hL0 : zLay L1 kd1 x0 s0.2.2 V ps pc sl := zLay.pv (s := (σ1.1, s0.2)) hL t1 g
  have hV0 : zRv L1 kd1 x0 rv sh cd s0.2.2 := zRv.keep (s := (σ1.1, s0.2)) hV g
  have et : ∀ j, s0.2.2 td' j = σ1.2.2 td' j := fun j => g.1 td' j (fun z => ntd z.1)
  have es : ∀ j, s0.2.2 sh j = σ1.2.2 sh j := fun j => g.1 sh j (fun z => nsh z.1)
  have tl0 : zT L1 kd1 ((s0.2.2 td' 3).getD 0) 46 := by rw [et]; exact tr 3 (by decide) (by decide) (by decide)
  have Qk : zQw N' (zcc V σ1.1 0) (rC σ2.1 (mR σ2 m0 48) 0) := hQ _ _ _ hq
  have z22 : ∀ p, p < 12 → (zcc V σ1.1 0).1 p = s0.1 (V.2.1 k) p := fun p hp => (if_pos hp : zt12 _ p = _).trans (hcI p hp).symm
  have rc : ∀ j, j < 50 → rC σ2.1 (mR σ2 m0 48) 0 j = σ2.1 (mR σ2 m0 48) j := fun j hj => by rw [rC_i hj, Nat.zero_add]
  have hu : ∀ c, 1 ≤ c → c < N' → (s0.1 (V.2.1 k) c).toInt = u c := fun c c1 c2 => by
    rw [← z22 c (by omega), Qk.1.1 c c1 c2, rc c (by omega)]
    exact (hb c c1 c2).2
  have h0 : (s0.1 td' 0).toInt = N' := by rw [he td' 9 d2 (by omega)]; exact a1
  have hF' : ∀ c, 1 ≤ c → c < N' → FR c = FR (u c) + s0.1 ((s0.2.2 td' 3).getD 0) c := fun c c1 c2 => by
    rw [et, he _ 46 (tr 3 (by decide) (by decide) (by decide)) (by omega), w5 3 c (by decide) (by decide) (by omega), hF c c1 c2]
    show FR (u c) + ℓ c = FR (u c) + σ2.1 (mR σ2 m0 23) (12 * B + c)
    rw [(hb c c1 c2).1]
  obtain ⟨C1, C2, l, C3⟩ := cFormK hL0 hV0 d2 tl0 hk n1 h0 n4 hu F0 hF'
  rw [es, es, es, es, es] at C3
  obtain ⟨w, hw0⟩ : ∃ w, w = F_X5_form rv td' (V.1 k) s0 := ⟨_, rfl⟩
  obtain ⟨t, ht0⟩ : ∃ t, t = F_X11_copies m0 σ2 := ⟨_, rfl⟩
  rw [← hw0] at C1 C2 C3
  rw [← ht0] at hM
  have hM' := hM
  obtain ⟨m1, m2, m3, m4, m5⟩ := hM'
  obtain ⟨q, hq0⟩ : ∃ q, q = qOf σ1.2.2 rv sh cd td' V k := ⟨_, rfl⟩
  have QR : zQr q w.2.2 := by
    rw [hq0]
    refine zQr.of hL hV d2 tr hk (fun a j n => ?_) ?_ ?_
    · rw [C1]
      by_cases ca : a = rv
      · subst ca
        rw [zu_j _ _ _ _ _ (fun z => n ⟨rfl, Or.inr z.symm⟩), zu_j _ _ _ _ _ (fun z => n ⟨rfl, Or.inl z.symm⟩)]
        exact g.1 _ j n
      · rw [zu_n _ _ _ ca, zu_n _ _ _ ca]
        exact g.1 a j n
    · rw [C1, zu_j _ _ _ _ _ (by decide), zu_s]
    · rw [C1, zu_s]
  have T : ∀ i, i < 22 → zT L1 kd1 (q i) (qK i) := by rw [hq0]; exact qOf.t hL hV d2 tr hk
  have W0 : ∀ i, i < 22 → (i = 3 ∨ i = 4 ∨ (10 ≤ i ∧ i ≤ 15) ∨ 19 ≤ i) → w.1 (q i) = s0.1 (q i) := fun i hi n => funext (fun j => C2 _ j (by
    have ki := (T i hi).2
    unfold zKs
    rw [ki]
    rcases (show i = 3 ∨ i = 4 ∨ i = 10 ∨ i = 11 ∨ i = 12 ∨ i = 13 ∨ i = 14 ∨ i = 15 ∨ i = 19 ∨ i = 20 ∨ i = 21 by omega) with rfl | rfl | rfl | rfl | rfl | rfl | rfl | rfl | rfl | rfl | rfl <;> decide))
  have W1 : ∀ i, (i = 3 ∨ (10 ≤ i ∧ i ≤ 15)) → w.1 (q i) = σ1.1 (q i) := fun i n => (W0 i (by omega) (by omega)).trans (he _ _ (T i (by omega)) (by
    rcases (show i = 3 ∨ i = 10 ∨ i = 11 ∨ i = 12 ∨ i = 13 ∨ i = 14 ∨ i = 15 by omega) with rfl | rfl | rfl | rfl | rfl | rfl | rfl <;> decide))
  have e3 : q 3 = td' := by rw [hq0]; rfl
  have e4 : q 4 = V.1 k := by rw [hq0]; rfl
  have e19 : q 19 = V.2.1 k := by rw [hq0]; rfl
  have e20 : q 20 = V.2.2.1 k := by rw [hq0]; rfl
  have e21 : q 21 = V.2.2.2 k := by rw [hq0]; rfl
  have eT : ∀ i j, (i = 10 ∧ j = 3) ∨ (i = 11 ∧ j = 4) ∨ (i = 12 ∧ j = 5) ∨ (i = 13 ∧ j = 6) ∨ (i = 14 ∧ j = 7) ∨ (i = 15 ∧ j = 9) → q i = (σ1.2.2 td' j).getD 0 := fun i j hij => by
    rw [hq0]
    rcases hij with ⟨rfl, rfl⟩ | ⟨rfl, rfl⟩ | ⟨rfl, rfl⟩ | ⟨rfl, rfl⟩ | ⟨rfl, rfl⟩ | ⟨rfl, rfl⟩ <;> rfl
  have e16 : q 16 = (σ1.2.2 sh 2).getD 0 := by rw [hq0]; rfl
  have e17 : q 17 = (σ1.2.2 sh 3).getD 0 := by rw [hq0]; rfl
  have e18 : q 18 = (σ1.2.2 sh 4).getD 0 := by rw [hq0]; rfl
  have e1q : q 1 = sh := by rw [hq0]; rfl
  obtain ⟨c1, c2, c3, c4⟩ := id C3
  have hY : zYm (mR σ2 m0) m0 σ2.2.2 := zYm.of hJ hm
  have hY' : zYm (mR σ2 m0) m0 t.2.2 := by rw [m1]; exact hY
  have f18 : t.1 m0 18 = σ2.1 m0 18 := zFm.fld hJ hm m5 (j := 18) (by rfl) (by rfl)
  have rows : ∀ j, (j = 21 ∨ (23 ≤ j ∧ j ≤ 31) ∨ (33 ≤ j ∧ j ≤ 37) ∨ j = 39 ∨ j = 40) → t.1 (mR σ2 m0 j) = σ2.1 (mR σ2 m0 j) := fun j hj => by
    refine zFm.row hJ hm m5 (zYj_k (by unfold zYj; omega)).1 (by rfl) ?_
    rcases (show j = 21 ∨ j = 23 ∨ j = 24 ∨ j = 25 ∨ j = 26 ∨ j = 27 ∨ j = 28 ∨ j = 29 ∨ j = 30 ∨ j = 31 ∨ j = 33 ∨ j = 34 ∨ j = 35 ∨ j = 36 ∨ j = 37 ∨ j = 39 ∨ j = 40 by omega) with rfl | rfl | rfl | rfl | rfl | rfl | rfl | rfl | rfl | rfl | rfl | rfl | rfl | rfl | rfl | rfl | rfl <;> rfl
  have L5 : 0 < N' → zL5 q w gl := fun hN => by
   obtain ⟨⟨w3, w3'⟩, w4, -⟩ := hw' hN
   exact ⟨K, by rw [W1 3 (by omega), e3]; exact w3, w3', fun v hv => by
    rw [eT 13 6 (by omega), eT 14 7 (by omega), eT 15 9 (by omega)]
    exact (w4 v hv).1.cg (by rw [← eT 13 6 (by omega)]; exact W1 13 (by omega)) (by rw [← eT 14 7 (by omega)]; exact W1 14 (by omega)) (by rw [← eT 15 9 (by omega)]; exact W1 15 (by omega))⟩
  have W5 : 0 < N' → zW5 (mR σ2 m0) B t gl := fun hN v hv => by
   obtain ⟨-, w4, -⟩ := hw' hN
   exact ⟨(w4 v hv).2.cg (Nat.le_refl _) (Nat.le_refl _) (fun i _ _ => ⟨by rw [rows 39 (by omega)], by rw [rows 40 (by omega)]⟩) (fun j i j1 j2 _ _ => by rw [rows j (by omega)]) (by rw [rows 30 (by omega)]) (by rw [rows 31 (by omega)]), (w4 v hv).1.1⟩
  have S : zSd q (mR σ2 m0) m0 B N' gl u l w t := by
    refine ⟨⟨QR, L5, by rw [e1q]; exact c1, n1, n4, fun c c1 c2 => by rw [W0 19 (by decide) (by omega), e19]; exact hu c c1 c2, by rw [e16]; exact c2.p, fun x => ?_⟩, ⟨hY', by rw [f18]; exact hB, hB1, W5, by rw [mMany_g hJ hm m5 (by rfl) (by rfl) (by rfl)]; exact n2, fun c c1 c2 => by rw [m4 c (by omega)]; exact (hb c c1 c2).2, fun c hc => ?_, fun x => mIsS hM hJ hm n2 n1⟩, fun p hp => ⟨?_, ?_, ?_, ?_, ?_⟩, fun c c1 c2 => ?_, ?_⟩
    · rw [e1q]
      exact (cIsS C3 (by
        have := QR.1.2.2.2.1.2.2
        rw [e1q, e18] at this
        exact this)).2
    · rw [(m3 c hc).2]
      have a := sr_d n4 n1 S0 hS c hc
      have b := (dep_b n4 c hc).1
      omega
    · rw [W1 11 (by omega), eT 11 4 (by omega), rows 24 (by omega)]
      exact w5 4 p (by decide) (by decide) (by omega)
    · rw [e17, c2.2.1 p hp, (m3 p hp).1]
    · rw [W1 12 (by omega), eT 12 5 (by omega), rows 25 (by omega)]
      exact w5 5 p (by decide) (by decide) (by omega)
    · rw [W1 10 (by omega), eT 10 3 (by omega), rows 23 (by omega)]
      exact w5 3 p (by decide) (by decide) (by omega)
    · have a := c3 p hp
      rw [← e18] at a
      have b : (F_X11_bits (t.1 (mR σ2 m0 54) p)).toInt = cnt (fun j => An u p j) N' := by
        rw [bitM, cnt_ext (N := N') 12 n1 (fun j j1 j2 z => by
          have := ((m2 p j hp (by omega)).mp z).1
          omega)]
        exact congrArg _ (cnt_cg N' (fun j hj => ⟨fun z => ((m2 p j hp (by omega)).mp z).2, fun z => (m2 p j hp (by omega)).mpr ⟨hj, z⟩⟩))
      have cl := cnt_le (P := fun j => An u p j) N'
      have c0 : 0 < cnt (fun j => An u p j) N' := cnt_p N' hp An_rf
      have o1 : (1 : Int32).toInt = 1 := by decide
      refine Int32.toInt_inj.mp ?_
      rw [zb_sub (by rw [o1]; omega) (by rw [o1]; omega), o1]
      omega
    · have np := pI_b c (by omega)
      have ed : w.1 (q 4) 3 = (zcc V σ1.1 0).2.2.2.1 := by rw [W0 4 (by decide) (by omega), e4, hcD]; rfl
      unfold dmC dmM
      rw [cHas np.1 (by omega), ed, m4 (12 + c) (by omega), ← rc (12 + c) (by omega)]
      rcases Qk.1.2.1 c c1 c2 with ⟨z1, z2⟩ | ⟨z1, z2⟩
      · rw [z2, z1]
        decide
      · rw [z2, z1]
        decide
    · intro hN
      obtain ⟨-, -, -, w6, -⟩ := hw' hN
      rw [W1 3 (by omega), e3, rows 28 (by omega)]
      exact w6 2 (by decide)
  have So : 0 < N' → zSo q (mR σ2 m0) B w t := fun hN => by
    obtain ⟨-, -, -, w6, w7, w8⟩ := hw' hN
    unfold zSo
    rw [W1 3 (by omega), e3, rows 26 (by omega), rows 27 (by omega)]
    exact ⟨w6 0 (by decide), w6 1 (by decide), w7, w8⟩
  -- the flows as copies leave them
  obtain ⟨y, hy⟩ : ∃ y, y = zCp m0 σ2 σ2 := ⟨_, rfl⟩
  obtain ⟨t', ht'⟩ : ∃ t', t' = F_X11_fillsWays m0 y := ⟨_, rfl⟩
  have tE : t = F_X11_fillsFlows m0 0 t' := by rw [ht0, ht', hy, zCopies hJ hm rfl]
  have yr : y.2.2 = σ2.2.2 := by rw [hy]; rfl
  have gw : zFr (fun c _ => c = mR σ2 m0 54 ∨ c = mR σ2 m0 52 ∨ c = mR σ2 m0 53) y t' := by rw [ht']; exact fr_X11_fillsWays zFr.id (fun _ => Or.inl (by rw [yr])) (fun _ => Or.inr (Or.inl (by rw [yr]))) (fun _ => Or.inr (Or.inr (by rw [yr])))
  have t'r : t'.2.2 = σ2.2.2 := gw.rf.trans yr
  have gf : zFr (zVw (mR σ2 m0) m0) t' t := by rw [tE]; exact fr_X11_fillsFlows zFr.id (fun _ => Or.inr (Or.inl (by rw [t'r]))) (Or.inr (Or.inr (Or.inr ⟨rfl, rfl⟩))) (fun _ => Or.inr (Or.inr (Or.inl (by rw [t'r])))) (fun _ => Or.inl (by rw [t'r]))
  have hY2 : zYm (mR σ2 m0) m0 t'.2.2 := by rw [t'r]; exact hY
  have fld : ∀ j, j ≠ 47 → t.1 m0 j = y.1 m0 j := fun j hj => by
    rw [zVw.fl hY2 gf hj, gw.2 m0 j (by
      rintro (z | z | z)
      · exact (hY.1 54 (by unfold zYj; omega)).2 z.symm
      · exact (hY.1 52 (by unfold zYj; omega)).2 z.symm
      · exact (hY.1 53 (by unfold zYj; omega)).2 z.symm)]
  have f50 : 0 < N' → t.1 m0 50 = σ1.1 td' 13 := fun hN => by
    obtain ⟨-, -, -, w6, -⟩ := hw' hN
    rw [fld 50 (by decide), hy]
    show zu (zu (zcf σ2.1 (mR σ2 m0 49) (mR σ2 m0 48) 0 0 0 50) m0 50 (σ2.1 (mR σ2 m0 29) (σ2.1 m0 18).toNatClampNeg)) m0 51 0 m0 50 = _
    rw [zu_j _ _ _ _ _ (by decide), zu_s, nB]
    exact (w6 3 (by decide)).symm
  have f51 : (t.1 m0 51).toInt = 0 := by
    rw [fld 51 (by decide), hy]
    show (zu (zu (zcf σ2.1 (mR σ2 m0 49) (mR σ2 m0 48) 0 0 0 50) m0 50 (σ2.1 (mR σ2 m0 29) (σ2.1 m0 18).toNatClampNeg)) m0 51 0 m0 51).toInt = _
    rw [zu_s]
    decide
  have S' : zSd q (mR σ2 m0) m0 B N' gl u l w t' := S.fr zFr.id (zVw.up gf.sy)
  refine ⟨td', B, N', gl, u, l, q, mR σ2 m0, w, t, ⟨hq0, rfl, hw0, ht0⟩, d1, n2, S, fun i hi => W0 i (by omega) (by omega), m4, So, f50, f51, fun Dn p hp => ?_⟩
  have Dn' : zDn q (mR σ2 m0) N' w t' := Dn.up2 hY' gf.sy
  have FL := (S'.fall Dn' (m := 0) (by decide) zFr.id zFr.id).2.2.1
  have := FL p hp
  rw [← tE] at this
  exact this

/-- and all of what goes by, where the course is now's -/
theorem zSd.of (hG : zGd Q) (hQ : ∀ N c r, Q N c r → zQw N c r) (h : zRL Q L1 kd1 x0 m0 V ps pc sl rv sh cd σ1 σ2) (hw : 0 < zM m0 σ2 → zLw x0 m0 σ1 σ2) (hl : zLen x0 m0 σ1 σ2) (hx : zT L1 kd1 x0 10) (hI : zI κ 0 L1 kd1 σ1) (hJ : zJ κ L2 kd2 σ2) (hm : zT L2 kd2 m0 11) (hg : gN m0 σ2) (gr : ∀ a j, ¬ (a = rv ∧ (j = 5 ∨ j = 6)) → s0.2.2 a j = σ1.2.2 a j) (he : ∀ c kc, zT L1 kd1 c kc → (kc = 9 ∨ (46 ≤ kc ∧ kc ≤ 51)) → s0.1 c = σ1.1 c) (hk : k < 45) (hc : zcc V s0.1 k = zcc V σ1.1 0) : ∃ (td B N : Nat) (gl : zGl) (u l : Nat → Nat), σ1.2.2 x0 10 = some td ∧ zM m0 σ2 = N ∧ (F_X5_form rv td (V.1 k) s0).1 td = s0.1 td ∧ zMb (qOf σ1.2.2 rv sh cd td V k) (mR σ2 m0) m0 B N gl u l (σ1.1 td 13) (F_X5_form rv td (V.1 k) s0) (F_X11_copies m0 σ2) (F_X5_form rv td (V.1 k) s0) (F_X11_copies m0 σ2) := by
  have hcI : ∀ p, p < 12 → s0.1 (V.2.1 k) p = σ1.1 (V.2.1 0) p := fun p hp => by
    have e := congrArg (fun c : zCo => c.1 p) hc
    have e1 : (zcc V s0.1 k).1 p = s0.1 (V.2.1 k) p := if_pos hp
    have e2 : (zcc V σ1.1 0).1 p = σ1.1 (V.2.1 0) p := if_pos hp
    rw [← e1, ← e2]
    exact e
  have hcD : s0.1 (V.1 k) 3 = σ1.1 (V.1 0) 3 := congrArg (fun c : zCo => c.2.2.2.1) hc
  obtain ⟨td, B, N, gl, u, l, q, Y, w, t, ⟨hq0, hY0, hw0, ht0⟩, d1, n2, S, W, m4, So, f50, f51, FL⟩ := zSd.of0 hG hQ h hw hl hx hI hJ hm hg gr he hk hcI hcD
  obtain ⟨-, -, N', n, uu, ⟨-, a2, a3, -⟩, hq, -⟩ := id h
  obtain rfl : N' = N := by omega
  have Qk : zQw N' (zcc V s0.1 k) (rC σ2.1 (mR σ2 m0 48) 0) := by rw [hc]; exact hQ _ _ _ hq
  have z23 : ∀ p, p < 12 → (zcc V s0.1 k).2.1 p = s0.1 (V.2.2.1 k) p := fun p hp => if_pos hp
  have z24 : ∀ p, p < 12 → (zcc V s0.1 k).2.2.1 p = s0.1 (V.2.2.2 k) p := fun p hp => if_pos hp
  have rc : ∀ j, j < 50 → rC σ2.1 (mR σ2 m0 48) 0 j = σ2.1 (mR σ2 m0 48) j := fun j hj => by rw [rC_i hj, Nat.zero_add]
  have e4 : q 4 = V.1 k := by rw [hq0]; rfl
  have e20 : q 20 = V.2.2.1 k := by rw [hq0]; rfl
  have e21 : q 21 = V.2.2.2 k := by rw [hq0]; rfl
  have Dn : zDn q Y N' w t := by
    have gn := hg.2
    have g49 : zp m0 σ2 48 49 = (σ2.1 (mR σ2 m0 48) 49).toInt := rfl
    have x4 : w.1 (q 4) 4 = σ2.1 (mR σ2 m0 48) 48 := by rw [W 4 (by omega), e4, ← rc 48 (by decide)]; exact Qk.1.2.2.1
    have x5 : w.1 (q 4) 5 = σ2.1 (mR σ2 m0 48) 49 := by rw [W 4 (by omega), e4, ← rc 49 (by decide)]; exact Qk.1.2.2.2
    refine ⟨fun p hp => ?_, by rw [x4, m4 48 (by decide)], by rw [x5, m4 49 (by decide)], by rw [x5]; omega, by rw [x5]; omega⟩
    obtain ⟨y1, y2, y3, y4⟩ := Qk.2.1 p hp
    rw [z23 p (by omega)] at y1 y3 y4
    rw [z24 p (by omega)] at y2
    rw [rc _ (by omega)] at y1 y2
    rw [W 20 (by omega), W 21 (by omega), e20, e21, m4 _ (by omega), m4 _ (by omega)]
    exact ⟨y1, y2, y3, y4⟩
  have e3 : q 3 = td := by rw [hq0]; rfl
  refine ⟨td, B, N', gl, u, l, d1, n2, ?_, ?_⟩
  · have := W 3 (by omega)
    rw [e3] at this
    rw [← hw0]
    exact this
  rw [← hw0, ← ht0, ← hq0, ← hY0]
  exact ⟨S, Dn, So, f51, f50, zFr.id, zFr.id, ⟨rfl, rfl⟩, FL Dn⟩
end STANDS
end
-- 35y06.lw39
section
/-! ANSWERS OF NOW: claim, winner, behind -/
/-- both look at now -/
def zNw (q Y : Nat → Nat) (a b N : Nat) (g : zGl) (u l : Nat → Nat) (s t : zS) : Prop := zSd q Y a b N g u l s t ∧ zDn q Y N s t ∧ (∀ p, p < N → s.1 (q 6) p = t.1 (Y 55) p ∧ 0 ≤ (s.1 (q 6) p).toInt) ∧ ∀ p, p < N → s.1 (q 5) p = rCl q s g 0 p
section NOW0
variable {q Y : Nat → Nat} {a b N : Nat} {s1 s2 w t : zS} {g : zGl} {v : Int32} {u l : Nat → Nat}
theorem zMb.look (M : zMb q Y a b N g u l v s1 s2 w t) : zNw q Y a b N g u l (F_X5_fall (q 0) 0 w) t := by
  obtain ⟨S, Dn, -, -, -, -, -, -, FL⟩ := M
  have L := S.fall Dn (m := 0) (by decide) zFr.id zFr.id
  refine ⟨S.fr (zRw.up L.1) zFr.id, Dn.up1 S.1.1 L.1, fun p hp => ⟨FL p hp, L.2.2.2.2 p hp⟩, fun p hp => ?_⟩
  rw [L.2.2.2.1 p hp]
  unfold rCl vCl
  rw [show fCt q (F_X5_fall (q 0) 0 w) (pI p) 0 = fCt q w (pI p) 0 from fCt.cg (fun i hi => zRw.r S.1.1 L.1 (by omega) (by omega))]
end NOW0
section WN2
variable {S : Nat → Bool} {C : Nat → Int32} {but : Int}
theorem wn_0 : ∀ i p, p < i → S p = true → (p : Int) ≠ but → 0 ≤ wn S C but i := by
  intro i
  induction i with
  | zero => intro p h; exact absurd h (by omega)
  | succ i ih =>
    intro p hp h1 h2
    by_cases c : S i = true ∧ (i : Int) ≠ but ∧ (wn S C but i < 0 ∨ (C (wn S C but i).toNat).toInt < (C i).toInt)
    · rw [wn_y c.1 c.2.1 c.2.2]
      omega
    · rw [wn_n c]
      by_cases e : p = i
      · subst e
        apply Classical.byContradiction
        intro z
        exact c ⟨h1, h2, Or.inl (by omega)⟩
      · exact ih p (by omega) h1 h2
end WN2
section NOW
variable {κ : Int} {L1 : List Nat} {kd1 : Nat → Nat} {L2 : List Nat} {kd2 : Nat → Nat} {σ1 σ2 τ1 τ2 s t : zS} {m0 x0 : Nat} {V : zWh} {ps pc sl rv sh cd B N : Nat} {q Y : Nat → Nat} {gl : zGl} {u l : Nat → Nat} {v1 v2 p k : Int32}
theorem zRL.now (h : zRL zQw L1 kd1 x0 m0 V ps pc sl rv sh cd σ1 σ2) (hw : 0 < zM m0 σ2 → zLw x0 m0 σ1 σ2) (hl : zLen x0 m0 σ1 σ2) (hx : zT L1 kd1 x0 10) (hI : zI κ 0 L1 kd1 σ1) (hJ : zJ κ L2 kd2 σ2) (hm : zT L2 kd2 m0 11) (hg : gN m0 σ2) : ∃ (td B N : Nat) (gl : zGl) (u l : Nat → Nat) (q Y : Nat → Nat), σ1.2.2 x0 10 = some td ∧ zM m0 σ2 = N ∧ F_X5_look rv td (V.1 0) σ1 = F_X10_look x0 σ1 ∧ (∀ j, (F_X10_look x0 σ1).2.2 x0 j = σ1.2.2 x0 j) ∧ (q = qOf σ1.2.2 rv sh cd td V 0 ∧ Y = mR σ2 m0) ∧ zNw q Y m0 B N gl u l (F_X10_look x0 σ1) (F_X11_copies m0 σ2) ∧ (0 < N → zSo q Y B (F_X10_look x0 σ1) (F_X11_copies m0 σ2)) ∧ (0 < N → (F_X11_copies m0 σ2).1 m0 50 = σ1.1 td 13) := by
  obtain ⟨td, B, N, gl, u, l, d1, n2, -, M⟩ := zSd.of zGd.q1 (fun _ _ _ h => h) h hw hl hx hI hJ hm hg (s0 := σ1) (fun _ _ _ => rfl) (fun _ _ _ _ => rfl) (k := 0) (by decide) rfl
  have hL := h.1
  have hV := h.2.1
  have g10 : (σ1.2.2 x0 10).getD 0 = td := by rw [d1]; rfl
  have e1 : F_X5_look rv td (V.1 0) σ1 = F_X10_look x0 σ1 := by
    unfold F_X10_look
    simp only [zlt, xrv hV, g10, xnw hL]
  have e2 : F_X10_look x0 σ1 = F_X5_fall rv 0 (F_X5_form rv td (V.1 0) σ1) := by
    rw [← e1]
    unfold F_X5_look
    simp only [zlt]
  have pv := zLookN hL hV
  have LK := M.look
  have f0 : zFr (zRw (qOf σ1.2.2 rv sh cd td V 0)) (F_X5_form rv td (V.1 0) σ1) (F_X5_fall (qOf σ1.2.2 rv sh cd td V 0 0) 0 (F_X5_form rv td (V.1 0) σ1)) := (M.1.fall M.2.1 (m := 0) (by decide) zFr.id zFr.id).1
  have So := fun hN : 0 < N => (M.2.2.1 hN).fr M.1.1.1 M.1.2.1.1 (zRw.up f0) zFr.id
  refine ⟨td, B, N, gl, u, l, _, _, d1, n2, e1, fun j => pv.1 x0 j (fun z => zNk hx hV.2.1.2.1 (by decide) z.1), ⟨rfl, rfl⟩, ?_, ?_, M.2.2.2.2.1⟩
  · rw [e2]; exact LK
  · intro hN
    rw [e2]; exact So hN
/-- who can claim by which law -/
theorem cCt (hV : zRv L1 kd1 x0 rv sh cd σ1.2.2) (hL : zLay L1 kd1 x0 σ1.2.2 V ps pc sl) {td : Nat} (d1 : σ1.2.2 x0 10 = some td) (eL : F_X5_look rv td (V.1 0) σ1 = F_X10_look x0 σ1) (xr : ∀ j, (F_X10_look x0 σ1).2.2 x0 j = σ1.2.2 x0 j) (q1 : q 1 = sh) (S : zSd q Y m0 B N gl u l (F_X10_look x0 σ1) t) : ∃ v, F_X10_isContest x0 p k σ1 = (v, F_X10_look x0 σ1) ∧ (v.toInt = 0 ↔ ¬ ((0 ≤ k.toInt ∧ k.toInt ≤ 2) ∧ 0 ≤ p.toInt ∧ Src N u p.toInt.toNat)) := by
  have e0 : (0 : Int32).toInt = 0 := by decide
  have e2 : (2 : Int32).toInt = 2 := by decide
  have e1 : ¬ (1 : Int32).toInt = 0 := by decide
  have g10 : (σ1.2.2 x0 10).getD 0 = td := by rw [d1]; rfl
  have g3 : (σ1.2.2 x0 3).getD 0 = sh := by rw [hV.1.2.1]; rfl
  have a8 := S.1.2.2.2.2.2.2.2 p
  have a9 := cIsR (x := p) S.1.1 (zFr.id (σ := F_X10_look x0 σ1))
  rw [q1] at a8 a9
  unfold F_X10_isContest
  simp only [zlt, zlt2, xrv hV, g10, xnw hL, eL, cLaw, cWithin, e0, e2, xr, g3]
  clear xr eL S
  obtain ⟨s, hs⟩ : ∃ s, s = F_X10_look x0 σ1 := ⟨_, rfl⟩
  rw [← hs] at a8 a9 ⊢
  by_cases c : 0 ≤ k.toInt ∧ k.toInt ≤ 2
  · rw [if_neg (fun z => z c)]
    by_cases d : (F_X6_isSource sh p s).1.toInt = 0
    · rw [if_pos d, a9]
      exact ⟨0, rfl, fun _ z => (a8.mp d) z.2, fun _ => e0⟩
    · rw [if_neg d, a9]
      refine ⟨1, rfl, fun z => absurd z e1, fun z => absurd ?_ z⟩
      refine ⟨c, ?_⟩
      apply Classical.byContradiction
      intro y
      exact d (a8.mpr y)
  · rw [if_pos c]
    exact ⟨0, rfl, fun _ z => c z.1, fun _ => e0⟩
theorem mCt (S : zSd q Y m0 B N gl u l s (F_X11_copies m0 σ2)) : ∃ v, F_X11_isClaim m0 p k σ2 = (v, F_X11_copies m0 σ2) ∧ (v.toInt = 0 ↔ ¬ ((0 ≤ k.toInt ∧ k.toInt ≤ 2) ∧ 0 ≤ p.toInt ∧ Src N u p.toInt.toNat)) := by
  have e0 : (0 : Int32).toInt = 0 := by decide
  have e2 : (2 : Int32).toInt = 2 := by decide
  have e1 : ¬ (1 : Int32).toInt = 0 := by decide
  have b8 := S.2.1.2.2.2.2.2.2.2 p
  unfold F_X11_isClaim
  simp only [zlt, mLaw, mIn, e0, e2]
  by_cases d : (F_X11_isSource m0 p (F_X11_copies m0 σ2)).toInt = 0
  · rw [if_pos d]
    exact ⟨0, rfl, fun _ z => (b8.mp d) z.2, fun _ => e0⟩
  · rw [if_neg d]
    have y : 0 ≤ p.toInt ∧ Src N u p.toInt.toNat := by
      apply Classical.byContradiction
      intro y
      exact d (b8.mpr y)
    by_cases c : 0 ≤ k.toInt ∧ k.toInt ≤ 2
    · rw [if_neg (fun z => z c)]
      exact ⟨1, rfl, fun z => absurd z e1, fun z => absurd ⟨c, y⟩ z⟩
    · rw [if_pos c]
      exact ⟨0, rfl, fun _ z => c z.1, fun _ => e0⟩
theorem zRL.claim (h : zRL zQw L1 kd1 x0 m0 V ps pc sl rv sh cd σ1 σ2) (hw : 0 < zM m0 σ2 → zLw x0 m0 σ1 σ2) (hl : zLen x0 m0 σ1 σ2) (hx : zT L1 kd1 x0 10) (hI : zI κ 0 L1 kd1 σ1) (hJ : zJ κ L2 kd2 σ2) (hm : zT L2 kd2 m0 11) (hg : gN m0 σ2) (f1 : (v1, τ1) = F_X10_claim x0 p k σ1) (f2 : (v2, τ2) = F_X11_claim m0 p k σ2) : v1.toInt = v2.toInt := by
  obtain ⟨td, B, N, gl, u, l, q, Y, d1, n2, eL, xr, ⟨hq, hY⟩, ⟨S, Dn, FL, RN⟩, -, -⟩ := h.now hw hl hx hI hJ hm hg
  have q0 : q 0 = rv := by rw [hq]; rfl
  have q1 : q 1 = sh := by rw [hq]; rfl
  have E := S.eq Dn
  obtain ⟨w1, e1, i1⟩ := cCt (p := p) (k := k) h.2.1 h.1 d1 eL xr q1 S
  obtain ⟨w2, e2, i2⟩ := mCt (p := p) (k := k) S
  unfold F_X10_claim at f1
  unfold F_X11_claim at f2
  simp only [zlt, zlt2, e1, e2, xr, xrv h.2.1] at f1 f2
  by_cases c : (0 ≤ k.toInt ∧ k.toInt ≤ 2) ∧ 0 ≤ p.toInt ∧ Src N u p.toInt.toNat
  · rw [if_neg (fun z => i1.mp z c)] at f1
    rw [if_neg (fun z => i2.mp z c)] at f2
    obtain ⟨⟨k1, k2⟩, p1, sp⟩ := c
    have hp : p.toInt = (p.toInt.toNat : Nat) := by omega
    have hk : k.toInt = (k.toInt.toNat : Nat) := by omega
    obtain ⟨x, x1, -⟩ := cClaim S.1.1 (S.1.2.1 (by have := sp.2.1; omega)) zFr.id hk (by omega) hp
    obtain ⟨y, y1, -⟩ := mClaimW S.2.1.1 S.2.1.2.1 S.2.1.2.2.1 (S.2.1.2.2.2.1 (by have := sp.2.1; omega)) zFr.id hk (by omega) hp (by have := sp.2.1; have := S.1.2.2.2.1; omega)
    rw [q0] at x1
    rw [x1] at f1
    rw [y1] at f2
    rw [(zPr2 f1).1, (zPr2 f2).1, clEq E sp.2.1, (FL _ sp.2.1).1]
  · rw [if_pos (i1.mpr c)] at f1
    rw [if_pos (i2.mpr c)] at f2
    rw [(zPr2 f1).1, (zPr2 f2).1]
theorem zRL.winner (h : zRL zQw L1 kd1 x0 m0 V ps pc sl rv sh cd σ1 σ2) (hw : 0 < zM m0 σ2 → zLw x0 m0 σ1 σ2) (hl : zLen x0 m0 σ1 σ2) (hx : zT L1 kd1 x0 10) (hI : zI κ 0 L1 kd1 σ1) (hJ : zJ κ L2 kd2 σ2) (hm : zT L2 kd2 m0 11) (hg : gN m0 σ2) (f1 : (v1, τ1) = F_X10_winner x0 k σ1) (f2 : (v2, τ2) = F_X11_winner m0 k σ2) : v1.toInt = v2.toInt := by
  obtain ⟨td, B, N, gl, u, l, q, Y, d1, n2, eL, xr, ⟨hq, hY⟩, ⟨S, Dn, FL, RN⟩, -, -⟩ := h.now hw hl hx hI hJ hm hg
  have e0 : (0 : Int32).toInt = 0 := by decide
  have e2 : (2 : Int32).toInt = 2 := by decide
  have q0 : q 0 = rv := by rw [hq]; rfl
  have E := S.eq Dn
  unfold F_X10_winner at f1
  unfold F_X11_winner at f2
  simp only [zlt, zlt2, cLaw, mLaw, cWithin, mIn, e0, e2, xr, xrv h.2.1] at f1 f2
  by_cases c : 0 ≤ k.toInt ∧ k.toInt ≤ 2
  · rw [if_neg (fun z => z c)] at f1 f2
    have hk : k.toInt = (k.toInt.toNat : Nat) := by omega
    obtain ⟨x, s', x1, x2, -⟩ := cWin S.1.1 S.1.2.1 S.1.2.2.1 S.1.2.2.2.1 S.1.2.2.2.2.2.2.2 hk (by omega) zFr.id (fun p _ => rfl)
    obtain ⟨y, t', y1, y2, -⟩ := mWin S.2.1.1 S.2.1.2.1 S.2.1.2.2.1 S.2.1.2.2.2.1 S.2.1.2.2.2.2.1 S.1.2.2.2.1 S.2.1.2.2.2.2.2.2.2 hk (by omega) zFr.id (fun p _ => rfl)
    rw [q0] at x1
    rw [x1] at f1
    rw [y1] at f2
    rw [(zPr2 f1).1, (zPr2 f2).1]
    show x.toInt = y.toInt
    rw [x2, y2]
    exact wnEq E (fun p hp => (FL p hp).1)
  · rw [if_pos c] at f1 f2
    rw [(zPr2 f1).1, (zPr2 f2).1]
theorem zRL.behind (h : zRL zQw L1 kd1 x0 m0 V ps pc sl rv sh cd σ1 σ2) (hw : 0 < zM m0 σ2 → zLw x0 m0 σ1 σ2) (hl : zLen x0 m0 σ1 σ2) (hx : zT L1 kd1 x0 10) (hI : zI κ 0 L1 kd1 σ1) (hJ : zJ κ L2 kd2 σ2) (hm : zT L2 kd2 m0 11) (hg : gN m0 σ2) (f1 : (v1, τ1) = F_X10_behind x0 p k σ1) (f2 : (v2, τ2) = F_X11_behind m0 p k σ2) : v1.toInt = v2.toInt := by
  obtain ⟨td, B, N, gl, u, l, q, Y, d1, n2, eL, xr, ⟨hq, hY⟩, ⟨S, Dn, FL, RN⟩, -, -⟩ := h.now hw hl hx hI hJ hm hg
  have q0 : q 0 = rv := by rw [hq]; rfl
  have q1 : q 1 = sh := by rw [hq]; rfl
  have E := S.eq Dn
  obtain ⟨w1, e1, i1⟩ := cCt (p := p) (k := k) h.2.1 h.1 d1 eL xr q1 S
  obtain ⟨w2, e2, i2⟩ := mCt (p := p) (k := k) S
  unfold F_X10_behind at f1
  unfold F_X11_behind at f2
  simp only [zlt, zlt2, e1, e2, xr, xrv h.2.1] at f1 f2
  by_cases c : (0 ≤ k.toInt ∧ k.toInt ≤ 2) ∧ 0 ≤ p.toInt ∧ Src N u p.toInt.toNat
  · rw [if_neg (fun z => i1.mp z c)] at f1
    rw [if_neg (fun z => i2.mp z c)] at f2
    obtain ⟨⟨k1, k2⟩, p1, sp⟩ := c
    obtain ⟨P, hp⟩ : ∃ P : Nat, p.toInt = P := ⟨p.toInt.toNat, by omega⟩
    obtain ⟨w, hk⟩ : ∃ w : Nat, k.toInt = w := ⟨k.toInt.toNat, by omega⟩
    rw [show p.toInt.toNat = P by omega] at sp
    have hN := S.1.2.2.2.1
    have nP : p.toNatClampNeg = P := by rw [ztn, hp]; rfl
    obtain ⟨x, s', x1, x2, x3, x4, x5⟩ := cWin S.1.1 S.1.2.1 S.1.2.2.1 hN S.1.2.2.2.2.2.2.2 hk (by omega) zFr.id (fun p _ => rfl)
    obtain ⟨y, t', y1, y2, y3, y4⟩ := mWin S.2.1.1 S.2.1.2.1 S.2.1.2.2.1 S.2.1.2.2.2.1 S.2.1.2.2.2.2.1 hN S.2.1.2.2.2.2.2.2.2 hk (by omega) zFr.id (fun p _ => rfl)
    have xy : x.toInt = y.toInt := by
      rw [x2, y2]
      exact wnEq E (fun p hp => (FL p hp).1)
    have w0 : 0 ≤ x.toInt := by
      rw [x2]
      exact wn_0 N P sp.2.1 (sB_t.mpr sp) (by omega)
    obtain ⟨W, W1, W2, W3, -⟩ := (wn_r (S := sB N u) (C := fun p => clC q (F_X10_look x0 σ1) gl w p ((F_X10_look x0 σ1).1 (q 6) p)) (but := -1) N).resolve_left (by omega)
    have hW : x.toInt = W := by omega
    have sW := sB_t.mp W3
    have nW : x.toNatClampNeg = W := by rw [ztn, hW]; rfl
    obtain ⟨a, a1, a2⟩ := mClaimW (p := y) S.2.1.1 S.2.1.2.1 S.2.1.2.2.1 (S.2.1.2.2.2.1 (by omega)) y3 hk (by omega) (xy.symm.trans hW) (by omega)
    obtain ⟨a', a1', a2'⟩ := mClaimW (p := p) S.2.1.1 S.2.1.2.1 S.2.1.2.2.1 (S.2.1.2.2.2.1 (by omega)) (y3.tr (zUw.up a2)) hk (by omega) hp (by have := sp.2.1; omega)
    have r55 : t'.1 (Y 55) = (F_X11_copies m0 σ2).1 (Y 55) := zUw.r55 S.2.1.1 y4
    have a55 : a.1 (Y 55) = (F_X11_copies m0 σ2).1 (Y 55) := (zUw.r55 S.2.1.1 a2).trans r55
    rw [r55] at a1
    rw [a55] at a1'
    have g7 : (s'.2.2 rv 4).getD 0 = q 7 := by
      have := S.1.1.1.1.2.2.2.2.2.2
      rw [q0] at this
      rw [x3.rf]
      exact this
    have xs : ∀ j, s'.2.2 x0 j = σ1.2.2 x0 j := fun j => by rw [x3.rf]; exact xr j
    rw [q0] at x1
    rw [x1] at f1
    rw [y1] at f2
    simp only [a1, a1', xs, xrv h.2.1, g7, nW, nP] at f1 f2
    rw [if_neg (by omega)] at f1
    rw [(zPr2 f1).1, (zPr2 f2).1, x5 W sW.1 sW.2.1 sW, x5 P sp.1 sp.2.1 sp, clEq E sW.2.1, clEq E sp.2.1, (FL W sW.2.1).1, (FL P sp.2.1).1]
  · rw [if_pos (i1.mpr c)] at f1
    rw [if_pos (i2.mpr c)] at f2
    rw [(zPr2 f1).1, (zPr2 f2).1]
end NOW
end
