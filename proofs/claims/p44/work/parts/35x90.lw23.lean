/-! BOTH READ, once more: a number token bears no sign -/
theorem zCT_n {b : Nat → Int32} {n a e : Nat} {W : Nat → Int64} {K Q : Int} {V : Int64} (h : zCT b n W a K V Q e) (hK : K = 23) : 0 ≤ V.toInt32.toInt := by
  obtain ⟨s, h1, h2, h3, h4⟩ := h
  rcases h4 with ⟨c1, c2, -⟩ | ⟨c1, c2, c3, c4, c5⟩ | ⟨c1, c2, c3, c5⟩ | ⟨c1, c2, c3, c4, c5⟩
  · omega
  · rcases c5 with ⟨c6, c7⟩ | ⟨c6, c7⟩
    · omega
    · rcases c7 with ⟨x1, -⟩ | ⟨i, x1, x2, -⟩
      · omega
      · omega
  · rcases c5 with ⟨c6, c7⟩ | ⟨c6, c7, y, c8, c9⟩
    · omega
    · have hse := c3.1
      rw [c8, Int32.toInt32_toInt64, c9]
      exact (zdv_b (e - s) c6 (fun j hj => (c3.2.1 (s + j) (by omega) (by omega)).2)).1
  · have r : zsg (b s).toInt = 24 ∨ zsg (b s).toInt = 25 ∨ zsg (b s).toInt = 26 ∨ zsg (b s).toInt = 27 ∨ zsg (b s).toInt = 28 ∨ zsg (b s).toInt = 29 ∨ zsg (b s).toInt = 30 ∨ zsg (b s).toInt = 31 ∨ zsg (b s).toInt = 32 ∨ zsg (b s).toInt = 34 := by
      unfold zsg
      (repeat' split) <;> omega
    omega
section READ1
variable {κ k : Int} {L1 : List Nat} {kd1 : Nat → Nat} {L2 : List Nat} {kd2 : Nat → Nat} {σ1 σ2 τ1 τ2 : zS} {m0 x0 : Nat}
set_option maxHeartbeats 1000000 in
theorem zRead1N (h : zSAM κ L1 kd1 L2 kd2 σ1 σ2) (hI1 : zI κ 0 L1 kd1 σ1) (hI2 : zJ κ L2 kd2 σ2) (hx0 : zT L1 kd1 x0 10) (hm0 : zT L2 kd2 m0 11) : ∃ (T : zTn) (m P tk kA vA qA tt N k q v nm nO x p1 : Nat) (p2 : Int32) (C0 D0 S0 : zS) (y : Int32) (K : Int32 → zS → Int32 × zS),
    (zVd P tk kA vA qA N ∧ zWd m0 k q v nm nO ∧ zTm T m ∧ zTK T m) ∧ (zV P tk kA vA qA tt N m T C0 aZ ∧ zXo m0 k q v nm nO m T (zRi m0 D0) aZ) ∧ (zPs x0 σ1 = F_X3_parse_59 P p1 p2 tt 10000 0 C0 ∧ F_X11_read m0 σ2 = F_X11_read_117 y m0 K 10000 (zRi m0 D0)) ∧ (σ1.2.2 x0 1 = some P ∧ σ1.2.2 x0 11 = some tt ∧ zT L1 kd1 P 3 ∧ zT L1 kd1 tt 9) ∧ C0.2.2 = zu σ1.2.2 P 1 (some tt) ∧ (∀ c j, ¬ zAc L1 kd1 tt σ1.2.2 c j → C0.1 c j = σ1.1 c j) ∧ zFi (fun c _ => c = P) (F_X9_clear tt (S0.1, S0.2.1, zu σ1.2.2 P 1 (some tt))) C0 ∧ zFi (fun c j => (c = m0 ∧ (j = 2 ∨ j = 4 ∨ j = 10)) ∨ c = x ∨ c = k ∨ c = q ∨ c = v) σ2 D0 ∧ (zT L2 kd2 x 103 ∧ zT L2 kd2 k 105 ∧ zT L2 kd2 q 106 ∧ zT L2 kd2 v 107) ∧ zNn T m := by
  obtain ⟨t, t1, t2⟩ := zi_ref (j := 0) (k2 := 7) hI1 hx0 (by rfl)
  obtain ⟨P, P1, P2⟩ := zi_ref (j := 1) (k2 := 3) hI1 hx0 (by rfl)
  obtain ⟨tt, s1, s2⟩ := zi_ref (j := 11) (k2 := 9) hI1 hx0 (by rfl)
  obtain ⟨bt, b1, b2⟩ := zj_ref (j := 1) (k2 := 101) hI2 hm0 (by rfl)
  obtain ⟨p1, u1, u2, u3⟩ := h.1 t bt t2 b2
  obtain ⟨tk, l0, k2⟩ := zi_ref (j := 0) (k2 := 8) hI1 P2 (by rfl)
  obtain ⟨w, w1, w2⟩ := zi_ref (j := 0) (k2 := 40) hI1 k2 (by rfl)
  obtain ⟨kA, ka1, ka2⟩ := zi_ref (j := 1) (k2 := 41) hI1 k2 (by rfl)
  obtain ⟨vA, va1, va2⟩ := zi_ref (j := 2) (k2 := 42) hI1 k2 (by rfl)
  obtain ⟨qA, qa1, qa2⟩ := zi_ref (j := 3) (k2 := 43) hI1 k2 (by rfl)
  obtain ⟨N, n1, n2⟩ := zi_ref (j := 1) (k2 := 44) hI1 s2 (by rfl)
  have rt := zi_get (j := 1) hI1 t2 (lo := κ) (hi := κ) (by rfl)
  have rm := zj_get (j := 2) hI2 hm0 (lo := κ) (hi := κ) (by rfl)
  have hκ := hI1.2.2.1
  obtain ⟨n, hn⟩ : ∃ n : Nat, (n : Int) = κ := ⟨κ.toNat, by omega⟩
  obtain ⟨x, x1, x2⟩ := zj_ref (j := 3) (k2 := 103) hI2 hm0 (by rfl)
  obtain ⟨k, ck1, ck2⟩ := zj_ref (j := 5) (k2 := 105) hI2 hm0 (by rfl)
  obtain ⟨q, cq1, cq2⟩ := zj_ref (j := 6) (k2 := 106) hI2 hm0 (by rfl)
  obtain ⟨v, cv1, cv2⟩ := zj_ref (j := 7) (k2 := 107) hI2 hm0 (by rfl)
  obtain ⟨nm, cn1, cn2⟩ := zj_ref (j := 8) (k2 := 108) hI2 hm0 (by rfl)
  obtain ⟨ky, cy1, cy2⟩ := zj_ref (j := 9) (k2 := 109) hI2 hm0 (by rfl)
  obtain ⟨nO, co1, co2⟩ := zj_ref (j := 20) (k2 := 120) hI2 hm0 (by rfl)
  have gt : (σ1.2.2 x0 0).getD 0 = t := by rw [t1]; rfl
  have gP : (σ1.2.2 x0 1).getD 0 = P := by rw [P1]; rfl
  have gs : (σ1.2.2 x0 11).getD 0 = tt := by rw [s1]; rfl
  have gp : (σ1.2.2 t 0).getD 0 = p1 := by rw [u1]; rfl
  have arr : ∀ j, (j = 2 ∨ j = 3 ∨ j = 4 ∨ j = 5 ∨ j = 6 ∨ j = 7 ∨ j = 9) → ∃ k2, 45 ≤ k2 ∧ zT L1 kd1 ((σ1.2.2 tt j).getD 0) k2 := fun j hj => by
    rcases hj with z | z | z | z | z | z | z <;> subst z
    · obtain ⟨y, y1, y2⟩ := zi_ref (j := 2) hI1 s2 (by rfl)
      exact ⟨45, by decide, by rw [y1]; exact y2⟩
    · obtain ⟨y, y1, y2⟩ := zi_ref (j := 3) hI1 s2 (by rfl)
      exact ⟨46, by decide, by rw [y1]; exact y2⟩
    · obtain ⟨y, y1, y2⟩ := zi_ref (j := 4) hI1 s2 (by rfl)
      exact ⟨47, by decide, by rw [y1]; exact y2⟩
    · obtain ⟨y, y1, y2⟩ := zi_ref (j := 5) hI1 s2 (by rfl)
      exact ⟨48, by decide, by rw [y1]; exact y2⟩
    · obtain ⟨y, y1, y2⟩ := zi_ref (j := 6) hI1 s2 (by rfl)
      exact ⟨49, by decide, by rw [y1]; exact y2⟩
    · obtain ⟨y, y1, y2⟩ := zi_ref (j := 7) hI1 s2 (by rfl)
      exact ⟨50, by decide, by rw [y1]; exact y2⟩
    · obtain ⟨y, y1, y2⟩ := zi_ref (j := 9) hI1 s2 (by rfl)
      exact ⟨51, by decide, by rw [y1]; exact y2⟩
  have hd : zVd P tk kA vA qA N := ⟨zNe k2 P2 (by decide), zNe ka2 P2 (by decide), zNe qa2 P2 (by decide), zNe va2 P2 (by decide), zNe n2 P2 (by decide), zNe n2 va2 (by decide)⟩
  have hd' : zRd m0 k q v nm := ⟨zNe ck2 hm0 (by decide), zNe cq2 hm0 (by decide), zNe cv2 hm0 (by decide), zNe ck2 cq2 (by decide), zNe ck2 cv2 (by decide), zNe cq2 cv2 (by decide)⟩
  obtain ⟨m, E, c1, c2, c3, c4, cr, c5⟩ := vRead1 (w := w) (p2 := σ1.1 t 1) (n := n) (p1 := p1) (σ := σ1) hd (zNe ka2 k2 (by decide)) (zNe qa2 k2 (by decide)) (zNe ka2 qa2 (by decide)) ⟨zNe u2 k2 (by decide), zNe u2 ka2 (by decide), zNe u2 qa2 (by decide)⟩ (zNe w2 va2 (by decide)) (by omega) (by omega) ⟨w1, ka1, va1, qa1⟩ l0 n1 ⟨⟨zNe s2 P2 (by decide), zNe s2 k2 (by decide), zNe s2 ka2 (by decide), zNe s2 qa2 (by decide)⟩, fun j hj => by
    obtain ⟨k3, y1, y2⟩ := arr j hj
    exact ⟨zNe y2 P2 (by omega), zNe y2 k2 (by omega), zNe y2 ka2 (by omega), zNe y2 qa2 (by omega)⟩⟩ (fun j => zi_get (lo := -128) (hi := 127) hI1 u2 (by rfl))
  obtain ⟨τc, m', E', d1, d2, dF, d3, d4⟩ := wRead1 (n := n) (τ := σ2) hd' ⟨zNe x2 hm0 (by decide), zNe x2 ck2 (by decide), zNe x2 cq2 (by decide), zNe x2 cv2 (by decide)⟩ (zNe b2 x2 (by decide)) (zNe b2 hm0 (by decide)) (zNe cy2 cn2 (by decide)) (zNe cn2 co2 (by decide)) ⟨ck1, cq1, cv1, cn1, cy1⟩ x1 b1 co1 (by omega) (by omega) (fun j => zj_get (lo := -128) (hi := 127) hI2 x2 (by rfl)) (fun j => zj_get (lo := -128) (hi := 127) hI2 b2 (by rfl)) (fun j hj => by
    obtain ⟨f, f21⟩ := zQs_k hj
    obtain ⟨y, y1, y2⟩ := zj_ref (j := j) hI2 hm0 f
    rw [y1]
    exact ⟨zNe y2 hm0 (by omega), zNe y2 ck2 (by omega), zNe y2 cq2 (by omega), zNe y2 cv2 (by omega)⟩)
  have d2' := zRq_cg (b' := σ1.1 p1) (fun j hj => (u3 j (by omega)).symm) d2
  have z := zall (fun i hi => h.2.1 w w2 i hi) (fun i hi => h.2.2 ky cy2 i hi) c3 d2' c2 d3 c1 (by rcases d3 with y | y <;> omega)
  obtain ⟨hK, C0, v0, e, er, ef⟩ := c5 (fun j => τc.2.1 nm j)
  have hTm : zTm (zTo kA vA qA (F_X8_scan tk p1 (σ1.1 t 1) σ1) (fun j => τc.2.1 nm j)) m := by
    refine ⟨fun j hj => zmono c3 j hj, fun j hj => ?_, fun j hj h22 => ?_⟩
    · obtain ⟨-, -, -, -, t1, t2, -, -⟩ := z j hj
      exact ⟨t1, t2⟩
    · obtain ⟨-, -, -, -, t1, t2, t3, -⟩ := z j hj
      exact t3 h22
  obtain ⟨y, K, w0, e2⟩ := d4 _ m hTm hK (fun j hj => by
    obtain ⟨-, -, t1, t2, -, -, -, t4⟩ := z j hj
    exact ⟨t2, t1.symm, fun y => (t4 y).symm, rfl⟩)
  rw [cr] at ef
  refine ⟨_, m, P, tk, kA, vA, qA, tt, N, k, q, v, nm, nO, x, p1, σ1.1 t 1, C0, τc, F_X8_scan tk p1 (σ1.1 t 1) σ1, y, K, ⟨hd, ⟨hd'.1, hd'.2.1, hd'.2.2.1, zNe cn2 co2 (by decide)⟩, hTm, hK⟩, ⟨v0, w0⟩, ⟨?_, e2⟩, ⟨P1, s1, P2, s2⟩, er, fun c j hc => ?_, ef, dF, ⟨x2, ck2, cq2, cv2⟩, fun j hj h23 => zCT_n (c3.2.1 j hj).1 h23⟩
  · unfold zPs
    rw [gt, gP, gs, gp]
    exact e
  · have nP : c ≠ P := fun z => hc (Or.inl ⟨by rw [z]; exact P2.1, by rw [z, P2.2]; exact Or.inl rfl⟩)
    have ntk : c ≠ tk := fun z => hc (Or.inl ⟨by rw [z]; exact k2.1, by rw [z, k2.2]; exact Or.inr (Or.inl rfl)⟩)
    have nkA : c ≠ kA := fun z => hc (Or.inl ⟨by rw [z]; exact ka2.1, by rw [z, ka2.2]; exact Or.inr (Or.inr (Or.inl rfl))⟩)
    have nqA : c ≠ qA := fun z => hc (Or.inl ⟨by rw [z]; exact qa2.1, by rw [z, qa2.2]; exact Or.inr (Or.inr (Or.inr rfl))⟩)
    have ntt : c ≠ tt := fun z => hc (Or.inr (Or.inl z))
    have na : ∀ i, 2 ≤ i → i ≤ 9 → i ≠ 8 → c ≠ (σ1.2.2 tt i).getD 0 := fun i i1 i2 i3 z => hc (Or.inr (Or.inr ⟨i, i1, i2, i3, z⟩))
    rw [ef.2 c j nP]
    have gk : (σ1.2.2 tk 1).getD 0 = kA := by rw [ka1]; rfl
    have gq : (σ1.2.2 tk 3).getD 0 = qA := by rw [qa1]; rfl
    have nt : ∀ i, (zu σ1.2.2 P 1 (some tt) tt i) = σ1.2.2 tt i := fun i => by rw [zu_n _ _ _ (zNe s2 P2 (by decide))]
    have fs : zFi (fun c' _ => c' = tk ∨ c' = kA ∨ c' = qA) σ1 (F_X8_scan tk p1 (σ1.1 t 1) σ1) := fi_X8_scan zFi.id (Or.inl rfl) (fun _ => Or.inr (Or.inl gk)) (fun _ => Or.inr (Or.inr gq))
    have fc : zFi (fun c' _ => c' = tt ∨ ∃ i, 2 ≤ i ∧ i ≤ 9 ∧ i ≠ 8 ∧ c' = (σ1.2.2 tt i).getD 0) ((F_X8_scan tk p1 (σ1.1 t 1) σ1).1, (F_X8_scan tk p1 (σ1.1 t 1) σ1).2.1, zu σ1.2.2 P 1 (some tt)) (F_X9_clear tt ((F_X8_scan tk p1 (σ1.1 t 1) σ1).1, (F_X8_scan tk p1 (σ1.1 t 1) σ1).2.1, zu σ1.2.2 P 1 (some tt))) := fi_X9_clear zFi.id (Or.inl rfl) (Or.inl rfl) (fun _ => Or.inr ⟨9, by decide, by decide, by decide, by show (zu σ1.2.2 P 1 (some tt) tt 9).getD 0 = _; rw [nt]⟩) (fun _ => Or.inr ⟨6, by decide, by decide, by decide, by show (zu σ1.2.2 P 1 (some tt) tt 6).getD 0 = _; rw [nt]⟩) (fun _ => Or.inr ⟨7, by decide, by decide, by decide, by show (zu σ1.2.2 P 1 (some tt) tt 7).getD 0 = _; rw [nt]⟩) (Or.inl rfl) (Or.inl rfl) (Or.inl rfl) (Or.inl rfl)
    rw [fc.2 c j (by
      rintro (z | ⟨i, i1, i2, i3, z⟩)
      · exact ntt z
      · exact na i i1 i2 i3 z)]
    exact fs.2 c j (by
      rintro (z | z | z)
      · exact ntk z
      · exact nkA z
      · exact nqA z)
end READ1
