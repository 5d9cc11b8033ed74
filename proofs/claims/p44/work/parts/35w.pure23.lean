/-! THE PLACE OF THE FAULT -/
theorem zPs_r {x0 : Nat} {σ : zS} : (zPs x0 σ).2.2.2 = zu σ.2.2 ((σ.2.2 x0 1).getD 0) 1 (some ((σ.2.2 x0 11).getD 0)) := by
  unfold zPs F_X3_parse
  simp only [zlt]
  refine rf_X3_parse_59 10000 0 _ (rf_X3_goTo ?_)
  show (F_X9_clear _ _).2.2 = _
  refine rf_X9_clear ?_
  show zu (F_X8_scan _ _ _ σ).2.2 _ 1 _ = _
  rw [show (F_X8_scan ((σ.2.2 ((σ.2.2 x0 1).getD 0) 0).getD 0) ((σ.2.2 ((σ.2.2 x0 0).getD 0) 0).getD 0) (σ.1 ((σ.2.2 x0 0).getD 0) 1) σ).2.2 = σ.2.2 from rf_X8_scan rfl]
section ZSBM
variable {κ k : Int} {L1 : List Nat} {kd1 : Nat → Nat} {L2 : List Nat} {kd2 : Nat → Nat} {σ1 σ2 τ1 τ2 : zS} {Wk Wr Wf Wa : List Nat} {m0 x0 : Nat}
theorem zR13 (hI1 : zI κ 0 L1 kd1 σ1) (hx0 : zT L1 kd1 x0 10) : (F_X10_read x0 σ1).2.1 x0 13 = (zPs x0 σ1).2.1 ((σ1.2.2 x0 1).getD 0) 9 := by
  obtain ⟨t, t1, t2⟩ := zi_ref (j := 0) (k2 := 7) hI1 hx0 (by rfl)
  obtain ⟨P, P1, P2⟩ := zi_ref (j := 1) (k2 := 3) hI1 hx0 (by rfl)
  obtain ⟨tt, s1, s2⟩ := zi_ref (j := 11) (k2 := 9) hI1 hx0 (by rfl)
  obtain ⟨td, d1, d2⟩ := zi_ref (j := 10) (k2 := 9) hI1 hx0 (by rfl)
  obtain ⟨nw, n1, n2⟩ := zi_ref (j := 6) (k2 := 1) hI1 hx0 (by rfl)
  obtain ⟨ps, p1, p2⟩ := zi_ref (j := 4) (k2 := 4) hI1 hx0 (by rfl)
  obtain ⟨dy, y1, y2⟩ := zi_ref (j := 5) (k2 := 2) hI1 hx0 (by rfl)
  obtain ⟨nI, i1, i2⟩ := zi_ref (j := 0) (k2 := 22) hI1 n2 (by rfl)
  obtain ⟨nW, w1, w2⟩ := zi_ref (j := 1) (k2 := 23) hI1 n2 (by rfl)
  obtain ⟨nM, m1, m2⟩ := zi_ref (j := 2) (k2 := 24) hI1 n2 (by rfl)
  obtain ⟨r, hr⟩ : ∃ r, r = zPs x0 σ1 := ⟨_, rfl⟩
  have r2 : r.2.2.2 = zu σ1.2.2 P 1 (some tt) := by rw [hr, zPs_r, P1, s1]; rfl
  have xP : ¬ x0 = P := zNk hx0 P2 (by decide)
  have rx : ∀ j, r.2.2.2 x0 j = σ1.2.2 x0 j := fun j => by rw [r2, zu_n _ _ _ xP]
  have rn : ∀ j, r.2.2.2 nw j = σ1.2.2 nw j := fun j => by rw [r2, zu_n _ _ _ (zNk n2 P2 (by decide))]
  have e0 : (r.2.2.2 x0 0).getD 0 = t := by rw [rx, t1]; rfl
  have e1 : (r.2.2.2 x0 1).getD 0 = P := by rw [rx, P1]; rfl
  have eP : (σ1.2.2 x0 1).getD 0 = P := by rw [P1]; rfl
  unfold F_X10_read
  simp only [zlt, zlt2]
  rw [← hr, eP]
  unfold zPs at hr
  rw [eP] at hr
  rw [← hr, e1, e0]
  have e13 : zu (zu r.2.1 x0 13 (r.2.1 P 9)) t 1 0 x0 13 = r.2.1 P 9 := by rw [zu_n _ _ _ (zNk hx0 t2 (by decide)), zu_s]
  split
  · obtain ⟨s, hs⟩ : ∃ s : zS, s = (zu (zu r.2.1 x0 13 (r.2.1 P 9)) t 1 0, r.2.2.1, zu (zu r.2.2.2 x0 11 (some ((r.2.2.2 x0 10).getD 0))) x0 10 (some ((r.2.2.2 x0 11).getD 0))) := ⟨_, rfl⟩
    have sx : ∀ j, j ≠ 10 → j ≠ 11 → s.2.2 x0 j = σ1.2.2 x0 j := fun j h1 h2 => by
      rw [hs]
      show zu (zu r.2.2.2 x0 11 _) x0 10 _ x0 j = _
      rw [zu_j _ _ _ _ _ (fun z => h1 z.symm), zu_j _ _ _ _ _ (fun z => h2 z.symm)]
      exact rx j
    have nx : ¬ nw = x0 := zNk n2 hx0 (by decide)
    have sn : ∀ j, s.2.2 nw j = σ1.2.2 nw j := fun j => by
      rw [hs]
      show zu (zu r.2.2.2 x0 11 _) x0 10 _ nw j = _
      rw [zu_n _ _ _ nx, zu_n _ _ _ nx]
      exact rn j
    have g6 : (s.2.2 x0 6).getD 0 = nw := by rw [sx 6 (by decide) (by decide), n1]; rfl
    have g4 : (s.2.2 x0 4).getD 0 = ps := by rw [sx 4 (by decide) (by decide), p1]; rfl
    have g5 : (s.2.2 x0 5).getD 0 = dy := by rw [sx 5 (by decide) (by decide), y1]; rfl
    have h0 : (s.2.2 nw 0).getD 0 = nI := by rw [sn, i1]; rfl
    have h1 : (s.2.2 nw 1).getD 0 = nW := by rw [sn, w1]; rfl
    have h2 : (s.2.2 nw 2).getD 0 = nM := by rw [sn, m1]; rfl
    have f : zFr (fun c j => c ≠ x0 ∨ j = 12) s (F_X10_beginAnew x0 s) := fr_X10_beginAnew zFr.id (fun j => Or.inl (by rw [g6, h0]; exact zNk i2 hx0 (by decide))) (fun j => Or.inl (by rw [g6, h1]; exact zNk w2 hx0 (by decide))) (fun j => Or.inl (by rw [g6, h2]; exact zNk m2 hx0 (by decide))) (Or.inl (by rw [g6]; exact nx)) (Or.inl (by rw [g6]; exact nx)) (Or.inl (by rw [g6]; exact nx)) (Or.inl (by rw [g4]; exact zNk p2 hx0 (by decide))) (Or.inl (by rw [g5]; exact zNk y2 hx0 (by decide))) (Or.inr rfl)
    have q := f.2 x0 13 (by
      rintro (z | z)
      · exact z rfl
      · exact absurd z (by decide))
    rw [hs] at q
    exact q.trans e13
  · exact e13
/-- as zSAM, and the places of the fault are alike -/
def zSBM (κ : Int) (L1 : List Nat) (kd1 : Nat → Nat) (L2 : List Nat) (kd2 : Nat → Nat) (x0 m0 : Nat) (σ1 σ2 : zS) : Prop := zSAM κ L1 kd1 L2 kd2 σ1 σ2 ∧ (σ1.1 x0 13).toInt = (σ2.1 m0 17).toInt
theorem zSBM.le (h0 : k ≤ κ) (h : zSBM κ L1 kd1 L2 kd2 x0 m0 σ1 σ2) : zSBM k L1 kd1 L2 kd2 x0 m0 σ1 σ2 := ⟨h.1.le h0, h.2⟩
theorem zSBM.c (h : zSBM κ L1 kd1 L2 kd2 x0 m0 σ1 σ2) (hx0 : zT L1 kd1 x0 10) (g : zSm Wk Wr L1 kd1 σ1 τ1) (h1 : Wk.contains 39 = false) (h2 : Wk.contains 40 = false) (h4 : Wk.contains 10 = false) (h3 : Wr.contains 7 = false := by decide) : zSBM κ L1 kd1 L2 kd2 x0 m0 τ1 σ2 := ⟨h.1.c g h1 h2 h3, by
  have n : 10 ∉ Wk := fun q => by simp [q] at h4
  rw [((g x0 hx0.1).1 (by rw [hx0.2]; exact n)).1]
  exact h.2⟩
theorem zSBM.hold {v : Int32} {p : Int32} (h : zSBM κ L1 kd1 L2 kd2 x0 m0 σ1 σ2) (hI1 : zI κ 0 L1 kd1 σ1) (hx0 : zT L1 kd1 x0 10) (f : (v, τ1) = F_X10_hold x0 p σ1) (g : zSm Wk Wr L1 kd1 σ1 τ1) (h1 : Wk.contains 39 = false) (h2 : Wk.contains 40 = false) (h3 : Wr.contains 7 = false := by decide) : zSBM κ L1 kd1 L2 kd2 x0 m0 τ1 σ2 := ⟨h.1.c g h1 h2 h3, by
  refine Eq.trans ?_ h.2
  congr 1
  obtain ⟨sl, l1, l2⟩ := zi_ref (j := 8) (k2 := 52) hI1 hx0 (by rfl)
  have e : τ1 = (F_X10_hold x0 p σ1).2 := congrArg Prod.snd f
  rw [e]
  unfold F_X10_hold
  simp only [zlt]
  split
  · rfl
  · obtain ⟨y, y1, y2⟩ := zi_ref (j := p.toNatClampNeg) (k2 := 1) hI1 l2 (by rfl)
    obtain ⟨nI, i1, i2⟩ := zi_ref (j := 0) (k2 := 22) hI1 y2 (by rfl)
    obtain ⟨nW, w1, w2⟩ := zi_ref (j := 1) (k2 := 23) hI1 y2 (by rfl)
    obtain ⟨nM, m1, m2⟩ := zi_ref (j := 2) (k2 := 24) hI1 y2 (by rfl)
    have ey : (σ1.2.2 ((σ1.2.2 x0 8).getD 0) p.toNatClampNeg).getD 0 = y := by rw [l1]; show (σ1.2.2 sl p.toNatClampNeg).getD 0 = y; rw [y1]; rfl
    rw [ey]
    have h0 : (σ1.2.2 y 0).getD 0 = nI := by rw [i1]; rfl
    have h1 : (σ1.2.2 y 1).getD 0 = nW := by rw [w1]; rfl
    have h2 : (σ1.2.2 y 2).getD 0 = nM := by rw [m1]; rfl
    have yx : y ≠ x0 := zNk y2 hx0 (by decide)
    have q : zFr (fun c _ => c ≠ x0) σ1 (F_X1_copy y ((σ1.2.2 x0 6).getD 0) σ1) := fr_X1_copy zFr.id (fun j => by rw [h0]; exact zNk i2 hx0 (by decide)) (fun j => by rw [h1]; exact zNk w2 hx0 (by decide)) (fun j => by rw [h2]; exact zNk m2 hx0 (by decide)) yx yx yx
    show zu (F_X1_copy y ((σ1.2.2 x0 6).getD 0) σ1).1 x0 12 _ x0 13 = _
    rw [zu_j _ _ _ _ _ (by decide)]
    exact q.2 x0 13 (fun z => z rfl)⟩
theorem zSBM.m (h : zSBM κ L1 kd1 L2 kd2 x0 m0 σ1 σ2) (g : zSame m0 Wf Wa L2 kd2 σ2 τ2) (h1 : Wa.contains 101 = false) (h2 : Wa.contains 109 = false) (h3 : Wf.contains 17 = false) : zSBM κ L1 kd1 L2 kd2 x0 m0 σ1 τ2 := ⟨h.1.m g h1 h2, by
  rw [g.2.1 17 (fun q => by simp [q] at h3)]
  exact h.2⟩
theorem zSBM.feed {v1 v2 p1 p2 p3 p4 p5 : Int32} (h : zSBM κ L1 kd1 L2 kd2 x0 m0 σ1 σ2) (hI1 : zI κ 0 L1 kd1 σ1) (hI2 : zJ κ L2 kd2 σ2) (hx0 : zT L1 kd1 x0 10) (hm0 : zT L2 kd2 m0 11) (f1 : (v1, τ1) = F_X10_feed x0 p1 p2 p3 p4 p5 σ1) (f2 : (v2, τ2) = F_X11_feed m0 p1 p2 p3 p4 p5 σ2) (g1 : zSm [7, 39] [] L1 kd1 σ1 τ1) (g2 : zSame m0 [2] [101] L2 kd2 σ2 τ2) (hk : (k = κ ∧ 2000 < κ + 20) ∨ (k = κ + 20 ∧ κ + 20 ≤ 2000)) : zSBM k L1 kd1 L2 kd2 x0 m0 τ1 τ2 := ⟨h.1.feed hI1 hI2 hx0 hm0 f1 f2 g1 g2 hk, by
  rw [((g1 x0 hx0.1).1 (by rw [hx0.2]; decide)).1, g2.2.1 17 (by decide)]
  exact h.2⟩
theorem zSBM.read {v1 v2 : Int32} (h : zSBM κ L1 kd1 L2 kd2 x0 m0 σ1 σ2) (hI1 : zI κ 0 L1 kd1 σ1) (hI2 : zJ κ L2 kd2 σ2) (hx0 : zT L1 kd1 x0 10) (hm0 : zT L2 kd2 m0 11) (f1 : (v1, τ1) = F_X10_read x0 σ1) (f2 : (v2, τ2) = F_X11_read m0 σ2) (g1 : zSm Wk Wr L1 kd1 σ1 τ1) (g2 : zSame m0 Wf Wa L2 kd2 σ2 τ2) (h1 : Wk.contains 39 = false := by decide) (h2 : Wk.contains 40 = false := by decide) (h3 : Wr.contains 7 = false := by decide) (h4 : Wa.contains 101 = false := by decide) (h5 : Wa.contains 109 = false := by decide) : v1.toInt = v2.toInt ∧ zSBM 0 L1 kd1 L2 kd2 x0 m0 τ1 τ2 := by
  obtain ⟨⟨q1, q2⟩, q3⟩ := h.1.read hI1 hI2 hx0 hm0 f1 f2 g1 g2 h1 h2 h3 h4 h5
  refine ⟨q1, q3, ?_⟩
  rw [show τ1 = (F_X10_read x0 σ1).2 from congrArg Prod.snd f1, zR13 hI1 hx0]
  exact q2
/-- what place answers -/
theorem zSBM.place {v1 v2 : Int32} (h : zSBM κ L1 kd1 L2 kd2 x0 m0 σ1 σ2) (f1 : (v1, τ1) = F_X10_place x0 σ1) (f2 : v2 = F_X11_place m0 σ2) : v1.toInt = v2.toInt := by
  rw [show v1 = σ1.1 x0 13 from congrArg Prod.fst f1, f2]
  exact h.2
end ZSBM
