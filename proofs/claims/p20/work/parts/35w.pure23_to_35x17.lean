-- 35w.pure23
section
/-! THE PLACE OF THE FAULT -/
theorem zPs_r {x0 : Nat} {σ : zS} : (zPs x0 σ).2.2.2 = zu σ.2.2 ((σ.2.2 x0 1).getD 0) 1 (some ((σ.2.2 x0 11).getD 0)) := by
  unfold zPs F_X3_parse
  simp only [zlt]
  refine rf_X3_parse_59 10000 0 _ (rf_X3_goTo ?_)
  show (F_X9_clear _ _).2.2 = _
  refine rf_X9_clear ?_
  show zu (F_X8_scan _ _ _ σ).2.2 _ 1 _ = _
  rw [show (F_X8_scan ((σ.2.2 ((σ.2.2 x0 1).getD 0) 0).getD 0) ((σ.2.2 ((σ.2.2 x0 0).getD 0) 0).getD 0) (σ.1 ((σ.2.2 x0 0).getD 0) 1) σ).2.2 = σ.2.2 from rf_X8_scan rfl]
section ZSBM
variable {κ k : Int} {L1 : List Nat} {kd1 : Nat → Nat} {L2 : List Nat} {kd2 : Nat → Nat} {σ1 σ2 τ1 τ2 : zS} {Wk Wr Wf Wa : List Nat} {m0 x0 : Nat}
theorem zR13 (hI1 : zI κ 0 L1 kd1 σ1) (hx0 : zT L1 kd1 x0 10) : (F_X10_read x0 σ1).2.1 x0 13 = (zPs x0 σ1).2.1 ((σ1.2.2 x0 1).getD 0) 9 := by
  obtain ⟨t, t1, t2⟩ := zi_ref (j := 0) (k2 := 7) hI1 hx0 (by rfl)
  obtain ⟨P, P1, P2⟩ := zi_ref (j := 1) (k2 := 3) hI1 hx0 (by rfl)
  obtain ⟨tt, s1, s2⟩ := zi_ref (j := 11) (k2 := 9) hI1 hx0 (by rfl)
  obtain ⟨td, d1, d2⟩ := zi_ref (j := 10) (k2 := 9) hI1 hx0 (by rfl)
  obtain ⟨nw, n1, n2⟩ := zi_ref (j := 6) (k2 := 1) hI1 hx0 (by rfl)
  obtain ⟨ps, p1, p2⟩ := zi_ref (j := 4) (k2 := 4) hI1 hx0 (by rfl)
  obtain ⟨dy, y1, y2⟩ := zi_ref (j := 5) (k2 := 2) hI1 hx0 (by rfl)
  obtain ⟨nI, i1, i2⟩ := zi_ref (j := 0) (k2 := 22) hI1 n2 (by rfl)
  obtain ⟨nW, w1, w2⟩ := zi_ref (j := 1) (k2 := 23) hI1 n2 (by rfl)
  obtain ⟨nM, m1, m2⟩ := zi_ref (j := 2) (k2 := 24) hI1 n2 (by rfl)
  obtain ⟨r, hr⟩ : ∃ r, r = zPs x0 σ1 := ⟨_, rfl⟩
  have r2 : r.2.2.2 = zu σ1.2.2 P 1 (some tt) := by rw [hr, zPs_r, P1, s1]; rfl
  have xP : ¬ x0 = P := zNk hx0 P2 (by decide)
  have rx : ∀ j, r.2.2.2 x0 j = σ1.2.2 x0 j := fun j => by rw [r2, zu_n _ _ _ xP]
  have rn : ∀ j, r.2.2.2 nw j = σ1.2.2 nw j := fun j => by rw [r2, zu_n _ _ _ (zNk n2 P2 (by decide))]
  have e0 : (r.2.2.2 x0 0).getD 0 = t := by rw [rx, t1]; rfl
  have e1 : (r.2.2.2 x0 1).getD 0 = P := by rw [rx, P1]; rfl
  have eP : (σ1.2.2 x0 1).getD 0 = P := by rw [P1]; rfl
  unfold F_X10_read
  simp only [zlt, zlt2]
  rw [← hr, eP]
  unfold zPs at hr
  rw [eP] at hr
  rw [← hr, e1, e0]
  have e13 : zu (zu r.2.1 x0 13 (r.2.1 P 9)) t 1 0 x0 13 = r.2.1 P 9 := by rw [zu_n _ _ _ (zNk hx0 t2 (by decide)), zu_s]
  split
  · obtain ⟨s, hs⟩ : ∃ s : zS, s = (zu (zu r.2.1 x0 13 (r.2.1 P 9)) t 1 0, r.2.2.1, zu (zu r.2.2.2 x0 11 (some ((r.2.2.2 x0 10).getD 0))) x0 10 (some ((r.2.2.2 x0 11).getD 0))) := ⟨_, rfl⟩
    have sx : ∀ j, j ≠ 10 → j ≠ 11 → s.2.2 x0 j = σ1.2.2 x0 j := fun j h1 h2 => by
      rw [hs]
      show zu (zu r.2.2.2 x0 11 _) x0 10 _ x0 j = _
      rw [zu_j _ _ _ _ _ (fun z => h1 z.symm), zu_j _ _ _ _ _ (fun z => h2 z.symm)]
      exact rx j
    have nx : ¬ nw = x0 := zNk n2 hx0 (by decide)
    have sn : ∀ j, s.2.2 nw j = σ1.2.2 nw j := fun j => by
      rw [hs]
      show zu (zu r.2.2.2 x0 11 _) x0 10 _ nw j = _
      rw [zu_n _ _ _ nx, zu_n _ _ _ nx]
      exact rn j
    have g6 : (s.2.2 x0 6).getD 0 = nw := by rw [sx 6 (by decide) (by decide), n1]; rfl
    have g4 : (s.2.2 x0 4).getD 0 = ps := by rw [sx 4 (by decide) (by decide), p1]; rfl
    have g5 : (s.2.2 x0 5).getD 0 = dy := by rw [sx 5 (by decide) (by decide), y1]; rfl
    have h0 : (s.2.2 nw 0).getD 0 = nI := by rw [sn, i1]; rfl
    have h1 : (s.2.2 nw 1).getD 0 = nW := by rw [sn, w1]; rfl
    have h2 : (s.2.2 nw 2).getD 0 = nM := by rw [sn, m1]; rfl
    have f : zFr (fun c j => c ≠ x0 ∨ j = 12) s (F_X10_beginAnew x0 s) := fr_X10_beginAnew zFr.id (fun j => Or.inl (by rw [g6, h0]; exact zNk i2 hx0 (by decide))) (fun j => Or.inl (by rw [g6, h1]; exact zNk w2 hx0 (by decide))) (fun j => Or.inl (by rw [g6, h2]; exact zNk m2 hx0 (by decide))) (Or.inl (by rw [g6]; exact nx)) (Or.inl (by rw [g6]; exact nx)) (Or.inl (by rw [g6]; exact nx)) (Or.inl (by rw [g4]; exact zNk p2 hx0 (by decide))) (Or.inl (by rw [g5]; exact zNk y2 hx0 (by decide))) (Or.inr rfl)
    have q := f.2 x0 13 (by
      rintro (z | z)
      · exact z rfl
      · exact absurd z (by decide))
    rw [hs] at q
    exact q.trans e13
  · exact e13
/-- as zSAM, and the places of the fault are alike -/
def zSBM (κ : Int) (L1 : List Nat) (kd1 : Nat → Nat) (L2 : List Nat) (kd2 : Nat → Nat) (x0 m0 : Nat) (σ1 σ2 : zS) : Prop := zSAM κ L1 kd1 L2 kd2 σ1 σ2 ∧ (σ1.1 x0 13).toInt = (σ2.1 m0 17).toInt
theorem zSBM.le (h0 : k ≤ κ) (h : zSBM κ L1 kd1 L2 kd2 x0 m0 σ1 σ2) : zSBM k L1 kd1 L2 kd2 x0 m0 σ1 σ2 := ⟨h.1.le h0, h.2⟩
theorem zSBM.c (h : zSBM κ L1 kd1 L2 kd2 x0 m0 σ1 σ2) (hx0 : zT L1 kd1 x0 10) (g : zSm Wk Wr L1 kd1 σ1 τ1) (h1 : Wk.contains 39 = false) (h2 : Wk.contains 40 = false) (h4 : Wk.contains 10 = false) (h3 : Wr.contains 7 = false := by decide) : zSBM κ L1 kd1 L2 kd2 x0 m0 τ1 σ2 := ⟨h.1.c g h1 h2 h3, by
  have n : 10 ∉ Wk := fun q => by simp [q] at h4
  rw [((g x0 hx0.1).1 (by rw [hx0.2]; exact n)).1]
  exact h.2⟩
theorem zSBM.hold {v : Int32} {p : Int32} (h : zSBM κ L1 kd1 L2 kd2 x0 m0 σ1 σ2) (hI1 : zI κ 0 L1 kd1 σ1) (hx0 : zT L1 kd1 x0 10) (f : (v, τ1) = F_X10_hold x0 p σ1) (g : zSm Wk Wr L1 kd1 σ1 τ1) (h1 : Wk.contains 39 = false) (h2 : Wk.contains 40 = false) (h3 : Wr.contains 7 = false := by decide) : zSBM κ L1 kd1 L2 kd2 x0 m0 τ1 σ2 := ⟨h.1.c g h1 h2 h3, by
  refine Eq.trans ?_ h.2
  congr 1
  obtain ⟨sl, l1, l2⟩ := zi_ref (j := 8) (k2 := 52) hI1 hx0 (by rfl)
  have e : τ1 = (F_X10_hold x0 p σ1).2 := congrArg Prod.snd f
  rw [e]
  unfold F_X10_hold
  simp only [zlt]
  split
  · rfl
  · obtain ⟨y, y1, y2⟩ := zi_ref (j := p.toNatClampNeg) (k2 := 1) hI1 l2 (by rfl)
    obtain ⟨nI, i1, i2⟩ := zi_ref (j := 0) (k2 := 22) hI1 y2 (by rfl)
    obtain ⟨nW, w1, w2⟩ := zi_ref (j := 1) (k2 := 23) hI1 y2 (by rfl)
    obtain ⟨nM, m1, m2⟩ := zi_ref (j := 2) (k2 := 24) hI1 y2 (by rfl)
    have ey : (σ1.2.2 ((σ1.2.2 x0 8).getD 0) p.toNatClampNeg).getD 0 = y := by rw [l1]; show (σ1.2.2 sl p.toNatClampNeg).getD 0 = y; rw [y1]; rfl
    rw [ey]
    have h0 : (σ1.2.2 y 0).getD 0 = nI := by rw [i1]; rfl
    have h1 : (σ1.2.2 y 1).getD 0 = nW := by rw [w1]; rfl
    have h2 : (σ1.2.2 y 2).getD 0 = nM := by rw [m1]; rfl
    have yx : y ≠ x0 := zNk y2 hx0 (by decide)
    have q : zFr (fun c _ => c ≠ x0) σ1 (F_X1_copy y ((σ1.2.2 x0 6).getD 0) σ1) := fr_X1_copy zFr.id (fun j => by rw [h0]; exact zNk i2 hx0 (by decide)) (fun j => by rw [h1]; exact zNk w2 hx0 (by decide)) (fun j => by rw [h2]; exact zNk m2 hx0 (by decide)) yx yx yx
    show zu (F_X1_copy y ((σ1.2.2 x0 6).getD 0) σ1).1 x0 12 _ x0 13 = _
    rw [zu_j _ _ _ _ _ (by decide)]
    exact q.2 x0 13 (fun z => z rfl)⟩
theorem zSBM.m (h : zSBM κ L1 kd1 L2 kd2 x0 m0 σ1 σ2) (g : zSame m0 Wf Wa L2 kd2 σ2 τ2) (h1 : Wa.contains 101 = false) (h2 : Wa.contains 109 = false) (h3 : Wf.contains 17 = false) : zSBM κ L1 kd1 L2 kd2 x0 m0 σ1 τ2 := ⟨h.1.m g h1 h2, by
  rw [g.2.1 17 (fun q => by simp [q] at h3)]
  exact h.2⟩
theorem zSBM.feed {v1 v2 p1 p2 p3 p4 p5 : Int32} (h : zSBM κ L1 kd1 L2 kd2 x0 m0 σ1 σ2) (hI1 : zI κ 0 L1 kd1 σ1) (hI2 : zJ κ L2 kd2 σ2) (hx0 : zT L1 kd1 x0 10) (hm0 : zT L2 kd2 m0 11) (f1 : (v1, τ1) = F_X10_feed x0 p1 p2 p3 p4 p5 σ1) (f2 : (v2, τ2) = F_X11_feed m0 p1 p2 p3 p4 p5 σ2) (g1 : zSm [7, 39] [] L1 kd1 σ1 τ1) (g2 : zSame m0 [2] [101] L2 kd2 σ2 τ2) (hk : (k = κ ∧ 2000 < κ + 20) ∨ (k = κ + 20 ∧ κ + 20 ≤ 2000)) : zSBM k L1 kd1 L2 kd2 x0 m0 τ1 τ2 := ⟨h.1.feed hI1 hI2 hx0 hm0 f1 f2 g1 g2 hk, by
  rw [((g1 x0 hx0.1).1 (by rw [hx0.2]; decide)).1, g2.2.1 17 (by decide)]
  exact h.2⟩
theorem zSBM.read {v1 v2 : Int32} (h : zSBM κ L1 kd1 L2 kd2 x0 m0 σ1 σ2) (hI1 : zI κ 0 L1 kd1 σ1) (hI2 : zJ κ L2 kd2 σ2) (hx0 : zT L1 kd1 x0 10) (hm0 : zT L2 kd2 m0 11) (f1 : (v1, τ1) = F_X10_read x0 σ1) (f2 : (v2, τ2) = F_X11_read m0 σ2) (g1 : zSm Wk Wr L1 kd1 σ1 τ1) (g2 : zSame m0 Wf Wa L2 kd2 σ2 τ2) (h1 : Wk.contains 39 = false := by decide) (h2 : Wk.contains 40 = false := by decide) (h3 : Wr.contains 7 = false := by decide) (h4 : Wa.contains 101 = false := by decide) (h5 : Wa.contains 109 = false := by decide) : v1.toInt = v2.toInt ∧ zSBM 0 L1 kd1 L2 kd2 x0 m0 τ1 τ2 := by
  obtain ⟨⟨q1, q2⟩, q3⟩ := h.1.read hI1 hI2 hx0 hm0 f1 f2 g1 g2 h1 h2 h3 h4 h5
  refine ⟨q1, q3, ?_⟩
  rw [show τ1 = (F_X10_read x0 σ1).2 from congrArg Prod.snd f1, zR13 hI1 hx0]
  exact q2
/-- what place answers -/
theorem zSBM.place {v1 v2 : Int32} (h : zSBM κ L1 kd1 L2 kd2 x0 m0 σ1 σ2) (f1 : (v1, τ1) = F_X10_place x0 σ1) (f2 : v2 = F_X11_place m0 σ2) : v1.toInt = v2.toInt := by
  rw [show v1 = σ1.1 x0 13 from congrArg Prod.fst f1, f2]
  exact h.2
end ZSBM
end
-- 35x01.lay1
section
/-! THE CLASS' COURSES: where they lie (0: now, 1: tried, 2..4: held, 5..44: past), what each holds -/
abbrev zCo : Type := (Nat → Int32) × (Nat → Int32) × (Nat → Int32) × Int32 × Int32 × Int32
def zt12 (f : Nat → Int32) : Nat → Int32 := fun j => if j < 12 then f j else 0
/-- where: objects, their three rows -/
abbrev zWh : Type := (Nat → Nat) × (Nat → Nat) × (Nat → Nat) × (Nat → Nat)
def zcc (V : zWh) (f : Nat → Nat → Int32) (k : Nat) : zCo := (zt12 (f (V.2.1 k)), zt12 (f (V.2.2.1 k)), zt12 (f (V.2.2.2 k)), f (V.1 k) 3, f (V.1 k) 4, f (V.1 k) 5)
def zLay (L : List Nat) (kd : Nat → Nat) (x0 : Nat) (R : Nat → Nat → Option Nat) (V : zWh) (ps pc sl : Nat) : Prop :=
  (R x0 6 = some (V.1 0) ∧ R x0 7 = some (V.1 1) ∧ R x0 8 = some sl ∧ R x0 4 = some ps ∧ R ps 0 = some pc) ∧ (∀ s, s < 3 → R sl s = some (V.1 (2 + s))) ∧ (∀ i, i < 40 → R pc i = some (V.1 (5 + i))) ∧ (∀ k, k < 45 → (zT L kd (V.1 k) 1 ∧ zT L kd (V.2.1 k) 22 ∧ zT L kd (V.2.2.1 k) 23 ∧ zT L kd (V.2.2.2 k) 24) ∧ R (V.1 k) 0 = some (V.2.1 k) ∧ R (V.1 k) 1 = some (V.2.2.1 k) ∧ R (V.1 k) 2 = some (V.2.2.2 k)) ∧ (∀ k k', k < 45 → k' < 45 → V.1 k = V.1 k' ∨ V.2.1 k = V.2.1 k' ∨ V.2.2.1 k = V.2.2.1 k' ∨ V.2.2.2 k = V.2.2.2 k' → k = k') ∧ zT L kd x0 10 ∧ zT L kd ps 4 ∧ zT L kd pc 29 ∧ zT L kd sl 52
section ZLAY
variable {L : List Nat} {kd : Nat → Nat} {x0 : Nat} {R R' : Nat → Nat → Option Nat} {V : zWh} {ps pc sl : Nat} {σ σ' : zS} {κ : Int}
/-- the references that never change -/
theorem zLay.keep (h : zLay L kd x0 R V ps pc sl) (e : ∀ a ∈ L, kd a = 1 ∨ kd a = 4 ∨ kd a = 29 ∨ kd a = 52 → R' a = R a) (e0 : ∀ j, j < 10 → R' x0 j = R x0 j) : zLay L kd x0 R' V ps pc sl := by
  obtain ⟨⟨h1, h2, h3, h4, h5⟩, h6, h7, h8, h9, t0, t1, t2, t3⟩ := h
  refine ⟨⟨by rw [e0 6 (by decide)]; exact h1, by rw [e0 7 (by decide)]; exact h2, by rw [e0 8 (by decide)]; exact h3, by rw [e0 4 (by decide)]; exact h4, by rw [e ps t1.1 (by rw [t1.2]; decide)]; exact h5⟩, fun s hs => by rw [e sl t3.1 (by rw [t3.2]; decide)]; exact h6 s hs, fun i hi => by rw [e pc t2.1 (by rw [t2.2]; decide)]; exact h7 i hi, fun k hk => ?_, h9, t0, t1, t2, t3⟩
  obtain ⟨q0, q1, q2, q3⟩ := h8 k hk
  have e1 := e (V.1 k) q0.1.1 (by rw [q0.1.2]; decide)
  exact ⟨q0, by rw [e1]; exact q1, by rw [e1]; exact q2, by rw [e1]; exact q3⟩
theorem zLay.gA (h : zLay L kd x0 R V ps pc sl) {k : Nat} (hk : k < 45) : (R (V.1 k) 0).getD 0 = V.2.1 k ∧ (R (V.1 k) 1).getD 0 = V.2.2.1 k ∧ (R (V.1 k) 2).getD 0 = V.2.2.2 k := by
  obtain ⟨q0, q1, q2, q3⟩ := h.2.2.2.1 k hk
  rw [q1, q2, q3]
  exact ⟨rfl, rfl, rfl⟩
theorem zt12_e {u v : Nat → Int32} (h : ∀ j, j < 12 → u j = v j) : zt12 u = zt12 v := by
  funext j
  unfold zt12
  by_cases c : j < 12
  · rw [if_pos c, if_pos c, h j c]
  · rw [if_neg c, if_neg c]
theorem zcc.eq {f g : Nat → Nat → Int32} {k q : Nat} (h1 : ∀ j, j < 12 → f (V.2.1 k) j = g (V.2.1 q) j) (h2 : ∀ j, j < 12 → f (V.2.2.1 k) j = g (V.2.2.1 q) j) (h3 : ∀ j, j < 12 → f (V.2.2.2 k) j = g (V.2.2.2 q) j) (h4 : ∀ j, j = 3 ∨ j = 4 ∨ j = 5 → f (V.1 k) j = g (V.1 q) j) : zcc V f k = zcc V g q := by
  unfold zcc
  rw [h4 3 (by omega), h4 4 (by omega), h4 5 (by omega), zt12_e h1, zt12_e h2, zt12_e h3]
theorem zcc.st {f g : Nat → Nat → Int32} {k : Nat} (h1 : f (V.1 k) = g (V.1 k)) (h2 : f (V.2.1 k) = g (V.2.1 k)) (h3 : f (V.2.2.1 k) = g (V.2.2.1 k)) (h4 : f (V.2.2.2 k) = g (V.2.2.2 k)) : zcc V f k = zcc V g k := by
  unfold zcc
  rw [h1, h2, h3, h4]
def zc12 (f : Nat → Nat → Int32) (a b : Nat) : Nat → Nat → Int32 := fun c => if c = b then va_cpy (f a) (f b) 0 0 12 else f c
theorem zc12_b {f : Nat → Nat → Int32} {a b j : Nat} (h : j < 12) : zc12 f a b b j = f a j := by
  unfold zc12 va_cpy
  rw [if_pos rfl, if_pos (by omega)]
  congr 1
  omega
theorem zc12_n {f : Nat → Nat → Int32} {a b c : Nat} (h : ¬ c = b) : zc12 f a b c = f c := by
  unfold zc12
  rw [if_neg h]
/-- a course is copied: its rows and numbers alone are written -/
theorem zCopy (h : zLay L kd x0 σ.2.2 V ps pc sl) {k q : Nat} (hk : k < 45) (hq : q < 45) : (F_X1_copy (V.1 k) (V.1 q) σ).2 = σ.2 ∧ zcc V (F_X1_copy (V.1 k) (V.1 q) σ).1 k = zcc V σ.1 q ∧ (∀ r, r < 45 → r ≠ k → zcc V (F_X1_copy (V.1 k) (V.1 q) σ).1 r = zcc V σ.1 r) ∧ ∀ c, ¬ (c = V.1 k ∨ c = V.2.1 k ∨ c = V.2.2.1 k ∨ c = V.2.2.2 k) → (F_X1_copy (V.1 k) (V.1 q) σ).1 c = σ.1 c := by
  obtain ⟨a0, a1, a2⟩ := h.gA hk
  obtain ⟨b0, b1, b2⟩ := h.gA hq
  obtain ⟨⟨tA, tI, tW, tM⟩, -⟩ := h.2.2.2.1 k hk
  obtain ⟨⟨uA, uI, uW, uM⟩, -⟩ := h.2.2.2.1 q hq
  have n : ∀ {a b ka kb : Nat}, zT L kd a ka → zT L kd b kb → ka ≠ kb → ¬ a = b := fun ha hb hn => zNk ha hb hn
  obtain ⟨f1, e1⟩ : ∃ f, f = zc12 σ.1 (V.2.1 q) (V.2.1 k) := ⟨_, rfl⟩
  obtain ⟨f2, e2⟩ : ∃ f, f = zc12 f1 (V.2.2.1 q) (V.2.2.1 k) := ⟨_, rfl⟩
  obtain ⟨f3, e3⟩ : ∃ f, f = zc12 f2 (V.2.2.2 q) (V.2.2.2 k) := ⟨_, rfl⟩
  obtain ⟨f4, e4⟩ : ∃ f, f = zu f3 (V.1 k) 3 (f3 (V.1 q) 3) := ⟨_, rfl⟩
  obtain ⟨f5, e5⟩ : ∃ f, f = zu f4 (V.1 k) 4 (f4 (V.1 q) 4) := ⟨_, rfl⟩
  obtain ⟨f6, e6⟩ : ∃ f, f = zu f5 (V.1 k) 5 (f5 (V.1 q) 5) := ⟨_, rfl⟩
  have E : F_X1_copy (V.1 k) (V.1 q) σ = (f6, σ.2) := by
    rw [e6, e5, e4, e3, e2, e1]
    unfold F_X1_copy
    simp only [zlt, a0, a1, a2, b0, b1, b2]
    rfl
  rw [E]
  have o : ∀ c, ¬ (c = V.1 k ∨ c = V.2.1 k ∨ c = V.2.2.1 k ∨ c = V.2.2.2 k) → f6 c = σ.1 c := fun c hc => by
    rw [e6, zu_n _ _ _ (fun z => hc (Or.inl z)), e5, zu_n _ _ _ (fun z => hc (Or.inl z)), e4, zu_n _ _ _ (fun z => hc (Or.inl z)), e3, zc12_n (fun z => hc (Or.inr (Or.inr (Or.inr z)))), e2, zc12_n (fun z => hc (Or.inr (Or.inr (Or.inl z)))), e1, zc12_n (fun z => hc (Or.inr (Or.inl z)))]
  refine ⟨rfl, ?_, fun r hr hn => ?_, o⟩
  · have s6 : ∀ c, ¬ c = V.1 k → f6 c = f3 c := fun c hc => by rw [e6, zu_n _ _ _ hc, e5, zu_n _ _ _ hc, e4, zu_n _ _ _ hc]
    refine zcc.eq (fun j hj => ?_) (fun j hj => ?_) (fun j hj => ?_) (fun j hj => ?_)
    · show f6 (V.2.1 k) j = σ.1 (V.2.1 q) j
      rw [s6 _ (n tI tA (by decide)), e3, zc12_n (n tI tM (by decide)), e2, zc12_n (n tI tW (by decide)), e1, zc12_b hj]
    · show f6 (V.2.2.1 k) j = σ.1 (V.2.2.1 q) j
      rw [s6 _ (n tW tA (by decide)), e3, zc12_n (n tW tM (by decide)), e2, zc12_b hj, e1, zc12_n (n uW tI (by decide))]
    · show f6 (V.2.2.2 k) j = σ.1 (V.2.2.2 q) j
      rw [s6 _ (n tM tA (by decide)), e3, zc12_b hj, e2, zc12_n (n uM tW (by decide)), e1, zc12_n (n uM tI (by decide))]
    · show f6 (V.1 k) j = σ.1 (V.1 q) j
      have s3 : ∀ c, zT L kd c 1 → f3 c = σ.1 c := fun c hc => by rw [e3, zc12_n (n hc tM (by decide)), e2, zc12_n (n hc tW (by decide)), e1, zc12_n (n hc tI (by decide))]
      by_cases c : V.1 q = V.1 k
      · have w : ∀ (f : Nat → Nat → Int32) (i : Nat), zu f (V.1 k) i (f (V.1 q) i) = f := fun f i => by
          rw [c]
          funext x y
          unfold zu
          split
          · next h1 =>
            split
            · next h2 => rw [h1, h2]
            · rfl
          · rfl
        rw [e6, w, e5, w, e4, w, s3 _ tA, c]
      · have c' : ¬ V.1 q = V.1 k := c
        have v3 : f3 (V.1 q) = σ.1 (V.1 q) := s3 _ uA
        have v4 : f4 (V.1 q) = σ.1 (V.1 q) := by rw [e4, zu_n _ _ _ c', v3]
        have v5 : f5 (V.1 q) = σ.1 (V.1 q) := by rw [e5, zu_n _ _ _ c', v4]
        rcases hj with rfl | rfl | rfl
        · rw [e6, zu_j _ _ _ _ _ (by decide), e5, zu_j _ _ _ _ _ (by decide), e4, zu_s, v3]
        · rw [e6, zu_j _ _ _ _ _ (by decide), e5, zu_s, v4]
        · rw [e6, zu_s, v5]
  · have hi : ∀ x, x < 45 → V.1 x = V.1 k ∨ V.2.1 x = V.2.1 k ∨ V.2.2.1 x = V.2.2.1 k ∨ V.2.2.2 x = V.2.2.2 k → x = k := fun x hx => h.2.2.2.2.1 x k hx hk
    obtain ⟨⟨wA, wI, wW, wM⟩, -⟩ := h.2.2.2.1 r hr
    have nA : ¬ V.1 r = V.1 k := fun z => hn (hi r hr (Or.inl z))
    have nI : ¬ V.2.1 r = V.2.1 k := fun z => hn (hi r hr (Or.inr (Or.inl z)))
    have nW : ¬ V.2.2.1 r = V.2.2.1 k := fun z => hn (hi r hr (Or.inr (Or.inr (Or.inl z))))
    have nM : ¬ V.2.2.2 r = V.2.2.2 k := fun z => hn (hi r hr (Or.inr (Or.inr (Or.inr z))))
    refine zcc.st (o _ ?_) (o _ ?_) (o _ ?_) (o _ ?_)
    · rintro (z | z | z | z)
      · exact nA z
      · exact n wA tI (by decide) z
      · exact n wA tW (by decide) z
      · exact n wA tM (by decide) z
    · rintro (z | z | z | z)
      · exact n wI tA (by decide) z
      · exact nI z
      · exact n wI tW (by decide) z
      · exact n wI tM (by decide) z
    · rintro (z | z | z | z)
      · exact n wW tA (by decide) z
      · exact n wW tI (by decide) z
      · exact nW z
      · exact n wW tM (by decide) z
    · rintro (z | z | z | z)
      · exact n wM tA (by decide) z
      · exact n wM tI (by decide) z
      · exact n wM tW (by decide) z
      · exact nM z
end ZLAY
end
-- 35x02.lay2
section
theorem zb_mod {x y : Int32} {n : Int} (hy : y.toInt = n) (h0 : 0 ≤ x.toInt) : (x - x / y * y).toInt = x.toInt % n := by
  rw [rem_toInt, hy, Int.tmod_eq_emod_of_nonneg h0]
section ZLAY2
variable {L : List Nat} {kd : Nat → Nat} {x0 : Nat} {V : zWh} {ps pc sl : Nat} {σ : zS} {κ : Int} {b : Nat}
/-- what cells of other kinds hold stays -/
def zOth (ks : List Nat) (L : List Nat) (kd : Nat → Nat) (f g : Nat → Nat → Int32) : Prop := ∀ c ∈ L, kd c ∉ ks → g c = f c
theorem zOth.tr {ks : List Nat} {f g e : Nat → Nat → Int32} (h : zOth ks L kd f g) (q : zOth ks L kd g e) : zOth ks L kd f e := fun c hc n => (q c hc n).trans (h c hc n)
theorem zCopyO (h : zLay L kd x0 σ.2.2 V ps pc sl) {k q : Nat} (hk : k < 45) (hq : q < 45) : zOth [1, 22, 23, 24] L kd σ.1 (F_X1_copy (V.1 k) (V.1 q) σ).1 := fun c hc n => by
  obtain ⟨⟨tA, tI, tW, tM⟩, -⟩ := h.2.2.2.1 k hk
  refine (zCopy h hk hq).2.2.2 c (fun z => n ?_)
  rcases z with rfl | rfl | rfl | rfl
  · rw [tA.2]; decide
  · rw [tI.2]; decide
  · rw [tW.2]; decide
  · rw [tM.2]; decide
theorem zPush (h : zLay L kd x0 σ.2.2 V ps pc sl) {k : Nat} (hk : k < 45) {n u : Nat} (hn : (σ.1 ps 1).toInt = n) (hn2 : n < 40) (hu : (σ.1 ps 2).toInt = u) (hu2 : u ≤ 40) : ∃ σ' : zS, F_X4_push ps (V.1 k) σ = σ' ∧ σ'.2 = σ.2 ∧ zcc V σ'.1 (5 + n) = zcc V σ.1 k ∧ (∀ r, r < 45 → r ≠ 5 + n → zcc V σ'.1 r = zcc V σ.1 r) ∧ (σ'.1 ps 1).toInt = ((n + 1) % 40 : Nat) ∧ (σ'.1 ps 2).toInt = (if u = 40 then 40 else u + 1 : Nat) ∧ zOth [1, 4, 22, 23, 24] L kd σ.1 σ'.1 := by
  obtain ⟨⟨h1, h2, h3, h4, h5⟩, h6, h7, h8, h9, t0, t1, t2, t3⟩ := id h
  have g0 : (σ.2.2 ps 0).getD 0 = pc := by rw [h5]; rfl
  have en : (σ.1 ps 1).toNatClampNeg = n := by rw [ztn, hn]; rfl
  have g1 : (σ.2.2 pc n).getD 0 = V.1 (5 + n) := by rw [h7 n hn2]; rfl
  obtain ⟨c1, c2, c3, c4⟩ := zCopy h (k := 5 + n) (q := k) (by omega) hk
  have co := zCopyO h (k := 5 + n) (q := k) (by omega) hk
  obtain ⟨s, hs⟩ : ∃ s, s = F_X1_copy (V.1 (5 + n)) (V.1 k) σ := ⟨_, rfl⟩
  rw [← hs] at c1 c2 c3 c4 co
  have ep : s.1 ps = σ.1 ps := co ps t1.1 (by rw [t1.2]; decide)
  have e1 : (1 : Int32).toInt = 1 := by decide
  have e40 : (40 : Int32).toInt = 40 := by decide
  have a1 : (s.1 ps 1 + (1 : Int32)).toInt = n + 1 := by rw [ep, zb_add (by rw [hn, e1]; omega) (by rw [hn, e1]; omega), hn, e1]
  obtain ⟨w1, hw1⟩ : ∃ w, w = s.1 ps 1 + (1 : Int32) - (s.1 ps 1 + (1 : Int32)) / (40 : Int32) * (40 : Int32) := ⟨_, rfl⟩
  have b1 : w1.toInt = ((n + 1) % 40 : Nat) := by rw [hw1, zb_mod e40 (by omega), a1]; omega
  have f2 : zu s.1 ps 1 w1 ps 2 = σ.1 ps 2 := by rw [zu_j _ _ _ _ _ (by decide), ep]
  have a2 : (σ.1 ps 2 + (1 : Int32)).toInt = u + 1 := by rw [zb_add (by rw [hu, e1]; omega) (by rw [hu, e1]; omega), hu, e1]
  obtain ⟨w2, hw2⟩ : ∃ w, w = if (40 : Int32).toInt ≤ (σ.1 ps 2 + (1 : Int32)).toInt then (40 : Int32) else σ.1 ps 2 + (1 : Int32) := ⟨_, rfl⟩
  have b2 : w2.toInt = (if u = 40 then 40 else u + 1 : Nat) := by
    rw [hw2, e40, a2]
    by_cases c : u = 40
    · rw [if_pos (by omega), if_pos c]; exact e40
    · by_cases c2 : u = 39
      · rw [if_pos (by omega), if_neg c, c2]; exact e40
      · rw [if_neg (by omega), if_neg c]; exact a2
  have E : F_X4_push ps (V.1 k) σ = (zu (zu s.1 ps 1 w1) ps 2 w2, s.2) := by
    unfold F_X4_push
    simp only [zlt, g0, en, g1]
    rw [← hs]
    simp only [← hw1, f2, ← hw2]
  refine ⟨_, E, c1, ?_, fun r hr hnr => ?_, ?_, ?_, fun c hc n => ?_⟩
  · rw [← c2]
    obtain ⟨⟨tA, tI, tW, tM⟩, -⟩ := h8 (5 + n) (by omega)
    have q : ∀ {c kc : Nat}, zT L kd c kc → kc ≠ 4 → zu (zu s.1 ps 1 w1) ps 2 w2 c = s.1 c := fun tc nk => by rw [zu_n _ _ _ (zNk tc t1 nk), zu_n _ _ _ (zNk tc t1 nk)]
    exact zcc.st (q tA (by decide)) (q tI (by decide)) (q tW (by decide)) (q tM (by decide))
  · rw [← c3 r hr hnr]
    obtain ⟨⟨tA, tI, tW, tM⟩, -⟩ := h8 r hr
    have q : ∀ {c kc : Nat}, zT L kd c kc → kc ≠ 4 → zu (zu s.1 ps 1 w1) ps 2 w2 c = s.1 c := fun tc nk => by rw [zu_n _ _ _ (zNk tc t1 nk), zu_n _ _ _ (zNk tc t1 nk)]
    exact zcc.st (q tA (by decide)) (q tI (by decide)) (q tW (by decide)) (q tM (by decide))
  · show (zu (zu s.1 ps 1 w1) ps 2 w2 ps 1).toInt = _
    rw [zu_j _ _ _ _ _ (by decide), zu_s]; exact b1
  · show (zu (zu s.1 ps 1 w1) ps 2 w2 ps 2).toInt = _
    rw [zu_s]; exact b2
  · have n4 : ¬ c = ps := fun e => n (by rw [e, t1.2]; decide)
    show zu (zu s.1 ps 1 w1) ps 2 w2 c = _
    rw [zu_n _ _ _ n4, zu_n _ _ _ n4]
    exact co c hc (fun z => n (by
      simp only [List.mem_cons, List.not_mem_nil, or_false] at z ⊢
      omega))
theorem zPop (h : zLay L kd x0 σ.2.2 V ps pc sl) {n u : Nat} (hn : (σ.1 ps 1).toInt = n) (hn2 : n < 40) (hu : (σ.1 ps 2).toInt = u) (hu2 : u ≤ 40) : (u = 0 → F_X4_pop ps (V.1 0) σ = (0, σ)) ∧ (u ≠ 0 → ∃ σ' : zS, F_X4_pop ps (V.1 0) σ = (1, σ') ∧ σ'.2 = σ.2 ∧ zcc V σ'.1 0 = zcc V σ.1 (5 + (n + 39) % 40) ∧ (∀ r, r < 45 → r ≠ 0 → zcc V σ'.1 r = zcc V σ.1 r) ∧ (σ'.1 ps 1).toInt = ((n + 39) % 40 : Nat) ∧ (σ'.1 ps 2).toInt = (u - 1 : Nat) ∧ zOth [1, 4, 22, 23, 24] L kd σ.1 σ'.1) := by
  obtain ⟨⟨h1, h2, h3, h4, h5⟩, h6, h7, h8, h9, t0, t1, t2, t3⟩ := id h
  have g0 : (σ.2.2 ps 0).getD 0 = pc := by rw [h5]; rfl
  have e1 : (1 : Int32).toInt = 1 := by decide
  have e40 : (40 : Int32).toInt = 40 := by decide
  constructor
  · intro c
    unfold F_X4_pop
    simp only [zlt]
    rw [if_pos (by omega)]
  · intro c
    have a1 : (σ.1 ps 1 + (40 : Int32)).toInt = n + 40 := by rw [zb_add (by rw [hn, e40]; omega) (by rw [hn, e40]; omega), hn, e40]
    have a2 : (σ.1 ps 1 + (40 : Int32) - (1 : Int32)).toInt = n + 39 := by rw [zb_sub (by rw [a1, e1]; omega) (by rw [a1, e1]; omega), a1, e1]; omega
    obtain ⟨w1, hw1⟩ : ∃ w, w = σ.1 ps 1 + (40 : Int32) - (1 : Int32) - (σ.1 ps 1 + (40 : Int32) - (1 : Int32)) / (40 : Int32) * (40 : Int32) := ⟨_, rfl⟩
    have b1 : w1.toInt = ((n + 39) % 40 : Nat) := by rw [hw1, zb_mod e40 (by omega), a2]; omega
    have f2 : zu σ.1 ps 1 w1 ps 2 = σ.1 ps 2 := zu_j _ _ _ _ _ (by decide)
    have b2 : (σ.1 ps 2 - (1 : Int32)).toInt = (u - 1 : Nat) := by rw [zb_sub (by rw [hu, e1]; omega) (by rw [hu, e1]; omega), hu, e1]; omega
    obtain ⟨f, hf⟩ : ∃ f, f = zu (zu σ.1 ps 1 w1) ps 2 (σ.1 ps 2 - (1 : Int32)) := ⟨_, rfl⟩
    have fp1 : f ps 1 = w1 := by rw [hf, zu_j _ _ _ _ _ (by decide), zu_s]
    have fp2 : f ps 2 = σ.1 ps 2 - (1 : Int32) := by rw [hf, zu_s]
    have en : w1.toNatClampNeg = (n + 39) % 40 := by rw [ztn, b1]; rfl
    have g1 : (σ.2.2 pc ((n + 39) % 40)).getD 0 = V.1 (5 + (n + 39) % 40) := by rw [h7 _ (by omega)]; rfl
    have hL : zLay L kd x0 ((f, σ.2) : zS).2.2 V ps pc sl := h
    obtain ⟨c1, c2, c3, c4⟩ := zCopy hL (k := 0) (q := 5 + (n + 39) % 40) (by decide) (by omega)
    have co := zCopyO hL (k := 0) (q := 5 + (n + 39) % 40) (by decide) (by omega)
    have E : F_X4_pop ps (V.1 0) σ = (1, F_X1_copy (V.1 0) (V.1 (5 + (n + 39) % 40)) (f, σ.2)) := by
      unfold F_X4_pop
      simp only [zlt]
      rw [if_neg (by omega)]
      simp only [← hw1, f2, ← hf]
      simp only [g0, fp1, en, g1]
    have fo : ∀ {c kc : Nat}, zT L kd c kc → kc ≠ 4 → f c = σ.1 c := fun tc nk => by rw [hf, zu_n _ _ _ (zNk tc t1 nk), zu_n _ _ _ (zNk tc t1 nk)]
    have fc : ∀ r, r < 45 → zcc V f r = zcc V σ.1 r := fun r hr => by
      obtain ⟨⟨tA, tI, tW, tM⟩, -⟩ := h8 r hr
      exact zcc.st (fo tA (by decide)) (fo tI (by decide)) (fo tW (by decide)) (fo tM (by decide))
    have ep : (F_X1_copy (V.1 0) (V.1 (5 + (n + 39) % 40)) (f, σ.2)).1 ps = f ps := co ps t1.1 (by rw [t1.2]; decide)
    refine ⟨_, E, c1, ?_, fun r hr hnr => ?_, ?_, ?_, fun c hc nn => ?_⟩
    · rw [c2]; exact fc _ (by omega)
    · rw [c3 r hr hnr]; exact fc r hr
    · rw [ep, fp1]; exact b1
    · rw [ep, fp2]; exact b2
    · have q := co c hc (fun z => nn (by
        simp only [List.mem_cons, List.not_mem_nil, or_false] at z ⊢
        omega))
      rw [q]
      have n4 : ¬ c = ps := fun e => nn (by rw [e, t1.2]; decide)
      show f c = _
      rw [hf, zu_n _ _ _ n4, zu_n _ _ _ n4]
end ZLAY2
end
-- 35x03.ref1
section
/-! THE REFERENCE'S ROWS: loops that copy, what they leave -/
/-- from k on up to N the row D holds what S held -/
def zcf (f : Nat → Nat → Int32) (D S dO sO k N : Nat) : Nat → Nat → Int32 := fun c => if c = D then (fun j => if dO + k ≤ j ∧ j < dO + N then f S (sO + (j - dO)) else f D j) else f c
theorem zcf_n {f : Nat → Nat → Int32} {D S dO sO k N c : Nat} (h : ¬ c = D) : zcf f D S dO sO k N c = f c := if_neg h
theorem zcf_i {f : Nat → Nat → Int32} {D S dO sO k N j : Nat} (h : dO + k ≤ j ∧ j < dO + N) : zcf f D S dO sO k N D j = f S (sO + (j - dO)) := by
  unfold zcf
  rw [if_pos rfl, if_pos h]
theorem zcf_o {f : Nat → Nat → Int32} {D S dO sO k N j : Nat} (h : ¬ (dO + k ≤ j ∧ j < dO + N)) : zcf f D S dO sO k N D j = f D j := by
  unfold zcf
  rw [if_pos rfl, if_neg h]
theorem zcf_s {f : Nat → Nat → Int32} {D S dO sO k N : Nat} (hk : k < N) (hD : D ≠ S ∨ dO ≤ sO) : zcf (zu f D (dO + k) (f S (sO + k))) D S dO sO (k + 1) N = zcf f D S dO sO k N := by
  funext c j
  by_cases c1 : c = D
  · subst c1
    by_cases c2 : dO + (k + 1) ≤ j ∧ j < dO + N
    · rw [zcf_i c2, zcf_i ⟨by omega, c2.2⟩]
      rcases hD with h | h
      · rw [zu_n _ _ _ (fun z => h z.symm)]
      · by_cases c3 : S = c
        · subst c3
          exact zu_j _ _ _ _ _ (by omega)
        · rw [zu_n _ _ _ c3]
    · rw [zcf_o c2]
      by_cases c3 : j = dO + k
      · subst c3
        rw [zu_s, zcf_i ⟨by omega, by omega⟩]
        congr 1
        omega
      · rw [zu_j _ _ _ _ _ (fun z => c3 z.symm), zcf_o (by omega)]
  · rw [zcf_n c1, zcf_n c1, zu_n _ _ _ c1]
theorem zcf_e {f : Nat → Nat → Int32} {D S dO sO N : Nat} : zcf f D S dO sO N N = f := by
  funext c j
  by_cases c1 : c = D
  · subst c1; exact zcf_o (by omega)
  · rw [zcf_n c1]
theorem zLoopC {α : Type} {G : Nat → Int32 → zS → α} {E : zS → α} {D S dO sO N m0 : Nat} {σ : zS} (hD : D ≠ S ∨ dO ≤ sO) (hm : D ≠ m0) (hN : N < 4000)
    (step : ∀ (n : Nat) (x : Int32) (k : Nat) (τ : zS), x.toInt = k → k < N → τ.2 = σ.2 → τ.1 m0 = σ.1 m0 → G (n + 1) x τ = G n (x + (1 : Int32)) (zu τ.1 D (dO + k) (τ.1 S (sO + k)), τ.2))
    (stop : ∀ (n : Nat) (x : Int32) (τ : zS), x.toInt = N → τ.2 = σ.2 → τ.1 m0 = σ.1 m0 → G (n + 1) x τ = E τ) :
    ∀ (n : Nat) (x : Int32) (k : Nat) (τ : zS), x.toInt = k → k ≤ N → N - k < n → τ.2 = σ.2 → τ.1 m0 = σ.1 m0 → G n x τ = E (zcf τ.1 D S dO sO k N, τ.2) := by
  intro n
  induction n with
  | zero => intro x k τ _ _ h; exact absurd h (by omega)
  | succ n ih =>
    intro x k τ hx hk hm2 h2 h0
    by_cases c : k = N
    · subst c
      rw [stop n x τ hx h2 h0, zcf_e]
    · rw [step n x k τ hx (by omega) h2 h0, ih (x + (1 : Int32)) (k + 1) (zu τ.1 D (dO + k) (τ.1 S (sO + k)), τ.2) (zp1 hx (by omega)) (by omega) (by omega) h2 (by
        show zu τ.1 D (dO + k) _ m0 = _
        rw [zu_n _ _ _ (fun z => hm z.symm)]
        exact h0)]
      show E (zcf (zu τ.1 D (dO + k) (τ.1 S (sO + k))) D S dO sO (k + 1) N, τ.2) = _
      rw [zcf_s (by omega) hD]
/-- where the reference's row of a slot lies -/
abbrev mR (σ : zS) (m0 s : Nat) : Nat := (σ.2.2 m0 s).getD 0
section REFA
variable {L : List Nat} {kd : Nat → Nat} {m0 : Nat} {σ σ' τ : zS} {κ : Int}
theorem mR_t (hJ : zJ κ L kd σ) (hm : zT L kd m0 11) {s k : Nat} (h : zf 0 11 s = some k) : zT L kd (mR σ m0 s) k := by
  obtain ⟨y, h1, h2⟩ := zj_ref (j := s) hJ hm h
  rw [show mR σ m0 s = y by rw [mR, h1]; rfl]
  exact h2
theorem mR_ne (hJ : zJ κ L kd σ) (hm : zT L kd m0 11) {s s' k k' : Nat} (h : zf 0 11 s = some k) (h' : zf 0 11 s' = some k') (n : k ≠ k') : mR σ m0 s ≠ mR σ m0 s' := zNk (mR_t hJ hm h) (mR_t hJ hm h') n
theorem mR_m (hJ : zJ κ L kd σ) (hm : zT L kd m0 11) {s k : Nat} (h : zf 0 11 s = some k) (n : k ≠ 11) : mR σ m0 s ≠ m0 := zNk (mR_t hJ hm h) hm n
/-- keepsRow: now is the row -/
theorem zKeep (hJ : zJ κ L kd σ) (hm : zT L kd m0 11) (h2 : τ.2 = σ.2) : F_X11_keepsRow m0 τ = (zcf τ.1 (mR σ m0 48) (mR σ m0 49) 0 0 0 50, σ.2) := by
  have e50 : (50 : Int32).toInt = 50 := by decide
  have r : ∀ (ρ : zS) s, ρ.2 = σ.2 → (ρ.2.2 m0 s).getD 0 = mR σ m0 s := fun ρ s h => by rw [mR, h]
  unfold F_X11_keepsRow
  simp only [zlt]
  rw [zLoopC (E := fun s => s) (G := F_X11_keepsRow_2 m0) (D := mR σ m0 48) (S := mR σ m0 49) (dO := 0) (sO := 0) (N := 50) (m0 := m0) (σ := τ) (Or.inr (Nat.le_refl _)) (mR_m hJ hm (by rfl) (by decide)) (by decide) ?_ ?_ 10000 0 0 τ (by decide) (by decide) (by decide) rfl rfl]
  · rw [h2]
  · intro n x k ρ hx hk q2 _
    have q := q2.trans h2
    have en : x.toNatClampNeg = k := by rw [ztn, hx]; rfl
    rw [F_X11_keepsRow_2]
    simp only [zlt, e50]
    rw [if_pos (by omega), r ρ 48 q, r ρ 49 q, en, Nat.zero_add]
  · intro n x ρ hx _ _
    rw [F_X11_keepsRow_2]
    simp only [zlt, e50]
    rw [if_neg (by omega)]
/-- the row as copies leaves it ahead of its fills -/
def zCp (m0 : Nat) (σ τ : zS) : zS := (zu (zu (zcf τ.1 (mR σ m0 49) (mR σ m0 48) 0 0 0 50) m0 50 (τ.1 (mR σ m0 29) (τ.1 m0 18).toNatClampNeg)) m0 51 0, σ.2)
theorem zCopies (hJ : zJ κ L kd σ) (hm : zT L kd m0 11) (h2 : τ.2 = σ.2) : F_X11_copies m0 τ = F_X11_fillsFlows m0 0 (F_X11_fillsWays m0 (zCp m0 σ τ)) := by
  have e50 : (50 : Int32).toInt = 50 := by decide
  have r : ∀ (ρ : zS) s, ρ.2 = σ.2 → (ρ.2.2 m0 s).getD 0 = mR σ m0 s := fun ρ s h => by rw [mR, h]
  unfold F_X11_copies
  simp only [zlt]
  rw [zLoopC (E := fun s => F_X11_fillsFlows m0 0 (F_X11_fillsWays m0 (zu (zu s.1 m0 50 (s.1 (mR σ m0 29) (s.1 m0 18).toNatClampNeg)) m0 51 0, s.2))) (G := F_X11_copies_2 m0) (D := mR σ m0 49) (S := mR σ m0 48) (dO := 0) (sO := 0) (N := 50) (m0 := m0) (σ := τ) (Or.inr (Nat.le_refl _)) (mR_m hJ hm (by rfl) (by decide)) (by decide) ?_ ?_ 10000 0 0 τ (by decide) (by decide) (by decide) rfl rfl]
  · unfold zCp
    have e29 : ¬ mR σ m0 29 = mR σ m0 49 := mR_ne hJ hm (s := 29) (s' := 49) (k := 129) (k' := 149) (by rfl) (by rfl) (by decide)
    have em : ¬ m0 = mR σ m0 49 := fun z => mR_m hJ hm (s := 49) (k := 149) (by rfl) (by decide) z.symm
    show F_X11_fillsFlows m0 0 (F_X11_fillsWays m0 (zu (zu (zcf τ.1 (mR σ m0 49) (mR σ m0 48) 0 0 0 50) m0 50 (zcf τ.1 (mR σ m0 49) (mR σ m0 48) 0 0 0 50 (mR σ m0 29) (zcf τ.1 (mR σ m0 49) (mR σ m0 48) 0 0 0 50 m0 18).toNatClampNeg)) m0 51 0, τ.2)) = _
    rw [zcf_n e29, zcf_n em, h2]
  · intro n x k ρ hx hk q2 _
    have q := q2.trans h2
    have en : x.toNatClampNeg = k := by rw [ztn, hx]; rfl
    rw [F_X11_copies_2]
    simp only [zlt, e50]
    rw [if_pos (by omega), r ρ 49 q, r ρ 48 q, en, Nat.zero_add]
  · intro n x ρ hx q2 _
    have q := q2.trans h2
    rw [F_X11_copies_2]
    simp only [zlt, e50]
    rw [if_neg (by omega), r ρ 29 q]
end REFA
end
-- 35x04.ref2
section
theorem zb_mul {x y : Int32} (h1 : -2147483648 ≤ x.toInt * y.toInt) (h2 : x.toInt * y.toInt ≤ 2147483647) : (x * y).toInt = x.toInt * y.toInt := by
  rw [Int32.toInt_mul, Int.bmod_eq_of_le (by omega) (by omega)]
section REFB
variable {L : List Nat} {kd : Nat → Nat} {m0 : Nat} {σ σ' τ : zS} {κ : Int}
/-- now goes into the history behind u - 1, then the row becomes now -/
def zRcU (m0 H N W : Nat) (f : Nat → Nat → Int32) (u : Nat) : Nat → Nat → Int32 := zcf (zu (zcf f H N (50 * u) 0 0 50) m0 57 (f m0 57 + (1 : Int32))) N W 0 0 0 50
theorem zRec_t (hJ : zJ κ L kd σ) (hm : zT L kd m0 11) (h2 : τ.2 = σ.2) {u : Nat} (hu : (τ.1 m0 57).toInt = u) (hu2 : u < 40) (G : Nat → Int32 → zS → zS)
    (hG : ∀ (n : Nat) (x : Int32) (ρ : zS), G (n + 1) x ρ = if x.toInt < (50 : Int32).toInt then G n (x + (1 : Int32)) (zu ρ.1 ((ρ.2.2 m0 58).getD 0) ((50 : Int32) * ρ.1 m0 57 + x).toNatClampNeg (ρ.1 ((ρ.2.2 m0 48).getD 0) x.toNatClampNeg), ρ.2.1, ρ.2.2) else F_X11_keepsRow m0 (zu ρ.1 m0 57 (ρ.1 m0 57 + (1 : Int32)), ρ.2.1, ρ.2.2)) : G 10000 0 τ = (zRcU m0 (mR σ m0 58) (mR σ m0 48) (mR σ m0 49) τ.1 u, σ.2) := by
  have e50 : (50 : Int32).toInt = 50 := by decide
  have r : ∀ (ρ : zS) s, ρ.2 = σ.2 → (ρ.2.2 m0 s).getD 0 = mR σ m0 s := fun ρ s h => by rw [mR, h]
  have hHm : mR σ m0 58 ≠ m0 := mR_m hJ hm (s := 58) (k := 158) (by rfl) (by decide)
  rw [zLoopC (E := fun s => F_X11_keepsRow m0 (zu s.1 m0 57 (s.1 m0 57 + (1 : Int32)), s.2)) (G := G) (D := mR σ m0 58) (S := mR σ m0 48) (dO := 50 * u) (sO := 0) (N := 50) (m0 := m0) (σ := τ) (Or.inl (mR_ne hJ hm (s := 58) (s' := 48) (k := 158) (k' := 148) (by rfl) (by rfl) (by decide))) hHm (by decide) ?_ ?_ 10000 0 0 τ (by decide) (by decide) (by decide) rfl rfl]
  · have k := zKeep (τ := (zu (zcf τ.1 (mR σ m0 58) (mR σ m0 48) (50 * u) 0 0 50) m0 57 (zcf τ.1 (mR σ m0 58) (mR σ m0 48) (50 * u) 0 0 50 m0 57 + (1 : Int32)), τ.2)) hJ hm h2
    refine Eq.trans k ?_
    show (zcf (zu (zcf τ.1 _ _ _ _ _ _) m0 57 (zcf τ.1 _ _ _ _ _ _ m0 57 + (1 : Int32))) _ _ _ _ _ _, σ.2) = _
    rw [zcf_n (fun z => hHm z.symm)]
    rfl
  · intro n x k ρ hx hk q2 q0
    have q := q2.trans h2
    have en : x.toNatClampNeg = k := by rw [ztn, hx]; rfl
    have eu : ((50 : Int32) * ρ.1 m0 57).toInt = 50 * u := by rw [zb_mul (by rw [e50, q0, hu]; omega) (by rw [e50, q0, hu]; omega), e50, q0, hu]
    have ei : ((50 : Int32) * ρ.1 m0 57 + x).toNatClampNeg = 50 * u + k := by
      rw [ztn, zb_add (by rw [eu, hx]; omega) (by rw [eu, hx]; omega), eu, hx]
      omega
    rw [hG, e50, if_pos (by omega), r ρ 58 q, r ρ 48 q, en, ei, Nat.zero_add]
  · intro n x ρ hx _ _
    rw [hG, e50, if_neg (by omega)]
theorem zRec (hJ : zJ κ L kd σ) (hm : zT L kd m0 11) (h2 : τ.2 = σ.2) {u : Nat} (hu : (τ.1 m0 57).toInt = u) (hu2 : u ≤ 40) : F_X11_records m0 τ = (if u = 40 then zRcU m0 (mR σ m0 58) (mR σ m0 48) (mR σ m0 49) (zu (zcf τ.1 (mR σ m0 58) (mR σ m0 58) 0 50 0 1950) m0 57 (τ.1 m0 57 - (1 : Int32))) 39 else zRcU m0 (mR σ m0 58) (mR σ m0 48) (mR σ m0 49) τ.1 u, σ.2) := by
  have e50 : (50 : Int32).toInt = 50 := by decide
  have e40 : (40 : Int32).toInt = 40 := by decide
  have e1 : (1 : Int32).toInt = 1 := by decide
  have e1950 : (1950 : Int32).toInt = 1950 := by decide
  have r : ∀ (ρ : zS) s, ρ.2 = σ.2 → (ρ.2.2 m0 s).getD 0 = mR σ m0 s := fun ρ s h => by rw [mR, h]
  have hHm : mR σ m0 58 ≠ m0 := mR_m hJ hm (s := 58) (k := 158) (by rfl) (by decide)
  unfold F_X11_records
  simp only [zlt, e40]
  by_cases c : u = 40
  · rw [if_pos (by omega), if_pos c]
    rw [zLoopC (E := fun s => (zRcU m0 (mR σ m0 58) (mR σ m0 48) (mR σ m0 49) (zu s.1 m0 57 (s.1 m0 57 - (1 : Int32))) 39, σ.2)) (G := F_X11_records_11 m0) (D := mR σ m0 58) (S := mR σ m0 58) (dO := 0) (sO := 50) (N := 1950) (m0 := m0) (σ := τ) (Or.inr (by decide)) hHm (by decide) ?_ ?_ 10000 0 0 τ (by decide) (by decide) (by decide) rfl rfl]
    · show (zRcU m0 _ _ _ (zu (zcf τ.1 _ _ _ _ _ _) m0 57 (zcf τ.1 _ _ _ _ _ _ m0 57 - (1 : Int32))) 39, σ.2) = _
      rw [zcf_n (fun z => hHm z.symm)]
    · intro n x k ρ hx hk q2 _
      have q := q2.trans h2
      have en : x.toNatClampNeg = k := by rw [ztn, hx]; rfl
      have ei : (x + (50 : Int32)).toNatClampNeg = 50 + k := by
        rw [ztn, zb_add (by rw [hx, e50]; omega) (by rw [hx, e50]; omega), hx, e50]
        omega
      rw [F_X11_records_11]
      simp only [zlt, e1950]
      rw [if_pos (by omega), r ρ 58 q, en, ei, Nat.zero_add]
    · intro n x ρ hx q2 q0
      have q := q2.trans h2
      rw [F_X11_records_11]
      simp only [zlt, e1950]
      rw [if_neg (by omega)]
      have u39 : (ρ.1 m0 57 - (1 : Int32)).toInt = (39 : Nat) := by rw [q0, zb_sub (by rw [hu, e1]; omega) (by rw [hu, e1]; omega), hu, e1, c]; rfl
      exact zRec_t (τ := (zu ρ.1 m0 57 (ρ.1 m0 57 - (1 : Int32)), ρ.2.1, ρ.2.2)) hJ hm q (by show (zu ρ.1 m0 57 _ m0 57).toInt = _; rw [zu_s]; exact u39) (by decide) _ (fun n x ρ => by rw [F_X11_records_51_1]; simp only [zlt])
  · rw [if_neg (by omega), if_neg c]
    exact zRec_t hJ hm h2 hu (by omega) _ (fun n x ρ => by rw [F_X11_records_51]; simp only [zlt])
/-- a row of the reference: 50 numbers -/
def rC (f : Nat → Nat → Int32) (r o : Nat) : Nat → Int32 := fun j => if j < 50 then f r (o + j) else 0
theorem rC_e {f g : Nat → Nat → Int32} {r r' o o' : Nat} (h : ∀ j, j < 50 → f r (o + j) = g r' (o' + j)) : rC f r o = rC g r' o' := by
  funext j
  unfold rC
  by_cases c : j < 50
  · rw [if_pos c, if_pos c, h j c]
  · rw [if_neg c, if_neg c]
/-- what records does, told: the history, now, all else -/
theorem zRec2 (hJ : zJ κ L kd σ) (hm : zT L kd m0 11) (h2 : τ.2 = σ.2) {u : Nat} (hu : (τ.1 m0 57).toInt = u) (hu2 : u ≤ 40) : ∃ f : Nat → Nat → Int32, F_X11_records m0 τ = (f, σ.2) ∧ (f m0 57).toInt = (if u = 40 then 40 else u + 1 : Nat) ∧ (∀ j, j < 50 → f (mR σ m0 48) j = τ.1 (mR σ m0 49) j) ∧ rC f (mR σ m0 58) (50 * (if u = 40 then 39 else u)) = rC τ.1 (mR σ m0 48) 0 ∧ (∀ i, i < (if u = 40 then 39 else u) → rC f (mR σ m0 58) (50 * i) = rC τ.1 (mR σ m0 58) (50 * (if u = 40 then i + 1 else i))) ∧ (∀ j, j ≠ 57 → f m0 j = τ.1 m0 j) ∧ ∀ c, c ≠ m0 → c ≠ mR σ m0 58 → c ≠ mR σ m0 48 → f c = τ.1 c := by
  have hHm : mR σ m0 58 ≠ m0 := mR_m hJ hm (s := 58) (k := 158) (by rfl) (by decide)
  have hNm : mR σ m0 48 ≠ m0 := mR_m hJ hm (s := 48) (k := 148) (by rfl) (by decide)
  have hWm : mR σ m0 49 ≠ m0 := mR_m hJ hm (s := 49) (k := 149) (by rfl) (by decide)
  have hHN : mR σ m0 58 ≠ mR σ m0 48 := mR_ne hJ hm (s := 58) (s' := 48) (k := 158) (k' := 148) (by rfl) (by rfl) (by decide)
  have hWN : mR σ m0 49 ≠ mR σ m0 48 := mR_ne hJ hm (s := 49) (s' := 48) (k := 149) (k' := 148) (by rfl) (by rfl) (by decide)
  have hWH : mR σ m0 49 ≠ mR σ m0 58 := mR_ne hJ hm (s := 49) (s' := 58) (k := 149) (k' := 158) (by rfl) (by rfl) (by decide)
  have e1 : (1 : Int32).toInt = 1 := by decide
  -- the common part
  have key : ∀ (g : Nat → Nat → Int32) (v : Nat), v < 40 → (g m0 57).toInt = v → (zRcU m0 (mR σ m0 58) (mR σ m0 48) (mR σ m0 49) g v m0 57).toInt = (v + 1 : Nat) ∧ (∀ j, j < 50 → zRcU m0 (mR σ m0 58) (mR σ m0 48) (mR σ m0 49) g v (mR σ m0 48) j = g (mR σ m0 49) j) ∧ (∀ j, j < 50 → zRcU m0 (mR σ m0 58) (mR σ m0 48) (mR σ m0 49) g v (mR σ m0 58) (50 * v + j) = g (mR σ m0 48) j) ∧ (∀ j, j < 50 * v → zRcU m0 (mR σ m0 58) (mR σ m0 48) (mR σ m0 49) g v (mR σ m0 58) j = g (mR σ m0 58) j) ∧ (∀ j, j ≠ 57 → zRcU m0 (mR σ m0 58) (mR σ m0 48) (mR σ m0 49) g v m0 j = g m0 j) ∧ ∀ c, c ≠ m0 → c ≠ mR σ m0 58 → c ≠ mR σ m0 48 → zRcU m0 (mR σ m0 58) (mR σ m0 48) (mR σ m0 49) g v c = g c := fun g v hv hg => by
    unfold zRcU
    refine ⟨?_, fun j hj => ?_, fun j hj => ?_, fun j hj => ?_, fun j hj => ?_, fun c h1 h2 h3 => ?_⟩
    · rw [zcf_n (fun z => hNm z.symm), zu_s, zb_add (by rw [hg, e1]; omega) (by rw [hg, e1]; omega), hg, e1]; rfl
    · rw [zcf_i ⟨by omega, by omega⟩, zu_n _ _ _ hWm, zcf_n hWH]
      congr 1
      omega
    · rw [zcf_n hHN, zu_n _ _ _ hHm, zcf_i ⟨by omega, by omega⟩]
      congr 1
      omega
    · rw [zcf_n hHN, zu_n _ _ _ hHm, zcf_o (by omega)]
    · rw [zcf_n (fun z => hNm z.symm), zu_j _ _ _ _ _ (fun z => hj z.symm), zcf_n (fun z => hHm z.symm)]
    · rw [zcf_n h3, zu_n _ _ _ h1, zcf_n h2]
  by_cases c : u = 40
  · obtain ⟨g, hg⟩ : ∃ g, g = zu (zcf τ.1 (mR σ m0 58) (mR σ m0 58) 0 50 0 1950) m0 57 (τ.1 m0 57 - (1 : Int32)) := ⟨_, rfl⟩
    have g57 : (g m0 57).toInt = (39 : Nat) := by rw [hg, zu_s, zb_sub (by rw [hu, e1]; omega) (by rw [hu, e1]; omega), hu, e1, c]; rfl
    have gn : ∀ d, d ≠ m0 → d ≠ mR σ m0 58 → g d = τ.1 d := fun d h3 h4 => by rw [hg, zu_n _ _ _ h3, zcf_n h4]
    have gh : ∀ j, j < 1950 → g (mR σ m0 58) j = τ.1 (mR σ m0 58) (50 + j) := fun j hj => by
      rw [hg, zu_n _ _ _ hHm, zcf_i ⟨by omega, by omega⟩]
      congr 1
    obtain ⟨k1, k2, k3, k4, k5, k6⟩ := key g 39 (by decide) g57
    refine ⟨_, (zRec hJ hm h2 hu hu2).trans (by rw [if_pos c, ← hg]), by rw [if_pos c]; exact k1, fun j hj => (k2 j hj).trans (by rw [gn _ hWm hWH]), ?_, fun i hi => ?_, fun j hj => (k5 j hj).trans ?_, fun d h3 h4 h5 => (k6 d h3 h4 h5).trans (gn d h3 h4)⟩
    · rw [if_pos c]
      refine rC_e (fun j hj => (k3 j hj).trans ?_)
      rw [gn _ hNm (fun z => hHN z.symm), Nat.zero_add]
    · rw [if_pos c] at hi
      rw [if_pos c]
      refine rC_e (fun j hj => (k4 _ (by omega)).trans ?_)
      rw [gh _ (by omega)]
      exact congrArg _ (by omega)
    · rw [hg, zu_j _ _ _ _ _ (fun z => hj z.symm), zcf_n (fun z => hHm z.symm)]
  · obtain ⟨k1, k2, k3, k4, k5, k6⟩ := key τ.1 u (by omega) hu
    refine ⟨_, (zRec hJ hm h2 hu hu2).trans (by rw [if_neg c]), by rw [if_neg c]; exact k1, k2, ?_, fun i hi => ?_, k5, k6⟩
    · rw [if_neg c]
      refine rC_e (fun j hj => (k3 j hj).trans ?_)
      rw [Nat.zero_add]
    · rw [if_neg c] at hi
      rw [if_neg c]
      exact rC_e (fun j hj => k4 _ (by omega))
end REFB
end
-- 35x05.ref3
section
theorem zf_100 {s : Nat} (h : zf 0 11 s = some (100 + s)) : 100 + s ≠ 11 := by omega
section REFC
variable {L : List Nat} {kd : Nat → Nat} {m0 : Nat} {σ σ' τ : zS} {κ : Int}
/-- places of the reference: numbers of its own, rows -/
def zFm (F S : List Nat) (m0 : Nat) (R : Nat → Nat → Option Nat) : Nat → Nat → Prop := fun c j => (c = m0 ∧ j ∈ F) ∨ ∃ s ∈ S, c = (R m0 s).getD 0
theorem zFm.f {F S : List Nat} {R : Nat → Nat → Option Nat} {j : Nat} (h : F.contains j = true) : zFm F S m0 R m0 j := Or.inl ⟨rfl, by simpa using h⟩
theorem zFm.s {F S : List Nat} {R : Nat → Nat → Option Nat} {s : Nat} (h : S.contains s = true) : ∀ j, zFm F S m0 R ((R m0 s).getD 0) j := fun _ => Or.inr ⟨s, by simpa using h, rfl⟩
/-- a row that isn't among them stays -/
theorem zFm.row {F S : List Nat} (hJ : zJ κ L kd σ) (hm : zT L kd m0 11) (g : zFr (zFm F S m0 σ.2.2) σ σ') {s : Nat} (hs : zf 0 11 s = some (100 + s)) (hS : S.all (fun t => zf 0 11 t == some (100 + t)) = true) (h : S.contains s = false) : σ'.1 (mR σ m0 s) = σ.1 (mR σ m0 s) := by
  funext j
  refine g.2 _ j ?_
  rintro (⟨e, -⟩ | ⟨t, ht, e⟩)
  · exact mR_m hJ hm hs (by have := zf_100 hs; omega) e
  · have h1 := List.all_eq_true.mp hS t ht
    have h2 : zf 0 11 t = some (100 + t) := by simpa using h1
    have hn : s ≠ t := fun z => by
      subst z
      simp [ht] at h
    exact mR_ne hJ hm hs h2 (by omega) e
theorem zFm.fld {F S : List Nat} (hJ : zJ κ L kd σ) (hm : zT L kd m0 11) (g : zFr (zFm F S m0 σ.2.2) σ σ') (hS : S.all (fun t => zf 0 11 t == some (100 + t)) = true) {j : Nat} (h : F.contains j = false) : σ'.1 m0 j = σ.1 m0 j := by
  refine g.2 _ j ?_
  rintro (⟨-, e⟩ | ⟨t, ht, e⟩)
  · simp [e] at h
  · have h1 := List.all_eq_true.mp hS t ht
    have h2 : zf 0 11 t = some (100 + t) := by simpa using h1
    exact mR_m hJ hm h2 (by have := zf_100 h2; omega) e.symm
end REFC
end
-- 35x06.ref4
section
section REFD
variable {L : List Nat} {kd : Nat → Nat} {m0 : Nat} {σ σ' τ : zS} {κ : Int}
/-- copies: the row is now; what else is written -/
theorem zCopies2 (hJ : zJ κ L kd σ) (hm : zT L kd m0 11) : (F_X11_copies m0 σ).2 = σ.2 ∧ (∀ j, j < 50 → (F_X11_copies m0 σ).1 (mR σ m0 49) j = σ.1 (mR σ m0 48) j) ∧ zFr (zFm [50, 51, 47] [49, 54, 52, 53, 45, 46, 55] m0 σ.2.2) σ (F_X11_copies m0 σ) := by
  have g : zFr (zFm [50, 51, 47] [49, 54, 52, 53, 45, 46, 55] m0 σ.2.2) σ (F_X11_copies m0 σ) := fr_X11_copies zFr.id (zFm.s rfl) (zFm.f rfl) (zFm.f rfl) (zFm.s rfl) (zFm.s rfl) (zFm.s rfl) (zFm.s rfl) (zFm.f rfl) (zFm.s rfl) (zFm.s rfl)
  refine ⟨g.1, fun j hj => ?_, g⟩
  rw [zCopies hJ hm rfl]
  have e2 : (zCp m0 σ σ).2.2 = σ.2.2 := rfl
  have g1 : zFr (zFm [47] [54, 52, 53, 45, 46, 55] m0 σ.2.2) (zCp m0 σ σ) (F_X11_fillsWays m0 (zCp m0 σ σ)) := fr_X11_fillsWays zFr.id (by rw [e2]; exact zFm.s rfl) (by rw [e2]; exact zFm.s rfl) (by rw [e2]; exact zFm.s rfl)
  have g2 : zFr (zFm [47] [54, 52, 53, 45, 46, 55] m0 σ.2.2) (zCp m0 σ σ) (F_X11_fillsFlows m0 0 (F_X11_fillsWays m0 (zCp m0 σ σ))) := fr_X11_fillsFlows g1 (by rw [e2]; exact zFm.s rfl) (zFm.f rfl) (by rw [e2]; exact zFm.s rfl) (by rw [e2]; exact zFm.s rfl)
  have rm : mR σ m0 49 ≠ m0 := mR_m hJ hm (s := 49) (k := 149) (by rfl) (by decide)
  rw [g2.2 (mR σ m0 49) j (by
    rintro (⟨e, -⟩ | ⟨t, ht, e⟩)
    · exact rm e
    · have h2 : zf 0 11 t = some (100 + t) ∧ t ≠ 49 := by
        simp only [List.mem_cons, List.not_mem_nil, or_false] at ht
        rcases ht with rfl | rfl | rfl | rfl | rfl | rfl <;> exact ⟨by rfl, by decide⟩
      exact mR_ne hJ hm (s := 49) (s' := t) (k := 149) (by rfl) h2.1 (by omega) e)]
  show zu (zu (zcf σ.1 (mR σ m0 49) (mR σ m0 48) 0 0 0 50) m0 50 _) m0 51 0 (mR σ m0 49) j = _
  rw [zu_n _ _ _ rm, zu_n _ _ _ rm, zcf_i ⟨by omega, by omega⟩]
  exact congrArg _ (by omega)
theorem rC_i {f : Nat → Nat → Int32} {r o j : Nat} (h : j < 50) : rC f r o j = f r (o + j) := if_pos h
def updR (r : Nat → Int32) (k : Nat) (v : Int32) : Nat → Int32 := fun j => if j = k then v else r j
/-- the history and what else a deed leaves (now' is the new now) -/
def zDone (σ : zS) (m0 : Nat) (u : Nat) (now' : Nat → Int32) (f : zS) : Prop := f.2 = σ.2 ∧ (f.1 m0 57).toInt = (if u = 40 then 40 else u + 1 : Nat) ∧ rC f.1 (mR σ m0 48) 0 = now' ∧ rC f.1 (mR σ m0 58) (50 * (if u = 40 then 39 else u)) = rC σ.1 (mR σ m0 48) 0 ∧ (∀ i, i < (if u = 40 then 39 else u) → rC f.1 (mR σ m0 58) (50 * i) = rC σ.1 (mR σ m0 58) (50 * (if u = 40 then i + 1 else i))) ∧ f.1 m0 18 = σ.1 m0 18 ∧ f.1 m0 62 = σ.1 m0 62 ∧ f.1 (mR σ m0 21) = σ.1 (mR σ m0 21) ∧ f.1 (mR σ m0 67) = σ.1 (mR σ m0 67) ∧ f.1 (mR σ m0 68) = σ.1 (mR σ m0 68)
/-- records, behind what leaves all but rows of its own -/
theorem zDone.of (hJ : zJ κ L kd σ) (hm : zT L kd m0 11) {u : Nat} (hu : (σ.1 m0 57).toInt = u) (hu2 : u ≤ 40) {F S : List Nat} (g : zFr (zFm F S m0 σ.2.2) σ τ) (hS : S.all (fun t => zf 0 11 t == some (100 + t)) = true) (hF : ([18, 57, 62].all (fun j => !(F.contains j))) = true) (hS2 : ([21, 48, 58, 67, 68].all (fun j => !(S.contains j))) = true) {now' : Nat → Int32} (hn : rC τ.1 (mR σ m0 49) 0 = now') : zDone σ m0 u now' (F_X11_records m0 τ) := by
  have fF : ∀ j, j = 18 ∨ j = 57 ∨ j = 62 → F.contains j = false := fun j hj => by
    have q := List.all_eq_true.mp hF j (by rcases hj with rfl | rfl | rfl <;> decide)
    simpa using q
  have fS : ∀ j, j = 21 ∨ j = 48 ∨ j = 58 ∨ j = 67 ∨ j = 68 → S.contains j = false := fun j hj => by
    have q := List.all_eq_true.mp hS2 j (by rcases hj with rfl | rfl | rfl | rfl | rfl <;> decide)
    simpa using q
  have k18 := zFm.fld hJ hm g hS (fF 18 (by omega))
  have k57 := zFm.fld hJ hm g hS (fF 57 (by omega))
  have k62 := zFm.fld hJ hm g hS (fF 62 (by omega))
  have r21 := zFm.row hJ hm g (s := 21) (by rfl) hS (fS 21 (by omega))
  have r48 := zFm.row hJ hm g (s := 48) (by rfl) hS (fS 48 (by omega))
  have r58 := zFm.row hJ hm g (s := 58) (by rfl) hS (fS 58 (by omega))
  have r67 := zFm.row hJ hm g (s := 67) (by rfl) hS (fS 67 (by omega))
  have r68 := zFm.row hJ hm g (s := 68) (by rfl) hS (fS 68 (by omega))
  obtain ⟨f, f0, f1, f2, f3, f4, f5, f6⟩ := zRec2 hJ hm g.1 (u := u) (by rw [k57]; exact hu) hu2
  have ne : ∀ s : Nat, zf 0 11 s = some (100 + s) → s ≠ 58 → s ≠ 48 → f (mR σ m0 s) = τ.1 (mR σ m0 s) := fun s hs h1 h2 => f6 _ (mR_m hJ hm hs (by omega)) (mR_ne hJ hm hs (s' := 58) (k' := 158) (by rfl) (by omega)) (mR_ne hJ hm hs (s' := 48) (k' := 148) (by rfl) (by omega))
  rw [f0]
  refine ⟨rfl, f1, ?_, f3.trans (rC_e (fun j _ => by rw [r48])), fun i hi => (f4 i hi).trans (rC_e (fun j _ => by rw [r58])), ?_, ?_, ?_, ?_, ?_⟩
  · rw [← hn]
    exact rC_e (fun j hj => by rw [Nat.zero_add]; exact f2 j hj)
  · exact (f5 18 (by decide)).trans k18
  · exact (f5 62 (by decide)).trans k62
  · exact (ne 21 (by rfl) (by decide) (by decide)).trans r21
  · exact (ne 67 (by rfl) (by decide) (by decide)).trans r67
  · exact (ne 68 (by rfl) (by decide) (by decide)).trans r68
theorem zDoes (hJ : zJ κ L kd σ) (hm : zT L kd m0 11) {u : Nat} (hu : (σ.1 m0 57).toInt = u) (hu2 : u ≤ 40) {p v : Int32} {k : Nat} (hp : p.toInt = k) (hk : k < 50) : zDone σ m0 u (updR (rC σ.1 (mR σ m0 48) 0) k v) (F_X11_does m0 p v σ) := by
  obtain ⟨c1, c2, c3⟩ := zCopies2 hJ hm
  have en : p.toNatClampNeg = k := by rw [ztn, hp]; rfl
  have er : ((F_X11_copies m0 σ).2.2 m0 49).getD 0 = mR σ m0 49 := by rw [c3.rf]
  unfold F_X11_does
  simp only [zlt, er, en]
  refine zDone.of hJ hm hu hu2 (F := [50, 51, 47]) (S := [49, 54, 52, 53, 45, 46, 55]) (c3.w (zFm.s (s := 49) rfl k)) (by rfl) (by rfl) (by rfl) ?_
  funext j
  by_cases hj : j < 50
  · rw [rC_i hj, Nat.zero_add]
    by_cases e : j = k
    · rw [show updR (rC σ.1 (mR σ m0 48) 0) k v j = v from if_pos e, e]
      exact zu_s _ _ _ _
    · rw [show updR (rC σ.1 (mR σ m0 48) 0) k v j = rC σ.1 (mR σ m0 48) 0 j from if_neg e, rC_i hj, Nat.zero_add]
      exact (zu_j _ _ _ _ _ (fun z => e z.symm)).trans (c2 j hj)
  · rw [show updR (rC σ.1 (mR σ m0 48) 0) k v j = rC σ.1 (mR σ m0 48) 0 j from if_neg (by omega)]
    unfold rC
    rw [if_neg hj, if_neg hj]
end REFD
end
-- 35x07.lay3
section
/-! WHAT IS TRIED ALONE: the questions that go months ahead write no course but the tried one -/
/-- cells of courses, but for the tried one's -/
def zPcl (L : List Nat) (kd : Nat → Nat) (V : zWh) (c : Nat) : Prop := c ∈ L ∧ (kd c = 1 ∨ kd c = 22 ∨ kd c = 23 ∨ kd c = 24) ∧ ¬ (c = V.1 1 ∨ c = V.2.1 1 ∨ c = V.2.2.1 1 ∨ c = V.2.2.2 1)
/-- references stay but for what the river looks at; courses stay but for the tried one -/
def zPv (L : List Nat) (kd : Nat → Nat) (V : zWh) (rv : Nat) (σ s : zS) : Prop := (∀ a j, ¬ (a = rv ∧ (j = 5 ∨ j = 6)) → s.2.2 a j = σ.2.2 a j) ∧ ∀ c, zPcl L kd V c → s.1 c = σ.1 c
/-- the river and what it stands on -/
def zRv (L : List Nat) (kd : Nat → Nat) (x0 rv sh cd : Nat) (R : Nat → Nat → Option Nat) : Prop := (R x0 2 = some rv ∧ R x0 3 = some sh ∧ R rv 0 = some sh ∧ R rv 1 = some cd) ∧ (zT L kd x0 10 ∧ zT L kd rv 5 ∧ zT L kd sh 6 ∧ zT L kd cd 0) ∧ (∀ j, j = 2 ∨ j = 3 ∨ j = 4 → zT L kd ((R rv j).getD 0) (28 + j)) ∧ (∀ j, j = 0 ∨ j = 1 → zT L kd ((R cd j).getD 0) (20 + j)) ∧ (∀ j, 1 ≤ j → j ≤ 6 → zT L kd ((R sh j).getD 0) (32 + j)) ∧ zT L kd ((R x0 9).getD 0) 53 ∧ zT L kd ((R x0 10).getD 0) 9
section ZLAY3
variable {L : List Nat} {kd : Nat → Nat} {x0 rv sh cd : Nat} {V : zWh} {ps pc sl : Nat} {σ s s' : zS} {κ : Int}
theorem zPv.rf : zPv L kd V rv σ σ := ⟨fun _ _ _ => rfl, fun _ _ => rfl⟩
theorem zPv.tr (h : zPv L kd V rv σ s) (g : zPv L kd V rv s s') : zPv L kd V rv σ s' := ⟨fun a j n => (g.1 a j n).trans (h.1 a j n), fun c hc => (g.2 c hc).trans (h.2 c hc)⟩
theorem zPv.fr {A : Nat → Nat → Prop} (g : zFr A s s') (hA : ∀ c j, A c j → ¬ zPcl L kd V c) : zPv L kd V rv s s' := ⟨fun a j _ => by rw [g.rf], fun c hc => funext (fun j => g.2 c j (fun q => hA c j q hc))⟩
theorem nPc {c k : Nat} (h : zT L kd c k) (hk : k ≠ 1 ∧ k ≠ 22 ∧ k ≠ 23 ∧ k ≠ 24) : ¬ zPcl L kd V c := fun q => by
  have := q.2.1
  rw [h.2] at this
  omega
theorem zRv.of (hI : zI κ 0 L kd σ) (hx : zT L kd x0 10) (hsh : σ.2.2 x0 3 = σ.2.2 ((σ.2.2 x0 2).getD 0) 0) : ∃ rv sh cd, zRv L kd x0 rv sh cd σ.2.2 := by
  obtain ⟨rv, r1, r2⟩ := zi_ref (j := 2) (k2 := 5) hI hx (by rfl)
  obtain ⟨sh, h1, h2⟩ := zi_ref (j := 3) (k2 := 6) hI hx (by rfl)
  obtain ⟨cd, c1, c2⟩ := zi_ref (j := 1) (k2 := 0) hI r2 (by rfl)
  have key : ∀ {a k j k2 : Nat}, zT L kd a k → zf 0 k j = some k2 → zT L kd ((σ.2.2 a j).getD 0) k2 := fun ha hf => by
    obtain ⟨y, y1, y2⟩ := zi_ref hI ha hf
    rw [y1]
    exact y2
  rw [r1] at hsh
  refine ⟨rv, sh, cd, ⟨r1, h1, ?_, c1⟩, ⟨hx, r2, h2, c2⟩, fun j hj => ?_, fun j hj => ?_, fun j h3 h4 => ?_, key hx (by rfl), key hx (by rfl)⟩
  · rw [← show (some rv : Option Nat).getD 0 = rv from rfl, ← hsh]; exact h1
  · rcases hj with rfl | rfl | rfl <;> exact key r2 (by rfl)
  · rcases hj with rfl | rfl <;> exact key c2 (by rfl)
  · rcases (show j = 1 ∨ j = 2 ∨ j = 3 ∨ j = 4 ∨ j = 5 ∨ j = 6 by omega) with rfl | rfl | rfl | rfl | rfl | rfl <;> exact key h2 (by rfl)
theorem zRv.keep (h : zRv L kd x0 rv sh cd σ.2.2) (g : zPv L kd V rv σ s) : zRv L kd x0 rv sh cd s.2.2 := by
  obtain ⟨⟨a1, a2, a3, a4⟩, ⟨t0, t1, t2, t3⟩, b, c, d, e, f⟩ := h
  have nx : ∀ j, ¬ (x0 = rv ∧ (j = 5 ∨ j = 6)) := fun j q => zNk t0 t1 (by decide) q.1
  have nc : ∀ j, ¬ (cd = rv ∧ (j = 5 ∨ j = 6)) := fun j q => zNk t3 t1 (by decide) q.1
  have ns : ∀ j, ¬ (sh = rv ∧ (j = 5 ∨ j = 6)) := fun j q => zNk t2 t1 (by decide) q.1
  have nr : ∀ j, j ≠ 5 → j ≠ 6 → ¬ (rv = rv ∧ (j = 5 ∨ j = 6)) := fun j h1 h2 q => by omega
  refine ⟨⟨by rw [g.1 _ _ (nx 2)]; exact a1, by rw [g.1 _ _ (nx 3)]; exact a2, by rw [g.1 _ _ (nr 0 (by decide) (by decide))]; exact a3, by rw [g.1 _ _ (nr 1 (by decide) (by decide))]; exact a4⟩, ⟨t0, t1, t2, t3⟩, fun j hj => by rw [g.1 _ _ (nr j (by omega) (by omega))]; exact b j hj, fun j hj => by rw [g.1 _ _ (nc j)]; exact c j hj, fun j h1 h2 => by rw [g.1 _ _ (ns j)]; exact d j h1 h2, by rw [g.1 _ _ (nx 9)]; exact e, by rw [g.1 _ _ (nx 10)]; exact f⟩
theorem zLay.pv (h : zLay L kd x0 σ.2.2 V ps pc sl) (hr : zT L kd rv 5) (g : zPv L kd V rv σ s) : zLay L kd x0 s.2.2 V ps pc sl := by
  refine h.keep (fun a ha hk => funext (fun j => g.1 a j (fun q => ?_))) (fun j _ => g.1 x0 j (fun q => ?_))
  · rw [q.1, hr.2] at hk
    omega
  · exact zNk h.2.2.2.2.2.1 hr (by decide) q.1
/-- a copy into the tried course -/
theorem zPv.copy (h : zLay L kd x0 σ.2.2 V ps pc sl) {q : Nat} (hq : q < 45) : zPv L kd V rv σ (F_X1_copy (V.1 1) (V.1 q) σ) := by
  obtain ⟨c1, c2, c3, c4⟩ := zCopy h (k := 1) (q := q) (by decide) hq
  exact ⟨fun a j _ => by rw [c1], fun c hc => c4 c hc.2.2⟩
/-- the river takes a text and a course -/
theorem zForm (h : zRv L kd x0 rv sh cd σ.2.2) (t a : Nat) : zPv L kd V rv σ (F_X5_form rv t a σ) ∧ (F_X5_form rv t a σ).2.2 rv 5 = some t ∧ (F_X5_form rv t a σ).2.2 rv 6 = some a := by
  obtain ⟨⟨a1, a2, a3, a4⟩, ⟨t0, t1, t2, t3⟩, b, c, d, e, f⟩ := h
  obtain ⟨s, hs⟩ : ∃ s : zS, s = (σ.1, σ.2.1, zu (zu σ.2.2 rv 5 (some t)) rv 6 (some a)) := ⟨_, rfl⟩
  have ns : ¬ sh = rv := zNk t2 t1 (by decide)
  have g0 : (s.2.2 rv 0).getD 0 = sh := by
    rw [hs]
    show (zu (zu σ.2.2 rv 5 _) rv 6 _ rv 0).getD 0 = sh
    rw [zu_j _ _ _ _ _ (by decide), zu_j _ _ _ _ _ (by decide), a3]
    rfl
  have E : F_X5_form rv t a σ = F_X6_form sh t a s := by
    rw [← g0, hs]
    unfold F_X5_form
    simp only [zlt]
  have sj : ∀ j, (s.2.2 sh j) = σ.2.2 sh j := fun j => by
    rw [hs]
    show zu (zu σ.2.2 rv 5 _) rv 6 _ sh j = _
    rw [zu_n _ _ _ ns, zu_n _ _ _ ns]
  have P : zFr (fun c _ => ¬ zPcl L kd V c) s (F_X6_form sh t a s) := fr_X6_form zFr.id (nPc t2 (by decide)) (fun _ => by rw [sj]; exact nPc (d 1 (by omega) (by omega)) (by decide)) (fun _ => by rw [sj]; exact nPc (d 2 (by omega) (by omega)) (by decide)) (fun _ => by rw [sj]; exact nPc (d 3 (by omega) (by omega)) (by decide)) (fun _ => by rw [sj]; exact nPc (d 6 (by omega) (by omega)) (by decide)) (fun _ => by rw [sj]; exact nPc (d 4 (by omega) (by omega)) (by decide))
  rw [E]
  refine ⟨⟨fun b j n => ?_, fun c hc => ?_⟩, ?_, ?_⟩
  · rw [P.rf, hs]
    show zu (zu σ.2.2 rv 5 _) rv 6 _ b j = _
    by_cases c1 : b = rv
    · subst c1
      rw [zu_j _ _ _ _ _ (fun z => n ⟨rfl, Or.inr z.symm⟩), zu_j _ _ _ _ _ (fun z => n ⟨rfl, Or.inl z.symm⟩)]
    · rw [zu_n _ _ _ c1, zu_n _ _ _ c1]
  · refine (funext (fun j => P.2 c j (fun q => q hc))).trans ?_
    rw [hs]
  · rw [P.rf, hs]
    show zu (zu σ.2.2 rv 5 _) rv 6 _ rv 5 = _
    rw [zu_j _ _ _ _ _ (by decide), zu_s]
  · rw [P.rf, hs]
    show zu (zu σ.2.2 rv 5 _) rv 6 _ rv 6 = _
    rw [zu_s]
theorem zFall (h : zRv L kd x0 rv sh cd s.2.2) (v : Int32) : zFr (fun c _ => ¬ zPcl L kd V c) s (F_X5_fall rv v s) := by
  obtain ⟨⟨a1, a2, a3, a4⟩, ⟨t0, t1, t2, t3⟩, b, c, d, e, f⟩ := h
  have gc : (s.2.2 rv 1).getD 0 = cd := by rw [a4]; rfl
  exact fr_X5_fall zFr.id (fun _ => by rw [gc]; exact nPc (c 0 (Or.inl rfl)) (by decide)) (fun _ => by rw [gc]; exact nPc (c 1 (Or.inr rfl)) (by decide)) (fun _ => nPc (b 2 (by omega)) (by decide)) (fun _ => nPc (b 3 (by omega)) (by decide))
theorem zLook (h : zRv L kd x0 rv sh cd σ.2.2) (t a : Nat) : zPv L kd V rv σ (F_X5_look rv t a σ) ∧ (F_X5_look rv t a σ).2.2 rv 5 = some t ∧ (F_X5_look rv t a σ).2.2 rv 6 = some a := by
  obtain ⟨g1, g2, g3⟩ := zForm (V := V) h t a
  have g := zFall (V := V) (h.keep g1) 0
  unfold F_X5_look
  simp only [zlt]
  exact ⟨g1.tr (zPv.fr g (fun _ _ q => q)), by rw [g.rf]; exact g2, by rw [g.rf]; exact g3⟩
/-- what the tried course's cells are -/
theorem nPt (k : Nat) (h : k = V.1 1 ∨ k = V.2.1 1 ∨ k = V.2.2.1 1 ∨ k = V.2.2.2 1) : ¬ zPcl L kd V k := fun q => q.2.2 h
theorem zThr (hl : zLay L kd x0 σ.2.2 V ps pc sl) (h : zRv L kd x0 rv sh cd σ.2.2) (t : Nat) (n v : Int32) : zPv L kd V rv σ (F_X5_goThrough rv t (V.1 1) n v σ) := by
  obtain ⟨g1, g2, g3⟩ := zForm (V := V) h t (V.1 1)
  have hl2 := hl.pv h.2.1.2.1 g1
  obtain ⟨⟨a1, a2, a3, a4⟩, ⟨t0, t1, t2, t3⟩, b, c, d, e, f⟩ := h.keep g1
  have gc : ((F_X5_form rv t (V.1 1) σ).2.2 rv 1).getD 0 = cd := by rw [a4]; rfl
  have g6 : ((F_X5_form rv t (V.1 1) σ).2.2 rv 6).getD 0 = V.1 1 := by rw [g3]; rfl
  obtain ⟨q0, q1, q2⟩ := hl2.gA (k := 1) (by decide)
  unfold F_X5_goThrough
  simp only [zlt]
  refine g1.tr (zPv.fr (A := fun c _ => ¬ zPcl L kd V c) ?_ (fun _ _ q => q))
  exact fr_X5_goThrough_9 (fun _ => by rw [gc]; exact nPc (c 0 (Or.inl rfl)) (by decide)) (fun _ => by rw [gc]; exact nPc (c 1 (Or.inr rfl)) (by decide)) (fun _ => nPc (b 2 (by omega)) (by decide)) (fun _ => nPc (b 3 (by omega)) (by decide)) (fun _ => nPc (b 4 (by omega)) (by decide)) (fun _ => by rw [g6, q2]; exact nPt _ (Or.inr (Or.inr (Or.inr rfl)))) (fun _ => by rw [g6, q1]; exact nPt _ (Or.inr (Or.inr (Or.inl rfl)))) (by rw [g6]; exact nPt _ (Or.inl rfl)) 10000 0 _ zFr.id
end ZLAY3
end
-- 35x08.lay4
section
section ZLAY4
variable {L : List Nat} {kd : Nat → Nat} {x0 rv sh cd : Nat} {V : zWh} {ps pc sl : Nat} {σ s s' : zS} {κ : Int}
theorem zPv.cc (hl : zLay L kd x0 σ.2.2 V ps pc sl) (g : zPv L kd V rv σ s) {k : Nat} (hk : k < 45) (h1 : k ≠ 1) : zcc V s.1 k = zcc V σ.1 k := by
  obtain ⟨⟨tA, tI, tW, tM⟩, -⟩ := hl.2.2.2.1 k hk
  obtain ⟨⟨uA, uI, uW, uM⟩, -⟩ := hl.2.2.2.1 1 (by decide)
  have hi := hl.2.2.2.2.1 k 1 hk (by decide)
  have n : ∀ {a b ka kb : Nat}, zT L kd a ka → zT L kd b kb → ka ≠ kb → ¬ a = b := fun ha hb hn => zNk ha hb hn
  refine zcc.st (g.2 _ ⟨tA.1, by rw [tA.2]; decide, ?_⟩) (g.2 _ ⟨tI.1, by rw [tI.2]; decide, ?_⟩) (g.2 _ ⟨tW.1, by rw [tW.2]; decide, ?_⟩) (g.2 _ ⟨tM.1, by rw [tM.2]; decide, ?_⟩)
  · rintro (z | z | z | z)
    · exact h1 (hi (Or.inl z))
    · exact n tA uI (by decide) z
    · exact n tA uW (by decide) z
    · exact n tA uM (by decide) z
  · rintro (z | z | z | z)
    · exact n tI uA (by decide) z
    · exact h1 (hi (Or.inr (Or.inl z)))
    · exact n tI uW (by decide) z
    · exact n tI uM (by decide) z
  · rintro (z | z | z | z)
    · exact n tW uA (by decide) z
    · exact n tW uI (by decide) z
    · exact h1 (hi (Or.inr (Or.inr (Or.inl z))))
    · exact n tW uM (by decide) z
  · rintro (z | z | z | z)
    · exact n tM uA (by decide) z
    · exact n tM uI (by decide) z
    · exact n tM uW (by decide) z
    · exact h1 (hi (Or.inr (Or.inr (Or.inr z))))
/-- of an answer and a state, the state -/
theorem zPv.pr {α : Type} {v : α} (h : zPv L kd V rv σ s) : zPv L kd V rv σ ((v, s) : α × zS).2 := h
theorem xrv (h : zRv L kd x0 rv sh cd σ.2.2) : (σ.2.2 x0 2).getD 0 = rv := by rw [h.1.1]; rfl
theorem xtr (hl : zLay L kd x0 σ.2.2 V ps pc sl) : (σ.2.2 x0 7).getD 0 = V.1 1 := by rw [hl.1.2.1]; rfl
theorem xnw (hl : zLay L kd x0 σ.2.2 V ps pc sl) : (σ.2.2 x0 6).getD 0 = V.1 0 := by rw [hl.1.1]; rfl
theorem zTry (hl : zLay L kd x0 σ.2.2 V ps pc sl) (h : zRv L kd x0 rv sh cd σ.2.2) : zPv L kd V rv σ (F_X10_tryFromNow x0 σ) ∧ (F_X10_tryFromNow x0 σ).2.2 rv 6 = some (V.1 1) := by
  obtain ⟨c1, c2, c3, c4⟩ := zCopy hl (k := 1) (q := 0) (by decide) (by decide)
  have g := zPv.copy (rv := rv) hl (q := 0) (by decide)
  unfold F_X10_tryFromNow
  simp only [zlt, xtr hl, xnw hl]
  have h2 := h.keep g
  have hl2 := hl.pv h.2.1.2.1 g
  rw [xrv h2, xtr hl2]
  obtain ⟨l1, l2, l3⟩ := zLook (V := V) h2 (((F_X1_copy (V.1 1) (V.1 0) σ).2.2 x0 10).getD 0) (V.1 1)
  exact ⟨g.tr l1, l3⟩
/-- what a loop of months needs of the state that it begins in -/
theorem zMo (hl : zLay L kd x0 s.2.2 V ps pc sl) (h : zRv L kd x0 rv sh cd s.2.2) (h6 : s.2.2 rv 6 = some (V.1 1)) : (∀ j : Nat, ¬ zPcl L kd V ((s.2.2 ((s.2.2 x0 2).getD 0) 4).getD 0)) ∧ (∀ j : Nat, ¬ zPcl L kd V ((s.2.2 ((s.2.2 ((s.2.2 x0 2).getD 0) 1).getD 0) 0).getD 0)) ∧ (∀ j : Nat, ¬ zPcl L kd V ((s.2.2 ((s.2.2 ((s.2.2 x0 2).getD 0) 1).getD 0) 1).getD 0)) ∧ (∀ j : Nat, ¬ zPcl L kd V ((s.2.2 ((s.2.2 ((s.2.2 x0 2).getD 0) 6).getD 0) 2).getD 0)) ∧ (∀ j : Nat, ¬ zPcl L kd V ((s.2.2 ((s.2.2 ((s.2.2 x0 2).getD 0) 6).getD 0) 1).getD 0)) ∧ (¬ zPcl L kd V ((s.2.2 ((s.2.2 x0 2).getD 0) 6).getD 0)) ∧ (∀ j : Nat, ¬ zPcl L kd V ((s.2.2 ((s.2.2 x0 2).getD 0) 2).getD 0)) ∧ (∀ j : Nat, ¬ zPcl L kd V ((s.2.2 ((s.2.2 x0 2).getD 0) 3).getD 0)) ∧ ∀ j : Nat, ¬ zPcl L kd V ((s.2.2 x0 9).getD 0) := by
  have e := xrv h
  obtain ⟨⟨a1, a2, a3, a4⟩, ⟨t0, t1, t2, t3⟩, b, c, d, e9, f⟩ := h
  have gc : (s.2.2 rv 1).getD 0 = cd := by rw [a4]; rfl
  have g6 : (s.2.2 rv 6).getD 0 = V.1 1 := by rw [h6]; rfl
  obtain ⟨q0, q1, q2⟩ := hl.gA (k := 1) (by decide)
  rw [e, gc, g6, q1, q2]
  exact ⟨fun _ => nPc (b 4 (by omega)) (by decide), fun _ => nPc (c 0 (Or.inl rfl)) (by decide), fun _ => nPc (c 1 (Or.inr rfl)) (by decide), fun _ => nPt _ (Or.inr (Or.inr (Or.inr rfl))), fun _ => nPt _ (Or.inr (Or.inr (Or.inl rfl))), nPt _ (Or.inl rfl), fun _ => nPc (b 2 (by omega)) (by decide), fun _ => nPc (b 3 (by omega)) (by decide), fun _ => nPc e9 (by decide)⟩
theorem pAgree (hl : zLay L kd x0 σ.2.2 V ps pc sl) (h : zRv L kd x0 rv sh cd σ.2.2) (p : Int32) : zPv L kd V rv σ (F_X10_agree x0 p σ).2 := by
  unfold F_X10_agree
  simp only [zlt]
  split
  · exact zPv.rf
  · obtain ⟨g, g6⟩ := zTry hl h
    obtain ⟨m0, m1, m2, m3, m4, m5, m6, m7, m8⟩ := zMo (hl.pv h.2.1.2.1 g) (h.keep g) g6
    exact g.tr (zPv.fr (A := fun c _ => ¬ zPcl L kd V c) (fr_X10_agree_20 m0 m1 m2 m3 m4 m5 m6 m7 4294967299 0 0 _ zFr.id) (fun _ _ q => q))
theorem pDriest (hl : zLay L kd x0 σ.2.2 V ps pc sl) (h : zRv L kd x0 rv sh cd σ.2.2) (p q : Int32) : zPv L kd V rv σ (F_X10_driest x0 p q σ).2 := by
  unfold F_X10_driest
  simp only [zlt, zlt2]
  have g0 : zPv L kd V rv σ (F_X10_hasMouth x0 σ).2 := zPv.fr (A := fun c _ => ¬ zPcl L kd V c) (fr_X10_hasMouth zFr.id) (fun _ _ q => q)
  split
  · exact zPv.pr g0
  · split
    · exact zPv.pr g0
    · split
      · exact zPv.pr g0
      · have hl0 := hl.pv h.2.1.2.1 g0
        have h0 := h.keep g0
        obtain ⟨g, g6⟩ := zTry hl0 h0
        have f : zFr (fun c _ => ¬ zPcl L kd V c) (F_X10_tryFromNow x0 (F_X10_hasMouth x0 σ).2) (F_X10_mouthFlow x0 (F_X10_tryFromNow x0 (F_X10_hasMouth x0 σ).2)).2 := fr_X10_mouthFlow zFr.id
        obtain ⟨m0, m1, m2, m3, m4, m5, m6, m7, m8⟩ := zMo (hl0.pv h0.2.1.2.1 g) (h0.keep g) g6
        exact (g0.tr g).tr (zPv.fr (A := fun c _ => ¬ zPcl L kd V c) (fr_X10_driest_43 m0 m1 m2 m3 m4 m5 m6 m7 4294967299 1 _ 0 _ f) (fun _ _ q => q))
theorem pReign (hl : zLay L kd x0 σ.2.2 V ps pc sl) (h : zRv L kd x0 rv sh cd σ.2.2) (p q r : Int32) : zPv L kd V rv σ (F_X10_reign x0 p q r σ).2 := by
  unfold F_X10_reign
  simp only [zlt, zlt2]
  have f0 : zFr (fun c _ => ¬ zPcl L kd V c) σ (F_X10_isLaw x0 p σ).2 := fr_X10_isLaw zFr.id
  have g0 : zPv L kd V rv σ (F_X10_isLaw x0 p σ).2 := zPv.fr f0 (fun _ _ q => q)
  split
  · exact zPv.pr g0
  · split
    · exact zPv.pr g0
    · split
      · exact zPv.pr g0
      · have h0 := h.keep g0
        have ft : zFr (fun c _ => ¬ zPcl L kd V c) (F_X10_isLaw x0 p σ).2 (zfil (F_X10_isLaw x0 p σ).2 (((F_X10_isLaw x0 p σ).2.2.2 x0 9).getD 0) 0 12) := zFr.id.fl (fun _ => nPc h0.2.2.2.2.2.1 (by decide))
        have g1 := g0.tr (zPv.fr (rv := rv) ft (fun _ _ q => q))
        have hl1 := hl.pv h.2.1.2.1 g1
        have h1 := h.keep g1
        obtain ⟨g, g6⟩ := zTry hl1 h1
        obtain ⟨m0, m1, m2, m3, m4, m5, m6, m7, m8⟩ := zMo (hl1.pv h1.2.1.2.1 g) (h1.keep g) g6
        exact (g1.tr g).tr (zPv.fr (A := fun c _ => ¬ zPcl L kd V c) (fr_X10_reign_44 m0 m1 m2 m8 m3 m4 m5 m6 m7 4294967299 0 _ zFr.id) (fun _ _ q => q))
/-- a look at now -/
theorem zLookN (hl : zLay L kd x0 σ.2.2 V ps pc sl) (h : zRv L kd x0 rv sh cd σ.2.2) : zPv L kd V rv σ (F_X10_look x0 σ) := by
  unfold F_X10_look
  simp only [zlt, xrv h, xnw hl]
  exact (zLook (V := V) h _ _).1
theorem pWhen (hl : zLay L kd x0 σ.2.2 V ps pc sl) (h : zRv L kd x0 rv sh cd σ.2.2) (p : Int32) : zPv L kd V rv σ (F_X10_when x0 p σ).2 := by
  unfold F_X10_when
  simp only [zlt, zlt2]
  have g0 := zLookN hl h
  have f1 : zFr (fun c _ => ¬ zPcl L kd V c) (F_X10_look x0 σ) (F_X6_isSource (((F_X10_look x0 σ).2.2 x0 3).getD 0) p (F_X10_look x0 σ)).2 := fr_X6_isSource zFr.id
  have g1 := g0.tr (zPv.fr (rv := rv) f1 (fun _ _ q => q))
  split
  · exact zPv.pr g1
  · have hl1 := hl.pv h.2.1.2.1 g1
    have h1 := h.keep g1
    obtain ⟨g, g6⟩ := zTry hl1 h1
    obtain ⟨m0, m1, m2, m3, m4, m5, m6, m7, m8⟩ := zMo (hl1.pv h1.2.1.2.1 g) (h1.keep g) g6
    exact (g1.tr g).tr (zPv.fr (A := fun c _ => ¬ zPcl L kd V c) (fr_X10_when_23 m0 m1 m2 m3 m4 m5 m6 m7 10000 1 _ zFr.id) (fun _ _ q => q))
/-- a copy of now, gone through -/
theorem zCpT (hl : zLay L kd x0 σ.2.2 V ps pc sl) (h : zRv L kd x0 rv sh cd σ.2.2) (n v : Int32) : zPv L kd V rv σ (F_X5_goThrough (((F_X1_copy ((σ.2.2 x0 7).getD 0) ((σ.2.2 x0 6).getD 0) σ).2.2 x0 2).getD 0) (((F_X1_copy ((σ.2.2 x0 7).getD 0) ((σ.2.2 x0 6).getD 0) σ).2.2 x0 10).getD 0) (((F_X1_copy ((σ.2.2 x0 7).getD 0) ((σ.2.2 x0 6).getD 0) σ).2.2 x0 7).getD 0) n v (F_X1_copy ((σ.2.2 x0 7).getD 0) ((σ.2.2 x0 6).getD 0) σ)) := by
  rw [xtr hl, xnw hl]
  have g := zPv.copy (rv := rv) hl (q := 0) (by decide)
  have h2 := h.keep g
  have hl2 := hl.pv h.2.1.2.1 g
  rw [xrv h2, xtr hl2]
  exact g.tr (zThr hl2 h2 _ n v)
theorem pThen (hl : zLay L kd x0 σ.2.2 V ps pc sl) (h : zRv L kd x0 rv sh cd σ.2.2) (p q r : Int32) : zPv L kd V rv σ (F_X10_then x0 p q r σ).2 := by
  unfold F_X10_then
  simp only [zlt, zlt2]
  have g0 := zLookN hl h
  have f1 : zFr (fun c _ => ¬ zPcl L kd V c) (F_X10_look x0 σ) (F_X6_isSource (((F_X10_look x0 σ).2.2 x0 3).getD 0) p (F_X10_look x0 σ)).2 := fr_X6_isSource zFr.id
  have g1 := g0.tr (zPv.fr (rv := rv) f1 (fun _ _ q => q))
  split
  · exact zPv.pr g1
  · split
    · exact zPv.pr g1
    · split
      · exact zPv.pr g1
      · have g2 := fun v => g1.tr (zCpT (hl.pv h.2.1.2.1 g1) (h.keep g1) q v)
        split
        · exact zPv.pr (g2 _)
        · exact zPv.pr (g2 _)
theorem zFlT (hl : zLay L kd x0 σ.2.2 V ps pc sl) (h : zRv L kd x0 rv sh cd σ.2.2) (n v : Int32) {u : zS} (hu : u = F_X5_goThrough (((F_X1_copy ((σ.2.2 x0 7).getD 0) ((σ.2.2 x0 6).getD 0) σ).2.2 x0 2).getD 0) (((F_X1_copy ((σ.2.2 x0 7).getD 0) ((σ.2.2 x0 6).getD 0) σ).2.2 x0 10).getD 0) (((F_X1_copy ((σ.2.2 x0 7).getD 0) ((σ.2.2 x0 6).getD 0) σ).2.2 x0 7).getD 0) n v (F_X1_copy ((σ.2.2 x0 7).getD 0) ((σ.2.2 x0 6).getD 0) σ)) : zPv L kd V rv σ (F_X10_mouthFlow x0 (F_X5_look ((u.2.2 x0 2).getD 0) ((u.2.2 x0 10).getD 0) ((u.2.2 x0 7).getD 0) u)).2 := by
  have g1 := zCpT hl h n v
  rw [← hu] at g1
  have h1 := h.keep g1
  rw [xrv h1]
  have g2 := g1.tr (zLook (V := V) h1 ((u.2.2 x0 10).getD 0) ((u.2.2 x0 7).getD 0)).1
  have f2 : zFr (fun c _ => ¬ zPcl L kd V c) (F_X5_look rv ((u.2.2 x0 10).getD 0) ((u.2.2 x0 7).getD 0) u) (F_X10_mouthFlow x0 (F_X5_look rv ((u.2.2 x0 10).getD 0) ((u.2.2 x0 7).getD 0) u)).2 := fr_X10_mouthFlow zFr.id
  exact g2.tr (zPv.fr f2 (fun _ _ q => q))
theorem pFlowIn (hl : zLay L kd x0 σ.2.2 V ps pc sl) (h : zRv L kd x0 rv sh cd σ.2.2) (p : Int32) : zPv L kd V rv σ (F_X10_flowIn x0 p σ).2 := by
  unfold F_X10_flowIn
  simp only [zlt, zlt2]
  have f0 : zFr (fun c _ => ¬ zPcl L kd V c) σ (F_X10_hasMouth x0 σ).2 := fr_X10_hasMouth zFr.id
  have g0 : zPv L kd V rv σ (F_X10_hasMouth x0 σ).2 := zPv.fr f0 (fun _ _ q => q)
  obtain ⟨m, hm⟩ : ∃ m, m = F_X10_hasMouth x0 σ := ⟨_, rfl⟩
  rw [← hm] at g0 ⊢
  split
  · exact zPv.pr g0
  · split
    · exact zPv.pr g0
    · exact zPv.pr (g0.tr (zFlT (hl.pv h.2.1.2.1 g0) (h.keep g0) p _ rfl))
theorem pYear (hl : zLay L kd x0 σ.2.2 V ps pc sl) (h : zRv L kd x0 rv sh cd σ.2.2) (p q r : Int32) : zPv L kd V rv σ (F_X10_year x0 p q r σ).2 := by
  have lp : ∀ (n : Nat) (x y : Int32) (τ : zS), zPv L kd V rv σ τ → zPv L kd V rv σ (F_X10_year_43 x0 p q r n x y τ).2 := by
    intro n
    induction n with
    | zero => intro x y τ g; exact g
    | succ n ih =>
      intro x y τ g
      rw [F_X10_year_43]
      simp only [zlt, zlt2]
      split
      · obtain ⟨s, hs⟩ : ∃ s : zS, s = F_X1_copy ((τ.2.2 x0 7).getD 0) ((τ.2.2 x0 6).getD 0) τ := ⟨_, rfl⟩
        have g1 := g.tr (zCpT (hl.pv h.2.1.2.1 g) (h.keep g) q (s.1 ((s.2.2 x0 10).getD 0) 13 + x))
        rw [← hs] at g1 ⊢
        have f2 : zFr (fun c _ => ¬ zPcl L kd V c) (F_X5_goThrough ((s.2.2 x0 2).getD 0) ((s.2.2 x0 10).getD 0) ((s.2.2 x0 7).getD 0) q (s.1 ((s.2.2 x0 10).getD 0) 13 + x) s) (F_X10_hasWonMost x0 p (F_X5_goThrough ((s.2.2 x0 2).getD 0) ((s.2.2 x0 10).getD 0) ((s.2.2 x0 7).getD 0) q (s.1 ((s.2.2 x0 10).getD 0) 13 + x) s)).2 := fr_X10_hasWonMost zFr.id
        have g2 := g1.tr (zPv.fr (rv := rv) f2 (fun _ _ q => q))
        split
        · exact ih _ _ _ g2
        · exact ih _ _ _ g2
      · exact g
  unfold F_X10_year
  simp only [zlt, zlt2]
  have g0 := zLookN hl h
  have f1 : zFr (fun c _ => ¬ zPcl L kd V c) (F_X10_look x0 σ) (F_X6_isSource (((F_X10_look x0 σ).2.2 x0 3).getD 0) p (F_X10_look x0 σ)).2 := fr_X6_isSource zFr.id
  have g1 := g0.tr (zPv.fr (rv := rv) f1 (fun _ _ q => q))
  split
  · exact zPv.pr g1
  · split
    · exact zPv.pr g1
    · split
      · exact zPv.pr g1
      · exact lp _ _ _ _ g1
theorem pWins (hl : zLay L kd x0 σ.2.2 V ps pc sl) (h : zRv L kd x0 rv sh cd σ.2.2) (a b c d : Int32) : zPv L kd V rv σ (F_X10_winsTurned x0 a b c d σ).2 := by
  unfold F_X10_winsTurned
  simp only [zlt, zlt2, xtr hl, xnw hl]
  obtain ⟨s, hs⟩ : ∃ s : zS, s = F_X1_copy (V.1 1) (V.1 0) σ := ⟨_, rfl⟩
  have g := zPv.copy (rv := rv) hl (q := 0) (by decide)
  rw [← hs] at g ⊢
  have hl2 := hl.pv h.2.1.2.1 g
  obtain ⟨q0, q1, q2⟩ := hl2.gA (k := 1) (by decide)
  rw [xtr hl2, q0]
  obtain ⟨u, hu⟩ : ∃ u : zS, u = (zu s.1 (V.2.1 1) c.toNatClampNeg d, s.2.1, s.2.2) := ⟨_, rfl⟩
  have fu : zFr (fun c _ => ¬ zPcl L kd V c) s u := by rw [hu]; exact zFr.id.w (nPt _ (Or.inr (Or.inl rfl)))
  have g1 := g.tr (zPv.fr (rv := rv) fu (fun _ _ q => q))
  rw [← hu]
  have h3 := h.keep g1
  have ex : (s.2.2 x0 2).getD 0 = rv := xrv (h.keep g)
  rw [ex]
  obtain ⟨l1, l2, l3⟩ := zLook (V := V) h3 ((s.2.2 x0 10).getD 0) (V.1 1)
  have g2 := g1.tr l1
  obtain ⟨w, hw⟩ : ∃ w : zS, w = F_X5_look rv ((s.2.2 x0 10).getD 0) (V.1 1) u := ⟨_, rfl⟩
  rw [← hw] at l1 l2 l3 g2 ⊢
  have h4 := h.keep g2
  rw [xrv h4]
  obtain ⟨⟨a1, a2, a3, a4⟩, ⟨t0, t1, t2, t3⟩, bb, cc, dd, e9, f9⟩ := id h4
  have gc : (w.2.2 rv 1).getD 0 = cd := by rw [a4]; rfl
  have fw : zFr (fun c _ => ¬ zPcl L kd V c) w (F_X5_winnerBy rv b w).2 := fr_X5_winnerBy zFr.id (fun _ => nPc (bb 4 (by omega)) (by decide)) (fun _ => by rw [gc]; exact nPc (cc 0 (Or.inl rfl)) (by decide)) (fun _ => by rw [gc]; exact nPc (cc 1 (Or.inr rfl)) (by decide))
  have g3 := g2.tr (zPv.fr (rv := rv) fw (fun _ _ q => q))
  split
  · exact zPv.pr g3
  · exact zPv.pr g3
theorem pTurnFor (hl : zLay L kd x0 σ.2.2 V ps pc sl) (h : zRv L kd x0 rv sh cd σ.2.2) (p q : Int32) : zPv L kd V rv σ (F_X10_turnFor x0 p q σ).2 := by
  have l27 : ∀ (K : Int32 → zS → Int32 × zS), (∀ (x : Int32) (τ : zS), zPv L kd V rv σ τ → zPv L kd V rv σ (K x τ).2) → ∀ (x5 : Int32) (n : Nat) (x : Int32) (τ : zS), zPv L kd V rv σ τ → zPv L kd V rv σ (F_X10_turnFor_27 x5 x0 p q K n x τ).2 := by
    intro K hK x5 n
    induction n with
    | zero => intro x τ g; exact g
    | succ n ih =>
      intro x τ g
      rw [F_X10_turnFor_27]
      simp only [zlt, zlt2]
      split
      · split
        · exact ih _ _ g
        · have f1 : zFr (fun c _ => ¬ zPcl L kd V c) τ (F_X10_isTurn x0 x5 x τ).2 := fr_X10_isTurn zFr.id
          have g1 := g.tr (zPv.fr (rv := rv) f1 (fun _ _ q => q))
          split
          · exact ih _ _ g1
          · have g2 := g1.tr (pWins (hl.pv h.2.1.2.1 g1) (h.keep g1) p q x5 x)
            split
            · exact ih _ _ g2
            · exact zPv.pr g2
      · exact hK _ _ g
  have l13 : ∀ (n : Nat) (x : Int32) (τ : zS), zPv L kd V rv σ τ → zPv L kd V rv σ (F_X10_turnFor_13 x0 p q n x τ).2 := by
    intro n
    induction n with
    | zero => intro x τ g; exact g
    | succ n ih =>
      intro x τ g
      rw [F_X10_turnFor_13]
      simp only [zlt]
      split
      · exact l27 _ ih x _ _ _ g
      · exact g
  have g0 : zPv L kd V rv σ (F_X10_isContest x0 p q σ).2 := by
    unfold F_X10_isContest
    simp only [zlt, zlt2, xrv h, xnw hl]
    have g0 := (zLook (V := V) h ((σ.2.2 x0 10).getD 0) (V.1 0)).1
    have f1 : zFr (fun c _ => ¬ zPcl L kd V c) (F_X5_look rv ((σ.2.2 x0 10).getD 0) (V.1 0) σ) (F_X10_isLaw x0 q (F_X5_look rv ((σ.2.2 x0 10).getD 0) (V.1 0) σ)).2 := fr_X10_isLaw zFr.id
    have g1 := g0.tr (zPv.fr (rv := rv) f1 (fun _ _ q => q))
    split
    · exact zPv.pr g1
    · obtain ⟨u, hu⟩ : ∃ u : zS, u = (F_X10_isLaw x0 q (F_X5_look rv ((σ.2.2 x0 10).getD 0) (V.1 0) σ)).2 := ⟨_, rfl⟩
      rw [← hu] at g1 ⊢
      have f2 : zFr (fun c _ => ¬ zPcl L kd V c) u (F_X6_isSource ((u.2.2 x0 3).getD 0) p u).2 := fr_X6_isSource zFr.id
      have g2 := g1.tr (zPv.fr (rv := rv) f2 (fun _ _ q => q))
      split
      · exact zPv.pr g2
      · exact zPv.pr g2
  unfold F_X10_turnFor
  simp only [zlt, zlt2]
  split
  · exact zPv.pr g0
  · exact l13 _ _ _ g0
end ZLAY4
end
-- 35x09.rz1
section
/-! REFERENCES THAT STAY, but for places 5 and 6 (what the river looks at) -/
def zRz (R : Nat → Nat → Option Nat) (s : zS) : Prop := ∀ a j, j ≠ 5 → j ≠ 6 → s.2.2 a j = R a j
def zRy {α : Type} (R : Nat → Nat → Option Nat) (r : α × zS) : Prop := zRz R r.2
section ZRZ
variable {R : Nat → Nat → Option Nat} {s : zS} {α β : Type}
theorem zRz.rf : zRz s.2.2 s := fun _ _ _ _ => rfl
theorem zRz.w5 {r : Nat} {v : Option Nat} (h : zRz R s) : zRz R (s.1, s.2.1, zu s.2.2 r 5 v) := fun a j h5 h6 => by
  show zu s.2.2 r 5 v a j = _
  unfold zu
  by_cases e : a = r
  · rw [if_pos e, if_neg h5]; exact h a j h5 h6
  · rw [if_neg e]; exact h a j h5 h6
theorem zRz.w6 {r : Nat} {v : Option Nat} (h : zRz R s) : zRz R (s.1, s.2.1, zu s.2.2 r 6 v) := fun a j h5 h6 => by
  show zu s.2.2 r 6 v a j = _
  unfold zu
  by_cases e : a = r
  · rw [if_pos e, if_neg h6]; exact h a j h5 h6
  · rw [if_neg e]; exact h a j h5 h6
theorem zRy.of {r : α × zS} {v : α} (h : zRy R r) (e : (v, s) = r) : zRz R s := by rw [show s = r.2 from congrArg Prod.snd e]; exact h
theorem zRz_let {x : α} {f : α → zS} (h : ∀ v, v = x → zRz R (f v)) : zRz R (zLet x f) := h x rfl
theorem zRz_let2 {x : α × β} {f : α → β → zS} (h : ∀ v s, (v, s) = x → zRz R (f v s)) : zRz R (zLet2 x f) := h x.1 x.2 rfl
theorem zRy_let {x : α} {f : α → β × zS} (h : ∀ v, v = x → zRy R (f v)) : zRy R (zLet x f) := h x rfl
theorem zRy_let2 {γ : Type} {x : α × γ} {f : α → γ → β × zS} (h : ∀ v s, (v, s) = x → zRy R (f v s)) : zRy R (zLet2 x f) := h x.1 x.2 rfl
theorem zRz_if {c : Prop} {i : Decidable c} {x y : zS} (h : c → zRz R x) (g : ¬ c → zRz R y) : zRz R (@ite _ c i x y) := by
  by_cases e : c
  · rw [if_pos e]; exact h e
  · rw [if_neg e]; exact g e
theorem zRy_if {c : Prop} {i : Decidable c} {x y : α × zS} (h : c → zRy R x) (g : ¬ c → zRy R y) : zRy R (@ite _ c i x y) := by
  by_cases e : c
  · rw [if_pos e]; exact h e
  · rw [if_neg e]; exact g e
end ZRZ
set_option maxRecDepth 100000 in
theorem rz_X10_isPlace {R : Nat → Nat → Option Nat} {σ0 : zS} {a0 : Nat} {p1 : Int32}  (g : zRz R σ0) : zRy R (F_X10_isPlace a0 p1 σ0) := by
  unfold F_X10_isPlace
  refine zRy_let (fun v1 _ => ?_)
  refine zRy_let (fun v2 _ => ?_)
  refine zRy_let (fun v3 _ => ?_)
  refine zRy_let (fun v4 _ => ?_)
  refine zRy_let (fun v5 _ => ?_)
  refine zRy_let (fun v6 _ => ?_)
  exact g
set_option maxRecDepth 100000 in
theorem rz_X6_form_81_1 {R : Nat → Nat → Option Nat} {v95 : Int32} {x89 : Int32} {a0 : Nat} {p1 : Nat} {p2 : Nat} {kLp91 : Int32 → Int32 → zS → zS} (ckLp91 : ∀ (y0 : Int32) (y1 : Int32) (s : zS), zRz R s → zRz R (kLp91 y0 y1 s)) : ∀ (n : Nat) (x97 : Int32) (x98 : Int32) (τ99 : zS), zRz R τ99 → zRz R (F_X6_form_81_1 v95 x89 a0 p1 p2 kLp91 n x97 x98 τ99) := by
  intro n
  induction n with
  | zero => intro x97 x98 τ99 g; exact g
  | succ n ih =>
    intro x97 x98 τ99 g
    rw [F_X6_form_81_1]
    refine zRz_let (fun v100 _ => ?_)
    refine zRz_if (fun _ => ?_) (fun _ => ?_)
    · skip
      refine zRz_let (fun v103 _ => ?_)
      refine zRz_if (fun _ => ?_) (fun _ => ?_)
      · skip
        refine zRz_let (fun v106 _ => ?_)
        refine zRz_let (fun v107 _ => ?_)
        refine zRz_if (fun _ => ?_) (fun _ => ?_)
        · skip
          refine zRz_let (fun v110 _ => ?_)
          refine zRz_let (fun v111 _ => ?_)
          refine zRz_let (fun v112 _ => ?_)
          refine zRz_let (fun v113 _ => ?_)
          refine zRz_let (fun v114 _ => ?_)
          refine zRz_let (fun v115 _ => ?_)
          refine zRz_let (fun s116 es116 => ?_)
          have gs116 : zRz R s116 := by rw [es116]; exact g
          refine zRz_let (fun v118 _ => ?_)
          refine zRz_let (fun v119 _ => ?_)
          refine zRz_let (fun v120 _ => ?_)
          refine zRz_let (fun v121 _ => ?_)
          refine zRz_let (fun v122 _ => ?_)
          refine zRz_let (fun s123 es123 => ?_)
          have gs123 : zRz R s123 := by rw [es123]; exact gs116
          refine zRz_let (fun v125 _ => ?_)
          refine zRz_let (fun s126 es126 => ?_)
          have gs126 : zRz R s126 := by rw [es126]; exact gs123
          refine zRz_let (fun v128 _ => ?_)
          refine zRz_let (fun v129 _ => ?_)
          exact ih _ _ _ gs126
        · skip
          refine zRz_let (fun v109 _ => ?_)
          exact ih _ _ _ g
      · skip
        refine zRz_let (fun v105 _ => ?_)
        exact ckLp91 _ _ _ g
    · skip
      refine zRz_let (fun v102 _ => ?_)
      exact ckLp91 _ _ _ g
set_option maxRecDepth 100000 in
theorem rz_X6_countAbove_15 {R : Nat → Nat → Option Nat} {a0 : Nat} {p1 : Nat}  : ∀ (n : Nat) (x7 : Int32) (τ8 : zS), zRz R τ8 → zRz R (F_X6_countAbove_15 a0 p1 n x7 τ8) := by
  intro n
  induction n with
  | zero => intro x7 τ8 g; exact g
  | succ n ih =>
    intro x7 τ8 g
    rw [F_X6_countAbove_15]
    refine zRz_if (fun _ => ?_) (fun _ => ?_)
    · skip
      refine zRz_let (fun v10 _ => ?_)
      refine zRz_let (fun v11 _ => ?_)
      refine zRz_let (fun v12 _ => ?_)
      refine zRz_let (fun v13 _ => ?_)
      refine zRz_let (fun v14 _ => ?_)
      refine zRz_let (fun v15 _ => ?_)
      refine zRz_let (fun v16 _ => ?_)
      refine zRz_let (fun v17 _ => ?_)
      refine zRz_let (fun v18 _ => ?_)
      refine zRz_let (fun v19 _ => ?_)
      refine zRz_let (fun v20 _ => ?_)
      refine zRz_let (fun s21 es21 => ?_)
      have gs21 : zRz R s21 := by rw [es21]; exact g
      refine zRz_let (fun v22 _ => ?_)
      exact ih _ _ gs21
    · skip
      exact g
set_option maxRecDepth 100000 in
theorem rz_X6_countAbove {R : Nat → Nat → Option Nat} {σ0 : zS} {a0 : Nat} {p1 : Nat}  (g : zRz R σ0) : zRz R (F_X6_countAbove a0 p1 σ0) := by
  unfold F_X6_countAbove
  refine zRz_let (fun v1 _ => ?_)
  refine zRz_let (fun v2 _ => ?_)
  refine zRz_let (fun s3 es3 => ?_)
  have gs3 : zRz R s3 := by rw [es3]; exact g
  refine zRz_let (fun v4 _ => ?_)
  refine zRz_let (fun v5 _ => ?_)
  refine zRz_let (fun v6 _ => ?_)
  exact rz_X6_countAbove_15  _ _ _ gs3
set_option maxRecDepth 100000 in
theorem rz_X6_form_63_1 {R : Nat → Nat → Option Nat} {a0 : Nat} {p1 : Nat} {p2 : Nat}  : ∀ (n : Nat) (x89 : Int32) (x90 : Int32) (τ91 : zS), zRz R τ91 → zRz R (F_X6_form_63_1 a0 p1 p2 n x89 x90 τ91) := by
  intro n
  induction n with
  | zero => intro x89 x90 τ91 g; exact g
  | succ n ih =>
    intro x89 x90 τ91 g
    rw [F_X6_form_63_1]
    refine zRz_if (fun _ => ?_) (fun _ => ?_)
    · skip
      refine zRz_let (fun v94 _ => ?_)
      refine zRz_let (fun v95 _ => ?_)
      refine zRz_let (fun v96 _ => ?_)
      exact rz_X6_form_81_1 ih _ _ _ _ g
    · skip
      refine zRz_let (fun s93 es93 => ?_)
      have gs93 : zRz R s93 := by rw [es93]; exact rz_X6_countAbove g
      exact gs93
set_option maxRecDepth 100000 in
theorem rz_X6_form_81 {R : Nat → Nat → Option Nat} {v36 : Int32} {x30 : Int32} {a0 : Nat} {p1 : Nat} {p2 : Nat} {kLp32 : Int32 → Int32 → zS → zS} (ckLp32 : ∀ (y0 : Int32) (y1 : Int32) (s : zS), zRz R s → zRz R (kLp32 y0 y1 s)) : ∀ (n : Nat) (x38 : Int32) (x39 : Int32) (τ40 : zS), zRz R τ40 → zRz R (F_X6_form_81 v36 x30 a0 p1 p2 kLp32 n x38 x39 τ40) := by
  intro n
  induction n with
  | zero => intro x38 x39 τ40 g; exact g
  | succ n ih =>
    intro x38 x39 τ40 g
    rw [F_X6_form_81]
    refine zRz_let (fun v41 _ => ?_)
    refine zRz_if (fun _ => ?_) (fun _ => ?_)
    · skip
      refine zRz_let (fun v44 _ => ?_)
      refine zRz_if (fun _ => ?_) (fun _ => ?_)
      · skip
        refine zRz_let (fun v47 _ => ?_)
        refine zRz_let (fun v48 _ => ?_)
        refine zRz_if (fun _ => ?_) (fun _ => ?_)
        · skip
          refine zRz_let (fun v51 _ => ?_)
          refine zRz_let (fun v52 _ => ?_)
          refine zRz_let (fun v53 _ => ?_)
          refine zRz_let (fun v54 _ => ?_)
          refine zRz_let (fun v55 _ => ?_)
          refine zRz_let (fun v56 _ => ?_)
          refine zRz_let (fun s57 es57 => ?_)
          have gs57 : zRz R s57 := by rw [es57]; exact g
          refine zRz_let (fun v59 _ => ?_)
          refine zRz_let (fun v60 _ => ?_)
          refine zRz_let (fun v61 _ => ?_)
          refine zRz_let (fun v62 _ => ?_)
          refine zRz_let (fun v63 _ => ?_)
          refine zRz_let (fun s64 es64 => ?_)
          have gs64 : zRz R s64 := by rw [es64]; exact gs57
          refine zRz_let (fun v66 _ => ?_)
          refine zRz_let (fun s67 es67 => ?_)
          have gs67 : zRz R s67 := by rw [es67]; exact gs64
          refine zRz_let (fun v69 _ => ?_)
          refine zRz_let (fun v70 _ => ?_)
          exact ih _ _ _ gs67
        · skip
          refine zRz_let (fun v50 _ => ?_)
          exact ih _ _ _ g
      · skip
        refine zRz_let (fun v46 _ => ?_)
        exact ckLp32 _ _ _ g
    · skip
      refine zRz_let (fun v43 _ => ?_)
      exact ckLp32 _ _ _ g
set_option maxRecDepth 100000 in
theorem rz_X6_form_63 {R : Nat → Nat → Option Nat} {a0 : Nat} {p1 : Nat} {p2 : Nat}  : ∀ (n : Nat) (x30 : Int32) (x31 : Int32) (τ32 : zS), zRz R τ32 → zRz R (F_X6_form_63 a0 p1 p2 n x30 x31 τ32) := by
  intro n
  induction n with
  | zero => intro x30 x31 τ32 g; exact g
  | succ n ih =>
    intro x30 x31 τ32 g
    rw [F_X6_form_63]
    refine zRz_if (fun _ => ?_) (fun _ => ?_)
    · skip
      refine zRz_let (fun v35 _ => ?_)
      refine zRz_let (fun v36 _ => ?_)
      refine zRz_let (fun v37 _ => ?_)
      exact rz_X6_form_81 ih _ _ _ _ g
    · skip
      refine zRz_let (fun s34 es34 => ?_)
      have gs34 : zRz R s34 := by rw [es34]; exact rz_X6_countAbove g
      exact gs34
set_option maxRecDepth 100000 in
theorem rz_X6_form {R : Nat → Nat → Option Nat} {σ0 : zS} {a0 : Nat} {p1 : Nat} {p2 : Nat}  (g : zRz R σ0) : zRz R (F_X6_form a0 p1 p2 σ0) := by
  unfold F_X6_form
  refine zRz_let (fun v1 _ => ?_)
  refine zRz_let (fun s2 es2 => ?_)
  have gs2 : zRz R s2 := by rw [es2]; exact g
  refine zRz_let (fun v4 _ => ?_)
  refine zRz_let (fun v5 _ => ?_)
  refine zRz_let (fun v6 _ => ?_)
  refine zRz_let (fun v7 _ => ?_)
  refine zRz_let (fun v8 _ => ?_)
  refine zRz_let (fun s9 es9 => ?_)
  have gs9 : zRz R s9 := by rw [es9]; exact gs2
  refine zRz_let (fun v10 _ => ?_)
  refine zRz_if (fun _ => ?_) (fun _ => ?_)
  · skip
    refine zRz_let (fun v71 _ => ?_)
    refine zRz_let (fun v72 _ => ?_)
    refine zRz_let (fun v73 _ => ?_)
    refine zRz_let (fun v74 _ => ?_)
    refine zRz_let (fun s75 es75 => ?_)
    have gs75 : zRz R s75 := by rw [es75]; exact gs9
    refine zRz_let (fun v77 _ => ?_)
    refine zRz_let (fun v78 _ => ?_)
    refine zRz_let (fun v79 _ => ?_)
    refine zRz_let (fun s80 es80 => ?_)
    have gs80 : zRz R s80 := by rw [es80]; exact gs75
    refine zRz_let (fun v82 _ => ?_)
    refine zRz_let (fun v83 _ => ?_)
    refine zRz_let (fun v84 _ => ?_)
    refine zRz_let (fun v85 _ => ?_)
    refine zRz_let (fun s86 es86 => ?_)
    have gs86 : zRz R s86 := by rw [es86]; exact gs80
    refine zRz_let (fun v88 _ => ?_)
    exact rz_X6_form_63_1  _ _ _ _ gs86
  · skip
    refine zRz_let (fun v12 _ => ?_)
    refine zRz_let (fun v13 _ => ?_)
    refine zRz_let (fun v14 _ => ?_)
    refine zRz_let (fun v15 _ => ?_)
    refine zRz_let (fun s16 es16 => ?_)
    have gs16 : zRz R s16 := by rw [es16]; exact gs9
    refine zRz_let (fun v18 _ => ?_)
    refine zRz_let (fun v19 _ => ?_)
    refine zRz_let (fun v20 _ => ?_)
    refine zRz_let (fun s21 es21 => ?_)
    have gs21 : zRz R s21 := by rw [es21]; exact gs16
    refine zRz_let (fun v23 _ => ?_)
    refine zRz_let (fun v24 _ => ?_)
    refine zRz_let (fun v25 _ => ?_)
    refine zRz_let (fun v26 _ => ?_)
    refine zRz_let (fun s27 es27 => ?_)
    have gs27 : zRz R s27 := by rw [es27]; exact gs21
    refine zRz_let (fun v29 _ => ?_)
    exact rz_X6_form_63  _ _ _ _ gs27
set_option maxRecDepth 100000 in
theorem rz_X5_form {R : Nat → Nat → Option Nat} {σ0 : zS} {a0 : Nat} {p1 : Nat} {p2 : Nat}  (g : zRz R σ0) : zRz R (F_X5_form a0 p1 p2 σ0) := by
  unfold F_X5_form
  refine zRz_let (fun s1 es1 => ?_)
  have gs1 : zRz R s1 := by rw [es1]; exact zRz.w5 g
  refine zRz_let (fun s2 es2 => ?_)
  have gs2 : zRz R s2 := by rw [es2]; exact zRz.w6 gs1
  refine zRz_let (fun v3 _ => ?_)
  refine zRz_let (fun s4 es4 => ?_)
  have gs4 : zRz R s4 := by rw [es4]; exact rz_X6_form gs2
  exact gs4
set_option maxRecDepth 100000 in
theorem rz_X1_moon {R : Nat → Nat → Option Nat} {σ0 : zS} {a0 : Nat}  (g : zRz R σ0) : zRy R (F_X1_moon a0 σ0) := by
  unfold F_X1_moon
  refine zRy_let (fun v1 _ => ?_)
  refine zRy_let (fun v2 _ => ?_)
  refine zRy_let (fun v3 _ => ?_)
  exact g
set_option maxRecDepth 100000 in
theorem rz_X0_answer_13 {R : Nat → Nat → Option Nat} {a0 : Nat} {p1 : Nat} {p2 : Int32}  : ∀ (n : Nat) (x5 : Int32) (x6 : Int32) (x7 : Int32) (τ8 : zS), zRz R τ8 → zRy R (F_X0_answer_13 a0 p1 p2 n x5 x6 x7 τ8) := by
  intro n
  induction n with
  | zero => intro x5 x6 x7 τ8 g; exact g
  | succ n ih =>
    intro x5 x6 x7 τ8 g
    rw [F_X0_answer_13]
    refine zRy_let (fun v9 _ => ?_)
    refine zRy_if (fun _ => ?_) (fun _ => ?_)
    · skip
      refine zRy_if (fun _ => ?_) (fun _ => ?_)
      · skip
        refine zRy_let (fun v13 _ => ?_)
        exact g
      · skip
        refine zRy_let (fun v14 _ => ?_)
        refine zRy_if (fun _ => ?_) (fun _ => ?_)
        · skip
          refine zRy_let (fun v18 _ => ?_)
          refine zRy_let (fun v19 _ => ?_)
          refine zRy_let (fun v20 _ => ?_)
          refine zRy_let (fun v21 _ => ?_)
          refine zRy_let (fun v22 _ => ?_)
          refine zRy_let (fun v23 _ => ?_)
          refine zRy_if (fun _ => ?_) (fun _ => ?_)
          · skip
            refine zRy_if (fun _ => ?_) (fun _ => ?_)
            · skip
              refine zRy_let (fun v109 _ => ?_)
              refine zRy_let (fun v110 _ => ?_)
              refine zRy_let (fun v111 _ => ?_)
              refine zRy_let (fun v112 _ => ?_)
              exact g
            · skip
              refine zRy_let (fun v108 _ => ?_)
              exact g
          · skip
            refine zRy_if (fun _ => ?_) (fun _ => ?_)
            · skip
              refine zRy_let (fun v26 _ => ?_)
              refine zRy_if (fun _ => ?_) (fun _ => ?_)
              · skip
                refine zRy_if (fun _ => ?_) (fun _ => ?_)
                · skip
                  refine zRy_let (fun v30 _ => ?_)
                  exact g
                · skip
                  refine zRy_let (fun v31 _ => ?_)
                  refine zRy_if (fun _ => ?_) (fun _ => ?_)
                  · skip
                    exact g
                  · skip
                    refine zRy_let (fun v33 _ => ?_)
                    refine zRy_if (fun _ => ?_) (fun _ => ?_)
                    · skip
                      refine zRy_let (fun s35 es35 => ?_)
                      have gs35 : zRz R s35 := by rw [es35]; exact g
                      refine zRy_let (fun v36 _ => ?_)
                      refine zRy_let (fun v37 _ => ?_)
                      exact ih _ _ _ _ gs35
                    · skip
                      exact g
              · skip
                refine zRy_let (fun v28 _ => ?_)
                exact g
            · skip
              refine zRy_let (fun v38 _ => ?_)
              refine zRy_if (fun _ => ?_) (fun _ => ?_)
              · skip
                refine zRy_let (fun v89 _ => ?_)
                refine zRy_if (fun _ => ?_) (fun _ => ?_)
                · skip
                  refine zRy_if (fun _ => ?_) (fun _ => ?_)
                  · skip
                    refine zRy_let (fun v93 _ => ?_)
                    exact g
                  · skip
                    refine zRy_let (fun v94 _ => ?_)
                    refine zRy_if (fun _ => ?_) (fun _ => ?_)
                    · skip
                      refine zRy_let (fun v96 _ => ?_)
                      refine zRy_if (fun _ => ?_) (fun _ => ?_)
                      · skip
                        refine zRy_let (fun v99 _ => ?_)
                        refine zRy_if (fun _ => ?_) (fun _ => ?_)
                        · skip
                          exact g
                        · skip
                          refine zRy_let (fun v101 _ => ?_)
                          refine zRy_let (fun v102 _ => ?_)
                          refine zRy_let (fun s103 es103 => ?_)
                          have gs103 : zRz R s103 := by rw [es103]; exact g
                          refine zRy_let (fun v104 _ => ?_)
                          refine zRy_let (fun v105 _ => ?_)
                          exact ih _ _ _ _ gs103
                      · skip
                        refine zRy_let (fun v106 _ => ?_)
                        exact g
                    · skip
                      exact g
                · skip
                  refine zRy_let (fun v91 _ => ?_)
                  exact g
              · skip
                refine zRy_let (fun v40 _ => ?_)
                refine zRy_if (fun _ => ?_) (fun _ => ?_)
                · skip
                  refine zRy_let (fun v88 _ => ?_)
                  exact g
                · skip
                  refine zRy_let (fun v42 _ => ?_)
                  refine zRy_let (fun v43 _ => ?_)
                  refine zRy_let (fun v44 _ => ?_)
                  refine zRy_let (fun v45 _ => ?_)
                  refine zRy_let (fun v46 _ => ?_)
                  refine zRy_let (fun v47 _ => ?_)
                  refine zRy_let (fun v48 _ => ?_)
                  refine zRy_if (fun _ => ?_) (fun _ => ?_)
                  · skip
                    refine zRy_let (fun v50 _ => ?_)
                    refine zRy_let (fun v51 _ => ?_)
                    refine zRy_let (fun v52 _ => ?_)
                    refine zRy_let (fun v53 _ => ?_)
                    refine zRy_let (fun s54 es54 => ?_)
                    have gs54 : zRz R s54 := by rw [es54]; exact g
                    refine zRy_let (fun v55 _ => ?_)
                    exact ih _ _ _ _ gs54
                  · skip
                    refine zRy_if (fun _ => ?_) (fun _ => ?_)
                    · skip
                      refine zRy_let (fun v57 _ => ?_)
                      refine zRy_let (fun v58 _ => ?_)
                      refine zRy_let (fun v59 _ => ?_)
                      refine zRy_let (fun v60 _ => ?_)
                      refine zRy_let (fun s61 es61 => ?_)
                      have gs61 : zRz R s61 := by rw [es61]; exact g
                      refine zRy_let (fun v62 _ => ?_)
                      exact ih _ _ _ _ gs61
                    · skip
                      refine zRy_if (fun _ => ?_) (fun _ => ?_)
                      · skip
                        refine zRy_let (fun v64 _ => ?_)
                        refine zRy_let (fun v65 _ => ?_)
                        refine zRy_let (fun v66 _ => ?_)
                        refine zRy_let (fun v67 _ => ?_)
                        refine zRy_let (fun s68 es68 => ?_)
                        have gs68 : zRz R s68 := by rw [es68]; exact g
                        refine zRy_let (fun v69 _ => ?_)
                        exact ih _ _ _ _ gs68
                      · skip
                        refine zRy_if (fun _ => ?_) (fun _ => ?_)
                        · skip
                          refine zRy_if (fun _ => ?_) (fun _ => ?_)
                          · skip
                            refine zRy_let (fun v78 _ => ?_)
                            exact g
                          · skip
                            refine zRy_let (fun v72 _ => ?_)
                            refine zRy_let (fun v73 _ => ?_)
                            refine zRy_let (fun v74 _ => ?_)
                            refine zRy_let (fun v75 _ => ?_)
                            refine zRy_let (fun s76 es76 => ?_)
                            have gs76 : zRz R s76 := by rw [es76]; exact g
                            refine zRy_let (fun v77 _ => ?_)
                            exact ih _ _ _ _ gs76
                        · skip
                          refine zRy_let (fun v79 _ => ?_)
                          refine zRy_if (fun _ => ?_) (fun _ => ?_)
                          · skip
                            refine zRy_let (fun v83 _ => ?_)
                            exact ih _ _ _ _ g
                          · skip
                            refine zRy_if (fun _ => ?_) (fun _ => ?_)
                            · skip
                              refine zRy_let (fun v87 _ => ?_)
                              exact ih _ _ _ _ g
                            · skip
                              refine zRy_let (fun v86 _ => ?_)
                              exact ih _ _ _ _ g
        · skip
          refine zRy_let (fun v17 _ => ?_)
          exact g
    · skip
      refine zRy_let (fun v11 _ => ?_)
      exact g
set_option maxRecDepth 100000 in
theorem rz_X0_answer {R : Nat → Nat → Option Nat} {σ0 : zS} {a0 : Nat} {p1 : Nat} {p2 : Int32}  (g : zRz R σ0) : zRy R (F_X0_answer a0 p1 p2 σ0) := by
  unfold F_X0_answer
  refine zRy_let (fun v1 _ => ?_)
  refine zRy_let (fun v2 _ => ?_)
  refine zRy_let (fun v3 _ => ?_)
  refine zRy_let (fun v4 _ => ?_)
  exact rz_X0_answer_13  _ _ _ _ _ g
set_option maxRecDepth 100000 in
theorem rz_X5_tells {R : Nat → Nat → Option Nat} {σ0 : zS} {a0 : Nat} {p1 : Int32} {p2 : Int32} {p3 : Int32}  (g : zRz R σ0) : zRy R (F_X5_tells a0 p1 p2 p3 σ0) := by
  unfold F_X5_tells
  refine zRy_let (fun v1 _ => ?_)
  refine zRy_let (fun v2 _ => ?_)
  refine zRy_let (fun v3 _ => ?_)
  refine zRy_let (fun v4 _ => ?_)
  refine zRy_let (fun v5 _ => ?_)
  refine zRy_let (fun v6 _ => ?_)
  refine zRy_let (fun s7 es7 => ?_)
  have gs7 : zRz R s7 := by rw [es7]; exact g
  refine zRy_let (fun v8 _ => ?_)
  refine zRy_let (fun v9 _ => ?_)
  refine zRy_let (fun v10 _ => ?_)
  refine zRy_let (fun v11 _ => ?_)
  refine zRy_let (fun s12 es12 => ?_)
  have gs12 : zRz R s12 := by rw [es12]; exact gs7
  refine zRy_let (fun v13 _ => ?_)
  refine zRy_let (fun v14 _ => ?_)
  refine zRy_let (fun v15 _ => ?_)
  refine zRy_let (fun v16 _ => ?_)
  refine zRy_let (fun s17 es17 => ?_)
  have gs17 : zRz R s17 := by rw [es17]; exact gs12
  refine zRy_let (fun v18 _ => ?_)
  refine zRy_let (fun v19 _ => ?_)
  refine zRy_let2 (fun v20 s21 es21 => ?_)
  have gs21 : zRz R s21 := zRy.of (rz_X1_moon gs17) es21
  refine zRy_let (fun s22 es22 => ?_)
  have gs22 : zRz R s22 := by rw [es22]; exact gs21
  refine zRy_let (fun v23 _ => ?_)
  refine zRy_let (fun s24 es24 => ?_)
  have gs24 : zRz R s24 := by rw [es24]; exact gs22
  refine zRy_let (fun v25 _ => ?_)
  refine zRy_let (fun v26 _ => ?_)
  refine zRy_let (fun v27 _ => ?_)
  refine zRy_let (fun v28 _ => ?_)
  refine zRy_let (fun s29 es29 => ?_)
  have gs29 : zRz R s29 := by rw [es29]; exact gs24
  refine zRy_let (fun v30 _ => ?_)
  refine zRy_let (fun v31 _ => ?_)
  refine zRy_let (fun v32 _ => ?_)
  refine zRy_let (fun v33 _ => ?_)
  refine zRy_let (fun s34 es34 => ?_)
  have gs34 : zRz R s34 := by rw [es34]; exact gs29
  refine zRy_let (fun v35 _ => ?_)
  refine zRy_let (fun s36 es36 => ?_)
  have gs36 : zRz R s36 := by rw [es36]; exact gs34
  refine zRy_let (fun v37 _ => ?_)
  refine zRy_let (fun v38 _ => ?_)
  refine zRy_let (fun v39 _ => ?_)
  refine zRy_let (fun v40 _ => ?_)
  refine zRy_let (fun s41 es41 => ?_)
  have gs41 : zRz R s41 := by rw [es41]; exact gs36
  refine zRy_let (fun v42 _ => ?_)
  refine zRy_let (fun v43 _ => ?_)
  refine zRy_let2 (fun v44 s45 es45 => ?_)
  have gs45 : zRz R s45 := zRy.of (rz_X0_answer gs41) es45
  exact gs45
set_option maxRecDepth 100000 in
theorem rz_X5_rainDown_2 {R : Nat → Nat → Option Nat} {a0 : Nat} {p1 : Int32}  : ∀ (n : Nat) (x2 : Int32) (τ3 : zS), zRz R τ3 → zRz R (F_X5_rainDown_2 a0 p1 n x2 τ3) := by
  intro n
  induction n with
  | zero => intro x2 τ3 g; exact g
  | succ n ih =>
    intro x2 τ3 g
    rw [F_X5_rainDown_2]
    refine zRz_let (fun v4 _ => ?_)
    refine zRz_let (fun v5 _ => ?_)
    refine zRz_if (fun _ => ?_) (fun _ => ?_)
    · skip
      refine zRz_let (fun v7 _ => ?_)
      refine zRz_let (fun v8 _ => ?_)
      refine zRz_let (fun v9 _ => ?_)
      refine zRz_let2 (fun v10 s11 es11 => ?_)
      have gs11 : zRz R s11 := zRy.of (rz_X5_tells g) es11
      refine zRz_let (fun v12 _ => ?_)
      refine zRz_let (fun v13 _ => ?_)
      refine zRz_let (fun v14 _ => ?_)
      refine zRz_let (fun v15 _ => ?_)
      refine zRz_let (fun s16 es16 => ?_)
      have gs16 : zRz R s16 := by rw [es16]; exact gs11
      refine zRz_let (fun v17 _ => ?_)
      exact ih _ _ gs16
    · skip
      exact g
set_option maxRecDepth 100000 in
theorem rz_X5_rainDown {R : Nat → Nat → Option Nat} {σ0 : zS} {a0 : Nat} {p1 : Int32}  (g : zRz R σ0) : zRz R (F_X5_rainDown a0 p1 σ0) := by
  unfold F_X5_rainDown
  refine zRz_let (fun v1 _ => ?_)
  exact rz_X5_rainDown_2  _ _ _ g
set_option maxRecDepth 100000 in
theorem rz_X5_dried {R : Nat → Nat → Option Nat} {σ0 : zS} {a0 : Nat} {p1 : Int32}  (g : zRz R σ0) : zRy R (F_X5_dried a0 p1 σ0) := by
  unfold F_X5_dried
  refine zRy_let (fun v1 _ => ?_)
  refine zRy_let (fun v2 _ => ?_)
  refine zRy_let (fun v3 _ => ?_)
  refine zRy_let2 (fun v4 s5 es5 => ?_)
  have gs5 : zRz R s5 := zRy.of (rz_X5_tells g) es5
  refine zRy_let (fun v6 _ => ?_)
  refine zRy_let (fun v7 _ => ?_)
  refine zRy_let (fun v8 _ => ?_)
  refine zRy_let (fun v9 _ => ?_)
  exact gs5
set_option maxRecDepth 100000 in
theorem rz_X5_run_25 {R : Nat → Nat → Option Nat} {a0 : Nat} {p1 : Int32}  : ∀ (n : Nat) (x11 : Int32) (τ12 : zS), zRz R τ12 → zRz R (F_X5_run_25 a0 p1 n x11 τ12) := by
  intro n
  induction n with
  | zero => intro x11 τ12 g; exact g
  | succ n ih =>
    intro x11 τ12 g
    rw [F_X5_run_25]
    refine zRz_if (fun _ => ?_) (fun _ => ?_)
    · skip
      refine zRz_let (fun v14 _ => ?_)
      refine zRz_let (fun v15 _ => ?_)
      refine zRz_let (fun v16 _ => ?_)
      refine zRz_let (fun v17 _ => ?_)
      refine zRz_if (fun _ => ?_) (fun _ => ?_)
      · skip
        refine zRz_let (fun v20 _ => ?_)
        refine zRz_let (fun v21 _ => ?_)
        refine zRz_let (fun v22 _ => ?_)
        refine zRz_let (fun v23 _ => ?_)
        refine zRz_let (fun v24 _ => ?_)
        refine zRz_let (fun v25 _ => ?_)
        refine zRz_let (fun v26 _ => ?_)
        refine zRz_let2 (fun v27 s28 es28 => ?_)
        have gs28 : zRz R s28 := zRy.of (rz_X5_dried g) es28
        refine zRz_let (fun v29 _ => ?_)
        refine zRz_let (fun v30 _ => ?_)
        refine zRz_let (fun s31 es31 => ?_)
        have gs31 : zRz R s31 := by rw [es31]; exact gs28
        refine zRz_let (fun v32 _ => ?_)
        exact ih _ _ gs31
      · skip
        refine zRz_let (fun v19 _ => ?_)
        exact ih _ _ g
    · skip
      exact g
set_option maxRecDepth 100000 in
theorem rz_X5_run {R : Nat → Nat → Option Nat} {σ0 : zS} {a0 : Nat} {p1 : Int32}  (g : zRz R σ0) : zRz R (F_X5_run a0 p1 σ0) := by
  unfold F_X5_run
  refine zRz_let (fun v1 _ => ?_)
  refine zRz_let (fun v2 _ => ?_)
  refine zRz_let (fun v3 _ => ?_)
  refine zRz_let (fun v4 _ => ?_)
  refine zRz_let (fun v5 _ => ?_)
  refine zRz_let (fun s6 es6 => ?_)
  have gs6 : zRz R s6 := by rw [es6]; exact g
  refine zRz_let (fun v7 _ => ?_)
  refine zRz_let (fun v8 _ => ?_)
  refine zRz_let (fun v9 _ => ?_)
  refine zRz_let (fun v10 _ => ?_)
  exact rz_X5_run_25  _ _ _ gs6
set_option maxRecDepth 100000 in
theorem rz_X5_fall {R : Nat → Nat → Option Nat} {σ0 : zS} {a0 : Nat} {p1 : Int32}  (g : zRz R σ0) : zRz R (F_X5_fall a0 p1 σ0) := by
  unfold F_X5_fall
  refine zRz_let (fun s1 es1 => ?_)
  have gs1 : zRz R s1 := by rw [es1]; exact rz_X5_rainDown g
  refine zRz_let (fun v2 _ => ?_)
  refine zRz_let (fun v3 _ => ?_)
  refine zRz_let (fun s4 es4 => ?_)
  have gs4 : zRz R s4 := by rw [es4]; exact rz_X5_run gs1
  exact gs4
set_option maxRecDepth 100000 in
theorem rz_X5_look {R : Nat → Nat → Option Nat} {σ0 : zS} {a0 : Nat} {p1 : Nat} {p2 : Nat}  (g : zRz R σ0) : zRz R (F_X5_look a0 p1 p2 σ0) := by
  unfold F_X5_look
  refine zRz_let (fun s1 es1 => ?_)
  have gs1 : zRz R s1 := by rw [es1]; exact rz_X5_form g
  refine zRz_let (fun v2 _ => ?_)
  refine zRz_let (fun s3 es3 => ?_)
  have gs3 : zRz R s3 := by rw [es3]; exact rz_X5_fall gs1
  exact gs3
set_option maxRecDepth 100000 in
theorem rz_X10_look {R : Nat → Nat → Option Nat} {σ0 : zS} {a0 : Nat}  (g : zRz R σ0) : zRz R (F_X10_look a0 σ0) := by
  unfold F_X10_look
  refine zRz_let (fun v1 _ => ?_)
  refine zRz_let (fun v2 _ => ?_)
  refine zRz_let (fun v3 _ => ?_)
  refine zRz_let (fun s4 es4 => ?_)
  have gs4 : zRz R s4 := by rw [es4]; exact rz_X5_look g
  exact gs4
set_option maxRecDepth 100000 in
theorem rz_X6_isSource {R : Nat → Nat → Option Nat} {σ0 : zS} {a0 : Nat} {p1 : Int32}  (g : zRz R σ0) : zRy R (F_X6_isSource a0 p1 σ0) := by
  unfold F_X6_isSource
  refine zRy_if (fun _ => ?_) (fun _ => ?_)
  · skip
    refine zRy_let (fun v3 _ => ?_)
    refine zRy_if (fun _ => ?_) (fun _ => ?_)
    · skip
      refine zRy_let (fun v7 _ => ?_)
      refine zRy_let (fun v8 _ => ?_)
      refine zRy_if (fun _ => ?_) (fun _ => ?_)
      · skip
        refine zRy_let (fun v11 _ => ?_)
        exact g
      · skip
        refine zRy_let (fun v10 _ => ?_)
        exact g
    · skip
      refine zRy_let (fun v6 _ => ?_)
      exact g
  · skip
    refine zRy_let (fun v2 _ => ?_)
    exact g
set_option maxRecDepth 100000 in
theorem rz_X10_spot {R : Nat → Nat → Option Nat} {σ0 : zS} {a0 : Nat} {p1 : Int32} {p2 : Int32}  (g : zRz R σ0) : zRy R (F_X10_spot a0 p1 p2 σ0) := by
  unfold F_X10_spot
  refine zRy_let2 (fun v1 s2 es2 => ?_)
  have gs2 : zRz R s2 := zRy.of (rz_X10_isPlace g) es2
  refine zRy_if (fun _ => ?_) (fun _ => ?_)
  · skip
    refine zRy_let (fun v4 _ => ?_)
    exact gs2
  · skip
    refine zRy_if (fun _ => ?_) (fun _ => ?_)
    · skip
      refine zRy_let (fun v6 _ => ?_)
      exact gs2
    · skip
      refine zRy_let (fun v7 _ => ?_)
      refine zRy_if (fun _ => ?_) (fun _ => ?_)
      · skip
        refine zRy_let (fun v70 _ => ?_)
        exact gs2
      · skip
        refine zRy_let (fun s10 es10 => ?_)
        have gs10 : zRz R s10 := by rw [es10]; exact rz_X10_look gs2
        refine zRy_if (fun _ => ?_) (fun _ => ?_)
        · skip
          refine zRy_if (fun _ => ?_) (fun _ => ?_)
          · skip
            refine zRy_let (fun v16 _ => ?_)
            exact gs10
          · skip
            refine zRy_let (fun v13 _ => ?_)
            refine zRy_let (fun v14 _ => ?_)
            refine zRy_let (fun v15 _ => ?_)
            exact gs10
        · skip
          refine zRy_if (fun _ => ?_) (fun _ => ?_)
          · skip
            refine zRy_let (fun v18 _ => ?_)
            refine zRy_let (fun v19 _ => ?_)
            refine zRy_let (fun v20 _ => ?_)
            exact gs10
          · skip
            refine zRy_if (fun _ => ?_) (fun _ => ?_)
            · skip
              refine zRy_let (fun v22 _ => ?_)
              refine zRy_let (fun v23 _ => ?_)
              refine zRy_let (fun v24 _ => ?_)
              exact gs10
            · skip
              refine zRy_if (fun _ => ?_) (fun _ => ?_)
              · skip
                refine zRy_let (fun v26 _ => ?_)
                refine zRy_let (fun v27 _ => ?_)
                refine zRy_let (fun v28 _ => ?_)
                exact gs10
              · skip
                refine zRy_if (fun _ => ?_) (fun _ => ?_)
                · skip
                  refine zRy_let (fun v30 _ => ?_)
                  refine zRy_let (fun v31 _ => ?_)
                  refine zRy_let (fun v32 _ => ?_)
                  refine zRy_if (fun _ => ?_) (fun _ => ?_)
                  · skip
                    refine zRy_let (fun v34 _ => ?_)
                    exact gs10
                  · skip
                    refine zRy_let (fun v35 _ => ?_)
                    exact gs10
                · skip
                  refine zRy_if (fun _ => ?_) (fun _ => ?_)
                  · skip
                    refine zRy_let (fun v37 _ => ?_)
                    refine zRy_let (fun v38 _ => ?_)
                    refine zRy_let (fun v39 _ => ?_)
                    exact gs10
                  · skip
                    refine zRy_if (fun _ => ?_) (fun _ => ?_)
                    · skip
                      refine zRy_let (fun v41 _ => ?_)
                      refine zRy_let (fun v42 _ => ?_)
                      refine zRy_let (fun v43 _ => ?_)
                      exact gs10
                    · skip
                      refine zRy_if (fun _ => ?_) (fun _ => ?_)
                      · skip
                        refine zRy_let (fun v45 _ => ?_)
                        refine zRy_let (fun v46 _ => ?_)
                        refine zRy_let (fun v47 _ => ?_)
                        exact gs10
                      · skip
                        refine zRy_if (fun _ => ?_) (fun _ => ?_)
                        · skip
                          refine zRy_let (fun v49 _ => ?_)
                          refine zRy_let2 (fun v50 s51 es51 => ?_)
                          have gs51 : zRz R s51 := zRy.of (rz_X6_isSource gs10) es51
                          refine zRy_if (fun _ => ?_) (fun _ => ?_)
                          · skip
                            refine zRy_let (fun v53 _ => ?_)
                            exact gs51
                          · skip
                            refine zRy_let (fun v54 _ => ?_)
                            exact gs51
                        · skip
                          refine zRy_if (fun _ => ?_) (fun _ => ?_)
                          · skip
                            refine zRy_let (fun v56 _ => ?_)
                            refine zRy_let (fun v57 _ => ?_)
                            refine zRy_let (fun v58 _ => ?_)
                            exact gs10
                          · skip
                            refine zRy_if (fun _ => ?_) (fun _ => ?_)
                            · skip
                              refine zRy_let (fun v60 _ => ?_)
                              refine zRy_let (fun v61 _ => ?_)
                              refine zRy_let (fun v62 _ => ?_)
                              exact gs10
                            · skip
                              refine zRy_if (fun _ => ?_) (fun _ => ?_)
                              · skip
                                refine zRy_let (fun v64 _ => ?_)
                                refine zRy_let (fun v65 _ => ?_)
                                refine zRy_let (fun v66 _ => ?_)
                                exact gs10
                              · skip
                                refine zRy_let (fun v67 _ => ?_)
                                refine zRy_let2 (fun v68 s69 es69 => ?_)
                                have gs69 : zRz R s69 := zRy.of (rz_X5_dried gs10) es69
                                exact gs69
set_option maxRecDepth 100000 in
theorem rz_X10_isLaw {R : Nat → Nat → Option Nat} {σ0 : zS} {a0 : Nat} {p1 : Int32}  (g : zRz R σ0) : zRy R (F_X10_isLaw a0 p1 σ0) := by
  unfold F_X10_isLaw
  refine zRy_let (fun v1 _ => ?_)
  refine zRy_let (fun v2 _ => ?_)
  refine zRy_let (fun v3 _ => ?_)
  exact g
set_option maxRecDepth 100000 in
theorem rz_X10_isContest {R : Nat → Nat → Option Nat} {σ0 : zS} {a0 : Nat} {p1 : Int32} {p2 : Int32}  (g : zRz R σ0) : zRy R (F_X10_isContest a0 p1 p2 σ0) := by
  unfold F_X10_isContest
  refine zRy_let (fun v1 _ => ?_)
  refine zRy_let (fun v2 _ => ?_)
  refine zRy_let (fun v3 _ => ?_)
  refine zRy_let (fun s4 es4 => ?_)
  have gs4 : zRz R s4 := by rw [es4]; exact rz_X5_look g
  refine zRy_let2 (fun v5 s6 es6 => ?_)
  have gs6 : zRz R s6 := zRy.of (rz_X10_isLaw gs4) es6
  refine zRy_if (fun _ => ?_) (fun _ => ?_)
  · skip
    refine zRy_let (fun v8 _ => ?_)
    exact gs6
  · skip
    refine zRy_let (fun v9 _ => ?_)
    refine zRy_let2 (fun v10 s11 es11 => ?_)
    have gs11 : zRz R s11 := zRy.of (rz_X6_isSource gs6) es11
    refine zRy_if (fun _ => ?_) (fun _ => ?_)
    · skip
      refine zRy_let (fun v13 _ => ?_)
      exact gs11
    · skip
      refine zRy_let (fun v14 _ => ?_)
      exact gs11
set_option maxRecDepth 100000 in
theorem rz_X5_claimOf {R : Nat → Nat → Option Nat} {σ0 : zS} {a0 : Nat} {p1 : Int32} {p2 : Int32}  (g : zRz R σ0) : zRy R (F_X5_claimOf a0 p1 p2 σ0) := by
  unfold F_X5_claimOf
  refine zRy_let (fun v1 _ => ?_)
  refine zRy_let (fun v2 _ => ?_)
  refine zRy_let (fun v3 _ => ?_)
  refine zRy_let (fun v4 _ => ?_)
  refine zRy_let2 (fun v5 s6 es6 => ?_)
  have gs6 : zRz R s6 := zRy.of (rz_X5_tells g) es6
  refine zRy_let (fun v7 _ => ?_)
  refine zRy_let (fun v8 _ => ?_)
  refine zRy_let (fun v9 _ => ?_)
  exact gs6
set_option maxRecDepth 100000 in
theorem rz_X10_claim {R : Nat → Nat → Option Nat} {σ0 : zS} {a0 : Nat} {p1 : Int32} {p2 : Int32}  (g : zRz R σ0) : zRy R (F_X10_claim a0 p1 p2 σ0) := by
  unfold F_X10_claim
  refine zRy_let2 (fun v1 s2 es2 => ?_)
  have gs2 : zRz R s2 := zRy.of (rz_X10_isContest g) es2
  refine zRy_if (fun _ => ?_) (fun _ => ?_)
  · skip
    refine zRy_let (fun v4 _ => ?_)
    exact gs2
  · skip
    refine zRy_let (fun v5 _ => ?_)
    refine zRy_let2 (fun v6 s7 es7 => ?_)
    have gs7 : zRz R s7 := zRy.of (rz_X5_claimOf gs2) es7
    exact gs7
set_option maxRecDepth 100000 in
theorem rz_X5_weigh_2 {R : Nat → Nat → Option Nat} {a0 : Nat} {p1 : Int32}  : ∀ (n : Nat) (x2 : Int32) (τ3 : zS), zRz R τ3 → zRz R (F_X5_weigh_2 a0 p1 n x2 τ3) := by
  intro n
  induction n with
  | zero => intro x2 τ3 g; exact g
  | succ n ih =>
    intro x2 τ3 g
    rw [F_X5_weigh_2]
    refine zRz_let (fun v4 _ => ?_)
    refine zRz_let (fun v5 _ => ?_)
    refine zRz_if (fun _ => ?_) (fun _ => ?_)
    · skip
      refine zRz_let (fun v7 _ => ?_)
      refine zRz_let (fun v8 _ => ?_)
      refine zRz_let2 (fun v9 s10 es10 => ?_)
      have gs10 : zRz R s10 := zRy.of (rz_X6_isSource g) es10
      refine zRz_if (fun _ => ?_) (fun _ => ?_)
      · skip
        refine zRz_let (fun v12 _ => ?_)
        refine zRz_let (fun s13 es13 => ?_)
        have gs13 : zRz R s13 := by rw [es13]; exact gs10
        refine zRz_let (fun v14 _ => ?_)
        exact ih _ _ gs13
      · skip
        refine zRz_let2 (fun v15 s16 es16 => ?_)
        have gs16 : zRz R s16 := zRy.of (rz_X5_claimOf gs10) es16
        refine zRz_let (fun s17 es17 => ?_)
        have gs17 : zRz R s17 := by rw [es17]; exact gs16
        refine zRz_let (fun v18 _ => ?_)
        exact ih _ _ gs17
    · skip
      exact g
set_option maxRecDepth 100000 in
theorem rz_X5_weigh {R : Nat → Nat → Option Nat} {σ0 : zS} {a0 : Nat} {p1 : Int32}  (g : zRz R σ0) : zRz R (F_X5_weigh a0 p1 σ0) := by
  unfold F_X5_weigh
  refine zRz_let (fun v1 _ => ?_)
  exact rz_X5_weigh_2  _ _ _ g
set_option maxRecDepth 100000 in
theorem rz_X5_greatestClaim_5 {R : Nat → Nat → Option Nat} {a0 : Nat} {p1 : Int32}  : ∀ (n : Nat) (x3 : Int32) (x4 : Int32) (τ5 : zS), zRz R τ5 → zRy R (F_X5_greatestClaim_5 a0 p1 n x3 x4 τ5) := by
  intro n
  induction n with
  | zero => intro x3 x4 τ5 g; exact g
  | succ n ih =>
    intro x3 x4 τ5 g
    rw [F_X5_greatestClaim_5]
    refine zRy_let (fun v6 _ => ?_)
    refine zRy_let (fun v7 _ => ?_)
    refine zRy_if (fun _ => ?_) (fun _ => ?_)
    · skip
      refine zRy_if (fun _ => ?_) (fun _ => ?_)
      · skip
        refine zRy_let (fun v10 _ => ?_)
        exact ih _ _ _ g
      · skip
        refine zRy_let (fun v11 _ => ?_)
        refine zRy_let2 (fun v12 s13 es13 => ?_)
        have gs13 : zRz R s13 := zRy.of (rz_X6_isSource g) es13
        refine zRy_if (fun _ => ?_) (fun _ => ?_)
        · skip
          refine zRy_let (fun v15 _ => ?_)
          exact ih _ _ _ gs13
        · skip
          refine zRy_if (fun _ => ?_) (fun _ => ?_)
          · skip
            refine zRy_let (fun v17 _ => ?_)
            exact ih _ _ _ gs13
          · skip
            refine zRy_let (fun v18 _ => ?_)
            refine zRy_let (fun v19 _ => ?_)
            refine zRy_let (fun v20 _ => ?_)
            refine zRy_let (fun v21 _ => ?_)
            refine zRy_if (fun _ => ?_) (fun _ => ?_)
            · skip
              refine zRy_let (fun v26 _ => ?_)
              exact ih _ _ _ gs13
            · skip
              refine zRy_let (fun v25 _ => ?_)
              exact ih _ _ _ gs13
    · skip
      exact g
set_option maxRecDepth 100000 in
theorem rz_X5_greatestClaim {R : Nat → Nat → Option Nat} {σ0 : zS} {a0 : Nat} {p1 : Int32}  (g : zRz R σ0) : zRy R (F_X5_greatestClaim a0 p1 σ0) := by
  unfold F_X5_greatestClaim
  refine zRy_let (fun v1 _ => ?_)
  refine zRy_let (fun v2 _ => ?_)
  exact rz_X5_greatestClaim_5  _ _ _ _ g
set_option maxRecDepth 100000 in
theorem rz_X5_winnerBy {R : Nat → Nat → Option Nat} {σ0 : zS} {a0 : Nat} {p1 : Int32}  (g : zRz R σ0) : zRy R (F_X5_winnerBy a0 p1 σ0) := by
  unfold F_X5_winnerBy
  refine zRy_let (fun s1 es1 => ?_)
  have gs1 : zRz R s1 := by rw [es1]; exact rz_X5_weigh g
  refine zRy_let (fun v2 _ => ?_)
  refine zRy_let2 (fun v3 s4 es4 => ?_)
  have gs4 : zRz R s4 := zRy.of (rz_X5_greatestClaim gs1) es4
  exact gs4
set_option maxRecDepth 100000 in
theorem rz_X10_winner {R : Nat → Nat → Option Nat} {σ0 : zS} {a0 : Nat} {p1 : Int32}  (g : zRz R σ0) : zRy R (F_X10_winner a0 p1 σ0) := by
  unfold F_X10_winner
  refine zRy_let2 (fun v1 s2 es2 => ?_)
  have gs2 : zRz R s2 := zRy.of (rz_X10_isLaw g) es2
  refine zRy_if (fun _ => ?_) (fun _ => ?_)
  · skip
    refine zRy_let (fun v8 _ => ?_)
    exact gs2
  · skip
    refine zRy_let (fun s4 es4 => ?_)
    have gs4 : zRz R s4 := by rw [es4]; exact rz_X10_look gs2
    refine zRy_let (fun v5 _ => ?_)
    refine zRy_let2 (fun v6 s7 es7 => ?_)
    have gs7 : zRz R s7 := zRy.of (rz_X5_winnerBy gs4) es7
    exact gs7
set_option maxRecDepth 100000 in
theorem rz_X10_behind {R : Nat → Nat → Option Nat} {σ0 : zS} {a0 : Nat} {p1 : Int32} {p2 : Int32}  (g : zRz R σ0) : zRy R (F_X10_behind a0 p1 p2 σ0) := by
  unfold F_X10_behind
  refine zRy_let2 (fun v1 s2 es2 => ?_)
  have gs2 : zRz R s2 := zRy.of (rz_X10_isContest g) es2
  refine zRy_if (fun _ => ?_) (fun _ => ?_)
  · skip
    refine zRy_let (fun v16 _ => ?_)
    exact gs2
  · skip
    refine zRy_let (fun v4 _ => ?_)
    refine zRy_let2 (fun v5 s6 es6 => ?_)
    have gs6 : zRz R s6 := zRy.of (rz_X5_winnerBy gs2) es6
    refine zRy_if (fun _ => ?_) (fun _ => ?_)
    · skip
      refine zRy_let (fun v15 _ => ?_)
      exact gs6
    · skip
      refine zRy_let (fun v8 _ => ?_)
      refine zRy_let (fun v9 _ => ?_)
      refine zRy_let (fun v10 _ => ?_)
      refine zRy_let (fun v11 _ => ?_)
      refine zRy_let (fun v12 _ => ?_)
      refine zRy_let (fun v13 _ => ?_)
      refine zRy_let (fun v14 _ => ?_)
      exact gs6
set_option maxRecDepth 100000 in
theorem rz_X10_margin {R : Nat → Nat → Option Nat} {σ0 : zS} {a0 : Nat} {p1 : Int32}  (g : zRz R σ0) : zRy R (F_X10_margin a0 p1 σ0) := by
  unfold F_X10_margin
  refine zRy_let2 (fun v1 s2 es2 => ?_)
  have gs2 : zRz R s2 := zRy.of (rz_X10_isLaw g) es2
  refine zRy_if (fun _ => ?_) (fun _ => ?_)
  · skip
    refine zRy_let (fun v25 _ => ?_)
    exact gs2
  · skip
    refine zRy_let (fun s4 es4 => ?_)
    have gs4 : zRz R s4 := by rw [es4]; exact rz_X10_look gs2
    refine zRy_let (fun v5 _ => ?_)
    refine zRy_let (fun s6 es6 => ?_)
    have gs6 : zRz R s6 := by rw [es6]; exact rz_X5_weigh gs4
    refine zRy_let (fun v7 _ => ?_)
    refine zRy_let (fun v8 _ => ?_)
    refine zRy_let2 (fun v9 s10 es10 => ?_)
    have gs10 : zRz R s10 := zRy.of (rz_X5_greatestClaim gs6) es10
    refine zRy_let (fun v11 _ => ?_)
    refine zRy_let2 (fun v12 s13 es13 => ?_)
    have gs13 : zRz R s13 := zRy.of (rz_X5_greatestClaim gs10) es13
    refine zRy_if (fun _ => ?_) (fun _ => ?_)
    · skip
      refine zRy_let (fun v15 _ => ?_)
      exact gs13
    · skip
      refine zRy_if (fun _ => ?_) (fun _ => ?_)
      · skip
        refine zRy_let (fun v24 _ => ?_)
        exact gs13
      · skip
        refine zRy_let (fun v17 _ => ?_)
        refine zRy_let (fun v18 _ => ?_)
        refine zRy_let (fun v19 _ => ?_)
        refine zRy_let (fun v20 _ => ?_)
        refine zRy_let (fun v21 _ => ?_)
        refine zRy_let (fun v22 _ => ?_)
        refine zRy_let (fun v23 _ => ?_)
        exact gs13
set_option maxRecDepth 100000 in
theorem rz_X5_rankOf_4 {R : Nat → Nat → Option Nat} {a0 : Nat} {p1 : Int32}  : ∀ (n : Nat) (x3 : Int32) (x4 : Int32) (τ5 : zS), zRz R τ5 → zRy R (F_X5_rankOf_4 a0 p1 n x3 x4 τ5) := by
  intro n
  induction n with
  | zero => intro x3 x4 τ5 g; exact g
  | succ n ih =>
    intro x3 x4 τ5 g
    rw [F_X5_rankOf_4]
    refine zRy_let (fun v6 _ => ?_)
    refine zRy_let (fun v7 _ => ?_)
    refine zRy_if (fun _ => ?_) (fun _ => ?_)
    · skip
      refine zRy_let (fun v9 _ => ?_)
      refine zRy_let (fun v10 _ => ?_)
      refine zRy_let (fun v11 _ => ?_)
      refine zRy_let (fun v12 _ => ?_)
      refine zRy_if (fun _ => ?_) (fun _ => ?_)
      · skip
        refine zRy_let (fun v16 _ => ?_)
        refine zRy_let (fun v17 _ => ?_)
        exact ih _ _ _ g
      · skip
        refine zRy_let (fun v18 _ => ?_)
        refine zRy_let (fun v19 _ => ?_)
        refine zRy_let (fun v20 _ => ?_)
        refine zRy_let (fun v21 _ => ?_)
        refine zRy_if (fun _ => ?_) (fun _ => ?_)
        · skip
          refine zRy_if (fun _ => ?_) (fun _ => ?_)
          · skip
            refine zRy_let (fun v26 _ => ?_)
            refine zRy_let (fun v27 _ => ?_)
            exact ih _ _ _ g
          · skip
            refine zRy_let (fun v25 _ => ?_)
            exact ih _ _ _ g
        · skip
          refine zRy_let (fun v23 _ => ?_)
          exact ih _ _ _ g
    · skip
      exact g
set_option maxRecDepth 100000 in
theorem rz_X5_rankOf {R : Nat → Nat → Option Nat} {σ0 : zS} {a0 : Nat} {p1 : Int32}  (g : zRz R σ0) : zRy R (F_X5_rankOf a0 p1 σ0) := by
  unfold F_X5_rankOf
  refine zRy_let (fun v1 _ => ?_)
  refine zRy_let (fun v2 _ => ?_)
  exact rz_X5_rankOf_4  _ _ _ _ g
set_option maxRecDepth 100000 in
theorem rz_X10_rank {R : Nat → Nat → Option Nat} {σ0 : zS} {a0 : Nat} {p1 : Int32} {p2 : Int32}  (g : zRz R σ0) : zRy R (F_X10_rank a0 p1 p2 σ0) := by
  unfold F_X10_rank
  refine zRy_let2 (fun v1 s2 es2 => ?_)
  have gs2 : zRz R s2 := zRy.of (rz_X10_isContest g) es2
  refine zRy_if (fun _ => ?_) (fun _ => ?_)
  · skip
    refine zRy_let (fun v9 _ => ?_)
    exact gs2
  · skip
    refine zRy_let (fun v4 _ => ?_)
    refine zRy_let (fun s5 es5 => ?_)
    have gs5 : zRz R s5 := by rw [es5]; exact rz_X5_weigh gs2
    refine zRy_let (fun v6 _ => ?_)
    refine zRy_let2 (fun v7 s8 es8 => ?_)
    have gs8 : zRz R s8 := zRy.of (rz_X5_rankOf gs5) es8
    exact gs8
set_option maxRecDepth 100000 in
theorem rz_X6_sources_4 {R : Nat → Nat → Option Nat} {a0 : Nat}  : ∀ (n : Nat) (x3 : Int32) (x4 : Int32) (τ5 : zS), zRz R τ5 → zRy R (F_X6_sources_4 a0 n x3 x4 τ5) := by
  intro n
  induction n with
  | zero => intro x3 x4 τ5 g; exact g
  | succ n ih =>
    intro x3 x4 τ5 g
    rw [F_X6_sources_4]
    refine zRy_let (fun v6 _ => ?_)
    refine zRy_if (fun _ => ?_) (fun _ => ?_)
    · skip
      refine zRy_let (fun v8 _ => ?_)
      refine zRy_let (fun v9 _ => ?_)
      refine zRy_if (fun _ => ?_) (fun _ => ?_)
      · skip
        refine zRy_let (fun v12 _ => ?_)
        refine zRy_let (fun v13 _ => ?_)
        refine zRy_let (fun v14 _ => ?_)
        exact ih _ _ _ g
      · skip
        refine zRy_let (fun v11 _ => ?_)
        exact ih _ _ _ g
    · skip
      exact g
set_option maxRecDepth 100000 in
theorem rz_X6_sources {R : Nat → Nat → Option Nat} {σ0 : zS} {a0 : Nat}  (g : zRz R σ0) : zRy R (F_X6_sources a0 σ0) := by
  unfold F_X6_sources
  refine zRy_let (fun v1 _ => ?_)
  refine zRy_let (fun v2 _ => ?_)
  exact rz_X6_sources_4  _ _ _ _ g
set_option maxRecDepth 100000 in
theorem rz_X10_castVotes_17 {R : Nat → Nat → Option Nat} {x2 : Int32} {a0 : Nat} {kLp3 : Int32 → zS → zS} (ckLp3 : ∀ (y0 : Int32) (s : zS), zRz R s → zRz R (kLp3 y0 s)) : ∀ (n : Nat) (x9 : Int32) (τ10 : zS), zRz R τ10 → zRz R (F_X10_castVotes_17 x2 a0 kLp3 n x9 τ10) := by
  intro n
  induction n with
  | zero => intro x9 τ10 g; exact g
  | succ n ih =>
    intro x9 τ10 g
    rw [F_X10_castVotes_17]
    refine zRz_let (fun v11 _ => ?_)
    refine zRz_let (fun v12 _ => ?_)
    refine zRz_if (fun _ => ?_) (fun _ => ?_)
    · skip
      refine zRz_let (fun v15 _ => ?_)
      refine zRz_let (fun v16 _ => ?_)
      refine zRz_let2 (fun v17 s18 es18 => ?_)
      have gs18 : zRz R s18 := zRy.of (rz_X5_rankOf g) es18
      refine zRz_let (fun v19 _ => ?_)
      refine zRz_let (fun v20 _ => ?_)
      refine zRz_let (fun v21 _ => ?_)
      refine zRz_if (fun _ => ?_) (fun _ => ?_)
      · skip
        refine zRz_let (fun s28 es28 => ?_)
        have gs28 : zRz R s28 := by rw [es28]; exact gs18
        refine zRz_let (fun v29 _ => ?_)
        exact ih _ _ gs28
      · skip
        refine zRz_let (fun v23 _ => ?_)
        refine zRz_let (fun v24 _ => ?_)
        refine zRz_let (fun v25 _ => ?_)
        refine zRz_let (fun s26 es26 => ?_)
        have gs26 : zRz R s26 := by rw [es26]; exact gs18
        refine zRz_let (fun v27 _ => ?_)
        exact ih _ _ gs26
    · skip
      refine zRz_let (fun v14 _ => ?_)
      exact ckLp3 _ _ g
set_option maxRecDepth 100000 in
theorem rz_X10_castVotes_2 {R : Nat → Nat → Option Nat} {a0 : Nat}  : ∀ (n : Nat) (x2 : Int32) (τ3 : zS), zRz R τ3 → zRz R (F_X10_castVotes_2 a0 n x2 τ3) := by
  intro n
  induction n with
  | zero => intro x2 τ3 g; exact g
  | succ n ih =>
    intro x2 τ3 g
    rw [F_X10_castVotes_2]
    refine zRz_let (fun v4 _ => ?_)
    refine zRz_if (fun _ => ?_) (fun _ => ?_)
    · skip
      refine zRz_let (fun v6 _ => ?_)
      refine zRz_let (fun s7 es7 => ?_)
      have gs7 : zRz R s7 := by rw [es7]; exact rz_X5_weigh g
      refine zRz_let (fun v8 _ => ?_)
      exact rz_X10_castVotes_17 ih _ _ _ gs7
    · skip
      exact g
set_option maxRecDepth 100000 in
theorem rz_X10_castVotes {R : Nat → Nat → Option Nat} {σ0 : zS} {a0 : Nat}  (g : zRz R σ0) : zRz R (F_X10_castVotes a0 σ0) := by
  unfold F_X10_castVotes
  refine zRz_let (fun v1 _ => ?_)
  exact rz_X10_castVotes_2  _ _ _ g
set_option maxRecDepth 100000 in
theorem rz_X10_votesFor_4 {R : Nat → Nat → Option Nat} {a0 : Nat} {p1 : Int32}  : ∀ (n : Nat) (x3 : Int32) (x4 : Int32) (τ5 : zS), zRz R τ5 → zRy R (F_X10_votesFor_4 a0 p1 n x3 x4 τ5) := by
  intro n
  induction n with
  | zero => intro x3 x4 τ5 g; exact g
  | succ n ih =>
    intro x3 x4 τ5 g
    rw [F_X10_votesFor_4]
    refine zRy_let (fun v6 _ => ?_)
    refine zRy_let (fun v7 _ => ?_)
    refine zRy_if (fun _ => ?_) (fun _ => ?_)
    · skip
      refine zRy_let (fun v9 _ => ?_)
      refine zRy_let2 (fun v10 s11 es11 => ?_)
      have gs11 : zRz R s11 := zRy.of (rz_X6_isSource g) es11
      refine zRy_if (fun _ => ?_) (fun _ => ?_)
      · skip
        refine zRy_let (fun v13 _ => ?_)
        exact ih _ _ _ gs11
      · skip
        refine zRy_let (fun v14 _ => ?_)
        refine zRy_let (fun v15 _ => ?_)
        refine zRy_let (fun v16 _ => ?_)
        refine zRy_let (fun v17 _ => ?_)
        refine zRy_if (fun _ => ?_) (fun _ => ?_)
        · skip
          refine zRy_let (fun v20 _ => ?_)
          refine zRy_let (fun v21 _ => ?_)
          exact ih _ _ _ gs11
        · skip
          refine zRy_let (fun v19 _ => ?_)
          exact ih _ _ _ gs11
    · skip
      exact g
set_option maxRecDepth 100000 in
theorem rz_X10_votesFor {R : Nat → Nat → Option Nat} {σ0 : zS} {a0 : Nat} {p1 : Int32}  (g : zRz R σ0) : zRy R (F_X10_votesFor a0 p1 σ0) := by
  unfold F_X10_votesFor
  refine zRy_let (fun v1 _ => ?_)
  refine zRy_let (fun v2 _ => ?_)
  exact rz_X10_votesFor_4  _ _ _ _ g
set_option maxRecDepth 100000 in
theorem rz_X10_vote_36 {R : Nat → Nat → Option Nat} {a0 : Nat} {p1 : Int32}  : ∀ (n : Nat) (x13 : Int32) (x14 : Int32) (τ15 : zS), zRz R τ15 → zRy R (F_X10_vote_36 a0 p1 n x13 x14 τ15) := by
  intro n
  induction n with
  | zero => intro x13 x14 τ15 g; exact g
  | succ n ih =>
    intro x13 x14 τ15 g
    rw [F_X10_vote_36]
    refine zRy_let (fun v16 _ => ?_)
    refine zRy_if (fun _ => ?_) (fun _ => ?_)
    · skip
      refine zRy_let2 (fun v21 s22 es22 => ?_)
      have gs22 : zRz R s22 := zRy.of (rz_X10_votesFor g) es22
      refine zRy_let2 (fun v23 s24 es24 => ?_)
      have gs24 : zRz R s24 := zRy.of (rz_X10_votesFor gs22) es24
      refine zRy_if (fun _ => ?_) (fun _ => ?_)
      · skip
        refine zRy_let (fun v29 _ => ?_)
        exact ih _ _ _ gs24
      · skip
        refine zRy_let (fun v28 _ => ?_)
        exact ih _ _ _ gs24
    · skip
      refine zRy_if (fun _ => ?_) (fun _ => ?_)
      · skip
        exact g
      · skip
        refine zRy_let2 (fun v19 s20 es20 => ?_)
        have gs20 : zRz R s20 := zRy.of (rz_X10_votesFor g) es20
        exact gs20
set_option maxRecDepth 100000 in
theorem rz_X10_vote {R : Nat → Nat → Option Nat} {σ0 : zS} {a0 : Nat} {p1 : Int32}  (g : zRz R σ0) : zRy R (F_X10_vote a0 p1 σ0) := by
  unfold F_X10_vote
  refine zRy_let (fun v1 _ => ?_)
  refine zRy_let (fun v2 _ => ?_)
  refine zRy_let (fun v3 _ => ?_)
  refine zRy_if (fun _ => ?_) (fun _ => ?_)
  · skip
    refine zRy_let (fun v31 _ => ?_)
    exact g
  · skip
    refine zRy_let (fun s5 es5 => ?_)
    have gs5 : zRz R s5 := by rw [es5]; exact rz_X10_look g
    refine zRy_let (fun v6 _ => ?_)
    refine zRy_let2 (fun v7 s8 es8 => ?_)
    have gs8 : zRz R s8 := zRy.of (rz_X6_sources gs5) es8
    refine zRy_if (fun _ => ?_) (fun _ => ?_)
    · skip
      refine zRy_let (fun v30 _ => ?_)
      exact gs8
    · skip
      refine zRy_let (fun s10 es10 => ?_)
      have gs10 : zRz R s10 := by rw [es10]; exact rz_X10_castVotes gs8
      refine zRy_let (fun v11 _ => ?_)
      refine zRy_let (fun v12 _ => ?_)
      exact rz_X10_vote_36  _ _ _ _ gs10
set_option maxRecDepth 100000 in
theorem rz_X10_hasMouth {R : Nat → Nat → Option Nat} {σ0 : zS} {a0 : Nat}  (g : zRz R σ0) : zRy R (F_X10_hasMouth a0 σ0) := by
  unfold F_X10_hasMouth
  refine zRy_let (fun v1 _ => ?_)
  refine zRy_let (fun v2 _ => ?_)
  refine zRy_if (fun _ => ?_) (fun _ => ?_)
  · skip
    refine zRy_let (fun v5 _ => ?_)
    exact g
  · skip
    refine zRy_let (fun v4 _ => ?_)
    exact g
set_option maxRecDepth 100000 in
theorem rz_X10_mouthFlow {R : Nat → Nat → Option Nat} {σ0 : zS} {a0 : Nat}  (g : zRz R σ0) : zRy R (F_X10_mouthFlow a0 σ0) := by
  unfold F_X10_mouthFlow
  refine zRy_let2 (fun v1 s2 es2 => ?_)
  have gs2 : zRz R s2 := zRy.of (rz_X10_hasMouth g) es2
  refine zRy_if (fun _ => ?_) (fun _ => ?_)
  · skip
    refine zRy_let (fun v4 _ => ?_)
    exact gs2
  · skip
    refine zRy_let (fun v5 _ => ?_)
    refine zRy_let (fun v6 _ => ?_)
    refine zRy_let (fun v7 _ => ?_)
    refine zRy_let (fun v8 _ => ?_)
    exact gs2
set_option maxRecDepth 100000 in
theorem rz_X10_fewestDams_33 {R : Nat → Nat → Option Nat} {v13 : Int32} {a0 : Nat} {p1 : Int32}  : ∀ (n : Nat) (x16 : Int32) (x17 : Int32) (τ18 : zS), zRz R τ18 → zRy R (F_X10_fewestDams_33 v13 a0 p1 n x16 x17 τ18) := by
  intro n
  induction n with
  | zero => intro x16 x17 τ18 g; exact g
  | succ n ih =>
    intro x16 x17 τ18 g
    rw [F_X10_fewestDams_33]
    refine zRy_if (fun _ => ?_) (fun _ => ?_)
    · skip
      exact g
    · skip
      refine zRy_let (fun v21 _ => ?_)
      refine zRy_let (fun v22 _ => ?_)
      refine zRy_let (fun v23 _ => ?_)
      refine zRy_if (fun _ => ?_) (fun _ => ?_)
      · skip
        refine zRy_let (fun v26 _ => ?_)
        refine zRy_let (fun v27 _ => ?_)
        refine zRy_if (fun _ => ?_) (fun _ => ?_)
        · skip
          refine zRy_let (fun v30 _ => ?_)
          exact ih _ _ _ g
        · skip
          refine zRy_let (fun v31 _ => ?_)
          refine zRy_if (fun _ => ?_) (fun _ => ?_)
          · skip
            refine zRy_let (fun v33 _ => ?_)
            exact ih _ _ _ g
          · skip
            refine zRy_let (fun v34 _ => ?_)
            refine zRy_let (fun v35 _ => ?_)
            refine zRy_let (fun v36 _ => ?_)
            refine zRy_let (fun v37 _ => ?_)
            refine zRy_let (fun s38 es38 => ?_)
            have gs38 : zRz R s38 := by rw [es38]; exact rz_X5_run g
            refine zRy_let2 (fun v39 s40 es40 => ?_)
            have gs40 : zRz R s40 := zRy.of (rz_X10_mouthFlow gs38) es40
            refine zRy_if (fun _ => ?_) (fun _ => ?_)
            · skip
              refine zRy_let (fun v44 _ => ?_)
              exact ih _ _ _ gs40
            · skip
              refine zRy_let (fun v45 _ => ?_)
              exact ih _ _ _ gs40
      · skip
        refine zRy_let (fun v25 _ => ?_)
        exact ih _ _ _ g
set_option maxRecDepth 100000 in
theorem rz_X10_fewestDams {R : Nat → Nat → Option Nat} {σ0 : zS} {a0 : Nat} {p1 : Int32}  (g : zRz R σ0) : zRy R (F_X10_fewestDams a0 p1 σ0) := by
  unfold F_X10_fewestDams
  refine zRy_let (fun v1 _ => ?_)
  refine zRy_let (fun v2 _ => ?_)
  refine zRy_let (fun v3 _ => ?_)
  refine zRy_let (fun v4 _ => ?_)
  refine zRy_let (fun v5 _ => ?_)
  refine zRy_let (fun v6 _ => ?_)
  refine zRy_let (fun v7 _ => ?_)
  refine zRy_let (fun v8 _ => ?_)
  refine zRy_let (fun v9 _ => ?_)
  refine zRy_let (fun v10 _ => ?_)
  refine zRy_let (fun v11 _ => ?_)
  refine zRy_let (fun v12 _ => ?_)
  refine zRy_let (fun v13 _ => ?_)
  refine zRy_let (fun v14 _ => ?_)
  refine zRy_let (fun v15 _ => ?_)
  exact rz_X10_fewestDams_33  _ _ _ _ g
set_option maxRecDepth 100000 in
theorem rz_X10_dams {R : Nat → Nat → Option Nat} {σ0 : zS} {a0 : Nat} {p1 : Int32} {p2 : Int32}  (g : zRz R σ0) : zRy R (F_X10_dams a0 p1 p2 σ0) := by
  unfold F_X10_dams
  refine zRy_let2 (fun v1 s2 es2 => ?_)
  have gs2 : zRz R s2 := zRy.of (rz_X10_hasMouth g) es2
  refine zRy_if (fun _ => ?_) (fun _ => ?_)
  · skip
    refine zRy_let (fun v4 _ => ?_)
    exact gs2
  · skip
    refine zRy_let (fun v5 _ => ?_)
    refine zRy_let (fun v6 _ => ?_)
    refine zRy_let (fun v7 _ => ?_)
    refine zRy_if (fun _ => ?_) (fun _ => ?_)
    · skip
      refine zRy_let (fun v9 _ => ?_)
      exact gs2
    · skip
      refine zRy_let (fun v10 _ => ?_)
      refine zRy_let (fun v11 _ => ?_)
      refine zRy_let (fun v12 _ => ?_)
      refine zRy_if (fun _ => ?_) (fun _ => ?_)
      · skip
        refine zRy_let (fun v24 _ => ?_)
        exact gs2
      · skip
        refine zRy_let (fun s14 es14 => ?_)
        have gs14 : zRz R s14 := by rw [es14]; exact rz_X10_look gs2
        refine zRy_let2 (fun v15 s16 es16 => ?_)
        have gs16 : zRz R s16 := zRy.of (rz_X10_fewestDams gs14) es16
        refine zRy_let (fun v17 _ => ?_)
        refine zRy_if (fun _ => ?_) (fun _ => ?_)
        · skip
          refine zRy_let (fun v23 _ => ?_)
          exact gs16
        · skip
          refine zRy_let (fun v19 _ => ?_)
          refine zRy_if (fun _ => ?_) (fun _ => ?_)
          · skip
            refine zRy_let (fun v22 _ => ?_)
            exact gs16
          · skip
            refine zRy_let (fun v21 _ => ?_)
            exact gs16
set_option maxRecDepth 100000 in
theorem rz_X10_lossOf {R : Nat → Nat → Option Nat} {σ0 : zS} {a0 : Nat} {p1 : Int32}  (g : zRz R σ0) : zRy R (F_X10_lossOf a0 p1 σ0) := by
  unfold F_X10_lossOf
  refine zRy_let2 (fun v1 s2 es2 => ?_)
  have gs2 : zRz R s2 := zRy.of (rz_X10_mouthFlow g) es2
  refine zRy_let (fun v3 _ => ?_)
  refine zRy_let (fun v4 _ => ?_)
  refine zRy_let (fun v5 _ => ?_)
  refine zRy_let (fun v6 _ => ?_)
  refine zRy_let (fun v7 _ => ?_)
  refine zRy_let (fun s8 es8 => ?_)
  have gs8 : zRz R s8 := by rw [es8]; exact rz_X5_run gs2
  refine zRy_let2 (fun v9 s10 es10 => ?_)
  have gs10 : zRz R s10 := zRy.of (rz_X10_mouthFlow gs8) es10
  refine zRy_let (fun v11 _ => ?_)
  exact gs10
set_option maxRecDepth 100000 in
theorem rz_X10_loss {R : Nat → Nat → Option Nat} {σ0 : zS} {a0 : Nat} {p1 : Int32}  (g : zRz R σ0) : zRy R (F_X10_loss a0 p1 σ0) := by
  unfold F_X10_loss
  refine zRy_if (fun _ => ?_) (fun _ => ?_)
  · skip
    refine zRy_let (fun v2 _ => ?_)
    exact g
  · skip
    refine zRy_let2 (fun v3 s4 es4 => ?_)
    have gs4 : zRz R s4 := zRy.of (rz_X10_isPlace g) es4
    refine zRy_if (fun _ => ?_) (fun _ => ?_)
    · skip
      refine zRy_let (fun v9 _ => ?_)
      exact gs4
    · skip
      refine zRy_let (fun s6 es6 => ?_)
      have gs6 : zRz R s6 := by rw [es6]; exact rz_X10_look gs4
      refine zRy_let2 (fun v7 s8 es8 => ?_)
      have gs8 : zRz R s8 := zRy.of (rz_X10_lossOf gs6) es8
      exact gs8
set_option maxRecDepth 100000 in
theorem rz_X10_greatestInto_4 {R : Nat → Nat → Option Nat} {a0 : Nat} {p1 : Int32}  : ∀ (n : Nat) (x3 : Int32) (x4 : Int32) (τ5 : zS), zRz R τ5 → zRy R (F_X10_greatestInto_4 a0 p1 n x3 x4 τ5) := by
  intro n
  induction n with
  | zero => intro x3 x4 τ5 g; exact g
  | succ n ih =>
    intro x3 x4 τ5 g
    rw [F_X10_greatestInto_4]
    refine zRy_let (fun v6 _ => ?_)
    refine zRy_let (fun v7 _ => ?_)
    refine zRy_if (fun _ => ?_) (fun _ => ?_)
    · skip
      refine zRy_let (fun v9 _ => ?_)
      refine zRy_let (fun v10 _ => ?_)
      refine zRy_let (fun v11 _ => ?_)
      refine zRy_if (fun _ => ?_) (fun _ => ?_)
      · skip
        refine zRy_let (fun v14 _ => ?_)
        refine zRy_if (fun _ => ?_) (fun _ => ?_)
        · skip
          refine zRy_let (fun v16 _ => ?_)
          exact ih _ _ _ g
        · skip
          refine zRy_let (fun v17 _ => ?_)
          refine zRy_let (fun v18 _ => ?_)
          refine zRy_let (fun v19 _ => ?_)
          refine zRy_let (fun v20 _ => ?_)
          refine zRy_let (fun v21 _ => ?_)
          refine zRy_let (fun v22 _ => ?_)
          refine zRy_if (fun _ => ?_) (fun _ => ?_)
          · skip
            refine zRy_let (fun v27 _ => ?_)
            exact ih _ _ _ g
          · skip
            refine zRy_let (fun v26 _ => ?_)
            exact ih _ _ _ g
      · skip
        refine zRy_let (fun v13 _ => ?_)
        exact ih _ _ _ g
    · skip
      exact g
set_option maxRecDepth 100000 in
theorem rz_X10_greatestInto {R : Nat → Nat → Option Nat} {σ0 : zS} {a0 : Nat} {p1 : Int32}  (g : zRz R σ0) : zRy R (F_X10_greatestInto a0 p1 σ0) := by
  unfold F_X10_greatestInto
  refine zRy_let (fun v1 _ => ?_)
  refine zRy_let (fun v2 _ => ?_)
  exact rz_X10_greatestInto_4  _ _ _ _ g
set_option maxRecDepth 100000 in
theorem rz_X10_main_21 {R : Nat → Nat → Option Nat} {a0 : Nat} {p1 : Int32}  : ∀ (n : Nat) (x9 : Int32) (x10 : Int32) (τ11 : zS), zRz R τ11 → zRy R (F_X10_main_21 a0 p1 n x9 x10 τ11) := by
  intro n
  induction n with
  | zero => intro x9 x10 τ11 g; exact g
  | succ n ih =>
    intro x9 x10 τ11 g
    rw [F_X10_main_21]
    refine zRy_if (fun _ => ?_) (fun _ => ?_)
    · skip
      refine zRy_let (fun v15 _ => ?_)
      refine zRy_if (fun _ => ?_) (fun _ => ?_)
      · skip
        exact g
      · skip
        refine zRy_let2 (fun v17 s18 es18 => ?_)
        have gs18 : zRz R s18 := zRy.of (rz_X10_greatestInto g) es18
        refine zRy_let (fun v19 _ => ?_)
        exact ih _ _ _ gs18
    · skip
      exact g
set_option maxRecDepth 100000 in
theorem rz_X10_main {R : Nat → Nat → Option Nat} {σ0 : zS} {a0 : Nat} {p1 : Int32}  (g : zRz R σ0) : zRy R (F_X10_main a0 p1 σ0) := by
  unfold F_X10_main
  refine zRy_let2 (fun v1 s2 es2 => ?_)
  have gs2 : zRz R s2 := zRy.of (rz_X10_hasMouth g) es2
  refine zRy_if (fun _ => ?_) (fun _ => ?_)
  · skip
    refine zRy_let (fun v4 _ => ?_)
    exact gs2
  · skip
    refine zRy_if (fun _ => ?_) (fun _ => ?_)
    · skip
      refine zRy_let (fun v20 _ => ?_)
      exact gs2
    · skip
      refine zRy_let (fun s6 es6 => ?_)
      have gs6 : zRz R s6 := by rw [es6]; exact rz_X10_look gs2
      refine zRy_let (fun v7 _ => ?_)
      refine zRy_let (fun v8 _ => ?_)
      exact rz_X10_main_21  _ _ _ _ gs6
set_option maxRecDepth 100000 in
theorem rz_X10_damFor_13 {R : Nat → Nat → Option Nat} {a0 : Nat} {p1 : Int32} {p2 : Int32}  : ∀ (n : Nat) (x5 : Int32) (τ6 : zS), zRz R τ6 → zRy R (F_X10_damFor_13 a0 p1 p2 n x5 τ6) := by
  intro n
  induction n with
  | zero => intro x5 τ6 g; exact g
  | succ n ih =>
    intro x5 τ6 g
    rw [F_X10_damFor_13]
    refine zRy_let (fun v7 _ => ?_)
    refine zRy_let (fun v8 _ => ?_)
    refine zRy_if (fun _ => ?_) (fun _ => ?_)
    · skip
      refine zRy_let (fun v11 _ => ?_)
      refine zRy_let (fun v12 _ => ?_)
      refine zRy_let (fun v13 _ => ?_)
      refine zRy_if (fun _ => ?_) (fun _ => ?_)
      · skip
        refine zRy_let (fun v16 _ => ?_)
        refine zRy_let (fun v17 _ => ?_)
        refine zRy_let (fun v18 _ => ?_)
        refine zRy_let (fun v19 _ => ?_)
        refine zRy_let (fun v20 _ => ?_)
        refine zRy_let (fun s21 es21 => ?_)
        have gs21 : zRz R s21 := by rw [es21]; exact rz_X5_run g
        refine zRy_let (fun v22 _ => ?_)
        refine zRy_let2 (fun v23 s24 es24 => ?_)
        have gs24 : zRz R s24 := zRy.of (rz_X5_winnerBy gs21) es24
        refine zRy_if (fun _ => ?_) (fun _ => ?_)
        · skip
          exact gs24
        · skip
          refine zRy_let (fun v26 _ => ?_)
          exact ih _ _ gs24
      · skip
        refine zRy_let (fun v15 _ => ?_)
        exact ih _ _ g
    · skip
      refine zRy_let (fun v10 _ => ?_)
      exact g
set_option maxRecDepth 100000 in
theorem rz_X10_damFor {R : Nat → Nat → Option Nat} {σ0 : zS} {a0 : Nat} {p1 : Int32} {p2 : Int32}  (g : zRz R σ0) : zRy R (F_X10_damFor a0 p1 p2 σ0) := by
  unfold F_X10_damFor
  refine zRy_let2 (fun v1 s2 es2 => ?_)
  have gs2 : zRz R s2 := zRy.of (rz_X10_isContest g) es2
  refine zRy_if (fun _ => ?_) (fun _ => ?_)
  · skip
    refine zRy_let (fun v27 _ => ?_)
    exact gs2
  · skip
    refine zRy_let (fun v4 _ => ?_)
    exact rz_X10_damFor_13  _ _ _ gs2
set_option maxRecDepth 100000 in
theorem rz_X6_deepest_4 {R : Nat → Nat → Option Nat} {a0 : Nat}  : ∀ (n : Nat) (x3 : Int32) (x4 : Int32) (τ5 : zS), zRz R τ5 → zRy R (F_X6_deepest_4 a0 n x3 x4 τ5) := by
  intro n
  induction n with
  | zero => intro x3 x4 τ5 g; exact g
  | succ n ih =>
    intro x3 x4 τ5 g
    rw [F_X6_deepest_4]
    refine zRy_let (fun v6 _ => ?_)
    refine zRy_if (fun _ => ?_) (fun _ => ?_)
    · skip
      refine zRy_let (fun v8 _ => ?_)
      refine zRy_let (fun v9 _ => ?_)
      refine zRy_let (fun v10 _ => ?_)
      refine zRy_let (fun v11 _ => ?_)
      refine zRy_let (fun v12 _ => ?_)
      exact ih _ _ _ g
    · skip
      exact g
set_option maxRecDepth 100000 in
theorem rz_X6_deepest {R : Nat → Nat → Option Nat} {σ0 : zS} {a0 : Nat}  (g : zRz R σ0) : zRy R (F_X6_deepest a0 σ0) := by
  unfold F_X6_deepest
  refine zRy_let (fun v1 _ => ?_)
  refine zRy_let (fun v2 _ => ?_)
  exact rz_X6_deepest_4  _ _ _ _ g
set_option maxRecDepth 100000 in
theorem rz_X10_depth {R : Nat → Nat → Option Nat} {σ0 : zS} {a0 : Nat}  (g : zRz R σ0) : zRy R (F_X10_depth a0 σ0) := by
  unfold F_X10_depth
  refine zRy_let (fun s1 es1 => ?_)
  have gs1 : zRz R s1 := by rw [es1]; exact rz_X10_look g
  refine zRy_let (fun v2 _ => ?_)
  refine zRy_let2 (fun v3 s4 es4 => ?_)
  have gs4 : zRz R s4 := zRy.of (rz_X6_deepest gs1) es4
  exact gs4
set_option maxRecDepth 100000 in
theorem rz_X6_orderOf_20 {R : Nat → Nat → Option Nat} {x4 : Int32} {a0 : Nat} {p1 : Nat} {p2 : Int32} {kLp5 : Int32 → zS → Int32 × zS} (ckLp5 : ∀ (y0 : Int32) (s : zS), zRz R s → zRy R (kLp5 y0 s)) : ∀ (n : Nat) (x12 : Int32) (x13 : Int32) (x14 : Int32) (τ15 : zS), zRz R τ15 → zRy R (F_X6_orderOf_20 x4 a0 p1 p2 kLp5 n x12 x13 x14 τ15) := by
  intro n
  induction n with
  | zero => intro x12 x13 x14 τ15 g; exact g
  | succ n ih =>
    intro x12 x13 x14 τ15 g
    rw [F_X6_orderOf_20]
    refine zRy_let (fun v16 _ => ?_)
    refine zRy_if (fun _ => ?_) (fun _ => ?_)
    · skip
      refine zRy_let (fun v31 _ => ?_)
      refine zRy_let (fun v32 _ => ?_)
      refine zRy_let (fun v33 _ => ?_)
      refine zRy_let (fun v34 _ => ?_)
      refine zRy_if (fun _ => ?_) (fun _ => ?_)
      · skip
        refine zRy_let (fun v37 _ => ?_)
        refine zRy_let (fun v38 _ => ?_)
        refine zRy_if (fun _ => ?_) (fun _ => ?_)
        · skip
          refine zRy_let (fun v42 _ => ?_)
          exact ih _ _ _ _ g
        · skip
          refine zRy_let (fun v43 _ => ?_)
          refine zRy_let (fun v44 _ => ?_)
          refine zRy_if (fun _ => ?_) (fun _ => ?_)
          · skip
            refine zRy_let (fun v50 _ => ?_)
            refine zRy_let (fun v51 _ => ?_)
            refine zRy_let (fun v52 _ => ?_)
            refine zRy_let (fun v53 _ => ?_)
            refine zRy_let (fun v54 _ => ?_)
            exact ih _ _ _ _ g
          · skip
            refine zRy_let (fun v46 _ => ?_)
            refine zRy_let (fun v47 _ => ?_)
            refine zRy_let (fun v48 _ => ?_)
            refine zRy_let (fun v49 _ => ?_)
            exact ih _ _ _ _ g
      · skip
        refine zRy_let (fun v36 _ => ?_)
        exact ih _ _ _ _ g
    · skip
      refine zRy_let (fun v18 _ => ?_)
      refine zRy_let (fun v19 _ => ?_)
      refine zRy_let (fun v20 _ => ?_)
      refine zRy_let (fun v21 _ => ?_)
      refine zRy_if (fun _ => ?_) (fun _ => ?_)
      · skip
        refine zRy_let (fun s28 es28 => ?_)
        have gs28 : zRz R s28 := by rw [es28]; exact g
        refine zRy_let (fun v30 _ => ?_)
        exact ckLp5 _ _ gs28
      · skip
        refine zRy_let (fun v23 _ => ?_)
        refine zRy_let (fun v24 _ => ?_)
        refine zRy_let (fun s25 es25 => ?_)
        have gs25 : zRz R s25 := by rw [es25]; exact g
        refine zRy_let (fun v27 _ => ?_)
        exact ckLp5 _ _ gs25
set_option maxRecDepth 100000 in
theorem rz_X6_orderOf_7 {R : Nat → Nat → Option Nat} {a0 : Nat} {p1 : Nat} {p2 : Int32}  : ∀ (n : Nat) (x4 : Int32) (τ5 : zS), zRz R τ5 → zRy R (F_X6_orderOf_7 a0 p1 p2 n x4 τ5) := by
  intro n
  induction n with
  | zero => intro x4 τ5 g; exact g
  | succ n ih =>
    intro x4 τ5 g
    rw [F_X6_orderOf_7]
    refine zRy_if (fun _ => ?_) (fun _ => ?_)
    · skip
      refine zRy_let (fun v7 _ => ?_)
      refine zRy_let (fun v8 _ => ?_)
      exact g
    · skip
      refine zRy_let (fun v9 _ => ?_)
      refine zRy_let (fun v10 _ => ?_)
      refine zRy_let (fun v11 _ => ?_)
      exact rz_X6_orderOf_20 ih _ _ _ _ _ g
set_option maxRecDepth 100000 in
theorem rz_X6_orderOf {R : Nat → Nat → Option Nat} {σ0 : zS} {a0 : Nat} {p1 : Nat} {p2 : Int32}  (g : zRz R σ0) : zRy R (F_X6_orderOf a0 p1 p2 σ0) := by
  unfold F_X6_orderOf
  refine zRy_let (fun v1 _ => ?_)
  refine zRy_let (fun v2 _ => ?_)
  refine zRy_let (fun v3 _ => ?_)
  exact rz_X6_orderOf_7  _ _ _ g
set_option maxRecDepth 100000 in
theorem rz_X10_order {R : Nat → Nat → Option Nat} {σ0 : zS} {a0 : Nat} {p1 : Int32}  (g : zRz R σ0) : zRy R (F_X10_order a0 p1 σ0) := by
  unfold F_X10_order
  refine zRy_let2 (fun v1 s2 es2 => ?_)
  have gs2 : zRz R s2 := zRy.of (rz_X10_isPlace g) es2
  refine zRy_if (fun _ => ?_) (fun _ => ?_)
  · skip
    refine zRy_let (fun v9 _ => ?_)
    exact gs2
  · skip
    refine zRy_let (fun s4 es4 => ?_)
    have gs4 : zRz R s4 := by rw [es4]; exact rz_X10_look gs2
    refine zRy_let (fun v5 _ => ?_)
    refine zRy_let (fun v6 _ => ?_)
    refine zRy_let2 (fun v7 s8 es8 => ?_)
    have gs8 : zRz R s8 := zRy.of (rz_X6_orderOf gs4) es8
    exact gs8
set_option maxRecDepth 100000 in
theorem rz_X6_comingBy_4 {R : Nat → Nat → Option Nat} {a0 : Nat} {p1 : Int32}  : ∀ (n : Nat) (x3 : Int32) (x4 : Int32) (τ5 : zS), zRz R τ5 → zRy R (F_X6_comingBy_4 a0 p1 n x3 x4 τ5) := by
  intro n
  induction n with
  | zero => intro x3 x4 τ5 g; exact g
  | succ n ih =>
    intro x3 x4 τ5 g
    rw [F_X6_comingBy_4]
    refine zRy_let (fun v6 _ => ?_)
    refine zRy_if (fun _ => ?_) (fun _ => ?_)
    · skip
      refine zRy_let (fun v8 _ => ?_)
      refine zRy_let (fun v9 _ => ?_)
      refine zRy_let (fun v10 _ => ?_)
      refine zRy_if (fun _ => ?_) (fun _ => ?_)
      · skip
        refine zRy_let (fun v12 _ => ?_)
        exact ih _ _ _ g
      · skip
        refine zRy_let (fun v13 _ => ?_)
        refine zRy_let (fun v14 _ => ?_)
        refine zRy_let (fun v15 _ => ?_)
        exact ih _ _ _ g
    · skip
      exact g
set_option maxRecDepth 100000 in
theorem rz_X6_comingBy {R : Nat → Nat → Option Nat} {σ0 : zS} {a0 : Nat} {p1 : Int32}  (g : zRz R σ0) : zRy R (F_X6_comingBy a0 p1 σ0) := by
  unfold F_X6_comingBy
  refine zRy_let (fun v1 _ => ?_)
  refine zRy_let (fun v2 _ => ?_)
  exact rz_X6_comingBy_4  _ _ _ _ g
set_option maxRecDepth 100000 in
theorem rz_X5_rainsOf_4 {R : Nat → Nat → Option Nat} {a0 : Nat} {p1 : Int32}  : ∀ (n : Nat) (x3 : Int32) (x4 : Int32) (τ5 : zS), zRz R τ5 → zRy R (F_X5_rainsOf_4 a0 p1 n x3 x4 τ5) := by
  intro n
  induction n with
  | zero => intro x3 x4 τ5 g; exact g
  | succ n ih =>
    intro x3 x4 τ5 g
    rw [F_X5_rainsOf_4]
    refine zRy_let (fun v6 _ => ?_)
    refine zRy_let (fun v7 _ => ?_)
    refine zRy_if (fun _ => ?_) (fun _ => ?_)
    · skip
      refine zRy_let (fun v9 _ => ?_)
      refine zRy_if (fun _ => ?_) (fun _ => ?_)
      · skip
        refine zRy_let (fun v11 _ => ?_)
        exact ih _ _ _ g
      · skip
        refine zRy_let (fun v12 _ => ?_)
        refine zRy_let (fun v13 _ => ?_)
        refine zRy_let (fun v14 _ => ?_)
        refine zRy_let (fun v15 _ => ?_)
        exact ih _ _ _ g
    · skip
      exact g
set_option maxRecDepth 100000 in
theorem rz_X5_rainsOf {R : Nat → Nat → Option Nat} {σ0 : zS} {a0 : Nat} {p1 : Int32}  (g : zRz R σ0) : zRy R (F_X5_rainsOf a0 p1 σ0) := by
  unfold F_X5_rainsOf
  refine zRy_let (fun v1 _ => ?_)
  refine zRy_let (fun v2 _ => ?_)
  exact rz_X5_rainsOf_4  _ _ _ _ g
set_option maxRecDepth 100000 in
theorem rz_X10_basin {R : Nat → Nat → Option Nat} {σ0 : zS} {a0 : Nat} {p1 : Int32} {p2 : Int32}  (g : zRz R σ0) : zRy R (F_X10_basin a0 p1 p2 σ0) := by
  unfold F_X10_basin
  refine zRy_let2 (fun v1 s2 es2 => ?_)
  have gs2 : zRz R s2 := zRy.of (rz_X10_isPlace g) es2
  refine zRy_if (fun _ => ?_) (fun _ => ?_)
  · skip
    refine zRy_let (fun v4 _ => ?_)
    exact gs2
  · skip
    refine zRy_let (fun v5 _ => ?_)
    refine zRy_let (fun v6 _ => ?_)
    refine zRy_let (fun v7 _ => ?_)
    refine zRy_if (fun _ => ?_) (fun _ => ?_)
    · skip
      refine zRy_let (fun v17 _ => ?_)
      exact gs2
    · skip
      refine zRy_let (fun s9 es9 => ?_)
      have gs9 : zRz R s9 := by rw [es9]; exact rz_X10_look gs2
      refine zRy_let (fun v10 _ => ?_)
      refine zRy_let2 (fun v11 s12 es12 => ?_)
      have gs12 : zRz R s12 := zRy.of (rz_X6_comingBy gs9) es12
      refine zRy_if (fun _ => ?_) (fun _ => ?_)
      · skip
        exact gs12
      · skip
        refine zRy_let (fun v14 _ => ?_)
        refine zRy_let2 (fun v15 s16 es16 => ?_)
        have gs16 : zRz R s16 := zRy.of (rz_X5_rainsOf gs12) es16
        exact gs16
set_option maxRecDepth 100000 in
theorem rz_X10_part {R : Nat → Nat → Option Nat} {σ0 : zS} {a0 : Nat} {p1 : Int32}  (g : zRz R σ0) : zRy R (F_X10_part a0 p1 σ0) := by
  unfold F_X10_part
  refine zRy_if (fun _ => ?_) (fun _ => ?_)
  · skip
    refine zRy_let (fun v2 _ => ?_)
    exact g
  · skip
    refine zRy_let2 (fun v3 s4 es4 => ?_)
    have gs4 : zRz R s4 := zRy.of (rz_X10_isPlace g) es4
    refine zRy_if (fun _ => ?_) (fun _ => ?_)
    · skip
      refine zRy_let (fun v16 _ => ?_)
      exact gs4
    · skip
      refine zRy_let (fun s6 es6 => ?_)
      have gs6 : zRz R s6 := by rw [es6]; exact rz_X10_look gs4
      refine zRy_let2 (fun v7 s8 es8 => ?_)
      have gs8 : zRz R s8 := zRy.of (rz_X10_mouthFlow gs6) es8
      refine zRy_if (fun _ => ?_) (fun _ => ?_)
      · skip
        refine zRy_let (fun v15 _ => ?_)
        exact gs8
      · skip
        refine zRy_let2 (fun v10 s11 es11 => ?_)
        have gs11 : zRz R s11 := zRy.of (rz_X10_lossOf gs8) es11
        refine zRy_let (fun v12 _ => ?_)
        refine zRy_let (fun v13 _ => ?_)
        refine zRy_let (fun v14 _ => ?_)
        exact gs11
set_option maxRecDepth 100000 in
theorem rz_X6_tourOf_59 {R : Nat → Nat → Option Nat} {x5 : Int32} {x6 : Int32} {a0 : Nat} {p1 : Int32} {kLp7 : Int32 → Int32 → Int32 → zS → Int32 × zS} (ckLp7 : ∀ (y0 : Int32) (y1 : Int32) (y2 : Int32) (s : zS), zRz R s → zRy R (kLp7 y0 y1 y2 s)) : ∀ (n : Nat) (x12 : Int32) (x13 : Int32) (τ14 : zS), zRz R τ14 → zRy R (F_X6_tourOf_59 x5 x6 a0 p1 kLp7 n x12 x13 τ14) := by
  intro n
  induction n with
  | zero => intro x12 x13 τ14 g; exact g
  | succ n ih =>
    intro x12 x13 τ14 g
    rw [F_X6_tourOf_59]
    refine zRy_let (fun v15 _ => ?_)
    refine zRy_if (fun _ => ?_) (fun _ => ?_)
    · skip
      refine zRy_let (fun v20 _ => ?_)
      refine zRy_if (fun _ => ?_) (fun _ => ?_)
      · skip
        refine zRy_let (fun v22 _ => ?_)
        exact ih _ _ _ g
      · skip
        refine zRy_let (fun v23 _ => ?_)
        refine zRy_let (fun v24 _ => ?_)
        refine zRy_let (fun v25 _ => ?_)
        refine zRy_let (fun v26 _ => ?_)
        exact ih _ _ _ g
    · skip
      refine zRy_let (fun v17 _ => ?_)
      refine zRy_let (fun v18 _ => ?_)
      refine zRy_let (fun v19 _ => ?_)
      exact g
set_option maxRecDepth 100000 in
theorem rz_X6_tourOf_7 {R : Nat → Nat → Option Nat} {a0 : Nat} {p1 : Int32}  : ∀ (n : Nat) (x4 : Int32) (x5 : Int32) (x6 : Int32) (τ7 : zS), zRz R τ7 → zRy R (F_X6_tourOf_7 a0 p1 n x4 x5 x6 τ7) := by
  intro n
  induction n with
  | zero => intro x4 x5 x6 τ7 g; exact g
  | succ n ih =>
    intro x4 x5 x6 τ7 g
    rw [F_X6_tourOf_7]
    refine zRy_let (fun v8 _ => ?_)
    refine zRy_if (fun _ => ?_) (fun _ => ?_)
    · skip
      refine zRy_let (fun v27 _ => ?_)
      refine zRy_if (fun _ => ?_) (fun _ => ?_)
      · skip
        refine zRy_let (fun v29 _ => ?_)
        exact ih _ _ _ _ g
      · skip
        refine zRy_let (fun v30 _ => ?_)
        refine zRy_let (fun v31 _ => ?_)
        refine zRy_let (fun v32 _ => ?_)
        refine zRy_let (fun v33 _ => ?_)
        refine zRy_let (fun v34 _ => ?_)
        refine zRy_let (fun v35 _ => ?_)
        refine zRy_let (fun v36 _ => ?_)
        exact ih _ _ _ _ g
    · skip
      refine zRy_let (fun v10 _ => ?_)
      refine zRy_let (fun v11 _ => ?_)
      exact rz_X6_tourOf_59 ih _ _ _ _ g
set_option maxRecDepth 100000 in
theorem rz_X6_tourOf {R : Nat → Nat → Option Nat} {σ0 : zS} {a0 : Nat} {p1 : Int32}  (g : zRz R σ0) : zRy R (F_X6_tourOf a0 p1 σ0) := by
  unfold F_X6_tourOf
  refine zRy_let (fun v1 _ => ?_)
  refine zRy_let (fun v2 _ => ?_)
  refine zRy_let (fun v3 _ => ?_)
  exact rz_X6_tourOf_7  _ _ _ _ _ g
set_option maxRecDepth 100000 in
theorem rz_X10_tour {R : Nat → Nat → Option Nat} {σ0 : zS} {a0 : Nat}  (g : zRz R σ0) : zRy R (F_X10_tour a0 σ0) := by
  unfold F_X10_tour
  refine zRy_let (fun s1 es1 => ?_)
  have gs1 : zRz R s1 := by rw [es1]; exact rz_X10_look g
  refine zRy_let (fun v2 _ => ?_)
  refine zRy_let (fun v3 _ => ?_)
  refine zRy_let2 (fun v4 s5 es5 => ?_)
  have gs5 : zRz R s5 := zRy.of (rz_X6_sources gs1) es5
  refine zRy_let2 (fun v6 s7 es7 => ?_)
  have gs7 : zRz R s7 := zRy.of (rz_X6_tourOf gs5) es7
  exact gs7
set_option maxRecDepth 100000 in
theorem rz_X10_parted_23 {R : Nat → Nat → Option Nat} {v3 : Int32} {a0 : Nat}  : ∀ (n : Nat) (x9 : Int32) (x10 : Int32) (τ11 : zS), zRz R τ11 → zRy R (F_X10_parted_23 v3 a0 n x9 x10 τ11) := by
  intro n
  induction n with
  | zero => intro x9 x10 τ11 g; exact g
  | succ n ih =>
    intro x9 x10 τ11 g
    rw [F_X10_parted_23]
    refine zRy_if (fun _ => ?_) (fun _ => ?_)
    · skip
      refine zRy_let (fun v15 _ => ?_)
      refine zRy_if (fun _ => ?_) (fun _ => ?_)
      · skip
        refine zRy_let (fun v18 _ => ?_)
        refine zRy_let2 (fun v19 s20 es20 => ?_)
        have gs20 : zRz R s20 := zRy.of (rz_X6_tourOf g) es20
        refine zRy_let (fun v21 _ => ?_)
        refine zRy_let (fun v22 _ => ?_)
        refine zRy_let (fun v23 _ => ?_)
        refine zRy_let (fun v24 _ => ?_)
        refine zRy_let2 (fun v25 s26 es26 => ?_)
        have gs26 : zRz R s26 := zRy.of (rz_X6_tourOf gs20) es26
        refine zRy_let (fun v27 _ => ?_)
        refine zRy_let (fun v28 _ => ?_)
        refine zRy_let (fun v29 _ => ?_)
        exact ih _ _ _ gs26
      · skip
        refine zRy_let (fun v17 _ => ?_)
        exact ih _ _ _ g
    · skip
      exact g
set_option maxRecDepth 100000 in
theorem rz_X10_parted {R : Nat → Nat → Option Nat} {σ0 : zS} {a0 : Nat}  (g : zRz R σ0) : zRy R (F_X10_parted a0 σ0) := by
  unfold F_X10_parted
  refine zRy_let (fun s1 es1 => ?_)
  have gs1 : zRz R s1 := by rw [es1]; exact rz_X10_look g
  refine zRy_let (fun v2 _ => ?_)
  refine zRy_let2 (fun v3 s4 es4 => ?_)
  have gs4 : zRz R s4 := zRy.of (rz_X6_sources gs1) es4
  refine zRy_let (fun v5 _ => ?_)
  refine zRy_let2 (fun v6 s7 es7 => ?_)
  have gs7 : zRz R s7 := zRy.of (rz_X6_tourOf gs4) es7
  refine zRy_let (fun v8 _ => ?_)
  exact rz_X10_parted_23  _ _ _ _ gs7
set_option maxRecDepth 100000 in
theorem rz_X6_meeting_20 {R : Nat → Nat → Option Nat} {v5 : Int32} {a0 : Nat} {p1 : Int32} {p2 : Int32}  : ∀ (n : Nat) (x8 : Int32) (x9 : Int32) (τ10 : zS), zRz R τ10 → zRy R (F_X6_meeting_20 v5 a0 p1 p2 n x8 x9 τ10) := by
  intro n
  induction n with
  | zero => intro x8 x9 τ10 g; exact g
  | succ n ih =>
    intro x8 x9 τ10 g
    rw [F_X6_meeting_20]
    refine zRy_let (fun v11 _ => ?_)
    refine zRy_if (fun _ => ?_) (fun _ => ?_)
    · skip
      refine zRy_let (fun v13 _ => ?_)
      refine zRy_if (fun _ => ?_) (fun _ => ?_)
      · skip
        refine zRy_let (fun v15 _ => ?_)
        exact ih _ _ _ g
      · skip
        refine zRy_let (fun v16 _ => ?_)
        refine zRy_let (fun v17 _ => ?_)
        refine zRy_let (fun v18 _ => ?_)
        refine zRy_let (fun v19 _ => ?_)
        refine zRy_if (fun _ => ?_) (fun _ => ?_)
        · skip
          refine zRy_let (fun v24 _ => ?_)
          exact ih _ _ _ g
        · skip
          refine zRy_let (fun v23 _ => ?_)
          exact ih _ _ _ g
    · skip
      exact g
set_option maxRecDepth 100000 in
theorem rz_X6_meeting {R : Nat → Nat → Option Nat} {σ0 : zS} {a0 : Nat} {p1 : Int32} {p2 : Int32}  (g : zRz R σ0) : zRy R (F_X6_meeting a0 p1 p2 σ0) := by
  unfold F_X6_meeting
  refine zRy_let (fun v1 _ => ?_)
  refine zRy_let (fun v2 _ => ?_)
  refine zRy_let (fun v3 _ => ?_)
  refine zRy_let (fun v4 _ => ?_)
  refine zRy_let (fun v5 _ => ?_)
  refine zRy_let (fun v6 _ => ?_)
  refine zRy_let (fun v7 _ => ?_)
  exact rz_X6_meeting_20  _ _ _ _ g
set_option maxRecDepth 100000 in
theorem rz_X10_meet {R : Nat → Nat → Option Nat} {σ0 : zS} {a0 : Nat} {p1 : Int32} {p2 : Int32} {p3 : Int32}  (g : zRz R σ0) : zRy R (F_X10_meet a0 p1 p2 p3 σ0) := by
  unfold F_X10_meet
  refine zRy_let2 (fun v1 s2 es2 => ?_)
  have gs2 : zRz R s2 := zRy.of (rz_X10_isPlace g) es2
  refine zRy_if (fun _ => ?_) (fun _ => ?_)
  · skip
    refine zRy_let (fun v4 _ => ?_)
    exact gs2
  · skip
    refine zRy_let2 (fun v5 s6 es6 => ?_)
    have gs6 : zRz R s6 := zRy.of (rz_X10_isPlace gs2) es6
    refine zRy_if (fun _ => ?_) (fun _ => ?_)
    · skip
      refine zRy_let (fun v8 _ => ?_)
      exact gs6
    · skip
      refine zRy_let (fun v9 _ => ?_)
      refine zRy_let (fun v10 _ => ?_)
      refine zRy_let (fun v11 _ => ?_)
      refine zRy_if (fun _ => ?_) (fun _ => ?_)
      · skip
        refine zRy_let (fun v31 _ => ?_)
        exact gs6
      · skip
        refine zRy_let (fun s13 es13 => ?_)
        have gs13 : zRz R s13 := by rw [es13]; exact rz_X10_look gs6
        refine zRy_let (fun v14 _ => ?_)
        refine zRy_let2 (fun v15 s16 es16 => ?_)
        have gs16 : zRz R s16 := zRy.of (rz_X6_meeting gs13) es16
        refine zRy_if (fun _ => ?_) (fun _ => ?_)
        · skip
          exact gs16
        · skip
          refine zRy_let (fun v18 _ => ?_)
          refine zRy_let (fun v19 _ => ?_)
          refine zRy_let (fun v20 _ => ?_)
          refine zRy_let (fun v21 _ => ?_)
          refine zRy_let (fun v22 _ => ?_)
          refine zRy_let (fun v23 _ => ?_)
          refine zRy_let (fun v24 _ => ?_)
          refine zRy_let (fun v25 _ => ?_)
          refine zRy_let (fun v26 _ => ?_)
          refine zRy_let (fun v27 _ => ?_)
          refine zRy_let (fun v28 _ => ?_)
          refine zRy_let (fun v29 _ => ?_)
          refine zRy_let (fun v30 _ => ?_)
          exact gs16
set_option maxRecDepth 100000 in
theorem rz_X2_isSo_6 {R : Nat → Nat → Option Nat} {a0 : Nat} {p1 : Nat} {p2 : Int32} {p3 : Int32}  : ∀ (n : Nat) (x3 : Int32) (x4 : Int32) (τ5 : zS), zRz R τ5 → zRy R (F_X2_isSo_6 a0 p1 p2 p3 n x3 x4 τ5) := by
  intro n
  induction n with
  | zero => intro x3 x4 τ5 g; exact g
  | succ n ih =>
    intro x3 x4 τ5 g
    rw [F_X2_isSo_6]
    refine zRy_if (fun _ => ?_) (fun _ => ?_)
    · skip
      refine zRy_let (fun v8 _ => ?_)
      refine zRy_if (fun _ => ?_) (fun _ => ?_)
      · skip
        refine zRy_let (fun v10 _ => ?_)
        refine zRy_let (fun v11 _ => ?_)
        refine zRy_let (fun v12 _ => ?_)
        refine zRy_let (fun v13 _ => ?_)
        refine zRy_let (fun v14 _ => ?_)
        refine zRy_let (fun v15 _ => ?_)
        refine zRy_let (fun v16 _ => ?_)
        refine zRy_let (fun v17 _ => ?_)
        refine zRy_let (fun v18 _ => ?_)
        refine zRy_let (fun v19 _ => ?_)
        refine zRy_let (fun v20 _ => ?_)
        refine zRy_let (fun v21 _ => ?_)
        refine zRy_if (fun _ => ?_) (fun _ => ?_)
        · skip
          refine zRy_let (fun v23 _ => ?_)
          refine zRy_if (fun _ => ?_) (fun _ => ?_)
          · skip
            refine zRy_let (fun v25 _ => ?_)
            refine zRy_let (fun v26 _ => ?_)
            exact ih _ _ _ g
          · skip
            refine zRy_let (fun v27 _ => ?_)
            refine zRy_let (fun v28 _ => ?_)
            refine zRy_if (fun _ => ?_) (fun _ => ?_)
            · skip
              refine zRy_let (fun v32 _ => ?_)
              refine zRy_let (fun v33 _ => ?_)
              exact ih _ _ _ g
            · skip
              refine zRy_let (fun v30 _ => ?_)
              refine zRy_let (fun v31 _ => ?_)
              exact ih _ _ _ g
        · skip
          refine zRy_let (fun v34 _ => ?_)
          refine zRy_let (fun v35 _ => ?_)
          refine zRy_let (fun v36 _ => ?_)
          refine zRy_let (fun v37 _ => ?_)
          refine zRy_let (fun v38 _ => ?_)
          refine zRy_if (fun _ => ?_) (fun _ => ?_)
          · skip
            refine zRy_let (fun v40 _ => ?_)
            refine zRy_if (fun _ => ?_) (fun _ => ?_)
            · skip
              refine zRy_let (fun v42 _ => ?_)
              refine zRy_let (fun v43 _ => ?_)
              exact ih _ _ _ g
            · skip
              refine zRy_let (fun v44 _ => ?_)
              refine zRy_let (fun v45 _ => ?_)
              refine zRy_if (fun _ => ?_) (fun _ => ?_)
              · skip
                refine zRy_let (fun v49 _ => ?_)
                refine zRy_let (fun v50 _ => ?_)
                exact ih _ _ _ g
              · skip
                refine zRy_let (fun v47 _ => ?_)
                refine zRy_let (fun v48 _ => ?_)
                exact ih _ _ _ g
          · skip
            refine zRy_let (fun v51 _ => ?_)
            refine zRy_if (fun _ => ?_) (fun _ => ?_)
            · skip
              refine zRy_let (fun v53 _ => ?_)
              refine zRy_let (fun v54 _ => ?_)
              exact ih _ _ _ g
            · skip
              refine zRy_let (fun v55 _ => ?_)
              refine zRy_let (fun v56 _ => ?_)
              refine zRy_if (fun _ => ?_) (fun _ => ?_)
              · skip
                refine zRy_let (fun v60 _ => ?_)
                refine zRy_let (fun v61 _ => ?_)
                exact ih _ _ _ g
              · skip
                refine zRy_let (fun v58 _ => ?_)
                refine zRy_let (fun v59 _ => ?_)
                exact ih _ _ _ g
      · skip
        exact g
    · skip
      exact g
set_option maxRecDepth 100000 in
theorem rz_X2_isSo {R : Nat → Nat → Option Nat} {σ0 : zS} {a0 : Nat} {p1 : Nat} {p2 : Int32} {p3 : Int32}  (g : zRz R σ0) : zRy R (F_X2_isSo a0 p1 p2 p3 σ0) := by
  unfold F_X2_isSo
  refine zRy_let (fun v1 _ => ?_)
  refine zRy_let (fun v2 _ => ?_)
  exact rz_X2_isSo_6  _ _ _ _ g
set_option maxRecDepth 100000 in
theorem rz_X2_left_5 {R : Nat → Nat → Option Nat} {a0 : Nat} {p1 : Nat} {p2 : Int32}  : ∀ (n : Nat) (x3 : Int32) (x4 : Int32) (τ5 : zS), zRz R τ5 → zRy R (F_X2_left_5 a0 p1 p2 n x3 x4 τ5) := by
  intro n
  induction n with
  | zero => intro x3 x4 τ5 g; exact g
  | succ n ih =>
    intro x3 x4 τ5 g
    rw [F_X2_left_5]
    refine zRy_let (fun v6 _ => ?_)
    refine zRy_if (fun _ => ?_) (fun _ => ?_)
    · skip
      refine zRy_let2 (fun v8 s9 es9 => ?_)
      have gs9 : zRz R s9 := zRy.of (rz_X6_isSource g) es9
      refine zRy_if (fun _ => ?_) (fun _ => ?_)
      · skip
        refine zRy_let (fun v11 _ => ?_)
        exact ih _ _ _ gs9
      · skip
        refine zRy_let2 (fun v12 s13 es13 => ?_)
        have gs13 : zRz R s13 := zRy.of (rz_X2_isSo gs9) es13
        refine zRy_if (fun _ => ?_) (fun _ => ?_)
        · skip
          refine zRy_let (fun v15 _ => ?_)
          exact ih _ _ _ gs13
        · skip
          refine zRy_let (fun v16 _ => ?_)
          refine zRy_let (fun v17 _ => ?_)
          refine zRy_let (fun v18 _ => ?_)
          exact ih _ _ _ gs13
    · skip
      exact g
set_option maxRecDepth 100000 in
theorem rz_X2_left {R : Nat → Nat → Option Nat} {σ0 : zS} {a0 : Nat} {p1 : Nat} {p2 : Int32}  (g : zRz R σ0) : zRy R (F_X2_left a0 p1 p2 σ0) := by
  unfold F_X2_left
  refine zRy_let (fun v1 _ => ?_)
  refine zRy_let (fun v2 _ => ?_)
  exact rz_X2_left_5  _ _ _ _ g
set_option maxRecDepth 100000 in
theorem rz_X10_dyed {R : Nat → Nat → Option Nat} {σ0 : zS} {a0 : Nat} {p1 : Int32} {p2 : Int32}  (g : zRz R σ0) : zRy R (F_X10_dyed a0 p1 p2 σ0) := by
  unfold F_X10_dyed
  refine zRy_let (fun v1 _ => ?_)
  refine zRy_let (fun v2 _ => ?_)
  refine zRy_let (fun v3 _ => ?_)
  refine zRy_let (fun v4 _ => ?_)
  refine zRy_if (fun _ => ?_) (fun _ => ?_)
  · skip
    refine zRy_let (fun v6 _ => ?_)
    exact g
  · skip
    refine zRy_let (fun v7 _ => ?_)
    refine zRy_let (fun v8 _ => ?_)
    refine zRy_let (fun v9 _ => ?_)
    refine zRy_if (fun _ => ?_) (fun _ => ?_)
    · skip
      refine zRy_let (fun v18 _ => ?_)
      exact g
    · skip
      refine zRy_let (fun s11 es11 => ?_)
      have gs11 : zRz R s11 := by rw [es11]; exact rz_X10_look g
      refine zRy_let (fun v12 _ => ?_)
      refine zRy_let (fun v13 _ => ?_)
      refine zRy_let2 (fun v14 s15 es15 => ?_)
      have gs15 : zRz R s15 := zRy.of (rz_X2_left gs11) es15
      refine zRy_if (fun _ => ?_) (fun _ => ?_)
      · skip
        refine zRy_let (fun v17 _ => ?_)
        exact gs15
      · skip
        exact gs15
set_option maxRecDepth 100000 in
theorem rz_X10_leftAtWorst {R : Nat → Nat → Option Nat} {σ0 : zS} {a0 : Nat} {p1 : Int32} {p2 : Int32}  (g : zRz R σ0) : zRy R (F_X10_leftAtWorst a0 p1 p2 σ0) := by
  unfold F_X10_leftAtWorst
  refine zRy_let (fun v1 _ => ?_)
  refine zRy_let2 (fun v2 s3 es3 => ?_)
  have gs3 : zRz R s3 := zRy.of (rz_X6_comingBy g) es3
  refine zRy_let (fun v4 _ => ?_)
  refine zRy_let (fun v5 _ => ?_)
  refine zRy_let (fun v6 _ => ?_)
  refine zRy_let (fun v7 _ => ?_)
  refine zRy_let (fun v8 _ => ?_)
  refine zRy_let (fun v9 _ => ?_)
  refine zRy_let (fun v10 _ => ?_)
  exact gs3
set_option maxRecDepth 100000 in
theorem rz_X10_watch_46 {R : Nat → Nat → Option Nat} {v9 : Int32} {a0 : Nat} {p1 : Int32}  : ∀ (n : Nat) (x14 : Int32) (x15 : Int32) (τ16 : zS), zRz R τ16 → zRy R (F_X10_watch_46 v9 a0 p1 n x14 x15 τ16) := by
  intro n
  induction n with
  | zero => intro x14 x15 τ16 g; exact g
  | succ n ih =>
    intro x14 x15 τ16 g
    rw [F_X10_watch_46]
    refine zRy_let (fun v17 _ => ?_)
    refine zRy_let (fun v18 _ => ?_)
    refine zRy_if (fun _ => ?_) (fun _ => ?_)
    · skip
      refine zRy_let2 (fun v20 s21 es21 => ?_)
      have gs21 : zRz R s21 := zRy.of (rz_X10_leftAtWorst g) es21
      refine zRy_let2 (fun v22 s23 es23 => ?_)
      have gs23 : zRz R s23 := zRy.of (rz_X10_leftAtWorst gs21) es23
      refine zRy_if (fun _ => ?_) (fun _ => ?_)
      · skip
        refine zRy_let (fun v28 _ => ?_)
        exact ih _ _ _ gs23
      · skip
        refine zRy_let (fun v27 _ => ?_)
        exact ih _ _ _ gs23
    · skip
      exact g
set_option maxRecDepth 100000 in
theorem rz_X10_watch {R : Nat → Nat → Option Nat} {σ0 : zS} {a0 : Nat} {p1 : Int32}  (g : zRz R σ0) : zRy R (F_X10_watch a0 p1 σ0) := by
  unfold F_X10_watch
  refine zRy_let (fun v1 _ => ?_)
  refine zRy_let (fun v2 _ => ?_)
  refine zRy_let (fun v3 _ => ?_)
  refine zRy_let (fun v4 _ => ?_)
  refine zRy_if (fun _ => ?_) (fun _ => ?_)
  · skip
    refine zRy_let (fun v30 _ => ?_)
    exact g
  · skip
    refine zRy_let (fun s6 es6 => ?_)
    have gs6 : zRz R s6 := by rw [es6]; exact rz_X10_look g
    refine zRy_let (fun v7 _ => ?_)
    refine zRy_let (fun v8 _ => ?_)
    refine zRy_let2 (fun v9 s10 es10 => ?_)
    have gs10 : zRz R s10 := zRy.of (rz_X2_left gs6) es10
    refine zRy_if (fun _ => ?_) (fun _ => ?_)
    · skip
      refine zRy_let (fun v29 _ => ?_)
      exact gs10
    · skip
      refine zRy_let (fun v12 _ => ?_)
      refine zRy_let (fun v13 _ => ?_)
      exact rz_X10_watch_46  _ _ _ _ gs10
set_option maxRecDepth 100000 in
theorem rz_X10_sumOf_4 {R : Nat → Nat → Option Nat} {a0 : Nat} {p1 : Nat}  : ∀ (n : Nat) (x3 : Int32) (x4 : Int32) (τ5 : zS), zRz R τ5 → zRy R (F_X10_sumOf_4 a0 p1 n x3 x4 τ5) := by
  intro n
  induction n with
  | zero => intro x3 x4 τ5 g; exact g
  | succ n ih =>
    intro x3 x4 τ5 g
    rw [F_X10_sumOf_4]
    refine zRy_let (fun v6 _ => ?_)
    refine zRy_let (fun v7 _ => ?_)
    refine zRy_if (fun _ => ?_) (fun _ => ?_)
    · skip
      refine zRy_let (fun v9 _ => ?_)
      refine zRy_let (fun v10 _ => ?_)
      refine zRy_let (fun v11 _ => ?_)
      exact ih _ _ _ g
    · skip
      exact g
set_option maxRecDepth 100000 in
theorem rz_X10_sumOf {R : Nat → Nat → Option Nat} {σ0 : zS} {a0 : Nat} {p1 : Nat}  (g : zRz R σ0) : zRy R (F_X10_sumOf a0 p1 σ0) := by
  unfold F_X10_sumOf
  refine zRy_let (fun v1 _ => ?_)
  refine zRy_let (fun v2 _ => ?_)
  exact rz_X10_sumOf_4  _ _ _ _ g
set_option maxRecDepth 100000 in
theorem rz_X9_isStorm {R : Nat → Nat → Option Nat} {σ0 : zS} {a0 : Nat} {p1 : Int32} {p2 : Int32}  (g : zRz R σ0) : zRy R (F_X9_isStorm a0 p1 p2 σ0) := by
  unfold F_X9_isStorm
  refine zRy_let (fun v1 _ => ?_)
  refine zRy_let (fun v2 _ => ?_)
  refine zRy_let (fun v3 _ => ?_)
  refine zRy_let (fun v4 _ => ?_)
  refine zRy_let (fun v5 _ => ?_)
  refine zRy_if (fun _ => ?_) (fun _ => ?_)
  · skip
    refine zRy_let (fun v10 _ => ?_)
    exact g
  · skip
    refine zRy_let (fun v9 _ => ?_)
    exact g
set_option maxRecDepth 100000 in
theorem rz_X10_turnedPlaces_4 {R : Nat → Nat → Option Nat} {a0 : Nat}  : ∀ (n : Nat) (x3 : Int32) (x4 : Int32) (τ5 : zS), zRz R τ5 → zRy R (F_X10_turnedPlaces_4 a0 n x3 x4 τ5) := by
  intro n
  induction n with
  | zero => intro x3 x4 τ5 g; exact g
  | succ n ih =>
    intro x3 x4 τ5 g
    rw [F_X10_turnedPlaces_4]
    refine zRy_let (fun v6 _ => ?_)
    refine zRy_let (fun v7 _ => ?_)
    refine zRy_if (fun _ => ?_) (fun _ => ?_)
    · skip
      refine zRy_let (fun v9 _ => ?_)
      refine zRy_let (fun v10 _ => ?_)
      refine zRy_let (fun v11 _ => ?_)
      refine zRy_let (fun v12 _ => ?_)
      refine zRy_let (fun v13 _ => ?_)
      refine zRy_let (fun v14 _ => ?_)
      refine zRy_if (fun _ => ?_) (fun _ => ?_)
      · skip
        refine zRy_let (fun v16 _ => ?_)
        exact ih _ _ _ g
      · skip
        refine zRy_let (fun v17 _ => ?_)
        refine zRy_let (fun v18 _ => ?_)
        refine zRy_let (fun v19 _ => ?_)
        exact ih _ _ _ g
    · skip
      exact g
set_option maxRecDepth 100000 in
theorem rz_X10_turnedPlaces {R : Nat → Nat → Option Nat} {σ0 : zS} {a0 : Nat}  (g : zRz R σ0) : zRy R (F_X10_turnedPlaces a0 σ0) := by
  unfold F_X10_turnedPlaces
  refine zRy_let (fun v1 _ => ?_)
  refine zRy_let (fun v2 _ => ?_)
  exact rz_X10_turnedPlaces_4  _ _ _ _ g
set_option maxRecDepth 100000 in
theorem rz_X6_greatestFar_4 {R : Nat → Nat → Option Nat} {a0 : Nat}  : ∀ (n : Nat) (x3 : Int32) (x4 : Int32) (τ5 : zS), zRz R τ5 → zRy R (F_X6_greatestFar_4 a0 n x3 x4 τ5) := by
  intro n
  induction n with
  | zero => intro x3 x4 τ5 g; exact g
  | succ n ih =>
    intro x3 x4 τ5 g
    rw [F_X6_greatestFar_4]
    refine zRy_let (fun v6 _ => ?_)
    refine zRy_if (fun _ => ?_) (fun _ => ?_)
    · skip
      refine zRy_let (fun v8 _ => ?_)
      refine zRy_let (fun v9 _ => ?_)
      refine zRy_let (fun v10 _ => ?_)
      refine zRy_let (fun v11 _ => ?_)
      exact ih _ _ _ g
    · skip
      exact g
set_option maxRecDepth 100000 in
theorem rz_X6_greatestFar {R : Nat → Nat → Option Nat} {σ0 : zS} {a0 : Nat}  (g : zRz R σ0) : zRy R (F_X6_greatestFar a0 σ0) := by
  unfold F_X6_greatestFar
  refine zRy_let (fun v1 _ => ?_)
  refine zRy_let (fun v2 _ => ?_)
  exact rz_X6_greatestFar_4  _ _ _ _ g
set_option maxRecDepth 100000 in
theorem rz_X10_count {R : Nat → Nat → Option Nat} {σ0 : zS} {a0 : Nat} {p1 : Int32}  (g : zRz R σ0) : zRy R (F_X10_count a0 p1 σ0) := by
  unfold F_X10_count
  refine zRy_let (fun s1 es1 => ?_)
  have gs1 : zRz R s1 := by rw [es1]; exact rz_X10_look g
  refine zRy_if (fun _ => ?_) (fun _ => ?_)
  · skip
    refine zRy_let (fun v3 _ => ?_)
    refine zRy_let (fun v4 _ => ?_)
    exact gs1
  · skip
    refine zRy_if (fun _ => ?_) (fun _ => ?_)
    · skip
      refine zRy_let (fun v6 _ => ?_)
      refine zRy_let (fun v7 _ => ?_)
      exact gs1
    · skip
      refine zRy_if (fun _ => ?_) (fun _ => ?_)
      · skip
        refine zRy_let (fun v9 _ => ?_)
        refine zRy_let2 (fun v10 s11 es11 => ?_)
        have gs11 : zRz R s11 := zRy.of (rz_X1_moon gs1) es11
        exact gs11
      · skip
        refine zRy_if (fun _ => ?_) (fun _ => ?_)
        · skip
          refine zRy_let (fun v13 _ => ?_)
          refine zRy_let (fun v14 _ => ?_)
          exact gs1
        · skip
          refine zRy_if (fun _ => ?_) (fun _ => ?_)
          · skip
            refine zRy_let (fun v16 _ => ?_)
            refine zRy_let2 (fun v17 s18 es18 => ?_)
            have gs18 : zRz R s18 := zRy.of (rz_X6_sources gs1) es18
            exact gs18
          · skip
            refine zRy_if (fun _ => ?_) (fun _ => ?_)
            · skip
              refine zRy_let (fun v20 _ => ?_)
              refine zRy_let (fun v21 _ => ?_)
              exact gs1
            · skip
              refine zRy_if (fun _ => ?_) (fun _ => ?_)
              · skip
                refine zRy_let2 (fun v23 s24 es24 => ?_)
                have gs24 : zRz R s24 := zRy.of (rz_X10_mouthFlow gs1) es24
                exact gs24
              · skip
                refine zRy_if (fun _ => ?_) (fun _ => ?_)
                · skip
                  refine zRy_let (fun v26 _ => ?_)
                  refine zRy_let (fun v27 _ => ?_)
                  refine zRy_let2 (fun v28 s29 es29 => ?_)
                  have gs29 : zRz R s29 := zRy.of (rz_X10_sumOf gs1) es29
                  exact gs29
                · skip
                  refine zRy_if (fun _ => ?_) (fun _ => ?_)
                  · skip
                    refine zRy_let (fun v31 _ => ?_)
                    refine zRy_let (fun v32 _ => ?_)
                    exact gs1
                  · skip
                    refine zRy_if (fun _ => ?_) (fun _ => ?_)
                    · skip
                      refine zRy_let (fun v34 _ => ?_)
                      refine zRy_let (fun v35 _ => ?_)
                      exact gs1
                    · skip
                      refine zRy_if (fun _ => ?_) (fun _ => ?_)
                      · skip
                        refine zRy_let (fun v37 _ => ?_)
                        refine zRy_let (fun v38 _ => ?_)
                        exact gs1
                      · skip
                        refine zRy_if (fun _ => ?_) (fun _ => ?_)
                        · skip
                          refine zRy_let (fun v40 _ => ?_)
                          refine zRy_let (fun v41 _ => ?_)
                          exact gs1
                        · skip
                          refine zRy_if (fun _ => ?_) (fun _ => ?_)
                          · skip
                            refine zRy_let (fun v43 _ => ?_)
                            refine zRy_let (fun v44 _ => ?_)
                            refine zRy_let (fun v45 _ => ?_)
                            refine zRy_let (fun v46 _ => ?_)
                            refine zRy_let (fun v47 _ => ?_)
                            refine zRy_let2 (fun v48 s49 es49 => ?_)
                            have gs49 : zRz R s49 := zRy.of (rz_X9_isStorm gs1) es49
                            refine zRy_if (fun _ => ?_) (fun _ => ?_)
                            · skip
                              refine zRy_let (fun v51 _ => ?_)
                              exact gs49
                            · skip
                              refine zRy_let (fun v52 _ => ?_)
                              exact gs49
                          · skip
                            refine zRy_if (fun _ => ?_) (fun _ => ?_)
                            · skip
                              refine zRy_let (fun v54 _ => ?_)
                              refine zRy_let (fun v55 _ => ?_)
                              refine zRy_let2 (fun v56 s57 es57 => ?_)
                              have gs57 : zRz R s57 := zRy.of (rz_X10_sumOf gs1) es57
                              exact gs57
                            · skip
                              refine zRy_if (fun _ => ?_) (fun _ => ?_)
                              · skip
                                refine zRy_let2 (fun v59 s60 es60 => ?_)
                                have gs60 : zRz R s60 := zRy.of (rz_X10_turnedPlaces gs1) es60
                                exact gs60
                              · skip
                                refine zRy_if (fun _ => ?_) (fun _ => ?_)
                                · skip
                                  refine zRy_let (fun v62 _ => ?_)
                                  refine zRy_let (fun v63 _ => ?_)
                                  refine zRy_let2 (fun v64 s65 es65 => ?_)
                                  have gs65 : zRz R s65 := zRy.of (rz_X10_sumOf gs1) es65
                                  exact gs65
                                · skip
                                  refine zRy_if (fun _ => ?_) (fun _ => ?_)
                                  · skip
                                    refine zRy_let (fun v67 _ => ?_)
                                    refine zRy_let2 (fun v68 s69 es69 => ?_)
                                    have gs69 : zRz R s69 := zRy.of (rz_X6_greatestFar gs1) es69
                                    exact gs69
                                  · skip
                                    refine zRy_let (fun v70 _ => ?_)
                                    exact gs1
end
-- 35x10.rel1
section
/-! BOTH WORLDS ALIKE IN WHAT GOES ON: courses against rows, whatever Q asks of one and the other -/
/-- the tree, the dams, the month, the law that rules -/
def zQ0 (N : Nat) (c : zCo) (r : Nat → Int32) : Prop :=
  (∀ p, 1 ≤ p → p < N → c.1 p = r p) ∧ (∀ p, 1 ≤ p → p < N → (bt c.2.2.2.1 p = true ∧ r (12 + p) = 1) ∨ (bt c.2.2.2.1 p = false ∧ r (12 + p) = 0)) ∧ c.2.2.2.2.1 = r 48 ∧ c.2.2.2.2.2 = r 49
/-- the numbers beside: places, the past's, what was told of dye -/
def zRn (V : zWh) (x0 ps m0 : Nat) (N n u : Nat) (σ1 σ2 : zS) : Prop :=
  (σ1.1 ((σ1.2.2 x0 10).getD 0) 0).toInt = N ∧ zM m0 σ2 = N ∧ N ≤ 12 ∧ (σ1.1 ps 1).toInt = n ∧ n < 40 ∧ (σ1.1 ps 2).toInt = u ∧ u ≤ 40 ∧ (σ2.1 m0 57).toInt = u ∧ (σ1.1 ((σ1.2.2 x0 5).getD 0) 4).toInt = (σ2.1 m0 62).toInt
/-- what is held -/
def zRh (Q : zCo → (Nat → Int32) → Prop) (V : zWh) (x0 m0 : Nat) (σ1 σ2 : zS) : Prop := ∀ s, s < 3 → (bt (σ1.1 x0 12) s = true ∧ σ2.1 (mR σ2 m0 67) s = 1 ∧ Q (zcc V σ1.1 (2 + s)) (rC σ2.1 (mR σ2 m0 68) (50 * s))) ∨ (bt (σ1.1 x0 12) s = false ∧ σ2.1 (mR σ2 m0 67) s = 0)
/-- what can be gone back to -/
def zRu (Q : zCo → (Nat → Int32) → Prop) (V : zWh) (m0 n u : Nat) (σ1 σ2 : zS) : Prop := ∀ i, i < u → Q (zcc V σ1.1 (5 + (n + 39 - i) % 40)) (rC σ2.1 (mR σ2 m0 58) (50 * (u - 1 - i)))
def zRL (Q : Nat → zCo → (Nat → Int32) → Prop) (L1 : List Nat) (kd1 : Nat → Nat) (x0 m0 : Nat) (V : zWh) (ps pc sl rv sh cd : Nat) (σ1 σ2 : zS) : Prop :=
  zLay L1 kd1 x0 σ1.2.2 V ps pc sl ∧ zRv L1 kd1 x0 rv sh cd σ1.2.2 ∧ ∃ N n u : Nat, zRn V x0 ps m0 N n u σ1 σ2 ∧ Q N (zcc V σ1.1 0) (rC σ2.1 (mR σ2 m0 48) 0) ∧ zRu (Q N) V m0 n u σ1 σ2 ∧ zRh (Q N) V x0 m0 σ1 σ2
section ZREL
variable {κ k : Int} {L1 : List Nat} {kd1 : Nat → Nat} {L2 : List Nat} {kd2 : Nat → Nat} {σ1 σ2 τ1 τ2 : zS} {Wk Wr Wf Wa : List Nat} {m0 x0 : Nat} {Q : Nat → zCo → (Nat → Int32) → Prop} {V : zWh} {ps pc sl rv sh cd : Nat}
/-- the class' side: what else may change -/
theorem zRL.cl (h : zRL Q L1 kd1 x0 m0 V ps pc sl rv sh cd σ1 σ2) (hx : zT L1 kd1 x0 10) (hI : zI κ 0 L1 kd1 σ1) (hr : ∀ a ∈ L1, kd1 a ≠ 5 → τ1.2.2 a = σ1.2.2 a) (hr5 : ∀ a ∈ L1, kd1 a = 5 → ∀ j, j ≠ 5 → j ≠ 6 → τ1.2.2 a j = σ1.2.2 a j) (hi : ∀ a ∈ L1, kd1 a = 2 ∨ kd1 a = 4 ∨ kd1 a = 9 ∨ kd1 a = 10 → τ1.1 a = σ1.1 a) (hc : ∀ k, k < 45 → k ≠ 1 → zcc V τ1.1 k = zcc V σ1.1 k) : zRL Q L1 kd1 x0 m0 V ps pc sl rv sh cd τ1 σ2 := by
  obtain ⟨hL, hV, N, n, u, ⟨a1, a2, a3, a4, a5, a6, a7, a8, a9⟩, hq, hu, hh⟩ := h
  have rx : τ1.2.2 x0 = σ1.2.2 x0 := hr x0 hx.1 (by rw [hx.2]; decide)
  obtain ⟨td, d1, d2⟩ := zi_ref (j := 10) (k2 := 9) hI hx (by rfl)
  obtain ⟨dy, y1, y2⟩ := zi_ref (j := 5) (k2 := 2) hI hx (by rfl)
  have gd : (σ1.2.2 x0 10).getD 0 = td := by rw [d1]; rfl
  have gy : (σ1.2.2 x0 5).getD 0 = dy := by rw [y1]; rfl
  have tp : zT L1 kd1 ps 4 := hL.2.2.2.2.2.2.1
  have ip : τ1.1 ps = σ1.1 ps := hi ps tp.1 (by rw [tp.2]; decide)
  have ix : τ1.1 x0 = σ1.1 x0 := hi x0 hx.1 (by rw [hx.2]; decide)
  refine ⟨hL.keep (fun a ha hk => hr a ha (by omega)) (fun j _ => by rw [rx]), ?_, N, n, u, ⟨?_, a2, a3, by rw [ip]; exact a4, a5, by rw [ip]; exact a6, a7, a8, ?_⟩, by rw [hc 0 (by decide) (by decide)]; exact hq, fun i hi' => ?_, fun s hs => ?_⟩
  · obtain ⟨⟨b1, b2, b3, b4⟩, ⟨t0, t1, t2, t3⟩, b, c, d, e, f⟩ := hV
    have rr : ∀ j, j ≠ 5 → j ≠ 6 → τ1.2.2 rv j = σ1.2.2 rv j := hr5 rv t1.1 t1.2
    have rs : τ1.2.2 sh = σ1.2.2 sh := hr sh t2.1 (by rw [t2.2]; decide)
    have rc : τ1.2.2 cd = σ1.2.2 cd := hr cd t3.1 (by rw [t3.2]; decide)
    exact ⟨⟨by rw [rx]; exact b1, by rw [rx]; exact b2, by rw [rr 0 (by decide) (by decide)]; exact b3, by rw [rr 1 (by decide) (by decide)]; exact b4⟩, ⟨t0, t1, t2, t3⟩, fun j hj => by rw [rr j (by omega) (by omega)]; exact b j hj, fun j hj => by rw [rc]; exact c j hj, fun j h1 h2 => by rw [rs]; exact d j h1 h2, by rw [rx]; exact e, by rw [rx]; exact f⟩
  · rw [rx, gd, hi td d2.1 (by rw [d2.2]; decide), ← gd]; exact a1
  · rw [rx, gy, hi dy y2.1 (by rw [y2.2]; decide), ← gy]; exact a9
  · rw [hc _ (by omega) (by omega)]; exact hu i hi'
  · rw [ix, hc (2 + s) (by omega) (by omega)]; exact hh s hs
/-- a question of the class: no course is written -/
theorem zRL.c (h : zRL Q L1 kd1 x0 m0 V ps pc sl rv sh cd σ1 σ2) (hx : zT L1 kd1 x0 10) (hI : zI κ 0 L1 kd1 σ1) (g : zSm Wk Wr L1 kd1 σ1 τ1) (hv : zRz σ1.2.2 τ1) (h1 : ([1, 2, 4, 9, 10, 22, 23, 24].all (fun j => !(Wk.contains j))) = true) (h2 : (Wr.all (fun j => j == 5)) = true) : zRL Q L1 kd1 x0 m0 V ps pc sl rv sh cd τ1 σ2 := by
  have n : ∀ {k : Nat}, (k = 1 ∨ k = 2 ∨ k = 4 ∨ k = 9 ∨ k = 10 ∨ k = 22 ∨ k = 23 ∨ k = 24) → k ∉ Wk := fun {k} hk q => by
    have z := List.all_eq_true.mp h1 k (by rcases hk with rfl | rfl | rfl | rfl | rfl | rfl | rfl | rfl <;> decide)
    simp [q] at z
  refine h.cl hx hI (fun a ha h5 => (g a ha).2 (fun q => h5 ?_)) (fun a _ _ j j5 j6 => hv a j j5 j6) (fun a ha hk => ((g a ha).1 (n (by omega))).1) (fun k hk _ => ?_)
  · have := List.all_eq_true.mp h2 _ q
    simpa using this
  · obtain ⟨⟨tA, tI, tW, tM⟩, -⟩ := h.1.2.2.2.1 k hk
    exact zcc.st ((g _ tA.1).1 (n (by rw [tA.2]; omega))).1 ((g _ tI.1).1 (n (by rw [tI.2]; omega))).1 ((g _ tW.1).1 (n (by rw [tW.2]; omega))).1 ((g _ tM.1).1 (n (by rw [tM.2]; omega))).1
/-- a question that tries: the tried course alone is written -/
theorem zRL.t (h : zRL Q L1 kd1 x0 m0 V ps pc sl rv sh cd σ1 σ2) (hx : zT L1 kd1 x0 10) (hI : zI κ 0 L1 kd1 σ1) (g : zSm Wk Wr L1 kd1 σ1 τ1) (p : zPv L1 kd1 V rv σ1 τ1) (h1 : ([2, 4, 9, 10].all (fun j => !(Wk.contains j))) = true) (h2 : (Wr.all (fun j => j == 5)) = true) (hs : ∀ a ∈ L1, kd1 a = 5 → a = rv) : zRL Q L1 kd1 x0 m0 V ps pc sl rv sh cd τ1 σ2 := by
  have n : ∀ {k : Nat}, (k = 2 ∨ k = 4 ∨ k = 9 ∨ k = 10) → k ∉ Wk := fun {k} hk q => by
    have z := List.all_eq_true.mp h1 k (by rcases hk with rfl | rfl | rfl | rfl <;> decide)
    simp [q] at z
  refine h.cl hx hI (fun a ha h5 => (g a ha).2 (fun q => h5 ?_)) (fun a ha h5 j j5 j6 => p.1 a j (fun q => by omega)) (fun a ha hk => ((g a ha).1 (n hk)).1) (fun k hk hk1 => p.cc h.1 hk hk1)
  have := List.all_eq_true.mp h2 _ q
  simpa using this
/-- a question of the reference -/
theorem zRL.m (h : zRL Q L1 kd1 x0 m0 V ps pc sl rv sh cd σ1 σ2) (hJ : zJ κ L2 kd2 σ2) (hm : zT L2 kd2 m0 11) (g : zSame m0 Wf Wa L2 kd2 σ2 τ2) (h1 : ([18, 57, 62].all (fun j => !(Wf.contains j))) = true) (h2 : ([121, 148, 158, 167, 168].all (fun j => !(Wa.contains j))) = true) : zRL Q L1 kd1 x0 m0 V ps pc sl rv sh cd σ1 τ2 := by
  obtain ⟨hL, hV, N, n, u, ⟨a1, a2, a3, a4, a5, a6, a7, a8, a9⟩, hq, hu, hh⟩ := h
  have f : ∀ j, (j = 18 ∨ j = 57 ∨ j = 62) → τ2.1 m0 j = σ2.1 m0 j := fun j hj => g.2.1 j (fun q => by
    have z := List.all_eq_true.mp h1 j (by rcases hj with rfl | rfl | rfl <;> decide)
    simp [q] at z)
  have er : ∀ s, mR τ2 m0 s = mR σ2 m0 s := fun s => by rw [mR, g.2.2]
  have r : ∀ s, (s = 21 ∨ s = 48 ∨ s = 58 ∨ s = 67 ∨ s = 68) → τ2.1 (mR σ2 m0 s) = σ2.1 (mR σ2 m0 s) := fun s hs => by
    have ht : zT L2 kd2 (mR σ2 m0 s) (100 + s) := by rcases hs with rfl | rfl | rfl | rfl | rfl <;> exact mR_t hJ hm (by rfl)
    refine (g.1 _ ht.1 (by rw [ht.2]; omega) (fun q => ?_)).1
    rw [ht.2] at q
    have z := List.all_eq_true.mp h2 (100 + s) (by rcases hs with rfl | rfl | rfl | rfl | rfl <;> decide)
    simp [q] at z
  refine ⟨hL, hV, N, n, u, ⟨a1, ?_, a3, a4, a5, a6, a7, by rw [f 57 (by omega)]; exact a8, by rw [f 62 (by omega)]; exact a9⟩, ?_, fun i hi => ?_, fun s hs => ?_⟩
  · rw [← a2]
    unfold zM zp
    rw [f 18 (by omega)]
    show (τ2.1 (mR τ2 m0 21) _).toInt = (σ2.1 (mR σ2 m0 21) _).toInt
    rw [er, r 21 (by omega)]
  · rw [er, rC_e (g := σ2.1) (r' := mR σ2 m0 48) (o' := 0) (fun j _ => by rw [r 48 (by omega)])]; exact hq
  · rw [er, rC_e (g := σ2.1) (r' := mR σ2 m0 58) (o' := 50 * (u - 1 - i)) (fun j _ => by rw [r 58 (by omega)])]; exact hu i hi
  · rw [er, er, r 67 (by omega), rC_e (g := σ2.1) (r' := mR σ2 m0 68) (o' := 50 * s) (fun j _ => by rw [r 68 (by omega)])]; exact hh s hs
end ZREL
end
-- 35x11.rel2
section
section ZREL2
variable {κ k : Int} {L1 : List Nat} {kd1 : Nat → Nat} {L2 : List Nat} {kd2 : Nat → Nat} {σ1 σ2 τ1 τ2 : zS} {Wk Wr Wf Wa : List Nat} {m0 x0 : Nat} {Q : Nat → zCo → (Nat → Int32) → Prop} {V : zWh} {ps pc sl rv sh cd : Nat}
/-- a deed: what was is kept on both sides, then now is another -/
theorem zRL.act (h : zRL Q L1 kd1 x0 m0 V ps pc sl rv sh cd σ1 σ2) (hx : zT L1 kd1 x0 10) (hI : zI κ 0 L1 kd1 σ1) (hr : ∀ a ∈ L1, kd1 a ≠ 5 → τ1.2.2 a = σ1.2.2 a) (hr5 : ∀ a ∈ L1, kd1 a = 5 → ∀ j, j ≠ 5 → j ≠ 6 → τ1.2.2 a j = σ1.2.2 a j) (hi : ∀ a ∈ L1, kd1 a = 2 ∨ kd1 a = 9 ∨ kd1 a = 10 → τ1.1 a = σ1.1 a) (hps : τ1.1 ps = (F_X4_push ps (V.1 0) σ1).1 ps) (hc : ∀ k, k < 45 → k ≠ 0 → k ≠ 1 → zcc V τ1.1 k = zcc V (F_X4_push ps (V.1 0) σ1).1 k) {now' : Nat → Int32} (hD : ∀ u : Nat, (σ2.1 m0 57).toInt = u → u ≤ 40 → zDone σ2 m0 u now' τ2) (hQ : ∀ N : Nat, (σ1.1 ((σ1.2.2 x0 10).getD 0) 0).toInt = N → zM m0 σ2 = N → N ≤ 12 → Q N (zcc V σ1.1 0) (rC σ2.1 (mR σ2 m0 48) 0) → Q N (zcc V τ1.1 0) now') : zRL Q L1 kd1 x0 m0 V ps pc sl rv sh cd τ1 τ2 := by
  obtain ⟨hL, hV, N, n, u, ⟨a1, a2, a3, a4, a5, a6, a7, a8, a9⟩, hq, hu, hh⟩ := h
  obtain ⟨σ', e', p2, p3, p4, p5, p6, p7⟩ := zPush hL (k := 0) (by decide) a4 a5 a6 a7
  rw [e'] at hps hc
  obtain ⟨d0, d1, d2, d3, d4, d5, d6, d7, d8, d9⟩ := hD u a8 a7
  have er : ∀ s, mR τ2 m0 s = mR σ2 m0 s := fun s => by rw [mR, d0]
  have rx : τ1.2.2 x0 = σ1.2.2 x0 := hr x0 hx.1 (by rw [hx.2]; decide)
  obtain ⟨td, t1, t2⟩ := zi_ref (j := 10) (k2 := 9) hI hx (by rfl)
  obtain ⟨dy, y1, y2⟩ := zi_ref (j := 5) (k2 := 2) hI hx (by rfl)
  have gd : (σ1.2.2 x0 10).getD 0 = td := by rw [t1]; rfl
  have gy : (σ1.2.2 x0 5).getD 0 = dy := by rw [y1]; rfl
  have ix : τ1.1 x0 = σ1.1 x0 := hi x0 hx.1 (by rw [hx.2]; decide)
  -- the layout
  have hL' : zLay L1 kd1 x0 τ1.2.2 V ps pc sl := hL.keep (fun a ha hk => hr a ha (by omega)) (fun j _ => by rw [rx])
  have hV' : zRv L1 kd1 x0 rv sh cd τ1.2.2 := by
    obtain ⟨⟨b1, b2, b3, b4⟩, ⟨t0, t1, t2, t3⟩, b, c, d, e, f⟩ := hV
    have rr : ∀ j, j ≠ 5 → j ≠ 6 → τ1.2.2 rv j = σ1.2.2 rv j := hr5 rv t1.1 t1.2
    have rs : τ1.2.2 sh = σ1.2.2 sh := hr sh t2.1 (by rw [t2.2]; decide)
    have rc : τ1.2.2 cd = σ1.2.2 cd := hr cd t3.1 (by rw [t3.2]; decide)
    exact ⟨⟨by rw [rx]; exact b1, by rw [rx]; exact b2, by rw [rr 0 (by decide) (by decide)]; exact b3, by rw [rr 1 (by decide) (by decide)]; exact b4⟩, ⟨t0, t1, t2, t3⟩, fun j hj => by rw [rr j (by omega) (by omega)]; exact b j hj, fun j hj => by rw [rc]; exact c j hj, fun j h1 h2 => by rw [rs]; exact d j h1 h2, by rw [rx]; exact e, by rw [rx]; exact f⟩
  refine ⟨hL', hV', N, (n + 1) % 40, if u = 40 then 40 else u + 1, ⟨?_, ?_, a3, by rw [hps]; exact p5, by omega, by rw [hps]; exact p6, by split <;> omega, d1, ?_⟩, ?_, fun i hi' => ?_, fun s hs => ?_⟩
  · rw [rx, gd, hi td t2.1 (by rw [t2.2]; decide), ← gd]; exact a1
  · rw [← a2]
    unfold zM zp
    rw [d5]
    show (τ2.1 (mR τ2 m0 21) _).toInt = (σ2.1 (mR σ2 m0 21) _).toInt
    rw [er, d7]
  · rw [rx, gy, hi dy y2.1 (by rw [y2.2]; decide), ← gy, d6]; exact a9
  · rw [er, d2]; exact hQ N a1 a2 a3 hq
  · rw [er]
    by_cases c0 : i = 0
    · subst c0
      have e1 : 5 + ((n + 1) % 40 + 39 - 0) % 40 = 5 + n := by omega
      have e2 : 50 * ((if u = 40 then 40 else u + 1) - 1 - 0) = 50 * (if u = 40 then 39 else u) := by split <;> omega
      rw [e1, e2, d3, hc _ (by omega) (by omega) (by omega), p3]
      exact hq
    · have e1 : 5 + ((n + 1) % 40 + 39 - i) % 40 = 5 + (n + 39 - (i - 1)) % 40 := by
        have h40 : (if u = 40 then 40 else u + 1) ≤ 40 := by split <;> omega
        have : i ≤ 39 := by omega
        omega
      have hi2 : i - 1 < (if u = 40 then 39 else u) := by
        by_cases c : u = 40
        · rw [if_pos c] at hi' ⊢; omega
        · rw [if_neg c] at hi' ⊢; omega
      have hi3 : i - 1 < u := by
        by_cases c : u = 40
        · rw [if_pos c] at hi2; omega
        · rw [if_neg c] at hi2; exact hi2
      have e2 : (if u = 40 then 40 else u + 1) - 1 - i = (if u = 40 then 39 else u) - 1 - (i - 1) := by split <;> omega
      have e3 : (if u = 40 then (if u = 40 then 39 else u) - 1 - (i - 1) + 1 else (if u = 40 then 39 else u) - 1 - (i - 1)) = u - 1 - (i - 1) := by
        by_cases c : u = 40
        · rw [if_pos c, if_pos c]; rw [if_pos c] at hi2; omega
        · rw [if_neg c, if_neg c]
      have hne : 5 + (n + 39 - (i - 1)) % 40 ≠ 5 + n := by
        by_cases c : u = 40
        · rw [if_pos c] at hi2; omega
        · rw [if_neg c] at hi2; omega
      rw [e1, e2, d4 _ (by omega), e3, hc _ (by omega) (by omega) (by omega), p4 _ (by omega) hne]
      exact hu (i - 1) hi3
  · have hs' := hh s hs
    have e1 : zcc V τ1.1 (2 + s) = zcc V σ1.1 (2 + s) := by rw [hc _ (by omega) (by omega) (by omega), p4 _ (by omega) (by omega)]
    rw [er, er, d8, ix, e1, rC_e (g := σ2.1) (r' := mR σ2 m0 68) (o' := 50 * s) (fun j _ => by rw [d9])]
    exact hs'
end ZREL2
end
-- 35x12.rel3
section
/-! DEEDS ON BOTH SIDES -/
theorem cWithin (x a b : Int32) : ((F_X10_isWithin x a b).toInt = 0) = ¬ (a.toInt ≤ x.toInt ∧ x.toInt ≤ b.toInt) := zwi x a b
theorem mIn (x a b : Int32) : ((F_X11_in x a b).toInt = 0) = ¬ (a.toInt ≤ x.toInt ∧ x.toInt ≤ b.toInt) := by
  unfold F_X11_in
  simp only [zlt]
  by_cases h1 : x.toInt < a.toInt
  · rw [if_pos h1]
    exact propext ⟨fun _ h => by omega, fun _ => by decide⟩
  · rw [if_neg h1]
    by_cases h2 : b.toInt < x.toInt
    · rw [if_pos h2]
      exact propext ⟨fun _ h => by omega, fun _ => by decide⟩
    · rw [if_neg h2]
      exact propext ⟨fun h => absurd h (by decide), fun h => absurd (by omega) h⟩
theorem cLaw {x0 : Nat} {p : Int32} {σ : zS} : F_X10_isLaw x0 p σ = (F_X10_isWithin p 0 2, σ) := by
  unfold F_X10_isLaw
  simp only [zlt]
theorem cPlace {x0 : Nat} {p : Int32} {σ : zS} : F_X10_isPlace x0 p σ = (F_X10_isWithin p 0 (σ.1 ((σ.2.2 x0 10).getD 0) 0 - 1), σ) := by
  unfold F_X10_isPlace
  simp only [zlt]
theorem mLaw {p : Int32} : F_X11_isLaw p = F_X11_in p 0 2 := by
  unfold F_X11_isLaw
  simp only [zlt]
theorem mPlc {m0 : Nat} {p : Int32} {σ : zS} : F_X11_isPlace m0 p σ = F_X11_in p 0 (F_X11_many m0 σ - 1) := by
  unfold F_X11_isPlace
  simp only [zlt]
theorem mBeside {m0 : Nat} {p : Int32} {σ : zS} : F_X11_isBeside m0 p σ = F_X11_in p 1 (F_X11_many m0 σ - 1) := by
  unfold F_X11_isBeside
  simp only [zlt]
theorem mMany {m0 : Nat} {σ : zS} : (F_X11_many m0 σ).toInt = zM m0 σ := by
  unfold F_X11_many zM zp
  simp only [zlt]
  rfl
/-- a bit of a number of bits -/
theorem bt_bit {p : Int32} {k i : Nat} (hp : p.toInt = k) (hk : k < 32) (hi : i < 32) : bt (F_X10_bit p) i = decide (i = k) := by
  obtain ⟨n, n1, n2, n3⟩ := zq_n (x := p) (by omega) (by omega)
  have e : n = k := by omega
  subst e
  unfold F_X10_bit
  simp only [zlt]
  rw [n2, b_shl n n1 1 hi, b_one _ (by omega)]
  by_cases c : i = n
  · subst c; simp
  · by_cases c2 : n ≤ i
    · have : i - n ≠ 0 := by omega
      simp [c, this]
    · simp [c, c2]
theorem b_xor (x y : Int32) (i : Nat) : bt (x ^^^ y) i = (bt x i ^^ bt y i) := by unfold bt; rw [Int32.toBitVec_xor, BitVec.getLsbD_xor]
theorem cHas {x p : Int32} {k : Nat} (hp : p.toInt = k) (hk : k < 32) : (F_X10_has x p).toInt = if bt x k = true then 1 else 0 := by
  unfold F_X10_has
  simp only [zlt]
  have key : (x &&& F_X10_bit p).toInt = 0 ↔ bt x k = false := by
    constructor
    · intro h
      have h0 : x &&& F_X10_bit p = 0 := Int32.toInt_inj.mp (h.trans (by decide))
      have q := b_and x (F_X10_bit p) k
      rw [h0, b_0, bt_bit hp hk hk] at q
      simpa using q.symm
    · intro h
      have h0 : x &&& F_X10_bit p = 0 := b_ext (fun i hi => by
        rw [b_and, b_0, bt_bit hp hk hi]
        by_cases c : i = k
        · subst c; rw [h]; rfl
        · simp [c])
      rw [h0]
      decide
  cases hb : bt x k with
  | false =>
    rw [if_pos (key.mpr hb)]
    exact (by decide : (0 : Int32).toInt = 0)
  | true =>
    rw [if_neg (fun z => by rw [key.mp z] at hb; cases hb)]
    exact (by decide : (1 : Int32).toInt = 1)
/-- what a relation of courses and rows must bear: deeds -/
def zGd (Q : Nat → zCo → (Nat → Int32) → Prop) : Prop := (∀ N c r, Q N c r → zQ0 N c r) ∧ (∀ N c r p, N ≤ 12 → Q N c r → Q N (c.1, c.2.1, c.2.2.1, c.2.2.2.1, c.2.2.2.2.1, p) (updR r 49 p)) ∧ (∀ N c r (k : Nat) (b : Int32), 1 ≤ k → k < N → N ≤ 12 → (∀ i, i < 32 → bt b i = decide (i = k)) → Q N c r → Q N (c.1, c.2.1, c.2.2.1, c.2.2.2.1 ^^^ b, c.2.2.2.2.1, c.2.2.2.2.2) (updR r (12 + k) (if bt c.2.2.2.1 k = true then 0 else 1))) ∧ ∀ N c r (k : Nat) (v : Int32), 1 ≤ k → k < N → N ≤ 12 → Q N c r → Q N (updR c.1 k v, c.2.1, c.2.2.1, c.2.2.2.1, c.2.2.2.2.1, c.2.2.2.2.2) (updR r k v)
theorem zGd.q0 : zGd zQ0 := by
  refine ⟨fun _ _ _ h => h, fun N c r p h12 h => ?_, fun N c r k b h1 h2 h12 hb h => ?_, fun N c r k v h1 h2 h12 h => ?_⟩
  · obtain ⟨a1, a2, a3, a4⟩ := h
    have u : ∀ j, j ≠ 49 → updR r 49 p j = r j := fun j hj => if_neg hj
    exact ⟨fun q q1 q2 => (a1 q q1 q2).trans (u q (by omega)).symm, fun q q1 q2 => by rw [u (12 + q) (by omega)]; exact a2 q q1 q2, a3.trans (u 48 (by omega)).symm, (if_pos rfl).symm⟩
  · obtain ⟨a1, a2, a3, a4⟩ := h
    have u : ∀ j v, j ≠ 12 + k → updR r (12 + k) v j = r j := fun j v hj => if_neg hj
    have us : ∀ v, updR r (12 + k) v (12 + k) = v := fun v => if_pos rfl
    refine ⟨fun p q1 q2 => (a1 p q1 q2).trans (u p _ (by omega)).symm, fun p q1 q2 => ?_, a3.trans (u 48 _ (by omega)).symm, a4.trans (u 49 _ (by omega)).symm⟩
    show (bt (c.2.2.2.1 ^^^ b) p = true ∧ _) ∨ (bt (c.2.2.2.1 ^^^ b) p = false ∧ _)
    rw [b_xor, hb p (by omega)]
    by_cases e : p = k
    · subst e
      rw [us]
      cases bt c.2.2.2.1 p with
      | true => exact Or.inr ⟨by simp, rfl⟩
      | false => exact Or.inl ⟨by simp, rfl⟩
    · rw [u (12 + p) _ (by omega)]
      rcases a2 p q1 q2 with ⟨z1, z2⟩ | ⟨z1, z2⟩
      · exact Or.inl ⟨by rw [z1]; simp [e], z2⟩
      · exact Or.inr ⟨by rw [z1]; simp [e], z2⟩
  · obtain ⟨a1, a2, a3, a4⟩ := h
    have u : ∀ j, j ≠ k → updR r k v j = r j := fun j hj => if_neg hj
    refine ⟨fun p q1 q2 => ?_, fun p q1 q2 => ?_, a3.trans (u 48 (by omega)).symm, a4.trans (u 49 (by omega)).symm⟩
    · show updR c.1 k v p = updR r k v p
      unfold updR
      by_cases e : p = k
      · rw [if_pos e, if_pos e]
      · rw [if_neg e, if_neg e]; exact a1 p q1 q2
    · rw [u (12 + p) (by omega)]
      exact a2 p q1 q2
section ZREL3
variable {κ k : Int} {L1 : List Nat} {kd1 : Nat → Nat} {L2 : List Nat} {kd2 : Nat → Nat} {σ1 σ2 τ1 τ2 : zS} {m0 x0 : Nat} {Q : Nat → zCo → (Nat → Int32) → Prop} {V : zWh} {ps pc sl rv sh cd : Nat}
/-- a number of now's own, or of its tree, written behind a push -/
theorem zRL.act1 (h : zRL Q L1 kd1 x0 m0 V ps pc sl rv sh cd σ1 σ2) (hx : zT L1 kd1 x0 10) (hI : zI κ 0 L1 kd1 σ1) {c j : Nat} {v : Int32} (hcj : c = V.1 0 ∨ c = V.2.1 0) (e1 : τ1 = (zu (F_X4_push ps (V.1 0) σ1).1 c j v, (F_X4_push ps (V.1 0) σ1).2)) {now' : Nat → Int32} (hD : ∀ u : Nat, (σ2.1 m0 57).toInt = u → u ≤ 40 → zDone σ2 m0 u now' τ2) (hQ : ∀ N : Nat, zM m0 σ2 = N → N ≤ 12 → Q N (zcc V σ1.1 0) (rC σ2.1 (mR σ2 m0 48) 0) → ∀ f : Nat → Nat → Int32, zcc V f 0 = zcc V σ1.1 0 → Q N (zcc V (zu f c j v) 0) now') : zRL Q L1 kd1 x0 m0 V ps pc sl rv sh cd τ1 τ2 := by
  obtain ⟨hL, hV, N, n, u, ⟨a1, a2, a3, a4, a5, a6, a7, a8, a9⟩, hq, hu, hh⟩ := id h
  obtain ⟨σ', e', p2, p3, p4, p5, p6, p7⟩ := zPush hL (k := 0) (by decide) a4 a5 a6 a7
  obtain ⟨⟨tA, tI, tW, tM⟩, -⟩ := hL.2.2.2.1 0 (by decide)
  have tp : zT L1 kd1 ps 4 := hL.2.2.2.2.2.2.1
  have o : ∀ a, a ≠ c → τ1.1 a = (F_X4_push ps (V.1 0) σ1).1 a := fun a ha => by rw [e1]; exact zu_n _ _ _ ha
  have nk : ∀ {a ka : Nat}, zT L1 kd1 a ka → ka ≠ 1 → ka ≠ 22 → a ≠ c := fun ha h1 h2 z => by
    rcases hcj with q | q
    · exact zNk ha tA h1 (z.trans q)
    · exact zNk ha tI h2 (z.trans q)
  refine h.act hx hI (fun a ha _ => ?_) (fun a ha _ j _ _ => ?_) (fun a ha hk => ?_) (o ps (nk tp (by decide) (by decide))) (fun k hk h0 _ => ?_) hD (fun N' b1 b2 b3 b4 => ?_)
  · rw [e1, e', p2]
  · rw [e1, e', p2]
  · rw [o a (nk ⟨ha, rfl⟩ (by omega) (by omega)), e']
    exact p7 a ha (by
      intro z
      simp only [List.mem_cons, List.not_mem_nil, or_false] at z
      omega)
  · obtain ⟨⟨uA, uI, uW, uM⟩, -⟩ := hL.2.2.2.1 k hk
    have hi := hL.2.2.2.2.1 k 0 hk (by decide)
    refine zcc.st (o _ (fun z => ?_)) (o _ (fun z => ?_)) (o _ (nk uW (by decide) (by decide))) (o _ (nk uM (by decide) (by decide)))
    · rcases hcj with q | q
      · exact h0 (hi (Or.inl (z.trans q)))
      · exact zNk uA tI (by decide) (z.trans q)
    · rcases hcj with q | q
      · exact zNk uI tA (by decide) (z.trans q)
      · exact h0 (hi (Or.inr (Or.inl (z.trans q))))
  · have q0 : zcc V σ'.1 0 = zcc V σ1.1 0 := p4 0 (by decide) (by omega)
    rw [e1, e']
    exact hQ N' b2 b3 b4 σ'.1 q0
theorem zcc_a {f : Nat → Nat → Int32} {p : Int32} (hL : zLay L1 kd1 x0 σ1.2.2 V ps pc sl) : zcc V (zu f (V.1 0) 5 p) 0 = ((zcc V f 0).1, (zcc V f 0).2.1, (zcc V f 0).2.2.1, (zcc V f 0).2.2.2.1, (zcc V f 0).2.2.2.2.1, p) ∧ zcc V (zu f (V.1 0) 3 p) 0 = ((zcc V f 0).1, (zcc V f 0).2.1, (zcc V f 0).2.2.1, p, (zcc V f 0).2.2.2.2.1, (zcc V f 0).2.2.2.2.2) := by
  obtain ⟨⟨tA, tI, tW, tM⟩, -⟩ := hL.2.2.2.1 0 (by decide)
  unfold zcc
  constructor
  · rw [zu_n _ _ _ (zNk tI tA (by decide)), zu_n _ _ _ (zNk tW tA (by decide)), zu_n _ _ _ (zNk tM tA (by decide)), zu_s, zu_j _ _ _ _ _ (by decide), zu_j _ _ _ _ _ (by decide)]
  · rw [zu_n _ _ _ (zNk tI tA (by decide)), zu_n _ _ _ (zNk tW tA (by decide)), zu_n _ _ _ (zNk tM tA (by decide)), zu_s, zu_j _ _ _ _ _ (by decide), zu_j _ _ _ _ _ (by decide)]
theorem zcc_i {f : Nat → Nat → Int32} {k : Nat} {p : Int32} (hL : zLay L1 kd1 x0 σ1.2.2 V ps pc sl) (hk : k < 12) : zcc V (zu f (V.2.1 0) k p) 0 = (updR (zcc V f 0).1 k p, (zcc V f 0).2.1, (zcc V f 0).2.2.1, (zcc V f 0).2.2.2.1, (zcc V f 0).2.2.2.2.1, (zcc V f 0).2.2.2.2.2) := by
  obtain ⟨⟨tA, tI, tW, tM⟩, -⟩ := hL.2.2.2.1 0 (by decide)
  have e : zt12 (zu f (V.2.1 0) k p (V.2.1 0)) = updR (zt12 (f (V.2.1 0))) k p := by
    funext j
    unfold zt12 updR
    by_cases c : j = k
    · subst c
      rw [if_pos hk, if_pos rfl, zu_s]
    · rw [zu_j _ _ _ _ _ (fun z => c z.symm), if_neg c]
  unfold zcc
  rw [e, zu_n _ _ _ (zNk tW tI (by decide)), zu_n _ _ _ (zNk tM tI (by decide)), zu_n _ _ _ (zNk tA tI (by decide))]
/-- now's own row and numbers, by the reference's -/
theorem zRL.rule {v1 v2 p : Int32} (hG : zGd Q) (h : zRL Q L1 kd1 x0 m0 V ps pc sl rv sh cd σ1 σ2) (hx : zT L1 kd1 x0 10) (hI : zI κ 0 L1 kd1 σ1) (hJ : zJ κ L2 kd2 σ2) (hm : zT L2 kd2 m0 11) (f1 : (v1, τ1) = F_X10_rule x0 p σ1) (f2 : (v2, τ2) = F_X11_rule m0 p σ2) : v1.toInt = v2.toInt ∧ zRL Q L1 kd1 x0 m0 V ps pc sl rv sh cd τ1 τ2 := by
  obtain ⟨hL, hV, N, n, u, ⟨a1, a2, a3, a4, a5, a6, a7, a8, a9⟩, hq, hu, hh⟩ := id h
  have q0 := hG.1 N _ _ hq
  have e0 : (0 : Int32).toInt = 0 := by decide
  have e1 : (1 : Int32).toInt = 1 := by decide
  have e2 : (2 : Int32).toInt = 2 := by decide
  have e49 : (49 : Int32).toInt = (49 : Nat) := by decide
  have n49 : (49 : Int32).toNatClampNeg = 49 := by decide
  have g6 : (σ1.2.2 x0 6).getD 0 = V.1 0 := xnw hL
  have g4 : (σ1.2.2 x0 4).getD 0 = ps := by rw [hL.1.2.2.2.1]; rfl
  have er : σ1.1 (V.1 0) 5 = σ2.1 (mR σ2 m0 48) 49 := by
    have := q0.2.2.2
    rw [rC_i (by decide), Nat.zero_add] at this
    exact this
  unfold F_X10_rule at f1
  unfold F_X11_rule at f2
  simp only [zlt, zlt2, cLaw, mLaw, cWithin, mIn, e0, e2, g6, g4, n49] at f1 f2
  by_cases c : 0 ≤ p.toInt ∧ p.toInt ≤ 2
  · rw [if_neg (fun z => z c)] at f1 f2
    by_cases c2 : (σ1.1 (V.1 0) 5).toInt = p.toInt
    · rw [if_pos c2] at f1
      rw [if_pos (show (σ2.1 ((σ2.2.2 m0 48).getD 0) 49).toInt = p.toInt by rw [← er]; exact c2)] at f2
      cases f1
      cases f2
      exact ⟨rfl, h⟩
    · rw [if_neg c2] at f1
      rw [if_neg (show ¬ (σ2.1 ((σ2.2.2 m0 48).getD 0) 49).toInt = p.toInt from fun z => c2 (by rw [er]; exact z))] at f2
      obtain ⟨s, e', p2, -⟩ := zPush hL (k := 0) (by decide) a4 a5 a6 a7
      have g6' : ((F_X4_push ps (V.1 0) σ1).2.2 x0 6).getD 0 = V.1 0 := by rw [e', p2]; exact g6
      rw [g6'] at f1
      have t1 : τ1 = (zu (F_X4_push ps (V.1 0) σ1).1 (V.1 0) 5 p, (F_X4_push ps (V.1 0) σ1).2) := congrArg Prod.snd f1
      have t2 : τ2 = F_X11_does m0 49 p σ2 := congrArg Prod.snd f2
      refine ⟨by rw [show v1 = 1 from congrArg Prod.fst f1, show v2 = 1 from congrArg Prod.fst f2], h.act1 hx hI (Or.inl rfl) t1 (fun u' b1 b2 => by rw [t2]; exact zDoes hJ hm b1 b2 e49 (by decide)) (fun N' b1 b2 b3 f hf => ?_)⟩
      rw [(zcc_a hL).1, hf]
      exact hG.2.1 N' _ _ p b2 b3
  · rw [if_pos c] at f1 f2
    cases f1
    cases f2
    exact ⟨rfl, h⟩
/-- a place other than the mouth, told alike on both sides -/
theorem zN1 {x : Int32} {N : Nat} (h : x.toInt = N) (h12 : N ≤ 12) : (x - 1 : Int32).toInt = (N : Int) - 1 := by
  have e1 : (1 : Int32).toInt = 1 := by decide
  rw [zb_sub (by rw [h, e1]; omega) (by rw [h, e1]; omega), h, e1]
theorem zRL.dam {v1 v2 p q : Int32} (hG : zGd Q) (h : zRL Q L1 kd1 x0 m0 V ps pc sl rv sh cd σ1 σ2) (hx : zT L1 kd1 x0 10) (hI : zI κ 0 L1 kd1 σ1) (hJ : zJ κ L2 kd2 σ2) (hm : zT L2 kd2 m0 11) (hq01 : q.toInt = 0 ∨ q.toInt = 1) (f1 : (v1, τ1) = F_X10_dam x0 p q σ1) (f2 : (v2, τ2) = F_X11_dam m0 p q σ2) : v1.toInt = v2.toInt ∧ zRL Q L1 kd1 x0 m0 V ps pc sl rv sh cd τ1 τ2 := by
  obtain ⟨hL, hV, N, n, u, ⟨a1, a2, a3, a4, a5, a6, a7, a8, a9⟩, hq, hu, hh⟩ := id h
  have q0 := hG.1 N _ _ hq
  have e0 : (0 : Int32).toInt = 0 := by decide
  have e1 : (1 : Int32).toInt = 1 := by decide
  have e12 : (12 : Int32).toInt = 12 := by decide
  have g6 : (σ1.2.2 x0 6).getD 0 = V.1 0 := xnw hL
  have g4 : (σ1.2.2 x0 4).getD 0 = ps := by rw [hL.1.2.2.2.1]; rfl
  have k1 := zN1 a1 a3
  have k2 := zN1 (x := F_X11_many m0 σ2) (mMany.trans a2) a3
  unfold F_X10_dam at f1
  unfold F_X11_dam at f2
  simp only [zlt, zlt2, cPlace, mBeside, cWithin, mIn, e0, e1, g6, g4, k1, k2] at f1 f2
  by_cases c0 : p.toInt = 0
  · rw [if_pos c0] at f1
    rw [if_pos (by omega)] at f2
    cases f1
    cases f2
    exact ⟨rfl, h⟩
  rw [if_neg c0] at f1
  by_cases c : 0 ≤ p.toInt ∧ p.toInt ≤ (N : Int) - 1
  · rw [if_neg (fun z => z c)] at f1
    rw [if_neg (by omega)] at f2
    obtain ⟨k, hk⟩ : ∃ k : Nat, p.toInt = k := ⟨p.toInt.toNat, by omega⟩
    have hb := cHas (x := σ1.1 (V.1 0) 3) hk (by omega)
    have e12k : ((12 : Int32) + p).toInt = (12 + k : Nat) := by rw [zb_add (by rw [e12, hk]; omega) (by rw [e12, hk]; omega), e12, hk]; rfl
    have n12k : ((12 : Int32) + p).toNatClampNeg = 12 + k := by rw [ztn, e12k]; rfl
    rw [n12k] at f2
    have er : ∀ v, rC σ2.1 (mR σ2 m0 48) 0 (12 + k) = v → σ2.1 ((σ2.2.2 m0 48).getD 0) (12 + k) = v := fun v z => by
      rw [rC_i (by omega), Nat.zero_add] at z
      exact z
    have deed : ∀ v : Int32, (if bt (σ1.1 (V.1 0) 3) k = true then (0 : Int32) else 1) = v → (v1, τ1) = (1, zu (F_X4_push ps (V.1 0) σ1).1 (((F_X4_push ps (V.1 0) σ1).2.2 x0 6).getD 0) 3 ((F_X4_push ps (V.1 0) σ1).1 (((F_X4_push ps (V.1 0) σ1).2.2 x0 6).getD 0) 3 ^^^ F_X10_bit p), (F_X4_push ps (V.1 0) σ1).2.1, (F_X4_push ps (V.1 0) σ1).2.2) → (v2, τ2) = (1, F_X11_does m0 (12 + p) v σ2) → v1.toInt = v2.toInt ∧ zRL Q L1 kd1 x0 m0 V ps pc sl rv sh cd τ1 τ2 := fun v hv f1 f2 => by
      obtain ⟨s, e', p2, p3, p4, -⟩ := zPush hL (k := 0) (by decide) a4 a5 a6 a7
      have g6' : ((F_X4_push ps (V.1 0) σ1).2.2 x0 6).getD 0 = V.1 0 := by rw [e', p2]; exact g6
      rw [g6'] at f1
      have pd : (F_X4_push ps (V.1 0) σ1).1 (V.1 0) 3 = σ1.1 (V.1 0) 3 := by
        have := congrArg (fun c : zCo => c.2.2.2.1) (p4 0 (by decide) (by omega))
        rw [e']
        exact this
      rw [pd] at f1
      have t1 : τ1 = (zu (F_X4_push ps (V.1 0) σ1).1 (V.1 0) 3 (σ1.1 (V.1 0) 3 ^^^ F_X10_bit p), (F_X4_push ps (V.1 0) σ1).2) := congrArg Prod.snd f1
      have t2 : τ2 = F_X11_does m0 (12 + p) v σ2 := congrArg Prod.snd f2
      refine ⟨by rw [show v1 = 1 from congrArg Prod.fst f1, show v2 = 1 from congrArg Prod.fst f2], h.act1 hx hI (Or.inl rfl) t1 (fun u' b1 b2 => by rw [t2]; exact zDoes hJ hm b1 b2 e12k (by omega)) (fun N' b1 b2 b3 f hf => ?_)⟩
      have eN : N' = N := by omega
      subst eN
      rw [(zcc_a hL).2, hf, ← hv]
      exact hG.2.2.1 N' _ _ k (F_X10_bit p) (by omega) (by omega) b2 (fun i hi => bt_bit hk (by omega) hi) b3
    rcases q0.2.1 k (by omega) (by omega) with ⟨z1, z2⟩ | ⟨z1, z2⟩
    · have z1' : bt (σ1.1 (V.1 0) 3) k = true := z1
      rw [er 1 z2] at f2
      rw [hb, if_pos z1'] at f1
      rw [if_pos e1] at f2
      by_cases cq : q.toInt = 1
      · rw [if_pos cq.symm] at f1 f2
        cases f1
        cases f2
        exact ⟨rfl, h⟩
      · rw [if_neg (fun z => cq z.symm)] at f1 f2
        rw [if_pos (by omega)] at f2
        exact deed 0 (if_pos z1') f1 f2
    · have z1' : ¬ bt (σ1.1 (V.1 0) 3) k = true := fun w => by rw [show bt (σ1.1 (V.1 0) 3) k = false from z1] at w; cases w
      rw [er 0 z2] at f2
      rw [hb, if_neg z1'] at f1
      rw [if_neg (by rw [e0]; decide)] at f2
      by_cases cq : q.toInt = 0
      · rw [if_pos cq.symm] at f1 f2
        cases f1
        cases f2
        exact ⟨rfl, h⟩
      · rw [if_neg (fun z => cq z.symm)] at f1 f2
        rw [if_neg cq] at f2
        exact deed 1 (if_neg z1') f1 f2
  · rw [if_pos c] at f1
    rw [if_pos (by omega)] at f2
    cases f1
    cases f2
    exact ⟨rfl, h⟩
end ZREL3
end
-- 35x13.rel4
section
section ZREL4
variable {κ k : Int} {L1 : List Nat} {kd1 : Nat → Nat} {L2 : List Nat} {kd2 : Nat → Nat} {σ1 σ2 τ1 τ2 : zS} {Wk Wf Wa : List Nat} {m0 x0 : Nat} {Q : Nat → zCo → (Nat → Int32) → Prop} {V : zWh} {ps pc sl rv sh cd : Nat}
/-- what is told of dye alone has changed -/
theorem zRL.dye (h : zRL Q L1 kd1 x0 m0 V ps pc sl rv sh cd σ1 σ2) (hx : zT L1 kd1 x0 10) (hI : zI κ 0 L1 kd1 σ1) (hJ : zJ κ L2 kd2 σ2) (hm : zT L2 kd2 m0 11) (g1 : zSm Wk [] L1 kd1 σ1 τ1) (g2 : zSame m0 Wf Wa L2 kd2 σ2 τ2) (h1 : ([1, 4, 9, 10, 22, 23, 24].all (fun j => !(Wk.contains j))) = true) (h2 : ([18, 57].all (fun j => !(Wf.contains j))) = true) (h3 : ([121, 148, 158, 167, 168].all (fun j => !(Wa.contains j))) = true) (hd : (τ1.1 ((σ1.2.2 x0 5).getD 0) 4).toInt = (τ2.1 m0 62).toInt) : zRL Q L1 kd1 x0 m0 V ps pc sl rv sh cd τ1 τ2 := by
  obtain ⟨hL, hV, N, n, u, ⟨a1, a2, a3, a4, a5, a6, a7, a8, a9⟩, hq, hu, hh⟩ := h
  have nW : ∀ {k : Nat}, (k = 1 ∨ k = 4 ∨ k = 9 ∨ k = 10 ∨ k = 22 ∨ k = 23 ∨ k = 24) → k ∉ Wk := fun {k} hk q => by
    have z := List.all_eq_true.mp h1 k (by rcases hk with rfl | rfl | rfl | rfl | rfl | rfl | rfl <;> decide)
    simp [q] at z
  have rs : ∀ a ∈ L1, τ1.2.2 a = σ1.2.2 a := fun a ha => (g1 a ha).2 List.not_mem_nil
  have ci : ∀ {a k : Nat}, zT L1 kd1 a k → (k = 1 ∨ k = 4 ∨ k = 9 ∨ k = 10 ∨ k = 22 ∨ k = 23 ∨ k = 24) → τ1.1 a = σ1.1 a := fun ha hk => ((g1 _ ha.1).1 (nW (by rw [ha.2]; exact hk))).1
  have cc : ∀ k, k < 45 → zcc V τ1.1 k = zcc V σ1.1 k := fun k hk => by
    obtain ⟨⟨tA, tI, tW, tM⟩, -⟩ := hL.2.2.2.1 k hk
    exact zcc.st (ci tA (by omega)) (ci tI (by omega)) (ci tW (by omega)) (ci tM (by omega))
  have rx := rs x0 hx.1
  obtain ⟨td, d1, d2⟩ := zi_ref (j := 10) (k2 := 9) hI hx (by rfl)
  have gd : (σ1.2.2 x0 10).getD 0 = td := by rw [d1]; rfl
  have f : ∀ j, (j = 18 ∨ j = 57) → τ2.1 m0 j = σ2.1 m0 j := fun j hj => g2.2.1 j (fun q => by
    have z := List.all_eq_true.mp h2 j (by rcases hj with rfl | rfl <;> decide)
    simp [q] at z)
  have er : ∀ s, mR τ2 m0 s = mR σ2 m0 s := fun s => by rw [mR, g2.2.2]
  have r : ∀ s, (s = 21 ∨ s = 48 ∨ s = 58 ∨ s = 67 ∨ s = 68) → τ2.1 (mR σ2 m0 s) = σ2.1 (mR σ2 m0 s) := fun s hs => by
    have ht : zT L2 kd2 (mR σ2 m0 s) (100 + s) := by rcases hs with rfl | rfl | rfl | rfl | rfl <;> exact mR_t hJ hm (by rfl)
    refine (g2.1 _ ht.1 (by rw [ht.2]; omega) (fun q => ?_)).1
    rw [ht.2] at q
    have z := List.all_eq_true.mp h3 (100 + s) (by rcases hs with rfl | rfl | rfl | rfl | rfl <;> decide)
    simp [q] at z
  have tp : zT L1 kd1 ps 4 := hL.2.2.2.2.2.2.1
  have ip := ci tp (by omega)
  have ix := ci hx (by omega)
  refine ⟨hL.keep (fun a ha _ => rs a ha) (fun j _ => by rw [rx]), ?_, N, n, u, ⟨?_, ?_, a3, by rw [ip]; exact a4, a5, by rw [ip]; exact a6, a7, by rw [f 57 (by omega)]; exact a8, by rw [rx]; exact hd⟩, ?_, fun i hi => ?_, fun s hs => ?_⟩
  · obtain ⟨⟨b1, b2, b3, b4⟩, ⟨t0, t1, t2, t3⟩, b, c, d, e, f⟩ := hV
    have q1 := rs rv t1.1
    have q2 := rs sh t2.1
    have q3 := rs cd t3.1
    exact ⟨⟨by rw [rx]; exact b1, by rw [rx]; exact b2, by rw [q1]; exact b3, by rw [q1]; exact b4⟩, ⟨t0, t1, t2, t3⟩, fun j hj => by rw [q1]; exact b j hj, fun j hj => by rw [q3]; exact c j hj, fun j h1 h2 => by rw [q2]; exact d j h1 h2, by rw [rx]; exact e, by rw [rx]; exact f⟩
  · rw [rx, gd, ci d2 (by omega), ← gd]; exact a1
  · rw [← a2]
    unfold zM zp
    rw [f 18 (by omega)]
    show (τ2.1 (mR τ2 m0 21) _).toInt = (σ2.1 (mR σ2 m0 21) _).toInt
    rw [er, r 21 (by omega)]
  · rw [cc 0 (by decide), er, rC_e (g := σ2.1) (r' := mR σ2 m0 48) (o' := 0) (fun j _ => by rw [r 48 (by omega)])]; exact hq
  · rw [cc _ (by omega), er, rC_e (g := σ2.1) (r' := mR σ2 m0 58) (o' := 50 * (u - 1 - i)) (fun j _ => by rw [r 58 (by omega)])]; exact hu i hi
  · rw [ix, cc _ (by omega), er, er, r 67 (by omega), rC_e (g := σ2.1) (r' := mR σ2 m0 68) (o' := 50 * s) (fun j _ => by rw [r 68 (by omega)])]; exact hh s hs
theorem zRL.forget {v1 v2 : Int32} (h : zRL Q L1 kd1 x0 m0 V ps pc sl rv sh cd σ1 σ2) (hx : zT L1 kd1 x0 10) (hI : zI κ 0 L1 kd1 σ1) (hJ : zJ κ L2 kd2 σ2) (hm : zT L2 kd2 m0 11) (f1 : (v1, τ1) = F_X10_forget x0 σ1) (f2 : (v2, τ2) = F_X11_forget m0 σ2) (g1 : zSm Wk [] L1 kd1 σ1 τ1) (g2 : zSame m0 Wf Wa L2 kd2 σ2 τ2) (h1 : ([1, 4, 9, 10, 22, 23, 24].all (fun j => !(Wk.contains j))) = true) (h2 : ([18, 57].all (fun j => !(Wf.contains j))) = true) (h3 : ([121, 148, 158, 167, 168].all (fun j => !(Wa.contains j))) = true) : v1.toInt = v2.toInt ∧ zRL Q L1 kd1 x0 m0 V ps pc sl rv sh cd τ1 τ2 := by
  have a9 : (σ1.1 ((σ1.2.2 x0 5).getD 0) 4).toInt = (σ2.1 m0 62).toInt := by
    obtain ⟨-, -, N, n, u, hn, -⟩ := h
    exact hn.2.2.2.2.2.2.2.2
  have f1b := f1
  have f2b := f2
  unfold F_X10_forget at f1b
  unfold F_X11_forget at f2b
  simp only [zlt] at f1b f2b
  refine ⟨?_, h.dye hx hI hJ hm g1 g2 h1 h2 h3 ?_⟩
  · rw [show v1 = _ from congrArg Prod.fst f1b, show v2 = _ from congrArg Prod.fst f2b]; exact a9
  · rw [show τ1 = _ from congrArg Prod.snd f1b, show τ2 = _ from congrArg Prod.snd f2b]
    show (zu σ1.1 ((σ1.2.2 x0 5).getD 0) 4 0 ((σ1.2.2 x0 5).getD 0) 4).toInt = (zu σ2.1 m0 62 0 m0 62).toInt
    rw [zu_s, zu_s]
theorem zRL.tell {v1 v2 a b c e : Int32} (h : zRL Q L1 kd1 x0 m0 V ps pc sl rv sh cd σ1 σ2) (hx : zT L1 kd1 x0 10) (hI : zI κ 0 L1 kd1 σ1) (hJ : zJ κ L2 kd2 σ2) (hm : zT L2 kd2 m0 11) (f1 : (v1, τ1) = F_X10_tell x0 a b c e σ1) (f2 : (v2, τ2) = F_X11_tell m0 a b c e σ2) (g1 : zSm Wk [] L1 kd1 σ1 τ1) (g2 : zSame m0 Wf Wa L2 kd2 σ2 τ2) (h1 : ([1, 4, 9, 10, 22, 23, 24].all (fun j => !(Wk.contains j))) = true) (h2 : ([18, 57].all (fun j => !(Wf.contains j))) = true) (h3 : ([121, 148, 158, 167, 168].all (fun j => !(Wa.contains j))) = true) : v1.toInt = v2.toInt ∧ zRL Q L1 kd1 x0 m0 V ps pc sl rv sh cd τ1 τ2 := by
  have key : v1.toInt = v2.toInt ∧ (τ1.1 ((σ1.2.2 x0 5).getD 0) 4).toInt = (τ2.1 m0 62).toInt := by
    obtain ⟨-, -, N, n, u, ⟨a1, a2, a3, -, -, -, -, -, a9⟩, -⟩ := h
    obtain ⟨dy, y1, y2⟩ := zi_ref (j := 5) (k2 := 2) hI hx (by rfl)
    have rg := zi_get (j := 4) hI y2 (lo := 0) (hi := 20) (by rfl)
    have gy : (σ1.2.2 x0 5).getD 0 = dy := by rw [y1]; rfl
    have e0 : (0 : Int32).toInt = 0 := by decide
    have e1 : (1 : Int32).toInt = 1 := by decide
    have e20 : (20 : Int32).toInt = 20 := by decide
    have e9 : (9999 : Int32).toInt = 9999 := by decide
    have k1 := zN1 a1 a3
    have k2 := zN1 (x := F_X11_many m0 σ2) (mMany.trans a2) a3
    rw [gy] at a9 ⊢
    unfold F_X10_tell at f1
    unfold F_X11_tell at f2
    simp only [zlt, zlt2, cPlace, mPlc, cWithin, mIn, e0, e20, e9, k1, k2, gy] at f1 f2
    have no : ∀ w : Int32, (v1, τ1) = (w, σ1) → (v2, τ2) = (w, σ2) → v1.toInt = v2.toInt ∧ (τ1.1 dy 4).toInt = (τ2.1 m0 62).toInt := fun w f1 f2 => by
      cases f1
      cases f2
      exact ⟨rfl, a9⟩
    by_cases c1 : 0 ≤ a.toInt ∧ a.toInt ≤ (N : Int) - 1
    · rw [if_neg (fun z => z c1)] at f1
      by_cases c2 : 0 ≤ b.toInt ∧ b.toInt ≤ 9999
      · rw [if_neg (fun z => z c2)] at f1
        by_cases c3 : b.toInt ≤ c.toInt ∧ c.toInt ≤ 9999
        · rw [if_neg (fun z => z c3)] at f1
          unfold F_X2_add at f1
          simp only [zlt, e20] at f1
          by_cases c4 : (σ1.1 dy 4).toInt < 20
          · rw [if_pos c4] at f1
            rw [if_neg (by omega), if_neg (fun z => z c1), if_neg (fun z => z c2), if_neg (fun z => z c3)] at f2
            obtain ⟨r0, p0, p1⟩ := zi_ref (j := 0) (k2 := 25) hI y2 (by rfl)
            obtain ⟨r1, q0, q1⟩ := zi_ref (j := 1) (k2 := 26) hI y2 (by rfl)
            obtain ⟨r2, s0, s1⟩ := zi_ref (j := 2) (k2 := 27) hI y2 (by rfl)
            obtain ⟨r3, t0, t1⟩ := zi_ref (j := 3) (k2 := 28) hI y2 (by rfl)
            have w0 : (σ1.2.2 dy 0).getD 0 = r0 := by rw [p0]; rfl
            have w1 : (σ1.2.2 dy 1).getD 0 = r1 := by rw [q0]; rfl
            have w2 : (σ1.2.2 dy 2).getD 0 = r2 := by rw [s0]; rfl
            have w3 : (σ1.2.2 dy 3).getD 0 = r3 := by rw [t0]; rfl
            have n0 : ¬ dy = r0 := zNk y2 p1 (by decide)
            have n1 : ¬ dy = r1 := zNk y2 q1 (by decide)
            have n2 : ¬ dy = r2 := zNk y2 s1 (by decide)
            have n3 : ¬ dy = r3 := zNk y2 t1 (by decide)
            simp only [w0, w1, w2, w3, zu_n _ _ _ n0, zu_n _ _ _ n1, zu_n _ _ _ n2, zu_n _ _ _ n3, zu_s] at f1
            have m3 : ¬ m0 = (σ2.2.2 m0 63).getD 0 := fun z => mR_m hJ hm (s := 63) (k := 163) (by rfl) (by decide) z.symm
            have m4 : ¬ m0 = (σ2.2.2 m0 64).getD 0 := fun z => mR_m hJ hm (s := 64) (k := 164) (by rfl) (by decide) z.symm
            have m5 : ¬ m0 = (σ2.2.2 m0 65).getD 0 := fun z => mR_m hJ hm (s := 65) (k := 165) (by rfl) (by decide) z.symm
            have m6 : ¬ m0 = (σ2.2.2 m0 66).getD 0 := fun z => mR_m hJ hm (s := 66) (k := 166) (by rfl) (by decide) z.symm
            simp only [zu_n _ _ _ m3, zu_n _ _ _ m4, zu_n _ _ _ m5, zu_n _ _ _ m6, zu_s] at f2
            have b1 : (σ1.1 dy 4 + (1 : Int32)).toInt = (σ1.1 dy 4).toInt + 1 := by rw [zb_add (by rw [e1]; omega) (by rw [e1]; omega), e1]
            have b2 : (σ2.1 m0 62 + (1 : Int32)).toInt = (σ2.1 m0 62).toInt + 1 := by rw [zb_add (by rw [e1]; omega) (by rw [e1]; omega), e1]
            have u1 := congrArg Prod.fst f1
            have u2 := congrArg Prod.fst f2
            have s1' : τ1 = _ := congrArg Prod.snd f1
            have s2' : τ2 = _ := congrArg Prod.snd f2
            refine ⟨?_, ?_⟩
            · rw [show v1 = σ1.1 dy 4 + (1 : Int32) - (1 : Int32) from u1, show v2 = σ2.1 m0 62 + (1 : Int32) - (1 : Int32) from u2, zb_sub (by rw [b1, e1]; omega) (by rw [b1, e1]; omega), zb_sub (by rw [b2, e1]; omega) (by rw [b2, e1]; omega), b1, b2, a9]
            · rw [s1', s2']
              show (zu _ dy 4 (σ1.1 dy 4 + (1 : Int32)) dy 4 : Int32).toInt = (zu _ m0 62 (σ2.1 m0 62 + (1 : Int32)) m0 62 : Int32).toInt
              rw [zu_s, zu_s, b1, b2, a9]
          · rw [if_neg c4] at f1
            rw [if_pos (by omega)] at f2
            exact no _ f1 f2
        · rw [if_pos c3] at f1
          by_cases c5 : (σ2.1 m0 62).toInt = 20
          · rw [if_pos c5] at f2; exact no _ f1 f2
          · rw [if_neg c5, if_neg (fun z => z c1), if_neg (fun z => z c2), if_pos c3] at f2; exact no _ f1 f2
      · rw [if_pos c2] at f1
        by_cases c5 : (σ2.1 m0 62).toInt = 20
        · rw [if_pos c5] at f2; exact no _ f1 f2
        · rw [if_neg c5, if_neg (fun z => z c1), if_pos c2] at f2; exact no _ f1 f2
    · rw [if_pos c1] at f1
      by_cases c5 : (σ2.1 m0 62).toInt = 20
      · rw [if_pos c5] at f2; exact no _ f1 f2
      · rw [if_neg c5, if_pos c1] at f2; exact no _ f1 f2
  exact ⟨key.1, h.dye hx hI hJ hm g1 g2 h1 h2 h3 key.2⟩
end ZREL4
end
-- 35x14.rel5
section
section ZREL5
variable {κ k : Int} {L1 : List Nat} {kd1 : Nat → Nat} {L2 : List Nat} {kd2 : Nat → Nat} {σ1 σ2 τ1 τ2 : zS} {Wk Wf Wa : List Nat} {m0 x0 : Nat} {Q : Nat → zCo → (Nat → Int32) → Prop} {V : zWh} {ps pc sl rv sh cd : Nat}
theorem zLR (hL : zLay L1 kd1 x0 σ1.2.2 V ps pc sl) (hV : zRv L1 kd1 x0 rv sh cd σ1.2.2) (e : τ1.2 = σ1.2) : zLay L1 kd1 x0 τ1.2.2 V ps pc sl ∧ zRv L1 kd1 x0 rv sh cd τ1.2.2 := by
  rw [e]
  exact ⟨hL, hV⟩
/-- what the reference takes back -/
theorem mUndo (hJ : zJ κ L2 kd2 σ2) (hm : zT L2 kd2 m0 11) {u : Nat} (hu : (σ2.1 m0 57).toInt = u) (hu2 : u ≤ 40) : (u = 0 → F_X11_undo m0 σ2 = (0, σ2)) ∧ (u ≠ 0 → F_X11_undo m0 σ2 = (1, zcf (zu σ2.1 m0 57 (σ2.1 m0 57 - (1 : Int32))) (mR σ2 m0 48) (mR σ2 m0 58) 0 (50 * (u - 1)) 0 50, σ2.2)) := by
  have e1 : (1 : Int32).toInt = 1 := by decide
  have e50 : (50 : Int32).toInt = 50 := by decide
  have hNm : mR σ2 m0 48 ≠ m0 := mR_m hJ hm (s := 48) (k := 148) (by rfl) (by decide)
  constructor
  · intro c
    unfold F_X11_undo
    simp only [zlt]
    rw [if_pos (by omega)]
  · intro c
    have ev : (σ2.1 m0 57 - (1 : Int32)).toInt = (u - 1 : Nat) := by rw [zb_sub (by rw [hu, e1]; omega) (by rw [hu, e1]; omega), hu, e1]; omega
    unfold F_X11_undo
    simp only [zlt]
    rw [if_neg (by omega)]
    rw [zLoopC (E := fun s => ((1 : Int32), s)) (G := F_X11_undo_21 m0) (D := mR σ2 m0 48) (S := mR σ2 m0 58) (dO := 0) (sO := 50 * (u - 1)) (N := 50) (m0 := m0) (σ := (zu σ2.1 m0 57 (σ2.1 m0 57 - (1 : Int32)), σ2.2)) (Or.inr (Nat.zero_le _)) hNm (by decide) ?_ ?_ 10000 0 0 _ (by decide) (by decide) (by decide) rfl rfl]
    · intro n x k ρ hx hk q2 q0
      have r : ∀ s, (ρ.2.2 m0 s).getD 0 = mR σ2 m0 s := fun s => by rw [mR, q2]
      have en : x.toNatClampNeg = k := by rw [ztn, hx]; rfl
      have ef : ρ.1 m0 57 = σ2.1 m0 57 - (1 : Int32) := by rw [q0]; exact zu_s _ _ _ _
      have eu : ((50 : Int32) * ρ.1 m0 57).toInt = 50 * (u - 1 : Nat) := by rw [zb_mul (by rw [e50, ef, ev]; omega) (by rw [e50, ef, ev]; omega), e50, ef, ev]
      have ei : ((50 : Int32) * ρ.1 m0 57 + x).toNatClampNeg = 50 * (u - 1) + k := by
        rw [ztn, zb_add (by rw [eu, hx]; omega) (by rw [eu, hx]; omega), eu, hx]
        omega
      rw [F_X11_undo_21]
      simp only [zlt, e50]
      rw [if_pos (by omega), r 48, r 58, en, ei, Nat.zero_add]
    · intro n x ρ hx q2 _
      rw [F_X11_undo_21]
      simp only [zlt, e50]
      rw [if_neg (by omega)]
theorem zRL.undo {v1 v2 : Int32} (h : zRL Q L1 kd1 x0 m0 V ps pc sl rv sh cd σ1 σ2) (hx : zT L1 kd1 x0 10) (hI : zI κ 0 L1 kd1 σ1) (hJ : zJ κ L2 kd2 σ2) (hm : zT L2 kd2 m0 11) (f1 : (v1, τ1) = F_X10_undo x0 σ1) (f2 : (v2, τ2) = F_X11_undo m0 σ2) : v1.toInt = v2.toInt ∧ zRL Q L1 kd1 x0 m0 V ps pc sl rv sh cd τ1 τ2 := by
  obtain ⟨hL, hV, N, n, u, ⟨a1, a2, a3, a4, a5, a6, a7, a8, a9⟩, hq, hu, hh⟩ := id h
  have g6 : (σ1.2.2 x0 6).getD 0 = V.1 0 := xnw hL
  have g4 : (σ1.2.2 x0 4).getD 0 = ps := by rw [hL.1.2.2.2.1]; rfl
  obtain ⟨p1, p2⟩ := zPop hL a4 a5 a6 a7
  obtain ⟨m1, m2⟩ := mUndo hJ hm a8 a7
  unfold F_X10_undo at f1
  simp only [zlt, zlt2, g6, g4] at f1
  by_cases c : u = 0
  · rw [p1 c] at f1
    rw [m1 c] at f2
    cases f1
    cases f2
    exact ⟨rfl, h⟩
  · obtain ⟨s, b0, b1, b2, b3, b4, b5, b6⟩ := p2 c
    rw [b0] at f1
    rw [m2 c] at f2
    have t1 : τ1 = s := congrArg Prod.snd f1
    have t2 : τ2 = _ := congrArg Prod.snd f2
    have hNm : mR σ2 m0 48 ≠ m0 := mR_m hJ hm (s := 48) (k := 148) (by rfl) (by decide)
    have er : ∀ s, mR τ2 m0 s = mR σ2 m0 s := fun s => by rw [mR, t2]
    have e1 : (1 : Int32).toInt = 1 := by decide
    obtain ⟨hL', hV'⟩ := zLR hL hV (τ1 := τ1) (by rw [t1]; exact b1)
    have fm : ∀ j, j ≠ 57 → τ2.1 m0 j = σ2.1 m0 j := fun j hj => by
      rw [t2]
      show zcf _ _ _ _ _ _ _ m0 j = _
      rw [zcf_n (fun z => hNm z.symm), zu_j _ _ _ _ _ (fun z => hj z.symm)]
    have rm : ∀ s, zf 0 11 s = some (100 + s) → s ≠ 48 → τ2.1 (mR σ2 m0 s) = σ2.1 (mR σ2 m0 s) := fun s hs h48 => by
      rw [t2]
      show zcf _ _ _ _ _ _ _ (mR σ2 m0 s) = _
      rw [zcf_n (mR_ne hJ hm hs (s' := 48) (k' := 148) (by rfl) (by omega)), zu_n _ _ _ (mR_m hJ hm hs (by omega))]
    have o : ∀ {a k : Nat}, zT L1 kd1 a k → (k = 2 ∨ k = 9 ∨ k = 10) → τ1.1 a = σ1.1 a := fun ha hk => by
      rw [t1]
      refine b6 _ ha.1 (fun z => ?_)
      rw [ha.2] at z
      simp only [List.mem_cons, List.not_mem_nil, or_false] at z
      omega
    obtain ⟨td, d1, d2⟩ := zi_ref (j := 10) (k2 := 9) hI hx (by rfl)
    obtain ⟨dy, y1, y2⟩ := zi_ref (j := 5) (k2 := 2) hI hx (by rfl)
    have gd : (σ1.2.2 x0 10).getD 0 = td := by rw [d1]; rfl
    have gy : (σ1.2.2 x0 5).getD 0 = dy := by rw [y1]; rfl
    have r2 : τ1.2.2 = σ1.2.2 := by rw [t1, b1]
    refine ⟨by rw [show v1 = 1 from congrArg Prod.fst f1, show v2 = 1 from congrArg Prod.fst f2], hL', hV', N, (n + 39) % 40, u - 1, ⟨?_, ?_, a3, by rw [t1]; exact b4, by omega, by rw [t1]; exact b5, by omega, ?_, ?_⟩, ?_, fun i hi => ?_, fun s' hs => ?_⟩
    · rw [r2, gd, o d2 (by omega), ← gd]; exact a1
    · rw [← a2]
      unfold zM zp
      rw [fm 18 (by decide)]
      show (τ2.1 (mR τ2 m0 21) _).toInt = (σ2.1 (mR σ2 m0 21) _).toInt
      rw [er, rm 21 (by rfl) (by decide)]
    · rw [t2]
      show (zcf _ _ _ _ _ _ _ m0 57 : Int32).toInt = _
      rw [zcf_n (fun z => hNm z.symm), zu_s, zb_sub (by rw [a8, e1]; omega) (by rw [a8, e1]; omega), a8, e1]
      omega
    · rw [r2, gy, o y2 (by omega), ← gy, fm 62 (by decide)]; exact a9
    · rw [t1, b2, er, rC_e (g := σ2.1) (r' := mR σ2 m0 58) (o' := 50 * (u - 1 - 0)) (fun j hj => ?_)]
      · exact hu 0 (by omega)
      · rw [t2]
        show zcf _ _ _ _ _ _ _ (mR σ2 m0 48) (0 + j) = _
        rw [zcf_i ⟨by omega, by omega⟩, zu_n _ _ _ (mR_m hJ hm (s := 58) (k := 158) (by rfl) (by decide))]
        exact congrArg _ (by omega)
    · have e2 : 5 + ((n + 39) % 40 + 39 - i) % 40 = 5 + (n + 39 - (i + 1)) % 40 := by omega
      have e3 : u - 1 - 1 - i = u - 1 - (i + 1) := by omega
      rw [e2, t1, b3 _ (by omega) (by omega), er, rC_e (g := σ2.1) (r' := mR σ2 m0 58) (o' := 50 * (u - 1 - (i + 1))) (fun j _ => by rw [rm 58 (by rfl) (by decide), e3])]
      exact hu (i + 1) (by omega)
    · rw [o hx (by omega), t1, b3 _ (by omega) (by omega), er, er, rm 67 (by rfl) (by decide), rC_e (g := σ2.1) (r' := mR σ2 m0 68) (o' := 50 * s') (fun j _ => by rw [rm 68 (by rfl) (by decide)])]
      exact hh s' hs
end ZREL5
end
-- 35x15.rel6
section
section ZREL6
variable {κ k : Int} {L1 : List Nat} {kd1 : Nat → Nat} {L2 : List Nat} {kd2 : Nat → Nat} {σ1 σ2 τ1 τ2 : zS} {Wk Wf Wa : List Nat} {m0 x0 : Nat} {Q : Nat → zCo → (Nat → Int32) → Prop} {V : zWh} {ps pc sl rv sh cd : Nat}
theorem mHold (hJ : zJ κ L2 kd2 σ2) (hm : zT L2 kd2 m0 11) {p : Int32} {k : Nat} (hp : p.toInt = k) (hk : k < 3) : F_X11_hold m0 p σ2 = (1, zcf (zu σ2.1 (mR σ2 m0 67) k 1) (mR σ2 m0 68) (mR σ2 m0 48) (50 * k) 0 0 50, σ2.2) := by
  have e50 : (50 : Int32).toInt = 50 := by decide
  have e0 : (0 : Int32).toInt = 0 := by decide
  have e2 : (2 : Int32).toInt = 2 := by decide
  have en0 : p.toNatClampNeg = k := by rw [ztn, hp]; rfl
  have eb : vp_nar .boolean (1 : Int32) = 1 := by decide
  unfold F_X11_hold
  simp only [zlt, mIn, e0, e2, en0, eb]
  rw [if_neg (fun z => z ⟨by omega, by omega⟩)]
  rw [zLoopC (E := fun s => ((1 : Int32), s)) (G := F_X11_hold_20 m0 p) (D := mR σ2 m0 68) (S := mR σ2 m0 48) (dO := 50 * k) (sO := 0) (N := 50) (m0 := m0) (σ := (zu σ2.1 (mR σ2 m0 67) k 1, σ2.2)) (Or.inl (mR_ne hJ hm (s := 68) (s' := 48) (k := 168) (k' := 148) (by rfl) (by rfl) (by decide))) (mR_m hJ hm (s := 68) (k := 168) (by rfl) (by decide)) (by decide) ?_ ?_ 10000 0 0 _ (by decide) (by decide) (by decide) rfl rfl]
  · intro n x i ρ hx hi q2 q0
    have r : ∀ s, (ρ.2.2 m0 s).getD 0 = mR σ2 m0 s := fun s => by rw [mR, q2]
    have en : x.toNatClampNeg = i := by rw [ztn, hx]; rfl
    have eu : ((50 : Int32) * p).toInt = 50 * k := by rw [zb_mul (by rw [e50, hp]; omega) (by rw [e50, hp]; omega), e50, hp]
    have ei : ((50 : Int32) * p + x).toNatClampNeg = 50 * k + i := by
      rw [ztn, zb_add (by rw [eu, hx]; omega) (by rw [eu, hx]; omega), eu, hx]
      omega
    rw [F_X11_hold_20]
    simp only [zlt, e50]
    rw [if_pos (by omega), r 68, r 48, en, ei, Nat.zero_add]
  · intro n x ρ hx q2 _
    rw [F_X11_hold_20]
    simp only [zlt, e50]
    rw [if_neg (by omega)]
theorem mRest (hJ : zJ κ L2 kd2 σ2) (hm : zT L2 kd2 m0 11) {p : Int32} {k : Nat} (hp : p.toInt = k) (hk : k < 3) : F_X11_restore m0 p σ2 = if (σ2.1 (mR σ2 m0 67) k).toInt = 0 then (0, σ2) else (1, zu (zcf σ2.1 (mR σ2 m0 48) (mR σ2 m0 68) 0 (50 * k) 0 50) m0 57 0, σ2.2) := by
  have e50 : (50 : Int32).toInt = 50 := by decide
  have e0 : (0 : Int32).toInt = 0 := by decide
  have e2 : (2 : Int32).toInt = 2 := by decide
  have en0 : p.toNatClampNeg = k := by rw [ztn, hp]; rfl
  unfold F_X11_restore
  simp only [zlt, mIn, e0, e2, en0]
  rw [if_neg (fun z => z ⟨by omega, by omega⟩)]
  by_cases c : (σ2.1 (mR σ2 m0 67) k).toInt = 0
  · rw [if_pos c, if_pos c]
  · rw [if_neg c, if_neg c]
    rw [zLoopC (E := fun s => ((1 : Int32), (zu s.1 m0 57 0, s.2))) (G := F_X11_restore_22 m0 p) (D := mR σ2 m0 48) (S := mR σ2 m0 68) (dO := 0) (sO := 50 * k) (N := 50) (m0 := m0) (σ := σ2) (Or.inr (Nat.zero_le _)) (mR_m hJ hm (s := 48) (k := 148) (by rfl) (by decide)) (by decide) ?_ ?_ 10000 0 0 _ (by decide) (by decide) (by decide) rfl rfl]
    · intro n x i ρ hx hi q2 q0
      have r : ∀ s, (ρ.2.2 m0 s).getD 0 = mR σ2 m0 s := fun s => by rw [mR, q2]
      have en : x.toNatClampNeg = i := by rw [ztn, hx]; rfl
      have eu : ((50 : Int32) * p).toInt = 50 * k := by rw [zb_mul (by rw [e50, hp]; omega) (by rw [e50, hp]; omega), e50, hp]
      have ei : ((50 : Int32) * p + x).toNatClampNeg = 50 * k + i := by
        rw [ztn, zb_add (by rw [eu, hx]; omega) (by rw [eu, hx]; omega), eu, hx]
        omega
      rw [F_X11_restore_22]
      simp only [zlt, e50]
      rw [if_pos (by omega), r 68, r 48, en, ei, Nat.zero_add]
    · intro n x ρ hx q2 _
      rw [F_X11_restore_22]
      simp only [zlt, e50]
      rw [if_neg (by omega)]
theorem zRL.hold {v1 v2 p : Int32} (h : zRL Q L1 kd1 x0 m0 V ps pc sl rv sh cd σ1 σ2) (hx : zT L1 kd1 x0 10) (hI : zI κ 0 L1 kd1 σ1) (hJ : zJ κ L2 kd2 σ2) (hm : zT L2 kd2 m0 11) (f1 : (v1, τ1) = F_X10_hold x0 p σ1) (f2 : (v2, τ2) = F_X11_hold m0 p σ2) : v1.toInt = v2.toInt ∧ zRL Q L1 kd1 x0 m0 V ps pc sl rv sh cd τ1 τ2 := by
  obtain ⟨hL, hV, N, n, u, ⟨a1, a2, a3, a4, a5, a6, a7, a8, a9⟩, hq, hu, hh⟩ := id h
  have g6 : (σ1.2.2 x0 6).getD 0 = V.1 0 := xnw hL
  have g8 : (σ1.2.2 x0 8).getD 0 = sl := by rw [hL.1.2.2.1]; rfl
  have e0 : (0 : Int32).toInt = 0 := by decide
  have e2 : (2 : Int32).toInt = 2 := by decide
  by_cases c : 0 ≤ p.toInt ∧ p.toInt ≤ 2
  · obtain ⟨k, hk⟩ : ∃ k : Nat, p.toInt = k := ⟨p.toInt.toNat, by omega⟩
    have en : p.toNatClampNeg = k := by rw [ztn, hk]; rfl
    have gs : (σ1.2.2 sl k).getD 0 = V.1 (2 + k) := by rw [hL.2.1 k (by omega)]; rfl
    rw [mHold hJ hm hk (by omega)] at f2
    unfold F_X10_hold at f1
    simp only [zlt, cWithin, e0, e2, g6, g8, en, gs] at f1
    rw [if_neg (fun z => z c)] at f1
    obtain ⟨c1, c2, c3, c4⟩ := zCopy hL (k := 2 + k) (q := 0) (by omega) (by decide)
    have co := zCopyO hL (k := 2 + k) (q := 0) (by omega) (by decide)
    obtain ⟨s, hs⟩ : ∃ s : zS, s = F_X1_copy (V.1 (2 + k)) (V.1 0) σ1 := ⟨_, rfl⟩
    rw [← hs] at f1 c1 c2 c3 c4 co
    have t1 : τ1 = (zu s.1 x0 12 (s.1 x0 12 ||| F_X10_bit p), s.2) := congrArg Prod.snd f1
    have t2 : τ2 = _ := congrArg Prod.snd f2
    have hOm : mR σ2 m0 68 ≠ m0 := mR_m hJ hm (s := 68) (k := 168) (by rfl) (by decide)
    have hEm : mR σ2 m0 67 ≠ m0 := mR_m hJ hm (s := 67) (k := 167) (by rfl) (by decide)
    have er : ∀ s, mR τ2 m0 s = mR σ2 m0 s := fun s => by rw [mR, t2]
    obtain ⟨hL', hV'⟩ := zLR hL hV (τ1 := τ1) (by rw [t1]; exact c1)
    have fm : τ2.1 m0 = σ2.1 m0 := by
      rw [t2]
      show zcf _ _ _ _ _ _ _ m0 = _
      rw [zcf_n (fun z => hOm z.symm), zu_n _ _ _ (fun z => hEm z.symm)]
    have rm : ∀ s, zf 0 11 s = some (100 + s) → s ≠ 67 → s ≠ 68 → τ2.1 (mR σ2 m0 s) = σ2.1 (mR σ2 m0 s) := fun s hs h67 h68 => by
      rw [t2]
      show zcf _ _ _ _ _ _ _ (mR σ2 m0 s) = _
      rw [zcf_n (mR_ne hJ hm hs (s' := 68) (k' := 168) (by rfl) (by omega)), zu_n _ _ _ (mR_ne hJ hm hs (s' := 67) (k' := 167) (by rfl) (by omega))]
    have sx : s.1 x0 = σ1.1 x0 := co x0 hx.1 (by rw [hx.2]; decide)
    have o : ∀ a, a ≠ x0 → τ1.1 a = s.1 a := fun a ha => by rw [t1]; exact zu_n _ _ _ ha
    have oi : ∀ {a k : Nat}, zT L1 kd1 a k → (k = 2 ∨ k = 4 ∨ k = 9) → τ1.1 a = σ1.1 a := fun ha hk => by
      rw [o _ (zNk ha hx (by omega))]
      refine co _ ha.1 (fun z => ?_)
      rw [ha.2] at z
      simp only [List.mem_cons, List.not_mem_nil, or_false] at z
      omega
    have cc : ∀ i, i < 45 → zcc V τ1.1 i = zcc V s.1 i := fun i hi => by
      obtain ⟨⟨tA, tI, tW, tM⟩, -⟩ := hL.2.2.2.1 i hi
      exact zcc.st (o _ (zNk tA hx (by decide))) (o _ (zNk tI hx (by decide))) (o _ (zNk tW hx (by decide))) (o _ (zNk tM hx (by decide)))
    obtain ⟨td, d1, d2⟩ := zi_ref (j := 10) (k2 := 9) hI hx (by rfl)
    obtain ⟨dy, y1, y2⟩ := zi_ref (j := 5) (k2 := 2) hI hx (by rfl)
    have gd : (σ1.2.2 x0 10).getD 0 = td := by rw [d1]; rfl
    have gy : (σ1.2.2 x0 5).getD 0 = dy := by rw [y1]; rfl
    have r2 : τ1.2.2 = σ1.2.2 := by rw [t1]; show s.2.2 = _; rw [c1]
    have tp : zT L1 kd1 ps 4 := hL.2.2.2.2.2.2.1
    refine ⟨by rw [show v1 = 1 from congrArg Prod.fst f1, show v2 = 1 from congrArg Prod.fst f2], hL', hV', N, n, u, ⟨?_, ?_, a3, by rw [oi tp (by omega)]; exact a4, a5, by rw [oi tp (by omega)]; exact a6, a7, by rw [fm]; exact a8, ?_⟩, ?_, fun i hi => ?_, fun i hi => ?_⟩
    · rw [r2, gd, oi d2 (by omega), ← gd]; exact a1
    · rw [← a2]
      unfold zM zp
      rw [fm]
      show (τ2.1 (mR τ2 m0 21) _).toInt = (σ2.1 (mR σ2 m0 21) _).toInt
      rw [er, rm 21 (by rfl) (by decide) (by decide)]
    · rw [r2, gy, oi y2 (by omega), ← gy, fm]; exact a9
    · rw [cc 0 (by decide), c3 0 (by decide) (by omega), er, rC_e (g := σ2.1) (r' := mR σ2 m0 48) (o' := 0) (fun j _ => by rw [rm 48 (by rfl) (by decide) (by decide)])]; exact hq
    · rw [cc _ (by omega), c3 _ (by omega) (by omega), er, rC_e (g := σ2.1) (r' := mR σ2 m0 58) (o' := 50 * (u - 1 - i)) (fun j _ => by rw [rm 58 (by rfl) (by decide) (by decide)])]; exact hu i hi
    · have e12 : τ1.1 x0 12 = σ1.1 x0 12 ||| F_X10_bit p := by rw [t1]; show zu s.1 x0 12 _ x0 12 = _; rw [zu_s, sx]
      have h67 : τ2.1 (mR σ2 m0 67) i = if i = k then 1 else σ2.1 (mR σ2 m0 67) i := by
        rw [t2]
        show zcf _ _ _ _ _ _ _ (mR σ2 m0 67) i = _
        rw [zcf_n (mR_ne hJ hm (s := 67) (s' := 68) (k := 167) (k' := 168) (by rfl) (by rfl) (by decide)), zu_a]
      have b12 : bt (τ1.1 x0 12) i = (bt (σ1.1 x0 12) i || decide (i = k)) := by rw [e12, b_or, bt_bit hk (by omega) (by omega)]
      rw [er, er, h67, b12]
      by_cases e : i = k
      · subst e
        refine Or.inl ⟨by simp, if_pos rfl, ?_⟩
        rw [cc _ (by omega), c2, rC_e (g := σ2.1) (r' := mR σ2 m0 48) (o' := 0) (fun j hj => ?_)]
        · exact hq
        · rw [t2]
          show zcf _ _ _ _ _ _ _ (mR σ2 m0 68) (50 * i + j) = _
          rw [zcf_i ⟨by omega, by omega⟩, zu_n _ _ _ (mR_ne hJ hm (s := 48) (s' := 67) (k := 148) (k' := 167) (by rfl) (by rfl) (by decide))]
          exact congrArg _ (by omega)
      · rw [if_neg e, cc _ (by omega), c3 _ (by omega) (by omega), rC_e (g := σ2.1) (r' := mR σ2 m0 68) (o' := 50 * i) (fun j hj => ?_)]
        · have q := hh i hi
          simp only [e, decide_false, Bool.or_false]
          exact q
        · rw [t2]
          show zcf _ _ _ _ _ _ _ (mR σ2 m0 68) (50 * i + j) = _
          rw [zcf_o (by omega), zu_n _ _ _ (mR_ne hJ hm (s := 68) (s' := 67) (k := 168) (k' := 167) (by rfl) (by rfl) (by decide))]
  · unfold F_X10_hold at f1
    unfold F_X11_hold at f2
    simp only [zlt, cWithin, mIn, e0, e2] at f1 f2
    rw [if_pos c] at f1 f2
    cases f1
    cases f2
    exact ⟨rfl, h⟩
theorem zRL.restore {v1 v2 p : Int32} (h : zRL Q L1 kd1 x0 m0 V ps pc sl rv sh cd σ1 σ2) (hx : zT L1 kd1 x0 10) (hI : zI κ 0 L1 kd1 σ1) (hJ : zJ κ L2 kd2 σ2) (hm : zT L2 kd2 m0 11) (f1 : (v1, τ1) = F_X10_restore x0 p σ1) (f2 : (v2, τ2) = F_X11_restore m0 p σ2) : v1.toInt = v2.toInt ∧ zRL Q L1 kd1 x0 m0 V ps pc sl rv sh cd τ1 τ2 := by
  obtain ⟨hL, hV, N, n, u, ⟨a1, a2, a3, a4, a5, a6, a7, a8, a9⟩, hq, hu, hh⟩ := id h
  have g6 : (σ1.2.2 x0 6).getD 0 = V.1 0 := xnw hL
  have g8 : (σ1.2.2 x0 8).getD 0 = sl := by rw [hL.1.2.2.1]; rfl
  have g4 : (σ1.2.2 x0 4).getD 0 = ps := by rw [hL.1.2.2.2.1]; rfl
  have e0 : (0 : Int32).toInt = 0 := by decide
  have e2 : (2 : Int32).toInt = 2 := by decide
  by_cases c : 0 ≤ p.toInt ∧ p.toInt ≤ 2
  · obtain ⟨k, hk⟩ : ∃ k : Nat, p.toInt = k := ⟨p.toInt.toNat, by omega⟩
    have en : p.toNatClampNeg = k := by rw [ztn, hk]; rfl
    have gs : (σ1.2.2 sl k).getD 0 = V.1 (2 + k) := by rw [hL.2.1 k (by omega)]; rfl
    have hb := cHas (x := σ1.1 x0 12) hk (by omega)
    rw [mRest hJ hm hk (by omega)] at f2
    unfold F_X10_restore at f1
    simp only [zlt, cWithin, e0, e2, g6, g8, en, gs] at f1
    rw [if_neg (fun z => z c), hb] at f1
    rcases hh k (by omega) with ⟨z1, z2, z3⟩ | ⟨z1, z2⟩
    · rw [if_neg (by rw [if_pos z1]; decide)] at f1
      rw [if_neg (by rw [z2]; decide)] at f2
      obtain ⟨c1, c2, c3, c4⟩ := zCopy hL (k := 0) (q := 2 + k) (by decide) (by omega)
      have co := zCopyO hL (k := 0) (q := 2 + k) (by decide) (by omega)
      obtain ⟨s, hs⟩ : ∃ s : zS, s = F_X1_copy (V.1 0) (V.1 (2 + k)) σ1 := ⟨_, rfl⟩
      rw [← hs] at f1 c1 c2 c3 c4 co
      have gs4 : (s.2.2 x0 4).getD 0 = ps := by rw [show s.2.2 = σ1.2.2 by rw [c1]]; exact g4
      rw [gs4] at f1
      have t1 : τ1 = (zu s.1 ps 2 0, s.2) := congrArg Prod.snd f1
      have t2 : τ2 = _ := congrArg Prod.snd f2
      have hNm : mR σ2 m0 48 ≠ m0 := mR_m hJ hm (s := 48) (k := 148) (by rfl) (by decide)
      have er : ∀ s, mR τ2 m0 s = mR σ2 m0 s := fun s => by rw [mR, t2]
      obtain ⟨hL', hV'⟩ := zLR hL hV (τ1 := τ1) (by rw [t1]; exact c1)
      have fm : ∀ j, j ≠ 57 → τ2.1 m0 j = σ2.1 m0 j := fun j hj => by
        rw [t2]
        show zu (zcf _ _ _ _ _ _ _) m0 57 0 m0 j = _
        rw [zu_j _ _ _ _ _ (fun z => hj z.symm), zcf_n (fun z => hNm z.symm)]
      have rm : ∀ s, zf 0 11 s = some (100 + s) → s ≠ 48 → τ2.1 (mR σ2 m0 s) = σ2.1 (mR σ2 m0 s) := fun s hs h48 => by
        rw [t2]
        show zu (zcf _ _ _ _ _ _ _) m0 57 0 (mR σ2 m0 s) = _
        rw [zu_n _ _ _ (mR_m hJ hm hs (by omega)), zcf_n (mR_ne hJ hm hs (s' := 48) (k' := 148) (by rfl) (by omega))]
      have tp : zT L1 kd1 ps 4 := hL.2.2.2.2.2.2.1
      have o : ∀ a, a ≠ ps → τ1.1 a = s.1 a := fun a ha => by rw [t1]; exact zu_n _ _ _ ha
      have oi : ∀ {a k : Nat}, zT L1 kd1 a k → (k = 2 ∨ k = 9 ∨ k = 10) → τ1.1 a = σ1.1 a := fun ha hk => by
        rw [o _ (zNk ha tp (by omega))]
        refine co _ ha.1 (fun z => ?_)
        rw [ha.2] at z
        simp only [List.mem_cons, List.not_mem_nil, or_false] at z
        omega
      have cc : ∀ i, i < 45 → zcc V τ1.1 i = zcc V s.1 i := fun i hi => by
        obtain ⟨⟨tA, tI, tW, tM⟩, -⟩ := hL.2.2.2.1 i hi
        exact zcc.st (o _ (zNk tA tp (by decide))) (o _ (zNk tI tp (by decide))) (o _ (zNk tW tp (by decide))) (o _ (zNk tM tp (by decide)))
      obtain ⟨td, d1, d2⟩ := zi_ref (j := 10) (k2 := 9) hI hx (by rfl)
      obtain ⟨dy, y1, y2⟩ := zi_ref (j := 5) (k2 := 2) hI hx (by rfl)
      have gd : (σ1.2.2 x0 10).getD 0 = td := by rw [d1]; rfl
      have gy : (σ1.2.2 x0 5).getD 0 = dy := by rw [y1]; rfl
      have r2 : τ1.2.2 = σ1.2.2 := by rw [t1]; show s.2.2 = _; rw [c1]
      have sp : s.1 ps = σ1.1 ps := co ps tp.1 (by rw [tp.2]; decide)
      refine ⟨by rw [show v1 = 1 from congrArg Prod.fst f1, show v2 = 1 from congrArg Prod.fst f2], hL', hV', N, n, 0, ⟨?_, ?_, a3, ?_, a5, ?_, by omega, ?_, ?_⟩, ?_, fun i hi => absurd hi (by omega), fun i hi => ?_⟩
      · rw [r2, gd, oi d2 (by omega), ← gd]; exact a1
      · rw [← a2]
        unfold zM zp
        rw [fm 18 (by decide)]
        show (τ2.1 (mR τ2 m0 21) _).toInt = (σ2.1 (mR σ2 m0 21) _).toInt
        rw [er, rm 21 (by rfl) (by decide)]
      · rw [t1]
        show (zu s.1 ps 2 0 ps 1).toInt = _
        rw [zu_j _ _ _ _ _ (by decide), sp]; exact a4
      · rw [t1]
        show (zu s.1 ps 2 0 ps 2).toInt = _
        rw [zu_s]; exact e0
      · rw [t2]
        show (zu (zcf _ _ _ _ _ _ _) m0 57 0 m0 57 : Int32).toInt = _
        rw [zu_s]; exact e0
      · rw [r2, gy, oi y2 (by omega), ← gy, fm 62 (by decide)]; exact a9
      · rw [cc 0 (by decide), c2, er, rC_e (g := σ2.1) (r' := mR σ2 m0 68) (o' := 50 * k) (fun j hj => ?_)]
        · exact z3
        · rw [t2]
          show zu (zcf _ _ _ _ _ _ _) m0 57 0 (mR σ2 m0 48) (0 + j) = _
          rw [zu_n _ _ _ hNm, zcf_i ⟨by omega, by omega⟩]
          exact congrArg _ (by omega)
      · rw [oi hx (by omega), cc _ (by omega), c3 _ (by omega) (by omega), er, er, rm 67 (by rfl) (by decide), rC_e (g := σ2.1) (r' := mR σ2 m0 68) (o' := 50 * i) (fun j _ => by rw [rm 68 (by rfl) (by decide)])]
        exact hh i hi
    · rw [if_pos (by rw [if_neg (fun w => by rw [z1] at w; cases w)])] at f1
      rw [if_pos (by rw [z2]; decide)] at f2
      cases f1
      cases f2
      exact ⟨rfl, h⟩
  · unfold F_X10_restore at f1
    unfold F_X11_restore at f2
    simp only [zlt, cWithin, mIn, e0, e2] at f1 f2
    rw [if_pos c] at f1 f2
    cases f1
    cases f2
    exact ⟨rfl, h⟩
end ZREL6
end
-- 35x16.rel7
section
/-! MONTHS, BY THEIR NUMBER: the tree, the dams and the law that rules stay -/
def zit : Nat → Int32 → Int32
  | 0, v => v
  | k + 1, v => zit k (v + (1 : Int32))
/-- what a month writes of the class -/
def zAg (kd : Nat → Nat) (V : zWh) : Nat → Nat → Prop := fun c j => (kd c = 20 ∨ kd c = 21 ∨ kd c = 30 ∨ kd c = 31 ∨ kd c = 32) ∨ c = V.2.2.1 0 ∨ c = V.2.2.2 0 ∨ (c = V.1 0 ∧ j = 4)
section ZREL7
variable {κ : Int} {L1 : List Nat} {kd1 : Nat → Nat} {L2 : List Nat} {kd2 : Nat → Nat} {σ1 σ2 τ1 τ2 s : zS} {m0 x0 : Nat} {V : zWh} {ps pc sl rv sh cd : Nat}
theorem zAg.k {c k : Nat} (h : zT L1 kd1 c k) (hk : k = 20 ∨ k = 21 ∨ k = 30 ∨ k = 31 ∨ k = 32) : ∀ j, zAg kd1 V c j := fun _ => Or.inl (by rw [h.2]; exact hk)
theorem cEnd (hl : zLay L1 kd1 x0 s.2.2 V ps pc sl) (h : zRv L1 kd1 x0 rv sh cd s.2.2) (h6 : s.2.2 rv 6 = some (V.1 0)) : (F_X5_endMonth rv s).1 (V.1 0) 4 = s.1 (V.1 0) 4 + (1 : Int32) ∧ zFr (zAg kd1 V) s (F_X5_endMonth rv s) := by
  obtain ⟨⟨a1, a2, a3, a4⟩, ⟨t0, t1, t2, t3⟩, b, c, d, e, f⟩ := h
  have gc : (s.2.2 rv 1).getD 0 = cd := by rw [a4]; rfl
  have g6 : (s.2.2 rv 6).getD 0 = V.1 0 := by rw [h6]; rfl
  obtain ⟨q0, q1, q2⟩ := hl.gA (k := 0) (by decide)
  obtain ⟨⟨tA, tI, tW, tM⟩, -⟩ := hl.2.2.2.1 0 (by decide)
  have F : zFr (zAg kd1 V) s (F_X5_endMonth rv s) := fr_X5_endMonth zFr.id (zAg.k (b 4 (by omega)) (by decide)) (by rw [gc]; exact zAg.k (c 0 (Or.inl rfl)) (by decide)) (by rw [gc]; exact zAg.k (c 1 (Or.inr rfl)) (by decide)) (fun _ => by rw [g6, q2]; exact Or.inr (Or.inr (Or.inl rfl))) (fun _ => by rw [g6, q1]; exact Or.inr (Or.inl rfl)) (by rw [g6]; exact Or.inr (Or.inr (Or.inr ⟨rfl, rfl⟩)))
  refine ⟨?_, F⟩
  unfold F_X5_endMonth
  simp only [zlt, zlt2, g6]
  obtain ⟨w, hw⟩ : ∃ w, w = F_X5_winnerBy rv (s.1 (V.1 0) 5) s := ⟨_, rfl⟩
  rw [← hw]
  have fw : zFr (fun c _ => kd1 c = 20 ∨ kd1 c = 21 ∨ kd1 c = 32) s w.2 := by
    rw [hw]
    exact fr_X5_winnerBy zFr.id (fun _ => Or.inr (Or.inr (b 4 (by omega)).2)) (fun _ => by rw [gc]; exact Or.inl (c 0 (Or.inl rfl)).2) (fun _ => by rw [gc]; exact Or.inr (Or.inl (c 1 (Or.inr rfl)).2))
  have w4 : w.2.1 (V.1 0) 4 = s.1 (V.1 0) 4 := fw.2 _ _ (show ¬ (kd1 (V.1 0) = 20 ∨ kd1 (V.1 0) = 21 ∨ kd1 (V.1 0) = 32) from by rw [tA.2]; decide)
  have w6 : (w.2.2.2 rv 6).getD 0 = V.1 0 := by rw [fw.rf]; exact g6
  rw [w6]
  by_cases cw : 0 < w.1.toInt
  · rw [if_pos cw]
    obtain ⟨y, hy⟩ : ∃ y, y = F_X1_pay (V.1 0) w.1 (w.2.1 ((w.2.2.2 rv 5).getD 0) 12) w.2 := ⟨_, rfl⟩
    rw [← hy]
    have fy : zFr (fun c _ => c = V.2.2.1 0 ∨ c = V.2.2.2 0) w.2 y := by
      rw [hy]
      exact fr_X1_pay zFr.id (fun _ => by rw [fw.rf, q2]; exact Or.inr rfl) (fun _ => by rw [fw.rf, q1]; exact Or.inl rfl)
    have y4 : y.1 (V.1 0) 4 = w.2.1 (V.1 0) 4 := fy.2 _ _ (by
      rintro (z | z)
      · exact zNk tA tW (by decide) z
      · exact zNk tA tM (by decide) z)
    have y6 : (y.2.2 rv 6).getD 0 = V.1 0 := by rw [fy.rf]; exact w6
    rw [y6]
    show zu y.1 (V.1 0) 4 (y.1 (V.1 0) 4 + (1 : Int32)) (V.1 0) 4 = _
    rw [zu_s, y4, w4]
  · rw [if_neg cw]
    show zu w.2.1 (V.1 0) 4 (w.2.1 (V.1 0) 4 + (1 : Int32)) (V.1 0) 4 = _
    rw [zu_s, w4]
theorem cThr_l (hl : zLay L1 kd1 x0 s.2.2 V ps pc sl) (h : zRv L1 kd1 x0 rv sh cd s.2.2) (h6 : s.2.2 rv 6 = some (V.1 0)) {t c : Nat} {p v : Int32} {n : Nat} (hp : p.toInt = n) (hn : n ≤ 60) : ∀ (N : Nat) (x : Int32) (i : Nat) (τ : zS), x.toInt = i → i ≤ n → n - i < N → zFr (zAg kd1 V) s τ → zFr (zAg kd1 V) s (F_X5_goThrough_9 rv t c p v N x τ) ∧ (F_X5_goThrough_9 rv t c p v N x τ).1 (V.1 0) 4 = zit (n - i) (τ.1 (V.1 0) 4) := by
  intro N
  induction N with
  | zero => intro x i τ _ _ hm; exact absurd hm (by omega)
  | succ N ih =>
    intro x i τ hx hi hm g
    rw [F_X5_goThrough_9]
    simp only [zlt, zlt2]
    by_cases c0 : i < n
    · rw [if_pos (by omega)]
      have fs : zFr (zAg kd1 V) τ (F_X9_isStorm t v (τ.1 c 4) τ).2 := fr_X9_isStorm zFr.id
      have fs0 : zFr (fun _ _ => False) τ (F_X9_isStorm t v (τ.1 c 4) τ).2 := fr_X9_isStorm zFr.id
      obtain ⟨u, hu⟩ : ∃ u, u = (F_X9_isStorm t v (τ.1 c 4) τ).2 := ⟨_, rfl⟩
      rw [← hu] at fs fs0 ⊢
      obtain ⟨⟨tA, tI, tW, tM⟩, -⟩ := hl.2.2.2.1 0 (by decide)
      have key : ∀ more : Int32, zFr (zAg kd1 V) s (F_X5_goThrough_9 rv t c p v N (x + (1 : Int32)) (F_X5_endMonth rv (F_X5_fall rv more u))) ∧ (F_X5_goThrough_9 rv t c p v N (x + (1 : Int32)) (F_X5_endMonth rv (F_X5_fall rv more u))).1 (V.1 0) 4 = zit (n - i) (τ.1 (V.1 0) 4) := fun more => by
        have gu := g.tr fs
        have ru : u.2.2 = s.2.2 := gu.rf
        obtain ⟨⟨a1, a2, a3, a4⟩, ⟨t0, t1, t2, t3⟩, b, cc, d, e, f⟩ := id h
        have gc : (u.2.2 rv 1).getD 0 = cd := by rw [ru, a4]; rfl
        have ff : zFr (fun c _ => kd1 c = 20 ∨ kd1 c = 21 ∨ kd1 c = 30 ∨ kd1 c = 31 ∨ kd1 c = 32) u (F_X5_fall rv more u) := fr_X5_fall zFr.id (fun _ => by rw [gc, ru]; exact Or.inl (cc 0 (Or.inl rfl)).2) (fun _ => by rw [gc, ru]; exact Or.inr (Or.inl (cc 1 (Or.inr rfl)).2)) (fun _ => by rw [ru]; exact Or.inr (Or.inr (Or.inl (b 2 (by omega)).2))) (fun _ => by rw [ru]; exact Or.inr (Or.inr (Or.inr (Or.inl (b 3 (by omega)).2))))
        have gf := gu.tr (ff.up (B := zAg kd1 V) (fun _ _ q => Or.inl q))
        have rf : (F_X5_fall rv more u).2.2 = s.2.2 := gf.rf
        obtain ⟨e4, ge⟩ := cEnd (s := F_X5_fall rv more u) (by rw [rf]; exact hl) (by rw [rf]; exact h) (by rw [rf]; exact h6)
        have f4 : (F_X5_fall rv more u).1 (V.1 0) 4 = u.1 (V.1 0) 4 := ff.2 _ _ (show ¬ (kd1 (V.1 0) = 20 ∨ kd1 (V.1 0) = 21 ∨ kd1 (V.1 0) = 30 ∨ kd1 (V.1 0) = 31 ∨ kd1 (V.1 0) = 32) from by rw [tA.2]; decide)
        have u4 : u.1 (V.1 0) 4 = τ.1 (V.1 0) 4 := fs0.2 _ _ id
        obtain ⟨r1, r2⟩ := ih (x + (1 : Int32)) (i + 1) _ (zp1 hx (by omega)) (by omega) (by omega) (gf.tr ge)
        refine ⟨r1, r2.trans ?_⟩
        rw [e4, f4, u4]
        obtain ⟨k, hk⟩ : ∃ k, n - i = k + 1 := ⟨n - i - 1, by omega⟩
        rw [show n - (i + 1) = k by omega, hk]
        rfl
      split
      · exact key _
      · exact key _
    · rw [if_neg (by omega)]
      have : n - i = 0 := by omega
      rw [this]
      exact ⟨g, rfl⟩
/-- months gone through by now: the number of the month, and what is left as it was -/
theorem cThr (hl : zLay L1 kd1 x0 σ1.2.2 V ps pc sl) (h : zRv L1 kd1 x0 rv sh cd σ1.2.2) {t : Nat} {p v : Int32} {n : Nat} (hp : p.toInt = n) (hn : n ≤ 60) : (∀ a j, ¬ (a = rv ∧ (j = 5 ∨ j = 6)) → (F_X5_goThrough rv t (V.1 0) p v σ1).2.2 a j = σ1.2.2 a j) ∧ (F_X5_goThrough rv t (V.1 0) p v σ1).1 (V.1 0) 4 = zit n (σ1.1 (V.1 0) 4) ∧ ∀ c j, ¬ (zAg kd1 V c j ∨ kd1 c = 6 ∨ kd1 c = 33 ∨ kd1 c = 34 ∨ kd1 c = 35 ∨ kd1 c = 36 ∨ kd1 c = 37 ∨ kd1 c = 38) → (F_X5_goThrough rv t (V.1 0) p v σ1).1 c j = σ1.1 c j := by
  obtain ⟨⟨tA, tI, tW, tM⟩, -⟩ := hl.2.2.2.1 0 (by decide)
  obtain ⟨g1, g2, g3⟩ := zForm (V := V) h t (V.1 0)
  have ff : ∀ c j, ¬ (kd1 c = 6 ∨ kd1 c = 33 ∨ kd1 c = 34 ∨ kd1 c = 35 ∨ kd1 c = 36 ∨ kd1 c = 37 ∨ kd1 c = 38) → (F_X5_form rv t (V.1 0) σ1).1 c j = σ1.1 c j := fun c j hc => by
    obtain ⟨⟨a1, a2, a3, a4⟩, ⟨t0, t1, t2, t3⟩, b, cc, d, e, f⟩ := id h
    have ns : ¬ sh = rv := zNk t2 t1 (by decide)
    obtain ⟨s, hs⟩ : ∃ s : zS, s = (σ1.1, σ1.2.1, zu (zu σ1.2.2 rv 5 (some t)) rv 6 (some (V.1 0))) := ⟨_, rfl⟩
    have g0 : (s.2.2 rv 0).getD 0 = sh := by
      rw [hs]
      show (zu (zu σ1.2.2 rv 5 _) rv 6 _ rv 0).getD 0 = sh
      rw [zu_j _ _ _ _ _ (by decide), zu_j _ _ _ _ _ (by decide), a3]
      rfl
    have E : F_X5_form rv t (V.1 0) σ1 = F_X6_form sh t (V.1 0) s := by
      rw [← g0, hs]
      unfold F_X5_form
      simp only [zlt]
    have sj : ∀ j, (s.2.2 sh j) = σ1.2.2 sh j := fun j => by
      rw [hs]
      show zu (zu σ1.2.2 rv 5 _) rv 6 _ sh j = _
      rw [zu_n _ _ _ ns, zu_n _ _ _ ns]
    have P : zFr (fun c _ => kd1 c = 6 ∨ kd1 c = 33 ∨ kd1 c = 34 ∨ kd1 c = 35 ∨ kd1 c = 36 ∨ kd1 c = 37 ∨ kd1 c = 38) s (F_X6_form sh t (V.1 0) s) := fr_X6_form zFr.id (Or.inl t2.2) (fun _ => by rw [sj]; have := (d 1 (by omega) (by omega)).2; omega) (fun _ => by rw [sj]; have := (d 2 (by omega) (by omega)).2; omega) (fun _ => by rw [sj]; have := (d 3 (by omega) (by omega)).2; omega) (fun _ => by rw [sj]; have := (d 6 (by omega) (by omega)).2; omega) (fun _ => by rw [sj]; have := (d 4 (by omega) (by omega)).2; omega)
    rw [E, P.2 c j hc, hs]
  obtain ⟨k1, k2⟩ := cThr_l (s := F_X5_form rv t (V.1 0) σ1) (t := t) (c := V.1 0) (v := v) (hl.pv h.2.1.2.1 g1) (h.keep g1) g3 hp hn 10000 0 0 _ (by decide) (by omega) (by omega) zFr.id
  have E : F_X5_goThrough rv t (V.1 0) p v σ1 = F_X5_goThrough_9 rv t (V.1 0) p v 10000 0 (F_X5_form rv t (V.1 0) σ1) := by
    unfold F_X5_goThrough
    simp only [zlt]
  rw [E]
  refine ⟨fun a j n => by rw [k1.rf]; exact g1.1 a j n, k2.trans ?_, fun c j hc => (k1.2 c j (fun q => hc (Or.inl q))).trans (ff c j (fun q => hc (Or.inr q)))⟩
  rw [ff _ _ (by rw [tA.2]; decide)]
  rfl
end ZREL7
end
-- 35x17.rel8
section
/-! A MONTH OF THE REFERENCE -/
set_option maxRecDepth 100000 in
noncomputable def mTail (a0 : Nat) (t86 : zS) : zS :=
  zLet ((t86.2.2 a0 49).getD 0) fun v89 =>
  zLet ((49 : Int32)) fun v90 =>
  zLet (t86.1 v89 v90.toNatClampNeg) fun v91 =>
  zLet2 (F_X11_winnerBy a0 v91 t86) fun v93 t92 =>
  zLet ((zu t92.1 a0 56 v93, t92.2.1, t92.2.2)) fun s96 =>
  zLet (s96.1 a0 56) fun v100 =>
  if v100.toInt < 0 then
    zLet ((s96.2.2 a0 49).getD 0) fun v102 =>
    zLet ((48 : Int32)) fun v103 =>
    zLet (s96.1 v102 v103.toNatClampNeg) fun v104 =>
    zLet ((1 : Int32)) fun v105 =>
    zLet (v104 + v105) fun v106 =>
    zLet ((zu s96.1 v102 v103.toNatClampNeg v106, s96.2.1, s96.2.2)) fun s107 =>
    zLet ((0 : Int32)) fun v111 =>
    zLet (F_X11_fillsFlows a0 v111 s107) fun t112 =>
    t112
  else
    zLet ((s96.2.2 a0 49).getD 0) fun v116 =>
    zLet ((24 : Int32)) fun v117 =>
    zLet (s96.1 a0 56) fun v118 =>
    zLet (v117 + v118) fun v119 =>
    zLet ((s96.2.2 a0 49).getD 0) fun v120 =>
    zLet ((24 : Int32)) fun v121 =>
    zLet (s96.1 a0 56) fun v122 =>
    zLet (v121 + v122) fun v123 =>
    zLet (s96.1 v120 v123.toNatClampNeg) fun v124 =>
    zLet ((1 : Int32)) fun v125 =>
    zLet (v124 + v125) fun v126 =>
    zLet ((0 : Int32)) fun v127 =>
    zLet ((999 : Int32)) fun v128 =>
    zLet (F_X11_within v126 v127 v128) fun v129 =>
    zLet ((zu s96.1 v116 v119.toNatClampNeg v129, s96.2.1, s96.2.2)) fun s130 =>
    zLet ((s130.2.2 a0 49).getD 0) fun v134 =>
    zLet ((36 : Int32)) fun v135 =>
    zLet (s130.1 a0 56) fun v136 =>
    zLet (v135 + v136) fun v137 =>
    zLet (s130.1 v134 v137.toNatClampNeg) fun v138 =>
    zLet ((s130.2.2 a0 28).getD 0) fun v139 =>
    zLet (s130.1 a0 18) fun v140 =>
    zLet (s130.1 v139 v140.toNatClampNeg) fun v141 =>
    zLet (v138 + v141) fun v142 =>
    zLet ((zu s130.1 v134 v137.toNatClampNeg v142, s130.2.1, s130.2.2)) fun s143 =>
    zLet ((s143.2.2 a0 49).getD 0) fun v148 =>
    zLet ((48 : Int32)) fun v149 =>
    zLet (s143.1 v148 v149.toNatClampNeg) fun v150 =>
    zLet ((1 : Int32)) fun v151 =>
    zLet (v150 + v151) fun v152 =>
    zLet ((zu s143.1 v148 v149.toNatClampNeg v152, s143.2.1, s143.2.2)) fun s153 =>
    zLet ((0 : Int32)) fun v158 =>
    zLet (F_X11_fillsFlows a0 v158 s153) fun t159 =>
    t159
set_option maxRecDepth 100000 in
theorem mMon_e {m0 : Nat} {σ : zS} : F_X11_monthGoes m0 σ = if (σ.1 m0 51).toInt = 0 then (if (F_X11_isStorm m0 σ).toInt = 0 then mTail m0 (F_X11_fillsFlows m0 0 σ) else mTail m0 (F_X11_fillsFlows m0 (σ.1 ((σ.2.2 m0 27).getD 0) (σ.1 m0 18).toNatClampNeg) σ)) else mTail m0 (F_X11_fillsFlows m0 0 σ) := by
  unfold F_X11_monthGoes mTail
  simp only [zlt, zlt2]
/-- what a month writes of the reference (r: the row) -/
def zBg (m0 r : Nat) (R : Nat → Nat → Option Nat) : Nat → Nat → Prop := fun c j => zFm [47, 56] [45, 46, 55] m0 R c j ∨ (c = r ∧ 24 ≤ j ∧ j ≤ 48)
section ZREL8
variable {L : List Nat} {kd : Nat → Nat} {m0 : Nat} {σ s t : zS} {κ : Int}
theorem mWin_l (hJ : zJ κ L kd σ) (hm : zT L kd m0 11) (hs : s.2 = σ.2) {l : Int32} (h12 : (F_X11_many m0 s).toInt ≤ 12) : ∀ (N : Nat) (x y z : Int32) (τ : zS), 1 ≤ x.toInt → x.toInt ≤ 12 → (z.toInt = -2 ∨ (0 ≤ z.toInt ∧ z.toInt ≤ 11)) → zFr (zFm [47] [45, 46] m0 σ.2.2) s τ → (F_X11_winnerBy_8 m0 l N x y z τ).1.toInt = -2 ∨ (0 ≤ (F_X11_winnerBy_8 m0 l N x y z τ).1.toInt ∧ (F_X11_winnerBy_8 m0 l N x y z τ).1.toInt ≤ 11) := by
  intro N
  have e1 : (1 : Int32).toInt = 1 := by decide
  induction N with
  | zero =>
    intro x y z τ _ _ _ _
    rw [F_X11_winnerBy_8]
    exact Or.inr ⟨(by decide : 0 ≤ (0 : Int32).toInt), (by decide : (0 : Int32).toInt ≤ 11)⟩
  | succ N ih =>
    intro x y z τ h1 h2 hz g
    have em : F_X11_many m0 τ = F_X11_many m0 s := by
      unfold F_X11_many
      simp only [zlt]
      have r21 : (τ.2.2 m0 21).getD 0 = mR σ m0 21 := by rw [g.rf, show s.2.2 = σ.2.2 by rw [hs]]
      have s21 : (s.2.2 m0 21).getD 0 = mR σ m0 21 := by rw [show s.2.2 = σ.2.2 by rw [hs]]
      have k18 : τ.1 m0 18 = s.1 m0 18 := g.2 _ _ (by
        rintro (⟨-, q⟩ | ⟨t, ht, e⟩)
        · exact absurd q (by decide)
        · have h2 : zf 0 11 t = some (100 + t) := by
            simp only [List.mem_cons, List.not_mem_nil, or_false] at ht
            rcases ht with rfl | rfl <;> rfl
          exact mR_m hJ hm h2 (by omega) e.symm)
      have k21 : ∀ j, τ.1 (mR σ m0 21) j = s.1 (mR σ m0 21) j := fun j => g.2 _ _ (by
        rintro (⟨e, -⟩ | ⟨t, ht, e⟩)
        · exact mR_m hJ hm (s := 21) (k := 121) (by rfl) (by decide) e
        · have h2 : zf 0 11 t = some (100 + t) ∧ t ≠ 21 := by
            simp only [List.mem_cons, List.not_mem_nil, or_false] at ht
            rcases ht with rfl | rfl <;> exact ⟨by rfl, by decide⟩
          exact mR_ne hJ hm (s := 21) (s' := t) (k := 121) (by rfl) h2.1 (by omega) e)
      rw [r21, s21, k18, k21]
    rw [F_X11_winnerBy_8]
    simp only [zlt, zlt2, em]
    by_cases c : x.toInt < (F_X11_many m0 s).toInt
    · rw [if_pos c]
      have hx : (x + (1 : Int32)).toInt = x.toInt + 1 := by rw [zb_add (by rw [e1]; omega) (by rw [e1]; omega), e1]
      have gc : zFr (zFm [47] [45, 46] m0 σ.2.2) s (F_X11_claimOf m0 x l τ).2 := g.tr (by
        have q : zFp (zFm [47] [45, 46] m0 σ.2.2) τ (F_X11_claimOf m0 x l τ) := fr_X11_claimOf zFr.id (by rw [g.rf, show s.2.2 = σ.2.2 by rw [hs]]; exact zFm.s rfl) (zFm.f rfl) (by rw [g.rf, show s.2.2 = σ.2.2 by rw [hs]]; exact zFm.s rfl)
        exact q)
      split
      · exact ih _ _ _ _ (by omega) (by omega) hz g
      · split
        · exact ih _ _ _ _ (by omega) (by omega) (Or.inr ⟨by omega, by omega⟩) gc
        · split
          · exact ih _ _ _ _ (by omega) (by omega) (Or.inr ⟨by omega, by omega⟩) gc
          · exact ih _ _ _ _ (by omega) (by omega) hz gc
    · rw [if_neg c]
      exact hz
theorem mTail_f (hJ : zJ κ L kd σ) (hm : zT L kd m0 11) (hs : s.2 = σ.2) (h12 : (F_X11_many m0 s).toInt ≤ 12) : zFr (zBg m0 (mR σ m0 49) σ.2.2) s (mTail m0 s) ∧ (mTail m0 s).1 (mR σ m0 49) 48 = s.1 (mR σ m0 49) 48 + (1 : Int32) := by
  have e48 : (48 : Int32).toNatClampNeg = 48 := by decide
  have e24 : (24 : Int32).toInt = 24 := by decide
  have e36 : (36 : Int32).toInt = 36 := by decide
  have rs : s.2.2 = σ.2.2 := by rw [hs]
  have rm : mR σ m0 49 ≠ m0 := mR_m hJ hm (s := 49) (k := 149) (by rfl) (by decide)
  have g0 : (s.2.2 m0 49).getD 0 = mR σ m0 49 := by rw [rs]
  unfold mTail
  simp only [zlt, zlt2, g0, e48]
  obtain ⟨w, hw⟩ : ∃ w, w = F_X11_winnerBy m0 (s.1 (mR σ m0 49) (49 : Int32).toNatClampNeg) s := ⟨_, rfl⟩
  rw [← hw]
  have fw : zFr (zFm [47] [45, 46] m0 σ.2.2) s w.2 := by
    rw [hw]
    exact fr_X11_winnerBy zFr.id (by rw [rs]; exact zFm.s rfl) (zFm.f rfl) (by rw [rs]; exact zFm.s rfl)
  have wv : w.1.toInt = -2 ∨ (0 ≤ w.1.toInt ∧ w.1.toInt ≤ 11) := by
    rw [hw]
    unfold F_X11_winnerBy
    simp only [zlt]
    exact mWin_l hJ hm hs h12 10000 1 0 (-2) s (by decide) (by decide) (Or.inl (by decide)) zFr.id
  have up1 : ∀ c j, zFm [47] [45, 46] m0 σ.2.2 c j → zBg m0 (mR σ m0 49) σ.2.2 c j := fun c j q => by
    rcases q with ⟨e, q⟩ | ⟨t, ht, e⟩
    · exact Or.inl (Or.inl ⟨e, by simp only [List.mem_cons, List.not_mem_nil, or_false] at q ⊢; omega⟩)
    · exact Or.inl (Or.inr ⟨t, by simp only [List.mem_cons, List.not_mem_nil, or_false] at ht ⊢; omega, e⟩)
  have fw2 := fw.up up1
  have rw2 : w.2.2.2 = σ.2.2 := by rw [fw.rf, rs]
  have row0 : ∀ j, w.2.1 (mR σ m0 49) j = s.1 (mR σ m0 49) j := fun j => fw.2 _ _ (by
    rintro (⟨e, -⟩ | ⟨t, ht, e⟩)
    · exact rm e
    · have h2 : zf 0 11 t = some (100 + t) ∧ t ≠ 49 := by
        simp only [List.mem_cons, List.not_mem_nil, or_false] at ht
        rcases ht with rfl | rfl <;> exact ⟨by rfl, by decide⟩
      exact mR_ne hJ hm (s := 49) (s' := t) (k := 149) (by rfl) h2.1 (by omega) e)
  have gw : (w.2.2.2 m0 49).getD 0 = mR σ m0 49 := by rw [rw2]
  have z56 : ∀ f : Nat → Nat → Int32, ∀ v, zu f m0 56 v m0 56 = v := fun f v => zu_s _ _ _ _
  have zr : ∀ (f : Nat → Nat → Int32) v, zu f m0 56 v (mR σ m0 49) = f (mR σ m0 49) := fun f v => zu_n _ _ _ rm
  have h56 : zBg m0 (mR σ m0 49) σ.2.2 m0 56 := Or.inl (zFm.f rfl)
  have hrow : ∀ j, 24 ≤ j → j ≤ 48 → zBg m0 (mR σ m0 49) σ.2.2 (mR σ m0 49) j := fun j h1 h2 => Or.inr ⟨rfl, h1, h2⟩
  have base := fw2.w (v := w.1) h56
  -- the flows at the end
  have fin : ∀ u : zS, zFr (zBg m0 (mR σ m0 49) σ.2.2) s u → u.1 (mR σ m0 49) 48 = s.1 (mR σ m0 49) 48 + (1 : Int32) → zFr (zBg m0 (mR σ m0 49) σ.2.2) s (F_X11_fillsFlows m0 0 u) ∧ (F_X11_fillsFlows m0 0 u).1 (mR σ m0 49) 48 = s.1 (mR σ m0 49) 48 + (1 : Int32) := fun u gu eu => by
    have ru : u.2.2 = σ.2.2 := by rw [gu.rf, rs]
    have f1 : zFr (zFm [47] [45, 46, 55] m0 σ.2.2) u (F_X11_fillsFlows m0 0 u) := fr_X11_fillsFlows zFr.id (by rw [ru]; exact zFm.s rfl) (zFm.f rfl) (by rw [ru]; exact zFm.s rfl) (by rw [ru]; exact zFm.s rfl)
    refine ⟨gu.tr (f1.up (fun c j q => ?_)), (f1.2 _ _ ?_).trans eu⟩
    · rcases q with ⟨e, q⟩ | ⟨t, ht, e⟩
      · exact Or.inl (Or.inl ⟨e, by simp only [List.mem_cons, List.not_mem_nil, or_false] at q ⊢; omega⟩)
      · exact Or.inl (Or.inr ⟨t, ht, e⟩)
    · rintro (⟨e, -⟩ | ⟨t, ht, e⟩)
      · exact rm e
      · have h2 : zf 0 11 t = some (100 + t) ∧ t ≠ 49 := by
          simp only [List.mem_cons, List.not_mem_nil, or_false] at ht
          rcases ht with rfl | rfl | rfl <;> exact ⟨by rfl, by decide⟩
        exact mR_ne hJ hm (s := 49) (s' := t) (k := 149) (by rfl) h2.1 (by omega) e
  simp only [gw, z56, zr]
  by_cases c : w.1.toInt < 0
  · rw [if_pos c]
    refine fin _ (base.w (hrow 48 (by omega) (by omega))) ?_
    show zu (zu w.2.1 m0 56 w.1) (mR σ m0 49) 48 _ (mR σ m0 49) 48 = _
    rw [zu_s, row0]
  · rw [if_neg c]
    have i24 : ((24 : Int32) + w.1).toNatClampNeg = 24 + w.1.toInt.toNat := by rw [ztn, zb_add (by rw [e24]; omega) (by rw [e24]; omega), e24]; omega
    have i36 : ((36 : Int32) + w.1).toNatClampNeg = 36 + w.1.toInt.toNat := by rw [ztn, zb_add (by rw [e36]; omega) (by rw [e36]; omega), e36]; omega
    have nm : ¬ m0 = mR σ m0 49 := fun z => rm z.symm
    have m56 : ∀ (f : Nat → Nat → Int32) (i : Nat) (v : Int32), zu f (mR σ m0 49) i v m0 = f m0 := fun f i v => zu_n _ _ _ nm
    simp only [i24, i36, m56, z56]
    refine fin _ (((base.w (hrow _ (by omega) (by omega))).w (hrow _ (by omega) (by omega))).w (hrow 48 (by omega) (by omega))) ?_
    show zu (zu (zu (zu w.2.1 m0 56 w.1) (mR σ m0 49) (24 + w.1.toInt.toNat) _) (mR σ m0 49) (36 + w.1.toInt.toNat) _) (mR σ m0 49) 48 _ (mR σ m0 49) 48 = _
    rw [zu_s, zu_j _ _ _ _ _ (by omega), zu_j _ _ _ _ _ (by omega), zr, row0]
theorem mMon (hJ : zJ κ L kd σ) (hm : zT L kd m0 11) (hs : s.2 = σ.2) (h12 : (F_X11_many m0 s).toInt ≤ 12) : zFr (zBg m0 (mR σ m0 49) σ.2.2) s (F_X11_monthGoes m0 s) ∧ (F_X11_monthGoes m0 s).1 (mR σ m0 49) 48 = s.1 (mR σ m0 49) 48 + (1 : Int32) := by
  have rs : s.2.2 = σ.2.2 := by rw [hs]
  have rm : mR σ m0 49 ≠ m0 := mR_m hJ hm (s := 49) (k := 149) (by rfl) (by decide)
  have key : ∀ v : Int32, zFr (zBg m0 (mR σ m0 49) σ.2.2) s (mTail m0 (F_X11_fillsFlows m0 v s)) ∧ (mTail m0 (F_X11_fillsFlows m0 v s)).1 (mR σ m0 49) 48 = s.1 (mR σ m0 49) 48 + (1 : Int32) := fun v => by
    have f1 : zFr (zFm [47] [45, 46, 55] m0 σ.2.2) s (F_X11_fillsFlows m0 v s) := fr_X11_fillsFlows zFr.id (by rw [rs]; exact zFm.s rfl) (zFm.f rfl) (by rw [rs]; exact zFm.s rfl) (by rw [rs]; exact zFm.s rfl)
    have hS : ([45, 46, 55] : List Nat).all (fun t => zf 0 11 t == some (100 + t)) = true := by rfl
    have f1' : zFr (zFm [47] [45, 46, 55] m0 s.2.2) s (F_X11_fillsFlows m0 v s) := by rw [rs]; exact f1
    have row0 : (F_X11_fillsFlows m0 v s).1 (mR σ m0 49) 48 = s.1 (mR σ m0 49) 48 := f1.2 _ _ (by
      rintro (⟨e, -⟩ | ⟨t, ht, e⟩)
      · exact rm e
      · have h2 : zf 0 11 t = some (100 + t) ∧ t ≠ 49 := by
          simp only [List.mem_cons, List.not_mem_nil, or_false] at ht
          rcases ht with rfl | rfl | rfl <;> exact ⟨by rfl, by decide⟩
        exact mR_ne hJ hm (s := 49) (s' := t) (k := 149) (by rfl) h2.1 (by omega) e)
    have em : F_X11_many m0 (F_X11_fillsFlows m0 v s) = F_X11_many m0 s := by
      unfold F_X11_many
      simp only [zlt]
      rw [f1.rf]
      have k18 : (F_X11_fillsFlows m0 v s).1 m0 18 = s.1 m0 18 := f1.2 _ _ (by
        rintro (⟨-, q⟩ | ⟨t, ht, e⟩)
        · exact absurd q (by decide)
        · have h2 : zf 0 11 t = some (100 + t) := by
            simp only [List.mem_cons, List.not_mem_nil, or_false] at ht
            rcases ht with rfl | rfl | rfl <;> rfl
          exact mR_m hJ hm h2 (by omega) e.symm)
      have k21 : ∀ j, (F_X11_fillsFlows m0 v s).1 (mR σ m0 21) j = s.1 (mR σ m0 21) j := fun j => f1.2 _ _ (by
        rintro (⟨e, -⟩ | ⟨t, ht, e⟩)
        · exact mR_m hJ hm (s := 21) (k := 121) (by rfl) (by decide) e
        · have h2 : zf 0 11 t = some (100 + t) ∧ t ≠ 21 := by
            simp only [List.mem_cons, List.not_mem_nil, or_false] at ht
            rcases ht with rfl | rfl | rfl <;> exact ⟨by rfl, by decide⟩
          exact mR_ne hJ hm (s := 21) (s' := t) (k := 121) (by rfl) h2.1 (by omega) e)
      rw [show (s.2.2 m0 21).getD 0 = mR σ m0 21 by rw [rs], k18, k21]
    obtain ⟨q1, q2⟩ := mTail_f hJ hm (s := F_X11_fillsFlows m0 v s) (by rw [f1.1, hs]) (by rw [em]; exact h12)
    refine ⟨(f1.up (fun c j q => ?_)).tr q1, q2.trans (by rw [row0])⟩
    rcases q with ⟨e, q⟩ | ⟨t, ht, e⟩
    · exact Or.inl (Or.inl ⟨e, by simp only [List.mem_cons, List.not_mem_nil, or_false] at q ⊢; omega⟩)
    · exact Or.inl (Or.inr ⟨t, ht, e⟩)
  rw [mMon_e]
  split
  · split
    · exact key _
    · exact key _
  · exact key _
end ZREL8
end
