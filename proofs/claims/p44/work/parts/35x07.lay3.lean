/-! WHAT IS TRIED ALONE: the questions that go months ahead write no course but the tried one -/
/-- cells of courses, but for the tried one's -/
def zPcl (L : List Nat) (kd : Nat → Nat) (V : zWh) (c : Nat) : Prop := c ∈ L ∧ (kd c = 1 ∨ kd c = 22 ∨ kd c = 23 ∨ kd c = 24) ∧ ¬ (c = V.1 1 ∨ c = V.2.1 1 ∨ c = V.2.2.1 1 ∨ c = V.2.2.2 1)
/-- references stay but for what the river looks at; courses stay but for the tried one -/
def zPv (L : List Nat) (kd : Nat → Nat) (V : zWh) (rv : Nat) (σ s : zS) : Prop := (∀ a j, ¬ (a = rv ∧ (j = 5 ∨ j = 6)) → s.2.2 a j = σ.2.2 a j) ∧ ∀ c, zPcl L kd V c → s.1 c = σ.1 c
/-- the river and what it stands on -/
def zRv (L : List Nat) (kd : Nat → Nat) (x0 rv sh cd : Nat) (R : Nat → Nat → Option Nat) : Prop := (R x0 2 = some rv ∧ R x0 3 = some sh ∧ R rv 0 = some sh ∧ R rv 1 = some cd) ∧ (zT L kd x0 10 ∧ zT L kd rv 5 ∧ zT L kd sh 6 ∧ zT L kd cd 0) ∧ (∀ j, j = 2 ∨ j = 3 ∨ j = 4 → zT L kd ((R rv j).getD 0) (28 + j)) ∧ (∀ j, j = 0 ∨ j = 1 → zT L kd ((R cd j).getD 0) (20 + j)) ∧ (∀ j, 1 ≤ j → j ≤ 6 → zT L kd ((R sh j).getD 0) (32 + j)) ∧ zT L kd ((R x0 9).getD 0) 53 ∧ zT L kd ((R x0 10).getD 0) 9
section ZLAY3
variable {L : List Nat} {kd : Nat → Nat} {x0 rv sh cd : Nat} {V : zWh} {ps pc sl : Nat} {σ s s' : zS} {κ : Int}
theorem zPv.rf : zPv L kd V rv σ σ := ⟨fun _ _ _ => rfl, fun _ _ => rfl⟩
theorem zPv.tr (h : zPv L kd V rv σ s) (g : zPv L kd V rv s s') : zPv L kd V rv σ s' := ⟨fun a j n => (g.1 a j n).trans (h.1 a j n), fun c hc => (g.2 c hc).trans (h.2 c hc)⟩
theorem zPv.fr {A : Nat → Nat → Prop} (g : zFr A s s') (hA : ∀ c j, A c j → ¬ zPcl L kd V c) : zPv L kd V rv s s' := ⟨fun a j _ => by rw [g.rf], fun c hc => funext (fun j => g.2 c j (fun q => hA c j q hc))⟩
theorem nPc {c k : Nat} (h : zT L kd c k) (hk : k ≠ 1 ∧ k ≠ 22 ∧ k ≠ 23 ∧ k ≠ 24) : ¬ zPcl L kd V c := fun q => by
  have := q.2.1
  rw [h.2] at this
  omega
theorem zRv.of (hI : zI κ 0 L kd σ) (hx : zT L kd x0 10) (hsh : σ.2.2 x0 3 = σ.2.2 ((σ.2.2 x0 2).getD 0) 0) : ∃ rv sh cd, zRv L kd x0 rv sh cd σ.2.2 := by
  obtain ⟨rv, r1, r2⟩ := zi_ref (j := 2) (k2 := 5) hI hx (by rfl)
  obtain ⟨sh, h1, h2⟩ := zi_ref (j := 3) (k2 := 6) hI hx (by rfl)
  obtain ⟨cd, c1, c2⟩ := zi_ref (j := 1) (k2 := 0) hI r2 (by rfl)
  have key : ∀ {a k j k2 : Nat}, zT L kd a k → zf 0 k j = some k2 → zT L kd ((σ.2.2 a j).getD 0) k2 := fun ha hf => by
    obtain ⟨y, y1, y2⟩ := zi_ref hI ha hf
    rw [y1]
    exact y2
  rw [r1] at hsh
  refine ⟨rv, sh, cd, ⟨r1, h1, ?_, c1⟩, ⟨hx, r2, h2, c2⟩, fun j hj => ?_, fun j hj => ?_, fun j h3 h4 => ?_, key hx (by rfl), key hx (by rfl)⟩
  · rw [← show (some rv : Option Nat).getD 0 = rv from rfl, ← hsh]; exact h1
  · rcases hj with rfl | rfl | rfl <;> exact key r2 (by rfl)
  · rcases hj with rfl | rfl <;> exact key c2 (by rfl)
  · rcases (show j = 1 ∨ j = 2 ∨ j = 3 ∨ j = 4 ∨ j = 5 ∨ j = 6 by omega) with rfl | rfl | rfl | rfl | rfl | rfl <;> exact key h2 (by rfl)
theorem zRv.keep (h : zRv L kd x0 rv sh cd σ.2.2) (g : zPv L kd V rv σ s) : zRv L kd x0 rv sh cd s.2.2 := by
  obtain ⟨⟨a1, a2, a3, a4⟩, ⟨t0, t1, t2, t3⟩, b, c, d, e, f⟩ := h
  have nx : ∀ j, ¬ (x0 = rv ∧ (j = 5 ∨ j = 6)) := fun j q => zNk t0 t1 (by decide) q.1
  have nc : ∀ j, ¬ (cd = rv ∧ (j = 5 ∨ j = 6)) := fun j q => zNk t3 t1 (by decide) q.1
  have ns : ∀ j, ¬ (sh = rv ∧ (j = 5 ∨ j = 6)) := fun j q => zNk t2 t1 (by decide) q.1
  have nr : ∀ j, j ≠ 5 → j ≠ 6 → ¬ (rv = rv ∧ (j = 5 ∨ j = 6)) := fun j h1 h2 q => by omega
  refine ⟨⟨by rw [g.1 _ _ (nx 2)]; exact a1, by rw [g.1 _ _ (nx 3)]; exact a2, by rw [g.1 _ _ (nr 0 (by decide) (by decide))]; exact a3, by rw [g.1 _ _ (nr 1 (by decide) (by decide))]; exact a4⟩, ⟨t0, t1, t2, t3⟩, fun j hj => by rw [g.1 _ _ (nr j (by omega) (by omega))]; exact b j hj, fun j hj => by rw [g.1 _ _ (nc j)]; exact c j hj, fun j h1 h2 => by rw [g.1 _ _ (ns j)]; exact d j h1 h2, by rw [g.1 _ _ (nx 9)]; exact e, by rw [g.1 _ _ (nx 10)]; exact f⟩
theorem zLay.pv (h : zLay L kd x0 σ.2.2 V ps pc sl) (hr : zT L kd rv 5) (g : zPv L kd V rv σ s) : zLay L kd x0 s.2.2 V ps pc sl := by
  refine h.keep (fun a ha hk => funext (fun j => g.1 a j (fun q => ?_))) (fun j _ => g.1 x0 j (fun q => ?_))
  · rw [q.1, hr.2] at hk
    omega
  · exact zNk h.2.2.2.2.2.1 hr (by decide) q.1
/-- a copy into the tried course -/
theorem zPv.copy (h : zLay L kd x0 σ.2.2 V ps pc sl) {q : Nat} (hq : q < 45) : zPv L kd V rv σ (F_X1_copy (V.1 1) (V.1 q) σ) := by
  obtain ⟨c1, c2, c3, c4⟩ := zCopy h (k := 1) (q := q) (by decide) hq
  exact ⟨fun a j _ => by rw [c1], fun c hc => c4 c hc.2.2⟩
/-- the river takes a text and a course -/
theorem zForm (h : zRv L kd x0 rv sh cd σ.2.2) (t a : Nat) : zPv L kd V rv σ (F_X5_form rv t a σ) ∧ (F_X5_form rv t a σ).2.2 rv 5 = some t ∧ (F_X5_form rv t a σ).2.2 rv 6 = some a := by
  obtain ⟨⟨a1, a2, a3, a4⟩, ⟨t0, t1, t2, t3⟩, b, c, d, e, f⟩ := h
  obtain ⟨s, hs⟩ : ∃ s : zS, s = (σ.1, σ.2.1, zu (zu σ.2.2 rv 5 (some t)) rv 6 (some a)) := ⟨_, rfl⟩
  have ns : ¬ sh = rv := zNk t2 t1 (by decide)
  have g0 : (s.2.2 rv 0).getD 0 = sh := by
    rw [hs]
    show (zu (zu σ.2.2 rv 5 _) rv 6 _ rv 0).getD 0 = sh
    rw [zu_j _ _ _ _ _ (by decide), zu_j _ _ _ _ _ (by decide), a3]
    rfl
  have E : F_X5_form rv t a σ = F_X6_form sh t a s := by
    rw [← g0, hs]
    unfold F_X5_form
    simp only [zlt]
  have sj : ∀ j, (s.2.2 sh j) = σ.2.2 sh j := fun j => by
    rw [hs]
    show zu (zu σ.2.2 rv 5 _) rv 6 _ sh j = _
    rw [zu_n _ _ _ ns, zu_n _ _ _ ns]
  have P : zFr (fun c _ => ¬ zPcl L kd V c) s (F_X6_form sh t a s) := fr_X6_form zFr.id (nPc t2 (by decide)) (fun _ => by rw [sj]; exact nPc (d 1 (by omega) (by omega)) (by decide)) (fun _ => by rw [sj]; exact nPc (d 2 (by omega) (by omega)) (by decide)) (fun _ => by rw [sj]; exact nPc (d 3 (by omega) (by omega)) (by decide)) (fun _ => by rw [sj]; exact nPc (d 6 (by omega) (by omega)) (by decide)) (fun _ => by rw [sj]; exact nPc (d 4 (by omega) (by omega)) (by decide))
  rw [E]
  refine ⟨⟨fun b j n => ?_, fun c hc => ?_⟩, ?_, ?_⟩
  · rw [P.rf, hs]
    show zu (zu σ.2.2 rv 5 _) rv 6 _ b j = _
    by_cases c1 : b = rv
    · subst c1
      rw [zu_j _ _ _ _ _ (fun z => n ⟨rfl, Or.inr z.symm⟩), zu_j _ _ _ _ _ (fun z => n ⟨rfl, Or.inl z.symm⟩)]
    · rw [zu_n _ _ _ c1, zu_n _ _ _ c1]
  · refine (funext (fun j => P.2 c j (fun q => q hc))).trans ?_
    rw [hs]
  · rw [P.rf, hs]
    show zu (zu σ.2.2 rv 5 _) rv 6 _ rv 5 = _
    rw [zu_j _ _ _ _ _ (by decide), zu_s]
  · rw [P.rf, hs]
    show zu (zu σ.2.2 rv 5 _) rv 6 _ rv 6 = _
    rw [zu_s]
theorem zFall (h : zRv L kd x0 rv sh cd s.2.2) (v : Int32) : zFr (fun c _ => ¬ zPcl L kd V c) s (F_X5_fall rv v s) := by
  obtain ⟨⟨a1, a2, a3, a4⟩, ⟨t0, t1, t2, t3⟩, b, c, d, e, f⟩ := h
  have gc : (s.2.2 rv 1).getD 0 = cd := by rw [a4]; rfl
  exact fr_X5_fall zFr.id (fun _ => by rw [gc]; exact nPc (c 0 (Or.inl rfl)) (by decide)) (fun _ => by rw [gc]; exact nPc (c 1 (Or.inr rfl)) (by decide)) (fun _ => nPc (b 2 (by omega)) (by decide)) (fun _ => nPc (b 3 (by omega)) (by decide))
theorem zLook (h : zRv L kd x0 rv sh cd σ.2.2) (t a : Nat) : zPv L kd V rv σ (F_X5_look rv t a σ) ∧ (F_X5_look rv t a σ).2.2 rv 5 = some t ∧ (F_X5_look rv t a σ).2.2 rv 6 = some a := by
  obtain ⟨g1, g2, g3⟩ := zForm (V := V) h t a
  have g := zFall (V := V) (h.keep g1) 0
  unfold F_X5_look
  simp only [zlt]
  exact ⟨g1.tr (zPv.fr g (fun _ _ q => q)), by rw [g.rf]; exact g2, by rw [g.rf]; exact g3⟩
/-- what the tried course's cells are -/
theorem nPt (k : Nat) (h : k = V.1 1 ∨ k = V.2.1 1 ∨ k = V.2.2.1 1 ∨ k = V.2.2.2 1) : ¬ zPcl L kd V k := fun q => q.2.2 h
theorem zGoOn (hl : zLay L kd x0 s.2.2 V ps pc sl) (h : zRv L kd x0 rv sh cd s.2.2) (h6 : s.2.2 rv 6 = some (V.1 1)) : zFr (fun c _ => ¬ zPcl L kd V c) s (F_X5_goOn rv s) := by
  obtain ⟨⟨a1, a2, a3, a4⟩, ⟨t0, t1, t2, t3⟩, b, c, d, e, f⟩ := h
  have gc : (s.2.2 rv 1).getD 0 = cd := by rw [a4]; rfl
  have g6 : (s.2.2 rv 6).getD 0 = V.1 1 := by rw [h6]; rfl
  obtain ⟨q0, q1, q2⟩ := hl.gA (k := 1) (by decide)
  exact fr_X5_goOn zFr.id (fun _ => nPc (b 4 (by omega)) (by decide)) (fun _ => by rw [gc]; exact nPc (c 0 (Or.inl rfl)) (by decide)) (fun _ => by rw [gc]; exact nPc (c 1 (Or.inr rfl)) (by decide)) (fun _ => by rw [g6, q2]; exact nPt _ (Or.inr (Or.inr (Or.inr rfl)))) (fun _ => by rw [g6, q1]; exact nPt _ (Or.inr (Or.inr (Or.inl rfl)))) (by rw [g6]; exact nPt _ (Or.inl rfl)) (fun _ => nPc (b 2 (by omega)) (by decide)) (fun _ => nPc (b 3 (by omega)) (by decide))
theorem zThr (hl : zLay L kd x0 σ.2.2 V ps pc sl) (h : zRv L kd x0 rv sh cd σ.2.2) (t : Nat) (n v : Int32) : zPv L kd V rv σ (F_X5_goThrough rv t (V.1 1) n v σ) := by
  obtain ⟨g1, g2, g3⟩ := zForm (V := V) h t (V.1 1)
  have hl2 := hl.pv h.2.1.2.1 g1
  obtain ⟨⟨a1, a2, a3, a4⟩, ⟨t0, t1, t2, t3⟩, b, c, d, e, f⟩ := h.keep g1
  have gc : ((F_X5_form rv t (V.1 1) σ).2.2 rv 1).getD 0 = cd := by rw [a4]; rfl
  have g6 : ((F_X5_form rv t (V.1 1) σ).2.2 rv 6).getD 0 = V.1 1 := by rw [g3]; rfl
  obtain ⟨q0, q1, q2⟩ := hl2.gA (k := 1) (by decide)
  unfold F_X5_goThrough
  simp only [zlt]
  refine g1.tr (zPv.fr (A := fun c _ => ¬ zPcl L kd V c) ?_ (fun _ _ q => q))
  exact fr_X5_goThrough_9 (fun _ => by rw [gc]; exact nPc (c 0 (Or.inl rfl)) (by decide)) (fun _ => by rw [gc]; exact nPc (c 1 (Or.inr rfl)) (by decide)) (fun _ => nPc (b 2 (by omega)) (by decide)) (fun _ => nPc (b 3 (by omega)) (by decide)) (fun _ => nPc (b 4 (by omega)) (by decide)) (fun _ => by rw [g6, q2]; exact nPt _ (Or.inr (Or.inr (Or.inr rfl)))) (fun _ => by rw [g6, q1]; exact nPt _ (Or.inr (Or.inr (Or.inl rfl)))) (by rw [g6]; exact nPt _ (Or.inl rfl)) 10000 0 _ zFr.id
end ZLAY3
