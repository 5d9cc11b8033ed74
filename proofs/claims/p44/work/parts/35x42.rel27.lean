section RTG5
variable {a k q v nm nO m b : Nat} {T : zTn} {τ τ' : zS} {s s' : zA} {Y : Nat → Nat} {g : zGa}
/-- what a telling writes beside places' rows: numbers of its own, rows of other slots -/
def aFq (Y : Nat → Nat) (a : Nat) : Nat → Nat → Prop := fun c j => (c = a ∧ j ≠ 19 ∧ j ≠ 41 ∧ j ≠ 42) ∨ ∃ i, zQs i ∧ 26 ≤ i ∧ c = Y i
theorem aFq.r (hY : zYz Y a τ.2.2) {t t' : zS} (h : zFi (aFq Y a) t t') {j : Nat} (j1 : 21 ≤ j) (j2 : j ≤ 25) : t'.1 (Y j) = t.1 (Y j) := funext (fun i => h.2 _ _ (by
  rintro (z | ⟨i2, z1, z2, z3⟩)
  · exact hY.n.2 j j1 j2 z.1
  · exact hY.2 j i2 (by unfold zQs; omega) z1 (by omega) z3))
theorem aFq.on : zFi (aFq Y a) τ (F_X11_goesOn a τ) := fi_X11_goesOn zFi.id (Or.inl ⟨rfl, by decide⟩) (Or.inl ⟨rfl, by decide⟩) (Or.inl ⟨rfl, by decide⟩)
theorem aFq.mu {t : zS} (h : zFi (aFq Y a) τ t) (p : Int32) : zFi (aFq Y a) τ (F_X11_must a p t) := fi_X11_must h (Or.inl ⟨rfl, by decide⟩) (Or.inl ⟨rfl, by decide⟩) (Or.inl ⟨rfl, by decide⟩)
theorem aFq.b1 (hY : zYz Y a τ.2.2) {t : zS} (h : zFi (aFq Y a) τ t) {j : Nat} (hj : zQs j) (h26 : 26 ≤ j) (lo hi : Int32) : zFi (aFq Y a) τ (mB1 a j lo hi t) := by
  have e : (t.2.2 a j).getD 0 = Y j := by rw [h.1]; exact (hY.1 j hj).1
  have f : zFj (aFq Y a) τ (F_X11_bounded a lo hi t) := fi_X11_bounded h (Or.inl ⟨rfl, by decide⟩) (Or.inl ⟨rfl, by decide⟩) (Or.inl ⟨rfl, by decide⟩) (Or.inl ⟨rfl, by decide⟩) (Or.inl ⟨rfl, by decide⟩)
  unfold mB1
  rw [e]
  exact zFi.w (s := (F_X11_bounded a lo hi t).2) f (Or.inr ⟨j, hj, h26, rfl⟩)
theorem aFq.law (hY : zYz Y a τ.2.2) {t : zS} (h : zFi (aFq Y a) τ t) (p : Int32) : zFi (aFq Y a) τ (F_X11_tellLaw a p t) := by
  have r : ∀ j, zQs j → 26 ≤ j → ∀ i : Nat, aFq Y a ((τ.2.2 a j).getD 0) i := fun j hj h26 i => Or.inr ⟨j, hj, h26, (hY.1 j hj).1⟩
  have o : ∀ j, j ≠ 19 ∧ j ≠ 41 ∧ j ≠ 42 → aFq Y a a j := fun j hj => Or.inl ⟨rfl, hj⟩
  have q : ∀ j, (j = 30 ∨ j = 31 ∨ j = 33 ∨ j = 34 ∨ j = 35 ∨ j = 36 ∨ j = 37 ∨ j = 39 ∨ j = 40 ∨ j = 43) → zQs j := fun j hj => by unfold zQs; omega
  exact fi_X11_tellLaw h (o 13 (by decide)) (o 14 (by decide)) (o 11 (by decide)) (r 33 (q _ (by decide)) (by decide)) (r 36 (q _ (by decide)) (by decide)) (o 44 (by decide)) (r 39 (q _ (by decide)) (by decide)) (r 40 (q _ (by decide)) (by decide)) (o 38 (by decide)) (r 43 (q _ (by decide)) (by decide)) (o 12 (by decide)) (r 37 (q _ (by decide)) (by decide)) (o 32 (by decide)) (r 30 (q _ (by decide)) (by decide)) (r 31 (q _ (by decide)) (by decide)) (r 34 (q _ (by decide)) (by decide)) (r 35 (q _ (by decide)) (by decide))
theorem aF.on : zFi (aF a) τ (F_X11_goesOn a τ) := fi_X11_goesOn zFi.id ⟨rfl, by decide⟩ ⟨rfl, by decide⟩ ⟨rfl, by decide⟩
/-- the mouth is not told anew but by its own telling -/
def aM (c : Int) (s : zA) : Prop := s.2.2.2.2.2.1 = c
theorem aM_fail {c n : Int} (h : aM c s) : aM c (aFail T n s) := by
  unfold aFail
  split
  · exact h
  · exact h
theorem aM_take {c w : Int} (h : aM c s) : aM c (aTake T w s) := by
  unfold aTake
  split
  · exact h
  · split
    · exact aM_fail h
    · split
      · exact aM_fail h
      · exact h
theorem aM_late {c n : Int} (h : aM c s) : aM c (aLate T n s) := by
  unfold aLate
  split
  · exact h
  · split
    · exact h
    · exact h
theorem aM_numb {c lo hi : Int} (h : aM c s) : aM c (aNumb T lo hi s) := by
  unfold aNumb
  split
  · exact aM_take (aM_late h)
  · exact aM_take h
theorem aM_E {c : Int} : ∀ (n : Nat) (b : Bool) (o : Int) (s : zA), aM c s → aM c (aE T n b o s) := by
  intro n
  induction n with
  | zero => intro b o s h; rw [aE]; exact h
  | succ n ih =>
    intro b o s h
    cases b with
    | true =>
      rw [aE]
      (repeat' split) <;> first | exact h | exact ih _ _ _ (aM_take h) | exact aM_fail h
    | false =>
      rw [aE]
      (repeat' split) <;> first | exact h | exact ih _ _ _ (aM_take h) | exact aM_fail h
theorem aM_sum {c : Int} (h : aM c s) : aM c (aSum T s) := aM_E _ _ _ _ h
theorem aM_if {c n : Int} (h : aM c s) : aM c (aIf T n s) := by
  unfold aIf
  refine aM_take (aM_sum (aM_take (aM_sum (aM_take (aM_sum (aM_take ?_))))))
  split
  · exact aM_fail h
  · exact h
theorem aM_lw {c : Int} : ∀ (k : Nat) (n : Int) (s : zA), aM c s → aM c (aLw T k n s) := by
  intro k
  induction k with
  | zero => intro n s h; exact h
  | succ k ih =>
    intro n s h
    rw [aLw]
    split
    · exact ih _ _ (aM_if h)
    · exact aM_sum h
theorem aM_tell {c : Int} (h : aM c s) (h0 : T.1 s.2.2.1 ≠ 0) (h1 : T.1 s.2.2.1 ≠ 1) : aM c (aTell T s) := by
  unfold aTell
  refine aM_take ?_
  rw [if_neg h0, if_neg h1]
  split
  · exact aM_lw _ _ _ (aM_take (aM_take h))
  · split
    · exact aM_numb (aM_numb (aM_take h))
    · split
      · exact aM_numb (aM_take h)
      · split
        · exact aM_numb (aM_take h)
        · exact aM_fail h
set_option maxHeartbeats 1000000 in
/-- one telling, the reference's side -/
theorem xTellG (hd : zWd a k q v nm nO) (hT : zTm T m) (hK : zTK T m) (h : zXo a k q v nm nO m T τ s) (hs : s.1 = 0) (hY : zYz Y a τ.2.2) (hb : (τ.1 a 19).toInt = b) (hb1 : b ≤ 1) (hg : zXg Y b τ s g) : zXg Y b (F_X11_tellOne a τ) (aTell T s) (aG T s g) := by
  obtain ⟨D1, D2, D3, D4, D5, D6, D7, D8, D9⟩ := xDisp hd hT hK h hs
  have X := xTell hd hT hK h hs
  have rg := hT.2.1 _ (h.1.2.2.2.2 hs).1
  have ron : (F_X11_goesOn a τ).2.2 = τ.2.2 := (aF.on (a := a) (τ := τ)).1
  have h19 : ((F_X11_goesOn a τ).1 a 19).toInt = b := by rw [aF.sv aF.on]; exact hb
  have f2 : 0 < ((F_X11_fail a 2 τ).1 a 13).toInt := by
    have p2 := xFail hd h 2 2 (by decide) (by decide)
    have f : (aFail T 2 s).1 ≠ 0 := aFail_1 (by decide)
    have := p2.1.2.1
    have := p2.1.2.2.1
    omega
  have f1 : 0 < ((F_X11_fail a 1 τ).1 a 13).toInt := by
    have p2 := xFail hd h 1 1 (by decide) (by decide)
    have f : (aFail T 1 s).1 ≠ 0 := aFail_1 (by decide)
    have := p2.1.2.1
    have := p2.1.2.2.1
    omega
  have on : ∀ w : Int, zXg Y b (F_X11_goesOn a τ) (aTake T w s) g := fun w => hg.st (fun z => (aTake_i z).1) (aK_take ⟨id, rfl⟩) (fun _ => aM_take (c := s.2.2.2.2.2.1) rfl) (fun j j1 j2 => aFq.r hY aFq.on j1 j2)
  by_cases c0 : T.1 s.2.2.1 = 0
  · have eg : aG T s g = g := by unfold aG; rw [if_neg (fun z => by omega)]
    rw [eg]
    by_cases cm : s.2.2.2.2.2.1 = 0
    · rw [D1 c0 cm]
      have H := xMouthG hd hT hK (xOn hd hT hK h 0 (fun _ => c0) (by decide)) (by rw [ron]; exact hY) h19 hb1 (fun _ => (aM_take (c := s.2.2.2.2.2.1) rfl : aM _ (aTake T 0 s)).trans cm) (on 0)
      unfold aTell aMouth
      rw [if_pos c0, if_neg (zne cm)]
      exact H
    · exact zXg.fl (congrArg (fun z => z.1 a 13) (D2 c0 cm)) X f2
  · by_cases c1 : T.1 s.2.2.1 = 1
    · by_cases cm : s.2.2.2.2.2.2.1 = 11
      · exact zXg.fl (congrArg (fun z => z.1 a 13) (D4 c1 cm)) X f2
      · have e1 : aPlace1 T s = aTake T 1 s := by
          have := (h.1.2.2.2.2 hs).2.2.2.2.2.2.2.1
          unfold aPlace1
          rw [if_neg (by omega)]
        have ec : (aTake T 1 s).2.2.2.2.2.2.1 = s.2.2.2.2.2.2.1 := (aK_take (l := s.2.2.2.1) (c := s.2.2.2.2.2.2.1) ⟨id, rfl⟩).2
        have H := xPlaceG hd hT hK (xOn hd hT hK h 1 (fun _ => c1) (by decide)) (fun _ => by have := (h.1.2.2.2.2 hs).2.2.2.2.2.2.2.1; omega) (by rw [ron]; exact hY) h19 hb1 (on 1)
        intro hq l
        have hp : (aPlace T s).1 = 0 := by
          have hq' := hq
          unfold aTell at hq'
          rw [if_neg c0, if_pos c1] at hq'
          exact (aTake_i hq').1
        have eg : aG T s g = fun p : Nat => if (p : Int) = (aTake T 1 s).2.2.2.2.2.2.1 + 1 then aVals T (aTake T 1 s) else g p := by
          unfold aG
          rw [if_pos ⟨c1, hp⟩, e1, ec]
        rw [eg, D3 c1 cm]
        have et : aTell T s = aTake T 24 (if (aPlace2 T (aTake T 1 s)).1 = 0 ∧ (aPlace2 T (aTake T 1 s)).2.2.2.2.2.2.1 < 11 then aSetP (aPlace2 T (aTake T 1 s)) (T.2.1 (aTake T 1 s).2.2.1) else aPlace2 T (aTake T 1 s)) := by
          unfold aTell aPlace
          rw [if_neg c0, if_pos c1, e1]
        rw [et] at hq l ⊢
        exact H hq l
    · have eg : aG T s g = g := by unfold aG; rw [if_neg (fun z => c1 z.1)]
      rw [eg]
      have fin : ∀ t', F_X11_tellOne a τ = t' → zFi (aFq Y a) τ t' → zXg Y b (F_X11_tellOne a τ) (aTell T s) g := fun t' e f => by
        rw [e]
        exact hg.st (fun _ => hs) (aK_tell ⟨id, rfl⟩ c1) (fun _ => aM_tell (c := s.2.2.2.2.2.1) rfl c0 c1) (fun j j1 j2 => aFq.r hY f j1 j2)
      by_cases c6 : T.1 s.2.2.1 ≤ 6
      · obtain ⟨p, -, e⟩ := D5 (by omega) c6
        exact fin _ e (aFq.law hY aFq.on p)
      · by_cases c7 : T.1 s.2.2.1 = 7
        · exact fin _ (D6 c7) (aFq.mu (aFq.b1 hY (aFq.b1 hY aFq.on (by unfold zQs; omega) (by decide) _ _) (by unfold zQs; omega) (by decide) _ _) _)
        · by_cases c8 : T.1 s.2.2.1 = 8
          · exact fin _ (D7 c8) (aFq.mu (aFq.b1 hY aFq.on (by unfold zQs; omega) (by decide) _ _) _)
          · by_cases c9 : T.1 s.2.2.1 = 9
            · exact fin _ (D8 c9) (aFq.mu (aFq.b1 hY aFq.on (by unfold zQs; omega) (by decide) _ _) _)
            · exact zXg.fl (congrArg (fun z => z.1 a 13) (D9 (by omega))) X f1
end RTG5
