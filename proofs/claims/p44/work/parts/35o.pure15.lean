/-! ONE TELLING; the whole text -/
def aTell (T : zTn) (s : zA) : zA := aTake T 24 (if T.1 s.2.2.1 = 0 then aMouth T s else if T.1 s.2.2.1 = 1 then aPlace T s else if 2 ≤ T.1 s.2.2.1 ∧ T.1 s.2.2.1 ≤ 6 then aLaw T (T.1 s.2.2.1 - 2) s else if T.1 s.2.2.1 = 7 then aNumb T 0 99 (aNumb T 0 100 (aTake T 7 s)) else if T.1 s.2.2.1 = 8 then aNumb T 0 99 (aTake T 8 s) else if T.1 s.2.2.1 = 9 then aNumb T 0 9999 (aTake T 9 s) else aFail T 1 s)
def aRun (T : zTn) : Nat → zA → zA
  | 0, s => s
  | n + 1, s => if s.1 ≠ 0 then s else if T.1 s.2.2.1 = 33 then s else aRun T n (aTell T s)
def aAns (s : zA) : Int := if s.1 ≠ 0 then s.1 else s.2.2.2.1
def aPos (s : zA) : Int := if s.1 ≠ 0 then s.2.1 else s.2.2.2.2.1
section AM
variable {T : zTn} {s : zA}
theorem mFail (n : Int) : s.2.2.1 ≤ (aFail T n s).2.2.1 := by
  unfold aFail
  split <;> exact Nat.le_refl _
theorem mTake (w : Int) : s.2.2.1 ≤ (aTake T w s).2.2.1 := by
  unfold aTake
  split
  · exact Nat.le_refl _
  · split
    · exact mFail _
    · split
      · exact mFail _
      · exact Nat.le_succ _
theorem mLate (n : Int) : s.2.2.1 ≤ (aLate T n s).2.2.1 := by rw [(aLate_s n).2.2]; exact Nat.le_refl _
theorem mNew : s.2.2.1 ≤ (aNew T s).2.2.1 := by
  unfold aNew
  split
  · exact Nat.le_trans (mLate 3) (mTake _)
  · exact mTake _
theorem mKnown : s.2.2.1 ≤ (aKnown T s).2.2.1 := by
  unfold aKnown
  split
  · exact Nat.le_trans (mLate 4) (mTake _)
  · exact mTake _
theorem mNumb (lo hi : Int) : s.2.2.1 ≤ (aNumb T lo hi s).2.2.1 := by
  unfold aNumb
  split
  · exact Nat.le_trans (mLate 5) (mTake _)
  · exact mTake _
theorem mE : ∀ (n : Nat) (b : Bool) (o : Int) (s : zA), s.2.2.1 ≤ (aE T n b o s).2.2.1 := by
  intro n
  induction n with
  | zero => intro b o s; rw [aE]; exact Nat.le_refl _
  | succ n ih =>
    intro b o s
    cases b with
    | true =>
      rw [aE]
      split
      · exact Nat.le_refl _
      · split
        · exact Nat.le_trans (mTake _) (ih _ _ _)
        · split
          · exact Nat.le_trans (mTake _) (ih _ _ _)
          · exact mFail _
    | false =>
      rw [aE]
      split
      · exact Nat.le_refl _
      · split
        · exact Nat.le_trans (mTake _) (ih _ _ _)
        · split
          · split
            · exact Nat.le_trans (mTake _) (ih _ _ _)
            · exact mFail _
          · exact Nat.le_refl _
theorem mSum : s.2.2.1 ≤ (aSum T s).2.2.1 := mE _ _ _ _
theorem mIf (n : Int) : s.2.2.1 ≤ (aIf T n s).2.2.1 := by
  unfold aIf
  have h : s.2.2.1 ≤ (if n = 4 then aFail T 2 s else s).2.2.1 := by
    split
    · exact mFail _
    · exact Nat.le_refl _
  exact Nat.le_trans h (Nat.le_trans (mTake 10) (Nat.le_trans mSum (Nat.le_trans (mTake 30) (Nat.le_trans mSum (Nat.le_trans (mTake 11) (Nat.le_trans mSum (mTake 12)))))))
theorem mLw : ∀ (k : Nat) (n : Int) (s : zA), s.2.2.1 ≤ (aLw T k n s).2.2.1 := by
  intro k
  induction k with
  | zero => intro n s; exact Nat.le_refl _
  | succ k ih =>
    intro n s
    rw [aLw]
    split
    · exact Nat.le_trans (mIf n) (ih _ _)
    · exact mSum
theorem mMouth : s.2.2.1 ≤ (aMouth T s).2.2.1 := by
  have h : s.2.2.1 ≤ (if s.2.2.2.2.2.1 ≠ 0 then aFail T 2 s else s).2.2.1 := by
    split
    · exact mFail _
    · exact Nat.le_refl _
  have k : ∀ s0 : zA, s.2.2.1 ≤ s0.2.2.1 → s.2.2.1 ≤ (if (aNew T (aTake T 0 s0)).1 = 0 then aSetM (aNew T (aTake T 0 s0)) (T.2.1 (aTake T 0 s0).2.2.1) else aNew T (aTake T 0 s0)).2.2.1 := fun s0 h0 => by
    have h2 := Nat.le_trans h0 (Nat.le_trans (mTake (T := T) 0) (mNew (T := T)))
    split
    · exact h2
    · exact h2
  unfold aMouth
  exact k _ h
theorem mPlace : s.2.2.1 ≤ (aPlace T s).2.2.1 := by
  have h : s.2.2.1 ≤ (if 11 ≤ s.2.2.2.2.2.2.1 then aFail T 2 s else s).2.2.1 := by
    split
    · exact mFail _
    · exact Nat.le_refl _
  have h2 : s.2.2.1 ≤ (aPlace2 T (aPlace1 T s)).2.2.1 := Nat.le_trans h (Nat.le_trans (mTake (T := T) 1) (Nat.le_trans mNew (Nat.le_trans mKnown (Nat.le_trans (mNumb 1 99) (Nat.le_trans (mNumb 0 99) (mNumb 0 99))))))
  unfold aPlace
  split
  · exact h2
  · exact h2
theorem aTell_i (h : (aTell T s).1 = 0) : s.2.2.1 < (aTell T s).2.2.1 := by
  unfold aTell at h ⊢
  have q := aTake_i h
  rw [q.2.2.1]
  refine Nat.lt_succ_of_le ?_
  split
  · exact mMouth
  · split
    · exact mPlace
    · split
      · exact Nat.le_trans (mTake _) (Nat.le_trans (mTake _) (mLw _ _ _))
      · split
        · exact Nat.le_trans (mTake _) (Nat.le_trans (mNumb _ _) (mNumb _ _))
        · split
          · exact Nat.le_trans (mTake _) (mNumb _ _)
          · split
            · exact Nat.le_trans (mTake _) (mNumb _ _)
            · exact mFail _
end AM
section ZV5
variable {P tk kA vA qA tt N m : Nat} {T : zTn} {σ σ' : zS} {s : zA}
theorem vNumb' (hd : zVd P tk kA vA qA N) (hT : zTK T m) (h : zV P tk kA vA qA tt N m T σ s) (lo hi : Int32) (l u : Int) (e1 : lo.toInt = l) (e2 : hi.toInt = u) : ∃ x : Int32, ∃ σ' : zS, F_X3_number P lo hi σ = (x, σ') ∧ zV P tk kA vA qA tt N m T σ' (aNumb T l u s) := by
  subst e1 e2
  exact vNumb hd hT h lo hi
theorem vTell (hd : zVd P tk kA vA qA N) (hT : zTK T m) (h : zV P tk kA vA qA tt N m T σ s) (hs : s.1 = 0) : zV P tk kA vA qA tt N m T (F_X3_telling P σ) (aTell T s) := by
  have r3 := (h.2.2.2 hs).2.2.1
  have e1 : (1 : Int32).toInt = 1 := by decide
  have e2 : (2 : Int32).toInt = 2 := by decide
  have e6 : (6 : Int32).toInt = 6 := by decide
  have e7 : (7 : Int32).toInt = 7 := by decide
  have e8 : (8 : Int32).toInt = 8 := by decide
  have e9 : (9 : Int32).toInt = 9 := by decide
  have end24 : ∀ (τ : zS) (s1 : zA), zV P tk kA vA qA tt N m T τ s1 → zV P tk kA vA qA tt N m T (F_X3_take P 24 τ) (aTake T 24 s1) := fun τ s1 h1 => vTake' hd hT h1 24 24 (by decide) (by decide)
  unfold F_X3_telling aTell
  simp only [zlt, zlt2, zwi, r3, e1, e2, e6, e7, e8, e9]
  by_cases c0 : T.1 s.2.2.1 = 0
  · rw [if_pos c0, if_pos c0]
    exact end24 _ _ (vMouth hd hT h hs)
  rw [if_neg c0, if_neg c0]
  by_cases c1 : T.1 s.2.2.1 = 1
  · rw [if_pos c1, if_pos c1]
    exact end24 _ _ (vPlace hd hT h hs)
  rw [if_neg c1, if_neg c1]
  by_cases c2 : 2 ≤ T.1 s.2.2.1 ∧ T.1 s.2.2.1 ≤ 6
  · rw [if_neg (fun z => z c2), if_pos c2]
    have e : (σ.1 P 3 - (2 : Int32)).toInt = T.1 s.2.2.1 - 2 := by rw [zb_sub (by rw [r3, e2]; omega) (by rw [r3, e2]; omega), r3, e2]
    have q := vLaw hd hT h (σ.1 P 3 - (2 : Int32)) (by rw [e]; omega)
    rw [e] at q
    exact end24 _ _ q
  rw [if_pos c2, if_neg c2]
  by_cases c7 : T.1 s.2.2.1 = 7
  · rw [if_pos c7, if_pos c7]
    have a1 := vTake' hd hT h (σ.1 P 3) 7 (r3.trans c7) (by decide)
    have t1 := vtt a1
    obtain ⟨x, σ1, p1, p2⟩ := vNumb' hd hT a1 0 100 0 100 (by decide) (by decide)
    have t2 : (σ1.2.2 P 1).getD 0 = tt := vtt p2
    obtain ⟨x2, σ2, q1, q2⟩ := vNumb' hd hT (vPutT p2 10 x) 0 99 0 99 (by decide) (by decide)
    simp only [t1, p1, t2, q1]
    exact end24 _ _ (vPutT q2 11 x2)
  rw [if_neg c7, if_neg c7]
  by_cases c8 : T.1 s.2.2.1 = 8
  · rw [if_pos c8, if_pos c8]
    have a1 := vTake' hd hT h (σ.1 P 3) 8 (r3.trans c8) (by decide)
    have t1 := vtt a1
    obtain ⟨x, σ1, p1, p2⟩ := vNumb' hd hT a1 0 99 0 99 (by decide) (by decide)
    simp only [t1, p1]
    exact end24 _ _ (vPutT p2 12 x)
  rw [if_neg c8, if_neg c8]
  by_cases c9 : T.1 s.2.2.1 = 9
  · rw [if_pos c9, if_pos c9]
    have a1 := vTake' hd hT h (σ.1 P 3) 9 (r3.trans c9) (by decide)
    have t1 := vtt a1
    obtain ⟨x, σ1, p1, p2⟩ := vNumb' hd hT a1 0 9999 0 9999 (by decide) (by decide)
    simp only [t1, p1]
    exact end24 _ _ (vPutT p2 13 x)
  rw [if_neg c9, if_neg c9]
  exact end24 _ _ (vFail' hd h 1 1 (by decide) (by decide))
/-- the parser's loop: its answer, and the place -/
theorem vParse (hd : zVd P tk kA vA qA N) (hT : zTK T m) {p1 p3 : Nat} {p2 : Int32} : ∀ (n : Nat) (x : Int32) (j : Nat) (τ : zS) (s : zA), x.toInt = j → j ≤ 401 → 401 - j < n → zV P tk kA vA qA tt N m T τ s → (s.1 = 0 → j ≤ s.2.2.1) → ∀ l, 401 - j < l → (F_X3_parse_59 P p1 p2 p3 n x τ).1.toInt = aAns (aRun T l s) ∧ ((F_X3_parse_59 P p1 p2 p3 n x τ).2.1 P 9).toInt = aPos (aRun T l s) := by
  intro n
  induction n with
  | zero => intro x j τ s _ _ h; exact absurd h (by omega)
  | succ n ih =>
    intro x j τ s hx hj hm h hz l hl
    obtain ⟨l, rfl⟩ : ∃ q, l = q + 1 := ⟨l - 1, by omega⟩
    have e400 : (400 : Int32).toInt = 400 := by decide
    have e33 : (33 : Int32).toInt = 33 := by decide
    have t0 := vtt h
    have tP : tt ≠ P := h.1.2.2.2.1.1
    rw [F_X3_parse_59]
    simp only [zlt, e400, e33, t0]
    have f8 : ∀ (x y z : Int32), zu (zu (zu τ.1 P 8 x) P 9 y) tt 0 z P 8 = x := fun x y z => by rw [zu_n _ _ _ (fun w => tP w.symm), zu_j _ _ _ _ _ (by decide), zu_s]
    have f9 : ∀ (x y z : Int32), zu (zu (zu τ.1 P 8 x) P 9 y) tt 0 z P 9 = y := fun x y z => by rw [zu_n _ _ _ (fun w => tP w.symm), zu_s]
    have g8 : ∀ (z : Int32), zu τ.1 tt 0 z P 8 = τ.1 P 8 := fun z => by rw [zu_n _ _ _ (fun w => tP w.symm)]
    have g9 : ∀ (z : Int32), zu τ.1 tt 0 z P 9 = τ.1 P 9 := fun z => by rw [zu_n _ _ _ (fun w => tP w.symm)]
    have w11 : zu τ.1 P 8 (τ.1 P 10) P 11 = τ.1 P 11 := zu_j _ _ _ _ _ (by decide)
    by_cases c : s.1 = 0
    · obtain ⟨r1, r2, r3, r4, r5, r6, r7, -⟩ := h.2.2.2 c
      have rk := hT.2.1
      have hj2 := hz c
      have c8 := h.2.1.trans c
      rw [if_neg (by omega), if_pos c8, r3]
      by_cases c1 : T.1 s.2.2.1 = 33
      · have ea : aRun T (l + 1) s = s := by rw [aRun, if_neg (zne c), if_pos c1]
        rw [if_pos c1, ea]
        unfold aAns aPos
        rw [if_neg (zne c), if_neg (zne c), if_pos c8]
        split
        · simp only [f8, f9, w11]
          exact ⟨r6, r7⟩
        · simp only [f8, f9, w11]
          exact ⟨r6, r7⟩
      · have ea : aRun T (l + 1) s = aRun T l (aTell T s) := by rw [aRun, if_neg (zne c), if_neg c1]
        rw [if_neg c1, ea]
        exact ih _ (j + 1) _ _ (zp1 hx (by omega)) (by omega) (by omega) (vTell hd hT h c) (fun z => by have := aTell_i z; omega) l (by omega)
    · have ea : aRun T (l + 1) s = s := by rw [aRun, if_pos c]
      have c8 : ¬ (τ.1 P 8).toInt = 0 := fun z => c (h.2.1.symm.trans z)
      rw [ea]
      unfold aAns aPos
      rw [if_pos c, if_pos c]
      split
      · split
        · simp only [g8, g9]
          exact ⟨h.2.1, (h.2.2.1 c).1⟩
        · simp only [g8, g9]
          exact ⟨h.2.1, (h.2.2.1 c).1⟩
      · split
        · simp only [g8, g9]
          exact ⟨h.2.1, (h.2.2.1 c).1⟩
        · simp only [g8, g9]
          exact ⟨h.2.1, (h.2.2.1 c).1⟩
end ZV5
