section AKK
variable {T : zTn} {s : zA} {l c : Int}
/-- a late fault stays, no place more is told -/
def aK (l c : Int) (s : zA) : Prop := (s.2.2.2.1 = 0 → l = 0) ∧ s.2.2.2.2.2.2.1 = c
theorem aK_fail {n : Int} (h : aK l c s) : aK l c (aFail T n s) := by
  unfold aFail
  split
  · exact h
  · exact h
theorem aK_take {w : Int} (h : aK l c s) : aK l c (aTake T w s) := by
  unfold aTake
  split
  · exact h
  · split
    · exact aK_fail h
    · split
      · exact aK_fail h
      · exact h
theorem aK_late {n : Int} (hn : n ≠ 0) (h : aK l c s) : aK l c (aLate T n s) := by
  unfold aLate
  split
  · exact h
  · split
    · exact h
    · exact ⟨fun z => absurd z hn, h.2⟩
theorem aK_new (h : aK l c s) : aK l c (aNew T s) := by
  unfold aNew
  split
  · exact aK_take (aK_late (by decide) h)
  · exact aK_take h
theorem aK_known (h : aK l c s) : aK l c (aKnown T s) := by
  unfold aKnown
  split
  · exact aK_take (aK_late (by decide) h)
  · exact aK_take h
theorem aK_numb {lo hi : Int} (h : aK l c s) : aK l c (aNumb T lo hi s) := by
  unfold aNumb
  split
  · exact aK_take (aK_late (by decide) h)
  · exact aK_take h
theorem aK_E : ∀ (n : Nat) (b : Bool) (o : Int) (s : zA), aK l c s → aK l c (aE T n b o s) := by
  intro n
  induction n with
  | zero => intro b o s h; rw [aE]; exact h
  | succ n ih =>
    intro b o s h
    cases b with
    | true =>
      rw [aE]
      (repeat' split) <;> first | exact h | exact ih _ _ _ (aK_take h) | exact aK_fail h
    | false =>
      rw [aE]
      (repeat' split) <;> first | exact h | exact ih _ _ _ (aK_take h) | exact aK_fail h
theorem aK_sum (h : aK l c s) : aK l c (aSum T s) := aK_E _ _ _ _ h
theorem aK_if {n : Int} (h : aK l c s) : aK l c (aIf T n s) := by
  unfold aIf
  refine aK_take (aK_sum (aK_take (aK_sum (aK_take (aK_sum (aK_take ?_))))))
  split
  · exact aK_fail h
  · exact h
theorem aK_lw : ∀ (k : Nat) (n : Int) (s : zA), aK l c s → aK l c (aLw T k n s) := by
  intro k
  induction k with
  | zero => intro n s h; exact h
  | succ k ih =>
    intro n s h
    rw [aLw]
    split
    · exact ih _ _ (aK_if h)
    · exact aK_sum h
theorem aK_mouth (h : aK l c s) : aK l c (aMouth T s) := by
  have k : ∀ s0 : zA, aK l c s0 → aK l c (if (aNew T (aTake T 0 s0)).1 = 0 then aSetM (aNew T (aTake T 0 s0)) (T.2.1 (aTake T 0 s0).2.2.1) else aNew T (aTake T 0 s0)) := fun s0 h0 => by
    have h2 : aK l c (aNew T (aTake T 0 s0)) := aK_new (aK_take h0)
    split
    · exact h2
    · exact h2
  unfold aMouth
  refine k _ ?_
  split
  · exact aK_fail h
  · exact h
theorem aK_tell (h : aK l c s) (ht : T.1 s.2.2.1 ≠ 1) : aK l c (aTell T s) := by
  unfold aTell
  refine aK_take ?_
  split
  · exact aK_mouth h
  · split
    · exact aK_lw _ _ _ (aK_take (aK_take h))
    · split
      · exact aK_numb (aK_numb (aK_take h))
      · split
        · exact aK_numb (aK_take h)
        · split
          · exact aK_numb (aK_take h)
          · exact aK_fail h
end AKK
section TLG
variable {P tk kA vA qA tt N m : Nat} {T : zTn} {σ σ' τ : zS} {s s' : zA} {W : Nat → Nat} {g : zGa}
theorem zVg.st (hg : zVg W σ s g) (hs : s'.1 = 0 → s.1 = 0) (hk : aK s.2.2.2.1 s.2.2.2.2.2.2.1 s') (hr : ∀ j, 2 ≤ j → j ≤ 5 → ∀ p, 1 ≤ p → σ'.1 (W j) p = σ.1 (W j) p) : zVg W σ' s' g := by
  intro q l p h1 h2
  rw [hr 2 (by omega) (by omega) p h1, hr 3 (by omega) (by omega) p h1, hr 4 (by omega) (by omega) p h1, hr 5 (by omega) (by omega) p h1]
  exact hg (hs q) (hk.1 l) p h1 (by rw [← hk.2]; exact h2)
theorem zVg.take {w : Int32} {n : Int} (hW : zWz W P tt σ.2.2) (hg : zVg W σ s g) : zVg W (F_X3_take P w σ) (aTake T n s) g := by
  have A1 : zFi (fun c _ => c = P) σ (F_X3_take P w σ) := fi_X3_take zFi.id rfl rfl rfl rfl rfl
  exact hg.st (fun q => (aTake_i q).1) (aK_take ⟨id, rfl⟩) (fun j h1 h2 p _ => A1.2 _ _ (hW.1 j h1 h2).2)
/-- the mouth is told in place 0 alone -/
theorem mouthR (h : zV P tk kA vA qA tt N m T σ s) (hW : zWz W P tt σ.2.2) : ∀ j, 2 ≤ j → j ≤ 5 → ∀ p, 1 ≤ p → (F_X3_mouth P σ).1 (W j) p = σ.1 (W j) p := by
  intro j h1 h2 p hp
  have tP : (σ.2.2 P 1).getD 0 = tt := by rw [h.1.1.2.1]; rfl
  have nP := (hW.1 j h1 h2).2
  have fin : ∀ (s6 : zS) (v : Int64), zFi (fun c _ => c = P) σ s6 → (F_X9_setPlace ((s6.2.2 P 1).getD 0) 0 0 0 0 0 (zu s6.1 P 6 (1 : Int32), zu s6.2.1 ((s6.2.2 ((s6.2.2 P 1).getD 0) 1).getD 0) (0 : Int32).toNatClampNeg v, s6.2.2)).1 (W j) p = σ.1 (W j) p := fun s6 v A => by
    rw [A.1, tP, setPV (W := W) (P := P) (τ := (zu s6.1 P 6 (1 : Int32), zu s6.2.1 ((σ.2.2 tt 1).getD 0) (0 : Int32).toNatClampNeg v, σ.2.2)) (n := 0) hW (by decide) (by decide)]
    have z : ∀ (f : Nat → Nat → Int32) (k : Nat) (v : Int32), zu f (W k) 0 v (W j) p = f (W j) p := fun f k v => by
      unfold zu
      split
      · next e => rw [if_neg (by omega), e]
      · rfl
    rw [z, z, z, z]
    show zu s6.1 P 6 1 (W j) p = _
    rw [zu_n _ _ _ nP]
    exact A.2 _ _ nP
  have A0 : ∀ s4, zFi (fun c _ => c = P) σ s4 → zFi (fun c _ => c = P) σ (F_X3_newName P s4).2 := fun s4 A => fi_X3_newName A rfl rfl rfl rfl rfl rfl rfl
  unfold F_X3_mouth
  simp only [zlt, zlt2]
  split
  · have A1 : zFi (fun c _ => c = P) σ (F_X3_take P 0 σ) := fi_X3_take zFi.id rfl rfl rfl rfl rfl
    split
    · exact fin _ _ (A0 _ A1)
    · exact (A0 _ A1).2 _ _ nP
  · have A1 : zFi (fun c _ => c = P) σ (F_X3_take P 0 (F_X3_fail P 2 σ)) := fi_X3_take (fi_X3_fail zFi.id rfl rfl rfl) rfl rfl rfl rfl rfl
    split
    · exact fin _ _ (A0 _ A1)
    · exact (A0 _ A1).2 _ _ nP
end TLG
