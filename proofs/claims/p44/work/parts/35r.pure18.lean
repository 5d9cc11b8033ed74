section ZW7
variable {a k q v nm nO m : Nat} {T : zTn} {τ τ' : zS} {s s' : zA}
theorem w224 {K : Int32 → zS → Int32 × zS} {K2 : zS → Int32 × zS} : ∀ (n : Nat) (x : Int32) (j : Nat) (τ : zS), x.toInt = j → j ≤ 3 → 3 - j < n → (F_X11_read_224 a K K2 n x τ).1.toInt = 0 ∧ ((τ.2.2 a 67).getD 0 ≠ a → (F_X11_read_224 a K K2 n x τ).2.1 a 17 = τ.1 a 17) := by
  intro n
  induction n with
  | zero => intro x j τ _ _ h; exact absurd h (by omega)
  | succ n ih =>
    intro x j τ hx hj hm
    have e3 : (3 : Int32).toInt = 3 := by decide
    rw [F_X11_read_224]
    simp only [zlt, e3]
    by_cases c : x.toInt < 3
    · rw [if_pos c]
      have q := ih (x + (1 : Int32)) (j + 1) (zu τ.1 ((τ.2.2 a 67).getD 0) x.toNatClampNeg (vp_nar .boolean 0), τ.2.1, τ.2.2) (zp1 hx (by omega)) (by omega) (by omega)
      exact ⟨q.1, fun h => (q.2 h).trans (congrFun (zu_n _ _ _ (fun z => h z.symm)) 17)⟩
    · rw [if_neg c]
      exact ⟨(by decide : (0 : Int32).toInt = 0), fun _ => rfl⟩
/-- no late fault: no place of one -/
def aP (s : zA) : Prop := s.2.2.2.1 = 0 → s.2.2.2.2.1 = -1
theorem aP_fail {n : Int} (h : aP s) : aP (aFail T n s) := by
  unfold aFail
  split
  · exact h
  · exact h
theorem aP_take {w : Int} (h : aP s) : aP (aTake T w s) := by
  unfold aTake
  split
  · exact h
  · split
    · exact aP_fail h
    · split
      · exact aP_fail h
      · exact h
theorem aP_late {n : Int} (hn : n ≠ 0) (h : aP s) : aP (aLate T n s) := by
  unfold aLate
  split
  · exact h
  · split
    · exact h
    · exact fun z => absurd z hn
theorem aP_new (h : aP s) : aP (aNew T s) := by
  unfold aNew
  split
  · exact aP_take (aP_late (by decide) h)
  · exact aP_take h
theorem aP_known (h : aP s) : aP (aKnown T s) := by
  unfold aKnown
  split
  · exact aP_take (aP_late (by decide) h)
  · exact aP_take h
theorem aP_numb {lo hi : Int} (h : aP s) : aP (aNumb T lo hi s) := by
  unfold aNumb
  split
  · exact aP_take (aP_late (by decide) h)
  · exact aP_take h
theorem aP_E : ∀ (n : Nat) (b : Bool) (o : Int) (s : zA), aP s → aP (aE T n b o s) := by
  intro n
  induction n with
  | zero => intro b o s h; rw [aE]; exact h
  | succ n ih =>
    intro b o s h
    cases b with
    | true =>
      rw [aE]
      (repeat' split) <;> first | exact h | exact ih _ _ _ (aP_take h) | exact aP_fail h
    | false =>
      rw [aE]
      (repeat' split) <;> first | exact h | exact ih _ _ _ (aP_take h) | exact aP_fail h
theorem aP_sum (h : aP s) : aP (aSum T s) := aP_E _ _ _ _ h
theorem aP_if {n : Int} (h : aP s) : aP (aIf T n s) := by
  unfold aIf
  refine aP_take (aP_sum (aP_take (aP_sum (aP_take (aP_sum (aP_take ?_))))))
  split
  · exact aP_fail h
  · exact h
theorem aP_lw : ∀ (k : Nat) (n : Int) (s : zA), aP s → aP (aLw T k n s) := by
  intro k
  induction k with
  | zero => intro n s h; exact h
  | succ k ih =>
    intro n s h
    rw [aLw]
    split
    · exact ih _ _ (aP_if h)
    · exact aP_sum h
theorem aP_mouth (h : aP s) : aP (aMouth T s) := by
  have k : ∀ s0 : zA, aP s0 → aP (if (aNew T (aTake T 0 s0)).1 = 0 then aSetM (aNew T (aTake T 0 s0)) (T.2.1 (aTake T 0 s0).2.2.1) else aNew T (aTake T 0 s0)) := fun s0 h0 => by
    have h2 : aP (aNew T (aTake T 0 s0)) := aP_new (aP_take h0)
    split
    · exact h2
    · exact h2
  unfold aMouth
  refine k _ ?_
  split
  · exact aP_fail h
  · exact h
theorem aP_place (h : aP s) : aP (aPlace T s) := by
  have h1 : aP (aPlace1 T s) := by
    unfold aPlace1
    refine aP_take ?_
    split
    · exact aP_fail h
    · exact h
  have h2 : aP (aPlace2 T (aPlace1 T s)) := aP_numb (aP_numb (aP_numb (aP_known (aP_new h1))))
  unfold aPlace
  split
  · exact h2
  · exact h2
theorem aP_tell (h : aP s) : aP (aTell T s) := by
  unfold aTell
  refine aP_take ?_
  split
  · exact aP_mouth h
  · split
    · exact aP_place h
    · split
      · exact aP_lw _ _ _ (aP_take (aP_take h))
      · split
        · exact aP_numb (aP_numb (aP_take h))
        · split
          · exact aP_numb (aP_take h)
          · split
            · exact aP_numb (aP_take h)
            · exact aP_fail h
theorem xRun (hd : zWd a k q v nm nO) (hT : zTm T m) (hK : zTK T m) {x7 : Int32} (K : Int32 → zS → Int32 × zS) : ∀ (n : Nat) (τ : zS) (s : zA), zXo a k q v nm nO m T τ s → aP s → (s.1 = 0 → 401 < n + s.2.2.1) → 0 < n → ∀ l, (s.1 = 0 → 401 < l + s.2.2.1) → 0 < l → (F_X11_read_117 x7 a K n τ).1.toInt = aAns (aRun T l s) ∧ ((F_X11_read_117 x7 a K n τ).2.1 a 17).toInt = aPos (aRun T l s) := by
  intro n
  induction n with
  | zero => intro τ s _ _ _ h; exact absurd h (by omega)
  | succ n ih =>
    intro τ s h hp hn _ l hl _
    obtain ⟨l, rfl⟩ : ∃ q, l = q + 1 := ⟨l - 1, by omega⟩
    have g : ∀ (x : Int32) (j : Nat), j ≠ 17 → zu τ.1 a 17 x a j = τ.1 a j := fun x j hj => zu_j _ _ _ _ _ (fun z => hj z.symm)
    have g13 := fun x => g x 13 (by decide)
    have g15 := fun x => g x 15 (by decide)
    rw [F_X11_read_117]
    simp only [zlt, wIs hT h.1 0 33 (by decide) (by decide), g13, g15]
    have h13 := h.1.2.1
    have h0 := h.1.2.2.1
    by_cases c : s.1 = 0
    · obtain ⟨r1, r2, r3, r4, r5, r6, r7, r8, r9⟩ := h.1.2.2.2.2 c
      have rk := hK.2.1
      have hn2 := hn c
      have hl2 := hl c
      rw [if_pos (h13.trans c)]
      by_cases c1 : T.1 s.2.2.1 = 33
      · have ea : aRun T (l + 1) s = s := by rw [aRun, if_neg (zne c), if_pos c1]
        rw [if_neg (fun z => z ⟨c, c1⟩), if_neg (by omega), ea]
        unfold aAns aPos
        rw [if_neg (zne c), if_neg (zne c)]
        by_cases c2 : 0 < s.2.2.2.1
        · rw [if_pos (by omega), if_neg (by omega), if_pos (by omega)]
          exact ⟨r3, by show (zu τ.1 a 17 (τ.1 a 16) a 17).toInt = _; rw [zu_s]; exact (r5 (by omega)).1⟩
        · rw [if_neg (by omega), if_neg (by omega), if_neg (by omega)]
          have q48 := (h.1.1.2.2 48 (by unfold zQs; omega)).1
          have q49 := (h.1.1.2.2 49 (by unfold zQs; omega)).1
          have q67 := (h.1.1.2.2 67 (by unfold zQs; omega)).1
          have em : (-1 : Int32).toInt = -1 := by decide
          obtain ⟨t1, ht1⟩ : ∃ t : zS, t = (zu (zu τ.1 a 17 (-1)) a 18 (zu τ.1 a 17 (-1) a 19), τ.2.1, τ.2.2) := ⟨_, rfl⟩
          rw [← ht1]
          have f1 : zFr (fun c j => c ≠ a ∨ j = 50 ∨ j = 51) t1 (F_X11_begins a t1) := fr_X11_begins zFr.id (fun j => Or.inl (by rw [ht1]; exact q49)) (Or.inr (Or.inl rfl)) (Or.inr (Or.inr rfl))
          have f2 : zFr (fun c j => c ≠ a ∨ j = 50 ∨ j = 51) t1 (F_X11_keepsRow a (F_X11_begins a t1)) := fr_X11_keepsRow f1 (fun j => Or.inl (by rw [ht1]; exact q48))
          obtain ⟨r, hr⟩ : ∃ r : zS, r = F_X11_keepsRow a (F_X11_begins a t1) := ⟨_, rfl⟩
          rw [← hr] at f2 ⊢
          have v17 : r.1 a 17 = -1 := by
            rw [f2.2 a 17 (by rintro (z | z | z); · exact z rfl
                              · exact absurd z (by decide)
                              · exact absurd z (by decide)), ht1]
            show zu (zu τ.1 a 17 (-1)) a 18 _ a 17 = -1
            rw [zu_j _ _ _ _ _ (by decide), zu_s]
          have r2' : r.2.2 = τ.2.2 := by rw [f2.1, ht1]
          have w := w224 (a := a) (K := K) (K2 := F_X11_read_117 x7 a K n) 10000 0 0 (zu (zu r.1 a 57 0) a 62 0, r.2.1, r.2.2) (by decide) (by omega) (by omega)
          have q67' : (r.2.2 a 67).getD 0 ≠ a := by rw [r2']; exact q67
          refine ⟨w.1.trans (by omega), (congrArg Int32.toInt (w.2 q67')).trans ?_⟩
          show (zu (zu r.1 a 57 0) a 62 0 a 17).toInt = _
          rw [zu_j _ _ _ _ _ (by decide), zu_j _ _ _ _ _ (by decide), v17, em]
          exact (hp (by omega)).symm
      · have ea : aRun T (l + 1) s = aRun T l (aTell T s) := by rw [aRun, if_neg (zne c), if_neg c1]
        rw [if_pos (fun z => c1 z.2), ea]
        exact ih _ _ (xTell hd hT hK h c) (aP_tell hp) (fun z => by have := aTell_i z; omega) (by omega) l (fun z => by have := aTell_i z; omega) (by omega)
    · have ea : aRun T (l + 1) s = s := by rw [aRun, if_pos c]
      rw [if_neg (by omega), if_pos (by omega), if_pos (by omega), ea]
      unfold aAns aPos
      rw [if_pos c, if_pos c]
      exact ⟨h13, by show (zu τ.1 a 17 (τ.1 a 14) a 17).toInt = _; rw [zu_s]; exact h.1.2.2.2.1 c⟩
end ZW7
