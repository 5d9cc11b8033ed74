section ZW7
variable {a k q v nm nO m : Nat} {T : zTn} {τ τ' : zS} {s s' : zA}
theorem w224 {K : Int32 → zS → Int32 × zS} {K2 : zS → Int32 × zS} : ∀ (n : Nat) (x : Int32) (j : Nat) (τ : zS), x.toInt = j → j ≤ 3 → 3 - j < n → (F_X11_read_224 a K K2 n x τ).1.toInt = 0 := by
  intro n
  induction n with
  | zero => intro x j τ _ _ h; exact absurd h (by omega)
  | succ n ih =>
    intro x j τ hx hj hm
    have e3 : (3 : Int32).toInt = 3 := by decide
    rw [F_X11_read_224]
    simp only [zlt, e3]
    by_cases c : x.toInt < 3
    · rw [if_pos c]
      exact ih _ (j + 1) _ (zp1 hx (by omega)) (by omega) (by omega)
    · rw [if_neg c]
      exact (by decide : (0 : Int32).toInt = 0)
theorem xRun (hd : zWd a k q v nm nO) (hT : zTm T m) (hK : zTK T m) {x7 : Int32} (K : Int32 → zS → Int32 × zS) : ∀ (n : Nat) (τ : zS) (s : zA), zXo a k q v nm nO m T τ s → (s.1 = 0 → 401 < n + s.2.2.1) → 0 < n → ∀ l, (s.1 = 0 → 401 < l + s.2.2.1) → 0 < l → (F_X11_read_117 x7 a K n τ).1.toInt = aAns (aRun T l s) := by
  intro n
  induction n with
  | zero => intro τ s _ _ h; exact absurd h (by omega)
  | succ n ih =>
    intro τ s h hn _ l hl _
    obtain ⟨l, rfl⟩ : ∃ q, l = q + 1 := ⟨l - 1, by omega⟩
    have g : ∀ (x : Int32) (j : Nat), j ≠ 17 → zu τ.1 a 17 x a j = τ.1 a j := fun x j hj => zu_j _ _ _ _ _ (fun z => hj z.symm)
    have g13 := fun x => g x 13 (by decide)
    have g15 := fun x => g x 15 (by decide)
    rw [F_X11_read_117]
    simp only [zlt, wIs hT h.1 0 33 (by decide) (by decide), g13, g15]
    have h13 := h.1.2.1
    have h0 := h.1.2.2.1
    by_cases c : s.1 = 0
    · obtain ⟨r1, r2, r3, r4, r5, r6, r7, r8, r9⟩ := h.1.2.2.2.2 c
      have rk := hK.2.1
      have hn2 := hn c
      have hl2 := hl c
      rw [if_pos (h13.trans c)]
      by_cases c1 : T.1 s.2.2.1 = 33
      · have ea : aRun T (l + 1) s = s := by rw [aRun, if_neg (zne c), if_pos c1]
        rw [if_neg (fun z => z ⟨c, c1⟩), if_neg (by omega), ea]
        unfold aAns
        rw [if_neg (zne c)]
        by_cases c2 : 0 < s.2.2.2.1
        · rw [if_pos (by omega), if_neg (by omega), if_pos (by omega)]
          exact r3
        · rw [if_neg (by omega), if_neg (by omega), if_neg (by omega)]
          exact (w224 10000 0 0 _ (by decide) (by omega) (by omega)).trans (by omega)
      · have ea : aRun T (l + 1) s = aRun T l (aTell T s) := by rw [aRun, if_neg (zne c), if_neg c1]
        rw [if_pos (fun z => c1 z.2), ea]
        exact ih _ _ (xTell hd hT hK h c) (fun z => by have := aTell_i z; omega) (by omega) l (fun z => by have := aTell_i z; omega) (by omega)
    · have ea : aRun T (l + 1) s = s := by rw [aRun, if_pos c]
      rw [if_neg (by omega), if_pos (by omega), if_pos (by omega), ea]
      unfold aAns
      rw [if_pos c]
      exact h13
end ZW7
