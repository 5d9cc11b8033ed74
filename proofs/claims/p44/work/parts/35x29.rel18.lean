/-! WHAT A PLACE IS TOLD: where it goes, three numbers (told beside aTell) -/
abbrev zGa : Type := Nat → Int × Int × Int × Int
def aVals (T : zTn) (s : zA) : Int × Int × Int × Int := (aNum (aNew T s) (T.2.1 (aNew T s).2.2.1).1, T.2.2.1 (aKnown T (aNew T s)).2.2.1, T.2.2.1 (aNumb T 1 99 (aKnown T (aNew T s))).2.2.1, T.2.2.1 (aNumb T 0 99 (aNumb T 1 99 (aKnown T (aNew T s)))).2.2.1)
def aG (T : zTn) (s : zA) (g : zGa) : zGa := if T.1 s.2.2.1 = 1 ∧ (aPlace T s).1 = 0 then (fun p => if (p : Int) = s.2.2.2.2.2.2.1 + 1 then aVals T (aPlace1 T s) else g p) else g
section VALS
variable {P tk kA vA qA tt N m : Nat} {T : zTn} {σ σ' : zS} {s : zA}
theorem vKnownV (h : zV P tk kA vA qA tt N m T σ s) (hs : s.1 = 0) : (F_X3_knownName P σ).1.toInt = if aNum s (T.2.1 s.2.2.1).1 < 0 then 0 else aNum s (T.2.1 s.2.2.1).1 := by
  have e22 : (22 : Int32).toInt = 22 := by decide
  have em : (-1 : Int32).toInt = -1 := by decide
  have e0 : (0 : Int32).toInt = 0 := by decide
  obtain ⟨v, p1, p2⟩ := vPN h hs (σ.2.1 P 4)
  obtain ⟨r1, r2, r3, r4, -⟩ := h.2.2.2 hs
  rw [r4] at p2
  have key : (if (0 : Int) ≤ v.toInt then v else (0 : Int32)).toInt = if aNum s (T.2.1 s.2.2.1).1 < 0 then 0 else aNum s (T.2.1 s.2.2.1).1 := by
    rw [← p2]
    by_cases c : 0 ≤ v.toInt
    · rw [if_pos c, if_neg (by omega)]
    · rw [if_neg c, if_pos (by omega)]
      exact e0
  unfold F_X3_knownName
  simp only [zlt, zlt2, e22, em, e0, p1]
  split
  · split
    · exact key
    · exact key
  · exact key
theorem vNumbV (h : zV P tk kA vA qA tt N m T σ s) (hs : s.1 = 0) (lo hi : Int32) : (F_X3_number P lo hi σ).1.toInt = T.2.2.1 s.2.2.1 := by
  have e23 : (23 : Int32).toInt = 23 := by decide
  obtain ⟨r1, r2, r3, r4, -⟩ := h.2.2.2 hs
  have q := (h.1.2.2.1 s.2.2.1)
  have e : (σ.2.1 P 4).toInt32.toInt = T.2.2.1 s.2.2.1 := by rw [r4, ← q.2.1, q.2.2.1]
  unfold F_X3_number
  simp only [zlt, zlt2, e23]
  split
  · split
    · exact e
    · exact e
  · exact e
/-- a late fault stays -/
theorem aTake_l {w : Int} : (aTake T w s).2.2.2.1 = s.2.2.2.1 := by
  unfold aTake aFail
  split
  · rfl
  · split
    · rfl
    · split
      · rfl
      · rfl
theorem aLate_l {n : Int} (h : (aLate T n s).2.2.2.1 = 0) (hn : n ≠ 0) (hs : s.1 = 0) : False := by
  unfold aLate at h
  rw [if_neg (zne hs)] at h
  by_cases c : s.2.2.2.1 = 0
  · rw [if_neg (zne c)] at h
    exact hn h
  · rw [if_pos c] at h
    exact c h
theorem aKnown_l (hs : s.1 = 0) (h : (aKnown T s).2.2.2.1 = 0) (ht : T.1 s.2.2.1 = 22) : s.2.2.2.1 = 0 ∧ aNum s (T.2.1 s.2.2.1).1 ≠ -1 := by
  unfold aKnown at h
  rw [aTake_l] at h
  by_cases c : aNum s (T.2.1 s.2.2.1).1 = -1
  · rw [if_pos ⟨hs, ht, c⟩] at h
    exact absurd h (fun z => aLate_l z (by decide) hs)
  · rw [if_neg (fun z => c z.2.2)] at h
    exact ⟨h, c⟩
end VALS
