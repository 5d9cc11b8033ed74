/-! WHAT A PLACE IS TOLD, the reference's side: values -/
section RTG
variable {a k q v nm nO m : Nat} {T : zTn} {τ τ' : zS} {s s' : zA}
theorem aNumb_k {lo hi : Int} (h : (aNumb T lo hi s).1 = 0) : T.1 s.2.2.1 = 23 := by
  unfold aNumb at h
  have q := (aTake_i h).2.1
  split at q
  · have e : (aLate T 5 s).2.2.1 = s.2.2.1 := by
      unfold aLate
      split
      · rfl
      · split <;> rfl
    rw [e] at q
    exact q
  · exact q
theorem xBoundV (hT : zTm T m) (h : zXo a k q v nm nO m T τ s) (lo hi : Int32) {l u : Int} (hz : (aNumb T l u s).1 = 0) : (F_X11_bounded a lo hi τ).1.toInt = T.2.2.1 s.2.2.1 := by
  have hs := (aNumb_i hz).1
  have c1 := aNumb_k hz
  have e7 : (τ.2.2 a 7).getD 0 = v := by rw [h.1.1.1.2.2.1]; rfl
  obtain ⟨r1, r2, -⟩ := h.1.2.2.2.2 hs
  have ei : (τ.1 a 11).toNatClampNeg = s.2.2.1 := by rw [ztn, r2]; rfl
  have i2 := wIs hT h.1 2 23 (by decide) (by decide)
  have val := (h.1.1.2.1 _ r1).2.2.1 c1
  unfold F_X11_bounded
  simp only [zlt, zlt2, e7]
  rw [if_neg (by rw [h.1.2.1]; omega), ei, if_neg (show ¬ (F_X11_is a 2 τ).toInt = 0 by rw [i2]; exact fun z => z ⟨hs, c1⟩)]
  split
  · exact val
  · split
    · exact val
    · exact val
end RTG
