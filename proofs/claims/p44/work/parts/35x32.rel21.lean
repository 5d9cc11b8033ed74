section TLG2
variable {P tk kA vA qA tt N m : Nat} {T : zTn} {σ σ' τ : zS} {s s' : zA} {W : Nat → Nat} {g : zGa}
/-- one telling: what the places are told -/
theorem vTellG (hd : zVd P tk kA vA qA N) (hT : zTK T m) (h : zV P tk kA vA qA tt N m T σ s) (hs : s.1 = 0) (hW : zWz W P tt σ.2.2) (hX : ∀ j, 2 ≤ j → j ≤ 5 → W j ≠ tt ∧ W j ≠ (σ.2.2 tt 6).getD 0 ∧ W j ≠ (σ.2.2 tt 7).getD 0 ∧ W j ≠ (σ.2.2 tt 9).getD 0) (hg : zVg W σ s g) : zVg W (F_X3_telling P σ) (aTell T s) (aG T s g) := by
  have r3 := (h.2.2.2 hs).2.2.1
  have tP : (σ.2.2 P 1).getD 0 = tt := by rw [h.1.1.2.1]; rfl
  have e0 : (0 : Int32).toInt = 0 := by decide
  have e1 : (1 : Int32).toInt = 1 := by decide
  by_cases ht : T.1 s.2.2.1 = 1
  · have E : F_X3_telling P σ = F_X3_take P 24 (F_X3_newPlace P σ) := by
      unfold F_X3_telling
      simp only [zlt, e1]
      rw [if_neg (by omega), if_pos (by omega)]
    have Ea : aTell T s = aTake T 24 (aPlace T s) := by
      unfold aTell
      rw [if_neg (by omega), if_pos ht]
    rw [E, Ea]
    have rp : (F_X3_newPlace P σ).2.2 = σ.2.2 := rf_X3_newPlace (R := σ.2.2) rfl
    exact (vPlaceG hd hT h hs ht hW hg).take (tt := tt) (P := P) (by rw [rp]; exact hW)
  · have eg : aG T s g = g := by
      unfold aG
      rw [if_neg (fun z => ht z.1)]
    rw [eg]
    refine hg.st (fun _ => hs) (aK_tell ⟨id, rfl⟩ ht) (fun j h1 h2 p hp => ?_)
    obtain ⟨x1, x2, x3, x4⟩ := hX j h1 h2
    have nP := (hW.1 j h1 h2).2
    obtain ⟨A, hA⟩ : ∃ A : Nat → Nat → Prop, A = fun c _ => c = P ∨ c = tt ∨ c = (σ.2.2 tt 6).getD 0 ∨ c = (σ.2.2 tt 7).getD 0 ∨ c = (σ.2.2 tt 9).getD 0 := ⟨_, rfl⟩
    have aP : ∀ i, A P i := fun i => by rw [hA]; exact Or.inl rfl
    have aT : ∀ i, A tt i := fun i => by rw [hA]; exact Or.inr (Or.inl rfl)
    have done : ∀ σ', zFi A σ σ' → σ'.1 (W j) p = σ.1 (W j) p := fun σ' q => q.2 _ _ (by
      rw [hA]
      rintro (z | z | z | z | z)
      · exact nP z
      · exact x1 z
      · exact x2 z
      · exact x3 z
      · exact x4 z)
    have tk : ∀ w s0, zFi A σ s0 → zFi A σ (F_X3_take P w s0) := fun w s0 q => fi_X3_take q (aP _) (aP _) (aP _) (aP _) (aP _)
    have nu : ∀ lo hi s0, zFi A σ s0 → zFi A σ (F_X3_number P lo hi s0).2 := fun lo hi s0 q => fi_X3_number q (aP _) (aP _) (aP _) (aP _) (aP _) (aP _) (aP _)
    have fa : ∀ w s0, zFi A σ s0 → zFi A σ (F_X3_fail P w s0) := fun w s0 q => fi_X3_fail q (aP _) (aP _) (aP _)
    have lw : ∀ w s0, zFi A σ s0 → zFi A σ (F_X3_law P w s0) := fun w s0 q => fi_X3_law q (aP _) (aP _) (aP _) (aP _) (aP _) (fun i => by rw [tP, hA]; exact Or.inr (Or.inr (Or.inl rfl))) (fun i => by rw [tP, hA]; exact Or.inr (Or.inr (Or.inr (Or.inl rfl)))) (by rw [tP]; exact aT _) (fun i => by rw [tP, hA]; exact Or.inr (Or.inr (Or.inr (Or.inr rfl))))
    have st : ∀ (s0 s1 : zS) i v, zFi A σ s0 → zFi A σ s1 → zFi A σ (zu s1.1 ((s0.2.2 P 1).getD 0) i v, s1.2.1, s1.2.2) := fun s0 s1 i v q0 q1 => q1.w (by rw [q0.1, tP]; exact aT _)
    unfold F_X3_telling
    simp only [zlt, zlt2, e0, e1]
    rw [if_neg (show ¬ (σ.1 P 3).toInt = 1 from fun z => ht (r3.symm.trans z))]
    split
    · have A2 : zFi (fun c _ => c = P) (F_X3_mouth P σ) (F_X3_take P 24 (F_X3_mouth P σ)) := fi_X3_take zFi.id rfl rfl rfl rfl rfl
      rw [A2.2 _ _ nP]
      exact mouthR h hW j h1 h2 p hp
    · split
      · split
        · exact done _ (tk _ _ (st _ _ _ _ (nu _ _ _ (tk _ _ zFi.id)) (nu _ _ _ (st _ _ _ _ (tk _ _ zFi.id) (nu _ _ _ (tk _ _ zFi.id))))))
        · split
          · exact done _ (tk _ _ (st _ _ _ _ (tk _ _ zFi.id) (nu _ _ _ (tk _ _ zFi.id))))
          · split
            · exact done _ (tk _ _ (st _ _ _ _ (tk _ _ zFi.id) (nu _ _ _ (tk _ _ zFi.id))))
            · exact done _ (tk _ _ (fa _ _ zFi.id))
      · exact done _ (tk _ _ (lw _ _ zFi.id))
end TLG2
