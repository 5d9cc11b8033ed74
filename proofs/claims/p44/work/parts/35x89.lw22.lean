/-! THE MOUTH'S ROW IN THE CLASS -/
/-- the mouth, once told, bears nothing -/
def zC0 (W : Nat → Nat) (τ : zS) (s : zA) : Prop := s.1 = 0 → s.2.2.2.2.2.1 ≠ 0 → ∀ j, 3 ≤ j → j ≤ 5 → (τ.1 (W j) 0).toInt = 0
section M0
variable {P tk kA vA qA tt N m : Nat} {T : zTn} {σ σ' τ : zS} {s s' : zA} {W : Nat → Nat}
theorem mouth0 (h : zV P tk kA vA qA tt N m T σ s) (hW : zWz W P tt σ.2.2) (h8 : ((F_X3_mouth P σ).1 P 8).toInt = 0) : ∀ j, 3 ≤ j → j ≤ 5 → (F_X3_mouth P σ).1 (W j) 0 = 0 := by
  intro j j1 j2
  have tP : (σ.2.2 P 1).getD 0 = tt := vtt h
  have fin : ∀ (s6 : zS) (v : Int64), zFi (fun c _ => c = P) σ s6 → (F_X9_setPlace ((s6.2.2 P 1).getD 0) 0 0 0 0 0 (zu s6.1 P 6 (1 : Int32), zu s6.2.1 ((s6.2.2 ((s6.2.2 P 1).getD 0) 1).getD 0) (0 : Int32).toNatClampNeg v, s6.2.2)).1 (W j) 0 = 0 := fun s6 v A => by
    rw [A.1, tP, setPV (W := W) (P := P) (τ := (zu s6.1 P 6 (1 : Int32), zu s6.2.1 ((σ.2.2 tt 1).getD 0) (0 : Int32).toNatClampNeg v, σ.2.2)) (n := 0) hW (by decide) (by decide)]
    show zu (zu (zu (zu (zu s6.1 P 6 1) (W 2) 0 0) (W 3) 0 0) (W 4) 0 0) (W 5) 0 0 (W j) 0 = 0
    have n : ∀ i k, 2 ≤ i → i ≤ 5 → 2 ≤ k → k ≤ 5 → i ≠ k → ¬ W i = W k := fun i k i1 i2 k1 k2 e => hW.2 i k i1 i2 k1 k2 e
    rcases (show j = 3 ∨ j = 4 ∨ j = 5 by omega) with rfl | rfl | rfl
    · rw [zu_n _ _ _ (n 3 5 (by decide) (by decide) (by decide) (by decide) (by decide)), zu_n _ _ _ (n 3 4 (by decide) (by decide) (by decide) (by decide) (by decide)), zu_s]
    · rw [zu_n _ _ _ (n 4 5 (by decide) (by decide) (by decide) (by decide) (by decide)), zu_s]
    · rw [zu_s]
  have A0 : ∀ s4, zFi (fun c _ => c = P) σ s4 → zFi (fun c _ => c = P) σ (F_X3_newName P s4).2 := fun s4 A => fi_X3_newName A rfl rfl rfl rfl rfl rfl rfl
  unfold F_X3_mouth at h8 ⊢
  simp only [zlt, zlt2] at h8 ⊢
  split
  · next c =>
    rw [if_pos c] at h8
    have A1 : zFi (fun c _ => c = P) σ (F_X3_take P 0 σ) := fi_X3_take zFi.id rfl rfl rfl rfl rfl
    split
    · exact fin _ _ (A0 _ A1)
    · next c2 =>
      rw [if_neg c2] at h8
      exact absurd h8 c2
  · next c =>
    rw [if_neg c] at h8
    have A1 : zFi (fun c _ => c = P) σ (F_X3_take P 0 (F_X3_fail P 2 σ)) := fi_X3_take (fi_X3_fail zFi.id rfl rfl rfl) rfl rfl rfl rfl rfl
    split
    · exact fin _ _ (A0 _ A1)
    · next c2 =>
      rw [if_neg c2] at h8
      exact absurd h8 c2
theorem place0 (h : zV P tk kA vA qA tt N m T σ s) (hs : s.1 = 0) (hW : zWz W P tt σ.2.2) : ∀ j, 2 ≤ j → j ≤ 5 → (F_X3_newPlace P σ).1 (W j) 0 = σ.1 (W j) 0 := by
  intro j j1 j2
  have tP : (σ.2.2 P 1).getD 0 = tt := vtt h
  have nP := (hW.1 j j1 j2).2
  have e1 : (1 : Int32).toInt = 1 := by decide
  have e11 : (11 : Int32).toInt = 11 := by decide
  obtain ⟨-, -, -, -, -, -, -, -, r9, r10, -⟩ := h.2.2.2 hs
  obtain ⟨B, hB⟩ : ∃ B : Nat → Nat → Prop, B = fun c i => c = P ∧ i ≠ 7 := ⟨_, rfl⟩
  have bp : ∀ i, i ≠ 7 → B P i := fun i hi => by rw [hB]; exact ⟨rfl, hi⟩
  have row : ∀ s6, zFi B σ s6 → s6.1 (W j) 0 = σ.1 (W j) 0 := fun s6 A => A.2 _ _ (by rw [hB]; exact fun z => nP z.1)
  have fin : ∀ (s6 : zS) (f : Nat → Nat → Int64) (x y z w : Int32), zFi B σ s6 → (s6.1 P 7).toInt < 11 → (F_X9_setPlace ((s6.2.2 P 1).getD 0) (zu s6.1 P 7 (s6.1 P 7 + (1 : Int32)) P 7) x y z w (zu s6.1 P 7 (s6.1 P 7 + (1 : Int32)), f, s6.2.2)).1 (W j) 0 = σ.1 (W j) 0 := fun s6 f x y z w A l => by
    have e7 : s6.1 P 7 = σ.1 P 7 := A.2 P 7 (by rw [hB]; exact fun q => q.2 rfl)
    obtain ⟨n, hn⟩ : ∃ n : Nat, (s6.1 P 7).toInt = n := ⟨(s6.1 P 7).toInt.toNat, by rw [e7, r9]; omega⟩
    rw [A.1, tP, setPV (W := W) (P := P) (τ := (zu s6.1 P 7 (s6.1 P 7 + (1 : Int32)), f, σ.2.2)) (n := n + 1) hW (by rw [zu_s, zb_add (by rw [e1]; omega) (by rw [e1]; omega), e1, hn]; omega) (by omega)]
    have z0 : ∀ (f : Nat → Nat → Int32) (k : Nat) (v : Int32), zu f (W k) (n + 1) v (W j) 0 = f (W j) 0 := fun f k v => by
      by_cases e : W j = W k
      · rw [e, zu_j _ _ _ _ _ (by omega)]
      · rw [zu_n _ _ _ e]
    rw [z0, z0, z0, z0]
    show zu s6.1 P 7 _ (W j) 0 = _
    rw [zu_n _ _ _ nP]
    exact row s6 A
  have Ak : ∀ (w : Int32) s4, zFi B σ s4 → zFi B σ (F_X3_take P w s4) := fun w s4 A => fi_X3_take A (bp 2 (by decide)) (bp 3 (by decide)) (bp 5 (by decide)) (bp 8 (by decide)) (bp 9 (by decide))
  have A0 : ∀ s4, zFi B σ s4 → zFi B σ (F_X3_newName P s4).2 := fun s4 A => fi_X3_newName A (bp _ (by decide)) (bp _ (by decide)) (bp _ (by decide)) (bp _ (by decide)) (bp _ (by decide)) (bp _ (by decide)) (bp _ (by decide))
  have A2 : ∀ s4, zFi B σ s4 → zFi B σ (F_X3_knownName P s4).2 := fun s4 A => fi_X3_knownName A (bp _ (by decide)) (bp _ (by decide)) (bp _ (by decide)) (bp _ (by decide)) (bp _ (by decide)) (bp _ (by decide)) (bp _ (by decide))
  have A3 : ∀ lo hi s4, zFi B σ s4 → zFi B σ (F_X3_number P lo hi s4).2 := fun lo hi s4 A => fi_X3_number A (bp _ (by decide)) (bp _ (by decide)) (bp _ (by decide)) (bp _ (by decide)) (bp _ (by decide)) (bp _ (by decide)) (bp _ (by decide))
  have A4 : ∀ s4, zFi B σ s4 → zFi B σ (F_X3_number P 0 99 (F_X3_number P 0 99 (F_X3_number P 1 99 (F_X3_knownName P (F_X3_newName P (F_X3_take P 1 s4)).2).2).2).2).2 := fun s4 A => A3 _ _ _ (A3 _ _ _ (A3 _ _ _ (A2 _ (A0 _ (Ak _ _ A)))))
  unfold F_X3_newPlace
  simp only [zlt, zlt2, e11]
  split
  · have q := A4 σ zFi.id
    split
    · split
      · next c => exact fin _ _ _ _ _ _ q c
      · exact row _ q
    · exact row _ q
  · have q := A4 (F_X3_fail P 2 σ) (fi_X3_fail zFi.id (bp _ (by decide)) (bp _ (by decide)) (bp _ (by decide)))
    split
    · split
      · next c => exact fin _ _ _ _ _ _ q c
      · exact row _ q
    · exact row _ q
theorem aTell_m1 (hs : s.1 = 0) (ht : T.1 s.2.2.1 = 1) (q : (aTell T s).1 = 0) : (aTell T s).2.2.2.2.2.1 = s.2.2.2.2.2.1 := by
  have Ea : aTell T s = aTake T 24 (aPlace T s) := by
    unfold aTell
    rw [if_neg (by omega), if_pos ht]
  rw [Ea] at q ⊢
  have i4 := (aTake_i q).2.2.2
  have qp : (aPlace T s).1 = 0 := (aTake_i q).1
  have q2 : (aPlace2 T (aPlace1 T s)).1 = 0 := by
    have qp' := qp
    unfold aPlace at qp'
    split at qp'
    · next c => exact c.1
    · exact qp'
  obtain ⟨s1z, -, i2⟩ := aPlace2_i q2
  have e2 : (aPlace2 T (aPlace1 T s)).2.2.2.2.2.1 = (aPlace1 T s).2.2.2.2.2.1 := congrArg (fun z => z.1) i2
  have e3 : (aPlace T s).2.2.2.2.2.1 = (aPlace2 T (aPlace1 T s)).2.2.2.2.2.1 := by
    unfold aPlace
    split
    · rfl
    · rfl
  have e1 : (aPlace1 T s).2.2.2.2.2.1 = s.2.2.2.2.2.1 := by
    by_cases c11 : 11 ≤ s.2.2.2.2.2.2.1
    · exfalso
      have s1z' := s1z
      unfold aPlace1 at s1z'
      rw [if_pos c11] at s1z'
      exact aFail_1 (by decide) (aTake_i s1z').1
    · unfold aPlace1 at s1z ⊢
      rw [if_neg c11] at s1z ⊢
      exact congrArg (fun z => z.2.2.1) (aTake_i s1z).2.2.2
  have e0 : (aTake T 24 (aPlace T s)).2.2.2.2.2.1 = (aPlace T s).2.2.2.2.2.1 := congrArg (fun z => z.2.2.1) i4
  rw [e0, e3, e2, e1]
theorem cTell0 (hd : zVd P tk kA vA qA N) (hT : zTK T m) (hW : zWz W P tt σ.2.2) (hX : zXz W tt σ.2.2) (h : zV P tk kA vA qA tt N m T σ s) (hs : s.1 = 0) (hg : zC0 W σ s) : zC0 W (F_X3_telling P σ) (aTell T s) := by
  obtain ⟨D0, D1, D2, D7, D8, D9, Dx⟩ := vDisp h hs
  have tP : (σ.2.2 P 1).getD 0 = tt := vtt h
  intro z hm j j1 j2
  have nP := (hW.1 j (by omega) j2).2
  obtain ⟨x1, x2, x3, x4⟩ := hX j (by omega) j2
  have tk0 : ∀ (w : Int32) (τ : zS), (F_X3_take P w τ).1 (W j) 0 = τ.1 (W j) 0 := fun w τ => by
    have f : zFi (fun c _ => c = P) τ (F_X3_take P w τ) := fi_X3_take zFi.id rfl rfl rfl rfl rfl
    exact f.2 _ _ nP
  by_cases c0 : T.1 s.2.2.1 = 0
  · rw [D0 c0, tk0]
    have Ea : aTell T s = aTake T 24 (aMouth T s) := by
      unfold aTell
      rw [if_pos c0]
    rw [Ea] at z
    have v := vMouth hd hT h hs
    rw [mouth0 h hW (v.2.1.trans (aTake_z z)) j j1 j2]
    decide
  · by_cases c1 : T.1 s.2.2.1 = 1
    · rw [D1 c1, tk0, place0 h hs hW j (by omega) j2]
      exact hg hs (by rw [← aTell_m1 hs c1 z]; exact hm) j j1 j2
    · have M := aM_tell (T := T) (s := s) (c := s.2.2.2.2.2.1) rfl c0 c1
      have hm' : s.2.2.2.2.2.1 ≠ 0 := fun e => hm (M.trans e)
      obtain ⟨A, hA⟩ : ∃ A : Nat → Nat → Prop, A = fun c _ => c = P ∨ c = tt ∨ c = (σ.2.2 tt 6).getD 0 ∨ c = (σ.2.2 tt 7).getD 0 ∨ c = (σ.2.2 tt 9).getD 0 := ⟨_, rfl⟩
      have aP : ∀ i, A P i := fun i => by rw [hA]; exact Or.inl rfl
      have aT : ∀ i, A tt i := fun i => by rw [hA]; exact Or.inr (Or.inl rfl)
      have fin : ∀ t', F_X3_telling P σ = t' → zFi A σ t' → ((F_X3_telling P σ).1 (W j) 0).toInt = 0 := fun t' e f => by
        rw [e, f.2 (W j) 0 (by
          rw [hA]
          rintro (q | q | q | q | q)
          · exact nP q
          · exact x1 q
          · exact x2 q
          · exact x3 q
          · exact x4 q)]
        exact hg hs hm' j j1 j2
      have tk : ∀ w s0, zFi A σ s0 → zFi A σ (F_X3_take P w s0) := fun w s0 q => fi_X3_take q (aP _) (aP _) (aP _) (aP _) (aP _)
      have nu : ∀ lo hi s0, zFi A σ s0 → zFi A σ (F_X3_number P lo hi s0).2 := fun lo hi s0 q => fi_X3_number q (aP _) (aP _) (aP _) (aP _) (aP _) (aP _) (aP _)
      have fa : ∀ w s0, zFi A σ s0 → zFi A σ (F_X3_fail P w s0) := fun w s0 q => fi_X3_fail q (aP _) (aP _) (aP _)
      have lw : ∀ w s0, zFi A σ s0 → zFi A σ (F_X3_law P w s0) := fun w s0 q => fi_X3_law q (aP _) (aP _) (aP _) (aP _) (aP _) (fun i => by rw [tP, hA]; exact Or.inr (Or.inr (Or.inl rfl))) (fun i => by rw [tP, hA]; exact Or.inr (Or.inr (Or.inr (Or.inl rfl)))) (by rw [tP]; exact aT _) (fun i => by rw [tP, hA]; exact Or.inr (Or.inr (Or.inr (Or.inr rfl))))
      have b1 : ∀ j lo hi s0, zFi A σ s0 → zFi A σ (cB1 P j lo hi s0) := fun j lo hi s0 q => by
        unfold cB1
        exact (nu lo hi s0 q).w (by rw [q.1, tP]; exact aT _)
      by_cases c2 : 2 ≤ T.1 s.2.2.1 ∧ T.1 s.2.2.1 ≤ 6
      · obtain ⟨p, -, E⟩ := D2 c2.1 c2.2
        exact fin _ E (tk _ _ (lw _ _ zFi.id))
      · by_cases c7 : T.1 s.2.2.1 = 7
        · exact fin _ (D7 c7) (tk _ _ (b1 _ _ _ _ (b1 _ _ _ _ (tk _ _ zFi.id))))
        · by_cases c8 : T.1 s.2.2.1 = 8
          · exact fin _ (D8 c8) (tk _ _ (b1 _ _ _ _ (tk _ _ zFi.id)))
          · by_cases c9 : T.1 s.2.2.1 = 9
            · exact fin _ (D9 c9) (tk _ _ (b1 _ _ _ _ (tk _ _ zFi.id)))
            · exfalso
              unfold aTell at z
              rw [if_neg c0, if_neg c1, if_neg c2, if_neg c7, if_neg c8, if_neg c9] at z
              exact absurd (aTake_z z) (aFail_1 (by decide))
end M0
