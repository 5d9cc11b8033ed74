/-! A MONTH OF THE REFERENCE -/
set_option maxRecDepth 100000 in
noncomputable def mTail (a0 : Nat) (t86 : zS) : zS :=
  zLet ((t86.2.2 a0 49).getD 0) fun v89 =>
  zLet ((49 : Int32)) fun v90 =>
  zLet (t86.1 v89 v90.toNatClampNeg) fun v91 =>
  zLet2 (F_X11_winnerBy a0 v91 t86) fun v93 t92 =>
  zLet ((zu t92.1 a0 56 v93, t92.2.1, t92.2.2)) fun s96 =>
  zLet (s96.1 a0 56) fun v100 =>
  if v100.toInt < 0 then
    zLet ((s96.2.2 a0 49).getD 0) fun v102 =>
    zLet ((48 : Int32)) fun v103 =>
    zLet (s96.1 v102 v103.toNatClampNeg) fun v104 =>
    zLet ((1 : Int32)) fun v105 =>
    zLet (v104 + v105) fun v106 =>
    zLet ((zu s96.1 v102 v103.toNatClampNeg v106, s96.2.1, s96.2.2)) fun s107 =>
    zLet ((0 : Int32)) fun v111 =>
    zLet (F_X11_fillsFlows a0 v111 s107) fun t112 =>
    t112
  else
    zLet ((s96.2.2 a0 49).getD 0) fun v116 =>
    zLet ((24 : Int32)) fun v117 =>
    zLet (s96.1 a0 56) fun v118 =>
    zLet (v117 + v118) fun v119 =>
    zLet ((s96.2.2 a0 49).getD 0) fun v120 =>
    zLet ((24 : Int32)) fun v121 =>
    zLet (s96.1 a0 56) fun v122 =>
    zLet (v121 + v122) fun v123 =>
    zLet (s96.1 v120 v123.toNatClampNeg) fun v124 =>
    zLet ((1 : Int32)) fun v125 =>
    zLet (v124 + v125) fun v126 =>
    zLet ((0 : Int32)) fun v127 =>
    zLet ((999 : Int32)) fun v128 =>
    zLet (F_X11_within v126 v127 v128) fun v129 =>
    zLet ((zu s96.1 v116 v119.toNatClampNeg v129, s96.2.1, s96.2.2)) fun s130 =>
    zLet ((s130.2.2 a0 49).getD 0) fun v134 =>
    zLet ((36 : Int32)) fun v135 =>
    zLet (s130.1 a0 56) fun v136 =>
    zLet (v135 + v136) fun v137 =>
    zLet (s130.1 v134 v137.toNatClampNeg) fun v138 =>
    zLet ((s130.2.2 a0 28).getD 0) fun v139 =>
    zLet (s130.1 a0 18) fun v140 =>
    zLet (s130.1 v139 v140.toNatClampNeg) fun v141 =>
    zLet (v138 + v141) fun v142 =>
    zLet ((zu s130.1 v134 v137.toNatClampNeg v142, s130.2.1, s130.2.2)) fun s143 =>
    zLet ((s143.2.2 a0 49).getD 0) fun v148 =>
    zLet ((48 : Int32)) fun v149 =>
    zLet (s143.1 v148 v149.toNatClampNeg) fun v150 =>
    zLet ((1 : Int32)) fun v151 =>
    zLet (v150 + v151) fun v152 =>
    zLet ((zu s143.1 v148 v149.toNatClampNeg v152, s143.2.1, s143.2.2)) fun s153 =>
    zLet ((0 : Int32)) fun v158 =>
    zLet (F_X11_fillsFlows a0 v158 s153) fun t159 =>
    t159
set_option maxRecDepth 100000 in
theorem mMon_e {m0 : Nat} {σ : zS} : F_X11_monthGoes m0 σ = if (σ.1 m0 51).toInt = 0 then (if (F_X11_isStorm m0 σ).toInt = 0 then mTail m0 (F_X11_fillsFlows m0 0 σ) else mTail m0 (F_X11_fillsFlows m0 (σ.1 ((σ.2.2 m0 27).getD 0) (σ.1 m0 18).toNatClampNeg) σ)) else mTail m0 (F_X11_fillsFlows m0 0 σ) := by
  unfold F_X11_monthGoes mTail
  simp only [zlt, zlt2]
/-- what a month writes of the reference (r: the row) -/
def zBg (m0 r : Nat) (R : Nat → Nat → Option Nat) : Nat → Nat → Prop := fun c j => zFm [47, 56] [45, 46, 55] m0 R c j ∨ (c = r ∧ 24 ≤ j ∧ j ≤ 48)
section ZREL8
variable {L : List Nat} {kd : Nat → Nat} {m0 : Nat} {σ s t : zS} {κ : Int}
theorem mWin_l (hJ : zJ κ L kd σ) (hm : zT L kd m0 11) (hs : s.2 = σ.2) {l : Int32} (h12 : (F_X11_many m0 s).toInt ≤ 12) : ∀ (N : Nat) (x y z : Int32) (τ : zS), 1 ≤ x.toInt → x.toInt ≤ 12 → (z.toInt = -2 ∨ (0 ≤ z.toInt ∧ z.toInt ≤ 11)) → zFr (zFm [47] [45, 46] m0 σ.2.2) s τ → (F_X11_winnerBy_8 m0 l N x y z τ).1.toInt = -2 ∨ (0 ≤ (F_X11_winnerBy_8 m0 l N x y z τ).1.toInt ∧ (F_X11_winnerBy_8 m0 l N x y z τ).1.toInt ≤ 11) := by
  intro N
  have e1 : (1 : Int32).toInt = 1 := by decide
  induction N with
  | zero =>
    intro x y z τ _ _ _ _
    rw [F_X11_winnerBy_8]
    exact Or.inr ⟨(by decide : 0 ≤ (0 : Int32).toInt), (by decide : (0 : Int32).toInt ≤ 11)⟩
  | succ N ih =>
    intro x y z τ h1 h2 hz g
    have em : F_X11_many m0 τ = F_X11_many m0 s := by
      unfold F_X11_many
      simp only [zlt]
      have r21 : (τ.2.2 m0 21).getD 0 = mR σ m0 21 := by rw [g.rf, show s.2.2 = σ.2.2 by rw [hs]]
      have s21 : (s.2.2 m0 21).getD 0 = mR σ m0 21 := by rw [show s.2.2 = σ.2.2 by rw [hs]]
      have k18 : τ.1 m0 18 = s.1 m0 18 := g.2 _ _ (by
        rintro (⟨-, q⟩ | ⟨t, ht, e⟩)
        · exact absurd q (by decide)
        · have h2 : zf 0 11 t = some (100 + t) := by
            simp only [List.mem_cons, List.not_mem_nil, or_false] at ht
            rcases ht with rfl | rfl <;> rfl
          exact mR_m hJ hm h2 (by omega) e.symm)
      have k21 : ∀ j, τ.1 (mR σ m0 21) j = s.1 (mR σ m0 21) j := fun j => g.2 _ _ (by
        rintro (⟨e, -⟩ | ⟨t, ht, e⟩)
        · exact mR_m hJ hm (s := 21) (k := 121) (by rfl) (by decide) e
        · have h2 : zf 0 11 t = some (100 + t) ∧ t ≠ 21 := by
            simp only [List.mem_cons, List.not_mem_nil, or_false] at ht
            rcases ht with rfl | rfl <;> exact ⟨by rfl, by decide⟩
          exact mR_ne hJ hm (s := 21) (s' := t) (k := 121) (by rfl) h2.1 (by omega) e)
      rw [r21, s21, k18, k21]
    rw [F_X11_winnerBy_8]
    simp only [zlt, zlt2, em]
    by_cases c : x.toInt < (F_X11_many m0 s).toInt
    · rw [if_pos c]
      have hx : (x + (1 : Int32)).toInt = x.toInt + 1 := by rw [zb_add (by rw [e1]; omega) (by rw [e1]; omega), e1]
      have gc : zFr (zFm [47] [45, 46] m0 σ.2.2) s (F_X11_claimOf m0 x l τ).2 := g.tr (by
        have q : zFp (zFm [47] [45, 46] m0 σ.2.2) τ (F_X11_claimOf m0 x l τ) := fr_X11_claimOf zFr.id (by rw [g.rf, show s.2.2 = σ.2.2 by rw [hs]]; exact zFm.s rfl) (zFm.f rfl) (by rw [g.rf, show s.2.2 = σ.2.2 by rw [hs]]; exact zFm.s rfl)
        exact q)
      split
      · exact ih _ _ _ _ (by omega) (by omega) hz g
      · split
        · exact ih _ _ _ _ (by omega) (by omega) (Or.inr ⟨by omega, by omega⟩) gc
        · split
          · exact ih _ _ _ _ (by omega) (by omega) (Or.inr ⟨by omega, by omega⟩) gc
          · exact ih _ _ _ _ (by omega) (by omega) hz gc
    · rw [if_neg c]
      exact hz
theorem mTail_f (hJ : zJ κ L kd σ) (hm : zT L kd m0 11) (hs : s.2 = σ.2) (h12 : (F_X11_many m0 s).toInt ≤ 12) : zFr (zBg m0 (mR σ m0 49) σ.2.2) s (mTail m0 s) ∧ (mTail m0 s).1 (mR σ m0 49) 48 = s.1 (mR σ m0 49) 48 + (1 : Int32) := by
  have e48 : (48 : Int32).toNatClampNeg = 48 := by decide
  have e24 : (24 : Int32).toInt = 24 := by decide
  have e36 : (36 : Int32).toInt = 36 := by decide
  have rs : s.2.2 = σ.2.2 := by rw [hs]
  have rm : mR σ m0 49 ≠ m0 := mR_m hJ hm (s := 49) (k := 149) (by rfl) (by decide)
  have g0 : (s.2.2 m0 49).getD 0 = mR σ m0 49 := by rw [rs]
  unfold mTail
  simp only [zlt, zlt2, g0, e48]
  obtain ⟨w, hw⟩ : ∃ w, w = F_X11_winnerBy m0 (s.1 (mR σ m0 49) (49 : Int32).toNatClampNeg) s := ⟨_, rfl⟩
  rw [← hw]
  have fw : zFr (zFm [47] [45, 46] m0 σ.2.2) s w.2 := by
    rw [hw]
    exact fr_X11_winnerBy zFr.id (by rw [rs]; exact zFm.s rfl) (zFm.f rfl) (by rw [rs]; exact zFm.s rfl)
  have wv : w.1.toInt = -2 ∨ (0 ≤ w.1.toInt ∧ w.1.toInt ≤ 11) := by
    rw [hw]
    unfold F_X11_winnerBy
    simp only [zlt]
    exact mWin_l hJ hm hs h12 10000 1 0 (-2) s (by decide) (by decide) (Or.inl (by decide)) zFr.id
  have up1 : ∀ c j, zFm [47] [45, 46] m0 σ.2.2 c j → zBg m0 (mR σ m0 49) σ.2.2 c j := fun c j q => by
    rcases q with ⟨e, q⟩ | ⟨t, ht, e⟩
    · exact Or.inl (Or.inl ⟨e, by simp only [List.mem_cons, List.not_mem_nil, or_false] at q ⊢; omega⟩)
    · exact Or.inl (Or.inr ⟨t, by simp only [List.mem_cons, List.not_mem_nil, or_false] at ht ⊢; omega, e⟩)
  have fw2 := fw.up up1
  have rw2 : w.2.2.2 = σ.2.2 := by rw [fw.rf, rs]
  have row0 : ∀ j, w.2.1 (mR σ m0 49) j = s.1 (mR σ m0 49) j := fun j => fw.2 _ _ (by
    rintro (⟨e, -⟩ | ⟨t, ht, e⟩)
    · exact rm e
    · have h2 : zf 0 11 t = some (100 + t) ∧ t ≠ 49 := by
        simp only [List.mem_cons, List.not_mem_nil, or_false] at ht
        rcases ht with rfl | rfl <;> exact ⟨by rfl, by decide⟩
      exact mR_ne hJ hm (s := 49) (s' := t) (k := 149) (by rfl) h2.1 (by omega) e)
  have gw : (w.2.2.2 m0 49).getD 0 = mR σ m0 49 := by rw [rw2]
  have z56 : ∀ f : Nat → Nat → Int32, ∀ v, zu f m0 56 v m0 56 = v := fun f v => zu_s _ _ _ _
  have zr : ∀ (f : Nat → Nat → Int32) v, zu f m0 56 v (mR σ m0 49) = f (mR σ m0 49) := fun f v => zu_n _ _ _ rm
  have h56 : zBg m0 (mR σ m0 49) σ.2.2 m0 56 := Or.inl (zFm.f rfl)
  have hrow : ∀ j, 24 ≤ j → j ≤ 48 → zBg m0 (mR σ m0 49) σ.2.2 (mR σ m0 49) j := fun j h1 h2 => Or.inr ⟨rfl, h1, h2⟩
  have base := fw2.w (v := w.1) h56
  -- the flows at the end
  have fin : ∀ u : zS, zFr (zBg m0 (mR σ m0 49) σ.2.2) s u → u.1 (mR σ m0 49) 48 = s.1 (mR σ m0 49) 48 + (1 : Int32) → zFr (zBg m0 (mR σ m0 49) σ.2.2) s (F_X11_fillsFlows m0 0 u) ∧ (F_X11_fillsFlows m0 0 u).1 (mR σ m0 49) 48 = s.1 (mR σ m0 49) 48 + (1 : Int32) := fun u gu eu => by
    have ru : u.2.2 = σ.2.2 := by rw [gu.rf, rs]
    have f1 : zFr (zFm [47] [45, 46, 55] m0 σ.2.2) u (F_X11_fillsFlows m0 0 u) := fr_X11_fillsFlows zFr.id (by rw [ru]; exact zFm.s rfl) (zFm.f rfl) (by rw [ru]; exact zFm.s rfl) (by rw [ru]; exact zFm.s rfl)
    refine ⟨gu.tr (f1.up (fun c j q => ?_)), (f1.2 _ _ ?_).trans eu⟩
    · rcases q with ⟨e, q⟩ | ⟨t, ht, e⟩
      · exact Or.inl (Or.inl ⟨e, by simp only [List.mem_cons, List.not_mem_nil, or_false] at q ⊢; omega⟩)
      · exact Or.inl (Or.inr ⟨t, ht, e⟩)
    · rintro (⟨e, -⟩ | ⟨t, ht, e⟩)
      · exact rm e
      · have h2 : zf 0 11 t = some (100 + t) ∧ t ≠ 49 := by
          simp only [List.mem_cons, List.not_mem_nil, or_false] at ht
          rcases ht with rfl | rfl | rfl <;> exact ⟨by rfl, by decide⟩
        exact mR_ne hJ hm (s := 49) (s' := t) (k := 149) (by rfl) h2.1 (by omega) e
  simp only [gw, z56, zr]
  by_cases c : w.1.toInt < 0
  · rw [if_pos c]
    refine fin _ (base.w (hrow 48 (by omega) (by omega))) ?_
    show zu (zu w.2.1 m0 56 w.1) (mR σ m0 49) 48 _ (mR σ m0 49) 48 = _
    rw [zu_s, row0]
  · rw [if_neg c]
    have i24 : ((24 : Int32) + w.1).toNatClampNeg = 24 + w.1.toInt.toNat := by rw [ztn, zb_add (by rw [e24]; omega) (by rw [e24]; omega), e24]; omega
    have i36 : ((36 : Int32) + w.1).toNatClampNeg = 36 + w.1.toInt.toNat := by rw [ztn, zb_add (by rw [e36]; omega) (by rw [e36]; omega), e36]; omega
    have nm : ¬ m0 = mR σ m0 49 := fun z => rm z.symm
    have m56 : ∀ (f : Nat → Nat → Int32) (i : Nat) (v : Int32), zu f (mR σ m0 49) i v m0 = f m0 := fun f i v => zu_n _ _ _ nm
    simp only [i24, i36, m56, z56]
    refine fin _ (((base.w (hrow _ (by omega) (by omega))).w (hrow _ (by omega) (by omega))).w (hrow 48 (by omega) (by omega))) ?_
    show zu (zu (zu (zu w.2.1 m0 56 w.1) (mR σ m0 49) (24 + w.1.toInt.toNat) _) (mR σ m0 49) (36 + w.1.toInt.toNat) _) (mR σ m0 49) 48 _ (mR σ m0 49) 48 = _
    rw [zu_s, zu_j _ _ _ _ _ (by omega), zu_j _ _ _ _ _ (by omega), zr, row0]
theorem mMon (hJ : zJ κ L kd σ) (hm : zT L kd m0 11) (hs : s.2 = σ.2) (h12 : (F_X11_many m0 s).toInt ≤ 12) : zFr (zBg m0 (mR σ m0 49) σ.2.2) s (F_X11_monthGoes m0 s) ∧ (F_X11_monthGoes m0 s).1 (mR σ m0 49) 48 = s.1 (mR σ m0 49) 48 + (1 : Int32) := by
  have rs : s.2.2 = σ.2.2 := by rw [hs]
  have rm : mR σ m0 49 ≠ m0 := mR_m hJ hm (s := 49) (k := 149) (by rfl) (by decide)
  have key : ∀ v : Int32, zFr (zBg m0 (mR σ m0 49) σ.2.2) s (mTail m0 (F_X11_fillsFlows m0 v s)) ∧ (mTail m0 (F_X11_fillsFlows m0 v s)).1 (mR σ m0 49) 48 = s.1 (mR σ m0 49) 48 + (1 : Int32) := fun v => by
    have f1 : zFr (zFm [47] [45, 46, 55] m0 σ.2.2) s (F_X11_fillsFlows m0 v s) := fr_X11_fillsFlows zFr.id (by rw [rs]; exact zFm.s rfl) (zFm.f rfl) (by rw [rs]; exact zFm.s rfl) (by rw [rs]; exact zFm.s rfl)
    have hS : ([45, 46, 55] : List Nat).all (fun t => zf 0 11 t == some (100 + t)) = true := by rfl
    have f1' : zFr (zFm [47] [45, 46, 55] m0 s.2.2) s (F_X11_fillsFlows m0 v s) := by rw [rs]; exact f1
    have row0 : (F_X11_fillsFlows m0 v s).1 (mR σ m0 49) 48 = s.1 (mR σ m0 49) 48 := f1.2 _ _ (by
      rintro (⟨e, -⟩ | ⟨t, ht, e⟩)
      · exact rm e
      · have h2 : zf 0 11 t = some (100 + t) ∧ t ≠ 49 := by
          simp only [List.mem_cons, List.not_mem_nil, or_false] at ht
          rcases ht with rfl | rfl | rfl <;> exact ⟨by rfl, by decide⟩
        exact mR_ne hJ hm (s := 49) (s' := t) (k := 149) (by rfl) h2.1 (by omega) e)
    have em : F_X11_many m0 (F_X11_fillsFlows m0 v s) = F_X11_many m0 s := by
      unfold F_X11_many
      simp only [zlt]
      rw [f1.rf]
      have k18 : (F_X11_fillsFlows m0 v s).1 m0 18 = s.1 m0 18 := f1.2 _ _ (by
        rintro (⟨-, q⟩ | ⟨t, ht, e⟩)
        · exact absurd q (by decide)
        · have h2 : zf 0 11 t = some (100 + t) := by
            simp only [List.mem_cons, List.not_mem_nil, or_false] at ht
            rcases ht with rfl | rfl | rfl <;> rfl
          exact mR_m hJ hm h2 (by omega) e.symm)
      have k21 : ∀ j, (F_X11_fillsFlows m0 v s).1 (mR σ m0 21) j = s.1 (mR σ m0 21) j := fun j => f1.2 _ _ (by
        rintro (⟨e, -⟩ | ⟨t, ht, e⟩)
        · exact mR_m hJ hm (s := 21) (k := 121) (by rfl) (by decide) e
        · have h2 : zf 0 11 t = some (100 + t) ∧ t ≠ 21 := by
            simp only [List.mem_cons, List.not_mem_nil, or_false] at ht
            rcases ht with rfl | rfl | rfl <;> exact ⟨by rfl, by decide⟩
          exact mR_ne hJ hm (s := 21) (s' := t) (k := 121) (by rfl) h2.1 (by omega) e)
      rw [show (s.2.2 m0 21).getD 0 = mR σ m0 21 by rw [rs], k18, k21]
    obtain ⟨q1, q2⟩ := mTail_f hJ hm (s := F_X11_fillsFlows m0 v s) (by rw [f1.1, hs]) (by rw [em]; exact h12)
    refine ⟨(f1.up (fun c j q => ?_)).tr q1, q2.trans (by rw [row0])⟩
    rcases q with ⟨e, q⟩ | ⟨t, ht, e⟩
    · exact Or.inl (Or.inl ⟨e, by simp only [List.mem_cons, List.not_mem_nil, or_false] at q ⊢; omega⟩)
    · exact Or.inl (Or.inr ⟨t, ht, e⟩)
  rw [mMon_e]
  split
  · split
    · exact key _
    · exact key _
  · exact key _
end ZREL8
