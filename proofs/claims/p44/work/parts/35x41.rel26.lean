section RTG4
variable {a k q v nm nO m b : Nat} {T : zTn} {τ τ' : zS} {s s' : zA} {Y : Nat → Nat} {g : zGa}
/-- rows and counts stay -/
theorem zXg.st (hg : zXg Y b τ s g) (hs : s'.1 = 0 → s.1 = 0) (hk : aK s.2.2.2.1 s.2.2.2.2.2.2.1 s') (hm : s'.1 = 0 → s'.2.2.2.2.2.1 = s.2.2.2.2.2.1) (hr : ∀ j, 21 ≤ j → j ≤ 25 → τ'.1 (Y j) = τ.1 (Y j)) : zXg Y b τ' s' g := by
  intro q l
  rw [hr 21 (by omega) (by omega), hr 22 (by omega) (by omega), hr 23 (by omega) (by omega), hr 24 (by omega) (by omega), hr 25 (by omega) (by omega), hm q, hk.2]
  exact hg (hs q) (hk.1 l)
theorem zXg.fl (h : (F_X11_tellOne a τ).1 a 13 = τ'.1 a 13) (h2 : zXo a k q v nm nO m T (F_X11_tellOne a τ) s') (h3 : 0 < (τ'.1 a 13).toInt) : zXg Y b (F_X11_tellOne a τ) s' g := fun z => by
  have := h2.1.2.1
  rw [h] at this
  omega
set_option maxHeartbeats 1000000 in
theorem xMouthG (hd : zWd a k q v nm nO) (hT : zTm T m) (hK : zTK T m) (h : zXo a k q v nm nO m T τ s) (hY : zYz Y a τ.2.2) (hb : (τ.1 a 19).toInt = b) (hb1 : b ≤ 1) (hm0 : s.1 = 0 → s.2.2.2.2.2.1 = 0) (hg : zXg Y b τ s g) : zXg Y b (F_X11_tellMouth a τ) (aTake T 24 (if (aNew T s).1 = 0 then aSetM (aNew T s) (T.2.1 s.2.2.1) else aNew T s)) g := by
  intro hq l
  have q21 : zQs 21 := by unfold zQs; omega
  have q22 : zQs 22 := by unfold zQs; omega
  have q23 : zQs 23 := by unfold zQs; omega
  have q24 : zQs 24 := by unfold zQs; omega
  have q25 : zQs 25 := by unfold zQs; omega
  have e0 : (0 : Int32).toInt = 0 := by decide
  have e12 : (12 : Int32).toInt = 12 := by decide
  have e1 : (1 : Int32).toInt = 1 := by decide
  have e0n : (0 : Int32).toNatClampNeg = 0 := by decide
  have cn : (aNew T s).1 = 0 := by
    have := (aTake_i hq).1
    split at this
    · next c => exact c
    · exact this
  rw [if_pos cn] at hq l ⊢
  have n0 := aNew_i cn
  have i4 := (aTake_i hq).2.2.2
  have sC : (aTake T 24 (aSetM (aNew T s) (T.2.1 s.2.2.1))).2.2.2.2.2.2.1 = s.2.2.2.2.2.2.1 := (congrArg (fun z => z.2.2.2.1) i4).trans (congrArg (fun z => z.2.1) n0.2.2.2)
  have sM : (aTake T 24 (aSetM (aNew T s) (T.2.1 s.2.2.1))).2.2.2.2.2.1 = 1 := congrArg (fun z => z.2.2.1) i4
  have ln : (aNew T s).2.2.2.1 = 0 := by rw [aTake_l] at l; exact l
  have lS := aNew_l n0.1 ln
  obtain ⟨g1, g2, g3⟩ := hg n0.1 lS
  obtain ⟨x, τ1, p1, p2, p3⟩ := xNamed hd hT hK h
  have p4 := xMust hd hT hK p2 4 24 (by decide) (by decide)
  have c : (aTake T 24 (aNew T s)).1 = 0 := by
    have i := aTake_i hq
    have c4 := aTake_400 hq
    rw [aTake_1 (s := aNew T s) cn i.2.1 c4]
    exact cn
  obtain ⟨t5, h5⟩ : ∃ t5, F_X11_must a 4 τ1 = t5 := ⟨_, rfl⟩
  rw [h5] at p4
  have h13 : ¬ 0 < (t5.1 a 13).toInt := by rw [p4.1.2.1, c]; decide
  have A0 : zFi (aF a) τ τ1 := (fi_X11_named zFi.id ⟨rfl, by decide⟩ ⟨rfl, by decide⟩ ⟨rfl, by decide⟩ ⟨rfl, by decide⟩ ⟨rfl, by decide⟩).of p1.symm
  have A1 : zFi (aF a) τ t5 := by rw [← h5]; exact fi_X11_must A0 ⟨rfl, by decide⟩ ⟨rfl, by decide⟩ ⟨rfl, by decide⟩
  have y : ∀ j, zQs j → (t5.2.2 a j).getD 0 = Y j := fun j hj => by rw [A1.1]; exact (hY.1 j hj).1
  have s1 := hY.n.1
  have s2 := hY.n.2
  obtain ⟨-, -, -, -, -, -, t42, t10, -⟩ := p4.1.2.2.2.2 c
  have t42' : (t5.1 a 42).toInt = s.2.2.2.2.2.2.1 := t42.trans ((congrArg (fun z => z.2.2.2.1) (aTake_i c).2.2.2).trans (congrArg (fun z => z.2.1) n0.2.2.2))
  have t10' : 0 ≤ s.2.2.2.2.2.2.1 ∧ s.2.2.2.2.2.2.1 ≤ 11 := by
    have := (h.1.2.2.2.2 n0.1).2.2.2.2.2.2.2.1
    exact this
  have k19 : t5.1 a 19 = τ.1 a 19 := aF.sv A1
  have n41 : ∀ (j : Nat) (z : Int32), j ≠ 41 → zu t5.1 a 41 z a j = t5.1 a j := fun j z hj => zu_j _ _ _ _ _ (fun e => hj e.symm)
  obtain ⟨f, hf⟩ : ∃ f, f = zu t5.1 a 41 (1 : Int32) := ⟨_, rfl⟩
  have fr : ∀ j, 21 ≤ j → j ≤ 25 → f (Y j) = τ.1 (Y j) := fun j j1 j2 => by
    rw [hf, zu_n _ _ _ (s2 j j1 j2)]
    exact funext (fun i => A1.2 _ _ (fun z => s2 j j1 j2 z.1))
  have ev : ((12 : Int32) * τ.1 a 19).toNatClampNeg = 12 * b := by rw [ztn, zb_mul (by rw [e12, hb]; omega) (by rw [e12, hb]; omega), e12, hb]; omega
  have f19 : f a 19 = τ.1 a 19 := by rw [hf, n41 _ _ (by decide), k19]
  have f42 : f a 42 = t5.1 a 42 := by rw [hf, n41 _ _ (by decide)]
  have ew : (τ.1 a 19).toNatClampNeg = b := by rw [ztn, hb]; rfl
  have m21 := s2 21 (by decide) (by decide)
  have m22 := s2 22 (by decide) (by decide)
  have m23 := s2 23 (by decide) (by decide)
  have m24 := s2 24 (by decide) (by decide)
  have m25 := s2 25 (by decide) (by decide)
  have na : ∀ (f : Nat → Nat → Int32) (r i j : Nat) (z : Int32), r ≠ a → zu f r i z a j = f a j := fun f r i j z hr => by rw [zu_n _ _ _ (fun e => hr e.symm)]
  have E : (F_X11_tellMouth a τ).1 = zu (zu (zu (zu (zu f (Y 22) (12 * b) (-2)) (Y 23) (12 * b) 0) (Y 24) (12 * b) 0) (Y 25) (12 * b) 0) (Y 21) b (t5.1 a 42 + (1 : Int32)) := by
    unfold F_X11_tellMouth
    simp only [zlt, zlt2, p1, h5, e0n]
    rw [if_neg h13]
    simp only [y 22 q22, y 23 q23, y 24 q24, y 25 q25, y 21 q21, ← hf, f19, ev, na _ _ _ _ _ m22, na _ _ _ _ _ m23, na _ _ _ _ _ m24, na _ _ _ _ _ m25, ew, f42]
  have d : ∀ i j, 21 ≤ i ∧ i ≤ 25 ∧ 21 ≤ j ∧ j ≤ 25 ∧ i ≠ j → Y i ≠ Y j := fun i j h => s1 i j h.1 h.2.1 h.2.2.1 h.2.2.2.1 h.2.2.2.2
  have o : ∀ (f : Nat → Nat → Int32) (r r' i j : Nat) (z : Int32), r ≠ r' → zu f r j z r' i = f r' i := fun f r r' i j z h => by rw [zu_n _ _ _ (fun e => h e.symm)]
  rw [E]
  refine ⟨?_, fun _ => ⟨?_, ?_, ?_⟩, fun p hp1 hp2 => ?_⟩
  · rw [sM, sC, if_neg (by decide), zu_s, zb_add (by rw [t42', e1]; omega) (by rw [t42', e1]; omega), t42', e1]
    omega
  · rw [o _ _ _ _ _ _ (d 21 23 (by decide)), o _ _ _ _ _ _ (d 25 23 (by decide)), o _ _ _ _ _ _ (d 24 23 (by decide)), zu_s]; exact e0
  · rw [o _ _ _ _ _ _ (d 21 24 (by decide)), o _ _ _ _ _ _ (d 25 24 (by decide)), zu_s]; exact e0
  · rw [o _ _ _ _ _ _ (d 21 25 (by decide)), zu_s]; exact e0
  · rw [sC] at hp2
    have np : ¬ 12 * b = 12 * b + p := by omega
    have j : ∀ (f : Nat → Nat → Int32) (r : Nat) (z : Int32), zu f r (12 * b) z r (12 * b + p) = f r (12 * b + p) := fun f r z => zu_j _ _ _ _ _ np
    rw [o _ _ _ _ _ _ (d 21 22 (by decide)), o _ _ _ _ _ _ (d 25 22 (by decide)), o _ _ _ _ _ _ (d 24 22 (by decide)), o _ _ _ _ _ _ (d 23 22 (by decide)), j, fr 22 (by decide) (by decide), o _ _ _ _ _ _ (d 21 23 (by decide)), o _ _ _ _ _ _ (d 25 23 (by decide)), o _ _ _ _ _ _ (d 24 23 (by decide)), j, o _ _ _ _ _ _ (d 22 23 (by decide)), fr 23 (by decide) (by decide), o _ _ _ _ _ _ (d 21 24 (by decide)), o _ _ _ _ _ _ (d 25 24 (by decide)), j, o _ _ _ _ _ _ (d 23 24 (by decide)), o _ _ _ _ _ _ (d 22 24 (by decide)), fr 24 (by decide) (by decide), o _ _ _ _ _ _ (d 21 25 (by decide)), j, o _ _ _ _ _ _ (d 24 25 (by decide)), o _ _ _ _ _ _ (d 23 25 (by decide)), o _ _ _ _ _ _ (d 22 25 (by decide)), fr 25 (by decide) (by decide)]
    exact g3 p hp1 hp2
end RTG4
