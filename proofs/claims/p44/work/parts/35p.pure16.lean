section ZW5
variable {a k q v nm nO m : Nat} {T : zTn} {τ τ' : zS} {s s' : zA}
theorem wWrong12 (n i : Int32) : (F_X11_wrong a n i τ).1 a 12 = τ.1 a 12 := by
  unfold F_X11_wrong
  simp only [zlt]
  (repeat' split) <;> first | rfl | (show zu (zu τ.1 a 15 _) a 16 _ a 12 = _; rw [zu_j _ _ _ _ _ (by decide), zu_j _ _ _ _ _ (by decide)])
theorem wNamed12 : (F_X11_named a τ).2.1 a 12 = τ.1 a 12 := by
  unfold F_X11_named
  simp only [zlt, zlt2]
  (repeat' split) <;> first | exact wMust12 _ | exact (wWrong12 _ _).trans (wMust12 _)
theorem wBound12 (lo hi : Int32) : (F_X11_bounded a lo hi τ).2.1 a 12 = τ.1 a 12 := by
  unfold F_X11_bounded
  simp only [zlt, zlt2]
  (repeat' split) <;> first | exact wFail12 _ | exact wOn12' | exact wOn12'.trans (wWrong12 _ _)
theorem xNamed (hd : zWd a k q v nm nO) (hT : zTm T m) (hK : zTK T m) (h : zXo a k q v nm nO m T τ s) : ∃ x : Int32, ∃ τ' : zS, F_X11_named a τ = (x, τ') ∧ zXo a k q v nm nO m T τ' (aNew T s) ∧ (s.1 = 0 → x.toInt = s.2.2.1) := by
  obtain ⟨x, τ', p1, p2, p3⟩ := wNamed hd hT hK h.1
  have e := wNamed12 (a := a) (τ := τ)
  rw [p1] at e
  exact ⟨x, τ', p1, ⟨p2, fun z => by rw [show τ'.1 a 12 = τ.1 a 12 from e]; exact h.2 (aNew_z z)⟩, p3⟩
theorem aNumb_z {lo hi : Int} (h : (aNumb T lo hi s).1 = 0) : s.1 = 0 := Classical.byContradiction (fun c => by rw [aNumb_f c] at h; exact c h)
theorem xBound (hd : zWd a k q v nm nO) (hT : zTm T m) (hK : zTK T m) (h : zXo a k q v nm nO m T τ s) (lo hi : Int32) (l u : Int) (e1 : lo.toInt = l) (e2 : hi.toInt = u) : ∃ x : Int32, ∃ τ' : zS, F_X11_bounded a lo hi τ = (x, τ') ∧ zXo a k q v nm nO m T τ' (aNumb T l u s) := by
  subst e1 e2
  obtain ⟨x, τ', p1, p2⟩ := wBounded hd hT hK h.1 lo hi
  have e := wBound12 (a := a) (τ := τ) lo hi
  rw [p1] at e
  exact ⟨x, τ', p1, p2, fun z => by rw [show τ'.1 a 12 = τ.1 a 12 from e]; exact h.2 (aNumb_z z)⟩
/-- an array told apart before -/
theorem xArrB {τ0 : zS} (h0 : zXo a k q v nm nO m T τ0 s') (h : zXo a k q v nm nO m T τ s) (j i : Nat) (x : Int32) (hj : zQs j) : zXo a k q v nm nO m T (zu τ.1 ((τ0.2.2 a j).getD 0) i x, τ.2.1, τ.2.2) s := by
  obtain ⟨d1, d2, d3, d4⟩ := h0.1.1.2.2 j hj
  refine ⟨h.1.cg rfl (zu_n _ _ _ (fun z => d2 z.symm)) (zu_n _ _ _ (fun z => d3 z.symm)) (zu_n _ _ _ (fun z => d4 z.symm)) rfl rfl (fun i hi => ?_), fun z => ?_⟩
  · show zu τ.1 _ _ _ a i = _
    rw [zu_n _ _ _ (fun z => d1 z.symm)]
  · show (zu τ.1 _ _ _ a 12).toInt = 0
    rw [zu_n _ _ _ (fun z => d1 z.symm)]
    exact h.2 z
/-- a faulty state may be told otherwise -/
theorem zXo.ft (h : zXo a k q v nm nO m T τ s) (c : s.1 ≠ 0) (e1 : s'.1 = s.1) (e2 : s'.2.1 = s.2.1) : zXo a k q v nm nO m T τ s' :=
  ⟨h.1.ft c e1 e2, fun z => absurd (e1.symm.trans z) c⟩
theorem aTake_g {w : Int} (c : (aTake T w s).1 ≠ 0) (e1 : s'.1 = s.1) (e2 : s'.2.1 = s.2.1) (e3 : s'.2.2.1 = s.2.2.1) : (aTake T w s').1 = (aTake T w s).1 ∧ (aTake T w s').2.1 = (aTake T w s).2.1 := by
  by_cases hs : s.1 = 0
  · have hs' := e1.trans hs
    by_cases c1 : T.1 s.2.2.1 = w
    · by_cases c2 : 400 ≤ s.2.2.1
      · rw [aTake_4 hs c1 c2, aTake_4 hs' (by rw [e3]; exact c1) (by rw [e3]; exact c2), e3]
        exact ⟨rfl, rfl⟩
      · rw [aTake_1 hs c1 (by omega)] at c
        exact absurd hs c
    · rw [aTake_w hs c1, aTake_w hs' (by rw [e3]; exact c1), e3]
      exact ⟨rfl, rfl⟩
  · rw [aTake_f hs, aTake_f (fun z => hs (e1.symm.trans z))]
    exact ⟨e1, e2⟩
theorem aTake_400 {w : Int} (h : (aTake T w s).1 = 0) : s.2.2.1 < 400 := by
  obtain ⟨h0, c1, -, -⟩ := aTake_i h
  by_cases c2 : 400 ≤ s.2.2.1
  · rw [aTake_4 h0 c1 c2] at h
    exact absurd h (show ¬ (2 : Int) = 0 by decide)
  · omega
/-- the mouth set down -/
theorem wSetM (hd : zWd a k q v nm nO) (h : zXo a k q v nm nO m T τ s) (hc : s.1 = 0) (i j : Nat) (hn : τ.2.1 nm i = (T.2.1 j).2) (hr : zNR (T.2.1 j).1 (T.2.1 j).2) : zXo a k q v nm nO m T (zu τ.1 a 41 1, zu τ.2.1 ((τ.2.2 a 20).getD 0) 0 (τ.2.1 ((τ.2.2 a 8).getD 0) i), τ.2.2) (aSetM s (T.2.1 j)) := by
  obtain ⟨r1, r2, r3, r4, r5, r6, r7, r8, r9⟩ := h.1.2.2.2.2 hc
  obtain ⟨⟨l1, l2, l3, l4, l5⟩, ht, hq⟩ := h.1.1
  have e8 : (τ.2.2 a 8).getD 0 = nm := by rw [l4]; rfl
  have e20 : (τ.2.2 a 20).getD 0 = nO := by rw [l5]; rfl
  obtain ⟨d1, d2, d3, d4⟩ := hd
  rw [e8, e20, hn]
  have g : ∀ x, x ≠ 41 → zu τ.1 a 41 (1 : Int32) a x = τ.1 a x := fun x hx => zu_j _ _ _ _ _ (fun z => hx z.symm)
  have gk : zu τ.1 a 41 (1 : Int32) k = τ.1 k := zu_n _ _ _ d1
  have gq : zu τ.1 a 41 (1 : Int32) q = τ.1 q := zu_n _ _ _ d2
  have gv : zu τ.1 a 41 (1 : Int32) v = τ.1 v := zu_n _ _ _ d3
  have gn : ∀ x, zu τ.2.1 nO 0 x nm = τ.2.1 nm := fun x => zu_n _ _ _ d4
  refine ⟨⟨⟨⟨l1, l2, l3, l4, l5⟩, fun x hx => ?_, hq⟩, ?_, h.1.2.2.1, fun z => absurd hc z, fun _ => ⟨r1, ?_, ?_, r4, fun z => ⟨?_, ?_⟩, ?_, ?_, r8, fun p z1 z2 => ?_⟩⟩, fun _ => ?_⟩
  · show (zu τ.1 a 41 (1 : Int32) k x).toInt = _ ∧ (zu τ.1 a 41 (1 : Int32) q x).toInt = _ ∧ (_ → (zu τ.1 a 41 (1 : Int32) v x).toInt = _) ∧ zu τ.2.1 nO 0 _ nm x = _
    rw [gk, gq, gv, gn]
    exact ht x hx
  · show (zu τ.1 a 41 (1 : Int32) a 13).toInt = s.1
    rw [g 13 (by decide)]; exact h.1.2.1
  · show (zu τ.1 a 41 (1 : Int32) a 11).toInt = _
    rw [g 11 (by decide)]; exact r2
  · show (zu τ.1 a 41 (1 : Int32) a 15).toInt = _
    rw [g 15 (by decide)]; exact r3
  · show (zu τ.1 a 41 (1 : Int32) a 16).toInt = _
    rw [g 16 (by decide)]; exact (r5 z).1
  · exact (r5 z).2
  · show (zu τ.1 a 41 (1 : Int32) a 41).toInt = 1
    rw [zu_s]; decide
  · show (zu τ.1 a 41 (1 : Int32) a 42).toInt = _
    rw [g 42 (by decide)]; exact r7
  · show zu τ.2.1 nO 0 (T.2.1 j).2 nO p = (if p = 0 then T.2.1 j else s.2.2.2.2.2.2.2 p : Int64 × Int64).2 ∧ zNR (if p = 0 then T.2.1 j else s.2.2.2.2.2.2.2 p : Int64 × Int64).1 (if p = 0 then T.2.1 j else s.2.2.2.2.2.2.2 p : Int64 × Int64).2
    rw [zu_a]
    by_cases c : p = 0
    · rw [if_pos c]
      exact ⟨if_pos c, hr⟩
    · rw [if_neg c]
      have q1 := r9 p z1 (Or.inl c)
      exact ⟨(if_neg c).trans q1.1, q1.2⟩
  · show (zu τ.1 a 41 (1 : Int32) a 12).toInt = 0
    rw [g 12 (by decide)]; exact h.2 hc
/-- a place set down -/
theorem wSetP (hd : zWd a k q v nm nO) (h : zXo a k q v nm nO m T τ s) (hc : s.1 = 0) (h11 : s.2.2.2.2.2.2.1 < 11) (i j : Nat) (hn : τ.2.1 nm i = (T.2.1 j).2) (hr : zNR (T.2.1 j).1 (T.2.1 j).2) : zXo a k q v nm nO m T (zu τ.1 a 42 (τ.1 a 42 + (1 : Int32)), zu τ.2.1 ((τ.2.2 a 20).getD 0) (τ.1 a 42 + (1 : Int32)).toNatClampNeg (τ.2.1 ((τ.2.2 a 8).getD 0) i), τ.2.2) (aSetP s (T.2.1 j)) := by
  obtain ⟨r1, r2, r3, r4, r5, r6, r7, r8, r9⟩ := h.1.2.2.2.2 hc
  obtain ⟨⟨l1, l2, l3, l4, l5⟩, ht, hq⟩ := h.1.1
  have e8 : (τ.2.2 a 8).getD 0 = nm := by rw [l4]; rfl
  have e20 : (τ.2.2 a 20).getD 0 = nO := by rw [l5]; rfl
  have e1 : (1 : Int32).toInt = 1 := by decide
  obtain ⟨d1, d2, d3, d4⟩ := hd
  rw [e8, e20, hn]
  have e42 : (τ.1 a 42 + (1 : Int32)).toInt = s.2.2.2.2.2.2.1 + 1 := by rw [zb_add (by rw [r7, e1]; omega) (by rw [r7, e1]; omega), r7, e1]
  have n42 : (τ.1 a 42 + (1 : Int32)).toNatClampNeg = (s.2.2.2.2.2.2.1 + 1).toNat := by rw [ztn, e42]
  rw [n42]
  have g : ∀ x, x ≠ 42 → zu τ.1 a 42 (τ.1 a 42 + (1 : Int32)) a x = τ.1 a x := fun x hx => zu_j _ _ _ _ _ (fun z => hx z.symm)
  have gk : zu τ.1 a 42 (τ.1 a 42 + (1 : Int32)) k = τ.1 k := zu_n _ _ _ d1
  have gq : zu τ.1 a 42 (τ.1 a 42 + (1 : Int32)) q = τ.1 q := zu_n _ _ _ d2
  have gv : zu τ.1 a 42 (τ.1 a 42 + (1 : Int32)) v = τ.1 v := zu_n _ _ _ d3
  have gn : ∀ i x, zu τ.2.1 nO i x nm = τ.2.1 nm := fun i x => zu_n _ _ _ d4
  refine ⟨⟨⟨⟨l1, l2, l3, l4, l5⟩, fun x hx => ?_, hq⟩, ?_, h.1.2.2.1, fun z => absurd hc z, fun _ => ⟨r1, ?_, ?_, r4, fun z => ⟨?_, ?_⟩, ?_, ?_, ?_, fun p z1 z2 => ?_⟩⟩, fun _ => ?_⟩
  · show (zu τ.1 a 42 (τ.1 a 42 + (1 : Int32)) k x).toInt = _ ∧ (zu τ.1 a 42 (τ.1 a 42 + (1 : Int32)) q x).toInt = _ ∧ (_ → (zu τ.1 a 42 (τ.1 a 42 + (1 : Int32)) v x).toInt = _) ∧ zu τ.2.1 nO _ _ nm x = _
    rw [gk, gq, gv, gn]
    exact ht x hx
  · show (zu τ.1 a 42 (τ.1 a 42 + (1 : Int32)) a 13).toInt = s.1
    rw [g 13 (by decide)]; exact h.1.2.1
  · show (zu τ.1 a 42 (τ.1 a 42 + (1 : Int32)) a 11).toInt = _
    rw [g 11 (by decide)]; exact r2
  · show (zu τ.1 a 42 (τ.1 a 42 + (1 : Int32)) a 15).toInt = _
    rw [g 15 (by decide)]; exact r3
  · show (zu τ.1 a 42 (τ.1 a 42 + (1 : Int32)) a 16).toInt = _
    rw [g 16 (by decide)]; exact (r5 z).1
  · exact (r5 z).2
  · show (zu τ.1 a 42 (τ.1 a 42 + (1 : Int32)) a 41).toInt = _
    rw [g 41 (by decide)]; exact r6
  · show (zu τ.1 a 42 (τ.1 a 42 + (1 : Int32)) a 42).toInt = _
    rw [zu_s]; exact e42
  · show 0 ≤ s.2.2.2.2.2.2.1 + 1 ∧ s.2.2.2.2.2.2.1 + 1 ≤ 11
    omega
  · have z1' : (p : Int) ≤ s.2.2.2.2.2.2.1 + 1 := z1
    have z2' : p ≠ 0 ∨ s.2.2.2.2.2.1 ≠ 0 := z2
    show zu τ.2.1 nO (s.2.2.2.2.2.2.1 + 1).toNat (T.2.1 j).2 nO p = (if (p : Int) = s.2.2.2.2.2.2.1 + 1 then T.2.1 j else s.2.2.2.2.2.2.2 p : Int64 × Int64).2 ∧ zNR (if (p : Int) = s.2.2.2.2.2.2.1 + 1 then T.2.1 j else s.2.2.2.2.2.2.2 p : Int64 × Int64).1 (if (p : Int) = s.2.2.2.2.2.2.1 + 1 then T.2.1 j else s.2.2.2.2.2.2.2 p : Int64 × Int64).2
    rw [zu_a]
    by_cases c : (p : Int) = s.2.2.2.2.2.2.1 + 1
    · rw [if_pos c]
      exact ⟨if_pos (by omega), hr⟩
    · rw [if_neg c]
      have q1 := r9 p (by omega) z2'
      exact ⟨(if_neg (by omega)).trans q1.1, q1.2⟩
  · show (zu τ.1 a 42 (τ.1 a 42 + (1 : Int32)) a 12).toInt = 0
    rw [g 12 (by decide)]; exact h.2 hc
end ZW5
