section ZW2
variable {a k q v nm nO m : Nat} {T : zTn} {τ τ' : zS} {s s' : zA}
theorem zWg.ft {β : Int} (h : zWg a k q v nm nO m T β τ s) (c : s.1 ≠ 0) (e1 : s'.1 = s.1) (e2 : s'.2.1 = s.2.1) : zWo a k q v nm nO m T τ s' := by
  refine ⟨h.1, by rw [e1]; exact h.2.1, by rw [e1]; exact h.2.2.1, fun _ => by rw [e2]; exact h.2.2.2.1 c, fun z => absurd (e1.symm.trans z) c⟩
/-- the reference's loop that looks for a name -/
theorem wFind (h : zWo a k q v nm nO m T τ s) (hs : s.1 = 0) (x y : Int64) (hxy : zNR x y) (G : Nat → Int32 → Int32)
    (hG : ∀ (n : Nat) (p : Int32), G (n + 1) p = if (τ.1 a 42).toInt < p.toInt then -1 else if (lg_cmp (τ.2.1 nO p.toNatClampNeg) y).toInt = 0 then p else G n (p + (1 : Int32))) :
    ∀ (n : Nat) (p : Int32) (j : Nat), p.toInt = j → j ≤ 12 → (j ≠ 0 ∨ s.2.2.2.2.2.1 ≠ 0) → 12 - j < n → (G n p).toInt = aFind s.2.2.2.2.2.2.2 s.2.2.2.2.2.2.1 x n j := by
  obtain ⟨r1, r2, r3, r4, r5, r6, r7, r8, r9⟩ := h.2.2.2.2 hs
  intro n
  induction n with
  | zero => intro p j _ _ _ hm; exact absurd hm (by omega)
  | succ n ih =>
    intro p j hp hj h0 hm
    have pj : p.toNatClampNeg = j := by rw [ztn, hp]; rfl
    rw [hG, pj, r7]
    simp only [zcmp0]
    unfold aFind
    by_cases c : s.2.2.2.2.2.2.1 < (j : Int)
    · rw [if_pos (by omega), if_neg (by omega)]
      decide
    · obtain ⟨n1, n2⟩ := r9 j (by omega) h0
      rw [if_neg (by omega), n1, if_pos (show (j : Int) ≤ s.2.2.2.2.2.2.1 ∧ j < 12 from by omega)]
      have e := n2.inj hxy
      by_cases c2 : (s.2.2.2.2.2.2.2 j).1 = x
      · rw [if_pos (e.mp c2), if_pos c2]
        exact hp
      · rw [if_neg (fun z => c2 (e.mpr z)), if_neg c2]
        exact ih _ (j + 1) (zp1 hp (by omega)) (by omega) (by omega) (by omega)
theorem wNum (h : zWo a k q v nm nO m T τ s) (hs : s.1 = 0) (i : Int32) (j : Nat) (hi : i.toInt = j) (x y : Int64) (hxy : zNR x y) (hy : τ.2.1 nm j = y) : (F_X11_numberOf a i τ).toInt = aNum s x := by
  obtain ⟨r1, r2, r3, r4, r5, r6, r7, r8, r9⟩ := h.2.2.2.2 hs
  have e8 : (τ.2.2 a 8).getD 0 = nm := by rw [h.1.1.2.2.2.1]; rfl
  have e20 : (τ.2.2 a 20).getD 0 = nO := by rw [h.1.1.2.2.2.2]; rfl
  have ei : i.toNatClampNeg = j := by rw [ztn, hi]; rfl
  have e0 : (0 : Int32).toNatClampNeg = 0 := by decide
  unfold F_X11_numberOf aNum
  simp only [zlt, e8, e20, ei, e0, hy, zcmp0]
  by_cases c : s.2.2.2.2.2.1 = 0
  · rw [if_pos (r6.trans c), if_pos c]
    exact (wFind h hs x y hxy (F_X11_numberOf_27 a i τ) (fun n p => by rw [F_X11_numberOf_27]; simp only [zlt, e8, e20, ei, hy]) 10000 1 1 (by decide) (by omega) (by omega) (by omega)).trans (aFind_ge _ _ _ (by omega) (by omega))
  · rw [if_neg (fun z => c (r6.symm.trans z)), if_neg c]
    obtain ⟨n1, n2⟩ := r9 0 (by omega) (Or.inr c)
    have e := n2.inj hxy
    rw [n1]
    by_cases c2 : (s.2.2.2.2.2.2.2 0).1 = x
    · rw [if_pos (e.mp c2)]
      unfold aFind
      rw [if_pos (by omega), if_pos c2]
      decide
    · rw [if_neg (fun z => c2 (e.mpr z))]
      unfold aFind
      rw [if_pos (by omega), if_neg c2]
      exact (wFind h hs x y hxy (F_X11_numberOf_27_1 a i τ) (fun n p => by rw [F_X11_numberOf_27_1]; simp only [zlt, e8, e20, ei, hy]) 10000 1 1 (by decide) (by omega) (by omega) (by omega)).trans (aFind_ge _ _ _ (by omega) (by decide))
theorem aLate_e (hs : s.1 = 0) (n : Int) : aLate T n s = (s.1, s.2.1, s.2.2.1, (if s.2.2.2.1 ≠ 0 then s.2.2.2.1 else n), (if s.2.2.2.1 ≠ 0 then s.2.2.2.2.1 else T.2.2.2 s.2.2.1), s.2.2.2.2.2) := by
  unfold aLate
  rw [if_neg (zne hs)]
  by_cases c : s.2.2.2.1 = 0
  · rw [if_neg (zne c), if_neg (zne c), if_neg (zne c)]
  · rw [if_pos c, if_pos c, if_pos c]
theorem aLate_s (n : Int) : (aLate T n s).1 = s.1 ∧ (aLate T n s).2.1 = s.2.1 ∧ (aLate T n s).2.2.1 = s.2.2.1 := by
  unfold aLate
  split
  · exact ⟨rfl, rfl, rfl⟩
  · split <;> exact ⟨rfl, rfl, rfl⟩
theorem aTake_w {w : Int} (hs : s.1 = 0) (c : T.1 s.2.2.1 ≠ w) : aTake T w s = (1, T.2.2.2 s.2.2.1, s.2.2) := by
  unfold aTake aFail
  exact (if_neg (zne hs)).trans ((if_pos c).trans (if_neg (zne hs)))
theorem aTake_4 {w : Int} (hs : s.1 = 0) (c : T.1 s.2.2.1 = w) (c2 : 400 ≤ s.2.2.1) : aTake T w s = (2, T.2.2.2 s.2.2.1, s.2.2) := by
  unfold aTake aFail
  exact (if_neg (zne hs)).trans ((if_neg (zne c)).trans ((if_pos c2).trans (if_neg (zne hs))))
theorem aTake_1 {w : Int} (hs : s.1 = 0) (c : T.1 s.2.2.1 = w) (c2 : s.2.2.1 < 400) : aTake T w s = (s.1, s.2.1, s.2.2.1 + 1, s.2.2.2) := by
  unfold aTake
  exact (if_neg (zne hs)).trans ((if_neg (zne c)).trans (if_neg (by omega)))
/-- a late fault at the token just passed -/
theorem wLateB (hd : zWd a k q v nm nO) (hT : zTm T m) (hK : zTK T m) (h : zWo a k q v nm nO m T τ (aTake T 22 s)) (h0 : zWr a nO m (T.2.2.2 s.2.2.1) τ' s) (hc : (aTake T 22 s).1 = 0) (n i : Int32) (hn : 0 < n.toInt) (hi : i.toInt = s.2.2.1) : zWo a k q v nm nO m T (F_X11_wrong a n i τ) (aTake T 22 (aLate T n.toInt s)) := by
  obtain ⟨c1, c2, c3, c4⟩ := aTake_i hc
  have r := h.2.2.2.2 hc
  have c5 : s.2.2.1 < 400 := by
    have z := hc
    unfold aTake at z
    rw [if_neg (zne c1), if_neg (zne c2)] at z
    by_cases c2 : 400 ≤ s.2.2.1
    · rw [if_pos c2] at z; exact absurd z (aFail_1 (by decide))
    · omega
  have em : T.2.2.2 s.2.2.1 < T.2.2.2 (s.2.2.1 + 1) := hT.1 _ (by have := r.1; omega)
  obtain ⟨s2, hs2⟩ : ∃ s2 : zA, s2 = aTake T 22 s := ⟨_, rfl⟩
  rw [← hs2] at h hc c3 c4 r
  obtain ⟨w1, w2, w3, w4, w5, w6⟩ := wWrong hd h hc n i s.2.2.1 hn hi h0.1 (fun z => by
    rw [c4] at z ⊢
    exact (h0.2.2.2.2.1 z).2) (Or.inl (by rw [c3]; exact em)) _ rfl
  obtain ⟨r1, r2, r3, r4, r5, r6, r7, r8, r9⟩ := r
  have eA : aTake T 22 (aLate T n.toInt s) = (s2.1, s2.2.1, s2.2.2.1, (if s2.2.2.2.1 ≠ 0 then s2.2.2.2.1 else n.toInt), (if s2.2.2.2.1 ≠ 0 then s2.2.2.2.2.1 else T.2.2.2 s.2.2.1), s2.2.2.2.2.2) := by
    obtain ⟨l1, l2, l3⟩ := aLate_s (T := T) (s := s) n.toInt
    rw [aTake_1 (s := aLate T n.toInt s) (l1.trans c1) (by rw [l3]; exact c2) (by rw [l3]; exact c5), aLate_e c1, hs2, aTake_1 c1 c2 c5]
  rw [eA]
  refine ⟨w1, w3.trans hc.symm, h.2.2.1, fun z => absurd hc z, fun _ => ⟨r1, ?_, w5, ?_, fun z => ⟨w6, ?_⟩, ?_, ?_, r8, ?_⟩⟩
  · rw [w4 11 (by decide) (by decide)]; exact r2
  · show 0 ≤ if s2.2.2.2.1 ≠ 0 then s2.2.2.2.1 else n.toInt
    split <;> omega
  · show (if s2.2.2.2.1 ≠ 0 then s2.2.2.2.2.1 else T.2.2.2 s.2.2.1) < T.2.2.2 s2.2.2.1
    split
    · next y => exact (r5 y).2
    · rw [c3]; exact em
  · rw [w4 41 (by decide) (by decide)]; exact r6
  · rw [w4 42 (by decide) (by decide)]; exact r7
  · rw [w2]; exact r9
theorem aTake_ff {w : Int} (h : (aTake T w s).1 ≠ 0) (hs : s.1 = 0) (n : Int) : (aTake T w (aLate T n s)).1 = (aTake T w s).1 ∧ (aTake T w (aLate T n s)).2.1 = (aTake T w s).2.1 := by
  obtain ⟨l1, l2, l3⟩ := aLate_s (T := T) (s := s) n
  by_cases c1 : T.1 s.2.2.1 = w
  · by_cases c2 : 400 ≤ s.2.2.1
    · rw [aTake_4 hs c1 c2, aTake_4 (s := aLate T n s) (l1.trans hs) (by rw [l3]; exact c1) (by rw [l3]; exact c2), l3]
      exact ⟨rfl, rfl⟩
    · rw [aTake_1 hs c1 (by omega)] at h
      exact absurd hs h
  · rw [aTake_w hs c1, aTake_w (s := aLate T n s) (l1.trans hs) (by rw [l3]; exact c1), l3]
    exact ⟨rfl, rfl⟩
theorem wNamed (hd : zWd a k q v nm nO) (hT : zTm T m) (hK : zTK T m) (h : zWo a k q v nm nO m T τ s) : ∃ x : Int32, ∃ τ' : zS, F_X11_named a τ = (x, τ') ∧ zWo a k q v nm nO m T τ' (aNew T s) ∧ (s.1 = 0 → x.toInt = s.2.2.1) := by
  unfold F_X11_named
  simp only [zlt, zlt2]
  have h1 := wMust hd hT hK h 1 22 (by decide) (by decide)
  rw [h1.2.1]
  by_cases c : (aTake T 22 s).1 = 0
  · rw [if_pos c]
    obtain ⟨c1, c2, c3, c4⟩ := aTake_i c
    have r := h.2.2.2.2 c1
    have nr := hT.2.2 _ r.1 c2
    have en := wNum h1 c (τ.1 a 11) s.2.2.1 r.2.1 (T.2.1 s.2.2.1).1 (T.2.1 s.2.2.1).2 nr (h1.1.2.1 _ r.1).2.2.2
    have en2 : aNum (aTake T 22 s) (T.2.1 s.2.2.1).1 = aNum s (T.2.1 s.2.2.1).1 := by
      unfold aNum
      rw [c4]
    rw [en2] at en
    unfold aNew
    have nn : aNum s (T.2.1 s.2.2.1).1 = -1 ∨ 0 ≤ aNum s (T.2.1 s.2.2.1).1 := by
      have key : ∀ (n p : Nat), aFind s.2.2.2.2.2.2.2 s.2.2.2.2.2.2.1 (T.2.1 s.2.2.1).1 n p = -1 ∨ 0 ≤ aFind s.2.2.2.2.2.2.2 s.2.2.2.2.2.2.1 (T.2.1 s.2.2.1).1 n p := by
        intro n
        induction n with
        | zero => intro p; exact Or.inl rfl
        | succ n ih =>
          intro p
          unfold aFind
          split
          · split
            · exact Or.inr (by omega)
            · exact ih _
          · exact Or.inl rfl
      exact key _ _
    by_cases c5 : aNum s (T.2.1 s.2.2.1).1 = -1
    · rw [if_pos (by omega), if_neg (fun z => z.2.2 c5)]
      exact ⟨_, _, rfl, h1, fun _ => r.2.1⟩
    · rw [if_neg (by omega), if_pos ⟨c1, c2, c5⟩]
      exact ⟨_, _, rfl, wLateB hd hT hK h1 r c 3 _ (by decide) r.2.1, fun _ => r.2.1⟩
  · rw [if_neg c]
    refine ⟨_, _, rfl, ?_, fun z => (h.2.2.2.2 z).2.1⟩
    unfold aNew
    split
    · next z =>
      obtain ⟨e1, e2⟩ := aTake_ff c z.1 3
      exact h1.ft c e1 e2
    · exact h1
theorem wBounded (hd : zWd a k q v nm nO) (hT : zTm T m) (hK : zTK T m) (h : zWo a k q v nm nO m T τ s) (lo hi : Int32) : ∃ x : Int32, ∃ τ' : zS, F_X11_bounded a lo hi τ = (x, τ') ∧ zWo a k q v nm nO m T τ' (aNumb T lo.toInt hi.toInt s) := by
  have e7 : (τ.2.2 a 7).getD 0 = v := by rw [h.1.1.2.2.1]; rfl
  unfold F_X11_bounded
  simp only [zlt, zlt2, e7]
  by_cases c : s.1 = 0
  · rw [if_neg (by rw [h.2.1]; omega)]
    obtain ⟨r1, r2, r3, r4, r5, r6, r7, r8, r9⟩ := h.2.2.2.2 c
    have ei : (τ.1 a 11).toNatClampNeg = s.2.2.1 := by rw [ztn, r2]; rfl
    have i2 := wIs hT h 2 23 (by decide) (by decide)
    rw [ei]
    by_cases c1 : T.1 s.2.2.1 = 23
    · rw [if_neg (show ¬ (F_X11_is a 2 τ).toInt = 0 by rw [i2]; exact fun z => z ⟨c, c1⟩), (h.1.2.1 _ r1).2.2.1 c1]
      have late : zWg a k q v nm nO m T (T.2.2.2 s.2.2.1 + 1) (F_X11_wrong a 5 (τ.1 a 11) τ) (aLate T 5 s) := by
        obtain ⟨w1, w2, w3, w4, w5, w6⟩ := wWrong hd h c 5 (τ.1 a 11) s.2.2.1 (by decide) r2 r1 (fun z => (r5 z).2) (Or.inr rfl) _ rfl
        rw [aLate_e c]
        refine ⟨w1, w3.trans c.symm, h.2.2.1, fun z => absurd c z, fun _ => ⟨r1, ?_, w5, ?_, fun z => ⟨w6, ?_⟩, ?_, ?_, r8, ?_⟩⟩
        · rw [w4 11 (by decide) (by decide)]; exact r2
        · show 0 ≤ if s.2.2.2.1 ≠ 0 then s.2.2.2.1 else 5
          split <;> omega
        · show (if s.2.2.2.1 ≠ 0 then s.2.2.2.2.1 else T.2.2.2 s.2.2.1) < T.2.2.2 s.2.2.1 + 1
          split
          · next y => have := (r5 y).2; omega
          · omega
        · rw [w4 41 (by decide) (by decide)]; exact r6
        · rw [w4 42 (by decide) (by decide)]; exact r7
        · rw [w2]; exact r9
      have li : (aLate T 5 s).1 = s.1 ∧ (aLate T 5 s).2.2.1 = s.2.2.1 := by rw [aLate_e c]; exact ⟨rfl, rfl⟩
      have on1 : zWo a k q v nm nO m T (F_X11_goesOn a (F_X11_wrong a 5 (τ.1 a 11) τ)) (aTake T 23 (aLate T 5 s)) := by
        rw [aTake_on (by rw [li.2]; exact c1)]
        exact wOn hd hT hK late (fun _ => by rw [li.2]; omega) (fun _ => by rw [li.2]; omega)
      have on2 : zWo a k q v nm nO m T (F_X11_goesOn a τ) (aTake T 23 s) := by
        rw [aTake_on c1]
        exact wOn hd hT hK h (fun _ => by omega) (fun _ => by omega)
      unfold aNumb
      by_cases c2 : T.2.2.1 s.2.2.1 < lo.toInt
      · rw [if_pos c2, if_pos ⟨c, c1, by omega⟩]
        exact ⟨_, _, rfl, on1⟩
      · rw [if_neg c2]
        by_cases c3 : hi.toInt < T.2.2.1 s.2.2.1
        · rw [if_pos c3, if_pos ⟨c, c1, by omega⟩]
          exact ⟨_, _, rfl, on1⟩
        · rw [if_neg c3, if_neg (fun z => z.2.2 (by omega))]
          exact ⟨_, _, rfl, on2⟩
    · rw [if_pos (show (F_X11_is a 2 τ).toInt = 0 by rw [i2]; exact fun z => c1 z.2)]
      refine ⟨_, _, rfl, ?_⟩
      have e : aNumb T lo.toInt hi.toInt s = aFail T 1 s := by
        unfold aNumb
        rw [if_neg (fun z => c1 z.2.1)]
        unfold aTake
        rw [if_neg (zne c), if_pos c1]
      rw [e]
      exact wFail' hd h 1 1 (by decide) (by decide)
  · rw [if_pos (by rw [h.2.1]; have := h.2.2.1; omega)]
    refine ⟨_, _, rfl, ?_⟩
    rw [aNumb_f c]
    have q := wFail' hd h 1 1 (by decide) (by decide)
    rw [aFail_f c] at q
    exact q
end ZW2
