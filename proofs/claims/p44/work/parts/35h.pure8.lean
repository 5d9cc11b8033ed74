section ZV2
variable {P tk kA vA qA tt N m : Nat} {T : zTn} {σ σ' : zS} {s : zA}
/-- the text's cells alone have changed -/
theorem zV.told (h : zV P tk kA vA qA tt N m T σ s) (e0 : σ'.2.2 = σ.2.2) (e2 : σ'.2.1 = σ.2.1) (e1 : ∀ a, a ≠ tt → (∀ j, (j = 2 ∨ j = 3 ∨ j = 4 ∨ j = 5 ∨ j = 6 ∨ j = 7 ∨ j = 9) → a ≠ (σ.2.2 tt j).getD 0) → σ'.1 a = σ.1 a) : zV P tk kA vA qA tt N m T σ' s := by
  obtain ⟨⟨d1, d2, d3, d4⟩, d5⟩ := h.1.2.2.2
  exact h.cg e0 (e1 _ (fun z => d2 z.symm) (fun j hj z => (d5 j hj).2.1 z.symm)) (e1 _ (fun z => d3 z.symm) (fun j hj z => (d5 j hj).2.2.1 z.symm)) (e1 _ (fun z => d4 z.symm) (fun j hj z => (d5 j hj).2.2.2 z.symm)) (by rw [e2]) (e1 _ (fun z => d1 z.symm) (fun j hj z => (d5 j hj).1 z.symm)) (by rw [e2]) (by rw [e2])
theorem vStep (h : zV P tk kA vA qA tt N m T σ s) (a b : Int32) : zV P tk kA vA qA tt N m T (F_X9_addStep tt a b σ) s := by
  unfold F_X9_addStep
  simp only [zlt]
  by_cases c : (σ.1 tt 8).toInt < (420 : Int32).toInt
  · rw [if_pos c]
    refine h.told rfl rfl (fun x h1 h2 => ?_)
    show zu (zu (zu σ.1 _ _ _) _ _ _) tt 8 _ x = _
    rw [zu_n _ _ _ h1, zu_n _ _ _ (h2 7 (by omega)), zu_n _ _ _ (h2 6 (by omega))]
  · rw [if_neg c]
    exact h
theorem vSetV (h : zV P tk kA vA qA tt N m T σ s) (a b : Int32) : zV P tk kA vA qA tt N m T (F_X9_setValue tt a b σ) s := by
  unfold F_X9_setValue
  simp only [zlt]
  by_cases c : a.toInt < 0
  · rw [if_pos c]; exact h
  rw [if_neg c]
  by_cases c2 : a.toInt < (σ.1 tt 8).toInt
  · rw [if_pos c2]
    refine h.told rfl rfl (fun x h1 h2 => ?_)
    show zu σ.1 _ _ _ x = _
    rw [zu_n _ _ _ (h2 7 (by omega))]
  · rw [if_neg c2]
    exact h
theorem vSetP (h : zV P tk kA vA qA tt N m T σ s) (a b c d e : Int32) : zV P tk kA vA qA tt N m T (F_X9_setPlace tt a b c d e σ) s := by
  unfold F_X9_setPlace
  simp only [zlt]
  by_cases c1 : a.toInt < 0
  · rw [if_pos c1]; exact h
  rw [if_neg c1]
  by_cases c2 : a.toInt < (12 : Int32).toInt
  · rw [if_pos c2]
    refine h.told rfl rfl (fun x h1 h2 => ?_)
    show zu (zu (zu (zu σ.1 _ _ _) _ _ _) _ _ _) _ _ _ x = _
    rw [zu_n _ _ _ (h2 5 (by omega)), zu_n _ _ _ (h2 4 (by omega)), zu_n _ _ _ (h2 3 (by omega)), zu_n _ _ _ (h2 2 (by omega))]
  · rw [if_neg c2]
    exact h
theorem vPutT (h : zV P tk kA vA qA tt N m T σ s) (j : Nat) (v : Int32) : zV P tk kA vA qA tt N m T (zu σ.1 tt j v, σ.2.1, σ.2.2) s :=
  h.told rfl rfl (fun x h1 _ => zu_n _ _ _ h1)
theorem vPutS (h : zV P tk kA vA qA tt N m T σ s) (j : Nat) (v : Int32) : zV P tk kA vA qA tt N m T (zu σ.1 ((σ.2.2 tt 9).getD 0) j v, σ.2.1, σ.2.2) s :=
  h.told rfl rfl (fun x _ h2 => zu_n _ _ _ (h2 9 (by omega)))
theorem vtt (h : zV P tk kA vA qA tt N m T σ s) : (σ.2.2 P 1).getD 0 = tt := by rw [h.1.1.2.1]; rfl
theorem vnn (h : zV P tk kA vA qA tt N m T σ s) : (σ.2.2 tt 1).getD 0 = N := by rw [h.1.1.2.2.2.2.2]; rfl
/-- the loop that looks for a name, whichever way it was come to -/
theorem vFind (h : zV P tk kA vA qA tt N m T σ s) (hs : s.1 = 0) (x : Int64) (G : Nat → Int32 → zS → Int32 × zS)
    (hG : ∀ (n : Nat) (p : Int32) (τ : zS), G (n + 1) p τ = if (τ.1 P 7).toInt < p.toInt then (-1, τ) else if p.toInt < (12 : Int32).toInt then (if (lg_cmp (τ.2.1 ((τ.2.2 ((τ.2.2 P 1).getD 0) 1).getD 0) p.toNatClampNeg) x).toInt = 0 then (p, τ) else G n (p + (1 : Int32)) τ) else (0, τ)) :
    ∀ (n : Nat) (p : Int32) (k : Nat), p.toInt = k → k ≤ 12 → (k ≠ 0 ∨ s.2.2.2.2.2.1 ≠ 0) → 12 - k < n → ∃ v : Int32, G n p σ = (v, σ) ∧ v.toInt = aFind s.2.2.2.2.2.2.2 s.2.2.2.2.2.2.1 x n k := by
  have r := h.2.2.2 hs
  obtain ⟨r1, r2, r3, r4, r5, r6, r7, r8, r9, r10, r11⟩ := r
  intro n
  induction n with
  | zero => intro p k _ _ _ hm; exact absurd hm (by omega)
  | succ n ih =>
    intro p k hp hk h0 hm
    have e12 : (12 : Int32).toInt = 12 := by decide
    have pk : p.toNatClampNeg = k := by rw [ztn, hp]; rfl
    rw [hG, vtt h, vnn h, pk, r9, e12]
    simp only [zcmp0]
    unfold aFind
    by_cases c : s.2.2.2.2.2.2.1 < (k : Int)
    · rw [if_pos (by omega), if_neg (by omega)]
      exact ⟨-1, rfl, by decide⟩
    · have kl : k < 12 := by omega
      rw [if_neg (by omega), if_pos (by omega), r11 k (by omega) h0, if_pos (show (k : Int) ≤ s.2.2.2.2.2.2.1 ∧ k < 12 from ⟨by omega, kl⟩)]
      by_cases c2 : (s.2.2.2.2.2.2.2 k).1 = x
      · rw [if_pos c2, if_pos c2]
        exact ⟨p, rfl, hp⟩
      · rw [if_neg c2, if_neg c2]
        exact ih _ (k + 1) (zp1 hp (by omega)) (by omega) (by omega) (by omega)
theorem aFind_ge {nm : Nat → Int64 × Int64} {pt : Int} {x : Int64} : ∀ (n n' p : Nat), 12 - p < n → 12 - p < n' → aFind nm pt x n p = aFind nm pt x n' p := by
  intro n
  induction n with
  | zero => intro n' p h; exact absurd h (by omega)
  | succ n ih =>
    intro n' p h h'
    obtain ⟨q, rfl⟩ : ∃ q, n' = q + 1 := ⟨n' - 1, by omega⟩
    unfold aFind
    by_cases c : (p : Int) ≤ pt ∧ p < 12
    · rw [if_pos c, if_pos c, ih q (p + 1) (by omega) (by omega)]
    · rw [if_neg c, if_neg c]
theorem vPN (h : zV P tk kA vA qA tt N m T σ s) (hs : s.1 = 0) (x : Int64) : ∃ v : Int32, F_X3_placeNamed P x σ = (v, σ) ∧ v.toInt = aNum s x := by
  have r8 := (h.2.2.2 hs).2.2.2.2.2.2.2.1
  unfold F_X3_placeNamed aNum
  simp only [zlt]
  by_cases c : s.2.2.2.2.2.1 = 0
  · rw [if_pos (r8.trans c), if_pos c]
    obtain ⟨v, h1, h2⟩ := vFind h hs x (F_X3_placeNamed_13 P x) (fun n p τ => by rw [F_X3_placeNamed_13]; rfl) 10000 1 1 (by decide) (by omega) (by omega) (by omega)
    exact ⟨v, h1, h2.trans (aFind_ge _ _ _ (by omega) (by omega))⟩
  · rw [if_neg (fun z => c (r8.symm.trans z)), if_neg c]
    obtain ⟨v, h1, h2⟩ := vFind h hs x (F_X3_placeNamed_13_1 P x) (fun n p τ => by rw [F_X3_placeNamed_13_1]; rfl) 10000 0 0 (by decide) (by omega) (Or.inr c) (by omega)
    exact ⟨v, h1, h2.trans (aFind_ge _ _ _ (by omega) (by omega))⟩
/-- a faulty state stays -/
theorem aNew_f (c : s.1 ≠ 0) : aNew T s = s := by unfold aNew; rw [if_neg (fun z => c z.1), aTake_f c]
theorem aKnown_f (c : s.1 ≠ 0) : aKnown T s = s := by unfold aKnown; rw [if_neg (fun z => c z.1), aTake_f c]
theorem aNumb_f {lo hi : Int} (c : s.1 ≠ 0) : aNumb T lo hi s = s := by unfold aNumb; rw [if_neg (fun z => c z.1), aTake_f c]
theorem vNew (hd : zVd P tk kA vA qA N) (hT : zTK T m) (h : zV P tk kA vA qA tt N m T σ s) : ∃ x : Int64, ∃ σ' : zS, F_X3_newName P σ = (x, σ') ∧ zV P tk kA vA qA tt N m T σ' (aNew T s) ∧ (s.1 = 0 → x = (T.2.1 s.2.2.1).1) := by
  have e22 : (22 : Int32).toInt = 22 := by decide
  have em : (-1 : Int32).toInt = -1 := by decide
  unfold F_X3_newName
  simp only [zlt, zlt2, e22, em]
  by_cases c : s.1 = 0
  · obtain ⟨r1, r2, r3, r4, -⟩ := h.2.2.2 c
    by_cases c1 : T.1 s.2.2.1 = 22
    · rw [if_pos (r3.trans c1)]
      obtain ⟨v, p1, p2⟩ := vPN h c (σ.2.1 P 4)
      rw [p1]
      rw [r4] at p2
      unfold aNew
      by_cases c2 : aNum s (T.2.1 s.2.2.1).1 = -1
      · rw [if_pos (p2.trans c2), if_neg (fun z => z.2.2 c2)]
        exact ⟨_, _, rfl, vTake hd hT h 22 (by decide), fun _ => r4⟩
      · rw [if_neg (fun z => c2 (p2.symm.trans z)), if_pos ⟨c, c1, c2⟩]
        exact ⟨_, _, rfl, vTake hd hT (vLate hd h c 3) 22 (by decide), fun _ => r4⟩
    · rw [if_neg (fun z => c1 (r3.symm.trans z))]
      unfold aNew
      rw [if_neg (fun z => c1 z.2.1)]
      exact ⟨_, _, rfl, vTake hd hT h 22 (by decide), fun _ => r4⟩
  · rw [if_neg (by rw [(h.2.2.1 c).2]; decide)]
    unfold aNew
    rw [if_neg (fun z => c z.1)]
    exact ⟨_, _, rfl, vTake hd hT h 22 (by decide), fun z => absurd z c⟩
theorem vPNf (h : zV P tk kA vA qA tt N m T σ s) (x : Int64) : ∃ v : Int32, F_X3_placeNamed P x σ = (v, σ) := by
  have G : ∀ (G : Nat → Int32 → zS → Int32 × zS), (∀ p τ, G 0 p τ = (0, τ)) → (∀ (n : Nat) (p : Int32) (τ : zS), G (n + 1) p τ = if (τ.1 P 7).toInt < p.toInt then (-1, τ) else if p.toInt < (12 : Int32).toInt then (if (lg_cmp (τ.2.1 ((τ.2.2 ((τ.2.2 P 1).getD 0) 1).getD 0) p.toNatClampNeg) x).toInt = 0 then (p, τ) else G n (p + (1 : Int32)) τ) else (0, τ)) → ∀ (n : Nat) (p : Int32), ∃ v : Int32, G n p σ = (v, σ) := by
    intro G h0 h1 n
    induction n with
    | zero => intro p; exact ⟨0, h0 p σ⟩
    | succ n ih =>
      intro p
      rw [h1]
      split
      · exact ⟨_, rfl⟩
      · split
        · split
          · exact ⟨_, rfl⟩
          · exact ih _
        · exact ⟨_, rfl⟩
  unfold F_X3_placeNamed
  simp only [zlt]
  split
  · exact G (F_X3_placeNamed_13 P x) (fun p τ => by rw [F_X3_placeNamed_13]) (fun n p τ => by rw [F_X3_placeNamed_13]; rfl) _ _
  · exact G (F_X3_placeNamed_13_1 P x) (fun p τ => by rw [F_X3_placeNamed_13_1]) (fun n p τ => by rw [F_X3_placeNamed_13_1]; rfl) _ _
theorem vKnown (hd : zVd P tk kA vA qA N) (hT : zTK T m) (h : zV P tk kA vA qA tt N m T σ s) : ∃ x : Int32, ∃ σ' : zS, F_X3_knownName P σ = (x, σ') ∧ zV P tk kA vA qA tt N m T σ' (aKnown T s) := by
  have e22 : (22 : Int32).toInt = 22 := by decide
  have em : (-1 : Int32).toInt = -1 := by decide
  obtain ⟨v, p1⟩ := vPNf h (σ.2.1 P 4)
  unfold F_X3_knownName
  simp only [zlt, zlt2, e22, em, p1]
  by_cases c : s.1 = 0
  · obtain ⟨r1, r2, r3, r4, -⟩ := h.2.2.2 c
    obtain ⟨v', p1', p2⟩ := vPN h c (σ.2.1 P 4)
    rw [p1] at p1'
    have ev : v = v' := congrArg Prod.fst p1'
    rw [← ev, r4] at p2
    by_cases c1 : T.1 s.2.2.1 = 22
    · rw [if_pos (r3.trans c1)]
      unfold aKnown
      by_cases c2 : aNum s (T.2.1 s.2.2.1).1 = -1
      · rw [if_pos (p2.trans c2), if_pos (show s.1 = 0 ∧ T.1 s.2.2.1 = 22 ∧ aNum s (T.2.1 s.2.2.1).1 = -1 from ⟨c, c1, c2⟩)]
        exact ⟨_, _, rfl, vTake hd hT (vLate hd h c 4) 22 (by decide)⟩
      · rw [if_neg (fun z => c2 (p2.symm.trans z)), if_neg (show ¬ (s.1 = 0 ∧ T.1 s.2.2.1 = 22 ∧ aNum s (T.2.1 s.2.2.1).1 = -1) from fun z => c2 z.2.2)]
        exact ⟨_, _, rfl, vTake hd hT h 22 (by decide)⟩
    · rw [if_neg (fun z => c1 (r3.symm.trans z))]
      unfold aKnown
      rw [if_neg (show ¬ (s.1 = 0 ∧ T.1 s.2.2.1 = 22 ∧ aNum s (T.2.1 s.2.2.1).1 = -1) from fun z => c1 z.2.1)]
      exact ⟨_, _, rfl, vTake hd hT h 22 (by decide)⟩
  · rw [if_neg (by rw [(h.2.2.1 c).2]; decide)]
    unfold aKnown
    rw [if_neg (show ¬ (s.1 = 0 ∧ T.1 s.2.2.1 = 22 ∧ aNum s (T.2.1 s.2.2.1).1 = -1) from fun z => c z.1)]
    exact ⟨_, _, rfl, vTake hd hT h 22 (by decide)⟩
theorem zwi (x a b : Int32) : ((F_X10_isWithin x a b).toInt = 0) = ¬ (a.toInt ≤ x.toInt ∧ x.toInt ≤ b.toInt) := by
  unfold F_X10_isWithin
  simp only [zlt]
  by_cases h1 : x.toInt < a.toInt
  · rw [if_pos h1]
    exact propext ⟨fun _ h => by omega, fun _ => by decide⟩
  · rw [if_neg h1]
    by_cases h2 : b.toInt < x.toInt
    · rw [if_pos h2]
      exact propext ⟨fun _ h => by omega, fun _ => by decide⟩
    · rw [if_neg h2]
      exact propext ⟨fun h => absurd h (by decide), fun h => absurd (by omega) h⟩
theorem vNumb (hd : zVd P tk kA vA qA N) (hT : zTK T m) (h : zV P tk kA vA qA tt N m T σ s) (lo hi : Int32) : ∃ x : Int32, ∃ σ' : zS, F_X3_number P lo hi σ = (x, σ') ∧ zV P tk kA vA qA tt N m T σ' (aNumb T lo.toInt hi.toInt s) := by
  have e23 : (23 : Int32).toInt = 23 := by decide
  unfold F_X3_number
  simp only [zlt, zlt2, e23, zwi]
  by_cases c : s.1 = 0
  · obtain ⟨r1, r2, r3, r4, -⟩ := h.2.2.2 c
    by_cases c1 : T.1 s.2.2.1 = 23
    · rw [if_pos (r3.trans c1)]
      have q := (h.1.2.2.1 s.2.2.1)
      have e : (σ.2.1 P 4).toInt32.toInt = T.2.2.1 s.2.2.1 := by rw [r4, ← q.2.1, q.2.2.1]
      rw [e]
      unfold aNumb
      by_cases c2 : lo.toInt ≤ T.2.2.1 s.2.2.1 ∧ T.2.2.1 s.2.2.1 ≤ hi.toInt
      · rw [if_neg (fun z => z c2), if_neg (fun z => z.2.2 c2)]
        exact ⟨_, _, rfl, vTake hd hT h 23 (by decide)⟩
      · rw [if_pos c2, if_pos ⟨c, c1, c2⟩]
        exact ⟨_, _, rfl, vTake hd hT (vLate hd h c 5) 23 (by decide)⟩
    · rw [if_neg (fun z => c1 (r3.symm.trans z))]
      unfold aNumb
      rw [if_neg (fun z => c1 z.2.1)]
      exact ⟨_, _, rfl, vTake hd hT h 23 (by decide)⟩
  · rw [if_neg (by rw [(h.2.2.1 c).2]; decide)]
    unfold aNumb
    rw [if_neg (fun z => c z.1)]
    exact ⟨_, _, rfl, vTake hd hT h 23 (by decide)⟩
/-- the mouth, a place -/
def aSetM (s : zA) (x : Int64 × Int64) : zA := (s.1, s.2.1, s.2.2.1, s.2.2.2.1, s.2.2.2.2.1, 1, s.2.2.2.2.2.2.1, fun p => if p = 0 then x else s.2.2.2.2.2.2.2 p)
def aSetP (s : zA) (x : Int64 × Int64) : zA := (s.1, s.2.1, s.2.2.1, s.2.2.2.1, s.2.2.2.2.1, s.2.2.2.2.2.1, s.2.2.2.2.2.2.1 + 1, fun p => if (p : Int) = s.2.2.2.2.2.2.1 + 1 then x else s.2.2.2.2.2.2.2 p)
def aMouth (T : zTn) (s : zA) : zA :=
  if (aNew T (aTake T 0 (if s.2.2.2.2.2.1 ≠ 0 then aFail T 2 s else s))).1 = 0 then aSetM (aNew T (aTake T 0 (if s.2.2.2.2.2.1 ≠ 0 then aFail T 2 s else s))) (T.2.1 (aTake T 0 (if s.2.2.2.2.2.1 ≠ 0 then aFail T 2 s else s)).2.2.1) else aNew T (aTake T 0 (if s.2.2.2.2.2.1 ≠ 0 then aFail T 2 s else s))
def aPlace1 (T : zTn) (s : zA) : zA := aTake T 1 (if 11 ≤ s.2.2.2.2.2.2.1 then aFail T 2 s else s)
def aPlace2 (T : zTn) (s : zA) : zA := aNumb T 0 99 (aNumb T 0 99 (aNumb T 1 99 (aKnown T (aNew T s))))
def aPlace (T : zTn) (s : zA) : zA := if (aPlace2 T (aPlace1 T s)).1 = 0 ∧ (aPlace2 T (aPlace1 T s)).2.2.2.2.2.2.1 < 11 then aSetP (aPlace2 T (aPlace1 T s)) (T.2.1 (aPlace1 T s).2.2.1) else aPlace2 T (aPlace1 T s)
/-- what a token more leaves as it was -/
theorem aNew_z (h : (aNew T s).1 = 0) : s.1 = 0 := Classical.byContradiction (fun c => by rw [aNew_f c] at h; exact c h)
theorem vMouth (hd : zVd P tk kA vA qA N) (hT : zTK T m) (h : zV P tk kA vA qA tt N m T σ s) (hs : s.1 = 0) : zV P tk kA vA qA tt N m T (F_X3_mouth P σ) (aMouth T s) := by
  have r8 := (h.2.2.2 hs).2.2.2.2.2.2.2.1
  have fin : ∀ (σ1 : zS) (s1 : zA), zV P tk kA vA qA tt N m T σ1 s1 → zV P tk kA vA qA tt N m T (if ((F_X3_newName P σ1).2.1 P 8).toInt = 0 then F_X9_setPlace tt 0 0 0 0 0 (zu (F_X3_newName P σ1).2.1 P 6 1, zu (F_X3_newName P σ1).2.2.1 N 0 (F_X3_newName P σ1).1, (F_X3_newName P σ1).2.2.2) else (F_X3_newName P σ1).2) (if (aNew T s1).1 = 0 then aSetM (aNew T s1) (T.2.1 s1.2.2.1) else aNew T s1) := fun σ1 s1 h1 => by
    obtain ⟨x, σ2, q1, q2, q3⟩ := vNew hd hT h1
    rw [q1]
    show zV P tk kA vA qA tt N m T (if (σ2.1 P 8).toInt = 0 then F_X9_setPlace tt 0 0 0 0 0 (zu σ2.1 P 6 1, zu σ2.2.1 N 0 x, σ2.2.2) else σ2) _
    rw [q2.2.1]
    by_cases c : (aNew T s1).1 = 0
    · rw [if_pos c, if_pos c]
      refine vSetP ?_ 0 0 0 0 0
      have r := q2.2.2.2 c
      obtain ⟨r1, r2, r3, r4, r5, r6, r7, r8, r9, r10, r11⟩ := r
      obtain ⟨d1, d2, d3, d4, d5, d6⟩ := hd
      have hx := q3 (aNew_z c)
      have g : ∀ j, j ≠ 6 → zu σ2.1 P 6 (1 : Int32) P j = σ2.1 P j := fun j hj => zu_j _ _ _ _ _ (fun z => hj z.symm)
      refine ⟨q2.1.cg rfl (zu_n _ _ _ d1) (zu_n _ _ _ d2) (zu_n _ _ _ d3) (zu_n _ _ _ (fun z => d6 z.symm)), ?_, fun z => absurd c z, fun _ => ⟨r1, ?_, ?_, ?_, ?_, ?_, ?_, ?_, ?_, r10, fun p z1 z2 => ?_⟩⟩
      · show (zu σ2.1 P 6 (1 : Int32) P 8).toInt = _
        rw [g 8 (by decide)]; exact q2.2.1
      · show (zu σ2.1 P 6 (1 : Int32) P 2).toInt = _
        rw [g 2 (by decide)]; exact r2
      · show (zu σ2.1 P 6 (1 : Int32) P 3).toInt = _
        rw [g 3 (by decide)]; exact r3
      · show zu σ2.2.1 N 0 x P 4 = _
        rw [zu_n _ _ _ (fun z => d5 z.symm)]; exact r4
      · show (zu σ2.1 P 6 (1 : Int32) P 5).toInt = _
        rw [g 5 (by decide)]; exact r5
      · show (zu σ2.1 P 6 (1 : Int32) P 10).toInt = _
        rw [g 10 (by decide)]; exact r6
      · show (zu σ2.1 P 6 (1 : Int32) P 11).toInt = _
        rw [g 11 (by decide)]; exact r7
      · show (zu σ2.1 P 6 (1 : Int32) P 6).toInt = _
        rw [zu_s]; show (1 : Int32).toInt = 1; decide
      · show (zu σ2.1 P 6 (1 : Int32) P 7).toInt = _
        rw [g 7 (by decide)]; exact r9
      · show zu σ2.2.1 N 0 x N p = (if p = 0 then _ else _ : Int64 × Int64).1
        rw [zu_a]
        by_cases hp : p = 0
        · subst hp
          simp [hx]
        · rw [if_neg hp]
          exact (if_neg hp).trans (r11 p z1 (Or.inl hp))
    · rw [if_neg c, if_neg c]
      exact q2
  unfold F_X3_mouth aMouth
  simp only [zlt, zlt2]
  have e0 : (0 : Int32).toNatClampNeg = 0 := by decide
  by_cases c : s.2.2.2.2.2.1 = 0
  · rw [if_pos (r8.trans c)]
    simp only [if_neg (show ¬ s.2.2.2.2.2.1 ≠ 0 from fun z => z c)]
    have h1 := vTake hd hT h 0 (by decide)
    have q := fin _ _ h1
    obtain ⟨x, σ2, q1, q2, q3⟩ := vNew hd hT h1
    have t0 := vtt q2
    have n0 := vnn q2
    rw [q1] at q ⊢
    simp only [t0, n0, e0]
    exact q
  · rw [if_neg (fun z => c (r8.symm.trans z))]
    simp only [if_pos (show s.2.2.2.2.2.1 ≠ 0 from c)]
    have h1 := vTake hd hT (vFail hd h 2 (by decide)) 0 (by decide)
    have q := fin _ _ h1
    obtain ⟨x, σ2, q1, q2, q3⟩ := vNew hd hT h1
    have t0 := vtt q2
    have n0 := vnn q2
    rw [q1] at q ⊢
    simp only [t0, n0, e0]
    exact q
theorem aNew_i (h : (aNew T s).1 = 0) : s.1 = 0 ∧ T.1 s.2.2.1 = 22 ∧ (aNew T s).2.2.1 = s.2.2.1 + 1 ∧ (aNew T s).2.2.2.2.2 = s.2.2.2.2.2 := by
  have h0 := aNew_z h
  unfold aNew at h ⊢
  by_cases c : s.1 = 0 ∧ T.1 s.2.2.1 = 22 ∧ aNum s (T.2.1 s.2.2.1).1 ≠ -1
  · rw [if_pos c] at h ⊢
    have q := aTake_i h
    have e : (aLate T 3 s).2.2.1 = s.2.2.1 ∧ (aLate T 3 s).2.2.2.2.2 = s.2.2.2.2.2 := by
      unfold aLate
      split
      · exact ⟨rfl, rfl⟩
      · split <;> exact ⟨rfl, rfl⟩
    exact ⟨h0, c.2.1, by rw [q.2.2.1, e.1], by rw [q.2.2.2, e.2]⟩
  · rw [if_neg c] at h ⊢
    have q := aTake_i h
    exact ⟨h0, q.2.1, q.2.2.1, by rw [q.2.2.2]⟩
end ZV2
