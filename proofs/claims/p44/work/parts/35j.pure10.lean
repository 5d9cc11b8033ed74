theorem aE_st {T : zTn} : ∀ (N N' : Nat) (b : Bool) (o : Int) (s : zA), (s.1 = 0 → s.2.2.1 ≤ 400 ∧ 401 < N + s.2.2.1 ∧ 401 < N' + s.2.2.1) → aE T N b o s = aE T N' b o s := by
  intro N
  induction N with
  | zero =>
    intro N' b o s h
    by_cases c : s.1 = 0
    · have := h c; omega
    · rw [aE_f c, aE_f c]
  | succ n ih =>
    intro N' b o s h
    by_cases c : s.1 = 0
    · obtain ⟨h1, h2, h3⟩ := h c
      obtain ⟨n', rfl⟩ : ∃ q, N' = q + 1 := ⟨N' - 1, by omega⟩
      have tk : ∀ (w : Int) (b : Bool) (o : Int), aE T n b o (aTake T w s) = aE T n' b o (aTake T w s) := fun w b o => ih n' b o _ (fun z => by
        have q := aTake_i z
        have q2 : s.2.2.1 < 400 := by
          unfold aTake at z
          rw [if_neg (zne c), if_neg (zne q.2.1)] at z
          by_cases c2 : 400 ≤ s.2.2.1
          · rw [if_pos c2] at z; exact absurd z (aFail_1 (by decide))
          · omega
        omega)
      cases b with
      | true =>
        rw [aE, aE, tk, tk]
      | false =>
        rw [aE, aE, tk, tk]
    · rw [aE_f c, aE_f c]
def aSum (T : zTn) (s : zA) : zA := aE T 500 true 0 s
theorem aSum_f {T : zTn} {s : zA} (c : s.1 ≠ 0) : aSum T s = s := aE_f c _ _ _
section ZV4
variable {P tk kA vA qA tt N m : Nat} {T : zTn} {σ σ' : zS} {s : zA}
theorem vSumF (hd : zVd P tk kA vA qA N) (hT : zTK T m) (p : Int32) (hp : p.toInt = 0) (h : zV P tk kA vA qA tt N m T σ s) : zV P tk kA vA qA tt N m T (F_X3_sum_o0 P p σ) (aSum T s) ∧ ((aSum T s).1 = 0 → s.1 = 0 ∧ s.2.2.1 < (aSum T s).2.2.1 ∧ (aSum T s).2.2.2 = s.2.2.2) := by
  obtain ⟨s', u1, u2, k, u3⟩ := vSum_0 hd hT p hp σ s h
  have e : aSum T s = s' := by
    have t : ∀ n, aE T n false 0 s' = s' := fun n => by
      by_cases c : s'.1 = 0
      · cases n with
        | zero => rfl
        | succ n => rw [aE, if_neg (zne c), if_neg (u2 c).2.2.2, if_neg (by decide)]
      · exact aE_f c _ _ _
    have q := u3 500
    rw [t] at q
    rw [← q]
    exact aE_st 500 (500 + k) true 0 s (fun z => by
      have := (h.2.2.2 z).1
      have := hT.2.1
      omega)
  rw [e]
  exact ⟨u1, fun z => ⟨(u2 z).1, (u2 z).2.1, (u2 z).2.2.1⟩⟩
theorem vSumZ (hd : zVd P tk kA vA qA N) (hT : zTK T m) (h : zV P tk kA vA qA tt N m T σ s) : zV P tk kA vA qA tt N m T (F_X3_sum_o0 P 0 σ) (aSum T s) := (vSumF hd hT 0 (by decide) h).1
def aIf (T : zTn) (n : Int) (s : zA) : zA := aTake T 12 (aSum T (aTake T 11 (aSum T (aTake T 30 (aSum T (aTake T 10 (if n = 4 then aFail T 2 s else s)))))))
def aLw (T : zTn) : Nat → Int → zA → zA
  | 0, _, s => s
  | k + 1, n, s => if n ≤ 4 ∧ s.1 = 0 ∧ T.1 s.2.2.1 = 10 then aLw T k (n + 1) (aIf T n s) else aSum T s
def aLaw (T : zTn) (w : Int) (s : zA) : zA := aLw T 10 0 (aTake T 25 (aTake T (2 + w) s))
theorem vTake' (hd : zVd P tk kA vA qA N) (hT : zTK T m) (h : zV P tk kA vA qA tt N m T σ s) (w : Int32) (i : Int) (e : w.toInt = i) (hw : i < 33) : zV P tk kA vA qA tt N m T (F_X3_take P w σ) (aTake T i s) := by
  subst e
  exact vTake hd hT h w hw
theorem vFail' (hd : zVd P tk kA vA qA N) (h : zV P tk kA vA qA tt N m T σ s) (n : Int32) (i : Int) (e : n.toInt = i) (hn : i ≠ 0) : zV P tk kA vA qA tt N m T (F_X3_fail P n σ) (aFail T i s) := by
  subst e
  exact vFail hd h n hn
theorem vLaw_loop (hd : zVd P tk kA vA qA N) (hT : zTK T m) {v7 p1 : Int32} : ∀ (n : Nat) (x : Int32) (j : Nat) (τ : zS) (s : zA), x.toInt = j → j ≤ 5 → 5 - j < n → zV P tk kA vA qA tt N m T τ s → ∀ k, 5 - j < k → zV P tk kA vA qA tt N m T (F_X3_law_23 v7 P p1 n x τ) (aLw T k j s) := by
  intro n
  induction n with
  | zero => intro x j τ s _ _ h; exact absurd h (by omega)
  | succ n ih =>
    intro x j τ s hx hj hm h k hk
    obtain ⟨k, rfl⟩ : ∃ q, k = q + 1 := ⟨k - 1, by omega⟩
    have e4 : (4 : Int32).toInt = 4 := by decide
    have e10 : (10 : Int32).toInt = 10 := by decide
    have fin : zV P tk kA vA qA tt N m T (zu (F_X9_addStep (((F_X3_sum_o0 P 0 τ).2.2 P 1).getD 0) 7 0 (F_X3_sum_o0 P 0 τ)).1 (((F_X9_addStep (((F_X3_sum_o0 P 0 τ).2.2 P 1).getD 0) 7 0 (F_X3_sum_o0 P 0 τ)).2.2 (((F_X9_addStep (((F_X3_sum_o0 P 0 τ).2.2 P 1).getD 0) 7 0 (F_X3_sum_o0 P 0 τ)).2.2 P 1).getD 0) 9).getD 0) p1.toNatClampNeg v7, (F_X9_addStep (((F_X3_sum_o0 P 0 τ).2.2 P 1).getD 0) 7 0 (F_X3_sum_o0 P 0 τ)).2.1, (F_X9_addStep (((F_X3_sum_o0 P 0 τ).2.2 P 1).getD 0) 7 0 (F_X3_sum_o0 P 0 τ)).2.2) (aSum T s) := by
      have q := vSumZ hd hT h
      rw [vtt q]
      have q2 := vStep q 7 0
      rw [vtt q2]
      exact vPutS q2 _ _
    rw [F_X3_law_23]
    simp only [zlt, e4, e10]
    rw [aLw]
    by_cases c0 : 4 < x.toInt
    · rw [if_pos c0, if_neg (by omega)]
      exact fin
    rw [if_neg c0]
    have rest : ∀ (τ1 : zS) (s1 : zA), zV P tk kA vA qA tt N m T τ1 s1 → zV P tk kA vA qA tt N m T (F_X3_law_23 v7 P p1 n (x + (1 : Int32)) (F_X9_setValue (((F_X9_addStep (((F_X3_take P 12 (F_X3_sum_o0 P 0 (F_X9_addStep (((F_X3_take P 11 (F_X3_sum_o0 P 0 (F_X3_take P 30 (F_X3_sum_o0 P 0 (F_X3_take P 10 τ1))))).2.2 P 1).getD 0) 6 0 (F_X3_take P 11 (F_X3_sum_o0 P 0 (F_X3_take P 30 (F_X3_sum_o0 P 0 (F_X3_take P 10 τ1)))))))).2.2 P 1).getD 0) 7 0 (F_X3_take P 12 (F_X3_sum_o0 P 0 (F_X9_addStep (((F_X3_take P 11 (F_X3_sum_o0 P 0 (F_X3_take P 30 (F_X3_sum_o0 P 0 (F_X3_take P 10 τ1))))).2.2 P 1).getD 0) 6 0 (F_X3_take P 11 (F_X3_sum_o0 P 0 (F_X3_take P 30 (F_X3_sum_o0 P 0 (F_X3_take P 10 τ1))))))))).2.2 P 1).getD 0) ((F_X3_take P 11 (F_X3_sum_o0 P 0 (F_X3_take P 30 (F_X3_sum_o0 P 0 (F_X3_take P 10 τ1))))).1 (((F_X3_take P 11 (F_X3_sum_o0 P 0 (F_X3_take P 30 (F_X3_sum_o0 P 0 (F_X3_take P 10 τ1))))).2.2 P 1).getD 0) 8) ((F_X9_addStep (((F_X3_take P 12 (F_X3_sum_o0 P 0 (F_X9_addStep (((F_X3_take P 11 (F_X3_sum_o0 P 0 (F_X3_take P 30 (F_X3_sum_o0 P 0 (F_X3_take P 10 τ1))))).2.2 P 1).getD 0) 6 0 (F_X3_take P 11 (F_X3_sum_o0 P 0 (F_X3_take P 30 (F_X3_sum_o0 P 0 (F_X3_take P 10 τ1)))))))).2.2 P 1).getD 0) 7 0 (F_X3_take P 12 (F_X3_sum_o0 P 0 (F_X9_addStep (((F_X3_take P 11 (F_X3_sum_o0 P 0 (F_X3_take P 30 (F_X3_sum_o0 P 0 (F_X3_take P 10 τ1))))).2.2 P 1).getD 0) 6 0 (F_X3_take P 11 (F_X3_sum_o0 P 0 (F_X3_take P 30 (F_X3_sum_o0 P 0 (F_X3_take P 10 τ1))))))))).1 (((F_X9_addStep (((F_X3_take P 12 (F_X3_sum_o0 P 0 (F_X9_addStep (((F_X3_take P 11 (F_X3_sum_o0 P 0 (F_X3_take P 30 (F_X3_sum_o0 P 0 (F_X3_take P 10 τ1))))).2.2 P 1).getD 0) 6 0 (F_X3_take P 11 (F_X3_sum_o0 P 0 (F_X3_take P 30 (F_X3_sum_o0 P 0 (F_X3_take P 10 τ1)))))))).2.2 P 1).getD 0) 7 0 (F_X3_take P 12 (F_X3_sum_o0 P 0 (F_X9_addStep (((F_X3_take P 11 (F_X3_sum_o0 P 0 (F_X3_take P 30 (F_X3_sum_o0 P 0 (F_X3_take P 10 τ1))))).2.2 P 1).getD 0) 6 0 (F_X3_take P 11 (F_X3_sum_o0 P 0 (F_X3_take P 30 (F_X3_sum_o0 P 0 (F_X3_take P 10 τ1))))))))).2.2 P 1).getD 0) 8) (F_X9_addStep (((F_X3_take P 12 (F_X3_sum_o0 P 0 (F_X9_addStep (((F_X3_take P 11 (F_X3_sum_o0 P 0 (F_X3_take P 30 (F_X3_sum_o0 P 0 (F_X3_take P 10 τ1))))).2.2 P 1).getD 0) 6 0 (F_X3_take P 11 (F_X3_sum_o0 P 0 (F_X3_take P 30 (F_X3_sum_o0 P 0 (F_X3_take P 10 τ1)))))))).2.2 P 1).getD 0) 7 0 (F_X3_take P 12 (F_X3_sum_o0 P 0 (F_X9_addStep (((F_X3_take P 11 (F_X3_sum_o0 P 0 (F_X3_take P 30 (F_X3_sum_o0 P 0 (F_X3_take P 10 τ1))))).2.2 P 1).getD 0) 6 0 (F_X3_take P 11 (F_X3_sum_o0 P 0 (F_X3_take P 30 (F_X3_sum_o0 P 0 (F_X3_take P 10 τ1)))))))))))  (aLw T k ((j + 1 : Nat) : Int) (aTake T 12 (aSum T (aTake T 11 (aSum T (aTake T 30 (aSum T (aTake T 10 s1)))))))) := fun τ1 s1 h1 => by
      have a1 := vTake' hd hT h1 10 10 (by decide) (by decide)
      have a2 := vSumZ hd hT a1
      have a3 := vTake' hd hT a2 30 30 (by decide) (by decide)
      have a4 := vSumZ hd hT a3
      have a5 := vTake' hd hT a4 11 11 (by decide) (by decide)
      rw [vtt a5]
      have a6 := vStep a5 6 0
      have a7 := vSumZ hd hT a6
      have a8 := vTake' hd hT a7 12 12 (by decide) (by decide)
      rw [vtt a8]
      have a9 := vStep a8 7 0
      rw [vtt a9]
      exact ih _ (j + 1) _ _ (zp1 hx (by omega)) (by omega) (by omega) (vSetV a9 _ _) k (by omega)
    by_cases c1 : (τ.1 P 3).toInt = 10
    · rw [if_pos c1]
      have hc : s.1 = 0 := Classical.byContradiction (fun z => by have := (h.2.2.1 z).2; omega)
      have r3 := (h.2.2.2 hc).2.2.1
      rw [if_pos (by omega : (j : Int) ≤ 4 ∧ s.1 = 0 ∧ T.1 s.2.2.1 = 10)]
      by_cases c2 : x.toInt = 4
      · rw [if_pos c2]
        unfold aIf
        rw [if_pos (by omega)]
        exact rest _ _ (vFail' hd h 2 2 (by decide) (by decide))
      · rw [if_neg c2]
        unfold aIf
        rw [if_neg (by omega)]
        exact rest _ _ h
    · rw [if_neg c1, if_neg (fun z => c1 (by rw [(h.2.2.2 z.2.1).2.2.1]; exact z.2.2))]
      exact fin
theorem vLaw (hd : zVd P tk kA vA qA N) (hT : zTK T m) (h : zV P tk kA vA qA tt N m T σ s) (p : Int32) (hp : 0 ≤ p.toInt ∧ p.toInt ≤ 4) : zV P tk kA vA qA tt N m T (F_X3_law P p σ) (aLaw T p.toInt s) := by
  have e2 : (2 : Int32).toInt = 2 := by decide
  unfold F_X3_law aLaw
  simp only [zlt]
  have a1 := vTake' hd hT h (2 + p) (2 + p.toInt) (by rw [zb_add (by rw [e2]; omega) (by rw [e2]; omega), e2]) (by omega)
  have a2 := vTake' hd hT a1 25 25 (by decide) (by decide)
  exact vLaw_loop hd hT 10000 0 0 _ _ (by decide) (by omega) (by omega) a2 10 (by omega)
theorem aNumb_i {lo hi : Int} (h : (aNumb T lo hi s).1 = 0) : s.1 = 0 ∧ (aNumb T lo hi s).2.2.1 = s.2.2.1 + 1 ∧ (aNumb T lo hi s).2.2.2.2.2 = s.2.2.2.2.2 := by
  have h0 : s.1 = 0 := Classical.byContradiction (fun c => by rw [aNumb_f c] at h; exact c h)
  unfold aNumb at h ⊢
  by_cases c : s.1 = 0 ∧ T.1 s.2.2.1 = 23 ∧ ¬ (lo ≤ T.2.2.1 s.2.2.1 ∧ T.2.2.1 s.2.2.1 ≤ hi)
  · rw [if_pos c] at h ⊢
    have q := aTake_i h
    have e : (aLate T 5 s).2.2.1 = s.2.2.1 ∧ (aLate T 5 s).2.2.2.2.2 = s.2.2.2.2.2 := by
      unfold aLate
      split
      · exact ⟨rfl, rfl⟩
      · split <;> exact ⟨rfl, rfl⟩
    exact ⟨h0, by rw [q.2.2.1, e.1], by rw [q.2.2.2, e.2]⟩
  · rw [if_neg c] at h ⊢
    have q := aTake_i h
    exact ⟨h0, q.2.2.1, by rw [q.2.2.2]⟩
theorem aKnown_i (h : (aKnown T s).1 = 0) : s.1 = 0 ∧ T.1 s.2.2.1 = 22 ∧ (aKnown T s).2.2.1 = s.2.2.1 + 1 ∧ (aKnown T s).2.2.2.2.2 = s.2.2.2.2.2 := by
  have h0 : s.1 = 0 := Classical.byContradiction (fun c => by rw [aKnown_f c] at h; exact c h)
  unfold aKnown at h ⊢
  by_cases c : s.1 = 0 ∧ T.1 s.2.2.1 = 22 ∧ aNum s (T.2.1 s.2.2.1).1 = -1
  · rw [if_pos c] at h ⊢
    have q := aTake_i h
    have e : (aLate T 4 s).2.2.1 = s.2.2.1 ∧ (aLate T 4 s).2.2.2.2.2 = s.2.2.2.2.2 := by
      unfold aLate
      split
      · exact ⟨rfl, rfl⟩
      · split <;> exact ⟨rfl, rfl⟩
    exact ⟨h0, c.2.1, by rw [q.2.2.1, e.1], by rw [q.2.2.2, e.2]⟩
  · rw [if_neg c] at h ⊢
    have q := aTake_i h
    exact ⟨h0, q.2.1, q.2.2.1, by rw [q.2.2.2]⟩
theorem aPlace2_i (h : (aPlace2 T s).1 = 0) : s.1 = 0 ∧ s.2.2.1 < (aPlace2 T s).2.2.1 ∧ (aPlace2 T s).2.2.2.2.2 = s.2.2.2.2.2 := by
  unfold aPlace2 at h ⊢
  have q1 := aNumb_i h
  have q2 := aNumb_i q1.1
  have q3 := aNumb_i q2.1
  have q4 := aKnown_i q3.1
  have q5 := aNew_i q4.1
  exact ⟨q5.1, by omega, by rw [q1.2.2, q2.2.2, q3.2.2, q4.2.2.2, q5.2.2.2]⟩
theorem vPlace (hd : zVd P tk kA vA qA N) (hT : zTK T m) (h : zV P tk kA vA qA tt N m T σ s) (hs : s.1 = 0) : zV P tk kA vA qA tt N m T (F_X3_newPlace P σ) (aPlace T s) := by
  have r9 := (h.2.2.2 hs).2.2.2.2.2.2.2.2.1
  have e11 : (11 : Int32).toInt = 11 := by decide
  have e0 : (0 : Int32).toInt = 0 := by decide
  have e1 : (1 : Int32).toInt = 1 := by decide
  have e99 : (99 : Int32).toInt = 99 := by decide
  have fin : ∀ (τ : zS) (s1 : zA), zV P tk kA vA qA tt N m T τ s1 → ∃ (x : Int64) (s7 : zS) (v8 v12 v16 v20 : Int32) (s9 s13 s17 s21 : zS), F_X3_newName P τ = (x, s7) ∧ F_X3_knownName P s7 = (v8, s9) ∧ F_X3_number P 1 99 s9 = (v12, s13) ∧ F_X3_number P 0 99 s13 = (v16, s17) ∧ F_X3_number P 0 99 s17 = (v20, s21) ∧ zV P tk kA vA qA tt N m T s21 (aPlace2 T s1) ∧ (s1.1 = 0 → x = (T.2.1 s1.2.2.1).1) := fun τ s1 h1 => by
    obtain ⟨x, s7, a1, a2, a3⟩ := vNew hd hT h1
    obtain ⟨v8, s9, b1, b2⟩ := vKnown hd hT a2
    obtain ⟨v12, s13, c1, c2⟩ := vNumb hd hT b2 1 99
    obtain ⟨v16, s17, d1, d2⟩ := vNumb hd hT c2 0 99
    obtain ⟨v20, s21, f1, f2⟩ := vNumb hd hT d2 0 99
    rw [e1, e99, e0] at f2
    exact ⟨x, s7, v8, v12, v16, v20, s9, s13, s17, s21, a1, b1, c1, d1, f1, f2, a3⟩
  have last : ∀ (s21 : zS) (s1 : zA) (x : Int64) (v8 v12 v16 v20 : Int32), zV P tk kA vA qA tt N m T s21 (aPlace2 T s1) → (s1.1 = 0 → x = (T.2.1 s1.2.2.1).1) → zV P tk kA vA qA tt N m T (if (s21.1 P 8).toInt = 0 then (if (s21.1 P 7).toInt < 11 then F_X9_setPlace tt (s21.1 P 7 + (1 : Int32)) v8 v12 v16 v20 (zu s21.1 P 7 (s21.1 P 7 + (1 : Int32)), zu s21.2.1 N (s21.1 P 7 + (1 : Int32)).toNatClampNeg x, s21.2.2) else s21) else s21) (if (aPlace2 T s1).1 = 0 ∧ (aPlace2 T s1).2.2.2.2.2.2.1 < 11 then aSetP (aPlace2 T s1) (T.2.1 s1.2.2.1) else aPlace2 T s1) := fun s21 s1 x v8 v12 v16 v20 q2 hx0 => by
    rw [q2.2.1]
    by_cases c : (aPlace2 T s1).1 = 0
    · rw [if_pos c]
      have r := q2.2.2.2 c
      obtain ⟨r1, r2, r3, r4, r5, r6, r7, r8, r9, r10, r11⟩ := r
      rw [r9]
      by_cases c2 : (aPlace2 T s1).2.2.2.2.2.2.1 < 11
      · rw [if_pos c2, if_pos ⟨c, c2⟩]
        refine vSetP ?_ _ _ _ _ _
        obtain ⟨d1, d2, d3, d4, d5, d6⟩ := hd
        have hx := hx0 (aPlace2_i c).1
        have g : ∀ j, j ≠ 7 → zu s21.1 P 7 (s21.1 P 7 + (1 : Int32)) P j = s21.1 P j := fun j hj => zu_j _ _ _ _ _ (fun z => hj z.symm)
        have e7 : (s21.1 P 7 + (1 : Int32)).toInt = (aPlace2 T s1).2.2.2.2.2.2.1 + 1 := by rw [zb_add (by rw [r9, e1]; omega) (by rw [r9, e1]; omega), r9, e1]
        have e7n : (s21.1 P 7 + (1 : Int32)).toNatClampNeg = ((aPlace2 T s1).2.2.2.2.2.2.1 + 1).toNat := by rw [ztn, e7]
        refine ⟨q2.1.cg rfl (zu_n _ _ _ d1) (zu_n _ _ _ d2) (zu_n _ _ _ d3) (zu_n _ _ _ (fun z => d6 z.symm)), ?_, fun z => absurd c z, fun _ => ⟨r1, ?_, ?_, ?_, ?_, ?_, ?_, ?_, ?_, ?_, fun p z1 z2 => ?_⟩⟩
        · show (zu s21.1 P 7 _ P 8).toInt = _
          rw [g 8 (by decide)]; exact q2.2.1
        · show (zu s21.1 P 7 _ P 2).toInt = _
          rw [g 2 (by decide)]; exact r2
        · show (zu s21.1 P 7 _ P 3).toInt = _
          rw [g 3 (by decide)]; exact r3
        · show zu s21.2.1 N _ x P 4 = _
          rw [zu_n _ _ _ (fun z => d5 z.symm)]; exact r4
        · show (zu s21.1 P 7 _ P 5).toInt = _
          rw [g 5 (by decide)]; exact r5
        · show (zu s21.1 P 7 _ P 10).toInt = _
          rw [g 10 (by decide)]; exact r6
        · show (zu s21.1 P 7 _ P 11).toInt = _
          rw [g 11 (by decide)]; exact r7
        · show (zu s21.1 P 7 _ P 6).toInt = _
          rw [g 6 (by decide)]; exact r8
        · show (zu s21.1 P 7 _ P 7).toInt = _
          rw [zu_s]; exact e7
        · show 0 ≤ (aPlace2 T s1).2.2.2.2.2.2.1 + 1 ∧ (aPlace2 T s1).2.2.2.2.2.2.1 + 1 ≤ 11
          omega
        · have z1' : (p : Int) ≤ (aPlace2 T s1).2.2.2.2.2.2.1 + 1 := z1
          have z2' : p ≠ 0 ∨ (aPlace2 T s1).2.2.2.2.2.1 ≠ 0 := z2
          show zu s21.2.1 N _ x N p = (if (p : Int) = (aPlace2 T s1).2.2.2.2.2.2.1 + 1 then _ else _ : Int64 × Int64).1
          rw [zu_a, e7n]
          by_cases hp : (p : Int) = (aPlace2 T s1).2.2.2.2.2.2.1 + 1
          · rw [if_pos hp]
            exact (if_pos (show p = ((aPlace2 T s1).2.2.2.2.2.2.1 + 1).toNat by omega)).trans hx
          · rw [if_neg hp]
            exact (if_neg (show ¬ p = ((aPlace2 T s1).2.2.2.2.2.2.1 + 1).toNat by omega)).trans (r11 p (by omega) z2')
      · rw [if_neg c2, if_neg (fun z => c2 z.2)]
        exact q2
    · rw [if_neg c, if_neg (fun z => c z.1)]
      exact q2
  unfold F_X3_newPlace aPlace
  simp only [zlt, zlt2, e11]
  by_cases c : s.2.2.2.2.2.2.1 < 11
  · rw [if_pos (by omega)]
    have h1 : zV P tk kA vA qA tt N m T (F_X3_take P 1 σ) (aPlace1 T s) := by
      unfold aPlace1
      rw [if_neg (by omega)]
      exact vTake' hd hT h 1 1 (by decide) (by decide)
    obtain ⟨x, s7, v8, v12, v16, v20, s9, s13, s17, s21, a1, b1, c1, d1, f1, f2, hx⟩ := fin _ _ h1
    have q := last s21 _ x v8 v12 v16 v20 f2 hx
    have t0 := vtt f2
    have n0 := vnn f2
    simp only [a1, b1, c1, d1, f1, t0, n0, zu_s]
    exact q
  · rw [if_neg (by omega)]
    have h1 : zV P tk kA vA qA tt N m T (F_X3_take P 1 (F_X3_fail P 2 σ)) (aPlace1 T s) := by
      unfold aPlace1
      rw [if_pos (by omega)]
      exact vTake' hd hT (vFail' hd h 2 2 (by decide) (by decide)) 1 1 (by decide) (by decide)
    obtain ⟨x, s7, v8, v12, v16, v20, s9, s13, s17, s21, a1, b1, c1, d1, f1, f2, hx⟩ := fin _ _ h1
    have q := last s21 _ x v8 v12 v16 v20 f2 hx
    have t0 := vtt f2
    have n0 := vnn f2
    simp only [a1, b1, c1, d1, f1, t0, n0, zu_s]
    exact q
end ZV4
