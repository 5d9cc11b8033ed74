/-! EXPRESSIONS: a small automaton (true: a unit is wanted; how many brackets are open) -/
def aE (T : zTn) : Nat → Bool → Int → zA → zA
  | 0, _, _, s => s
  | n + 1, true, o, s => if s.1 ≠ 0 then s else if T.1 s.2.2.1 = 23 ∨ (13 ≤ T.1 s.2.2.1 ∧ T.1 s.2.2.1 < 22) then aE T n false o (aTake T (T.1 s.2.2.1) s) else if T.1 s.2.2.1 = 31 ∧ o < 6 then aE T n true (o + 1) (aTake T 31 s) else aFail T (if T.1 s.2.2.1 = 31 then 2 else 1) s
  | n + 1, false, o, s => if s.1 ≠ 0 then s else if 26 ≤ T.1 s.2.2.1 ∧ T.1 s.2.2.1 ≤ 29 then aE T n true o (aTake T (T.1 s.2.2.1) s) else if 0 < o then (if T.1 s.2.2.1 = 32 then aE T n false (o - 1) (aTake T 32 s) else aFail T 1 s) else s
theorem aE_f {T : zTn} {s : zA} (c : s.1 ≠ 0) : ∀ (n : Nat) (b : Bool) (o : Int), aE T n b o s = s
  | 0, _, _ => rfl
  | _ + 1, true, _ => if_pos c
  | _ + 1, false, _ => if_pos c
section ZV3
variable {P tk kA vA qA tt N m : Nat} {T : zTn} {σ σ' : zS} {s : zA}
def zUc (P tk kA vA qA tt N m : Nat) (T : zTn) (F : zS → zS) (o : Int) : Prop := ∀ (σ : zS) (s : zA), zV P tk kA vA qA tt N m T σ s → ∃ s' : zA, zV P tk kA vA qA tt N m T (F σ) s' ∧ (s'.1 = 0 → s.1 = 0 ∧ s.2.2.1 < s'.2.2.1 ∧ s'.2.2.2 = s.2.2.2) ∧ ∃ k, ∀ n, aE T (n + k) true o s = aE T n false o s'
def zPd (P tk kA vA qA tt N m : Nat) (T : zTn) (F : zS → zS) (o : Int) : Prop := ∀ (σ : zS) (s : zA), zV P tk kA vA qA tt N m T σ s → ∃ s' : zA, zV P tk kA vA qA tt N m T (F σ) s' ∧ (s'.1 = 0 → s.1 = 0 ∧ s.2.2.1 < s'.2.2.1 ∧ s'.2.2.2 = s.2.2.2 ∧ ¬ (28 ≤ T.1 s'.2.2.1 ∧ T.1 s'.2.2.1 ≤ 29)) ∧ ∃ k, ∀ n, aE T (n + k) true o s = aE T n false o s'
def zSc (P tk kA vA qA tt N m : Nat) (T : zTn) (F : zS → zS) (o : Int) : Prop := ∀ (σ : zS) (s : zA), zV P tk kA vA qA tt N m T σ s → ∃ s' : zA, zV P tk kA vA qA tt N m T (F σ) s' ∧ (s'.1 = 0 → s.1 = 0 ∧ s.2.2.1 < s'.2.2.1 ∧ s'.2.2.2 = s.2.2.2 ∧ ¬ (26 ≤ T.1 s'.2.2.1 ∧ T.1 s'.2.2.1 ≤ 29)) ∧ ∃ k, ∀ n, aE T (n + k) true o s = aE T n false o s'
/-- signs a and b in a row of what F reads -/
theorem vRow (hd : zVd P tk kA vA qA N) (hT : zTK T m) {F : zS → zS} {o lo : Int} {A B C D : Int32} (hlo : 26 ≤ lo ∧ lo ≤ 28) (hA : A.toInt = lo) (hB : B.toInt = lo + 1) (Z : Int → Prop)
    (hF : ∀ (σ : zS) (s : zA), zV P tk kA vA qA tt N m T σ s → ∃ s' : zA, zV P tk kA vA qA tt N m T (F σ) s' ∧ (s'.1 = 0 → s.1 = 0 ∧ s.2.2.1 < s'.2.2.1 ∧ s'.2.2.2 = s.2.2.2 ∧ Z (T.1 s'.2.2.1)) ∧ ∃ k, ∀ n, aE T (n + k) true o s = aE T n false o s')
    (G : Nat → Int32 → zS → zS)
    (hG : ∀ (n : Nat) (x : Int32) (τ : zS), G (n + 1) x τ = if (400 : Int32).toInt < x.toInt then τ else if (F_X10_isWithin (τ.1 P 3) A B).toInt = 0 then τ else if (τ.1 P 3).toInt = A.toInt then G n (x + (1 : Int32)) (F_X9_addStep (((F (F_X3_take P (τ.1 P 3) τ)).2.2 P 1).getD 0) C 0 (F (F_X3_take P (τ.1 P 3) τ))) else G n (x + (1 : Int32)) (F_X9_addStep (((F (F_X3_take P (τ.1 P 3) τ)).2.2 P 1).getD 0) D 0 (F (F_X3_take P (τ.1 P 3) τ)))) :
    ∀ (n : Nat) (x : Int32) (j : Nat) (τ : zS) (s : zA), x.toInt = j → j ≤ 401 → 401 - j < n → zV P tk kA vA qA tt N m T τ s → (s.1 = 0 → j ≤ s.2.2.1 ∧ Z (T.1 s.2.2.1)) → ∃ s' : zA, zV P tk kA vA qA tt N m T (G n x τ) s' ∧ (s'.1 = 0 → s.1 = 0 ∧ s.2.2.1 ≤ s'.2.2.1 ∧ s'.2.2.2 = s.2.2.2 ∧ Z (T.1 s'.2.2.1) ∧ ¬ (lo ≤ T.1 s'.2.2.1 ∧ T.1 s'.2.2.1 ≤ lo + 1)) ∧ ∃ k, ∀ n, aE T (n + k) false o s = aE T n false o s' := by
  intro n
  induction n with
  | zero => intro x j τ s _ _ h; exact absurd h (by omega)
  | succ n ih =>
    intro x j τ s hx hj hm h hz
    have e400 : (400 : Int32).toInt = 400 := by decide
    rw [hG, e400]
    simp only [zwi, hA, hB]
    have stay : Unit → (s.1 = 0 → ¬ (lo ≤ T.1 s.2.2.1 ∧ T.1 s.2.2.1 ≤ lo + 1)) → ∃ s' : zA, zV P tk kA vA qA tt N m T τ s' ∧ (s'.1 = 0 → s.1 = 0 ∧ s.2.2.1 ≤ s'.2.2.1 ∧ s'.2.2.2 = s.2.2.2 ∧ Z (T.1 s'.2.2.1) ∧ ¬ (lo ≤ T.1 s'.2.2.1 ∧ T.1 s'.2.2.1 ≤ lo + 1)) ∧ ∃ k, ∀ n, aE T (n + k) false o s = aE T n false o s' := fun _ q => ⟨s, h, fun z => ⟨z, Nat.le_refl _, rfl, (hz z).2, q z⟩, 0, fun n => rfl⟩
    by_cases c0 : 400 < x.toInt
    · rw [if_pos c0]
      refine stay () (fun z => ?_)
      have r1 := (h.2.2.2 z).1
      have r2 := (hz z).1
      have := hT.2.1
      omega
    rw [if_neg c0]
    by_cases c : s.1 = 0
    · have r3 := (h.2.2.2 c).2.2.1
      rw [r3]
      by_cases c1 : lo ≤ T.1 s.2.2.1 ∧ T.1 s.2.2.1 ≤ lo + 1
      · rw [if_neg (fun z => z c1)]
        have t1 := vTake hd hT h (τ.1 P 3) (by omega)
        rw [r3] at t1
        obtain ⟨s2, u1, u2, k, u3⟩ := hF _ _ t1
        have ut := vtt u1
        rw [ut]
        have nx := fun (C : Int32) => ih (x + (1 : Int32)) (j + 1) (F_X9_addStep tt C 0 (F (F_X3_take P (τ.1 P 3) τ))) s2 (zp1 hx (by omega)) (by omega) (by omega) (vStep u1 C 0) (fun z => by
          have q := u2 z
          have q2 := aTake_i q.1
          have q3 := (hz c).1
          exact ⟨by omega, q.2.2.2⟩)
        have glue : ∀ X : zS, (∃ s' : zA, zV P tk kA vA qA tt N m T X s' ∧ (s'.1 = 0 → s2.1 = 0 ∧ s2.2.2.1 ≤ s'.2.2.1 ∧ s'.2.2.2 = s2.2.2.2 ∧ Z (T.1 s'.2.2.1) ∧ ¬ (lo ≤ T.1 s'.2.2.1 ∧ T.1 s'.2.2.1 ≤ lo + 1)) ∧ ∃ k, ∀ n, aE T (n + k) false o s2 = aE T n false o s') → ∃ s' : zA, zV P tk kA vA qA tt N m T X s' ∧ (s'.1 = 0 → s.1 = 0 ∧ s.2.2.1 ≤ s'.2.2.1 ∧ s'.2.2.2 = s.2.2.2 ∧ Z (T.1 s'.2.2.1) ∧ ¬ (lo ≤ T.1 s'.2.2.1 ∧ T.1 s'.2.2.1 ≤ lo + 1)) ∧ ∃ k, ∀ n, aE T (n + k) false o s = aE T n false o s' := fun X ⟨s', v1, v2, k2, v3⟩ => by
          refine ⟨s', v1, fun z => ?_, k2 + k + 1, fun n => ?_⟩
          · obtain ⟨w1, w2, w3, w4, w5⟩ := v2 z
            have q := u2 w1
            have q2 := aTake_i q.1
            exact ⟨c, by omega, by rw [w3, q.2.2.1, q2.2.2.2], w4, w5⟩
          · have e1 : aE T (n + (k2 + k + 1)) false o s = aE T (n + k2 + k) true o (aTake T (T.1 s.2.2.1) s) := by
              rw [show n + (k2 + k + 1) = (n + k2 + k) + 1 by omega]
              rw [aE, if_neg (zne c), if_pos (by omega)]
            rw [e1, u3, v3]
        by_cases c2 : T.1 s.2.2.1 = lo
        · rw [if_pos c2]
          exact glue _ (nx C)
        · rw [if_neg c2]
          exact glue _ (nx D)
      · rw [if_pos c1]
        exact stay () (fun _ => c1)
    · rw [if_pos (by rw [(h.2.2.1 c).2]; omega)]
      exact stay () (fun z => absurd z c)
theorem vProd (hd : zVd P tk kA vA qA N) (hT : zTK T m) {U : zS → zS} {o : Int} (hU : zUc P tk kA vA qA tt N m T U o) (G : Nat → Int32 → zS → zS)
    (hG : ∀ (n : Nat) (x : Int32) (τ : zS), G (n + 1) x τ = if (400 : Int32).toInt < x.toInt then τ else if (F_X10_isWithin (τ.1 P 3) (28 : Int32) (29 : Int32)).toInt = 0 then τ else if (τ.1 P 3).toInt = (28 : Int32).toInt then G n (x + (1 : Int32)) (F_X9_addStep (((U (F_X3_take P (τ.1 P 3) τ)).2.2 P 1).getD 0) 4 0 (U (F_X3_take P (τ.1 P 3) τ))) else G n (x + (1 : Int32)) (F_X9_addStep (((U (F_X3_take P (τ.1 P 3) τ)).2.2 P 1).getD 0) 5 0 (U (F_X3_take P (τ.1 P 3) τ)))) (N0 : Nat) (hN0 : 401 < N0) : ∀ (σ : zS) (s : zA), zV P tk kA vA qA tt N m T σ s → ∃ s' : zA, zV P tk kA vA qA tt N m T (G N0 0 (U σ)) s' ∧ (s'.1 = 0 → s.1 = 0 ∧ s.2.2.1 < s'.2.2.1 ∧ s'.2.2.2 = s.2.2.2 ∧ ¬ (28 ≤ T.1 s'.2.2.1 ∧ T.1 s'.2.2.1 ≤ 29)) ∧ ∃ k, ∀ n, aE T (n + k) true o s = aE T n false o s' := by
  intro σ s h
  obtain ⟨s1, u1, u2, k, u3⟩ := hU σ s h
  obtain ⟨s2, v1, v2, k2, v3⟩ := vRow (lo := 28) hd hT (by decide) (by decide) (by decide) (fun _ => True) (fun σ s h => by
    obtain ⟨s', w1, w2, w3⟩ := hU σ s h
    exact ⟨s', w1, fun z => ⟨(w2 z).1, (w2 z).2.1, (w2 z).2.2, trivial⟩, w3⟩) G hG N0 0 0 (U σ) s1 (by decide) (by omega) (by omega) u1 (fun z => ⟨by omega, trivial⟩)
  refine ⟨s2, v1, fun z => ?_, k2 + k, fun n => ?_⟩
  · obtain ⟨w1, w2, w3, -, w5⟩ := v2 z
    have q := u2 w1
    exact ⟨q.1, by omega, by rw [w3, q.2.2], w5⟩
  · rw [← Nat.add_assoc, u3, v3]
theorem vSum (hd : zVd P tk kA vA qA N) (hT : zTK T m) {U : zS → zS} {o : Int} (hU : zPd P tk kA vA qA tt N m T U o) (G : Nat → Int32 → zS → zS)
    (hG : ∀ (n : Nat) (x : Int32) (τ : zS), G (n + 1) x τ = if (400 : Int32).toInt < x.toInt then τ else if (F_X10_isWithin (τ.1 P 3) (26 : Int32) (27 : Int32)).toInt = 0 then τ else if (τ.1 P 3).toInt = (26 : Int32).toInt then G n (x + (1 : Int32)) (F_X9_addStep (((U (F_X3_take P (τ.1 P 3) τ)).2.2 P 1).getD 0) 2 0 (U (F_X3_take P (τ.1 P 3) τ))) else G n (x + (1 : Int32)) (F_X9_addStep (((U (F_X3_take P (τ.1 P 3) τ)).2.2 P 1).getD 0) 3 0 (U (F_X3_take P (τ.1 P 3) τ)))) (N0 : Nat) (hN0 : 401 < N0) : ∀ (σ : zS) (s : zA), zV P tk kA vA qA tt N m T σ s → ∃ s' : zA, zV P tk kA vA qA tt N m T (G N0 0 (U σ)) s' ∧ (s'.1 = 0 → s.1 = 0 ∧ s.2.2.1 < s'.2.2.1 ∧ s'.2.2.2 = s.2.2.2 ∧ ¬ (26 ≤ T.1 s'.2.2.1 ∧ T.1 s'.2.2.1 ≤ 29)) ∧ ∃ k, ∀ n, aE T (n + k) true o s = aE T n false o s' := by
  intro σ s h
  obtain ⟨s1, u1, u2, k, u3⟩ := hU σ s h
  obtain ⟨s2, v1, v2, k2, v3⟩ := vRow (lo := 26) hd hT (by decide) (by decide) (by decide) (fun q => ¬ (28 ≤ q ∧ q ≤ 29)) hU G hG N0 0 0 (U σ) s1 (by decide) (by omega) (by omega) u1 (fun z => ⟨by omega, (u2 z).2.2.2⟩)
  refine ⟨s2, v1, fun z => ?_, k2 + k, fun n => ?_⟩
  · obtain ⟨w1, w2, w3, w4, w5⟩ := v2 z
    have q := u2 w1
    exact ⟨q.1, by omega, by rw [w3, q.2.2.1], by omega⟩
  · rw [← Nat.add_assoc, u3, v3]
/-- a unit but for brackets -/
theorem vUnit0 (hd : zVd P tk kA vA qA N) (hT : zTK T m) (o : Int) (h : zV P tk kA vA qA tt N m T σ s) (hc : s.1 = 0) (c : T.1 s.2.2.1 = 23 ∨ (13 ≤ T.1 s.2.2.1 ∧ T.1 s.2.2.1 < 22)) (A B : Int32) : ∃ s' : zA, zV P tk kA vA qA tt N m T (F_X3_take P ((F_X9_addStep ((σ.2.2 P 1).getD 0) A B σ).1 P 3) (F_X9_addStep ((σ.2.2 P 1).getD 0) A B σ)) s' ∧ (s'.1 = 0 → s.1 = 0 ∧ s.2.2.1 < s'.2.2.1 ∧ s'.2.2.2 = s.2.2.2) ∧ ∃ k, ∀ n, aE T (n + k) true o s = aE T n false o s' := by
  rw [vtt h]
  have h1 := vStep h A B
  have r3 := (h1.2.2.2 hc).2.2.1
  have t1 := vTake hd hT h1 ((F_X9_addStep tt A B σ).1 P 3) (by omega)
  rw [r3] at t1
  refine ⟨_, t1, fun z => ?_, 1, fun n => ?_⟩
  · have q := aTake_i z
    exact ⟨hc, by omega, q.2.2.2⟩
  · rw [aE, if_neg (zne hc), if_pos c]
theorem vUnitF (hd : zVd P tk kA vA qA N) (o : Int) (h : zV P tk kA vA qA tt N m T σ s) (A : Int32) (hA : A.toInt ≠ 0) (c : s.1 = 0 → ¬ (T.1 s.2.2.1 = 23 ∨ (13 ≤ T.1 s.2.2.1 ∧ T.1 s.2.2.1 < 22)) ∧ ¬ (T.1 s.2.2.1 = 31 ∧ o < 6) ∧ A.toInt = if T.1 s.2.2.1 = 31 then 2 else 1) : ∃ s' : zA, zV P tk kA vA qA tt N m T (F_X3_fail P A σ) s' ∧ (s'.1 = 0 → s.1 = 0 ∧ s.2.2.1 < s'.2.2.1 ∧ s'.2.2.2 = s.2.2.2) ∧ ∃ k, ∀ n, aE T (n + k) true o s = aE T n false o s' := by
  refine ⟨_, vFail hd h A hA, fun z => absurd z (aFail_1 hA), 1, fun n => ?_⟩
  by_cases hc : s.1 = 0
  · rw [aE, if_neg (zne hc), if_neg (c hc).1, if_neg (c hc).2.1, aE_f (aFail_1 hA), (c hc).2.2]
  · rw [aFail_f hc, aE_f hc, aE_f hc]
theorem vUnitB (hd : zVd P tk kA vA qA N) (hT : zTK T m) {F : zS → zS} (o : Int) (ho : 0 ≤ o ∧ o < 6) (hS : zSc P tk kA vA qA tt N m T F (o + 1)) (h : zV P tk kA vA qA tt N m T σ s) (hc : s.1 = 0) (c : T.1 s.2.2.1 = 31) : ∃ s' : zA, zV P tk kA vA qA tt N m T (F_X3_take P 32 (F (F_X3_take P (σ.1 P 3) σ))) s' ∧ (s'.1 = 0 → s.1 = 0 ∧ s.2.2.1 < s'.2.2.1 ∧ s'.2.2.2 = s.2.2.2) ∧ ∃ k, ∀ n, aE T (n + k) true o s = aE T n false o s' := by
  have e32 : (32 : Int32).toInt = 32 := by decide
  have r3 := (h.2.2.2 hc).2.2.1
  have t1 := vTake hd hT h (σ.1 P 3) (by omega)
  rw [r3, c] at t1
  obtain ⟨s2, u1, u2, k, u3⟩ := hS _ _ t1
  have t2 := vTake hd hT u1 32 (by decide)
  rw [e32] at t2
  refine ⟨_, t2, fun z => ?_, 1 + k + 1, fun n => ?_⟩
  · have q := aTake_i z
    have q2 := u2 q.1
    have q3 := aTake_i q2.1
    exact ⟨hc, by omega, by rw [q.2.2.2, q2.2.2.1, q3.2.2.2]⟩
  · have e1 : aE T (n + (1 + k + 1)) true o s = aE T (n + 1 + k) true (o + 1) (aTake T 31 s) := by
      show aE T ((n + (1 + k)) + 1) true o s = _
      rw [aE, if_neg (zne hc), if_neg (by omega), if_pos ⟨c, ho.2⟩, Nat.add_assoc]
    rw [e1, u3]
    by_cases c2 : s2.1 = 0
    · have q := u2 c2
      rw [aE, if_neg (fun z => z c2), if_neg q.2.2.2, if_pos (by omega)]
      by_cases c3 : T.1 s2.2.2.1 = 32
      · rw [if_pos c3, show o + 1 - 1 = o by omega]
      · rw [if_neg c3]
        have e : aTake T 32 s2 = aFail T 1 s2 := by
          unfold aTake
          rw [if_neg (fun z => z c2), if_pos c3]
        rw [e, aE_f (aFail_1 (by decide))]
    · rw [aTake_f c2, aE_f c2, aE_f c2]
theorem vUnit_6 (hd : zVd P tk kA vA qA N) (hT : zTK T m) (p : Int32) (hp : p.toInt = 6) : zUc P tk kA vA qA tt N m T (F_X3_unit_o6 P p) 6 := by
  intro σ s h
  have e23 : (23 : Int32).toInt = 23 := by decide
  have e13 : (13 : Int32).toInt = 13 := by decide
  have e31 : (31 : Int32).toInt = 31 := by decide
  have e22 : (22 : Int32).toInt = 22 := by decide
  have e6 : (6 : Int32).toInt = 6 := by decide
  have r : (s.1 = 0 → (σ.1 P 3).toInt = T.1 s.2.2.1) ∧ (s.1 ≠ 0 → (σ.1 P 3).toInt = 34) := ⟨fun z => (h.2.2.2 z).2.2.1, fun z => (h.2.2.1 z).2⟩
  unfold F_X3_unit_o6
  simp only [zlt, e23, e13, e31, e22, e6]
  by_cases c1 : (σ.1 P 3).toInt = 23
  · rw [if_pos c1]
    have hc : s.1 = 0 := Classical.byContradiction (fun z => by have := r.2 z; omega)
    exact vUnit0 hd hT 6 h hc (by have := r.1 hc; omega) _ _
  rw [if_neg c1]
  by_cases c2 : (σ.1 P 3).toInt < 13
  · rw [if_pos c2, if_neg (by omega), if_neg (by omega)]
    exact vUnitF hd 6 h 1 (by decide) (fun z => by have := r.1 z; rw [if_neg (by omega)]; exact ⟨by omega, by omega, by decide⟩)
  rw [if_neg c2]
  by_cases c3 : (σ.1 P 3).toInt < 22
  · rw [if_pos c3]
    have hc : s.1 = 0 := Classical.byContradiction (fun z => by have := r.2 z; omega)
    exact vUnit0 hd hT 6 h hc (by have := r.1 hc; omega) _ _
  rw [if_neg c3]
  by_cases c4 : (σ.1 P 3).toInt = 31
  · have hc : s.1 = 0 := Classical.byContradiction (fun z => by have := r.2 z; omega)
    have rr := r.1 hc
    rw [if_pos c4, if_neg (by omega), if_pos c4]
    exact vUnitF hd 6 h 2 (by decide) (fun z => by rw [if_pos (by omega)]; exact ⟨by omega, by omega, by decide⟩)
  · rw [if_neg c4, if_neg c4]
    exact vUnitF hd 6 h 1 (by decide) (fun z => by have := r.1 z; rw [if_neg (by omega)]; exact ⟨by omega, by omega, by decide⟩)
theorem vUnit_5 (hd : zVd P tk kA vA qA N) (hT : zTK T m) (p : Int32) (hp : p.toInt = 5) (hS : ∀ p : Int32, p.toInt = 6 → zSc P tk kA vA qA tt N m T (F_X3_sum_o6 P p) 6) : zUc P tk kA vA qA tt N m T (F_X3_unit_o5 P p) 5 := by
  intro σ s h
  have e23 : (23 : Int32).toInt = 23 := by decide
  have e13 : (13 : Int32).toInt = 13 := by decide
  have e31 : (31 : Int32).toInt = 31 := by decide
  have e22 : (22 : Int32).toInt = 22 := by decide
  have e6 : (6 : Int32).toInt = 6 := by decide
  have r : (s.1 = 0 → (σ.1 P 3).toInt = T.1 s.2.2.1) ∧ (s.1 ≠ 0 → (σ.1 P 3).toInt = 34) := ⟨fun z => (h.2.2.2 z).2.2.1, fun z => (h.2.2.1 z).2⟩
  unfold F_X3_unit_o5
  simp only [zlt, e23, e13, e31, e22, e6]
  by_cases c1 : (σ.1 P 3).toInt = 23
  · rw [if_pos c1]
    have hc : s.1 = 0 := Classical.byContradiction (fun z => by have := r.2 z; omega)
    exact vUnit0 hd hT 5 h hc (by have := r.1 hc; omega) _ _
  rw [if_neg c1]
  by_cases c2 : (σ.1 P 3).toInt < 13
  · rw [if_pos c2, if_neg (by omega), if_neg (by omega)]
    exact vUnitF hd 5 h 1 (by decide) (fun z => by have := r.1 z; rw [if_neg (by omega)]; exact ⟨by omega, by omega, by decide⟩)
  rw [if_neg c2]
  by_cases c3 : (σ.1 P 3).toInt < 22
  · rw [if_pos c3]
    have hc : s.1 = 0 := Classical.byContradiction (fun z => by have := r.2 z; omega)
    exact vUnit0 hd hT 5 h hc (by have := r.1 hc; omega) _ _
  rw [if_neg c3]
  by_cases c4 : (σ.1 P 3).toInt = 31
  · have hc : s.1 = 0 := Classical.byContradiction (fun z => by have := r.2 z; omega)
    have rr := r.1 hc
    rw [if_pos c4, if_pos (by omega)]
    have e1 : (1 : Int32).toInt = 1 := by decide
    exact vUnitB hd hT 5 (by decide) (hS (p + 1) (by rw [zb_add (by rw [hp, e1]; decide) (by rw [hp, e1]; decide), hp, e1]; rfl)) h hc (by omega)
  · rw [if_neg c4, if_neg c4]
    exact vUnitF hd 5 h 1 (by decide) (fun z => by have := r.1 z; rw [if_neg (by omega)]; exact ⟨by omega, by omega, by decide⟩)
theorem vUnit_4 (hd : zVd P tk kA vA qA N) (hT : zTK T m) (p : Int32) (hp : p.toInt = 4) (hS : ∀ p : Int32, p.toInt = 5 → zSc P tk kA vA qA tt N m T (F_X3_sum_o5 P p) 5) : zUc P tk kA vA qA tt N m T (F_X3_unit_o4 P p) 4 := by
  intro σ s h
  have e23 : (23 : Int32).toInt = 23 := by decide
  have e13 : (13 : Int32).toInt = 13 := by decide
  have e31 : (31 : Int32).toInt = 31 := by decide
  have e22 : (22 : Int32).toInt = 22 := by decide
  have e6 : (6 : Int32).toInt = 6 := by decide
  have r : (s.1 = 0 → (σ.1 P 3).toInt = T.1 s.2.2.1) ∧ (s.1 ≠ 0 → (σ.1 P 3).toInt = 34) := ⟨fun z => (h.2.2.2 z).2.2.1, fun z => (h.2.2.1 z).2⟩
  unfold F_X3_unit_o4
  simp only [zlt, e23, e13, e31, e22, e6]
  by_cases c1 : (σ.1 P 3).toInt = 23
  · rw [if_pos c1]
    have hc : s.1 = 0 := Classical.byContradiction (fun z => by have := r.2 z; omega)
    exact vUnit0 hd hT 4 h hc (by have := r.1 hc; omega) _ _
  rw [if_neg c1]
  by_cases c2 : (σ.1 P 3).toInt < 13
  · rw [if_pos c2, if_neg (by omega), if_neg (by omega)]
    exact vUnitF hd 4 h 1 (by decide) (fun z => by have := r.1 z; rw [if_neg (by omega)]; exact ⟨by omega, by omega, by decide⟩)
  rw [if_neg c2]
  by_cases c3 : (σ.1 P 3).toInt < 22
  · rw [if_pos c3]
    have hc : s.1 = 0 := Classical.byContradiction (fun z => by have := r.2 z; omega)
    exact vUnit0 hd hT 4 h hc (by have := r.1 hc; omega) _ _
  rw [if_neg c3]
  by_cases c4 : (σ.1 P 3).toInt = 31
  · have hc : s.1 = 0 := Classical.byContradiction (fun z => by have := r.2 z; omega)
    have rr := r.1 hc
    rw [if_pos c4, if_pos (by omega)]
    have e1 : (1 : Int32).toInt = 1 := by decide
    exact vUnitB hd hT 4 (by decide) (hS (p + 1) (by rw [zb_add (by rw [hp, e1]; decide) (by rw [hp, e1]; decide), hp, e1]; rfl)) h hc (by omega)
  · rw [if_neg c4, if_neg c4]
    exact vUnitF hd 4 h 1 (by decide) (fun z => by have := r.1 z; rw [if_neg (by omega)]; exact ⟨by omega, by omega, by decide⟩)
theorem vUnit_3 (hd : zVd P tk kA vA qA N) (hT : zTK T m) (p : Int32) (hp : p.toInt = 3) (hS : ∀ p : Int32, p.toInt = 4 → zSc P tk kA vA qA tt N m T (F_X3_sum_o4 P p) 4) : zUc P tk kA vA qA tt N m T (F_X3_unit_o3 P p) 3 := by
  intro σ s h
  have e23 : (23 : Int32).toInt = 23 := by decide
  have e13 : (13 : Int32).toInt = 13 := by decide
  have e31 : (31 : Int32).toInt = 31 := by decide
  have e22 : (22 : Int32).toInt = 22 := by decide
  have e6 : (6 : Int32).toInt = 6 := by decide
  have r : (s.1 = 0 → (σ.1 P 3).toInt = T.1 s.2.2.1) ∧ (s.1 ≠ 0 → (σ.1 P 3).toInt = 34) := ⟨fun z => (h.2.2.2 z).2.2.1, fun z => (h.2.2.1 z).2⟩
  unfold F_X3_unit_o3
  simp only [zlt, e23, e13, e31, e22, e6]
  by_cases c1 : (σ.1 P 3).toInt = 23
  · rw [if_pos c1]
    have hc : s.1 = 0 := Classical.byContradiction (fun z => by have := r.2 z; omega)
    exact vUnit0 hd hT 3 h hc (by have := r.1 hc; omega) _ _
  rw [if_neg c1]
  by_cases c2 : (σ.1 P 3).toInt < 13
  · rw [if_pos c2, if_neg (by omega), if_neg (by omega)]
    exact vUnitF hd 3 h 1 (by decide) (fun z => by have := r.1 z; rw [if_neg (by omega)]; exact ⟨by omega, by omega, by decide⟩)
  rw [if_neg c2]
  by_cases c3 : (σ.1 P 3).toInt < 22
  · rw [if_pos c3]
    have hc : s.1 = 0 := Classical.byContradiction (fun z => by have := r.2 z; omega)
    exact vUnit0 hd hT 3 h hc (by have := r.1 hc; omega) _ _
  rw [if_neg c3]
  by_cases c4 : (σ.1 P 3).toInt = 31
  · have hc : s.1 = 0 := Classical.byContradiction (fun z => by have := r.2 z; omega)
    have rr := r.1 hc
    rw [if_pos c4, if_pos (by omega)]
    have e1 : (1 : Int32).toInt = 1 := by decide
    exact vUnitB hd hT 3 (by decide) (hS (p + 1) (by rw [zb_add (by rw [hp, e1]; decide) (by rw [hp, e1]; decide), hp, e1]; rfl)) h hc (by omega)
  · rw [if_neg c4, if_neg c4]
    exact vUnitF hd 3 h 1 (by decide) (fun z => by have := r.1 z; rw [if_neg (by omega)]; exact ⟨by omega, by omega, by decide⟩)
theorem vUnit_2 (hd : zVd P tk kA vA qA N) (hT : zTK T m) (p : Int32) (hp : p.toInt = 2) (hS : ∀ p : Int32, p.toInt = 3 → zSc P tk kA vA qA tt N m T (F_X3_sum_o3 P p) 3) : zUc P tk kA vA qA tt N m T (F_X3_unit_o2 P p) 2 := by
  intro σ s h
  have e23 : (23 : Int32).toInt = 23 := by decide
  have e13 : (13 : Int32).toInt = 13 := by decide
  have e31 : (31 : Int32).toInt = 31 := by decide
  have e22 : (22 : Int32).toInt = 22 := by decide
  have e6 : (6 : Int32).toInt = 6 := by decide
  have r : (s.1 = 0 → (σ.1 P 3).toInt = T.1 s.2.2.1) ∧ (s.1 ≠ 0 → (σ.1 P 3).toInt = 34) := ⟨fun z => (h.2.2.2 z).2.2.1, fun z => (h.2.2.1 z).2⟩
  unfold F_X3_unit_o2
  simp only [zlt, e23, e13, e31, e22, e6]
  by_cases c1 : (σ.1 P 3).toInt = 23
  · rw [if_pos c1]
    have hc : s.1 = 0 := Classical.byContradiction (fun z => by have := r.2 z; omega)
    exact vUnit0 hd hT 2 h hc (by have := r.1 hc; omega) _ _
  rw [if_neg c1]
  by_cases c2 : (σ.1 P 3).toInt < 13
  · rw [if_pos c2, if_neg (by omega), if_neg (by omega)]
    exact vUnitF hd 2 h 1 (by decide) (fun z => by have := r.1 z; rw [if_neg (by omega)]; exact ⟨by omega, by omega, by decide⟩)
  rw [if_neg c2]
  by_cases c3 : (σ.1 P 3).toInt < 22
  · rw [if_pos c3]
    have hc : s.1 = 0 := Classical.byContradiction (fun z => by have := r.2 z; omega)
    exact vUnit0 hd hT 2 h hc (by have := r.1 hc; omega) _ _
  rw [if_neg c3]
  by_cases c4 : (σ.1 P 3).toInt = 31
  · have hc : s.1 = 0 := Classical.byContradiction (fun z => by have := r.2 z; omega)
    have rr := r.1 hc
    rw [if_pos c4, if_pos (by omega)]
    have e1 : (1 : Int32).toInt = 1 := by decide
    exact vUnitB hd hT 2 (by decide) (hS (p + 1) (by rw [zb_add (by rw [hp, e1]; decide) (by rw [hp, e1]; decide), hp, e1]; rfl)) h hc (by omega)
  · rw [if_neg c4, if_neg c4]
    exact vUnitF hd 2 h 1 (by decide) (fun z => by have := r.1 z; rw [if_neg (by omega)]; exact ⟨by omega, by omega, by decide⟩)
theorem vUnit_1 (hd : zVd P tk kA vA qA N) (hT : zTK T m) (p : Int32) (hp : p.toInt = 1) (hS : ∀ p : Int32, p.toInt = 2 → zSc P tk kA vA qA tt N m T (F_X3_sum_o2 P p) 2) : zUc P tk kA vA qA tt N m T (F_X3_unit_o1 P p) 1 := by
  intro σ s h
  have e23 : (23 : Int32).toInt = 23 := by decide
  have e13 : (13 : Int32).toInt = 13 := by decide
  have e31 : (31 : Int32).toInt = 31 := by decide
  have e22 : (22 : Int32).toInt = 22 := by decide
  have e6 : (6 : Int32).toInt = 6 := by decide
  have r : (s.1 = 0 → (σ.1 P 3).toInt = T.1 s.2.2.1) ∧ (s.1 ≠ 0 → (σ.1 P 3).toInt = 34) := ⟨fun z => (h.2.2.2 z).2.2.1, fun z => (h.2.2.1 z).2⟩
  unfold F_X3_unit_o1
  simp only [zlt, e23, e13, e31, e22, e6]
  by_cases c1 : (σ.1 P 3).toInt = 23
  · rw [if_pos c1]
    have hc : s.1 = 0 := Classical.byContradiction (fun z => by have := r.2 z; omega)
    exact vUnit0 hd hT 1 h hc (by have := r.1 hc; omega) _ _
  rw [if_neg c1]
  by_cases c2 : (σ.1 P 3).toInt < 13
  · rw [if_pos c2, if_neg (by omega), if_neg (by omega)]
    exact vUnitF hd 1 h 1 (by decide) (fun z => by have := r.1 z; rw [if_neg (by omega)]; exact ⟨by omega, by omega, by decide⟩)
  rw [if_neg c2]
  by_cases c3 : (σ.1 P 3).toInt < 22
  · rw [if_pos c3]
    have hc : s.1 = 0 := Classical.byContradiction (fun z => by have := r.2 z; omega)
    exact vUnit0 hd hT 1 h hc (by have := r.1 hc; omega) _ _
  rw [if_neg c3]
  by_cases c4 : (σ.1 P 3).toInt = 31
  · have hc : s.1 = 0 := Classical.byContradiction (fun z => by have := r.2 z; omega)
    have rr := r.1 hc
    rw [if_pos c4, if_pos (by omega)]
    have e1 : (1 : Int32).toInt = 1 := by decide
    exact vUnitB hd hT 1 (by decide) (hS (p + 1) (by rw [zb_add (by rw [hp, e1]; decide) (by rw [hp, e1]; decide), hp, e1]; rfl)) h hc (by omega)
  · rw [if_neg c4, if_neg c4]
    exact vUnitF hd 1 h 1 (by decide) (fun z => by have := r.1 z; rw [if_neg (by omega)]; exact ⟨by omega, by omega, by decide⟩)
theorem vUnit_0 (hd : zVd P tk kA vA qA N) (hT : zTK T m) (p : Int32) (hp : p.toInt = 0) (hS : ∀ p : Int32, p.toInt = 1 → zSc P tk kA vA qA tt N m T (F_X3_sum_o1 P p) 1) : zUc P tk kA vA qA tt N m T (F_X3_unit_o0 P p) 0 := by
  intro σ s h
  have e23 : (23 : Int32).toInt = 23 := by decide
  have e13 : (13 : Int32).toInt = 13 := by decide
  have e31 : (31 : Int32).toInt = 31 := by decide
  have e22 : (22 : Int32).toInt = 22 := by decide
  have e6 : (6 : Int32).toInt = 6 := by decide
  have r : (s.1 = 0 → (σ.1 P 3).toInt = T.1 s.2.2.1) ∧ (s.1 ≠ 0 → (σ.1 P 3).toInt = 34) := ⟨fun z => (h.2.2.2 z).2.2.1, fun z => (h.2.2.1 z).2⟩
  unfold F_X3_unit_o0
  simp only [zlt, e23, e13, e31, e22, e6]
  by_cases c1 : (σ.1 P 3).toInt = 23
  · rw [if_pos c1]
    have hc : s.1 = 0 := Classical.byContradiction (fun z => by have := r.2 z; omega)
    exact vUnit0 hd hT 0 h hc (by have := r.1 hc; omega) _ _
  rw [if_neg c1]
  by_cases c2 : (σ.1 P 3).toInt < 13
  · rw [if_pos c2, if_neg (by omega), if_neg (by omega)]
    exact vUnitF hd 0 h 1 (by decide) (fun z => by have := r.1 z; rw [if_neg (by omega)]; exact ⟨by omega, by omega, by decide⟩)
  rw [if_neg c2]
  by_cases c3 : (σ.1 P 3).toInt < 22
  · rw [if_pos c3]
    have hc : s.1 = 0 := Classical.byContradiction (fun z => by have := r.2 z; omega)
    exact vUnit0 hd hT 0 h hc (by have := r.1 hc; omega) _ _
  rw [if_neg c3]
  by_cases c4 : (σ.1 P 3).toInt = 31
  · have hc : s.1 = 0 := Classical.byContradiction (fun z => by have := r.2 z; omega)
    have rr := r.1 hc
    rw [if_pos c4, if_pos (by omega)]
    have e1 : (1 : Int32).toInt = 1 := by decide
    exact vUnitB hd hT 0 (by decide) (hS (p + 1) (by rw [zb_add (by rw [hp, e1]; decide) (by rw [hp, e1]; decide), hp, e1]; rfl)) h hc (by omega)
  · rw [if_neg c4, if_neg c4]
    exact vUnitF hd 0 h 1 (by decide) (fun z => by have := r.1 z; rw [if_neg (by omega)]; exact ⟨by omega, by omega, by decide⟩)
theorem vProd_6 (hd : zVd P tk kA vA qA N) (hT : zTK T m) (p : Int32) (hp : p.toInt = 6) : zPd P tk kA vA qA tt N m T (F_X3_product_o6 P p) 6 := by
  intro σ s h
  obtain ⟨n, hn, e⟩ : ∃ n : Nat, n = 10000 ∧ F_X3_product_o6 P p σ = F_X3_product_o6_7 P p n 0 (F_X3_unit_o6 P p σ) := by
    unfold F_X3_product_o6
    simp only [zlt]
    exact ⟨10000, rfl, rfl⟩
  rw [e]
  exact vProd hd hT (vUnit_6 hd hT p hp) (F_X3_product_o6_7 P p) (fun n x τ => by rw [F_X3_product_o6_7]; simp only [zlt]) n (by omega) σ s h
theorem vSum_6 (hd : zVd P tk kA vA qA N) (hT : zTK T m) (p : Int32) (hp : p.toInt = 6) : zSc P tk kA vA qA tt N m T (F_X3_sum_o6 P p) 6 := by
  intro σ s h
  obtain ⟨n, hn, e⟩ : ∃ n : Nat, n = 10000 ∧ F_X3_sum_o6 P p σ = F_X3_sum_o6_7 P p n 0 (F_X3_product_o6 P p σ) := by
    unfold F_X3_sum_o6
    simp only [zlt]
    exact ⟨10000, rfl, rfl⟩
  rw [e]
  exact vSum hd hT (vProd_6 hd hT p hp) (F_X3_sum_o6_7 P p) (fun n x τ => by rw [F_X3_sum_o6_7]; simp only [zlt]) n (by omega) σ s h
theorem vProd_5 (hd : zVd P tk kA vA qA N) (hT : zTK T m) (p : Int32) (hp : p.toInt = 5) : zPd P tk kA vA qA tt N m T (F_X3_product_o5 P p) 5 := by
  intro σ s h
  obtain ⟨n, hn, e⟩ : ∃ n : Nat, n = 10000 ∧ F_X3_product_o5 P p σ = F_X3_product_o5_7 P p n 0 (F_X3_unit_o5 P p σ) := by
    unfold F_X3_product_o5
    simp only [zlt]
    exact ⟨10000, rfl, rfl⟩
  rw [e]
  exact vProd hd hT (vUnit_5 hd hT p hp (fun p hp => vSum_6 hd hT p hp)) (F_X3_product_o5_7 P p) (fun n x τ => by rw [F_X3_product_o5_7]; simp only [zlt]) n (by omega) σ s h
theorem vSum_5 (hd : zVd P tk kA vA qA N) (hT : zTK T m) (p : Int32) (hp : p.toInt = 5) : zSc P tk kA vA qA tt N m T (F_X3_sum_o5 P p) 5 := by
  intro σ s h
  obtain ⟨n, hn, e⟩ : ∃ n : Nat, n = 10000 ∧ F_X3_sum_o5 P p σ = F_X3_sum_o5_7 P p n 0 (F_X3_product_o5 P p σ) := by
    unfold F_X3_sum_o5
    simp only [zlt]
    exact ⟨10000, rfl, rfl⟩
  rw [e]
  exact vSum hd hT (vProd_5 hd hT p hp) (F_X3_sum_o5_7 P p) (fun n x τ => by rw [F_X3_sum_o5_7]; simp only [zlt]) n (by omega) σ s h
theorem vProd_4 (hd : zVd P tk kA vA qA N) (hT : zTK T m) (p : Int32) (hp : p.toInt = 4) : zPd P tk kA vA qA tt N m T (F_X3_product_o4 P p) 4 := by
  intro σ s h
  obtain ⟨n, hn, e⟩ : ∃ n : Nat, n = 10000 ∧ F_X3_product_o4 P p σ = F_X3_product_o4_7 P p n 0 (F_X3_unit_o4 P p σ) := by
    unfold F_X3_product_o4
    simp only [zlt]
    exact ⟨10000, rfl, rfl⟩
  rw [e]
  exact vProd hd hT (vUnit_4 hd hT p hp (fun p hp => vSum_5 hd hT p hp)) (F_X3_product_o4_7 P p) (fun n x τ => by rw [F_X3_product_o4_7]; simp only [zlt]) n (by omega) σ s h
theorem vSum_4 (hd : zVd P tk kA vA qA N) (hT : zTK T m) (p : Int32) (hp : p.toInt = 4) : zSc P tk kA vA qA tt N m T (F_X3_sum_o4 P p) 4 := by
  intro σ s h
  obtain ⟨n, hn, e⟩ : ∃ n : Nat, n = 10000 ∧ F_X3_sum_o4 P p σ = F_X3_sum_o4_7 P p n 0 (F_X3_product_o4 P p σ) := by
    unfold F_X3_sum_o4
    simp only [zlt]
    exact ⟨10000, rfl, rfl⟩
  rw [e]
  exact vSum hd hT (vProd_4 hd hT p hp) (F_X3_sum_o4_7 P p) (fun n x τ => by rw [F_X3_sum_o4_7]; simp only [zlt]) n (by omega) σ s h
theorem vProd_3 (hd : zVd P tk kA vA qA N) (hT : zTK T m) (p : Int32) (hp : p.toInt = 3) : zPd P tk kA vA qA tt N m T (F_X3_product_o3 P p) 3 := by
  intro σ s h
  obtain ⟨n, hn, e⟩ : ∃ n : Nat, n = 10000 ∧ F_X3_product_o3 P p σ = F_X3_product_o3_7 P p n 0 (F_X3_unit_o3 P p σ) := by
    unfold F_X3_product_o3
    simp only [zlt]
    exact ⟨10000, rfl, rfl⟩
  rw [e]
  exact vProd hd hT (vUnit_3 hd hT p hp (fun p hp => vSum_4 hd hT p hp)) (F_X3_product_o3_7 P p) (fun n x τ => by rw [F_X3_product_o3_7]; simp only [zlt]) n (by omega) σ s h
theorem vSum_3 (hd : zVd P tk kA vA qA N) (hT : zTK T m) (p : Int32) (hp : p.toInt = 3) : zSc P tk kA vA qA tt N m T (F_X3_sum_o3 P p) 3 := by
  intro σ s h
  obtain ⟨n, hn, e⟩ : ∃ n : Nat, n = 10000 ∧ F_X3_sum_o3 P p σ = F_X3_sum_o3_7 P p n 0 (F_X3_product_o3 P p σ) := by
    unfold F_X3_sum_o3
    simp only [zlt]
    exact ⟨10000, rfl, rfl⟩
  rw [e]
  exact vSum hd hT (vProd_3 hd hT p hp) (F_X3_sum_o3_7 P p) (fun n x τ => by rw [F_X3_sum_o3_7]; simp only [zlt]) n (by omega) σ s h
theorem vProd_2 (hd : zVd P tk kA vA qA N) (hT : zTK T m) (p : Int32) (hp : p.toInt = 2) : zPd P tk kA vA qA tt N m T (F_X3_product_o2 P p) 2 := by
  intro σ s h
  obtain ⟨n, hn, e⟩ : ∃ n : Nat, n = 10000 ∧ F_X3_product_o2 P p σ = F_X3_product_o2_7 P p n 0 (F_X3_unit_o2 P p σ) := by
    unfold F_X3_product_o2
    simp only [zlt]
    exact ⟨10000, rfl, rfl⟩
  rw [e]
  exact vProd hd hT (vUnit_2 hd hT p hp (fun p hp => vSum_3 hd hT p hp)) (F_X3_product_o2_7 P p) (fun n x τ => by rw [F_X3_product_o2_7]; simp only [zlt]) n (by omega) σ s h
theorem vSum_2 (hd : zVd P tk kA vA qA N) (hT : zTK T m) (p : Int32) (hp : p.toInt = 2) : zSc P tk kA vA qA tt N m T (F_X3_sum_o2 P p) 2 := by
  intro σ s h
  obtain ⟨n, hn, e⟩ : ∃ n : Nat, n = 10000 ∧ F_X3_sum_o2 P p σ = F_X3_sum_o2_7 P p n 0 (F_X3_product_o2 P p σ) := by
    unfold F_X3_sum_o2
    simp only [zlt]
    exact ⟨10000, rfl, rfl⟩
  rw [e]
  exact vSum hd hT (vProd_2 hd hT p hp) (F_X3_sum_o2_7 P p) (fun n x τ => by rw [F_X3_sum_o2_7]; simp only [zlt]) n (by omega) σ s h
theorem vProd_1 (hd : zVd P tk kA vA qA N) (hT : zTK T m) (p : Int32) (hp : p.toInt = 1) : zPd P tk kA vA qA tt N m T (F_X3_product_o1 P p) 1 := by
  intro σ s h
  obtain ⟨n, hn, e⟩ : ∃ n : Nat, n = 10000 ∧ F_X3_product_o1 P p σ = F_X3_product_o1_7 P p n 0 (F_X3_unit_o1 P p σ) := by
    unfold F_X3_product_o1
    simp only [zlt]
    exact ⟨10000, rfl, rfl⟩
  rw [e]
  exact vProd hd hT (vUnit_1 hd hT p hp (fun p hp => vSum_2 hd hT p hp)) (F_X3_product_o1_7 P p) (fun n x τ => by rw [F_X3_product_o1_7]; simp only [zlt]) n (by omega) σ s h
theorem vSum_1 (hd : zVd P tk kA vA qA N) (hT : zTK T m) (p : Int32) (hp : p.toInt = 1) : zSc P tk kA vA qA tt N m T (F_X3_sum_o1 P p) 1 := by
  intro σ s h
  obtain ⟨n, hn, e⟩ : ∃ n : Nat, n = 10000 ∧ F_X3_sum_o1 P p σ = F_X3_sum_o1_7 P p n 0 (F_X3_product_o1 P p σ) := by
    unfold F_X3_sum_o1
    simp only [zlt]
    exact ⟨10000, rfl, rfl⟩
  rw [e]
  exact vSum hd hT (vProd_1 hd hT p hp) (F_X3_sum_o1_7 P p) (fun n x τ => by rw [F_X3_sum_o1_7]; simp only [zlt]) n (by omega) σ s h
theorem vProd_0 (hd : zVd P tk kA vA qA N) (hT : zTK T m) (p : Int32) (hp : p.toInt = 0) : zPd P tk kA vA qA tt N m T (F_X3_product_o0 P p) 0 := by
  intro σ s h
  obtain ⟨n, hn, e⟩ : ∃ n : Nat, n = 10000 ∧ F_X3_product_o0 P p σ = F_X3_product_o0_7 P p n 0 (F_X3_unit_o0 P p σ) := by
    unfold F_X3_product_o0
    simp only [zlt]
    exact ⟨10000, rfl, rfl⟩
  rw [e]
  exact vProd hd hT (vUnit_0 hd hT p hp (fun p hp => vSum_1 hd hT p hp)) (F_X3_product_o0_7 P p) (fun n x τ => by rw [F_X3_product_o0_7]; simp only [zlt]) n (by omega) σ s h
theorem vSum_0 (hd : zVd P tk kA vA qA N) (hT : zTK T m) (p : Int32) (hp : p.toInt = 0) : zSc P tk kA vA qA tt N m T (F_X3_sum_o0 P p) 0 := by
  intro σ s h
  obtain ⟨n, hn, e⟩ : ∃ n : Nat, n = 10000 ∧ F_X3_sum_o0 P p σ = F_X3_sum_o0_7 P p n 0 (F_X3_product_o0 P p σ) := by
    unfold F_X3_sum_o0
    simp only [zlt]
    exact ⟨10000, rfl, rfl⟩
  rw [e]
  exact vSum hd hT (vProd_0 hd hT p hp) (F_X3_sum_o0_7 P p) (fun n x τ => by rw [F_X3_sum_o0_7]; simp only [zlt]) n (by omega) σ s h
end ZV3
