-- 35i.pure9
section
/-! EXPRESSIONS: a small automaton (true: a unit is wanted; how many brackets are open) -/
def aE (T : zTn) : Nat → Bool → Int → zA → zA
  | 0, _, _, s => s
  | n + 1, true, o, s => if s.1 ≠ 0 then s else if T.1 s.2.2.1 = 23 ∨ (13 ≤ T.1 s.2.2.1 ∧ T.1 s.2.2.1 < 22) then aE T n false o (aTake T (T.1 s.2.2.1) s) else if T.1 s.2.2.1 = 31 ∧ o < 6 then aE T n true (o + 1) (aTake T 31 s) else aFail T (if T.1 s.2.2.1 = 31 then 2 else 1) s
  | n + 1, false, o, s => if s.1 ≠ 0 then s else if 26 ≤ T.1 s.2.2.1 ∧ T.1 s.2.2.1 ≤ 29 then aE T n true o (aTake T (T.1 s.2.2.1) s) else if 0 < o then (if T.1 s.2.2.1 = 32 then aE T n false (o - 1) (aTake T 32 s) else aFail T 1 s) else s
theorem aE_f {T : zTn} {s : zA} (c : s.1 ≠ 0) : ∀ (n : Nat) (b : Bool) (o : Int), aE T n b o s = s
  | 0, _, _ => rfl
  | _ + 1, true, _ => if_pos c
  | _ + 1, false, _ => if_pos c
section ZV3
variable {P tk kA vA qA tt N m : Nat} {T : zTn} {σ σ' : zS} {s : zA}
def zUc (P tk kA vA qA tt N m : Nat) (T : zTn) (F : zS → zS) (o : Int) : Prop := ∀ (σ : zS) (s : zA), zV P tk kA vA qA tt N m T σ s → ∃ s' : zA, zV P tk kA vA qA tt N m T (F σ) s' ∧ (s'.1 = 0 → s.1 = 0 ∧ s.2.2.1 < s'.2.2.1 ∧ s'.2.2.2 = s.2.2.2) ∧ ∃ k, ∀ n, aE T (n + k) true o s = aE T n false o s'
def zPd (P tk kA vA qA tt N m : Nat) (T : zTn) (F : zS → zS) (o : Int) : Prop := ∀ (σ : zS) (s : zA), zV P tk kA vA qA tt N m T σ s → ∃ s' : zA, zV P tk kA vA qA tt N m T (F σ) s' ∧ (s'.1 = 0 → s.1 = 0 ∧ s.2.2.1 < s'.2.2.1 ∧ s'.2.2.2 = s.2.2.2 ∧ ¬ (28 ≤ T.1 s'.2.2.1 ∧ T.1 s'.2.2.1 ≤ 29)) ∧ ∃ k, ∀ n, aE T (n + k) true o s = aE T n false o s'
def zSc (P tk kA vA qA tt N m : Nat) (T : zTn) (F : zS → zS) (o : Int) : Prop := ∀ (σ : zS) (s : zA), zV P tk kA vA qA tt N m T σ s → ∃ s' : zA, zV P tk kA vA qA tt N m T (F σ) s' ∧ (s'.1 = 0 → s.1 = 0 ∧ s.2.2.1 < s'.2.2.1 ∧ s'.2.2.2 = s.2.2.2 ∧ ¬ (26 ≤ T.1 s'.2.2.1 ∧ T.1 s'.2.2.1 ≤ 29)) ∧ ∃ k, ∀ n, aE T (n + k) true o s = aE T n false o s'
/-- signs a and b in a row of what F reads -/
theorem vRow (hd : zVd P tk kA vA qA N) (hT : zTK T m) {F : zS → zS} {o lo : Int} {A B C D : Int32} (hlo : 26 ≤ lo ∧ lo ≤ 28) (hA : A.toInt = lo) (hB : B.toInt = lo + 1) (Z : Int → Prop)
    (hF : ∀ (σ : zS) (s : zA), zV P tk kA vA qA tt N m T σ s → ∃ s' : zA, zV P tk kA vA qA tt N m T (F σ) s' ∧ (s'.1 = 0 → s.1 = 0 ∧ s.2.2.1 < s'.2.2.1 ∧ s'.2.2.2 = s.2.2.2 ∧ Z (T.1 s'.2.2.1)) ∧ ∃ k, ∀ n, aE T (n + k) true o s = aE T n false o s')
    (G : Nat → Int32 → zS → zS)
    (hG : ∀ (n : Nat) (x : Int32) (τ : zS), G (n + 1) x τ = if (400 : Int32).toInt < x.toInt then τ else if (F_X10_isWithin (τ.1 P 3) A B).toInt = 0 then τ else if (τ.1 P 3).toInt = A.toInt then G n (x + (1 : Int32)) (F_X9_addStep (((F (F_X3_take P (τ.1 P 3) τ)).2.2 P 1).getD 0) C 0 (F (F_X3_take P (τ.1 P 3) τ))) else G n (x + (1 : Int32)) (F_X9_addStep (((F (F_X3_take P (τ.1 P 3) τ)).2.2 P 1).getD 0) D 0 (F (F_X3_take P (τ.1 P 3) τ)))) :
    ∀ (n : Nat) (x : Int32) (j : Nat) (τ : zS) (s : zA), x.toInt = j → j ≤ 401 → 401 - j < n → zV P tk kA vA qA tt N m T τ s → (s.1 = 0 → j ≤ s.2.2.1 ∧ Z (T.1 s.2.2.1)) → ∃ s' : zA, zV P tk kA vA qA tt N m T (G n x τ) s' ∧ (s'.1 = 0 → s.1 = 0 ∧ s.2.2.1 ≤ s'.2.2.1 ∧ s'.2.2.2 = s.2.2.2 ∧ Z (T.1 s'.2.2.1) ∧ ¬ (lo ≤ T.1 s'.2.2.1 ∧ T.1 s'.2.2.1 ≤ lo + 1)) ∧ ∃ k, ∀ n, aE T (n + k) false o s = aE T n false o s' := by
  intro n
  induction n with
  | zero => intro x j τ s _ _ h; exact absurd h (by omega)
  | succ n ih =>
    intro x j τ s hx hj hm h hz
    have e400 : (400 : Int32).toInt = 400 := by decide
    rw [hG, e400]
    simp only [zwi, hA, hB]
    have stay : Unit → (s.1 = 0 → ¬ (lo ≤ T.1 s.2.2.1 ∧ T.1 s.2.2.1 ≤ lo + 1)) → ∃ s' : zA, zV P tk kA vA qA tt N m T τ s' ∧ (s'.1 = 0 → s.1 = 0 ∧ s.2.2.1 ≤ s'.2.2.1 ∧ s'.2.2.2 = s.2.2.2 ∧ Z (T.1 s'.2.2.1) ∧ ¬ (lo ≤ T.1 s'.2.2.1 ∧ T.1 s'.2.2.1 ≤ lo + 1)) ∧ ∃ k, ∀ n, aE T (n + k) false o s = aE T n false o s' := fun _ q => ⟨s, h, fun z => ⟨z, Nat.le_refl _, rfl, (hz z).2, q z⟩, 0, fun n => rfl⟩
    by_cases c0 : 400 < x.toInt
    · rw [if_pos c0]
      refine stay () (fun z => ?_)
      have r1 := (h.2.2.2 z).1
      have r2 := (hz z).1
      have := hT.2.1
      omega
    rw [if_neg c0]
    by_cases c : s.1 = 0
    · have r3 := (h.2.2.2 c).2.2.1
      rw [r3]
      by_cases c1 : lo ≤ T.1 s.2.2.1 ∧ T.1 s.2.2.1 ≤ lo + 1
      · rw [if_neg (fun z => z c1)]
        have t1 := vTake hd hT h (τ.1 P 3) (by omega)
        rw [r3] at t1
        obtain ⟨s2, u1, u2, k, u3⟩ := hF _ _ t1
        have ut := vtt u1
        rw [ut]
        have nx := fun (C : Int32) => ih (x + (1 : Int32)) (j + 1) (F_X9_addStep tt C 0 (F (F_X3_take P (τ.1 P 3) τ))) s2 (zp1 hx (by omega)) (by omega) (by omega) (vStep u1 C 0) (fun z => by
          have q := u2 z
          have q2 := aTake_i q.1
          have q3 := (hz c).1
          exact ⟨by omega, q.2.2.2⟩)
        have glue : ∀ X : zS, (∃ s' : zA, zV P tk kA vA qA tt N m T X s' ∧ (s'.1 = 0 → s2.1 = 0 ∧ s2.2.2.1 ≤ s'.2.2.1 ∧ s'.2.2.2 = s2.2.2.2 ∧ Z (T.1 s'.2.2.1) ∧ ¬ (lo ≤ T.1 s'.2.2.1 ∧ T.1 s'.2.2.1 ≤ lo + 1)) ∧ ∃ k, ∀ n, aE T (n + k) false o s2 = aE T n false o s') → ∃ s' : zA, zV P tk kA vA qA tt N m T X s' ∧ (s'.1 = 0 → s.1 = 0 ∧ s.2.2.1 ≤ s'.2.2.1 ∧ s'.2.2.2 = s.2.2.2 ∧ Z (T.1 s'.2.2.1) ∧ ¬ (lo ≤ T.1 s'.2.2.1 ∧ T.1 s'.2.2.1 ≤ lo + 1)) ∧ ∃ k, ∀ n, aE T (n + k) false o s = aE T n false o s' := fun X ⟨s', v1, v2, k2, v3⟩ => by
          refine ⟨s', v1, fun z => ?_, k2 + k + 1, fun n => ?_⟩
          · obtain ⟨w1, w2, w3, w4, w5⟩ := v2 z
            have q := u2 w1
            have q2 := aTake_i q.1
            exact ⟨c, by omega, by rw [w3, q.2.2.1, q2.2.2.2], w4, w5⟩
          · have e1 : aE T (n + (k2 + k + 1)) false o s = aE T (n + k2 + k) true o (aTake T (T.1 s.2.2.1) s) := by
              rw [show n + (k2 + k + 1) = (n + k2 + k) + 1 by omega]
              rw [aE, if_neg (zne c), if_pos (by omega)]
            rw [e1, u3, v3]
        by_cases c2 : T.1 s.2.2.1 = lo
        · rw [if_pos c2]
          exact glue _ (nx C)
        · rw [if_neg c2]
          exact glue _ (nx D)
      · rw [if_pos c1]
        exact stay () (fun _ => c1)
    · rw [if_pos (by rw [(h.2.2.1 c).2]; omega)]
      exact stay () (fun z => absurd z c)
theorem vProd (hd : zVd P tk kA vA qA N) (hT : zTK T m) {U : zS → zS} {o : Int} (hU : zUc P tk kA vA qA tt N m T U o) (G : Nat → Int32 → zS → zS)
    (hG : ∀ (n : Nat) (x : Int32) (τ : zS), G (n + 1) x τ = if (400 : Int32).toInt < x.toInt then τ else if (F_X10_isWithin (τ.1 P 3) (28 : Int32) (29 : Int32)).toInt = 0 then τ else if (τ.1 P 3).toInt = (28 : Int32).toInt then G n (x + (1 : Int32)) (F_X9_addStep (((U (F_X3_take P (τ.1 P 3) τ)).2.2 P 1).getD 0) 4 0 (U (F_X3_take P (τ.1 P 3) τ))) else G n (x + (1 : Int32)) (F_X9_addStep (((U (F_X3_take P (τ.1 P 3) τ)).2.2 P 1).getD 0) 5 0 (U (F_X3_take P (τ.1 P 3) τ)))) (N0 : Nat) (hN0 : 401 < N0) : ∀ (σ : zS) (s : zA), zV P tk kA vA qA tt N m T σ s → ∃ s' : zA, zV P tk kA vA qA tt N m T (G N0 0 (U σ)) s' ∧ (s'.1 = 0 → s.1 = 0 ∧ s.2.2.1 < s'.2.2.1 ∧ s'.2.2.2 = s.2.2.2 ∧ ¬ (28 ≤ T.1 s'.2.2.1 ∧ T.1 s'.2.2.1 ≤ 29)) ∧ ∃ k, ∀ n, aE T (n + k) true o s = aE T n false o s' := by
  intro σ s h
  obtain ⟨s1, u1, u2, k, u3⟩ := hU σ s h
  obtain ⟨s2, v1, v2, k2, v3⟩ := vRow (lo := 28) hd hT (by decide) (by decide) (by decide) (fun _ => True) (fun σ s h => by
    obtain ⟨s', w1, w2, w3⟩ := hU σ s h
    exact ⟨s', w1, fun z => ⟨(w2 z).1, (w2 z).2.1, (w2 z).2.2, trivial⟩, w3⟩) G hG N0 0 0 (U σ) s1 (by decide) (by omega) (by omega) u1 (fun z => ⟨by omega, trivial⟩)
  refine ⟨s2, v1, fun z => ?_, k2 + k, fun n => ?_⟩
  · obtain ⟨w1, w2, w3, -, w5⟩ := v2 z
    have q := u2 w1
    exact ⟨q.1, by omega, by rw [w3, q.2.2], w5⟩
  · rw [← Nat.add_assoc, u3, v3]
theorem vSum (hd : zVd P tk kA vA qA N) (hT : zTK T m) {U : zS → zS} {o : Int} (hU : zPd P tk kA vA qA tt N m T U o) (G : Nat → Int32 → zS → zS)
    (hG : ∀ (n : Nat) (x : Int32) (τ : zS), G (n + 1) x τ = if (400 : Int32).toInt < x.toInt then τ else if (F_X10_isWithin (τ.1 P 3) (26 : Int32) (27 : Int32)).toInt = 0 then τ else if (τ.1 P 3).toInt = (26 : Int32).toInt then G n (x + (1 : Int32)) (F_X9_addStep (((U (F_X3_take P (τ.1 P 3) τ)).2.2 P 1).getD 0) 2 0 (U (F_X3_take P (τ.1 P 3) τ))) else G n (x + (1 : Int32)) (F_X9_addStep (((U (F_X3_take P (τ.1 P 3) τ)).2.2 P 1).getD 0) 3 0 (U (F_X3_take P (τ.1 P 3) τ)))) (N0 : Nat) (hN0 : 401 < N0) : ∀ (σ : zS) (s : zA), zV P tk kA vA qA tt N m T σ s → ∃ s' : zA, zV P tk kA vA qA tt N m T (G N0 0 (U σ)) s' ∧ (s'.1 = 0 → s.1 = 0 ∧ s.2.2.1 < s'.2.2.1 ∧ s'.2.2.2 = s.2.2.2 ∧ ¬ (26 ≤ T.1 s'.2.2.1 ∧ T.1 s'.2.2.1 ≤ 29)) ∧ ∃ k, ∀ n, aE T (n + k) true o s = aE T n false o s' := by
  intro σ s h
  obtain ⟨s1, u1, u2, k, u3⟩ := hU σ s h
  obtain ⟨s2, v1, v2, k2, v3⟩ := vRow (lo := 26) hd hT (by decide) (by decide) (by decide) (fun q => ¬ (28 ≤ q ∧ q ≤ 29)) hU G hG N0 0 0 (U σ) s1 (by decide) (by omega) (by omega) u1 (fun z => ⟨by omega, (u2 z).2.2.2⟩)
  refine ⟨s2, v1, fun z => ?_, k2 + k, fun n => ?_⟩
  · obtain ⟨w1, w2, w3, w4, w5⟩ := v2 z
    have q := u2 w1
    exact ⟨q.1, by omega, by rw [w3, q.2.2.1], by omega⟩
  · rw [← Nat.add_assoc, u3, v3]
/-- a unit but for brackets -/
theorem vUnit0 (hd : zVd P tk kA vA qA N) (hT : zTK T m) (o : Int) (h : zV P tk kA vA qA tt N m T σ s) (hc : s.1 = 0) (c : T.1 s.2.2.1 = 23 ∨ (13 ≤ T.1 s.2.2.1 ∧ T.1 s.2.2.1 < 22)) (A B : Int32) : ∃ s' : zA, zV P tk kA vA qA tt N m T (F_X3_take P ((F_X9_addStep ((σ.2.2 P 1).getD 0) A B σ).1 P 3) (F_X9_addStep ((σ.2.2 P 1).getD 0) A B σ)) s' ∧ (s'.1 = 0 → s.1 = 0 ∧ s.2.2.1 < s'.2.2.1 ∧ s'.2.2.2 = s.2.2.2) ∧ ∃ k, ∀ n, aE T (n + k) true o s = aE T n false o s' := by
  rw [vtt h]
  have h1 := vStep h A B
  have r3 := (h1.2.2.2 hc).2.2.1
  have t1 := vTake hd hT h1 ((F_X9_addStep tt A B σ).1 P 3) (by omega)
  rw [r3] at t1
  refine ⟨_, t1, fun z => ?_, 1, fun n => ?_⟩
  · have q := aTake_i z
    exact ⟨hc, by omega, q.2.2.2⟩
  · rw [aE, if_neg (zne hc), if_pos c]
theorem vUnitF (hd : zVd P tk kA vA qA N) (o : Int) (h : zV P tk kA vA qA tt N m T σ s) (A : Int32) (hA : A.toInt ≠ 0) (c : s.1 = 0 → ¬ (T.1 s.2.2.1 = 23 ∨ (13 ≤ T.1 s.2.2.1 ∧ T.1 s.2.2.1 < 22)) ∧ ¬ (T.1 s.2.2.1 = 31 ∧ o < 6) ∧ A.toInt = if T.1 s.2.2.1 = 31 then 2 else 1) : ∃ s' : zA, zV P tk kA vA qA tt N m T (F_X3_fail P A σ) s' ∧ (s'.1 = 0 → s.1 = 0 ∧ s.2.2.1 < s'.2.2.1 ∧ s'.2.2.2 = s.2.2.2) ∧ ∃ k, ∀ n, aE T (n + k) true o s = aE T n false o s' := by
  refine ⟨_, vFail hd h A hA, fun z => absurd z (aFail_1 hA), 1, fun n => ?_⟩
  by_cases hc : s.1 = 0
  · rw [aE, if_neg (zne hc), if_neg (c hc).1, if_neg (c hc).2.1, aE_f (aFail_1 hA), (c hc).2.2]
  · rw [aFail_f hc, aE_f hc, aE_f hc]
theorem vUnitB (hd : zVd P tk kA vA qA N) (hT : zTK T m) {F : zS → zS} (o : Int) (ho : 0 ≤ o ∧ o < 6) (hS : zSc P tk kA vA qA tt N m T F (o + 1)) (h : zV P tk kA vA qA tt N m T σ s) (hc : s.1 = 0) (c : T.1 s.2.2.1 = 31) : ∃ s' : zA, zV P tk kA vA qA tt N m T (F_X3_take P 32 (F (F_X3_take P (σ.1 P 3) σ))) s' ∧ (s'.1 = 0 → s.1 = 0 ∧ s.2.2.1 < s'.2.2.1 ∧ s'.2.2.2 = s.2.2.2) ∧ ∃ k, ∀ n, aE T (n + k) true o s = aE T n false o s' := by
  have e32 : (32 : Int32).toInt = 32 := by decide
  have r3 := (h.2.2.2 hc).2.2.1
  have t1 := vTake hd hT h (σ.1 P 3) (by omega)
  rw [r3, c] at t1
  obtain ⟨s2, u1, u2, k, u3⟩ := hS _ _ t1
  have t2 := vTake hd hT u1 32 (by decide)
  rw [e32] at t2
  refine ⟨_, t2, fun z => ?_, 1 + k + 1, fun n => ?_⟩
  · have q := aTake_i z
    have q2 := u2 q.1
    have q3 := aTake_i q2.1
    exact ⟨hc, by omega, by rw [q.2.2.2, q2.2.2.1, q3.2.2.2]⟩
  · have e1 : aE T (n + (1 + k + 1)) true o s = aE T (n + 1 + k) true (o + 1) (aTake T 31 s) := by
      show aE T ((n + (1 + k)) + 1) true o s = _
      rw [aE, if_neg (zne hc), if_neg (by omega), if_pos ⟨c, ho.2⟩, Nat.add_assoc]
    rw [e1, u3]
    by_cases c2 : s2.1 = 0
    · have q := u2 c2
      rw [aE, if_neg (fun z => z c2), if_neg q.2.2.2, if_pos (by omega)]
      by_cases c3 : T.1 s2.2.2.1 = 32
      · rw [if_pos c3, show o + 1 - 1 = o by omega]
      · rw [if_neg c3]
        have e : aTake T 32 s2 = aFail T 1 s2 := by
          unfold aTake
          rw [if_neg (fun z => z c2), if_pos c3]
        rw [e, aE_f (aFail_1 (by decide))]
    · rw [aTake_f c2, aE_f c2, aE_f c2]
theorem vUnit_6 (hd : zVd P tk kA vA qA N) (hT : zTK T m) (p : Int32) (hp : p.toInt = 6) : zUc P tk kA vA qA tt N m T (F_X3_unit_o6 P p) 6 := by
  intro σ s h
  have e23 : (23 : Int32).toInt = 23 := by decide
  have e13 : (13 : Int32).toInt = 13 := by decide
  have e31 : (31 : Int32).toInt = 31 := by decide
  have e22 : (22 : Int32).toInt = 22 := by decide
  have e6 : (6 : Int32).toInt = 6 := by decide
  have r : (s.1 = 0 → (σ.1 P 3).toInt = T.1 s.2.2.1) ∧ (s.1 ≠ 0 → (σ.1 P 3).toInt = 34) := ⟨fun z => (h.2.2.2 z).2.2.1, fun z => (h.2.2.1 z).2⟩
  unfold F_X3_unit_o6
  simp only [zlt, e23, e13, e31, e22, e6]
  by_cases c1 : (σ.1 P 3).toInt = 23
  · rw [if_pos c1]
    have hc : s.1 = 0 := Classical.byContradiction (fun z => by have := r.2 z; omega)
    exact vUnit0 hd hT 6 h hc (by have := r.1 hc; omega) _ _
  rw [if_neg c1]
  by_cases c2 : (σ.1 P 3).toInt < 13
  · rw [if_pos c2, if_neg (by omega), if_neg (by omega)]
    exact vUnitF hd 6 h 1 (by decide) (fun z => by have := r.1 z; rw [if_neg (by omega)]; exact ⟨by omega, by omega, by decide⟩)
  rw [if_neg c2]
  by_cases c3 : (σ.1 P 3).toInt < 22
  · rw [if_pos c3]
    have hc : s.1 = 0 := Classical.byContradiction (fun z => by have := r.2 z; omega)
    exact vUnit0 hd hT 6 h hc (by have := r.1 hc; omega) _ _
  rw [if_neg c3]
  by_cases c4 : (σ.1 P 3).toInt = 31
  · have hc : s.1 = 0 := Classical.byContradiction (fun z => by have := r.2 z; omega)
    have rr := r.1 hc
    rw [if_pos c4, if_neg (by omega), if_pos c4]
    exact vUnitF hd 6 h 2 (by decide) (fun z => by rw [if_pos (by omega)]; exact ⟨by omega, by omega, by decide⟩)
  · rw [if_neg c4, if_neg c4]
    exact vUnitF hd 6 h 1 (by decide) (fun z => by have := r.1 z; rw [if_neg (by omega)]; exact ⟨by omega, by omega, by decide⟩)
theorem vUnit_5 (hd : zVd P tk kA vA qA N) (hT : zTK T m) (p : Int32) (hp : p.toInt = 5) (hS : ∀ p : Int32, p.toInt = 6 → zSc P tk kA vA qA tt N m T (F_X3_sum_o6 P p) 6) : zUc P tk kA vA qA tt N m T (F_X3_unit_o5 P p) 5 := by
  intro σ s h
  have e23 : (23 : Int32).toInt = 23 := by decide
  have e13 : (13 : Int32).toInt = 13 := by decide
  have e31 : (31 : Int32).toInt = 31 := by decide
  have e22 : (22 : Int32).toInt = 22 := by decide
  have e6 : (6 : Int32).toInt = 6 := by decide
  have r : (s.1 = 0 → (σ.1 P 3).toInt = T.1 s.2.2.1) ∧ (s.1 ≠ 0 → (σ.1 P 3).toInt = 34) := ⟨fun z => (h.2.2.2 z).2.2.1, fun z => (h.2.2.1 z).2⟩
  unfold F_X3_unit_o5
  simp only [zlt, e23, e13, e31, e22, e6]
  by_cases c1 : (σ.1 P 3).toInt = 23
  · rw [if_pos c1]
    have hc : s.1 = 0 := Classical.byContradiction (fun z => by have := r.2 z; omega)
    exact vUnit0 hd hT 5 h hc (by have := r.1 hc; omega) _ _
  rw [if_neg c1]
  by_cases c2 : (σ.1 P 3).toInt < 13
  · rw [if_pos c2, if_neg (by omega), if_neg (by omega)]
    exact vUnitF hd 5 h 1 (by decide) (fun z => by have := r.1 z; rw [if_neg (by omega)]; exact ⟨by omega, by omega, by decide⟩)
  rw [if_neg c2]
  by_cases c3 : (σ.1 P 3).toInt < 22
  · rw [if_pos c3]
    have hc : s.1 = 0 := Classical.byContradiction (fun z => by have := r.2 z; omega)
    exact vUnit0 hd hT 5 h hc (by have := r.1 hc; omega) _ _
  rw [if_neg c3]
  by_cases c4 : (σ.1 P 3).toInt = 31
  · have hc : s.1 = 0 := Classical.byContradiction (fun z => by have := r.2 z; omega)
    have rr := r.1 hc
    rw [if_pos c4, if_pos (by omega)]
    have e1 : (1 : Int32).toInt = 1 := by decide
    exact vUnitB hd hT 5 (by decide) (hS (p + 1) (by rw [zb_add (by rw [hp, e1]; decide) (by rw [hp, e1]; decide), hp, e1]; rfl)) h hc (by omega)
  · rw [if_neg c4, if_neg c4]
    exact vUnitF hd 5 h 1 (by decide) (fun z => by have := r.1 z; rw [if_neg (by omega)]; exact ⟨by omega, by omega, by decide⟩)
theorem vUnit_4 (hd : zVd P tk kA vA qA N) (hT : zTK T m) (p : Int32) (hp : p.toInt = 4) (hS : ∀ p : Int32, p.toInt = 5 → zSc P tk kA vA qA tt N m T (F_X3_sum_o5 P p) 5) : zUc P tk kA vA qA tt N m T (F_X3_unit_o4 P p) 4 := by
  intro σ s h
  have e23 : (23 : Int32).toInt = 23 := by decide
  have e13 : (13 : Int32).toInt = 13 := by decide
  have e31 : (31 : Int32).toInt = 31 := by decide
  have e22 : (22 : Int32).toInt = 22 := by decide
  have e6 : (6 : Int32).toInt = 6 := by decide
  have r : (s.1 = 0 → (σ.1 P 3).toInt = T.1 s.2.2.1) ∧ (s.1 ≠ 0 → (σ.1 P 3).toInt = 34) := ⟨fun z => (h.2.2.2 z).2.2.1, fun z => (h.2.2.1 z).2⟩
  unfold F_X3_unit_o4
  simp only [zlt, e23, e13, e31, e22, e6]
  by_cases c1 : (σ.1 P 3).toInt = 23
  · rw [if_pos c1]
    have hc : s.1 = 0 := Classical.byContradiction (fun z => by have := r.2 z; omega)
    exact vUnit0 hd hT 4 h hc (by have := r.1 hc; omega) _ _
  rw [if_neg c1]
  by_cases c2 : (σ.1 P 3).toInt < 13
  · rw [if_pos c2, if_neg (by omega), if_neg (by omega)]
    exact vUnitF hd 4 h 1 (by decide) (fun z => by have := r.1 z; rw [if_neg (by omega)]; exact ⟨by omega, by omega, by decide⟩)
  rw [if_neg c2]
  by_cases c3 : (σ.1 P 3).toInt < 22
  · rw [if_pos c3]
    have hc : s.1 = 0 := Classical.byContradiction (fun z => by have := r.2 z; omega)
    exact vUnit0 hd hT 4 h hc (by have := r.1 hc; omega) _ _
  rw [if_neg c3]
  by_cases c4 : (σ.1 P 3).toInt = 31
  · have hc : s.1 = 0 := Classical.byContradiction (fun z => by have := r.2 z; omega)
    have rr := r.1 hc
    rw [if_pos c4, if_pos (by omega)]
    have e1 : (1 : Int32).toInt = 1 := by decide
    exact vUnitB hd hT 4 (by decide) (hS (p + 1) (by rw [zb_add (by rw [hp, e1]; decide) (by rw [hp, e1]; decide), hp, e1]; rfl)) h hc (by omega)
  · rw [if_neg c4, if_neg c4]
    exact vUnitF hd 4 h 1 (by decide) (fun z => by have := r.1 z; rw [if_neg (by omega)]; exact ⟨by omega, by omega, by decide⟩)
theorem vUnit_3 (hd : zVd P tk kA vA qA N) (hT : zTK T m) (p : Int32) (hp : p.toInt = 3) (hS : ∀ p : Int32, p.toInt = 4 → zSc P tk kA vA qA tt N m T (F_X3_sum_o4 P p) 4) : zUc P tk kA vA qA tt N m T (F_X3_unit_o3 P p) 3 := by
  intro σ s h
  have e23 : (23 : Int32).toInt = 23 := by decide
  have e13 : (13 : Int32).toInt = 13 := by decide
  have e31 : (31 : Int32).toInt = 31 := by decide
  have e22 : (22 : Int32).toInt = 22 := by decide
  have e6 : (6 : Int32).toInt = 6 := by decide
  have r : (s.1 = 0 → (σ.1 P 3).toInt = T.1 s.2.2.1) ∧ (s.1 ≠ 0 → (σ.1 P 3).toInt = 34) := ⟨fun z => (h.2.2.2 z).2.2.1, fun z => (h.2.2.1 z).2⟩
  unfold F_X3_unit_o3
  simp only [zlt, e23, e13, e31, e22, e6]
  by_cases c1 : (σ.1 P 3).toInt = 23
  · rw [if_pos c1]
    have hc : s.1 = 0 := Classical.byContradiction (fun z => by have := r.2 z; omega)
    exact vUnit0 hd hT 3 h hc (by have := r.1 hc; omega) _ _
  rw [if_neg c1]
  by_cases c2 : (σ.1 P 3).toInt < 13
  · rw [if_pos c2, if_neg (by omega), if_neg (by omega)]
    exact vUnitF hd 3 h 1 (by decide) (fun z => by have := r.1 z; rw [if_neg (by omega)]; exact ⟨by omega, by omega, by decide⟩)
  rw [if_neg c2]
  by_cases c3 : (σ.1 P 3).toInt < 22
  · rw [if_pos c3]
    have hc : s.1 = 0 := Classical.byContradiction (fun z => by have := r.2 z; omega)
    exact vUnit0 hd hT 3 h hc (by have := r.1 hc; omega) _ _
  rw [if_neg c3]
  by_cases c4 : (σ.1 P 3).toInt = 31
  · have hc : s.1 = 0 := Classical.byContradiction (fun z => by have := r.2 z; omega)
    have rr := r.1 hc
    rw [if_pos c4, if_pos (by omega)]
    have e1 : (1 : Int32).toInt = 1 := by decide
    exact vUnitB hd hT 3 (by decide) (hS (p + 1) (by rw [zb_add (by rw [hp, e1]; decide) (by rw [hp, e1]; decide), hp, e1]; rfl)) h hc (by omega)
  · rw [if_neg c4, if_neg c4]
    exact vUnitF hd 3 h 1 (by decide) (fun z => by have := r.1 z; rw [if_neg (by omega)]; exact ⟨by omega, by omega, by decide⟩)
theorem vUnit_2 (hd : zVd P tk kA vA qA N) (hT : zTK T m) (p : Int32) (hp : p.toInt = 2) (hS : ∀ p : Int32, p.toInt = 3 → zSc P tk kA vA qA tt N m T (F_X3_sum_o3 P p) 3) : zUc P tk kA vA qA tt N m T (F_X3_unit_o2 P p) 2 := by
  intro σ s h
  have e23 : (23 : Int32).toInt = 23 := by decide
  have e13 : (13 : Int32).toInt = 13 := by decide
  have e31 : (31 : Int32).toInt = 31 := by decide
  have e22 : (22 : Int32).toInt = 22 := by decide
  have e6 : (6 : Int32).toInt = 6 := by decide
  have r : (s.1 = 0 → (σ.1 P 3).toInt = T.1 s.2.2.1) ∧ (s.1 ≠ 0 → (σ.1 P 3).toInt = 34) := ⟨fun z => (h.2.2.2 z).2.2.1, fun z => (h.2.2.1 z).2⟩
  unfold F_X3_unit_o2
  simp only [zlt, e23, e13, e31, e22, e6]
  by_cases c1 : (σ.1 P 3).toInt = 23
  · rw [if_pos c1]
    have hc : s.1 = 0 := Classical.byContradiction (fun z => by have := r.2 z; omega)
    exact vUnit0 hd hT 2 h hc (by have := r.1 hc; omega) _ _
  rw [if_neg c1]
  by_cases c2 : (σ.1 P 3).toInt < 13
  · rw [if_pos c2, if_neg (by omega), if_neg (by omega)]
    exact vUnitF hd 2 h 1 (by decide) (fun z => by have := r.1 z; rw [if_neg (by omega)]; exact ⟨by omega, by omega, by decide⟩)
  rw [if_neg c2]
  by_cases c3 : (σ.1 P 3).toInt < 22
  · rw [if_pos c3]
    have hc : s.1 = 0 := Classical.byContradiction (fun z => by have := r.2 z; omega)
    exact vUnit0 hd hT 2 h hc (by have := r.1 hc; omega) _ _
  rw [if_neg c3]
  by_cases c4 : (σ.1 P 3).toInt = 31
  · have hc : s.1 = 0 := Classical.byContradiction (fun z => by have := r.2 z; omega)
    have rr := r.1 hc
    rw [if_pos c4, if_pos (by omega)]
    have e1 : (1 : Int32).toInt = 1 := by decide
    exact vUnitB hd hT 2 (by decide) (hS (p + 1) (by rw [zb_add (by rw [hp, e1]; decide) (by rw [hp, e1]; decide), hp, e1]; rfl)) h hc (by omega)
  · rw [if_neg c4, if_neg c4]
    exact vUnitF hd 2 h 1 (by decide) (fun z => by have := r.1 z; rw [if_neg (by omega)]; exact ⟨by omega, by omega, by decide⟩)
theorem vUnit_1 (hd : zVd P tk kA vA qA N) (hT : zTK T m) (p : Int32) (hp : p.toInt = 1) (hS : ∀ p : Int32, p.toInt = 2 → zSc P tk kA vA qA tt N m T (F_X3_sum_o2 P p) 2) : zUc P tk kA vA qA tt N m T (F_X3_unit_o1 P p) 1 := by
  intro σ s h
  have e23 : (23 : Int32).toInt = 23 := by decide
  have e13 : (13 : Int32).toInt = 13 := by decide
  have e31 : (31 : Int32).toInt = 31 := by decide
  have e22 : (22 : Int32).toInt = 22 := by decide
  have e6 : (6 : Int32).toInt = 6 := by decide
  have r : (s.1 = 0 → (σ.1 P 3).toInt = T.1 s.2.2.1) ∧ (s.1 ≠ 0 → (σ.1 P 3).toInt = 34) := ⟨fun z => (h.2.2.2 z).2.2.1, fun z => (h.2.2.1 z).2⟩
  unfold F_X3_unit_o1
  simp only [zlt, e23, e13, e31, e22, e6]
  by_cases c1 : (σ.1 P 3).toInt = 23
  · rw [if_pos c1]
    have hc : s.1 = 0 := Classical.byContradiction (fun z => by have := r.2 z; omega)
    exact vUnit0 hd hT 1 h hc (by have := r.1 hc; omega) _ _
  rw [if_neg c1]
  by_cases c2 : (σ.1 P 3).toInt < 13
  · rw [if_pos c2, if_neg (by omega), if_neg (by omega)]
    exact vUnitF hd 1 h 1 (by decide) (fun z => by have := r.1 z; rw [if_neg (by omega)]; exact ⟨by omega, by omega, by decide⟩)
  rw [if_neg c2]
  by_cases c3 : (σ.1 P 3).toInt < 22
  · rw [if_pos c3]
    have hc : s.1 = 0 := Classical.byContradiction (fun z => by have := r.2 z; omega)
    exact vUnit0 hd hT 1 h hc (by have := r.1 hc; omega) _ _
  rw [if_neg c3]
  by_cases c4 : (σ.1 P 3).toInt = 31
  · have hc : s.1 = 0 := Classical.byContradiction (fun z => by have := r.2 z; omega)
    have rr := r.1 hc
    rw [if_pos c4, if_pos (by omega)]
    have e1 : (1 : Int32).toInt = 1 := by decide
    exact vUnitB hd hT 1 (by decide) (hS (p + 1) (by rw [zb_add (by rw [hp, e1]; decide) (by rw [hp, e1]; decide), hp, e1]; rfl)) h hc (by omega)
  · rw [if_neg c4, if_neg c4]
    exact vUnitF hd 1 h 1 (by decide) (fun z => by have := r.1 z; rw [if_neg (by omega)]; exact ⟨by omega, by omega, by decide⟩)
theorem vUnit_0 (hd : zVd P tk kA vA qA N) (hT : zTK T m) (p : Int32) (hp : p.toInt = 0) (hS : ∀ p : Int32, p.toInt = 1 → zSc P tk kA vA qA tt N m T (F_X3_sum_o1 P p) 1) : zUc P tk kA vA qA tt N m T (F_X3_unit_o0 P p) 0 := by
  intro σ s h
  have e23 : (23 : Int32).toInt = 23 := by decide
  have e13 : (13 : Int32).toInt = 13 := by decide
  have e31 : (31 : Int32).toInt = 31 := by decide
  have e22 : (22 : Int32).toInt = 22 := by decide
  have e6 : (6 : Int32).toInt = 6 := by decide
  have r : (s.1 = 0 → (σ.1 P 3).toInt = T.1 s.2.2.1) ∧ (s.1 ≠ 0 → (σ.1 P 3).toInt = 34) := ⟨fun z => (h.2.2.2 z).2.2.1, fun z => (h.2.2.1 z).2⟩
  unfold F_X3_unit_o0
  simp only [zlt, e23, e13, e31, e22, e6]
  by_cases c1 : (σ.1 P 3).toInt = 23
  · rw [if_pos c1]
    have hc : s.1 = 0 := Classical.byContradiction (fun z => by have := r.2 z; omega)
    exact vUnit0 hd hT 0 h hc (by have := r.1 hc; omega) _ _
  rw [if_neg c1]
  by_cases c2 : (σ.1 P 3).toInt < 13
  · rw [if_pos c2, if_neg (by omega), if_neg (by omega)]
    exact vUnitF hd 0 h 1 (by decide) (fun z => by have := r.1 z; rw [if_neg (by omega)]; exact ⟨by omega, by omega, by decide⟩)
  rw [if_neg c2]
  by_cases c3 : (σ.1 P 3).toInt < 22
  · rw [if_pos c3]
    have hc : s.1 = 0 := Classical.byContradiction (fun z => by have := r.2 z; omega)
    exact vUnit0 hd hT 0 h hc (by have := r.1 hc; omega) _ _
  rw [if_neg c3]
  by_cases c4 : (σ.1 P 3).toInt = 31
  · have hc : s.1 = 0 := Classical.byContradiction (fun z => by have := r.2 z; omega)
    have rr := r.1 hc
    rw [if_pos c4, if_pos (by omega)]
    have e1 : (1 : Int32).toInt = 1 := by decide
    exact vUnitB hd hT 0 (by decide) (hS (p + 1) (by rw [zb_add (by rw [hp, e1]; decide) (by rw [hp, e1]; decide), hp, e1]; rfl)) h hc (by omega)
  · rw [if_neg c4, if_neg c4]
    exact vUnitF hd 0 h 1 (by decide) (fun z => by have := r.1 z; rw [if_neg (by omega)]; exact ⟨by omega, by omega, by decide⟩)
theorem vProd_6 (hd : zVd P tk kA vA qA N) (hT : zTK T m) (p : Int32) (hp : p.toInt = 6) : zPd P tk kA vA qA tt N m T (F_X3_product_o6 P p) 6 := by
  intro σ s h
  obtain ⟨n, hn, e⟩ : ∃ n : Nat, n = 10000 ∧ F_X3_product_o6 P p σ = F_X3_product_o6_7 P p n 0 (F_X3_unit_o6 P p σ) := by
    unfold F_X3_product_o6
    simp only [zlt]
    exact ⟨10000, rfl, rfl⟩
  rw [e]
  exact vProd hd hT (vUnit_6 hd hT p hp) (F_X3_product_o6_7 P p) (fun n x τ => by rw [F_X3_product_o6_7]; simp only [zlt]) n (by omega) σ s h
theorem vSum_6 (hd : zVd P tk kA vA qA N) (hT : zTK T m) (p : Int32) (hp : p.toInt = 6) : zSc P tk kA vA qA tt N m T (F_X3_sum_o6 P p) 6 := by
  intro σ s h
  obtain ⟨n, hn, e⟩ : ∃ n : Nat, n = 10000 ∧ F_X3_sum_o6 P p σ = F_X3_sum_o6_7 P p n 0 (F_X3_product_o6 P p σ) := by
    unfold F_X3_sum_o6
    simp only [zlt]
    exact ⟨10000, rfl, rfl⟩
  rw [e]
  exact vSum hd hT (vProd_6 hd hT p hp) (F_X3_sum_o6_7 P p) (fun n x τ => by rw [F_X3_sum_o6_7]; simp only [zlt]) n (by omega) σ s h
theorem vProd_5 (hd : zVd P tk kA vA qA N) (hT : zTK T m) (p : Int32) (hp : p.toInt = 5) : zPd P tk kA vA qA tt N m T (F_X3_product_o5 P p) 5 := by
  intro σ s h
  obtain ⟨n, hn, e⟩ : ∃ n : Nat, n = 10000 ∧ F_X3_product_o5 P p σ = F_X3_product_o5_7 P p n 0 (F_X3_unit_o5 P p σ) := by
    unfold F_X3_product_o5
    simp only [zlt]
    exact ⟨10000, rfl, rfl⟩
  rw [e]
  exact vProd hd hT (vUnit_5 hd hT p hp (fun p hp => vSum_6 hd hT p hp)) (F_X3_product_o5_7 P p) (fun n x τ => by rw [F_X3_product_o5_7]; simp only [zlt]) n (by omega) σ s h
theorem vSum_5 (hd : zVd P tk kA vA qA N) (hT : zTK T m) (p : Int32) (hp : p.toInt = 5) : zSc P tk kA vA qA tt N m T (F_X3_sum_o5 P p) 5 := by
  intro σ s h
  obtain ⟨n, hn, e⟩ : ∃ n : Nat, n = 10000 ∧ F_X3_sum_o5 P p σ = F_X3_sum_o5_7 P p n 0 (F_X3_product_o5 P p σ) := by
    unfold F_X3_sum_o5
    simp only [zlt]
    exact ⟨10000, rfl, rfl⟩
  rw [e]
  exact vSum hd hT (vProd_5 hd hT p hp) (F_X3_sum_o5_7 P p) (fun n x τ => by rw [F_X3_sum_o5_7]; simp only [zlt]) n (by omega) σ s h
theorem vProd_4 (hd : zVd P tk kA vA qA N) (hT : zTK T m) (p : Int32) (hp : p.toInt = 4) : zPd P tk kA vA qA tt N m T (F_X3_product_o4 P p) 4 := by
  intro σ s h
  obtain ⟨n, hn, e⟩ : ∃ n : Nat, n = 10000 ∧ F_X3_product_o4 P p σ = F_X3_product_o4_7 P p n 0 (F_X3_unit_o4 P p σ) := by
    unfold F_X3_product_o4
    simp only [zlt]
    exact ⟨10000, rfl, rfl⟩
  rw [e]
  exact vProd hd hT (vUnit_4 hd hT p hp (fun p hp => vSum_5 hd hT p hp)) (F_X3_product_o4_7 P p) (fun n x τ => by rw [F_X3_product_o4_7]; simp only [zlt]) n (by omega) σ s h
theorem vSum_4 (hd : zVd P tk kA vA qA N) (hT : zTK T m) (p : Int32) (hp : p.toInt = 4) : zSc P tk kA vA qA tt N m T (F_X3_sum_o4 P p) 4 := by
  intro σ s h
  obtain ⟨n, hn, e⟩ : ∃ n : Nat, n = 10000 ∧ F_X3_sum_o4 P p σ = F_X3_sum_o4_7 P p n 0 (F_X3_product_o4 P p σ) := by
    unfold F_X3_sum_o4
    simp only [zlt]
    exact ⟨10000, rfl, rfl⟩
  rw [e]
  exact vSum hd hT (vProd_4 hd hT p hp) (F_X3_sum_o4_7 P p) (fun n x τ => by rw [F_X3_sum_o4_7]; simp only [zlt]) n (by omega) σ s h
theorem vProd_3 (hd : zVd P tk kA vA qA N) (hT : zTK T m) (p : Int32) (hp : p.toInt = 3) : zPd P tk kA vA qA tt N m T (F_X3_product_o3 P p) 3 := by
  intro σ s h
  obtain ⟨n, hn, e⟩ : ∃ n : Nat, n = 10000 ∧ F_X3_product_o3 P p σ = F_X3_product_o3_7 P p n 0 (F_X3_unit_o3 P p σ) := by
    unfold F_X3_product_o3
    simp only [zlt]
    exact ⟨10000, rfl, rfl⟩
  rw [e]
  exact vProd hd hT (vUnit_3 hd hT p hp (fun p hp => vSum_4 hd hT p hp)) (F_X3_product_o3_7 P p) (fun n x τ => by rw [F_X3_product_o3_7]; simp only [zlt]) n (by omega) σ s h
theorem vSum_3 (hd : zVd P tk kA vA qA N) (hT : zTK T m) (p : Int32) (hp : p.toInt = 3) : zSc P tk kA vA qA tt N m T (F_X3_sum_o3 P p) 3 := by
  intro σ s h
  obtain ⟨n, hn, e⟩ : ∃ n : Nat, n = 10000 ∧ F_X3_sum_o3 P p σ = F_X3_sum_o3_7 P p n 0 (F_X3_product_o3 P p σ) := by
    unfold F_X3_sum_o3
    simp only [zlt]
    exact ⟨10000, rfl, rfl⟩
  rw [e]
  exact vSum hd hT (vProd_3 hd hT p hp) (F_X3_sum_o3_7 P p) (fun n x τ => by rw [F_X3_sum_o3_7]; simp only [zlt]) n (by omega) σ s h
theorem vProd_2 (hd : zVd P tk kA vA qA N) (hT : zTK T m) (p : Int32) (hp : p.toInt = 2) : zPd P tk kA vA qA tt N m T (F_X3_product_o2 P p) 2 := by
  intro σ s h
  obtain ⟨n, hn, e⟩ : ∃ n : Nat, n = 10000 ∧ F_X3_product_o2 P p σ = F_X3_product_o2_7 P p n 0 (F_X3_unit_o2 P p σ) := by
    unfold F_X3_product_o2
    simp only [zlt]
    exact ⟨10000, rfl, rfl⟩
  rw [e]
  exact vProd hd hT (vUnit_2 hd hT p hp (fun p hp => vSum_3 hd hT p hp)) (F_X3_product_o2_7 P p) (fun n x τ => by rw [F_X3_product_o2_7]; simp only [zlt]) n (by omega) σ s h
theorem vSum_2 (hd : zVd P tk kA vA qA N) (hT : zTK T m) (p : Int32) (hp : p.toInt = 2) : zSc P tk kA vA qA tt N m T (F_X3_sum_o2 P p) 2 := by
  intro σ s h
  obtain ⟨n, hn, e⟩ : ∃ n : Nat, n = 10000 ∧ F_X3_sum_o2 P p σ = F_X3_sum_o2_7 P p n 0 (F_X3_product_o2 P p σ) := by
    unfold F_X3_sum_o2
    simp only [zlt]
    exact ⟨10000, rfl, rfl⟩
  rw [e]
  exact vSum hd hT (vProd_2 hd hT p hp) (F_X3_sum_o2_7 P p) (fun n x τ => by rw [F_X3_sum_o2_7]; simp only [zlt]) n (by omega) σ s h
theorem vProd_1 (hd : zVd P tk kA vA qA N) (hT : zTK T m) (p : Int32) (hp : p.toInt = 1) : zPd P tk kA vA qA tt N m T (F_X3_product_o1 P p) 1 := by
  intro σ s h
  obtain ⟨n, hn, e⟩ : ∃ n : Nat, n = 10000 ∧ F_X3_product_o1 P p σ = F_X3_product_o1_7 P p n 0 (F_X3_unit_o1 P p σ) := by
    unfold F_X3_product_o1
    simp only [zlt]
    exact ⟨10000, rfl, rfl⟩
  rw [e]
  exact vProd hd hT (vUnit_1 hd hT p hp (fun p hp => vSum_2 hd hT p hp)) (F_X3_product_o1_7 P p) (fun n x τ => by rw [F_X3_product_o1_7]; simp only [zlt]) n (by omega) σ s h
theorem vSum_1 (hd : zVd P tk kA vA qA N) (hT : zTK T m) (p : Int32) (hp : p.toInt = 1) : zSc P tk kA vA qA tt N m T (F_X3_sum_o1 P p) 1 := by
  intro σ s h
  obtain ⟨n, hn, e⟩ : ∃ n : Nat, n = 10000 ∧ F_X3_sum_o1 P p σ = F_X3_sum_o1_7 P p n 0 (F_X3_product_o1 P p σ) := by
    unfold F_X3_sum_o1
    simp only [zlt]
    exact ⟨10000, rfl, rfl⟩
  rw [e]
  exact vSum hd hT (vProd_1 hd hT p hp) (F_X3_sum_o1_7 P p) (fun n x τ => by rw [F_X3_sum_o1_7]; simp only [zlt]) n (by omega) σ s h
theorem vProd_0 (hd : zVd P tk kA vA qA N) (hT : zTK T m) (p : Int32) (hp : p.toInt = 0) : zPd P tk kA vA qA tt N m T (F_X3_product_o0 P p) 0 := by
  intro σ s h
  obtain ⟨n, hn, e⟩ : ∃ n : Nat, n = 10000 ∧ F_X3_product_o0 P p σ = F_X3_product_o0_7 P p n 0 (F_X3_unit_o0 P p σ) := by
    unfold F_X3_product_o0
    simp only [zlt]
    exact ⟨10000, rfl, rfl⟩
  rw [e]
  exact vProd hd hT (vUnit_0 hd hT p hp (fun p hp => vSum_1 hd hT p hp)) (F_X3_product_o0_7 P p) (fun n x τ => by rw [F_X3_product_o0_7]; simp only [zlt]) n (by omega) σ s h
theorem vSum_0 (hd : zVd P tk kA vA qA N) (hT : zTK T m) (p : Int32) (hp : p.toInt = 0) : zSc P tk kA vA qA tt N m T (F_X3_sum_o0 P p) 0 := by
  intro σ s h
  obtain ⟨n, hn, e⟩ : ∃ n : Nat, n = 10000 ∧ F_X3_sum_o0 P p σ = F_X3_sum_o0_7 P p n 0 (F_X3_product_o0 P p σ) := by
    unfold F_X3_sum_o0
    simp only [zlt]
    exact ⟨10000, rfl, rfl⟩
  rw [e]
  exact vSum hd hT (vProd_0 hd hT p hp) (F_X3_sum_o0_7 P p) (fun n x τ => by rw [F_X3_sum_o0_7]; simp only [zlt]) n (by omega) σ s h
end ZV3
end
-- 35j.pure10
section
theorem aE_st {T : zTn} : ∀ (N N' : Nat) (b : Bool) (o : Int) (s : zA), (s.1 = 0 → s.2.2.1 ≤ 400 ∧ 401 < N + s.2.2.1 ∧ 401 < N' + s.2.2.1) → aE T N b o s = aE T N' b o s := by
  intro N
  induction N with
  | zero =>
    intro N' b o s h
    by_cases c : s.1 = 0
    · have := h c; omega
    · rw [aE_f c, aE_f c]
  | succ n ih =>
    intro N' b o s h
    by_cases c : s.1 = 0
    · obtain ⟨h1, h2, h3⟩ := h c
      obtain ⟨n', rfl⟩ : ∃ q, N' = q + 1 := ⟨N' - 1, by omega⟩
      have tk : ∀ (w : Int) (b : Bool) (o : Int), aE T n b o (aTake T w s) = aE T n' b o (aTake T w s) := fun w b o => ih n' b o _ (fun z => by
        have q := aTake_i z
        have q2 : s.2.2.1 < 400 := by
          unfold aTake at z
          rw [if_neg (zne c), if_neg (zne q.2.1)] at z
          by_cases c2 : 400 ≤ s.2.2.1
          · rw [if_pos c2] at z; exact absurd z (aFail_1 (by decide))
          · omega
        omega)
      cases b with
      | true =>
        rw [aE, aE, tk, tk]
      | false =>
        rw [aE, aE, tk, tk]
    · rw [aE_f c, aE_f c]
def aSum (T : zTn) (s : zA) : zA := aE T 500 true 0 s
theorem aSum_f {T : zTn} {s : zA} (c : s.1 ≠ 0) : aSum T s = s := aE_f c _ _ _
section ZV4
variable {P tk kA vA qA tt N m : Nat} {T : zTn} {σ σ' : zS} {s : zA}
theorem vSumF (hd : zVd P tk kA vA qA N) (hT : zTK T m) (p : Int32) (hp : p.toInt = 0) (h : zV P tk kA vA qA tt N m T σ s) : zV P tk kA vA qA tt N m T (F_X3_sum_o0 P p σ) (aSum T s) ∧ ((aSum T s).1 = 0 → s.1 = 0 ∧ s.2.2.1 < (aSum T s).2.2.1 ∧ (aSum T s).2.2.2 = s.2.2.2) := by
  obtain ⟨s', u1, u2, k, u3⟩ := vSum_0 hd hT p hp σ s h
  have e : aSum T s = s' := by
    have t : ∀ n, aE T n false 0 s' = s' := fun n => by
      by_cases c : s'.1 = 0
      · cases n with
        | zero => rfl
        | succ n => rw [aE, if_neg (zne c), if_neg (u2 c).2.2.2, if_neg (by decide)]
      · exact aE_f c _ _ _
    have q := u3 500
    rw [t] at q
    rw [← q]
    exact aE_st 500 (500 + k) true 0 s (fun z => by
      have := (h.2.2.2 z).1
      have := hT.2.1
      omega)
  rw [e]
  exact ⟨u1, fun z => ⟨(u2 z).1, (u2 z).2.1, (u2 z).2.2.1⟩⟩
theorem vSumZ (hd : zVd P tk kA vA qA N) (hT : zTK T m) (h : zV P tk kA vA qA tt N m T σ s) : zV P tk kA vA qA tt N m T (F_X3_sum_o0 P 0 σ) (aSum T s) := (vSumF hd hT 0 (by decide) h).1
def aIf (T : zTn) (n : Int) (s : zA) : zA := aTake T 12 (aSum T (aTake T 11 (aSum T (aTake T 30 (aSum T (aTake T 10 (if n = 4 then aFail T 2 s else s)))))))
def aLw (T : zTn) : Nat → Int → zA → zA
  | 0, _, s => s
  | k + 1, n, s => if n ≤ 4 ∧ s.1 = 0 ∧ T.1 s.2.2.1 = 10 then aLw T k (n + 1) (aIf T n s) else aSum T s
def aLaw (T : zTn) (w : Int) (s : zA) : zA := aLw T 10 0 (aTake T 25 (aTake T (2 + w) s))
theorem vTake' (hd : zVd P tk kA vA qA N) (hT : zTK T m) (h : zV P tk kA vA qA tt N m T σ s) (w : Int32) (i : Int) (e : w.toInt = i) (hw : i < 33) : zV P tk kA vA qA tt N m T (F_X3_take P w σ) (aTake T i s) := by
  subst e
  exact vTake hd hT h w hw
theorem vFail' (hd : zVd P tk kA vA qA N) (h : zV P tk kA vA qA tt N m T σ s) (n : Int32) (i : Int) (e : n.toInt = i) (hn : i ≠ 0) : zV P tk kA vA qA tt N m T (F_X3_fail P n σ) (aFail T i s) := by
  subst e
  exact vFail hd h n hn
theorem vLaw_loop (hd : zVd P tk kA vA qA N) (hT : zTK T m) {v7 p1 : Int32} : ∀ (n : Nat) (x : Int32) (j : Nat) (τ : zS) (s : zA), x.toInt = j → j ≤ 5 → 5 - j < n → zV P tk kA vA qA tt N m T τ s → ∀ k, 5 - j < k → zV P tk kA vA qA tt N m T (F_X3_law_23 v7 P p1 n x τ) (aLw T k j s) := by
  intro n
  induction n with
  | zero => intro x j τ s _ _ h; exact absurd h (by omega)
  | succ n ih =>
    intro x j τ s hx hj hm h k hk
    obtain ⟨k, rfl⟩ : ∃ q, k = q + 1 := ⟨k - 1, by omega⟩
    have e4 : (4 : Int32).toInt = 4 := by decide
    have e10 : (10 : Int32).toInt = 10 := by decide
    have fin : zV P tk kA vA qA tt N m T (zu (F_X9_addStep (((F_X3_sum_o0 P 0 τ).2.2 P 1).getD 0) 7 0 (F_X3_sum_o0 P 0 τ)).1 (((F_X9_addStep (((F_X3_sum_o0 P 0 τ).2.2 P 1).getD 0) 7 0 (F_X3_sum_o0 P 0 τ)).2.2 (((F_X9_addStep (((F_X3_sum_o0 P 0 τ).2.2 P 1).getD 0) 7 0 (F_X3_sum_o0 P 0 τ)).2.2 P 1).getD 0) 9).getD 0) p1.toNatClampNeg v7, (F_X9_addStep (((F_X3_sum_o0 P 0 τ).2.2 P 1).getD 0) 7 0 (F_X3_sum_o0 P 0 τ)).2.1, (F_X9_addStep (((F_X3_sum_o0 P 0 τ).2.2 P 1).getD 0) 7 0 (F_X3_sum_o0 P 0 τ)).2.2) (aSum T s) := by
      have q := vSumZ hd hT h
      rw [vtt q]
      have q2 := vStep q 7 0
      rw [vtt q2]
      exact vPutS q2 _ _
    rw [F_X3_law_23]
    simp only [zlt, e4, e10]
    rw [aLw]
    by_cases c0 : 4 < x.toInt
    · rw [if_pos c0, if_neg (by omega)]
      exact fin
    rw [if_neg c0]
    have rest : ∀ (τ1 : zS) (s1 : zA), zV P tk kA vA qA tt N m T τ1 s1 → zV P tk kA vA qA tt N m T (F_X3_law_23 v7 P p1 n (x + (1 : Int32)) (F_X9_setValue (((F_X9_addStep (((F_X3_take P 12 (F_X3_sum_o0 P 0 (F_X9_addStep (((F_X3_take P 11 (F_X3_sum_o0 P 0 (F_X3_take P 30 (F_X3_sum_o0 P 0 (F_X3_take P 10 τ1))))).2.2 P 1).getD 0) 6 0 (F_X3_take P 11 (F_X3_sum_o0 P 0 (F_X3_take P 30 (F_X3_sum_o0 P 0 (F_X3_take P 10 τ1)))))))).2.2 P 1).getD 0) 7 0 (F_X3_take P 12 (F_X3_sum_o0 P 0 (F_X9_addStep (((F_X3_take P 11 (F_X3_sum_o0 P 0 (F_X3_take P 30 (F_X3_sum_o0 P 0 (F_X3_take P 10 τ1))))).2.2 P 1).getD 0) 6 0 (F_X3_take P 11 (F_X3_sum_o0 P 0 (F_X3_take P 30 (F_X3_sum_o0 P 0 (F_X3_take P 10 τ1))))))))).2.2 P 1).getD 0) ((F_X3_take P 11 (F_X3_sum_o0 P 0 (F_X3_take P 30 (F_X3_sum_o0 P 0 (F_X3_take P 10 τ1))))).1 (((F_X3_take P 11 (F_X3_sum_o0 P 0 (F_X3_take P 30 (F_X3_sum_o0 P 0 (F_X3_take P 10 τ1))))).2.2 P 1).getD 0) 8) ((F_X9_addStep (((F_X3_take P 12 (F_X3_sum_o0 P 0 (F_X9_addStep (((F_X3_take P 11 (F_X3_sum_o0 P 0 (F_X3_take P 30 (F_X3_sum_o0 P 0 (F_X3_take P 10 τ1))))).2.2 P 1).getD 0) 6 0 (F_X3_take P 11 (F_X3_sum_o0 P 0 (F_X3_take P 30 (F_X3_sum_o0 P 0 (F_X3_take P 10 τ1)))))))).2.2 P 1).getD 0) 7 0 (F_X3_take P 12 (F_X3_sum_o0 P 0 (F_X9_addStep (((F_X3_take P 11 (F_X3_sum_o0 P 0 (F_X3_take P 30 (F_X3_sum_o0 P 0 (F_X3_take P 10 τ1))))).2.2 P 1).getD 0) 6 0 (F_X3_take P 11 (F_X3_sum_o0 P 0 (F_X3_take P 30 (F_X3_sum_o0 P 0 (F_X3_take P 10 τ1))))))))).1 (((F_X9_addStep (((F_X3_take P 12 (F_X3_sum_o0 P 0 (F_X9_addStep (((F_X3_take P 11 (F_X3_sum_o0 P 0 (F_X3_take P 30 (F_X3_sum_o0 P 0 (F_X3_take P 10 τ1))))).2.2 P 1).getD 0) 6 0 (F_X3_take P 11 (F_X3_sum_o0 P 0 (F_X3_take P 30 (F_X3_sum_o0 P 0 (F_X3_take P 10 τ1)))))))).2.2 P 1).getD 0) 7 0 (F_X3_take P 12 (F_X3_sum_o0 P 0 (F_X9_addStep (((F_X3_take P 11 (F_X3_sum_o0 P 0 (F_X3_take P 30 (F_X3_sum_o0 P 0 (F_X3_take P 10 τ1))))).2.2 P 1).getD 0) 6 0 (F_X3_take P 11 (F_X3_sum_o0 P 0 (F_X3_take P 30 (F_X3_sum_o0 P 0 (F_X3_take P 10 τ1))))))))).2.2 P 1).getD 0) 8) (F_X9_addStep (((F_X3_take P 12 (F_X3_sum_o0 P 0 (F_X9_addStep (((F_X3_take P 11 (F_X3_sum_o0 P 0 (F_X3_take P 30 (F_X3_sum_o0 P 0 (F_X3_take P 10 τ1))))).2.2 P 1).getD 0) 6 0 (F_X3_take P 11 (F_X3_sum_o0 P 0 (F_X3_take P 30 (F_X3_sum_o0 P 0 (F_X3_take P 10 τ1)))))))).2.2 P 1).getD 0) 7 0 (F_X3_take P 12 (F_X3_sum_o0 P 0 (F_X9_addStep (((F_X3_take P 11 (F_X3_sum_o0 P 0 (F_X3_take P 30 (F_X3_sum_o0 P 0 (F_X3_take P 10 τ1))))).2.2 P 1).getD 0) 6 0 (F_X3_take P 11 (F_X3_sum_o0 P 0 (F_X3_take P 30 (F_X3_sum_o0 P 0 (F_X3_take P 10 τ1)))))))))))  (aLw T k ((j + 1 : Nat) : Int) (aTake T 12 (aSum T (aTake T 11 (aSum T (aTake T 30 (aSum T (aTake T 10 s1)))))))) := fun τ1 s1 h1 => by
      have a1 := vTake' hd hT h1 10 10 (by decide) (by decide)
      have a2 := vSumZ hd hT a1
      have a3 := vTake' hd hT a2 30 30 (by decide) (by decide)
      have a4 := vSumZ hd hT a3
      have a5 := vTake' hd hT a4 11 11 (by decide) (by decide)
      rw [vtt a5]
      have a6 := vStep a5 6 0
      have a7 := vSumZ hd hT a6
      have a8 := vTake' hd hT a7 12 12 (by decide) (by decide)
      rw [vtt a8]
      have a9 := vStep a8 7 0
      rw [vtt a9]
      exact ih _ (j + 1) _ _ (zp1 hx (by omega)) (by omega) (by omega) (vSetV a9 _ _) k (by omega)
    by_cases c1 : (τ.1 P 3).toInt = 10
    · rw [if_pos c1]
      have hc : s.1 = 0 := Classical.byContradiction (fun z => by have := (h.2.2.1 z).2; omega)
      have r3 := (h.2.2.2 hc).2.2.1
      rw [if_pos (by omega : (j : Int) ≤ 4 ∧ s.1 = 0 ∧ T.1 s.2.2.1 = 10)]
      by_cases c2 : x.toInt = 4
      · rw [if_pos c2]
        unfold aIf
        rw [if_pos (by omega)]
        exact rest _ _ (vFail' hd h 2 2 (by decide) (by decide))
      · rw [if_neg c2]
        unfold aIf
        rw [if_neg (by omega)]
        exact rest _ _ h
    · rw [if_neg c1, if_neg (fun z => c1 (by rw [(h.2.2.2 z.2.1).2.2.1]; exact z.2.2))]
      exact fin
theorem vLaw (hd : zVd P tk kA vA qA N) (hT : zTK T m) (h : zV P tk kA vA qA tt N m T σ s) (p : Int32) (hp : 0 ≤ p.toInt ∧ p.toInt ≤ 4) : zV P tk kA vA qA tt N m T (F_X3_law P p σ) (aLaw T p.toInt s) := by
  have e2 : (2 : Int32).toInt = 2 := by decide
  unfold F_X3_law aLaw
  simp only [zlt]
  have a1 := vTake' hd hT h (2 + p) (2 + p.toInt) (by rw [zb_add (by rw [e2]; omega) (by rw [e2]; omega), e2]) (by omega)
  have a2 := vTake' hd hT a1 25 25 (by decide) (by decide)
  exact vLaw_loop hd hT 10000 0 0 _ _ (by decide) (by omega) (by omega) a2 10 (by omega)
theorem aNumb_i {lo hi : Int} (h : (aNumb T lo hi s).1 = 0) : s.1 = 0 ∧ (aNumb T lo hi s).2.2.1 = s.2.2.1 + 1 ∧ (aNumb T lo hi s).2.2.2.2.2 = s.2.2.2.2.2 := by
  have h0 : s.1 = 0 := Classical.byContradiction (fun c => by rw [aNumb_f c] at h; exact c h)
  unfold aNumb at h ⊢
  by_cases c : s.1 = 0 ∧ T.1 s.2.2.1 = 23 ∧ ¬ (lo ≤ T.2.2.1 s.2.2.1 ∧ T.2.2.1 s.2.2.1 ≤ hi)
  · rw [if_pos c] at h ⊢
    have q := aTake_i h
    have e : (aLate T 5 s).2.2.1 = s.2.2.1 ∧ (aLate T 5 s).2.2.2.2.2 = s.2.2.2.2.2 := by
      unfold aLate
      split
      · exact ⟨rfl, rfl⟩
      · split <;> exact ⟨rfl, rfl⟩
    exact ⟨h0, by rw [q.2.2.1, e.1], by rw [q.2.2.2, e.2]⟩
  · rw [if_neg c] at h ⊢
    have q := aTake_i h
    exact ⟨h0, q.2.2.1, by rw [q.2.2.2]⟩
theorem aKnown_i (h : (aKnown T s).1 = 0) : s.1 = 0 ∧ T.1 s.2.2.1 = 22 ∧ (aKnown T s).2.2.1 = s.2.2.1 + 1 ∧ (aKnown T s).2.2.2.2.2 = s.2.2.2.2.2 := by
  have h0 : s.1 = 0 := Classical.byContradiction (fun c => by rw [aKnown_f c] at h; exact c h)
  unfold aKnown at h ⊢
  by_cases c : s.1 = 0 ∧ T.1 s.2.2.1 = 22 ∧ aNum s (T.2.1 s.2.2.1).1 = -1
  · rw [if_pos c] at h ⊢
    have q := aTake_i h
    have e : (aLate T 4 s).2.2.1 = s.2.2.1 ∧ (aLate T 4 s).2.2.2.2.2 = s.2.2.2.2.2 := by
      unfold aLate
      split
      · exact ⟨rfl, rfl⟩
      · split <;> exact ⟨rfl, rfl⟩
    exact ⟨h0, c.2.1, by rw [q.2.2.1, e.1], by rw [q.2.2.2, e.2]⟩
  · rw [if_neg c] at h ⊢
    have q := aTake_i h
    exact ⟨h0, q.2.1, q.2.2.1, by rw [q.2.2.2]⟩
theorem aPlace2_i (h : (aPlace2 T s).1 = 0) : s.1 = 0 ∧ s.2.2.1 < (aPlace2 T s).2.2.1 ∧ (aPlace2 T s).2.2.2.2.2 = s.2.2.2.2.2 := by
  unfold aPlace2 at h ⊢
  have q1 := aNumb_i h
  have q2 := aNumb_i q1.1
  have q3 := aNumb_i q2.1
  have q4 := aKnown_i q3.1
  have q5 := aNew_i q4.1
  exact ⟨q5.1, by omega, by rw [q1.2.2, q2.2.2, q3.2.2, q4.2.2.2, q5.2.2.2]⟩
theorem vPlace (hd : zVd P tk kA vA qA N) (hT : zTK T m) (h : zV P tk kA vA qA tt N m T σ s) (hs : s.1 = 0) : zV P tk kA vA qA tt N m T (F_X3_newPlace P σ) (aPlace T s) := by
  have r9 := (h.2.2.2 hs).2.2.2.2.2.2.2.2.1
  have e11 : (11 : Int32).toInt = 11 := by decide
  have e0 : (0 : Int32).toInt = 0 := by decide
  have e1 : (1 : Int32).toInt = 1 := by decide
  have e99 : (99 : Int32).toInt = 99 := by decide
  have fin : ∀ (τ : zS) (s1 : zA), zV P tk kA vA qA tt N m T τ s1 → ∃ (x : Int64) (s7 : zS) (v8 v12 v16 v20 : Int32) (s9 s13 s17 s21 : zS), F_X3_newName P τ = (x, s7) ∧ F_X3_knownName P s7 = (v8, s9) ∧ F_X3_number P 1 99 s9 = (v12, s13) ∧ F_X3_number P 0 99 s13 = (v16, s17) ∧ F_X3_number P 0 99 s17 = (v20, s21) ∧ zV P tk kA vA qA tt N m T s21 (aPlace2 T s1) ∧ (s1.1 = 0 → x = (T.2.1 s1.2.2.1).1) := fun τ s1 h1 => by
    obtain ⟨x, s7, a1, a2, a3⟩ := vNew hd hT h1
    obtain ⟨v8, s9, b1, b2⟩ := vKnown hd hT a2
    obtain ⟨v12, s13, c1, c2⟩ := vNumb hd hT b2 1 99
    obtain ⟨v16, s17, d1, d2⟩ := vNumb hd hT c2 0 99
    obtain ⟨v20, s21, f1, f2⟩ := vNumb hd hT d2 0 99
    rw [e1, e99, e0] at f2
    exact ⟨x, s7, v8, v12, v16, v20, s9, s13, s17, s21, a1, b1, c1, d1, f1, f2, a3⟩
  have last : ∀ (s21 : zS) (s1 : zA) (x : Int64) (v8 v12 v16 v20 : Int32), zV P tk kA vA qA tt N m T s21 (aPlace2 T s1) → (s1.1 = 0 → x = (T.2.1 s1.2.2.1).1) → zV P tk kA vA qA tt N m T (if (s21.1 P 8).toInt = 0 then (if (s21.1 P 7).toInt < 11 then F_X9_setPlace tt (s21.1 P 7 + (1 : Int32)) v8 v12 v16 v20 (zu s21.1 P 7 (s21.1 P 7 + (1 : Int32)), zu s21.2.1 N (s21.1 P 7 + (1 : Int32)).toNatClampNeg x, s21.2.2) else s21) else s21) (if (aPlace2 T s1).1 = 0 ∧ (aPlace2 T s1).2.2.2.2.2.2.1 < 11 then aSetP (aPlace2 T s1) (T.2.1 s1.2.2.1) else aPlace2 T s1) := fun s21 s1 x v8 v12 v16 v20 q2 hx0 => by
    rw [q2.2.1]
    by_cases c : (aPlace2 T s1).1 = 0
    · rw [if_pos c]
      have r := q2.2.2.2 c
      obtain ⟨r1, r2, r3, r4, r5, r6, r7, r8, r9, r10, r11⟩ := r
      rw [r9]
      by_cases c2 : (aPlace2 T s1).2.2.2.2.2.2.1 < 11
      · rw [if_pos c2, if_pos ⟨c, c2⟩]
        refine vSetP ?_ _ _ _ _ _
        obtain ⟨d1, d2, d3, d4, d5, d6⟩ := hd
        have hx := hx0 (aPlace2_i c).1
        have g : ∀ j, j ≠ 7 → zu s21.1 P 7 (s21.1 P 7 + (1 : Int32)) P j = s21.1 P j := fun j hj => zu_j _ _ _ _ _ (fun z => hj z.symm)
        have e7 : (s21.1 P 7 + (1 : Int32)).toInt = (aPlace2 T s1).2.2.2.2.2.2.1 + 1 := by rw [zb_add (by rw [r9, e1]; omega) (by rw [r9, e1]; omega), r9, e1]
        have e7n : (s21.1 P 7 + (1 : Int32)).toNatClampNeg = ((aPlace2 T s1).2.2.2.2.2.2.1 + 1).toNat := by rw [ztn, e7]
        refine ⟨q2.1.cg rfl (zu_n _ _ _ d1) (zu_n _ _ _ d2) (zu_n _ _ _ d3) (zu_n _ _ _ (fun z => d6 z.symm)), ?_, fun z => absurd c z, fun _ => ⟨r1, ?_, ?_, ?_, ?_, ?_, ?_, ?_, ?_, ?_, fun p z1 z2 => ?_⟩⟩
        · show (zu s21.1 P 7 _ P 8).toInt = _
          rw [g 8 (by decide)]; exact q2.2.1
        · show (zu s21.1 P 7 _ P 2).toInt = _
          rw [g 2 (by decide)]; exact r2
        · show (zu s21.1 P 7 _ P 3).toInt = _
          rw [g 3 (by decide)]; exact r3
        · show zu s21.2.1 N _ x P 4 = _
          rw [zu_n _ _ _ (fun z => d5 z.symm)]; exact r4
        · show (zu s21.1 P 7 _ P 5).toInt = _
          rw [g 5 (by decide)]; exact r5
        · show (zu s21.1 P 7 _ P 10).toInt = _
          rw [g 10 (by decide)]; exact r6
        · show (zu s21.1 P 7 _ P 11).toInt = _
          rw [g 11 (by decide)]; exact r7
        · show (zu s21.1 P 7 _ P 6).toInt = _
          rw [g 6 (by decide)]; exact r8
        · show (zu s21.1 P 7 _ P 7).toInt = _
          rw [zu_s]; exact e7
        · show 0 ≤ (aPlace2 T s1).2.2.2.2.2.2.1 + 1 ∧ (aPlace2 T s1).2.2.2.2.2.2.1 + 1 ≤ 11
          omega
        · have z1' : (p : Int) ≤ (aPlace2 T s1).2.2.2.2.2.2.1 + 1 := z1
          have z2' : p ≠ 0 ∨ (aPlace2 T s1).2.2.2.2.2.1 ≠ 0 := z2
          show zu s21.2.1 N _ x N p = (if (p : Int) = (aPlace2 T s1).2.2.2.2.2.2.1 + 1 then _ else _ : Int64 × Int64).1
          rw [zu_a, e7n]
          by_cases hp : (p : Int) = (aPlace2 T s1).2.2.2.2.2.2.1 + 1
          · rw [if_pos hp]
            exact (if_pos (show p = ((aPlace2 T s1).2.2.2.2.2.2.1 + 1).toNat by omega)).trans hx
          · rw [if_neg hp]
            exact (if_neg (show ¬ p = ((aPlace2 T s1).2.2.2.2.2.2.1 + 1).toNat by omega)).trans (r11 p (by omega) z2')
      · rw [if_neg c2, if_neg (fun z => c2 z.2)]
        exact q2
    · rw [if_neg c, if_neg (fun z => c z.1)]
      exact q2
  unfold F_X3_newPlace aPlace
  simp only [zlt, zlt2, e11]
  by_cases c : s.2.2.2.2.2.2.1 < 11
  · rw [if_pos (by omega)]
    have h1 : zV P tk kA vA qA tt N m T (F_X3_take P 1 σ) (aPlace1 T s) := by
      unfold aPlace1
      rw [if_neg (by omega)]
      exact vTake' hd hT h 1 1 (by decide) (by decide)
    obtain ⟨x, s7, v8, v12, v16, v20, s9, s13, s17, s21, a1, b1, c1, d1, f1, f2, hx⟩ := fin _ _ h1
    have q := last s21 _ x v8 v12 v16 v20 f2 hx
    have t0 := vtt f2
    have n0 := vnn f2
    simp only [a1, b1, c1, d1, f1, t0, n0, zu_s]
    exact q
  · rw [if_neg (by omega)]
    have h1 : zV P tk kA vA qA tt N m T (F_X3_take P 1 (F_X3_fail P 2 σ)) (aPlace1 T s) := by
      unfold aPlace1
      rw [if_pos (by omega)]
      exact vTake' hd hT (vFail' hd h 2 2 (by decide) (by decide)) 1 1 (by decide) (by decide)
    obtain ⟨x, s7, v8, v12, v16, v20, s9, s13, s17, s21, a1, b1, c1, d1, f1, f2, hx⟩ := fin _ _ h1
    have q := last s21 _ x v8 v12 v16 v20 f2 hx
    have t0 := vtt f2
    have n0 := vnn f2
    simp only [a1, b1, c1, d1, f1, t0, n0, zu_s]
    exact q
end ZV4
end
-- 35k.pure11
section
/-! THE REFERENCE'S CELLS while a text is read -/
def zLv (j : Nat) : Prop := j = 11 ∨ j = 13 ∨ j = 14 ∨ j = 15 ∨ j = 16 ∨ j = 41 ∨ j = 42
/-- slots whose arrays don't bear on what is read -/
def zQs (j : Nat) : Prop := j = 21 ∨ j = 22 ∨ j = 23 ∨ j = 24 ∨ j = 25 ∨ j = 26 ∨ j = 27 ∨ j = 28 ∨ j = 29 ∨ j = 30 ∨ j = 31 ∨ j = 33 ∨ j = 34 ∨ j = 35 ∨ j = 36 ∨ j = 37 ∨ j = 39 ∨ j = 40 ∨ j = 43 ∨ j = 48 ∨ j = 49 ∨ j = 67
def zWs (a k q v nm nO m : Nat) (T : zTn) (τ : zS) : Prop :=
  (τ.2.2 a 5 = some k ∧ τ.2.2 a 6 = some q ∧ τ.2.2 a 7 = some v ∧ τ.2.2 a 8 = some nm ∧ τ.2.2 a 20 = some nO) ∧ (∀ j, j < m → (τ.1 k j).toInt = zrho (T.1 j) ∧ (τ.1 q j).toInt = T.2.2.2 j ∧ (T.1 j = 23 → (τ.1 v j).toInt = T.2.2.1 j) ∧ τ.2.1 nm j = (T.2.1 j).2) ∧ ∀ j, zQs j → (τ.2.2 a j).getD 0 ≠ a ∧ (τ.2.2 a j).getD 0 ≠ k ∧ (τ.2.2 a j).getD 0 ≠ q ∧ (τ.2.2 a j).getD 0 ≠ v
def zWr (a nO m : Nat) (β : Int) (τ : zS) (s : zA) : Prop :=
  s.2.2.1 < m ∧ (τ.1 a 11).toInt = s.2.2.1 ∧ (τ.1 a 15).toInt = s.2.2.2.1 ∧ 0 ≤ s.2.2.2.1 ∧ (s.2.2.2.1 ≠ 0 → (τ.1 a 16).toInt = s.2.2.2.2.1 ∧ s.2.2.2.2.1 < β) ∧ (τ.1 a 41).toInt = s.2.2.2.2.2.1 ∧ (τ.1 a 42).toInt = s.2.2.2.2.2.2.1 ∧ (0 ≤ s.2.2.2.2.2.2.1 ∧ s.2.2.2.2.2.2.1 ≤ 11) ∧ ∀ p : Nat, (p : Int) ≤ s.2.2.2.2.2.2.1 → (p ≠ 0 ∨ s.2.2.2.2.2.1 ≠ 0) → τ.2.1 nO p = (s.2.2.2.2.2.2.2 p).2 ∧ zNR (s.2.2.2.2.2.2.2 p).1 (s.2.2.2.2.2.2.2 p).2
def zWg (a k q v nm nO m : Nat) (T : zTn) (β : Int) (τ : zS) (s : zA) : Prop :=
  zWs a k q v nm nO m T τ ∧ (τ.1 a 13).toInt = s.1 ∧ 0 ≤ s.1 ∧ (s.1 ≠ 0 → (τ.1 a 14).toInt = s.2.1) ∧ (s.1 = 0 → zWr a nO m β τ s)
abbrev zWo (a k q v nm nO m : Nat) (T : zTn) (τ : zS) (s : zA) : Prop := zWg a k q v nm nO m T (T.2.2.2 s.2.2.1) τ s
def zWd (a k q v nm nO : Nat) : Prop := k ≠ a ∧ q ≠ a ∧ v ≠ a ∧ nm ≠ nO
/-- the tokens themselves -/
def zTm (T : zTn) (m : Nat) : Prop := (∀ j, j + 1 < m → T.2.2.2 j < T.2.2.2 (j + 1)) ∧ (∀ j, j < m → 0 ≤ T.1 j ∧ T.1 j ≤ 34) ∧ ∀ j, j < m → T.1 j = 22 → zNR (T.2.1 j).1 (T.2.1 j).2
theorem zrho_inj : ∀ x y : Int, 0 ≤ x → x ≤ 34 → 0 ≤ y → y ≤ 34 → zrho x = zrho y → x = y := by
  intro x y hx0 hx hy0 hy h
  have key : ∀ a b : Fin 35, zrho a.val = zrho b.val → a = b := by decide +kernel
  have q := key ⟨x.toNat, by omega⟩ ⟨y.toNat, by omega⟩ (by show zrho ((x.toNat : Nat) : Int) = zrho ((y.toNat : Nat) : Int); rw [show ((x.toNat : Nat) : Int) = x by omega, show ((y.toNat : Nat) : Int) = y by omega]; exact h)
  have := congrArg Fin.val q
  simp only at this
  omega
section ZW
variable {a k q v nm nO m : Nat} {T : zTn} {β : Int} {τ τ' : zS} {s : zA}
theorem zWg.cg (h : zWg a k q v nm nO m T β τ s) (e0 : τ'.2.2 = τ.2.2) (e1 : τ'.1 k = τ.1 k) (e2 : τ'.1 q = τ.1 q) (e3 : τ'.1 v = τ.1 v) (e4 : τ'.2.1 nm = τ.2.1 nm) (e5 : τ'.2.1 nO = τ.2.1 nO) (e6 : ∀ j, zLv j → τ'.1 a j = τ.1 a j) : zWg a k q v nm nO m T β τ' s := by
  unfold zWg zWs zWr
  rw [e0, e1, e2, e3, e4, e5, e6 11 (by unfold zLv; omega), e6 13 (by unfold zLv; omega), e6 14 (by unfold zLv; omega), e6 15 (by unfold zLv; omega), e6 16 (by unfold zLv; omega), e6 41 (by unfold zLv; omega), e6 42 (by unfold zLv; omega)]
  exact h
theorem zWs.row (hd : zWd a k q v nm nO) (h : zWs a k q v nm nO m T τ) (e0 : τ'.2.2 = τ.2.2) (e1 : ∀ x, x ≠ a → τ'.1 x = τ.1 x) (e2 : τ'.2.1 = τ.2.1) : zWs a k q v nm nO m T τ' := by
  unfold zWs
  rw [e0, e1 k hd.1, e1 q hd.2.1, e1 v hd.2.2.1, e2]
  exact h
/-- a slot of the object that doesn't bear on it -/
theorem wRow (hd : zWd a k q v nm nO) (h : zWg a k q v nm nO m T β τ s) (j : Nat) (x : Int32) (hj : ¬ zLv j) : zWg a k q v nm nO m T β (zu τ.1 a j x, τ.2.1, τ.2.2) s :=
  h.cg rfl (zu_n _ _ _ hd.1) (zu_n _ _ _ hd.2.1) (zu_n _ _ _ hd.2.2.1) rfl rfl (fun i hi => zu_j _ _ _ _ _ (fun z => hj (z ▸ hi)))
/-- an array that doesn't bear on it -/
theorem wArr (h : zWg a k q v nm nO m T β τ s) (j i : Nat) (x : Int32) (hj : zQs j) : zWg a k q v nm nO m T β (zu τ.1 ((τ.2.2 a j).getD 0) i x, τ.2.1, τ.2.2) s := by
  obtain ⟨d1, d2, d3, d4⟩ := h.1.2.2 j hj
  exact h.cg rfl (zu_n _ _ _ (fun z => d2 z.symm)) (zu_n _ _ _ (fun z => d3 z.symm)) (zu_n _ _ _ (fun z => d4 z.symm)) rfl rfl (fun i hi => by
    show zu τ.1 _ _ _ a i = _
    rw [zu_n _ _ _ (fun z => d1 z.symm)])
theorem wFail (hd : zWd a k q v nm nO) (h : zWg a k q v nm nO m T β τ s) (n : Int32) (hn : 0 < n.toInt) : zWg a k q v nm nO m T β (F_X11_fail a n τ) (aFail T n.toInt s) := by
  have e6 : (τ.2.2 a 6).getD 0 = q := by rw [h.1.1.2.1]; rfl
  unfold F_X11_fail aFail
  simp only [zlt, e6]
  by_cases c : s.1 = 0
  · have r := h.2.2.2.2 c
    rw [if_neg (by rw [h.2.1]; omega), if_neg (zne c)]
    have e11 : zu τ.1 a 13 n a 11 = τ.1 a 11 := zu_j _ _ _ _ _ (by decide)
    have eq : zu τ.1 a 13 n q = τ.1 q := zu_n _ _ _ hd.2.1
    have ei : (τ.1 a 11).toNatClampNeg = s.2.2.1 := by rw [ztn, r.2.1]; rfl
    rw [e11, eq, ei]
    refine ⟨h.1.row hd rfl (fun x hx => ?_) rfl, ?_, by show 0 ≤ n.toInt; omega, fun _ => ?_, fun z => ?_⟩
    · show zu (zu τ.1 a 13 n) a 14 _ x = _
      rw [zu_n _ _ _ hx, zu_n _ _ _ hx]
    · show (zu (zu τ.1 a 13 n) a 14 _ a 13).toInt = _
      rw [zu_j _ _ _ _ _ (by decide), zu_s]
    · show (zu (zu τ.1 a 13 n) a 14 _ a 14).toInt = _
      rw [zu_s]
      exact (h.1.2.1 _ r.1).2.1
    · have z2 : n.toInt = 0 := z
      omega
  · rw [if_pos (by rw [h.2.1]; have := h.2.2.1; omega), if_pos c]
    exact h
theorem zWg.any (h : zWg a k q v nm nO m T β τ s) (c : s.1 ≠ 0) (β' : Int) : zWg a k q v nm nO m T β' τ s := ⟨h.1, h.2.1, h.2.2.1, h.2.2.2.1, fun z => absurd z c⟩
theorem wFail' (hd : zWd a k q v nm nO) (h : zWg a k q v nm nO m T β τ s) (n : Int32) (i : Int) (e : n.toInt = i) (hn : 0 < i) : zWo a k q v nm nO m T (F_X11_fail a n τ) (aFail T i s) := by
  subst e
  exact (wFail hd h n hn).any (aFail_1 (by omega)) _
theorem wIs (hT : zTm T m) (h : zWo a k q v nm nO m T τ s) (x : Int32) (w : Int) (hw : 0 ≤ w ∧ w ≤ 34) (hx : x.toInt = zrho w) : ((F_X11_is a x τ).toInt = 0) = ¬ (s.1 = 0 ∧ T.1 s.2.2.1 = w) := by
  have e5 : (τ.2.2 a 5).getD 0 = k := by rw [h.1.1.1]; rfl
  unfold F_X11_is
  simp only [zlt, e5]
  by_cases c : s.1 = 0
  · have r := h.2.2.2.2 c
    have ei : (τ.1 a 11).toNatClampNeg = s.2.2.1 := by rw [ztn, r.2.1]; rfl
    rw [if_pos (by rw [h.2.1]; exact c), ei, (h.1.2.1 _ r.1).1, hx]
    have rg := hT.2.1 _ r.1
    by_cases c2 : T.1 s.2.2.1 = w
    · rw [c2, if_pos rfl]
      exact propext ⟨fun z => absurd z (by decide), fun z => absurd ⟨c, rfl⟩ z⟩
    · rw [if_neg (fun z => c2 (zrho_inj _ _ rg.1 rg.2 hw.1 hw.2 z))]
      exact propext ⟨fun _ z => c2 z.2, fun _ => by decide⟩
  · rw [if_neg (by rw [h.2.1]; exact c)]
    exact propext ⟨fun _ z => c z.1, fun _ => by decide⟩
/-- on by one -/
def aOn (T : zTn) (s : zA) : zA := if s.1 ≠ 0 then s else if 400 ≤ s.2.2.1 then aFail T 2 s else (s.1, s.2.1, s.2.2.1 + 1, s.2.2.2)
theorem aTake_on {w : Int} (h : T.1 s.2.2.1 = w) : aTake T w s = aOn T s := by
  unfold aTake aOn
  split
  · rfl
  · rw [if_neg (fun z => z h)]
theorem wOn (hd : zWd a k q v nm nO) (hT : zTm T m) (hK : zTK T m) (h : zWg a k q v nm nO m T β τ s) (hb : s.1 = 0 → β ≤ T.2.2.2 s.2.2.1 + 1) (hk : s.1 = 0 → T.1 s.2.2.1 < 33) : zWo a k q v nm nO m T (F_X11_goesOn a τ) (aOn T s) := by
  have e400 : (400 : Int32).toInt = 400 := by decide
  unfold F_X11_goesOn aOn
  simp only [zlt, e400]
  by_cases c : s.1 = 0
  · have r := h.2.2.2.2 c
    obtain ⟨r1, r2, r3, r4, r5, r6, r7, r8, r9⟩ := r
    rw [if_neg (zne c)]
    have m4 := hK.2.1
    by_cases c2 : 400 ≤ s.2.2.1
    · rw [if_pos (by omega), if_pos c2]
      exact wFail' hd h 2 2 (by decide) (by decide)
    · rw [if_neg (by omega), if_neg c2]
      have lt := hK.2.2 _ r1 (hk c) (by omega)
      have g : ∀ j, j ≠ 11 → zu τ.1 a 11 (τ.1 a 11 + (1 : Int32)) a j = τ.1 a j := fun j hj => zu_j _ _ _ _ _ (fun z => hj z.symm)
      refine ⟨h.1.row hd rfl (fun x hx => zu_n _ _ _ hx) rfl, ?_, h.2.2.1, fun z => absurd c z, fun _ => ⟨lt, ?_, ?_, r4, fun z => ⟨?_, ?_⟩, ?_, ?_, r8, r9⟩⟩
      · show (zu τ.1 a 11 _ a 13).toInt = _
        rw [g 13 (by decide)]; exact h.2.1
      · show (zu τ.1 a 11 _ a 11).toInt = _
        rw [zu_s]
        exact zp1 r2 (by omega)
      · show (zu τ.1 a 11 _ a 15).toInt = _
        rw [g 15 (by decide)]; exact r3
      · show (zu τ.1 a 11 _ a 16).toInt = _
        rw [g 16 (by decide)]; exact (r5 z).1
      · have q1 := (r5 z).2
        have q2 := hT.1 _ lt
        have q3 := hb c
        show s.2.2.2.2.1 < T.2.2.2 (s.2.2.1 + 1)
        omega
      · show (zu τ.1 a 11 _ a 41).toInt = _
        rw [g 41 (by decide)]; exact r6
      · show (zu τ.1 a 11 _ a 42).toInt = _
        rw [g 42 (by decide)]; exact r7
  · rw [if_pos c]
    split
    · have q := wFail' hd h 2 2 (by decide) (by decide)
      unfold aFail at q
      rw [if_pos c] at q
      exact q
    · refine ⟨h.1.row hd rfl (fun x hx => zu_n _ _ _ hx) rfl, ?_, h.2.2.1, fun z => ?_, fun z => absurd z c⟩
      · show (zu τ.1 a 11 _ a 13).toInt = _
        rw [zu_j _ _ _ _ _ (by decide)]; exact h.2.1
      · show (zu τ.1 a 11 _ a 14).toInt = _
        rw [zu_j _ _ _ _ _ (by decide)]; exact h.2.2.2.1 z
theorem wMust (hd : zWd a k q v nm nO) (hT : zTm T m) (hK : zTK T m) (h : zWo a k q v nm nO m T τ s) (x : Int32) (w : Int) (hw : 0 ≤ w ∧ w < 33) (hx : x.toInt = zrho w) : zWo a k q v nm nO m T (F_X11_must a x τ) (aTake T w s) := by
  unfold F_X11_must
  simp only [zlt, wIs hT h x w (by omega) hx]
  by_cases c : s.1 = 0 ∧ T.1 s.2.2.1 = w
  · rw [if_neg (fun z => z c), aTake_on c.2]
    exact wOn hd hT hK h (fun _ => by omega) (fun _ => by omega)
  · rw [if_pos c]
    have q := wFail' hd h 1 1 (by decide) (by decide)
    have e : aTake T w s = aFail T 1 s := by
      unfold aTake
      by_cases c2 : s.1 = 0
      · rw [if_neg (fun z => z c2), if_pos (fun z => c ⟨c2, z⟩)]
      · rw [if_pos c2]
        unfold aFail
        rw [if_pos c2]
    rw [e]
    exact q
/-- a late fault at a token at hand or just passed -/
theorem wWrong (hd : zWd a k q v nm nO) (h : zWo a k q v nm nO m T τ s) (hc : s.1 = 0) (n i : Int32) (j : Nat) (hn : 0 < n.toInt) (hi : i.toInt = j) (hj : j < m) (hlp : s.2.2.2.1 ≠ 0 → s.2.2.2.2.1 < T.2.2.2 j) (hjs : T.2.2.2 j < T.2.2.2 s.2.2.1 ∨ j = s.2.2.1) (s2 : zA) (h2 : s2 = (s.1, s.2.1, s.2.2.1, (if s.2.2.2.1 ≠ 0 then s.2.2.2.1 else n.toInt), (if s.2.2.2.1 ≠ 0 then s.2.2.2.2.1 else T.2.2.2 j), s.2.2.2.2.2)) :
    zWs a k q v nm nO m T (F_X11_wrong a n i τ) ∧ (F_X11_wrong a n i τ).2.1 = τ.2.1 ∧ ((F_X11_wrong a n i τ).1 a 13).toInt = 0 ∧ (∀ x, x ≠ 15 → x ≠ 16 → (F_X11_wrong a n i τ).1 a x = τ.1 a x) ∧ ((F_X11_wrong a n i τ).1 a 15).toInt = s2.2.2.2.1 ∧ ((F_X11_wrong a n i τ).1 a 16).toInt = s2.2.2.2.2.1 := by
  subst h2
  have r := h.2.2.2.2 hc
  obtain ⟨r1, r2, r3, r4, r5, r6, r7, r8, r9⟩ := r
  have e6 : (τ.2.2 a 6).getD 0 = q := by rw [h.1.1.2.1]; rfl
  have ei : i.toNatClampNeg = j := by rw [ztn, hi]; rfl
  have eq := (h.1.2.1 _ hj).2.1
  have h13 := h.2.1.trans hc
  unfold F_X11_wrong
  simp only [zlt, e6, ei]
  rw [if_neg (by omega)]
  by_cases c : s.2.2.2.1 = 0
  · rw [if_pos (r3.trans c)]
    refine ⟨h.1.row hd rfl (fun x hx => ?_) rfl, rfl, ?_, fun x h1 h2 => ?_, ?_, ?_⟩
    · show zu (zu τ.1 a 15 n) a 16 _ x = _
      rw [zu_n _ _ _ hx, zu_n _ _ _ hx]
    · show (zu (zu τ.1 a 15 n) a 16 _ a 13).toInt = _
      rw [zu_j _ _ _ _ _ (by decide), zu_j _ _ _ _ _ (by decide)]; exact h13
    · show zu (zu τ.1 a 15 n) a 16 _ a x = _
      rw [zu_j _ _ _ _ _ (fun z => h2 z.symm), zu_j _ _ _ _ _ (fun z => h1 z.symm)]
    · show (zu (zu τ.1 a 15 n) a 16 _ a 15).toInt = if s.2.2.2.1 ≠ 0 then s.2.2.2.1 else n.toInt
      rw [zu_j _ _ _ _ _ (by decide), zu_s, if_neg (zne c)]
    · show (zu (zu τ.1 a 15 n) a 16 _ a 16).toInt = if s.2.2.2.1 ≠ 0 then s.2.2.2.2.1 else T.2.2.2 j
      rw [zu_s, if_neg (zne c), eq]
  · rw [if_neg (fun z => c (r3.symm.trans z)), if_pos (by rw [(r5 c).1, eq]; exact hlp c)]
    refine ⟨h.1, rfl, h13, fun _ _ _ => rfl, ?_, ?_⟩
    · show _ = if s.2.2.2.1 ≠ 0 then s.2.2.2.1 else n.toInt
      rw [if_pos c]; exact r3
    · show _ = if s.2.2.2.1 ≠ 0 then s.2.2.2.2.1 else T.2.2.2 j
      rw [if_pos c]; exact (r5 c).1
end ZW
end
-- 35l.pure12
section
section ZW2
variable {a k q v nm nO m : Nat} {T : zTn} {τ τ' : zS} {s s' : zA}
theorem zWg.ft {β : Int} (h : zWg a k q v nm nO m T β τ s) (c : s.1 ≠ 0) (e1 : s'.1 = s.1) (e2 : s'.2.1 = s.2.1) : zWo a k q v nm nO m T τ s' := by
  refine ⟨h.1, by rw [e1]; exact h.2.1, by rw [e1]; exact h.2.2.1, fun _ => by rw [e2]; exact h.2.2.2.1 c, fun z => absurd (e1.symm.trans z) c⟩
/-- the reference's loop that looks for a name -/
theorem wFind (h : zWo a k q v nm nO m T τ s) (hs : s.1 = 0) (x y : Int64) (hxy : zNR x y) (G : Nat → Int32 → Int32)
    (hG : ∀ (n : Nat) (p : Int32), G (n + 1) p = if (τ.1 a 42).toInt < p.toInt then -1 else if (lg_cmp (τ.2.1 nO p.toNatClampNeg) y).toInt = 0 then p else G n (p + (1 : Int32))) :
    ∀ (n : Nat) (p : Int32) (j : Nat), p.toInt = j → j ≤ 12 → (j ≠ 0 ∨ s.2.2.2.2.2.1 ≠ 0) → 12 - j < n → (G n p).toInt = aFind s.2.2.2.2.2.2.2 s.2.2.2.2.2.2.1 x n j := by
  obtain ⟨r1, r2, r3, r4, r5, r6, r7, r8, r9⟩ := h.2.2.2.2 hs
  intro n
  induction n with
  | zero => intro p j _ _ _ hm; exact absurd hm (by omega)
  | succ n ih =>
    intro p j hp hj h0 hm
    have pj : p.toNatClampNeg = j := by rw [ztn, hp]; rfl
    rw [hG, pj, r7]
    simp only [zcmp0]
    unfold aFind
    by_cases c : s.2.2.2.2.2.2.1 < (j : Int)
    · rw [if_pos (by omega), if_neg (by omega)]
      decide
    · obtain ⟨n1, n2⟩ := r9 j (by omega) h0
      rw [if_neg (by omega), n1, if_pos (show (j : Int) ≤ s.2.2.2.2.2.2.1 ∧ j < 12 from by omega)]
      have e := n2.inj hxy
      by_cases c2 : (s.2.2.2.2.2.2.2 j).1 = x
      · rw [if_pos (e.mp c2), if_pos c2]
        exact hp
      · rw [if_neg (fun z => c2 (e.mpr z)), if_neg c2]
        exact ih _ (j + 1) (zp1 hp (by omega)) (by omega) (by omega) (by omega)
theorem wNum (h : zWo a k q v nm nO m T τ s) (hs : s.1 = 0) (i : Int32) (j : Nat) (hi : i.toInt = j) (x y : Int64) (hxy : zNR x y) (hy : τ.2.1 nm j = y) : (F_X11_numberOf a i τ).toInt = aNum s x := by
  obtain ⟨r1, r2, r3, r4, r5, r6, r7, r8, r9⟩ := h.2.2.2.2 hs
  have e8 : (τ.2.2 a 8).getD 0 = nm := by rw [h.1.1.2.2.2.1]; rfl
  have e20 : (τ.2.2 a 20).getD 0 = nO := by rw [h.1.1.2.2.2.2]; rfl
  have ei : i.toNatClampNeg = j := by rw [ztn, hi]; rfl
  have e0 : (0 : Int32).toNatClampNeg = 0 := by decide
  unfold F_X11_numberOf aNum
  simp only [zlt, e8, e20, ei, e0, hy, zcmp0]
  by_cases c : s.2.2.2.2.2.1 = 0
  · rw [if_pos (r6.trans c), if_pos c]
    exact (wFind h hs x y hxy (F_X11_numberOf_27 a i τ) (fun n p => by rw [F_X11_numberOf_27]; simp only [zlt, e8, e20, ei, hy]) 10000 1 1 (by decide) (by omega) (by omega) (by omega)).trans (aFind_ge _ _ _ (by omega) (by omega))
  · rw [if_neg (fun z => c (r6.symm.trans z)), if_neg c]
    obtain ⟨n1, n2⟩ := r9 0 (by omega) (Or.inr c)
    have e := n2.inj hxy
    rw [n1]
    by_cases c2 : (s.2.2.2.2.2.2.2 0).1 = x
    · rw [if_pos (e.mp c2)]
      unfold aFind
      rw [if_pos (by omega), if_pos c2]
      decide
    · rw [if_neg (fun z => c2 (e.mpr z))]
      unfold aFind
      rw [if_pos (by omega), if_neg c2]
      exact (wFind h hs x y hxy (F_X11_numberOf_27_1 a i τ) (fun n p => by rw [F_X11_numberOf_27_1]; simp only [zlt, e8, e20, ei, hy]) 10000 1 1 (by decide) (by omega) (by omega) (by omega)).trans (aFind_ge _ _ _ (by omega) (by decide))
theorem aLate_e (hs : s.1 = 0) (n : Int) : aLate T n s = (s.1, s.2.1, s.2.2.1, (if s.2.2.2.1 ≠ 0 then s.2.2.2.1 else n), (if s.2.2.2.1 ≠ 0 then s.2.2.2.2.1 else T.2.2.2 s.2.2.1), s.2.2.2.2.2) := by
  unfold aLate
  rw [if_neg (zne hs)]
  by_cases c : s.2.2.2.1 = 0
  · rw [if_neg (zne c), if_neg (zne c), if_neg (zne c)]
  · rw [if_pos c, if_pos c, if_pos c]
theorem aLate_s (n : Int) : (aLate T n s).1 = s.1 ∧ (aLate T n s).2.1 = s.2.1 ∧ (aLate T n s).2.2.1 = s.2.2.1 := by
  unfold aLate
  split
  · exact ⟨rfl, rfl, rfl⟩
  · split <;> exact ⟨rfl, rfl, rfl⟩
theorem aTake_w {w : Int} (hs : s.1 = 0) (c : T.1 s.2.2.1 ≠ w) : aTake T w s = (1, T.2.2.2 s.2.2.1, s.2.2) := by
  unfold aTake aFail
  exact (if_neg (zne hs)).trans ((if_pos c).trans (if_neg (zne hs)))
theorem aTake_4 {w : Int} (hs : s.1 = 0) (c : T.1 s.2.2.1 = w) (c2 : 400 ≤ s.2.2.1) : aTake T w s = (2, T.2.2.2 s.2.2.1, s.2.2) := by
  unfold aTake aFail
  exact (if_neg (zne hs)).trans ((if_neg (zne c)).trans ((if_pos c2).trans (if_neg (zne hs))))
theorem aTake_1 {w : Int} (hs : s.1 = 0) (c : T.1 s.2.2.1 = w) (c2 : s.2.2.1 < 400) : aTake T w s = (s.1, s.2.1, s.2.2.1 + 1, s.2.2.2) := by
  unfold aTake
  exact (if_neg (zne hs)).trans ((if_neg (zne c)).trans (if_neg (by omega)))
/-- a late fault at the token just passed -/
theorem wLateB (hd : zWd a k q v nm nO) (hT : zTm T m) (hK : zTK T m) (h : zWo a k q v nm nO m T τ (aTake T 22 s)) (h0 : zWr a nO m (T.2.2.2 s.2.2.1) τ' s) (hc : (aTake T 22 s).1 = 0) (n i : Int32) (hn : 0 < n.toInt) (hi : i.toInt = s.2.2.1) : zWo a k q v nm nO m T (F_X11_wrong a n i τ) (aTake T 22 (aLate T n.toInt s)) := by
  obtain ⟨c1, c2, c3, c4⟩ := aTake_i hc
  have r := h.2.2.2.2 hc
  have c5 : s.2.2.1 < 400 := by
    have z := hc
    unfold aTake at z
    rw [if_neg (zne c1), if_neg (zne c2)] at z
    by_cases c2 : 400 ≤ s.2.2.1
    · rw [if_pos c2] at z; exact absurd z (aFail_1 (by decide))
    · omega
  have em : T.2.2.2 s.2.2.1 < T.2.2.2 (s.2.2.1 + 1) := hT.1 _ (by have := r.1; omega)
  obtain ⟨s2, hs2⟩ : ∃ s2 : zA, s2 = aTake T 22 s := ⟨_, rfl⟩
  rw [← hs2] at h hc c3 c4 r
  obtain ⟨w1, w2, w3, w4, w5, w6⟩ := wWrong hd h hc n i s.2.2.1 hn hi h0.1 (fun z => by
    rw [c4] at z ⊢
    exact (h0.2.2.2.2.1 z).2) (Or.inl (by rw [c3]; exact em)) _ rfl
  obtain ⟨r1, r2, r3, r4, r5, r6, r7, r8, r9⟩ := r
  have eA : aTake T 22 (aLate T n.toInt s) = (s2.1, s2.2.1, s2.2.2.1, (if s2.2.2.2.1 ≠ 0 then s2.2.2.2.1 else n.toInt), (if s2.2.2.2.1 ≠ 0 then s2.2.2.2.2.1 else T.2.2.2 s.2.2.1), s2.2.2.2.2.2) := by
    obtain ⟨l1, l2, l3⟩ := aLate_s (T := T) (s := s) n.toInt
    rw [aTake_1 (s := aLate T n.toInt s) (l1.trans c1) (by rw [l3]; exact c2) (by rw [l3]; exact c5), aLate_e c1, hs2, aTake_1 c1 c2 c5]
  rw [eA]
  refine ⟨w1, w3.trans hc.symm, h.2.2.1, fun z => absurd hc z, fun _ => ⟨r1, ?_, w5, ?_, fun z => ⟨w6, ?_⟩, ?_, ?_, r8, ?_⟩⟩
  · rw [w4 11 (by decide) (by decide)]; exact r2
  · show 0 ≤ if s2.2.2.2.1 ≠ 0 then s2.2.2.2.1 else n.toInt
    split <;> omega
  · show (if s2.2.2.2.1 ≠ 0 then s2.2.2.2.2.1 else T.2.2.2 s.2.2.1) < T.2.2.2 s2.2.2.1
    split
    · next y => exact (r5 y).2
    · rw [c3]; exact em
  · rw [w4 41 (by decide) (by decide)]; exact r6
  · rw [w4 42 (by decide) (by decide)]; exact r7
  · rw [w2]; exact r9
theorem aTake_ff {w : Int} (h : (aTake T w s).1 ≠ 0) (hs : s.1 = 0) (n : Int) : (aTake T w (aLate T n s)).1 = (aTake T w s).1 ∧ (aTake T w (aLate T n s)).2.1 = (aTake T w s).2.1 := by
  obtain ⟨l1, l2, l3⟩ := aLate_s (T := T) (s := s) n
  by_cases c1 : T.1 s.2.2.1 = w
  · by_cases c2 : 400 ≤ s.2.2.1
    · rw [aTake_4 hs c1 c2, aTake_4 (s := aLate T n s) (l1.trans hs) (by rw [l3]; exact c1) (by rw [l3]; exact c2), l3]
      exact ⟨rfl, rfl⟩
    · rw [aTake_1 hs c1 (by omega)] at h
      exact absurd hs h
  · rw [aTake_w hs c1, aTake_w (s := aLate T n s) (l1.trans hs) (by rw [l3]; exact c1), l3]
    exact ⟨rfl, rfl⟩
theorem wNamed (hd : zWd a k q v nm nO) (hT : zTm T m) (hK : zTK T m) (h : zWo a k q v nm nO m T τ s) : ∃ x : Int32, ∃ τ' : zS, F_X11_named a τ = (x, τ') ∧ zWo a k q v nm nO m T τ' (aNew T s) ∧ (s.1 = 0 → x.toInt = s.2.2.1) := by
  unfold F_X11_named
  simp only [zlt, zlt2]
  have h1 := wMust hd hT hK h 1 22 (by decide) (by decide)
  rw [h1.2.1]
  by_cases c : (aTake T 22 s).1 = 0
  · rw [if_pos c]
    obtain ⟨c1, c2, c3, c4⟩ := aTake_i c
    have r := h.2.2.2.2 c1
    have nr := hT.2.2 _ r.1 c2
    have en := wNum h1 c (τ.1 a 11) s.2.2.1 r.2.1 (T.2.1 s.2.2.1).1 (T.2.1 s.2.2.1).2 nr (h1.1.2.1 _ r.1).2.2.2
    have en2 : aNum (aTake T 22 s) (T.2.1 s.2.2.1).1 = aNum s (T.2.1 s.2.2.1).1 := by
      unfold aNum
      rw [c4]
    rw [en2] at en
    unfold aNew
    have nn : aNum s (T.2.1 s.2.2.1).1 = -1 ∨ 0 ≤ aNum s (T.2.1 s.2.2.1).1 := by
      have key : ∀ (n p : Nat), aFind s.2.2.2.2.2.2.2 s.2.2.2.2.2.2.1 (T.2.1 s.2.2.1).1 n p = -1 ∨ 0 ≤ aFind s.2.2.2.2.2.2.2 s.2.2.2.2.2.2.1 (T.2.1 s.2.2.1).1 n p := by
        intro n
        induction n with
        | zero => intro p; exact Or.inl rfl
        | succ n ih =>
          intro p
          unfold aFind
          split
          · split
            · exact Or.inr (by omega)
            · exact ih _
          · exact Or.inl rfl
      exact key _ _
    by_cases c5 : aNum s (T.2.1 s.2.2.1).1 = -1
    · rw [if_pos (by omega), if_neg (fun z => z.2.2 c5)]
      exact ⟨_, _, rfl, h1, fun _ => r.2.1⟩
    · rw [if_neg (by omega), if_pos ⟨c1, c2, c5⟩]
      exact ⟨_, _, rfl, wLateB hd hT hK h1 r c 3 _ (by decide) r.2.1, fun _ => r.2.1⟩
  · rw [if_neg c]
    refine ⟨_, _, rfl, ?_, fun z => (h.2.2.2.2 z).2.1⟩
    unfold aNew
    split
    · next z =>
      obtain ⟨e1, e2⟩ := aTake_ff c z.1 3
      exact h1.ft c e1 e2
    · exact h1
theorem wBounded (hd : zWd a k q v nm nO) (hT : zTm T m) (hK : zTK T m) (h : zWo a k q v nm nO m T τ s) (lo hi : Int32) : ∃ x : Int32, ∃ τ' : zS, F_X11_bounded a lo hi τ = (x, τ') ∧ zWo a k q v nm nO m T τ' (aNumb T lo.toInt hi.toInt s) := by
  have e7 : (τ.2.2 a 7).getD 0 = v := by rw [h.1.1.2.2.1]; rfl
  unfold F_X11_bounded
  simp only [zlt, zlt2, e7]
  by_cases c : s.1 = 0
  · rw [if_neg (by rw [h.2.1]; omega)]
    obtain ⟨r1, r2, r3, r4, r5, r6, r7, r8, r9⟩ := h.2.2.2.2 c
    have ei : (τ.1 a 11).toNatClampNeg = s.2.2.1 := by rw [ztn, r2]; rfl
    have i2 := wIs hT h 2 23 (by decide) (by decide)
    rw [ei]
    by_cases c1 : T.1 s.2.2.1 = 23
    · rw [if_neg (show ¬ (F_X11_is a 2 τ).toInt = 0 by rw [i2]; exact fun z => z ⟨c, c1⟩), (h.1.2.1 _ r1).2.2.1 c1]
      have late : zWg a k q v nm nO m T (T.2.2.2 s.2.2.1 + 1) (F_X11_wrong a 5 (τ.1 a 11) τ) (aLate T 5 s) := by
        obtain ⟨w1, w2, w3, w4, w5, w6⟩ := wWrong hd h c 5 (τ.1 a 11) s.2.2.1 (by decide) r2 r1 (fun z => (r5 z).2) (Or.inr rfl) _ rfl
        rw [aLate_e c]
        refine ⟨w1, w3.trans c.symm, h.2.2.1, fun z => absurd c z, fun _ => ⟨r1, ?_, w5, ?_, fun z => ⟨w6, ?_⟩, ?_, ?_, r8, ?_⟩⟩
        · rw [w4 11 (by decide) (by decide)]; exact r2
        · show 0 ≤ if s.2.2.2.1 ≠ 0 then s.2.2.2.1 else 5
          split <;> omega
        · show (if s.2.2.2.1 ≠ 0 then s.2.2.2.2.1 else T.2.2.2 s.2.2.1) < T.2.2.2 s.2.2.1 + 1
          split
          · next y => have := (r5 y).2; omega
          · omega
        · rw [w4 41 (by decide) (by decide)]; exact r6
        · rw [w4 42 (by decide) (by decide)]; exact r7
        · rw [w2]; exact r9
      have li : (aLate T 5 s).1 = s.1 ∧ (aLate T 5 s).2.2.1 = s.2.2.1 := by rw [aLate_e c]; exact ⟨rfl, rfl⟩
      have on1 : zWo a k q v nm nO m T (F_X11_goesOn a (F_X11_wrong a 5 (τ.1 a 11) τ)) (aTake T 23 (aLate T 5 s)) := by
        rw [aTake_on (by rw [li.2]; exact c1)]
        exact wOn hd hT hK late (fun _ => by rw [li.2]; omega) (fun _ => by rw [li.2]; omega)
      have on2 : zWo a k q v nm nO m T (F_X11_goesOn a τ) (aTake T 23 s) := by
        rw [aTake_on c1]
        exact wOn hd hT hK h (fun _ => by omega) (fun _ => by omega)
      unfold aNumb
      by_cases c2 : T.2.2.1 s.2.2.1 < lo.toInt
      · rw [if_pos c2, if_pos ⟨c, c1, by omega⟩]
        exact ⟨_, _, rfl, on1⟩
      · rw [if_neg c2]
        by_cases c3 : hi.toInt < T.2.2.1 s.2.2.1
        · rw [if_pos c3, if_pos ⟨c, c1, by omega⟩]
          exact ⟨_, _, rfl, on1⟩
        · rw [if_neg c3, if_neg (fun z => z.2.2 (by omega))]
          exact ⟨_, _, rfl, on2⟩
    · rw [if_pos (show (F_X11_is a 2 τ).toInt = 0 by rw [i2]; exact fun z => c1 z.2)]
      refine ⟨_, _, rfl, ?_⟩
      have e : aNumb T lo.toInt hi.toInt s = aFail T 1 s := by
        unfold aNumb
        rw [if_neg (fun z => c1 z.2.1)]
        unfold aTake
        rw [if_neg (zne c), if_pos c1]
      rw [e]
      exact wFail' hd h 1 1 (by decide) (by decide)
  · rw [if_pos (by rw [h.2.1]; have := h.2.2.1; omega)]
    refine ⟨_, _, rfl, ?_⟩
    rw [aNumb_f c]
    have q := wFail' hd h 1 1 (by decide) (by decide)
    rw [aFail_f c] at q
    exact q
end ZW2
end
-- 35m.pure13
section
section ZW3
variable {a k q v nm nO m : Nat} {T : zTn} {β : Int} {τ τ' : zS} {s s' : zA}
theorem zQ1 (h : zWg a k q v nm nO m T β τ s) (j : Nat) (hj : zQs j) : (τ.2.2 a j).getD 0 ≠ a := (h.1.2.2 j hj).1
theorem wEmit (hd : zWd a k q v nm nO) (h : zWg a k q v nm nO m T β τ s) (x y : Int32) : zWg a k q v nm nO m T β (F_X11_emit a x y τ) s ∧ (F_X11_emit a x y τ).1 a 12 = τ.1 a 12 := by
  have q39 : zQs 39 := by unfold zQs; omega
  have q40 : zQs 40 := by unfold zQs; omega
  refine ⟨wRow hd (wArr (wArr h 39 _ _ q39) 40 _ _ q40) 38 _ (by unfold zLv; omega), ?_⟩
  show zu (zu (zu τ.1 ((τ.2.2 a 39).getD 0) _ _) ((τ.2.2 a 40).getD 0) _ _) a 38 _ a 12 = _
  rw [zu_j _ _ _ _ _ (by decide), zu_n _ _ _ (fun z => zQ1 h 40 q40 z.symm), zu_n _ _ _ (fun z => zQ1 h 39 q39 z.symm)]
theorem wComes_l (hd : zWd a k q v nm nO) (p : Int32) : ∀ (n : Nat) (τ : zS), zWg a k q v nm nO m T β τ s → zWg a k q v nm nO m T β (F_X11_comesOut_0 a p n τ) s ∧ (F_X11_comesOut_0 a p n τ).1 a 12 = τ.1 a 12 := by
  intro n
  induction n with
  | zero => intro τ h; exact ⟨h, rfl⟩
  | succ n ih =>
    intro τ h
    have nx : ∀ x y z : Int32, zWg a k q v nm nO m T β (F_X11_comesOut_0 a p n (F_X11_emit a x y (zu τ.1 a 44 z, τ.2.1, τ.2.2))) s ∧ (F_X11_comesOut_0 a p n (F_X11_emit a x y (zu τ.1 a 44 z, τ.2.1, τ.2.2))).1 a 12 = τ.1 a 12 := fun x y z => by
      have h1 := wRow hd h 44 z (by unfold zLv; omega)
      have h2 := wEmit hd h1 x y
      have h3 := ih _ h2.1
      refine ⟨h3.1, h3.2.trans (h2.2.trans ?_)⟩
      exact zu_j _ _ _ _ _ (by decide)
    rw [F_X11_comesOut_0]
    simp only [zlt]
    (repeat' split) <;> first | exact ⟨h, rfl⟩ | exact nx _ _ _
theorem wComes (hd : zWd a k q v nm nO) (h : zWg a k q v nm nO m T β τ s) (p : Int32) : zWg a k q v nm nO m T β (F_X11_comesOut a p τ) s ∧ (F_X11_comesOut a p τ).1 a 12 = τ.1 a 12 := by
  unfold F_X11_comesOut
  exact wComes_l hd p _ _ h
/-- what goes behind on the pile of what waits -/
theorem wPush (hd : zWd a k q v nm nO) (h : zWg a k q v nm nO m T β τ s) (i : Nat) (x z : Int32) : zWg a k q v nm nO m T β (zu (zu τ.1 ((τ.2.2 a 43).getD 0) i x) a 44 z, τ.2.1, τ.2.2) s ∧ zu (zu τ.1 ((τ.2.2 a 43).getD 0) i x) a 44 z a 12 = τ.1 a 12 := by
  have q43 : zQs 43 := by unfold zQs; omega
  refine ⟨wRow hd (wArr h 43 i x q43) 44 z (by unfold zLv; omega), ?_⟩
  rw [zu_j _ _ _ _ _ (by decide), zu_n _ _ _ (fun z => zQ1 h 43 q43 z.symm)]
theorem wOn12 : (F_X11_goesOn a τ).1 a 12 = τ.1 a 12 ∨ False := by
  left
  unfold F_X11_goesOn
  simp only [zlt]
  split
  · unfold F_X11_fail
    simp only [zlt]
    split
    · rfl
    · show zu (zu τ.1 a 13 _) a 14 _ a 12 = _
      rw [zu_j _ _ _ _ _ (by decide), zu_j _ _ _ _ _ (by decide)]
  · exact zu_j _ _ _ _ _ (by decide)
theorem wOn12' : (F_X11_goesOn a τ).1 a 12 = τ.1 a 12 := by
  rcases wOn12 (a := a) (τ := τ) with z | z
  · exact z
  · exact z.elim
def aU (T : zTn) (s : zA) : zA := if s.1 ≠ 0 then s else if T.1 s.2.2.1 = 23 ∨ (13 ≤ T.1 s.2.2.1 ∧ T.1 s.2.2.1 < 22) then aOn T s else aFail T 1 s
theorem zrho_var {x : Int} (h0 : 0 ≤ x) (h1 : x ≤ 34) : (33 ≤ zrho x ∧ zrho x ≤ 41) ↔ (13 ≤ x ∧ x < 22) := by
  have key : ∀ b : Fin 35, (33 ≤ zrho b.val ∧ zrho b.val ≤ 41) ↔ (13 ≤ (b.val : Int) ∧ (b.val : Int) < 22) := by decide +kernel
  have q := key ⟨x.toNat, by omega⟩
  simp only at q
  rw [show ((x.toNat : Nat) : Int) = x by omega] at q
  exact q
theorem wUnit (hd : zWd a k q v nm nO) (hT : zTm T m) (hK : zTK T m) (h : zWo a k q v nm nO m T τ s) : zWo a k q v nm nO m T (F_X11_unit a τ) (aU T s) ∧ (F_X11_unit a τ).1 a 12 = τ.1 a 12 := by
  have e5 : (τ.2.2 a 5).getD 0 = k := by rw [h.1.1.1]; rfl
  have e33 : (33 : Int32).toInt = 33 := by decide
  have e41 : (41 : Int32).toInt = 41 := by decide
  have f12 : ∀ n : Int32, (F_X11_fail a n τ).1 a 12 = τ.1 a 12 := fun n => by
    unfold F_X11_fail
    simp only [zlt]
    split
    · rfl
    · show zu (zu τ.1 a 13 _) a 14 _ a 12 = _
      rw [zu_j _ _ _ _ _ (by decide), zu_j _ _ _ _ _ (by decide)]
  have go : ∀ x y : Int32, s.1 = 0 → T.1 s.2.2.1 < 33 → zWo a k q v nm nO m T (F_X11_goesOn a (F_X11_emit a x y τ)) (aOn T s) ∧ (F_X11_goesOn a (F_X11_emit a x y τ)).1 a 12 = τ.1 a 12 := fun x y c c2 => by
    have h1 := wEmit hd h x y
    exact ⟨wOn hd hT hK h1.1 (fun _ => by omega) (fun _ => c2), wOn12'.trans h1.2⟩
  unfold F_X11_unit aU
  simp only [zlt, wIs hT h 2 23 (by decide) (by decide), e5, e33, e41]
  by_cases c : s.1 = 0
  · rw [if_neg (fun z : s.1 ≠ 0 => z c)]
    obtain ⟨r1, r2, r3, r4, r5, r6, r7, r8, r9⟩ := h.2.2.2.2 c
    have ei : (τ.1 a 11).toNatClampNeg = s.2.2.1 := by rw [ztn, r2]; rfl
    have rg := hT.2.1 _ r1
    rw [ei, (h.1.2.1 _ r1).1]
    by_cases c1 : T.1 s.2.2.1 = 23
    · rw [if_neg (fun z => z ⟨c, c1⟩), if_pos (Or.inl c1)]
      exact go _ _ c (by omega)
    · rw [if_pos (fun z => c1 z.2), if_pos (h.2.1.trans c)]
      have zv := zrho_var rg.1 rg.2
      by_cases c2 : zrho (T.1 s.2.2.1) < 33
      · rw [if_pos c2, if_neg (by omega)]
        exact ⟨wFail' hd h 1 1 (by decide) (by decide), f12 1⟩
      · rw [if_neg c2]
        by_cases c3 : 41 < zrho (T.1 s.2.2.1)
        · rw [if_pos c3, if_neg (by omega)]
          exact ⟨wFail' hd h 1 1 (by decide) (by decide), f12 1⟩
        · rw [if_neg c3, if_pos (by omega)]
          exact go _ _ c (by omega)
  · rw [if_pos (fun z => c z.1), if_neg (fun z => c (h.2.1.symm.trans z)), if_pos c]
    have q := wFail' hd h 1 1 (by decide) (by decide)
    rw [aFail_f c] at q
    exact ⟨q, f12 1⟩
/-- what an expression brings from a state on: the place where the automaton stands still -/
def zGo (a k q v nm nO m : Nat) (T : zTn) (b : Bool) (o : Int) (s : zA) (τ' : zS) : Prop := ∃ s' : zA, zWo a k q v nm nO m T τ' s' ∧ (s'.1 = 0 → (τ'.1 a 12).toInt = 0) ∧ ∃ e, ∀ n, aE T (n + e) b o s = s'
theorem zGo.one {o o' : Int} {b b' : Bool} {s1 : zA} (h : zGo a k q v nm nO m T b' o' s1 τ') (e : ∀ n, aE T (n + 1) b o s = aE T n b' o' s1) : zGo a k q v nm nO m T b o s τ' := by
  obtain ⟨s', h1, h2, x, h3⟩ := h
  exact ⟨s', h1, h2, x + 1, fun n => by rw [← Nat.add_assoc, e, h3]⟩
theorem zGo.flt {o : Int} {b : Bool} (h : zWo a k q v nm nO m T τ' s) (c : s.1 ≠ 0) : zGo a k q v nm nO m T b o s τ' := ⟨s, h, fun z => absurd z c, 0, fun n => aE_f c _ _ _⟩
theorem x96 (hd : zWd a k q v nm nO) (hT : zTm T m) (hK : zTK T m) {x7 v5 : Int32} (hv5 : v5.toInt = 0) (K : Int32 → zS → zS) (K2 : zS → zS) (i0 : Nat)
    (hk : ∀ (x : Int32) (τ : zS) (s : zA) (o : Int), x.toInt ≠ 0 → zWo a k q v nm nO m T τ s → 0 ≤ o ∧ o ≤ 6 → (s.1 = 0 → (τ.1 a 12).toInt = o ∧ i0 < s.2.2.1) → zGo a k q v nm nO m T true o s (K x τ)) :
    ∀ (n : Nat) (τ : zS) (s : zA) (o : Int), zWo a k q v nm nO m T τ s → 0 ≤ o ∧ o ≤ 6 → (s.1 = 0 → (τ.1 a 12).toInt = o ∧ i0 ≤ s.2.2.1 ∧ 401 < n + s.2.2.1) → 0 < n → zGo a k q v nm nO m T false o s (F_X11_expression_96 x7 v5 a K K2 n τ) := by
  intro n
  induction n with
  | zero => intro τ s o _ _ _ h; exact absurd h (by omega)
  | succ n ih =>
    intro τ s o h ho hs _
    have c00 : ((0 : Int32).toInt = 0) = True := by decide
    have c10 : ((1 : Int32).toInt = 0) = False := by decide
    have i7 := wIs hT h 7 32 (by decide) (by decide)
    have i8 := wIs hT h 8 26 (by decide) (by decide)
    have i9 := wIs hT h 9 27 (by decide) (by decide)
    have i10 := wIs hT h 10 28 (by decide) (by decide)
    have i15 := wIs hT h 15 29 (by decide) (by decide)
    have sgn : ∀ (p x : Int32), x.toInt ≠ 0 → s.1 = 0 → 26 ≤ T.1 s.2.2.1 → T.1 s.2.2.1 ≤ 29 → ∀ (i : Nat) (y z : Int32), zGo a k q v nm nO m T false o s (K x (F_X11_goesOn a (zu (zu (F_X11_comesOut a p τ).1 (((F_X11_comesOut a p τ).2.2 a 43).getD 0) i y) a 44 z, (F_X11_comesOut a p τ).2.1, (F_X11_comesOut a p τ).2.2))) := fun p x hx c c1 c2 i y z => by
      have h1 := wComes hd h p
      have h2 := wPush hd h1.1 i y z
      have h3 := wOn hd hT hK h2.1 (fun _ => by omega) (fun _ => by omega)
      rw [← aTake_on (w := T.1 s.2.2.1) rfl] at h3
      refine zGo.one (hk x _ _ o hx h3 ho (fun z => ?_)) (fun n => by rw [aE, if_neg (zne c), if_pos ⟨c1, c2⟩])
      have qi := aTake_i z
      have q2 := hs c
      exact ⟨by rw [wOn12']; show (zu (zu _ _ _ _) a 44 _ a 12 : Int32).toInt = o; rw [h2.2, h1.2]; exact q2.1, by omega⟩
    have none : Unit → (s.1 = 0 → ¬ (26 ≤ T.1 s.2.2.1 ∧ T.1 s.2.2.1 ≤ 29)) → (s.1 = 0 → T.1 s.2.2.1 = 32 → o = 0) → zGo a k q v nm nO m T false o s (if v5.toInt < (τ.1 a 12).toInt then F_X11_comesOut a 0 (F_X11_fail a 1 τ) else F_X11_comesOut a 0 τ) := fun _ n1 n2 => by
      by_cases c : s.1 = 0
      · have q2 := hs c
        rw [hv5, q2.1]
        by_cases c2 : 0 < o
        · rw [if_pos c2]
          have h1 := wFail' hd h 1 1 (by decide) (by decide)
          have h2 := wComes hd h1 0
          refine ⟨_, h2.1, fun z => absurd z (aFail_1 (by decide)), 1, fun n => ?_⟩
          rw [aE, if_neg (zne c), if_neg (n1 c), if_pos c2, if_neg (fun z => by have := n2 c z; omega)]
        · rw [if_neg c2]
          have h2 := wComes hd h 0
          refine ⟨s, h2.1, fun _ => by rw [h2.2, q2.1]; omega, 1, fun n => ?_⟩
          rw [aE, if_neg (zne c), if_neg (n1 c), if_neg c2]
      · split
        · have h1 := wFail' hd h 1 1 (by decide) (by decide)
          rw [aFail_f c] at h1
          exact zGo.flt (wComes hd h1 0).1 c
        · exact zGo.flt (wComes hd h 0).1 c
    rw [F_X11_expression_96]
    simp only [zlt, c00, c10, if_true, if_false]
    by_cases d7 : s.1 = 0 ∧ T.1 s.2.2.1 = 32
    · have q2 := hs d7.1
      have j7 : ((F_X11_is a (7 : Int32) τ).toInt = 0) = False := by rw [i7]; simp [d7.1, d7.2]
      have j8 : ((F_X11_is a (8 : Int32) τ).toInt = 0) = True := by rw [i8]; simp [d7.1, d7.2]
      have j9 : ((F_X11_is a (9 : Int32) τ).toInt = 0) = True := by rw [i9]; simp [d7.1, d7.2]
      have j10 : ((F_X11_is a (10 : Int32) τ).toInt = 0) = True := by rw [i10]; simp [d7.1, d7.2]
      have j15 : ((F_X11_is a (15 : Int32) τ).toInt = 0) = True := by rw [i15]; simp [d7.1, d7.2]
      simp only [j7, j8, j9, j10, j15, if_true, if_false]
      rw [hv5, q2.1]
      by_cases c2 : 0 < o
      · rw [if_pos c2]
        have h1 := wComes hd h 0
        have h2 := wRow hd h1.1 44 ((F_X11_comesOut a 0 τ).1 a 44 - (1 : Int32)) (by unfold zLv; omega)
        have h3 := wRow hd h2 12 ((zu (F_X11_comesOut a 0 τ).1 a 44 ((F_X11_comesOut a 0 τ).1 a 44 - (1 : Int32))) a 12 - (1 : Int32)) (by unfold zLv; omega)
        have h4 := wOn hd hT hK h3 (fun _ => by omega) (fun _ => by omega)
        rw [← aTake_on (w := 32) d7.2] at h4
        refine zGo.one (ih _ _ (o - 1) h4 (by omega) (fun z => ?_) ?_) (fun n => by rw [aE, if_neg (zne d7.1), if_neg (by omega), if_pos c2, if_pos d7.2])
        · have qi := aTake_i z
          have e1 : (1 : Int32).toInt = 1 := by decide
          refine ⟨?_, by omega, by omega⟩
          rw [wOn12']
          show (zu (zu (F_X11_comesOut a 0 τ).1 a 44 _) a 12 _ a 12).toInt = _
          rw [zu_s, zu_j _ _ _ _ _ (by decide), h1.2, zb_sub (by rw [q2.1, e1]; omega) (by rw [q2.1, e1]; omega), q2.1, e1]
        · have := (h.2.2.2.2 d7.1).1
          have := hK.2.1
          omega
      · rw [if_neg c2]
        have := none () (fun _ => by omega) (fun _ _ => by omega)
        rw [hv5, q2.1] at this
        exact this
    · have j7 : ((F_X11_is a (7 : Int32) τ).toInt = 0) = True := by rw [i7]; simp [d7]
      simp only [j7, if_true]
      by_cases d8 : s.1 = 0 ∧ T.1 s.2.2.1 = 26
      · have j8 : ((F_X11_is a (8 : Int32) τ).toInt = 0) = False := by rw [i8]; simp [d8.1, d8.2]
        have j10 : ((F_X11_is a (10 : Int32) τ).toInt = 0) = True := by rw [i10]; simp [d8.1, d8.2]
        have j15 : ((F_X11_is a (15 : Int32) τ).toInt = 0) = True := by rw [i15]; simp [d8.1, d8.2]
        simp only [j8, j10, j15, if_true, if_false]
        exact sgn 0 1 (by decide) d8.1 (by omega) (by omega) _ _ _
      have j8 : ((F_X11_is a (8 : Int32) τ).toInt = 0) = True := by rw [i8]; simp [d8]
      simp only [j8, if_true]
      by_cases d9 : s.1 = 0 ∧ T.1 s.2.2.1 = 27
      · have j9 : ((F_X11_is a (9 : Int32) τ).toInt = 0) = False := by rw [i9]; simp [d9.1, d9.2]
        have j10 : ((F_X11_is a (10 : Int32) τ).toInt = 0) = True := by rw [i10]; simp [d9.1, d9.2]
        have j15 : ((F_X11_is a (15 : Int32) τ).toInt = 0) = True := by rw [i15]; simp [d9.1, d9.2]
        simp only [j9, j10, j15, if_true, if_false]
        exact sgn 0 1 (by decide) d9.1 (by omega) (by omega) _ _ _
      have j9 : ((F_X11_is a (9 : Int32) τ).toInt = 0) = True := by rw [i9]; simp [d9]
      simp only [j9, if_true]
      by_cases d10 : s.1 = 0 ∧ T.1 s.2.2.1 = 28
      · have j10 : ((F_X11_is a (10 : Int32) τ).toInt = 0) = False := by rw [i10]; simp [d10.1, d10.2]
        simp only [j10, if_false]
        exact sgn 1 1 (by decide) d10.1 (by omega) (by omega) _ _ _
      have j10 : ((F_X11_is a (10 : Int32) τ).toInt = 0) = True := by rw [i10]; simp [d10]
      simp only [j10, if_true]
      by_cases d15 : s.1 = 0 ∧ T.1 s.2.2.1 = 29
      · have j15 : ((F_X11_is a (15 : Int32) τ).toInt = 0) = False := by rw [i15]; simp [d15.1, d15.2]
        simp only [j15, if_false]
        exact sgn 1 1 (by decide) d15.1 (by omega) (by omega) _ _ _
      have j15 : ((F_X11_is a (15 : Int32) τ).toInt = 0) = True := by rw [i15]; simp [d15]
      simp only [j15, if_true]
      exact none () (fun z => by omega) (fun z1 z2 => absurd ⟨z1, z2⟩ d7)
end ZW3
end
-- 35n.pure14
section
section ZW4
variable {a k q v nm nO m : Nat} {T : zTn} {β : Int} {τ τ' : zS} {s s' : zA}
theorem wFail12 (n : Int32) : (F_X11_fail a n τ).1 a 12 = τ.1 a 12 := by
  unfold F_X11_fail
  simp only [zlt]
  split
  · rfl
  · show zu (zu τ.1 a 13 _) a 14 _ a 12 = _
    rw [zu_j _ _ _ _ _ (by decide), zu_j _ _ _ _ _ (by decide)]
theorem wMust12 (n : Int32) : (F_X11_must a n τ).1 a 12 = τ.1 a 12 := by
  unfold F_X11_must
  simp only [zlt]
  split
  · exact wFail12 1
  · exact wOn12'
theorem aOn_f (c : s.1 ≠ 0) : aOn T s = s := if_pos c
theorem aOn_t {w : Int} (h : s.1 = 0 → T.1 s.2.2.1 = w) : aOn T s = aTake T w s := by
  by_cases c : s.1 = 0
  · exact (aTake_on (h c)).symm
  · rw [aOn_f c, aTake_f c]
theorem aU_i (h : (aU T s).1 = 0) : s.1 = 0 ∧ (aU T s).2.2.1 = s.2.2.1 + 1 := by
  have c : s.1 = 0 := Classical.byContradiction (fun z => by
    unfold aU at h
    rw [if_pos z] at h
    exact z h)
  unfold aU at h ⊢
  rw [if_neg (zne c)] at h ⊢
  by_cases c1 : T.1 s.2.2.1 = 23 ∨ (13 ≤ T.1 s.2.2.1 ∧ T.1 s.2.2.1 < 22)
  · rw [if_pos c1] at h ⊢
    rw [aOn_t (w := T.1 s.2.2.1) (fun _ => rfl)] at h ⊢
    have qi := aTake_i h
    exact ⟨c, qi.2.2.1⟩
  · rw [if_neg c1] at h
    exact absurd h (aFail_1 (by decide))
theorem aU_e (o : Int) (c : ¬ (s.1 = 0 ∧ T.1 s.2.2.1 = 31)) (n : Nat) : aE T (n + 1) true o s = aE T n false o (aU T s) := by
  by_cases c0 : s.1 = 0
  · rw [aE, if_neg (zne c0)]
    unfold aU
    rw [if_neg (zne c0)]
    by_cases c1 : T.1 s.2.2.1 = 23 ∨ (13 ≤ T.1 s.2.2.1 ∧ T.1 s.2.2.1 < 22)
    · rw [if_pos c1, if_pos c1, aOn_t (w := T.1 s.2.2.1) (fun _ => rfl)]
    · rw [if_neg c1, if_neg c1, if_neg (fun z => c ⟨c0, z.1⟩), if_neg (fun z => c ⟨c0, z⟩), aE_f (aFail_1 (by decide))]
  · have e : aU T s = s := by
      unfold aU
      rw [if_pos c0]
    rw [e, aE_f c0, aE_f c0]
theorem x23 (hd : zWd a k q v nm nO) (hT : zTm T m) (hK : zTK T m) {x7 v5 : Int32} (hv5 : v5.toInt = 0) (K : Int32 → zS → zS) (i0 : Nat)
    (hk : ∀ (x : Int32) (τ : zS) (s : zA) (o : Int), x.toInt ≠ 0 → zWo a k q v nm nO m T τ s → 0 ≤ o ∧ o ≤ 6 → (s.1 = 0 → (τ.1 a 12).toInt = o ∧ i0 < s.2.2.1) → zGo a k q v nm nO m T true o s (K x τ)) :
    ∀ (n : Nat) (τ : zS) (s : zA) (o : Int), zWo a k q v nm nO m T τ s → 0 ≤ o ∧ o ≤ 6 → (s.1 = 0 → (τ.1 a 12).toInt = o ∧ i0 ≤ s.2.2.1 ∧ 401 < n + s.2.2.1) → 0 < n → zGo a k q v nm nO m T true o s (F_X11_expression_23 x7 v5 a K n τ) := by
  intro n
  induction n with
  | zero => intro τ s o _ _ _ h; exact absurd h (by omega)
  | succ n ih =>
    intro τ s o h ho hs _
    have e6 : (6 : Int32).toInt = 6 := by decide
    have e1 : (1 : Int32).toInt = 1 := by decide
    rw [F_X11_expression_23]
    simp only [zlt, wIs hT h 6 31 (by decide) (by decide), e6]
    by_cases c : s.1 = 0 ∧ T.1 s.2.2.1 = 31
    · have q2 := hs c.1
      have rm := (h.2.2.2.2 c.1).1
      have rk := hK.2.1
      have nz : 0 < n := by omega
      rw [if_neg (fun z => z c), q2.1]
      by_cases c2 : o = 6
      · rw [if_pos c2]
        have h1 := wFail' hd h 2 2 (by decide) (by decide)
        have f : (aFail T 2 s).1 ≠ 0 := aFail_1 (by decide)
        have fin : ∀ x z y : Int32, ∀ i : Nat, zGo a k q v nm nO m T true o (aFail T 2 s) (F_X11_expression_23 x7 v5 a K n (zu (zu (F_X11_goesOn a (zu (F_X11_fail a 2 τ).1 a 12 x, (F_X11_fail a 2 τ).2.1, (F_X11_fail a 2 τ).2.2)).1 (((F_X11_goesOn a (zu (F_X11_fail a 2 τ).1 a 12 x, (F_X11_fail a 2 τ).2.1, (F_X11_fail a 2 τ).2.2)).2.2 a 43).getD 0) i y) a 44 z, (F_X11_goesOn a (zu (F_X11_fail a 2 τ).1 a 12 x, (F_X11_fail a 2 τ).2.1, (F_X11_fail a 2 τ).2.2)).2.1, (F_X11_goesOn a (zu (F_X11_fail a 2 τ).1 a 12 x, (F_X11_fail a 2 τ).2.1, (F_X11_fail a 2 τ).2.2)).2.2)) := fun x z y i => by
          have h2 := wRow hd h1 12 x (by unfold zLv; omega)
          have h3 := wOn hd hT hK h2 (fun z => absurd z f) (fun z => absurd z f)
          rw [aOn_f f] at h3
          have h4 := wPush hd h3 i y z
          exact ih _ _ o h4.1 ho (fun z => absurd z f) nz
        exact zGo.one (fin _ _ _ _) (fun n => by rw [aE, if_neg (zne c.1), if_neg (by omega), if_neg (by omega), if_pos c.2, aE_f f])
      · rw [if_neg c2]
        have fin : ∀ z y : Int32, ∀ i : Nat, zGo a k q v nm nO m T true (o + 1) (aTake T 31 s) (F_X11_expression_23 x7 v5 a K n (zu (zu (F_X11_goesOn a (zu τ.1 a 12 (τ.1 a 12 + (1 : Int32)), τ.2.1, τ.2.2)).1 (((F_X11_goesOn a (zu τ.1 a 12 (τ.1 a 12 + (1 : Int32)), τ.2.1, τ.2.2)).2.2 a 43).getD 0) i y) a 44 z, (F_X11_goesOn a (zu τ.1 a 12 (τ.1 a 12 + (1 : Int32)), τ.2.1, τ.2.2)).2.1, (F_X11_goesOn a (zu τ.1 a 12 (τ.1 a 12 + (1 : Int32)), τ.2.1, τ.2.2)).2.2)) := fun z y i => by
          have h2 := wRow hd h 12 (τ.1 a 12 + (1 : Int32)) (by unfold zLv; omega)
          have h3 := wOn hd hT hK h2 (fun _ => by omega) (fun _ => by omega)
          rw [aOn_t (w := 31) (fun _ => c.2)] at h3
          have h4 := wPush hd h3 i y z
          refine ih _ _ (o + 1) h4.1 (by omega) (fun w => ?_) nz
          have qi := aTake_i w
          refine ⟨?_, by omega, by omega⟩
          show (zu (zu _ _ _ _) a 44 _ a 12 : Int32).toInt = _
          rw [h4.2, wOn12']
          show (zu τ.1 a 12 _ a 12).toInt = _
          rw [zu_s, zb_add (by rw [q2.1, e1]; omega) (by rw [q2.1, e1]; omega), q2.1, e1]
        exact zGo.one (fin _ _ _) (fun n => by rw [aE, if_neg (zne c.1), if_neg (by omega), if_pos (by omega)])
    · rw [if_pos c]
      have h1 := wUnit hd hT hK h
      have f1 := h1.1.2.1
      have g1 := h1.1.2.2.1
      refine zGo.one (b' := false) (o' := o) (s1 := aU T s) ?_ (aU_e o c)
      by_cases c3 : (aU T s).1 = 0
      · rw [if_neg (by omega)]
        refine x96 hd hT hK hv5 K _ i0 hk 10000 _ _ o h1.1 ho (fun z => ?_) (by omega)
        have qi := aU_i z
        have q2 := hs qi.1
        exact ⟨by rw [h1.2]; exact q2.1, by omega, by omega⟩
      · rw [if_pos (by omega)]
        exact zGo.flt h1.1 c3
theorem x12 (hd : zWd a k q v nm nO) (hT : zTm T m) (hK : zTK T m) {v5 : Int32} (hv5 : v5.toInt = 0) :
    ∀ (n : Nat) (x : Int32) (τ : zS) (s : zA) (o : Int), x.toInt ≠ 0 → zWo a k q v nm nO m T τ s → 0 ≤ o ∧ o ≤ 6 → (s.1 = 0 → (τ.1 a 12).toInt = o ∧ 401 < n + s.2.2.1) → 0 < n → zGo a k q v nm nO m T true o s (F_X11_expression_12 v5 a n x τ) := by
  intro n
  induction n with
  | zero => intro x τ s o _ _ _ _ h; exact absurd h (by omega)
  | succ n ih =>
    intro x τ s o hx h ho hs _
    rw [F_X11_expression_12]
    simp only [zlt]
    rw [if_neg hx, h.2.1]
    by_cases c : s.1 = 0
    · rw [if_pos c]
      have q2 := hs c
      have rm := (h.2.2.2.2 c).1
      have rk := hK.2.1
      exact x23 hd hT hK hv5 _ s.2.2.1 (fun x' τ' s' o' hx' h' ho' hs' => ih x' τ' s' o' hx' h' ho' (fun z => ⟨(hs' z).1, by have := (hs' z).2; omega⟩) (by omega)) 10000 τ s o h ho (fun z => ⟨q2.1, by omega, by omega⟩) (by omega)
    · rw [if_neg c]
      exact zGo.flt h c
/-- with no bracket open -/
abbrev zXo (a k q v nm nO m : Nat) (T : zTn) (τ : zS) (s : zA) : Prop := zWo a k q v nm nO m T τ s ∧ (s.1 = 0 → (τ.1 a 12).toInt = 0)
theorem xRow (hd : zWd a k q v nm nO) (h : zXo a k q v nm nO m T τ s) (j : Nat) (x : Int32) (hj : ¬ zLv j) (h12 : ¬ j = 12) : zXo a k q v nm nO m T (zu τ.1 a j x, τ.2.1, τ.2.2) s := ⟨wRow hd h.1 j x hj, fun z => by
  show (zu τ.1 a j x a 12).toInt = 0
  rw [zu_j _ _ _ _ _ h12]
  exact h.2 z⟩
theorem xArr (h : zXo a k q v nm nO m T τ s) (j i : Nat) (x : Int32) (hj : zQs j) : zXo a k q v nm nO m T (zu τ.1 ((τ.2.2 a j).getD 0) i x, τ.2.1, τ.2.2) s := ⟨wArr h.1 j i x hj, fun z => by
  show (zu τ.1 _ i x a 12).toInt = 0
  rw [zu_n _ _ _ (fun y => zQ1 h.1 j hj y.symm)]
  exact h.2 z⟩
theorem xFail (hd : zWd a k q v nm nO) (h : zXo a k q v nm nO m T τ s) (n : Int32) (i : Int) (e : n.toInt = i) (hn : 0 < i) : zXo a k q v nm nO m T (F_X11_fail a n τ) (aFail T i s) := ⟨wFail' hd h.1 n i e hn, fun z => absurd z (aFail_1 (by omega))⟩
theorem xOn (hd : zWd a k q v nm nO) (hT : zTm T m) (hK : zTK T m) (h : zXo a k q v nm nO m T τ s) (w : Int) (hw : s.1 = 0 → T.1 s.2.2.1 = w) (h33 : w < 33) : zXo a k q v nm nO m T (F_X11_goesOn a τ) (aTake T w s) := by
  have h1 := wOn hd hT hK h.1 (fun _ => by omega) (fun z => by rw [hw z]; exact h33)
  rw [aOn_t hw] at h1
  exact ⟨h1, fun z => by rw [wOn12']; exact h.2 (aTake_z z)⟩
theorem xMust (hd : zWd a k q v nm nO) (hT : zTm T m) (hK : zTK T m) (h : zXo a k q v nm nO m T τ s) (x : Int32) (w : Int) (hw : 0 ≤ w ∧ w < 33) (hx : x.toInt = zrho w) : zXo a k q v nm nO m T (F_X11_must a x τ) (aTake T w s) :=
  ⟨wMust hd hT hK h.1 x w hw hx, fun z => by rw [wMust12]; exact h.2 (aTake_z z)⟩
theorem xExpr (hd : zWd a k q v nm nO) (hT : zTm T m) (hK : zTK T m) (h : zXo a k q v nm nO m T τ s) : zXo a k q v nm nO m T (F_X11_expression a τ) (aSum T s) := by
  have h1 := xRow hd h 44 0 (by unfold zLv; omega) (by decide)
  have e12 : zu τ.1 a 44 (0 : Int32) a 12 = τ.1 a 12 := zu_j _ _ _ _ _ (by decide)
  unfold F_X11_expression
  simp only [zlt]
  rw [e12]
  by_cases c : s.1 = 0
  · obtain ⟨s', u1, u2, e, u3⟩ := x12 hd hT hK (h.2 c) 10000 1 _ s 0 (by decide) h1.1 (by omega) (fun z => ⟨h1.2 z, by omega⟩) (by omega)
    have q := u3 500
    have rm := (h.1.2.2.2.2 c).1
    have rk := hK.2.1
    have q2 : aSum T s = s' := (aE_st 500 (500 + e) true 0 s (fun z => by omega)).trans q
    rw [q2]
    exact ⟨u1, u2⟩
  · rw [aSum_f c]
    have f : ∀ n, F_X11_expression_12 (τ.1 a 12) a (n + 1) 1 (zu τ.1 a 44 0, τ.2.1, τ.2.2) = (zu τ.1 a 44 0, τ.2.1, τ.2.2) := fun n => by
      rw [F_X11_expression_12]
      simp only [zlt]
      have c13 : ¬ (zu τ.1 a 44 (0 : Int32) a 13).toInt = 0 := fun z => c (h1.1.2.1.symm.trans z)
      rw [if_neg (by decide), if_neg c13]
    rw [f 9999]
    exact h1
theorem xTerm (hd : zWd a k q v nm nO) (hT : zTm T m) (hK : zTK T m) (h : zXo a k q v nm nO m T τ s) : zXo a k q v nm nO m T (F_X11_term a τ) (aSum T s) := by
  have q36 : zQs 36 := by unfold zQs; omega
  have q37 : zQs 37 := by unfold zQs; omega
  have h1 := xArr h 36 (τ.1 a 32).toNatClampNeg (τ.1 a 38) q36
  unfold F_X11_term
  simp only [zlt]
  split
  · exact xRow hd (xArr (xExpr hd hT hK h1) 37 _ _ q37) 32 _ (by unfold zLv; omega) (by decide)
  · next z =>
    have c : s.1 ≠ 0 := fun y => z (h1.1.2.1.trans y)
    rw [aSum_f c]
    exact xRow hd (xArr h1 37 _ _ q37) 32 _ (by unfold zLv; omega) (by decide)
theorem aLw_f (c : s.1 ≠ 0) (n : Nat) (x : Int) : aLw T n x s = s := by
  cases n with
  | zero => rfl
  | succ n => rw [aLw, if_neg (fun z => c z.2.1), aSum_f c]
theorem aIf_4 : aIf T 4 s = aFail T 2 s := by
  have f : (aFail T 2 s).1 ≠ 0 := aFail_1 (by decide)
  unfold aIf
  rw [if_pos rfl, aTake_f f, aSum_f f, aTake_f f, aSum_f f, aTake_f f, aSum_f f, aTake_f f]
theorem xLaw_l (hd : zWd a k q v nm nO) (hT : zTm T m) (hK : zTK T m) {v4 p1 : Int32} : ∀ (n : Nat) (x : Int32) (j : Nat) (τ : zS) (s : zA), x.toInt = j → j ≤ 4 → 4 - j < n → zXo a k q v nm nO m T τ s → ∀ l, 5 - j < l → zXo a k q v nm nO m T (F_X11_tellLaw_12 v4 a p1 n x τ) (aTake T 24 (aLw T l j s)) := by
  intro n
  induction n with
  | zero => intro x j τ s _ _ h; exact absurd h (by omega)
  | succ n ih =>
    intro x j τ s hx hj hm h l hl
    obtain ⟨l, rfl⟩ : ∃ q, l = q + 1 := ⟨l - 1, by omega⟩
    have e4 : (4 : Int32).toInt = 4 := by decide
    have q30 : zQs 30 := by unfold zQs; omega
    have q31 : zQs 31 := by unfold zQs; omega
    have q33 : zQs 33 := by unfold zQs; omega
    have q34 : zQs 34 := by unfold zQs; omega
    have q35 : zQs 35 := by unfold zQs; omega
    have t : ∀ (i : Nat) (x : Int32), zXo a k q v nm nO m T (F_X11_must a 4 (F_X11_term a (zu τ.1 ((τ.2.2 a 33).getD 0) i x, τ.2.1, τ.2.2))) (aTake T 24 (aSum T s)) := fun i x => xMust hd hT hK (xTerm hd hT hK (xArr h 33 i x q33)) 4 24 (by decide) (by decide)
    rw [F_X11_tellLaw_12]
    simp only [zlt, wIs hT h.1 30 10 (by decide) (by decide), e4]
    by_cases c : s.1 = 0
    · rw [if_pos (h.1.2.1.trans c)]
      by_cases c1 : T.1 s.2.2.1 = 10
      · rw [if_neg (fun z => z ⟨c, c1⟩)]
        have ek : aLw T (l + 1) j s = aLw T l ((j : Int) + 1) (aIf T j s) := by rw [aLw, if_pos ⟨by omega, c, c1⟩]
        rw [ek]
        by_cases c2 : x.toInt = 4
        · rw [if_pos c2]
          have ej : (j : Int) = 4 := by omega
          have f : (aFail T 2 s).1 ≠ 0 := aFail_1 (by decide)
          rw [ej, aIf_4, aLw_f f, aTake_f f]
          have hf := xFail hd h 2 2 (by decide) (by decide)
          split <;> exact hf
        · rw [if_neg c2, if_neg (by rw [h.1.2.1]; omega)]
          have ei : aIf T j s = aTake T 12 (aSum T (aTake T 11 (aSum T (aTake T 30 (aSum T (aTake T 10 s)))))) := by
            unfold aIf
            rw [if_neg (by omega)]
          rw [ei]
          have rest : ∀ (τ1 : zS) (s1 : zA), zXo a k q v nm nO m T τ1 s1 → zXo a k q v nm nO m T (F_X11_tellLaw_12 v4 a p1 n (x + (1 : Int32)) (F_X11_must a 32 (F_X11_term a (F_X11_must a 31 τ1)))) (aTake T 24 (aLw T l ((j : Int) + 1) (aTake T 12 (aSum T (aTake T 11 s1))))) := fun τ1 s1 h1 => ih (x + (1 : Int32)) (j + 1) _ _ (zp1 hx (by omega)) (by omega) (by omega) (xMust hd hT hK (xTerm hd hT hK (xMust hd hT hK h1 31 11 (by decide) (by decide))) 32 12 (by decide) (by decide)) l (by omega)
          have a5 := fun (i1 i2 i3 : Nat) (y1 y2 y3 : Int32) => xArr (xMust hd hT hK (xExpr hd hT hK (xArr (xArr (xOn hd hT hK h 10 (fun _ => c1) (by decide)) 33 i1 y1 q33) 34 i2 y2 q34)) 13 30 (by decide) (by decide)) 35 i3 y3 q35
          split
          · exact rest _ _ (xExpr hd hT hK (a5 _ _ _ _ _ _))
          · next z =>
            have f : (aTake T 30 (aSum T (aTake T 10 s))).1 ≠ 0 := fun y => z ((a5 _ _ _ _ _ _).1.2.1.trans y)
            rw [aSum_f f]
            exact rest _ _ (a5 _ _ _ _ _ _)
      · rw [if_pos (fun z => c1 z.2)]
        have ek : aLw T (l + 1) j s = aSum T s := by rw [aLw, if_neg (fun z => c1 z.2.2)]
        rw [ek]
        split
        · exact t _ _
        · exact xArr (xArr (t _ _) 30 _ _ q30) 31 _ _ q31
    · rw [if_neg (fun z => c (h.1.2.1.symm.trans z))]
      have ek : aLw T (l + 1) j s = aSum T s := by rw [aLw, if_neg (fun z => c z.2.1)]
      rw [ek]
      split <;> exact t _ _
theorem xLaw (hd : zWd a k q v nm nO) (hT : zTm T m) (hK : zTK T m) (h : zXo a k q v nm nO m T τ s) (p : Int32) : zXo a k q v nm nO m T (F_X11_tellLaw a p τ) (aTake T 24 (aLw T 10 0 (aTake T 25 s))) := by
  unfold F_X11_tellLaw
  simp only [zlt]
  exact xLaw_l hd hT hK 10000 0 0 _ _ (by decide) (by omega) (by omega) (xMust hd hT hK h 5 25 (by decide) (by decide)) 10 (by omega)
end ZW4
end
-- 35o.pure15
section
/-! ONE TELLING; the whole text -/
def aTell (T : zTn) (s : zA) : zA := aTake T 24 (if T.1 s.2.2.1 = 0 then aMouth T s else if T.1 s.2.2.1 = 1 then aPlace T s else if 2 ≤ T.1 s.2.2.1 ∧ T.1 s.2.2.1 ≤ 6 then aLaw T (T.1 s.2.2.1 - 2) s else if T.1 s.2.2.1 = 7 then aNumb T 0 99 (aNumb T 0 100 (aTake T 7 s)) else if T.1 s.2.2.1 = 8 then aNumb T 0 99 (aTake T 8 s) else if T.1 s.2.2.1 = 9 then aNumb T 0 9999 (aTake T 9 s) else aFail T 1 s)
def aRun (T : zTn) : Nat → zA → zA
  | 0, s => s
  | n + 1, s => if s.1 ≠ 0 then s else if T.1 s.2.2.1 = 33 then s else aRun T n (aTell T s)
def aAns (s : zA) : Int := if s.1 ≠ 0 then s.1 else s.2.2.2.1
def aPos (s : zA) : Int := if s.1 ≠ 0 then s.2.1 else s.2.2.2.2.1
section AM
variable {T : zTn} {s : zA}
theorem mFail (n : Int) : s.2.2.1 ≤ (aFail T n s).2.2.1 := by
  unfold aFail
  split <;> exact Nat.le_refl _
theorem mTake (w : Int) : s.2.2.1 ≤ (aTake T w s).2.2.1 := by
  unfold aTake
  split
  · exact Nat.le_refl _
  · split
    · exact mFail _
    · split
      · exact mFail _
      · exact Nat.le_succ _
theorem mLate (n : Int) : s.2.2.1 ≤ (aLate T n s).2.2.1 := by rw [(aLate_s n).2.2]; exact Nat.le_refl _
theorem mNew : s.2.2.1 ≤ (aNew T s).2.2.1 := by
  unfold aNew
  split
  · exact Nat.le_trans (mLate 3) (mTake _)
  · exact mTake _
theorem mKnown : s.2.2.1 ≤ (aKnown T s).2.2.1 := by
  unfold aKnown
  split
  · exact Nat.le_trans (mLate 4) (mTake _)
  · exact mTake _
theorem mNumb (lo hi : Int) : s.2.2.1 ≤ (aNumb T lo hi s).2.2.1 := by
  unfold aNumb
  split
  · exact Nat.le_trans (mLate 5) (mTake _)
  · exact mTake _
theorem mE : ∀ (n : Nat) (b : Bool) (o : Int) (s : zA), s.2.2.1 ≤ (aE T n b o s).2.2.1 := by
  intro n
  induction n with
  | zero => intro b o s; rw [aE]; exact Nat.le_refl _
  | succ n ih =>
    intro b o s
    cases b with
    | true =>
      rw [aE]
      split
      · exact Nat.le_refl _
      · split
        · exact Nat.le_trans (mTake _) (ih _ _ _)
        · split
          · exact Nat.le_trans (mTake _) (ih _ _ _)
          · exact mFail _
    | false =>
      rw [aE]
      split
      · exact Nat.le_refl _
      · split
        · exact Nat.le_trans (mTake _) (ih _ _ _)
        · split
          · split
            · exact Nat.le_trans (mTake _) (ih _ _ _)
            · exact mFail _
          · exact Nat.le_refl _
theorem mSum : s.2.2.1 ≤ (aSum T s).2.2.1 := mE _ _ _ _
theorem mIf (n : Int) : s.2.2.1 ≤ (aIf T n s).2.2.1 := by
  unfold aIf
  have h : s.2.2.1 ≤ (if n = 4 then aFail T 2 s else s).2.2.1 := by
    split
    · exact mFail _
    · exact Nat.le_refl _
  exact Nat.le_trans h (Nat.le_trans (mTake 10) (Nat.le_trans mSum (Nat.le_trans (mTake 30) (Nat.le_trans mSum (Nat.le_trans (mTake 11) (Nat.le_trans mSum (mTake 12)))))))
theorem mLw : ∀ (k : Nat) (n : Int) (s : zA), s.2.2.1 ≤ (aLw T k n s).2.2.1 := by
  intro k
  induction k with
  | zero => intro n s; exact Nat.le_refl _
  | succ k ih =>
    intro n s
    rw [aLw]
    split
    · exact Nat.le_trans (mIf n) (ih _ _)
    · exact mSum
theorem mMouth : s.2.2.1 ≤ (aMouth T s).2.2.1 := by
  have h : s.2.2.1 ≤ (if s.2.2.2.2.2.1 ≠ 0 then aFail T 2 s else s).2.2.1 := by
    split
    · exact mFail _
    · exact Nat.le_refl _
  have k : ∀ s0 : zA, s.2.2.1 ≤ s0.2.2.1 → s.2.2.1 ≤ (if (aNew T (aTake T 0 s0)).1 = 0 then aSetM (aNew T (aTake T 0 s0)) (T.2.1 (aTake T 0 s0).2.2.1) else aNew T (aTake T 0 s0)).2.2.1 := fun s0 h0 => by
    have h2 := Nat.le_trans h0 (Nat.le_trans (mTake (T := T) 0) (mNew (T := T)))
    split
    · exact h2
    · exact h2
  unfold aMouth
  exact k _ h
theorem mPlace : s.2.2.1 ≤ (aPlace T s).2.2.1 := by
  have h : s.2.2.1 ≤ (if 11 ≤ s.2.2.2.2.2.2.1 then aFail T 2 s else s).2.2.1 := by
    split
    · exact mFail _
    · exact Nat.le_refl _
  have h2 : s.2.2.1 ≤ (aPlace2 T (aPlace1 T s)).2.2.1 := Nat.le_trans h (Nat.le_trans (mTake (T := T) 1) (Nat.le_trans mNew (Nat.le_trans mKnown (Nat.le_trans (mNumb 1 99) (Nat.le_trans (mNumb 0 99) (mNumb 0 99))))))
  unfold aPlace
  split
  · exact h2
  · exact h2
theorem aTell_i (h : (aTell T s).1 = 0) : s.2.2.1 < (aTell T s).2.2.1 := by
  unfold aTell at h ⊢
  have q := aTake_i h
  rw [q.2.2.1]
  refine Nat.lt_succ_of_le ?_
  split
  · exact mMouth
  · split
    · exact mPlace
    · split
      · exact Nat.le_trans (mTake _) (Nat.le_trans (mTake _) (mLw _ _ _))
      · split
        · exact Nat.le_trans (mTake _) (Nat.le_trans (mNumb _ _) (mNumb _ _))
        · split
          · exact Nat.le_trans (mTake _) (mNumb _ _)
          · split
            · exact Nat.le_trans (mTake _) (mNumb _ _)
            · exact mFail _
end AM
section ZV5
variable {P tk kA vA qA tt N m : Nat} {T : zTn} {σ σ' : zS} {s : zA}
theorem vNumb' (hd : zVd P tk kA vA qA N) (hT : zTK T m) (h : zV P tk kA vA qA tt N m T σ s) (lo hi : Int32) (l u : Int) (e1 : lo.toInt = l) (e2 : hi.toInt = u) : ∃ x : Int32, ∃ σ' : zS, F_X3_number P lo hi σ = (x, σ') ∧ zV P tk kA vA qA tt N m T σ' (aNumb T l u s) := by
  subst e1 e2
  exact vNumb hd hT h lo hi
theorem vTell (hd : zVd P tk kA vA qA N) (hT : zTK T m) (h : zV P tk kA vA qA tt N m T σ s) (hs : s.1 = 0) : zV P tk kA vA qA tt N m T (F_X3_telling P σ) (aTell T s) := by
  have r3 := (h.2.2.2 hs).2.2.1
  have e1 : (1 : Int32).toInt = 1 := by decide
  have e2 : (2 : Int32).toInt = 2 := by decide
  have e6 : (6 : Int32).toInt = 6 := by decide
  have e7 : (7 : Int32).toInt = 7 := by decide
  have e8 : (8 : Int32).toInt = 8 := by decide
  have e9 : (9 : Int32).toInt = 9 := by decide
  have end24 : ∀ (τ : zS) (s1 : zA), zV P tk kA vA qA tt N m T τ s1 → zV P tk kA vA qA tt N m T (F_X3_take P 24 τ) (aTake T 24 s1) := fun τ s1 h1 => vTake' hd hT h1 24 24 (by decide) (by decide)
  unfold F_X3_telling aTell
  simp only [zlt, zlt2, zwi, r3, e1, e2, e6, e7, e8, e9]
  by_cases c0 : T.1 s.2.2.1 = 0
  · rw [if_pos c0, if_pos c0]
    exact end24 _ _ (vMouth hd hT h hs)
  rw [if_neg c0, if_neg c0]
  by_cases c1 : T.1 s.2.2.1 = 1
  · rw [if_pos c1, if_pos c1]
    exact end24 _ _ (vPlace hd hT h hs)
  rw [if_neg c1, if_neg c1]
  by_cases c2 : 2 ≤ T.1 s.2.2.1 ∧ T.1 s.2.2.1 ≤ 6
  · rw [if_neg (fun z => z c2), if_pos c2]
    have e : (σ.1 P 3 - (2 : Int32)).toInt = T.1 s.2.2.1 - 2 := by rw [zb_sub (by rw [r3, e2]; omega) (by rw [r3, e2]; omega), r3, e2]
    have q := vLaw hd hT h (σ.1 P 3 - (2 : Int32)) (by rw [e]; omega)
    rw [e] at q
    exact end24 _ _ q
  rw [if_pos c2, if_neg c2]
  by_cases c7 : T.1 s.2.2.1 = 7
  · rw [if_pos c7, if_pos c7]
    have a1 := vTake' hd hT h (σ.1 P 3) 7 (r3.trans c7) (by decide)
    have t1 := vtt a1
    obtain ⟨x, σ1, p1, p2⟩ := vNumb' hd hT a1 0 100 0 100 (by decide) (by decide)
    have t2 : (σ1.2.2 P 1).getD 0 = tt := vtt p2
    obtain ⟨x2, σ2, q1, q2⟩ := vNumb' hd hT (vPutT p2 10 x) 0 99 0 99 (by decide) (by decide)
    simp only [t1, p1, t2, q1]
    exact end24 _ _ (vPutT q2 11 x2)
  rw [if_neg c7, if_neg c7]
  by_cases c8 : T.1 s.2.2.1 = 8
  · rw [if_pos c8, if_pos c8]
    have a1 := vTake' hd hT h (σ.1 P 3) 8 (r3.trans c8) (by decide)
    have t1 := vtt a1
    obtain ⟨x, σ1, p1, p2⟩ := vNumb' hd hT a1 0 99 0 99 (by decide) (by decide)
    simp only [t1, p1]
    exact end24 _ _ (vPutT p2 12 x)
  rw [if_neg c8, if_neg c8]
  by_cases c9 : T.1 s.2.2.1 = 9
  · rw [if_pos c9, if_pos c9]
    have a1 := vTake' hd hT h (σ.1 P 3) 9 (r3.trans c9) (by decide)
    have t1 := vtt a1
    obtain ⟨x, σ1, p1, p2⟩ := vNumb' hd hT a1 0 9999 0 9999 (by decide) (by decide)
    simp only [t1, p1]
    exact end24 _ _ (vPutT p2 13 x)
  rw [if_neg c9, if_neg c9]
  exact end24 _ _ (vFail' hd h 1 1 (by decide) (by decide))
/-- the parser's loop: its answer, and the place -/
theorem vParse (hd : zVd P tk kA vA qA N) (hT : zTK T m) {p1 p3 : Nat} {p2 : Int32} : ∀ (n : Nat) (x : Int32) (j : Nat) (τ : zS) (s : zA), x.toInt = j → j ≤ 401 → 401 - j < n → zV P tk kA vA qA tt N m T τ s → (s.1 = 0 → j ≤ s.2.2.1) → ∀ l, 401 - j < l → (F_X3_parse_59 P p1 p2 p3 n x τ).1.toInt = aAns (aRun T l s) ∧ ((F_X3_parse_59 P p1 p2 p3 n x τ).2.1 P 9).toInt = aPos (aRun T l s) := by
  intro n
  induction n with
  | zero => intro x j τ s _ _ h; exact absurd h (by omega)
  | succ n ih =>
    intro x j τ s hx hj hm h hz l hl
    obtain ⟨l, rfl⟩ : ∃ q, l = q + 1 := ⟨l - 1, by omega⟩
    have e400 : (400 : Int32).toInt = 400 := by decide
    have e33 : (33 : Int32).toInt = 33 := by decide
    have t0 := vtt h
    have tP : tt ≠ P := h.1.2.2.2.1.1
    rw [F_X3_parse_59]
    simp only [zlt, e400, e33, t0]
    have f8 : ∀ (x y z : Int32), zu (zu (zu τ.1 P 8 x) P 9 y) tt 0 z P 8 = x := fun x y z => by rw [zu_n _ _ _ (fun w => tP w.symm), zu_j _ _ _ _ _ (by decide), zu_s]
    have f9 : ∀ (x y z : Int32), zu (zu (zu τ.1 P 8 x) P 9 y) tt 0 z P 9 = y := fun x y z => by rw [zu_n _ _ _ (fun w => tP w.symm), zu_s]
    have g8 : ∀ (z : Int32), zu τ.1 tt 0 z P 8 = τ.1 P 8 := fun z => by rw [zu_n _ _ _ (fun w => tP w.symm)]
    have g9 : ∀ (z : Int32), zu τ.1 tt 0 z P 9 = τ.1 P 9 := fun z => by rw [zu_n _ _ _ (fun w => tP w.symm)]
    have w11 : zu τ.1 P 8 (τ.1 P 10) P 11 = τ.1 P 11 := zu_j _ _ _ _ _ (by decide)
    by_cases c : s.1 = 0
    · obtain ⟨r1, r2, r3, r4, r5, r6, r7, -⟩ := h.2.2.2 c
      have rk := hT.2.1
      have hj2 := hz c
      have c8 := h.2.1.trans c
      rw [if_neg (by omega), if_pos c8, r3]
      by_cases c1 : T.1 s.2.2.1 = 33
      · have ea : aRun T (l + 1) s = s := by rw [aRun, if_neg (zne c), if_pos c1]
        rw [if_pos c1, ea]
        unfold aAns aPos
        rw [if_neg (zne c), if_neg (zne c), if_pos c8]
        split
        · simp only [f8, f9, w11]
          exact ⟨r6, r7⟩
        · simp only [f8, f9, w11]
          exact ⟨r6, r7⟩
      · have ea : aRun T (l + 1) s = aRun T l (aTell T s) := by rw [aRun, if_neg (zne c), if_neg c1]
        rw [if_neg c1, ea]
        exact ih _ (j + 1) _ _ (zp1 hx (by omega)) (by omega) (by omega) (vTell hd hT h c) (fun z => by have := aTell_i z; omega) l (by omega)
    · have ea : aRun T (l + 1) s = s := by rw [aRun, if_pos c]
      have c8 : ¬ (τ.1 P 8).toInt = 0 := fun z => c (h.2.1.symm.trans z)
      rw [ea]
      unfold aAns aPos
      rw [if_pos c, if_pos c]
      split
      · split
        · simp only [g8, g9]
          exact ⟨h.2.1, (h.2.2.1 c).1⟩
        · simp only [g8, g9]
          exact ⟨h.2.1, (h.2.2.1 c).1⟩
      · split
        · simp only [g8, g9]
          exact ⟨h.2.1, (h.2.2.1 c).1⟩
        · simp only [g8, g9]
          exact ⟨h.2.1, (h.2.2.1 c).1⟩
end ZV5
end
-- 35p.pure16
section
section ZW5
variable {a k q v nm nO m : Nat} {T : zTn} {τ τ' : zS} {s s' : zA}
theorem wWrong12 (n i : Int32) : (F_X11_wrong a n i τ).1 a 12 = τ.1 a 12 := by
  unfold F_X11_wrong
  simp only [zlt]
  (repeat' split) <;> first | rfl | (show zu (zu τ.1 a 15 _) a 16 _ a 12 = _; rw [zu_j _ _ _ _ _ (by decide), zu_j _ _ _ _ _ (by decide)])
theorem wNamed12 : (F_X11_named a τ).2.1 a 12 = τ.1 a 12 := by
  unfold F_X11_named
  simp only [zlt, zlt2]
  (repeat' split) <;> first | exact wMust12 _ | exact (wWrong12 _ _).trans (wMust12 _)
theorem wBound12 (lo hi : Int32) : (F_X11_bounded a lo hi τ).2.1 a 12 = τ.1 a 12 := by
  unfold F_X11_bounded
  simp only [zlt, zlt2]
  (repeat' split) <;> first | exact wFail12 _ | exact wOn12' | exact wOn12'.trans (wWrong12 _ _)
theorem xNamed (hd : zWd a k q v nm nO) (hT : zTm T m) (hK : zTK T m) (h : zXo a k q v nm nO m T τ s) : ∃ x : Int32, ∃ τ' : zS, F_X11_named a τ = (x, τ') ∧ zXo a k q v nm nO m T τ' (aNew T s) ∧ (s.1 = 0 → x.toInt = s.2.2.1) := by
  obtain ⟨x, τ', p1, p2, p3⟩ := wNamed hd hT hK h.1
  have e := wNamed12 (a := a) (τ := τ)
  rw [p1] at e
  exact ⟨x, τ', p1, ⟨p2, fun z => by rw [show τ'.1 a 12 = τ.1 a 12 from e]; exact h.2 (aNew_z z)⟩, p3⟩
theorem aNumb_z {lo hi : Int} (h : (aNumb T lo hi s).1 = 0) : s.1 = 0 := Classical.byContradiction (fun c => by rw [aNumb_f c] at h; exact c h)
theorem xBound (hd : zWd a k q v nm nO) (hT : zTm T m) (hK : zTK T m) (h : zXo a k q v nm nO m T τ s) (lo hi : Int32) (l u : Int) (e1 : lo.toInt = l) (e2 : hi.toInt = u) : ∃ x : Int32, ∃ τ' : zS, F_X11_bounded a lo hi τ = (x, τ') ∧ zXo a k q v nm nO m T τ' (aNumb T l u s) := by
  subst e1 e2
  obtain ⟨x, τ', p1, p2⟩ := wBounded hd hT hK h.1 lo hi
  have e := wBound12 (a := a) (τ := τ) lo hi
  rw [p1] at e
  exact ⟨x, τ', p1, p2, fun z => by rw [show τ'.1 a 12 = τ.1 a 12 from e]; exact h.2 (aNumb_z z)⟩
/-- an array told apart before -/
theorem xArrB {τ0 : zS} (h0 : zXo a k q v nm nO m T τ0 s') (h : zXo a k q v nm nO m T τ s) (j i : Nat) (x : Int32) (hj : zQs j) : zXo a k q v nm nO m T (zu τ.1 ((τ0.2.2 a j).getD 0) i x, τ.2.1, τ.2.2) s := by
  obtain ⟨d1, d2, d3, d4⟩ := h0.1.1.2.2 j hj
  refine ⟨h.1.cg rfl (zu_n _ _ _ (fun z => d2 z.symm)) (zu_n _ _ _ (fun z => d3 z.symm)) (zu_n _ _ _ (fun z => d4 z.symm)) rfl rfl (fun i hi => ?_), fun z => ?_⟩
  · show zu τ.1 _ _ _ a i = _
    rw [zu_n _ _ _ (fun z => d1 z.symm)]
  · show (zu τ.1 _ _ _ a 12).toInt = 0
    rw [zu_n _ _ _ (fun z => d1 z.symm)]
    exact h.2 z
/-- a faulty state may be told otherwise -/
theorem zXo.ft (h : zXo a k q v nm nO m T τ s) (c : s.1 ≠ 0) (e1 : s'.1 = s.1) (e2 : s'.2.1 = s.2.1) : zXo a k q v nm nO m T τ s' :=
  ⟨h.1.ft c e1 e2, fun z => absurd (e1.symm.trans z) c⟩
theorem aTake_g {w : Int} (c : (aTake T w s).1 ≠ 0) (e1 : s'.1 = s.1) (e2 : s'.2.1 = s.2.1) (e3 : s'.2.2.1 = s.2.2.1) : (aTake T w s').1 = (aTake T w s).1 ∧ (aTake T w s').2.1 = (aTake T w s).2.1 := by
  by_cases hs : s.1 = 0
  · have hs' := e1.trans hs
    by_cases c1 : T.1 s.2.2.1 = w
    · by_cases c2 : 400 ≤ s.2.2.1
      · rw [aTake_4 hs c1 c2, aTake_4 hs' (by rw [e3]; exact c1) (by rw [e3]; exact c2), e3]
        exact ⟨rfl, rfl⟩
      · rw [aTake_1 hs c1 (by omega)] at c
        exact absurd hs c
    · rw [aTake_w hs c1, aTake_w hs' (by rw [e3]; exact c1), e3]
      exact ⟨rfl, rfl⟩
  · rw [aTake_f hs, aTake_f (fun z => hs (e1.symm.trans z))]
    exact ⟨e1, e2⟩
theorem aTake_400 {w : Int} (h : (aTake T w s).1 = 0) : s.2.2.1 < 400 := by
  obtain ⟨h0, c1, -, -⟩ := aTake_i h
  by_cases c2 : 400 ≤ s.2.2.1
  · rw [aTake_4 h0 c1 c2] at h
    exact absurd h (show ¬ (2 : Int) = 0 by decide)
  · omega
/-- the mouth set down -/
theorem wSetM (hd : zWd a k q v nm nO) (h : zXo a k q v nm nO m T τ s) (hc : s.1 = 0) (i j : Nat) (hn : τ.2.1 nm i = (T.2.1 j).2) (hr : zNR (T.2.1 j).1 (T.2.1 j).2) : zXo a k q v nm nO m T (zu τ.1 a 41 1, zu τ.2.1 ((τ.2.2 a 20).getD 0) 0 (τ.2.1 ((τ.2.2 a 8).getD 0) i), τ.2.2) (aSetM s (T.2.1 j)) := by
  obtain ⟨r1, r2, r3, r4, r5, r6, r7, r8, r9⟩ := h.1.2.2.2.2 hc
  obtain ⟨⟨l1, l2, l3, l4, l5⟩, ht, hq⟩ := h.1.1
  have e8 : (τ.2.2 a 8).getD 0 = nm := by rw [l4]; rfl
  have e20 : (τ.2.2 a 20).getD 0 = nO := by rw [l5]; rfl
  obtain ⟨d1, d2, d3, d4⟩ := hd
  rw [e8, e20, hn]
  have g : ∀ x, x ≠ 41 → zu τ.1 a 41 (1 : Int32) a x = τ.1 a x := fun x hx => zu_j _ _ _ _ _ (fun z => hx z.symm)
  have gk : zu τ.1 a 41 (1 : Int32) k = τ.1 k := zu_n _ _ _ d1
  have gq : zu τ.1 a 41 (1 : Int32) q = τ.1 q := zu_n _ _ _ d2
  have gv : zu τ.1 a 41 (1 : Int32) v = τ.1 v := zu_n _ _ _ d3
  have gn : ∀ x, zu τ.2.1 nO 0 x nm = τ.2.1 nm := fun x => zu_n _ _ _ d4
  refine ⟨⟨⟨⟨l1, l2, l3, l4, l5⟩, fun x hx => ?_, hq⟩, ?_, h.1.2.2.1, fun z => absurd hc z, fun _ => ⟨r1, ?_, ?_, r4, fun z => ⟨?_, ?_⟩, ?_, ?_, r8, fun p z1 z2 => ?_⟩⟩, fun _ => ?_⟩
  · show (zu τ.1 a 41 (1 : Int32) k x).toInt = _ ∧ (zu τ.1 a 41 (1 : Int32) q x).toInt = _ ∧ (_ → (zu τ.1 a 41 (1 : Int32) v x).toInt = _) ∧ zu τ.2.1 nO 0 _ nm x = _
    rw [gk, gq, gv, gn]
    exact ht x hx
  · show (zu τ.1 a 41 (1 : Int32) a 13).toInt = s.1
    rw [g 13 (by decide)]; exact h.1.2.1
  · show (zu τ.1 a 41 (1 : Int32) a 11).toInt = _
    rw [g 11 (by decide)]; exact r2
  · show (zu τ.1 a 41 (1 : Int32) a 15).toInt = _
    rw [g 15 (by decide)]; exact r3
  · show (zu τ.1 a 41 (1 : Int32) a 16).toInt = _
    rw [g 16 (by decide)]; exact (r5 z).1
  · exact (r5 z).2
  · show (zu τ.1 a 41 (1 : Int32) a 41).toInt = 1
    rw [zu_s]; decide
  · show (zu τ.1 a 41 (1 : Int32) a 42).toInt = _
    rw [g 42 (by decide)]; exact r7
  · show zu τ.2.1 nO 0 (T.2.1 j).2 nO p = (if p = 0 then T.2.1 j else s.2.2.2.2.2.2.2 p : Int64 × Int64).2 ∧ zNR (if p = 0 then T.2.1 j else s.2.2.2.2.2.2.2 p : Int64 × Int64).1 (if p = 0 then T.2.1 j else s.2.2.2.2.2.2.2 p : Int64 × Int64).2
    rw [zu_a]
    by_cases c : p = 0
    · rw [if_pos c]
      exact ⟨if_pos c, hr⟩
    · rw [if_neg c]
      have q1 := r9 p z1 (Or.inl c)
      exact ⟨(if_neg c).trans q1.1, q1.2⟩
  · show (zu τ.1 a 41 (1 : Int32) a 12).toInt = 0
    rw [g 12 (by decide)]; exact h.2 hc
/-- a place set down -/
theorem wSetP (hd : zWd a k q v nm nO) (h : zXo a k q v nm nO m T τ s) (hc : s.1 = 0) (h11 : s.2.2.2.2.2.2.1 < 11) (i j : Nat) (hn : τ.2.1 nm i = (T.2.1 j).2) (hr : zNR (T.2.1 j).1 (T.2.1 j).2) : zXo a k q v nm nO m T (zu τ.1 a 42 (τ.1 a 42 + (1 : Int32)), zu τ.2.1 ((τ.2.2 a 20).getD 0) (τ.1 a 42 + (1 : Int32)).toNatClampNeg (τ.2.1 ((τ.2.2 a 8).getD 0) i), τ.2.2) (aSetP s (T.2.1 j)) := by
  obtain ⟨r1, r2, r3, r4, r5, r6, r7, r8, r9⟩ := h.1.2.2.2.2 hc
  obtain ⟨⟨l1, l2, l3, l4, l5⟩, ht, hq⟩ := h.1.1
  have e8 : (τ.2.2 a 8).getD 0 = nm := by rw [l4]; rfl
  have e20 : (τ.2.2 a 20).getD 0 = nO := by rw [l5]; rfl
  have e1 : (1 : Int32).toInt = 1 := by decide
  obtain ⟨d1, d2, d3, d4⟩ := hd
  rw [e8, e20, hn]
  have e42 : (τ.1 a 42 + (1 : Int32)).toInt = s.2.2.2.2.2.2.1 + 1 := by rw [zb_add (by rw [r7, e1]; omega) (by rw [r7, e1]; omega), r7, e1]
  have n42 : (τ.1 a 42 + (1 : Int32)).toNatClampNeg = (s.2.2.2.2.2.2.1 + 1).toNat := by rw [ztn, e42]
  rw [n42]
  have g : ∀ x, x ≠ 42 → zu τ.1 a 42 (τ.1 a 42 + (1 : Int32)) a x = τ.1 a x := fun x hx => zu_j _ _ _ _ _ (fun z => hx z.symm)
  have gk : zu τ.1 a 42 (τ.1 a 42 + (1 : Int32)) k = τ.1 k := zu_n _ _ _ d1
  have gq : zu τ.1 a 42 (τ.1 a 42 + (1 : Int32)) q = τ.1 q := zu_n _ _ _ d2
  have gv : zu τ.1 a 42 (τ.1 a 42 + (1 : Int32)) v = τ.1 v := zu_n _ _ _ d3
  have gn : ∀ i x, zu τ.2.1 nO i x nm = τ.2.1 nm := fun i x => zu_n _ _ _ d4
  refine ⟨⟨⟨⟨l1, l2, l3, l4, l5⟩, fun x hx => ?_, hq⟩, ?_, h.1.2.2.1, fun z => absurd hc z, fun _ => ⟨r1, ?_, ?_, r4, fun z => ⟨?_, ?_⟩, ?_, ?_, ?_, fun p z1 z2 => ?_⟩⟩, fun _ => ?_⟩
  · show (zu τ.1 a 42 (τ.1 a 42 + (1 : Int32)) k x).toInt = _ ∧ (zu τ.1 a 42 (τ.1 a 42 + (1 : Int32)) q x).toInt = _ ∧ (_ → (zu τ.1 a 42 (τ.1 a 42 + (1 : Int32)) v x).toInt = _) ∧ zu τ.2.1 nO _ _ nm x = _
    rw [gk, gq, gv, gn]
    exact ht x hx
  · show (zu τ.1 a 42 (τ.1 a 42 + (1 : Int32)) a 13).toInt = s.1
    rw [g 13 (by decide)]; exact h.1.2.1
  · show (zu τ.1 a 42 (τ.1 a 42 + (1 : Int32)) a 11).toInt = _
    rw [g 11 (by decide)]; exact r2
  · show (zu τ.1 a 42 (τ.1 a 42 + (1 : Int32)) a 15).toInt = _
    rw [g 15 (by decide)]; exact r3
  · show (zu τ.1 a 42 (τ.1 a 42 + (1 : Int32)) a 16).toInt = _
    rw [g 16 (by decide)]; exact (r5 z).1
  · exact (r5 z).2
  · show (zu τ.1 a 42 (τ.1 a 42 + (1 : Int32)) a 41).toInt = _
    rw [g 41 (by decide)]; exact r6
  · show (zu τ.1 a 42 (τ.1 a 42 + (1 : Int32)) a 42).toInt = _
    rw [zu_s]; exact e42
  · show 0 ≤ s.2.2.2.2.2.2.1 + 1 ∧ s.2.2.2.2.2.2.1 + 1 ≤ 11
    omega
  · have z1' : (p : Int) ≤ s.2.2.2.2.2.2.1 + 1 := z1
    have z2' : p ≠ 0 ∨ s.2.2.2.2.2.1 ≠ 0 := z2
    show zu τ.2.1 nO (s.2.2.2.2.2.2.1 + 1).toNat (T.2.1 j).2 nO p = (if (p : Int) = s.2.2.2.2.2.2.1 + 1 then T.2.1 j else s.2.2.2.2.2.2.2 p : Int64 × Int64).2 ∧ zNR (if (p : Int) = s.2.2.2.2.2.2.1 + 1 then T.2.1 j else s.2.2.2.2.2.2.2 p : Int64 × Int64).1 (if (p : Int) = s.2.2.2.2.2.2.1 + 1 then T.2.1 j else s.2.2.2.2.2.2.2 p : Int64 × Int64).2
    rw [zu_a]
    by_cases c : (p : Int) = s.2.2.2.2.2.2.1 + 1
    · rw [if_pos c]
      exact ⟨if_pos (by omega), hr⟩
    · rw [if_neg c]
      have q1 := r9 p (by omega) z2'
      exact ⟨(if_neg (by omega)).trans q1.1, q1.2⟩
  · show (zu τ.1 a 42 (τ.1 a 42 + (1 : Int32)) a 12).toInt = 0
    rw [g 12 (by decide)]; exact h.2 hc
end ZW5
end
-- 35q.pure17
section
section ZW6
variable {a k q v nm nO m : Nat} {T : zTn} {τ τ' : zS} {s s' : zA}
theorem aNum_nn (s : zA) (x : Int64) : aNum s x = -1 ∨ 0 ≤ aNum s x := by
  have key : ∀ (n p : Nat), aFind s.2.2.2.2.2.2.2 s.2.2.2.2.2.2.1 x n p = -1 ∨ 0 ≤ aFind s.2.2.2.2.2.2.2 s.2.2.2.2.2.2.1 x n p := by
    intro n
    induction n with
    | zero => intro p; exact Or.inl rfl
    | succ n ih =>
      intro p
      unfold aFind
      split
      · split
        · exact Or.inr (by omega)
        · exact ih _
      · exact Or.inl rfl
  exact key _ _
theorem xMouth (hd : zWd a k q v nm nO) (hT : zTm T m) (hK : zTK T m) (h : zXo a k q v nm nO m T τ s) : zXo a k q v nm nO m T (F_X11_tellMouth a τ) (aTake T 24 (if (aNew T s).1 = 0 then aSetM (aNew T s) (T.2.1 s.2.2.1) else aNew T s)) := by
  have q21 : zQs 21 := by unfold zQs; omega
  have q22 : zQs 22 := by unfold zQs; omega
  have q23 : zQs 23 := by unfold zQs; omega
  have q24 : zQs 24 := by unfold zQs; omega
  have q25 : zQs 25 := by unfold zQs; omega
  have e0n : (0 : Int32).toNatClampNeg = 0 := by decide
  obtain ⟨x, τ1, p1, p2, p3⟩ := xNamed hd hT hK h
  have p4 := xMust hd hT hK p2 4 24 (by decide) (by decide)
  have f := p4.1.2.1
  have g := p4.1.2.2.1
  unfold F_X11_tellMouth
  simp only [zlt, zlt2, p1, e0n]
  by_cases c : (aTake T 24 (aNew T s)).1 = 0
  · rw [if_neg (by omega)]
    have c1 := aTake_i c
    have n0 := aNew_i c1.1
    have c4 := aTake_400 c
    rw [if_pos c1.1]
    have e : aTake T 24 (aSetM (aNew T s) (T.2.1 s.2.2.1)) = aSetM (aTake T 24 (aNew T s)) (T.2.1 s.2.2.1) := by
      rw [aTake_1 c1.1 c1.2.1 c4, aTake_1 (s := aSetM (aNew T s) (T.2.1 s.2.2.1)) c1.1 c1.2.1 c4]
      rfl
    rw [e]
    have xn : x.toNatClampNeg = s.2.2.1 := by rw [ztn, p3 n0.1]; rfl
    have r := h.1.2.2.2.2 n0.1
    have base := wSetM hd p4 c x.toNatClampNeg s.2.2.1 (by rw [xn]; exact (p4.1.1.2.1 _ r.1).2.2.2) (hT.2.2 _ r.1 n0.2.1)
    exact xArr (xArr (xArr (xArr (xArr base 22 _ _ q22) 23 _ _ q23) 24 _ _ q24) 25 _ _ q25) 21 _ _ q21
  · rw [if_pos (by omega)]
    by_cases c1 : (aNew T s).1 = 0
    · rw [if_pos c1]
      obtain ⟨e1, e2⟩ := aTake_g (s' := aSetM (aNew T s) (T.2.1 s.2.2.1)) c rfl rfl rfl
      exact p4.ft c e1 e2
    · rw [if_neg c1]
      exact p4
theorem xPlace (hd : zWd a k q v nm nO) (hT : zTm T m) (hK : zTK T m) (h : zXo a k q v nm nO m T τ s) (h11 : s.1 = 0 → s.2.2.2.2.2.2.1 < 11) : zXo a k q v nm nO m T (F_X11_tellPlace a τ) (aTake T 24 (if (aPlace2 T s).1 = 0 ∧ (aPlace2 T s).2.2.2.2.2.2.1 < 11 then aSetP (aPlace2 T s) (T.2.1 s.2.2.1) else aPlace2 T s)) := by
  have q21 : zQs 21 := by unfold zQs; omega
  have q22 : zQs 22 := by unfold zQs; omega
  have q23 : zQs 23 := by unfold zQs; omega
  have q24 : zQs 24 := by unfold zQs; omega
  have q25 : zQs 25 := by unfold zQs; omega
  obtain ⟨x, τ1, p1, p2, p3⟩ := xNamed hd hT hK h
  have p4 := xMust hd hT hK p2 1 22 (by decide) (by decide)
  have f := p4.1.2.1
  have g := p4.1.2.2.1
  have fin1 : ∀ t6 : zS, zXo a k q v nm nO m T t6 (aPlace2 T s) → 0 < ((F_X11_must a 4 t6).1 a 13).toInt → zXo a k q v nm nO m T (F_X11_must a 4 t6) (aTake T 24 (if (aPlace2 T s).1 = 0 ∧ (aPlace2 T s).2.2.2.2.2.2.1 < 11 then aSetP (aPlace2 T s) (T.2.1 s.2.2.1) else aPlace2 T s)) := fun t6 h6 z => by
    have p := xMust hd hT hK h6 4 24 (by decide) (by decide)
    have f := p.1.2.1
    have c : (aTake T 24 (aPlace2 T s)).1 ≠ 0 := by omega
    split
    · obtain ⟨e1, e2⟩ := aTake_g (s' := aSetP (aPlace2 T s) (T.2.1 s.2.2.1)) c rfl rfl rfl
      exact p.ft c e1 e2
    · exact p
  have fin2 : ∀ t6 : zS, zXo a k q v nm nO m T t6 (aPlace2 T s) → ¬ 0 < ((F_X11_must a 4 t6).1 a 13).toInt → zXo a k q v nm nO m T (zu (F_X11_must a 4 t6).1 a 42 ((F_X11_must a 4 t6).1 a 42 + (1 : Int32)), zu (F_X11_must a 4 t6).2.1 (((F_X11_must a 4 t6).2.2 a 20).getD 0) ((F_X11_must a 4 t6).1 a 42 + (1 : Int32)).toNatClampNeg ((F_X11_must a 4 t6).2.1 (((F_X11_must a 4 t6).2.2 a 8).getD 0) x.toNatClampNeg), (F_X11_must a 4 t6).2.2) (aTake T 24 (if (aPlace2 T s).1 = 0 ∧ (aPlace2 T s).2.2.2.2.2.2.1 < 11 then aSetP (aPlace2 T s) (T.2.1 s.2.2.1) else aPlace2 T s)) := fun t6 h6 z => by
    have p := xMust hd hT hK h6 4 24 (by decide) (by decide)
    have f := p.1.2.1
    have g := p.1.2.2.1
    have c : (aTake T 24 (aPlace2 T s)).1 = 0 := by omega
    have c1 := aTake_i c
    have c4 := aTake_400 c
    have w := aPlace2_i c1.1
    have l11 : (aPlace2 T s).2.2.2.2.2.2.1 < 11 := by rw [w.2.2]; exact h11 w.1
    rw [if_pos ⟨c1.1, l11⟩]
    have e : aTake T 24 (aSetP (aPlace2 T s) (T.2.1 s.2.2.1)) = aSetP (aTake T 24 (aPlace2 T s)) (T.2.1 s.2.2.1) := by
      rw [aTake_1 c1.1 c1.2.1 c4, aTake_1 (s := aSetP (aPlace2 T s) (T.2.1 s.2.2.1)) c1.1 c1.2.1 c4]
      rfl
    rw [e]
    have xn : x.toNatClampNeg = s.2.2.1 := by rw [ztn, p3 w.1]; rfl
    have r := h.1.2.2.2.2 w.1
    have k22 : T.1 s.2.2.1 = 22 := by
      have y := c1.1
      unfold aPlace2 at y
      exact (aNew_i (aKnown_i (aNumb_i (aNumb_i (aNumb_i y).1).1).1).1).2.1
    exact wSetP hd p c (by rw [c1.2.2.2]; exact l11) x.toNatClampNeg s.2.2.1 (by rw [xn]; exact (p.1.1.2.1 _ r.1).2.2.2) (hT.2.2 _ r.1 k22)
  unfold F_X11_tellPlace
  simp only [zlt, zlt2, p1, zu_s]
  generalize ((12 : Int32) * τ.1 a 19 + τ.1 a 42 + (1 : Int32)).toNatClampNeg = iv
  by_cases c : (aTake T 22 (aNew T s)).1 = 0
  · rw [if_neg (by omega)]
    obtain ⟨c1, c2, c3, c4⟩ := aTake_i c
    have r1 := p2.1.2.2.2.2 c1
    have en := wNum p4.1 c (τ1.1 a 11) (aNew T s).2.2.1 r1.2.1 (T.2.1 (aNew T s).2.2.1).1 (T.2.1 (aNew T s).2.2.1).2 (hT.2.2 _ r1.1 c2) (p4.1.1.2.1 _ r1.1).2.2.2
    have en2 : aNum (aTake T 22 (aNew T s)) (T.2.1 (aNew T s).2.2.1).1 = aNum (aNew T s) (T.2.1 (aNew T s).2.2.1).1 := by
      unfold aNum
      rw [c4]
    rw [en2] at en
    have nn := aNum_nn (aNew T s) (T.2.1 (aNew T s).2.2.1).1
    generalize hn : F_X11_numberOf a (τ1.1 a 11) (F_X11_must a 1 τ1) = v23 at en ⊢
    have a22 := xArr p4 22 iv v23 q22
    by_cases c5 : aNum (aNew T s) (T.2.1 (aNew T s).2.2.1).1 = -1
    · rw [if_pos (by omega)]
      have hk : zXo a k q v nm nO m T (F_X11_wrong a 4 (τ1.1 a 11) (zu (F_X11_must a 1 τ1).1 (((F_X11_must a 1 τ1).2.2 a 22).getD 0) iv v23, (F_X11_must a 1 τ1).2.1, (F_X11_must a 1 τ1).2.2)) (aKnown T (aNew T s)) := by
        unfold aKnown
        rw [if_pos ⟨c1, c2, c5⟩]
        exact ⟨wLateB hd hT hK a22.1 r1 c 4 (τ1.1 a 11) (by decide) r1.2.1, fun z => by rw [wWrong12]; exact a22.2 c⟩
      obtain ⟨x1, t1, b1, b2⟩ := xBound hd hT hK hk 1 99 1 99 (by decide) (by decide)
      have a1 := xArrB hk b2 23 iv x1 q23
      obtain ⟨x2, t2, d1, d2⟩ := xBound hd hT hK a1 0 99 0 99 (by decide) (by decide)
      have a2 := xArrB a1 d2 24 iv x2 q24
      obtain ⟨x3, t3, g1, g2⟩ := xBound hd hT hK a2 0 99 0 99 (by decide) (by decide)
      have a3 := xArrB a2 g2 25 iv x3 q25
      simp only [b1, d1, g1]
      split
      · next z => exact fin1 _ a3 z
      · next z =>
        split
        · exact fin2 _ a3 z
        · exact xArr (fin2 _ a3 z) 21 _ _ q21
    · rw [if_neg (by omega)]
      have hk : zXo a k q v nm nO m T (zu (F_X11_must a 1 τ1).1 (((F_X11_must a 1 τ1).2.2 a 22).getD 0) iv v23, (F_X11_must a 1 τ1).2.1, (F_X11_must a 1 τ1).2.2) (aKnown T (aNew T s)) := by
        unfold aKnown
        rw [if_neg (show ¬ ((aNew T s).1 = 0 ∧ T.1 (aNew T s).2.2.1 = 22 ∧ aNum (aNew T s) (T.2.1 (aNew T s).2.2.1).1 = -1) from fun z => c5 z.2.2)]
        exact a22
      obtain ⟨x1, t1, b1, b2⟩ := xBound hd hT hK hk 1 99 1 99 (by decide) (by decide)
      have a1 := xArrB hk b2 23 iv x1 q23
      obtain ⟨x2, t2, d1, d2⟩ := xBound hd hT hK a1 0 99 0 99 (by decide) (by decide)
      have a2 := xArrB a1 d2 24 iv x2 q24
      obtain ⟨x3, t3, g1, g2⟩ := xBound hd hT hK a2 0 99 0 99 (by decide) (by decide)
      have a3 := xArrB a2 g2 25 iv x3 q25
      simp only [b1, d1, g1]
      split
      · next z => exact fin1 _ a3 z
      · next z =>
        split
        · exact fin2 _ a3 z
        · exact xArr (fin2 _ a3 z) 21 _ _ q21
  · rw [if_pos (by omega)]
    have K1 : (aKnown T (aNew T s)).1 = (aTake T 22 (aNew T s)).1 ∧ (aKnown T (aNew T s)).2.1 = (aTake T 22 (aNew T s)).2.1 := by
      unfold aKnown
      split
      · next z => exact aTake_ff c z.1 4
      · exact ⟨rfl, rfl⟩
    have cK : (aKnown T (aNew T s)).1 ≠ 0 := fun z => c (K1.1.symm.trans z)
    have e : aPlace2 T s = aKnown T (aNew T s) := by
      unfold aPlace2
      rw [aNumb_f cK, aNumb_f cK, aNumb_f cK]
    rw [e, if_neg (fun z => cK z.1), aTake_f cK]
    exact p4.ft c K1.1 K1.2
theorem xTell (hd : zWd a k q v nm nO) (hT : zTm T m) (hK : zTK T m) (h : zXo a k q v nm nO m T τ s) (hs : s.1 = 0) : zXo a k q v nm nO m T (F_X11_tellOne a τ) (aTell T s) := by
  have q26 : zQs 26 := by unfold zQs; omega
  have q27 : zQs 27 := by unfold zQs; omega
  have q28 : zQs 28 := by unfold zQs; omega
  have q29 : zQs 29 := by unfold zQs; omega
  obtain ⟨r1, r2, r3, r4, r5, r6, r7, r8, r9⟩ := h.1.2.2.2.2 hs
  have e5 : (τ.2.2 a 5).getD 0 = k := by rw [h.1.1.1.1]; rfl
  have ei : (τ.1 a 11).toNatClampNeg = s.2.2.1 := by rw [ztn, r2]; rfl
  have ek := (h.1.1.2.1 _ r1).1
  have rg := hT.2.1 _ r1
  have e11 : (11 : Int32).toInt = 11 := by decide
  have e22 : (22 : Int32).toInt = 22 := by decide
  have e26 : (26 : Int32).toInt = 26 := by decide
  have h13 := h.1.2.1.trans hs
  unfold F_X11_tellOne
  simp only [zlt, zlt2, e5, ei, e11, e26]
  generalize hκ : τ.1 k s.2.2.1 = κ at ek ⊢
  have zr : ∀ i : Int, 0 ≤ i → i ≤ 34 → zrho i = zrho (T.1 s.2.2.1) → T.1 s.2.2.1 = i := fun i h1 h2 z => zrho_inj _ _ rg.1 rg.2 h1 h2 z.symm
  by_cases k0 : κ.toInt = 20
  · have c0 : T.1 s.2.2.1 = 0 := zr 0 (by decide) (by decide) (by rw [← ek, k0]; decide)
    rw [if_pos k0, r6]
    unfold aTell
    rw [if_pos c0]
    unfold aMouth
    by_cases cm : s.2.2.2.2.2.1 = 0
    · rw [if_pos cm, if_neg (by omega), if_neg (zne cm)]
      exact xMouth hd hT hK (xOn hd hT hK h 0 (fun _ => c0) (by decide))
    · have p := xFail hd h 2 2 (by decide) (by decide)
      have f : (aFail T 2 s).1 ≠ 0 := aFail_1 (by decide)
      have f2 := p.1.2.1
      have f3 := p.1.2.2.1
      rw [if_neg cm, if_pos (by omega), if_pos cm, aTake_f f, aNew_f f, if_neg f, aTake_f f]
      exact p
  rw [if_neg k0]
  have n0 : ¬ T.1 s.2.2.1 = 0 := fun z => k0 (by rw [ek, z]; decide)
  by_cases k1 : κ.toInt = 21
  · have c1 : T.1 s.2.2.1 = 1 := zr 1 (by decide) (by decide) (by rw [← ek, k1]; decide)
    rw [if_pos k1, r7]
    unfold aTell
    rw [if_neg n0, if_pos c1]
    unfold aPlace aPlace1
    by_cases cm : s.2.2.2.2.2.2.1 = 11
    · have p := xFail hd h 2 2 (by decide) (by decide)
      have f : (aFail T 2 s).1 ≠ 0 := aFail_1 (by decide)
      have f2 := p.1.2.1
      have f3 := p.1.2.2.1
      have e : aPlace2 T (aFail T 2 s) = aFail T 2 s := by
        unfold aPlace2
        rw [aNew_f f, aKnown_f f, aNumb_f f, aNumb_f f, aNumb_f f]
      rw [if_pos cm, if_pos (by omega), if_pos (show 11 ≤ s.2.2.2.2.2.2.1 by omega), aTake_f f, e, if_neg (fun z => f z.1), aTake_f f]
      exact p
    · rw [if_neg cm, if_neg (by omega), if_neg (show ¬ 11 ≤ s.2.2.2.2.2.2.1 by omega)]
      exact xPlace hd hT hK (xOn hd hT hK h 1 (fun _ => c1) (by decide)) (fun z => by rw [(aTake_i z).2.2.2]; omega)
  rw [if_neg k1]
  have n1 : ¬ T.1 s.2.2.1 = 1 := fun z => k1 (by rw [ek, z]; decide)
  by_cases k7 : κ.toInt = 27
  · have c7 : T.1 s.2.2.1 = 7 := zr 7 (by decide) (by decide) (by rw [← ek, k7]; decide)
    rw [if_neg (by omega), if_neg (by omega), if_neg (by omega), if_neg (by omega), if_neg (by omega), if_pos k7]
    unfold aTell
    rw [if_neg n0, if_neg n1, if_neg (by omega), if_pos c7]
    have a0 := xOn hd hT hK h 7 (fun _ => c7) (by decide)
    obtain ⟨x1, t1, b1, b2⟩ := xBound hd hT hK a0 0 100 0 100 (by decide) (by decide)
    have a1 := xArrB a0 b2 26 ((F_X11_goesOn a τ).1 a 19).toNatClampNeg x1 q26
    obtain ⟨x2, t2, d1, d2⟩ := xBound hd hT hK a1 0 99 0 99 (by decide) (by decide)
    simp only [b1, d1]
    exact xMust hd hT hK (xArrB a1 d2 27 _ _ q27) 4 24 (by decide) (by decide)
  by_cases k8 : κ.toInt = 28
  · have c8 : T.1 s.2.2.1 = 8 := zr 8 (by decide) (by decide) (by rw [← ek, k8]; decide)
    rw [if_neg (by omega), if_neg (by omega), if_neg (by omega), if_neg (by omega), if_neg (by omega), if_neg k7, if_pos k8]
    unfold aTell
    rw [if_neg n0, if_neg n1, if_neg (by omega), if_neg (by omega), if_pos c8]
    have a0 := xOn hd hT hK h 8 (fun _ => c8) (by decide)
    obtain ⟨x1, t1, b1, b2⟩ := xBound hd hT hK a0 0 99 0 99 (by decide) (by decide)
    simp only [b1]
    exact xMust hd hT hK (xArrB a0 b2 28 _ _ q28) 4 24 (by decide) (by decide)
  by_cases k9 : κ.toInt = 29
  · have c9 : T.1 s.2.2.1 = 9 := zr 9 (by decide) (by decide) (by rw [← ek, k9]; decide)
    rw [if_neg (by omega), if_neg (by omega), if_neg (by omega), if_neg (by omega), if_neg (by omega), if_neg k7, if_neg k8, if_pos k9]
    unfold aTell
    rw [if_neg n0, if_neg n1, if_neg (by omega), if_neg (by omega), if_neg (by omega), if_pos c9]
    have a0 := xOn hd hT hK h 9 (fun _ => c9) (by decide)
    obtain ⟨x1, t1, b1, b2⟩ := xBound hd hT hK a0 0 9999 0 9999 (by decide) (by decide)
    simp only [b1]
    exact xMust hd hT hK (xArrB a0 b2 29 _ _ q29) 4 24 (by decide) (by decide)
  have hL : zXo a k q v nm nO m T (if (κ - (22 : Int32)).toInt < 0 then (if 0 < ((F_X11_fail a 1 τ).1 a 13).toInt then F_X11_fail a 1 τ else F_X11_tellLaw a (κ - (22 : Int32)) (F_X11_goesOn a (F_X11_fail a 1 τ))) else if 26 < κ.toInt then (if 0 < ((F_X11_fail a 1 τ).1 a 13).toInt then F_X11_fail a 1 τ else F_X11_tellLaw a (κ - (22 : Int32)) (F_X11_goesOn a (F_X11_fail a 1 τ))) else if 0 < (τ.1 a 13).toInt then τ else F_X11_tellLaw a (κ - (22 : Int32)) (F_X11_goesOn a τ)) (aTell T s) := by
    have zb : ∀ b : Fin 35, 0 ≤ zrho b.val ∧ zrho b.val ≤ 41 := by decide +kernel
    have zb2 := zb ⟨(T.1 s.2.2.1).toNat, by omega⟩
    simp only at zb2
    rw [show (((T.1 s.2.2.1).toNat : Nat) : Int) = T.1 s.2.2.1 by omega, ← ek] at zb2
    have e : (κ - (22 : Int32)).toInt = κ.toInt - 22 := by rw [zb_sub (by rw [e22]; omega) (by rw [e22]; omega), e22]
    have law : ∀ b : Fin 35, 22 ≤ zrho b.val ∧ zrho b.val ≤ 26 ↔ 2 ≤ (b.val : Int) ∧ (b.val : Int) ≤ 6 := by decide +kernel
    have law2 := law ⟨(T.1 s.2.2.1).toNat, by omega⟩
    simp only at law2
    rw [show (((T.1 s.2.2.1).toNat : Nat) : Int) = T.1 s.2.2.1 by omega, ← ek] at law2
    rw [e]
    unfold aTell
    rw [if_neg n0, if_neg n1]
    have p := xFail hd h 1 1 (by decide) (by decide)
    have f : (aFail T 1 s).1 ≠ 0 := aFail_1 (by decide)
    have f2 := p.1.2.1
    have f3 := p.1.2.2.1
    by_cases c2 : 2 ≤ T.1 s.2.2.1 ∧ T.1 s.2.2.1 ≤ 6
    · have kk := law2.mpr c2
      rw [if_neg (by omega), if_neg (by omega), if_neg (by omega), if_pos c2]
      have a0 := xOn hd hT hK h (T.1 s.2.2.1) (fun _ => rfl) (by omega)
      have q := xLaw hd hT hK a0 (κ - (22 : Int32))
      unfold aLaw
      rw [show 2 + (T.1 s.2.2.1 - 2) = T.1 s.2.2.1 by omega]
      exact q
    · have kk := fun z => c2 (law2.mp z)
      rw [if_neg c2, if_neg (show ¬ T.1 s.2.2.1 = 7 from fun z => k7 (by rw [ek, z]; decide)), if_neg (show ¬ T.1 s.2.2.1 = 8 from fun z => k8 (by rw [ek, z]; decide)), if_neg (show ¬ T.1 s.2.2.1 = 9 from fun z => k9 (by rw [ek, z]; decide)), aTake_f f]
      rw [if_pos (show 0 < ((F_X11_fail a 1 τ).1 a 13).toInt by omega)]
      by_cases c3 : κ.toInt - 22 < 0
      · rw [if_pos c3]; exact p
      · rw [if_neg c3, if_pos (by omega)]
        exact p
  split
  · exact hL
  · split
    · exact hL
    · split
      · exact hL
      · split
        · exact hL
        · split
          · exact hL
          · exact hL
end ZW6
end
-- 35r.pure18
section
section ZW7
variable {a k q v nm nO m : Nat} {T : zTn} {τ τ' : zS} {s s' : zA}
theorem w224 {K : Int32 → zS → Int32 × zS} {K2 : zS → Int32 × zS} : ∀ (n : Nat) (x : Int32) (j : Nat) (τ : zS), x.toInt = j → j ≤ 3 → 3 - j < n → (F_X11_read_224 a K K2 n x τ).1.toInt = 0 ∧ ((τ.2.2 a 67).getD 0 ≠ a → (F_X11_read_224 a K K2 n x τ).2.1 a 17 = τ.1 a 17) := by
  intro n
  induction n with
  | zero => intro x j τ _ _ h; exact absurd h (by omega)
  | succ n ih =>
    intro x j τ hx hj hm
    have e3 : (3 : Int32).toInt = 3 := by decide
    rw [F_X11_read_224]
    simp only [zlt, e3]
    by_cases c : x.toInt < 3
    · rw [if_pos c]
      have q := ih (x + (1 : Int32)) (j + 1) (zu τ.1 ((τ.2.2 a 67).getD 0) x.toNatClampNeg (vp_nar .boolean 0), τ.2.1, τ.2.2) (zp1 hx (by omega)) (by omega) (by omega)
      exact ⟨q.1, fun h => (q.2 h).trans (congrFun (zu_n _ _ _ (fun z => h z.symm)) 17)⟩
    · rw [if_neg c]
      exact ⟨(by decide : (0 : Int32).toInt = 0), fun _ => rfl⟩
/-- no late fault: no place of one -/
def aP (s : zA) : Prop := s.2.2.2.1 = 0 → s.2.2.2.2.1 = -1
theorem aP_fail {n : Int} (h : aP s) : aP (aFail T n s) := by
  unfold aFail
  split
  · exact h
  · exact h
theorem aP_take {w : Int} (h : aP s) : aP (aTake T w s) := by
  unfold aTake
  split
  · exact h
  · split
    · exact aP_fail h
    · split
      · exact aP_fail h
      · exact h
theorem aP_late {n : Int} (hn : n ≠ 0) (h : aP s) : aP (aLate T n s) := by
  unfold aLate
  split
  · exact h
  · split
    · exact h
    · exact fun z => absurd z hn
theorem aP_new (h : aP s) : aP (aNew T s) := by
  unfold aNew
  split
  · exact aP_take (aP_late (by decide) h)
  · exact aP_take h
theorem aP_known (h : aP s) : aP (aKnown T s) := by
  unfold aKnown
  split
  · exact aP_take (aP_late (by decide) h)
  · exact aP_take h
theorem aP_numb {lo hi : Int} (h : aP s) : aP (aNumb T lo hi s) := by
  unfold aNumb
  split
  · exact aP_take (aP_late (by decide) h)
  · exact aP_take h
theorem aP_E : ∀ (n : Nat) (b : Bool) (o : Int) (s : zA), aP s → aP (aE T n b o s) := by
  intro n
  induction n with
  | zero => intro b o s h; rw [aE]; exact h
  | succ n ih =>
    intro b o s h
    cases b with
    | true =>
      rw [aE]
      (repeat' split) <;> first | exact h | exact ih _ _ _ (aP_take h) | exact aP_fail h
    | false =>
      rw [aE]
      (repeat' split) <;> first | exact h | exact ih _ _ _ (aP_take h) | exact aP_fail h
theorem aP_sum (h : aP s) : aP (aSum T s) := aP_E _ _ _ _ h
theorem aP_if {n : Int} (h : aP s) : aP (aIf T n s) := by
  unfold aIf
  refine aP_take (aP_sum (aP_take (aP_sum (aP_take (aP_sum (aP_take ?_))))))
  split
  · exact aP_fail h
  · exact h
theorem aP_lw : ∀ (k : Nat) (n : Int) (s : zA), aP s → aP (aLw T k n s) := by
  intro k
  induction k with
  | zero => intro n s h; exact h
  | succ k ih =>
    intro n s h
    rw [aLw]
    split
    · exact ih _ _ (aP_if h)
    · exact aP_sum h
theorem aP_mouth (h : aP s) : aP (aMouth T s) := by
  have k : ∀ s0 : zA, aP s0 → aP (if (aNew T (aTake T 0 s0)).1 = 0 then aSetM (aNew T (aTake T 0 s0)) (T.2.1 (aTake T 0 s0).2.2.1) else aNew T (aTake T 0 s0)) := fun s0 h0 => by
    have h2 : aP (aNew T (aTake T 0 s0)) := aP_new (aP_take h0)
    split
    · exact h2
    · exact h2
  unfold aMouth
  refine k _ ?_
  split
  · exact aP_fail h
  · exact h
theorem aP_place (h : aP s) : aP (aPlace T s) := by
  have h1 : aP (aPlace1 T s) := by
    unfold aPlace1
    refine aP_take ?_
    split
    · exact aP_fail h
    · exact h
  have h2 : aP (aPlace2 T (aPlace1 T s)) := aP_numb (aP_numb (aP_numb (aP_known (aP_new h1))))
  unfold aPlace
  split
  · exact h2
  · exact h2
theorem aP_tell (h : aP s) : aP (aTell T s) := by
  unfold aTell
  refine aP_take ?_
  split
  · exact aP_mouth h
  · split
    · exact aP_place h
    · split
      · exact aP_lw _ _ _ (aP_take (aP_take h))
      · split
        · exact aP_numb (aP_numb (aP_take h))
        · split
          · exact aP_numb (aP_take h)
          · split
            · exact aP_numb (aP_take h)
            · exact aP_fail h
theorem xRun (hd : zWd a k q v nm nO) (hT : zTm T m) (hK : zTK T m) {x7 : Int32} (K : Int32 → zS → Int32 × zS) : ∀ (n : Nat) (τ : zS) (s : zA), zXo a k q v nm nO m T τ s → aP s → (s.1 = 0 → 401 < n + s.2.2.1) → 0 < n → ∀ l, (s.1 = 0 → 401 < l + s.2.2.1) → 0 < l → (F_X11_read_117 x7 a K n τ).1.toInt = aAns (aRun T l s) ∧ ((F_X11_read_117 x7 a K n τ).2.1 a 17).toInt = aPos (aRun T l s) := by
  intro n
  induction n with
  | zero => intro τ s _ _ _ h; exact absurd h (by omega)
  | succ n ih =>
    intro τ s h hp hn _ l hl _
    obtain ⟨l, rfl⟩ : ∃ q, l = q + 1 := ⟨l - 1, by omega⟩
    have g : ∀ (x : Int32) (j : Nat), j ≠ 17 → zu τ.1 a 17 x a j = τ.1 a j := fun x j hj => zu_j _ _ _ _ _ (fun z => hj z.symm)
    have g13 := fun x => g x 13 (by decide)
    have g15 := fun x => g x 15 (by decide)
    rw [F_X11_read_117]
    simp only [zlt, wIs hT h.1 0 33 (by decide) (by decide), g13, g15]
    have h13 := h.1.2.1
    have h0 := h.1.2.2.1
    by_cases c : s.1 = 0
    · obtain ⟨r1, r2, r3, r4, r5, r6, r7, r8, r9⟩ := h.1.2.2.2.2 c
      have rk := hK.2.1
      have hn2 := hn c
      have hl2 := hl c
      rw [if_pos (h13.trans c)]
      by_cases c1 : T.1 s.2.2.1 = 33
      · have ea : aRun T (l + 1) s = s := by rw [aRun, if_neg (zne c), if_pos c1]
        rw [if_neg (fun z => z ⟨c, c1⟩), if_neg (by omega), ea]
        unfold aAns aPos
        rw [if_neg (zne c), if_neg (zne c)]
        by_cases c2 : 0 < s.2.2.2.1
        · rw [if_pos (by omega), if_neg (by omega), if_pos (by omega)]
          exact ⟨r3, by show (zu τ.1 a 17 (τ.1 a 16) a 17).toInt = _; rw [zu_s]; exact (r5 (by omega)).1⟩
        · rw [if_neg (by omega), if_neg (by omega), if_neg (by omega)]
          have q48 := (h.1.1.2.2 48 (by unfold zQs; omega)).1
          have q49 := (h.1.1.2.2 49 (by unfold zQs; omega)).1
          have q67 := (h.1.1.2.2 67 (by unfold zQs; omega)).1
          have em : (-1 : Int32).toInt = -1 := by decide
          obtain ⟨t1, ht1⟩ : ∃ t : zS, t = (zu (zu τ.1 a 17 (-1)) a 18 (zu τ.1 a 17 (-1) a 19), τ.2.1, τ.2.2) := ⟨_, rfl⟩
          rw [← ht1]
          have f1 : zFr (fun c j => c ≠ a ∨ j = 50 ∨ j = 51) t1 (F_X11_begins a t1) := fr_X11_begins zFr.id (fun j => Or.inl (by rw [ht1]; exact q49)) (Or.inr (Or.inl rfl)) (Or.inr (Or.inr rfl))
          have f2 : zFr (fun c j => c ≠ a ∨ j = 50 ∨ j = 51) t1 (F_X11_keepsRow a (F_X11_begins a t1)) := fr_X11_keepsRow f1 (fun j => Or.inl (by rw [ht1]; exact q48))
          obtain ⟨r, hr⟩ : ∃ r : zS, r = F_X11_keepsRow a (F_X11_begins a t1) := ⟨_, rfl⟩
          rw [← hr] at f2 ⊢
          have v17 : r.1 a 17 = -1 := by
            rw [f2.2 a 17 (by rintro (z | z | z); · exact z rfl
                              · exact absurd z (by decide)
                              · exact absurd z (by decide)), ht1]
            show zu (zu τ.1 a 17 (-1)) a 18 _ a 17 = -1
            rw [zu_j _ _ _ _ _ (by decide), zu_s]
          have r2' : r.2.2 = τ.2.2 := by rw [f2.1, ht1]
          have w := w224 (a := a) (K := K) (K2 := F_X11_read_117 x7 a K n) 10000 0 0 (zu (zu r.1 a 57 0) a 62 0, r.2.1, r.2.2) (by decide) (by omega) (by omega)
          have q67' : (r.2.2 a 67).getD 0 ≠ a := by rw [r2']; exact q67
          refine ⟨w.1.trans (by omega), (congrArg Int32.toInt (w.2 q67')).trans ?_⟩
          show (zu (zu r.1 a 57 0) a 62 0 a 17).toInt = _
          rw [zu_j _ _ _ _ _ (by decide), zu_j _ _ _ _ _ (by decide), v17, em]
          exact (hp (by omega)).symm
      · have ea : aRun T (l + 1) s = aRun T l (aTell T s) := by rw [aRun, if_neg (zne c), if_neg c1]
        rw [if_pos (fun z => c1 z.2), ea]
        exact ih _ _ (xTell hd hT hK h c) (aP_tell hp) (fun z => by have := aTell_i z; omega) (by omega) l (fun z => by have := aTell_i z; omega) (by omega)
    · have ea : aRun T (l + 1) s = s := by rw [aRun, if_pos c]
      rw [if_neg (by omega), if_pos (by omega), if_pos (by omega), ea]
      unfold aAns aPos
      rw [if_pos c, if_pos c]
      exact ⟨h13, by show (zu τ.1 a 17 (τ.1 a 14) a 17).toInt = _; rw [zu_s]; exact h.1.2.2.2.1 c⟩
end ZW7
end
-- 35s.pure19
section
/-! THE CLASS' READ -/
def zCf (tt : Nat) (σ σ' : zS) : Prop := σ'.2 = σ.2 ∧ ∀ c, c ≠ tt → c ≠ (σ.2.2 tt 6).getD 0 → c ≠ (σ.2.2 tt 7).getD 0 → c ≠ (σ.2.2 tt 9).getD 0 → σ'.1 c = σ.1 c
theorem zCf.tr {tt : Nat} {σ σ1 σ2 : zS} (h : zCf tt σ σ1) (g : zCf tt σ1 σ2) : zCf tt σ σ2 := ⟨g.1.trans h.1, fun c h1 h2 h3 h4 => by
  have q := g.2 c h1
  rw [h.1] at q
  exact (q h2 h3 h4).trans (h.2 c h1 h2 h3 h4)⟩
theorem cPut {tt : Nat} {σ : zS} (j : Nat) (v : Int32) : zCf tt σ (zu σ.1 tt j v, σ.2.1, σ.2.2) := ⟨rfl, fun c h1 _ _ _ => zu_n _ _ _ h1⟩
theorem cArr {tt : Nat} {σ : zS} (j : Nat) (v : Int32) : zCf tt σ (zu σ.1 ((σ.2.2 tt 9).getD 0) j v, σ.2.1, σ.2.2) := ⟨rfl, fun c _ _ _ h4 => zu_n _ _ _ h4⟩
theorem cAdd {tt : Nat} {σ : zS} (x y : Int32) : zCf tt σ (F_X9_addStep tt x y σ) := by
  unfold F_X9_addStep
  simp only [zlt]
  split
  · refine ⟨rfl, fun c h1 h2 h3 _ => ?_⟩
    show zu (zu (zu σ.1 _ _ _) _ _ _) tt 8 _ c = _
    rw [zu_n _ _ _ h1, zu_n _ _ _ h3, zu_n _ _ _ h2]
  · exact ⟨rfl, fun _ _ _ _ _ => rfl⟩
theorem cClear_l {tt : Nat} : ∀ (n : Nat) (x : Int32) (τ : zS), zCf tt τ (F_X9_clear_12 tt n x τ) := by
  intro n
  induction n with
  | zero => intro x τ; exact ⟨rfl, fun _ _ _ _ _ => rfl⟩
  | succ n ih =>
    intro x τ
    rw [F_X9_clear_12]
    simp only [zlt]
    split
    · split
      · exact (((cArr _ _).tr (cAdd _ _)).tr (cAdd _ _)).tr (ih _ _)
      · exact (((cArr _ _).tr (cAdd _ _)).tr (cAdd _ _)).tr (ih _ _)
    · exact (((cPut 10 0).tr (cPut 11 0)).tr (cPut 12 1)).tr (cPut 13 0)
theorem cClear {tt : Nat} {σ : zS} : zCf tt σ (F_X9_clear tt σ) := by
  unfold F_X9_clear
  simp only [zlt]
  exact ((cPut 0 0).tr (cPut 8 0)).tr (cClear_l _ _ _)
def aZ : zA := (0, -1, 0, 0, -1, 0, 0, fun _ => (0, 0))
section ZV6
variable {P tk kA vA qA tt N m : Nat} {T : zTn} {σ : zS}
theorem vGo0 (hd : zVd P tk kA vA qA N) (h : zVs P tk kA vA qA tt N m T σ) (hk : 0 < m) (h8 : (σ.1 P 8).toInt = 0) (h10 : (σ.1 P 10).toInt = 0) (h11 : (σ.1 P 11).toInt = -1) (h6 : (σ.1 P 6).toInt = 0) (h7 : (σ.1 P 7).toInt = 0) : zV P tk kA vA qA tt N m T (F_X3_goTo P 0 σ) aZ := by
  obtain ⟨⟨l0, l1, l2, l3, l4, l5⟩, hm, ht, -⟩ := id h
  obtain ⟨d1, d2, d3, d4, d5, d6⟩ := hd
  have g0 : (σ.2.2 P 0).getD 0 = tk := by rw [l0]; rfl
  have g1 : (σ.2.2 tk 1).getD 0 = kA := by rw [l2]; rfl
  have g2 : (σ.2.2 tk 2).getD 0 = vA := by rw [l3]; rfl
  have g3 : (σ.2.2 tk 3).getD 0 = qA := by rw [l4]; rfl
  have en : (0 : Int32).toNatClampNeg = 0 := by decide
  have e0 : (0 : Int32).toInt = 0 := by decide
  have c1 : ¬ (1 : Int32).toInt = 0 := by decide
  unfold F_X3_goTo
  simp only [zlt, g0, g1, g2, g3, en, e0]
  rw [if_neg (by omega), if_pos (by omega), if_neg c1, if_neg c1, if_neg c1]
  have k1 : zu σ.1 P 2 (0 : Int32) kA 0 = σ.1 kA 0 := by rw [zu_n _ _ _ d2]
  have k2 : ∀ x, zu (zu σ.1 P 2 (0 : Int32)) P 3 x qA 0 = σ.1 qA 0 := fun x => by rw [zu_n _ _ _ d3, zu_n _ _ _ d3]
  simp only [k1, k2]
  obtain ⟨t1, t2, -, t3⟩ := ht 0
  have g : ∀ j, j ≠ 2 → j ≠ 3 → j ≠ 5 → zu (zu (zu σ.1 P 2 (0 : Int32)) P 3 (σ.1 kA 0)) P 5 (σ.1 qA 0) P j = σ.1 P j := fun j h1 h2 h3 => by rw [zu_j _ _ _ _ _ (fun z => h3 z.symm), zu_j _ _ _ _ _ (fun z => h2 z.symm), zu_j _ _ _ _ _ (fun z => h1 z.symm)]
  refine ⟨h.row ⟨d1, d2, d3, d4, d5, d6⟩ rfl (fun a ha => ?_) (fun a ha => ?_), ?_, fun z => absurd rfl z, fun _ => ⟨hk, ?_, ?_, ?_, ?_, ?_, ?_, ?_, ?_, ⟨Int.le_refl _, (by decide : (0 : Int) ≤ 11)⟩, fun p h1 h2 => ?_⟩⟩
  · show zu (zu (zu σ.1 P 2 _) P 3 _) P 5 _ a = _
    rw [zu_n _ _ _ ha, zu_n _ _ _ ha, zu_n _ _ _ ha]
  · show zu σ.2.1 P 4 _ a = _
    rw [zu_n _ _ _ ha]
  · show (zu (zu (zu σ.1 P 2 _) P 3 _) P 5 _ P 8).toInt = 0
    rw [g 8 (by decide) (by decide) (by decide)]; exact h8
  · show (zu (zu (zu σ.1 P 2 _) P 3 _) P 5 _ P 2).toInt = 0
    rw [zu_j _ _ _ _ _ (by decide), zu_j _ _ _ _ _ (by decide), zu_s]; exact e0
  · show (zu (zu (zu σ.1 P 2 _) P 3 _) P 5 _ P 3).toInt = _
    rw [zu_j _ _ _ _ _ (by decide), zu_s]; exact t1
  · show zu σ.2.1 P 4 _ P 4 = _
    rw [zu_s]; exact t2
  · show (zu (zu (zu σ.1 P 2 _) P 3 _) P 5 _ P 5).toInt = _
    rw [zu_s]; exact t3
  · show (zu (zu (zu σ.1 P 2 _) P 3 _) P 5 _ P 10).toInt = 0
    rw [g 10 (by decide) (by decide) (by decide)]; exact h10
  · show (zu (zu (zu σ.1 P 2 _) P 3 _) P 5 _ P 11).toInt = -1
    rw [g 11 (by decide) (by decide) (by decide)]; exact h11
  · show (zu (zu (zu σ.1 P 2 _) P 3 _) P 5 _ P 6).toInt = 0
    rw [g 6 (by decide) (by decide) (by decide)]; exact h6
  · show (zu (zu (zu σ.1 P 2 _) P 3 _) P 5 _ P 7).toInt = 0
    rw [g 7 (by decide) (by decide) (by decide)]; exact h7
  · have h1' : (p : Int) ≤ 0 := h1
    have h2' : p ≠ 0 ∨ (0 : Int) ≠ 0 := h2
    omega
/-- the tokens, out of the class' rows and the reference's names -/
def zTo (kA vA qA : Nat) (σ : zS) (M : Nat → Int64) : zTn := ((fun j => (σ.1 kA j).toInt), (fun j => (σ.2.1 vA j, M j)), (fun j => (σ.2.1 vA j).toInt32.toInt), fun j => (σ.1 qA j).toInt)
theorem vRead0 {p1 w n : Nat} {p2 : Int32} (hd : zVd P tk kA vA qA N) (hk : kA ≠ tk) (hq : qA ≠ tk) (hkq : kA ≠ qA) (hp : p1 ≠ tk ∧ p1 ≠ kA ∧ p1 ≠ qA) (hwv : w ≠ vA) (hn : p2.toInt = n) (hn2 : n ≤ 2000) (hl : zTl tk w kA vA qA σ) (l0 : σ.2.2 P 0 = some tk) (l5 : σ.2.2 tt 1 = some N) (htd : zTd P tk kA qA tt σ.2.2) (hby : ∀ j, -128 ≤ (σ.1 p1 j).toInt ∧ (σ.1 p1 j).toInt ≤ 127) :
    ∃ (m : Nat) (E : Nat → Nat), 0 < m ∧ m ≤ 401 ∧ zTk (σ.1 p1) n (σ.2.1 w) kA vA qA (F_X8_scan tk p1 p2 σ) m E ∧ (m = 401 ∨ 33 ≤ ((F_X8_scan tk p1 p2 σ).1 kA (m - 1)).toInt) ∧ ∀ M : Nat → Int64, zTK (zTo kA vA qA (F_X8_scan tk p1 p2 σ) M) m ∧ (F_X3_parse P p1 p2 tt σ).1.toInt = aAns (aRun (zTo kA vA qA (F_X8_scan tk p1 p2 σ) M) 500 aZ) ∧ ((F_X3_parse P p1 p2 tt σ).2.1 P 9).toInt = aPos (aRun (zTo kA vA qA (F_X8_scan tk p1 p2 σ) M) 500 aZ) := by
  obtain ⟨m, E, z1, z2, z3, z4, z5, z6⟩ := zsc hk hq hkq hp hwv hn hn2 hl hby
  refine ⟨m, E, z2, z3, z4, z5, fun M => ?_⟩
  have g0 : (σ.2.2 P 0).getD 0 = tk := by rw [l0]; rfl
  obtain ⟨τ, hτ⟩ : ∃ t : zS, t = F_X8_scan tk p1 p2 σ := ⟨_, rfl⟩
  rw [← hτ] at z1 z4 z5 z6
  obtain ⟨T, hT⟩ : ∃ t : zTn, t = zTo kA vA qA τ M := ⟨_, rfl⟩
  rw [← hτ, ← hT]
  have hK : zTK T m := by
    refine ⟨z2, z3, fun j h1 h2 h3 => ?_⟩
    by_cases c : j + 1 < m
    · exact c
    · have ej : j = m - 1 := by omega
      rcases z5 with z | z
      · omega
      · rw [hT] at h2
        have h2' : (τ.1 kA j).toInt < 33 := h2
        rw [ej] at h2'
        omega
  refine ⟨hK, ?_⟩
  obtain ⟨⟨d7, d8, d9, d10⟩, d11⟩ := htd
  obtain ⟨d1, d2, d3, d4, d5, d6⟩ := hd
  unfold F_X3_parse
  simp only [zlt, g0, ← hτ, zu_s]
  have gt : (some tt : Option Nat).getD 0 = tt := rfl
  simp only [gt]
  have cf := cClear (tt := tt) (σ := (τ.1, τ.2.1, zu τ.2.2 P 1 (some tt)))
  obtain ⟨C, hC⟩ : ∃ c : zS, c = F_X9_clear tt (τ.1, τ.2.1, zu τ.2.2 P 1 (some tt)) := ⟨_, rfl⟩
  rw [← hC] at cf ⊢
  have r0 : C.2.2 = zu σ.2.2 P 1 (some tt) := by rw [cf.1]; show zu τ.2.2 P 1 (some tt) = _; rw [z6.1]
  have r1 : C.2.1 = τ.2.1 := by rw [cf.1]
  have rt : ∀ j, (zu τ.2.2 P 1 (some tt) tt j) = σ.2.2 tt j := fun j => by rw [zu_n _ _ _ d7, z6.1]
  have fr : ∀ c, c ≠ tt → (∀ j, (j = 2 ∨ j = 3 ∨ j = 4 ∨ j = 5 ∨ j = 6 ∨ j = 7 ∨ j = 9) → (σ.2.2 tt j).getD 0 ≠ c) → C.1 c = τ.1 c := fun c h1 h2 => by
    refine cf.2 c h1 ?_ ?_ ?_
    · show c ≠ (zu τ.2.2 P 1 (some tt) tt 6).getD 0
      rw [rt]; exact fun z => h2 6 (by omega) z.symm
    · show c ≠ (zu τ.2.2 P 1 (some tt) tt 7).getD 0
      rw [rt]; exact fun z => h2 7 (by omega) z.symm
    · show c ≠ (zu τ.2.2 P 1 (some tt) tt 9).getD 0
      rw [rt]; exact fun z => h2 9 (by omega) z.symm
  have ftk := fr tk (fun z => d8 z.symm) (fun j hj => (d11 j hj).2.1)
  have fkA := fr kA (fun z => d9 z.symm) (fun j hj => (d11 j hj).2.2.1)
  have fqA := fr qA (fun z => d10 z.symm) (fun j hj => (d11 j hj).2.2.2)
  obtain ⟨hl0, hl1, hl2, hl3⟩ := hl
  have row : ∀ (X : Nat → Nat → Int32), (∀ c, c ≠ P → X c = C.1 c) → zVs P tk kA vA qA tt N m T (X, C.2.1, C.2.2) := fun X hX => by
    refine ⟨⟨?_, ?_, ?_, ?_, ?_, ?_⟩, ?_, fun j => ?_, ⟨d7, d8, d9, d10⟩, fun j hj => ?_⟩
    · show C.2.2 P 0 = _
      rw [r0, zu_j _ _ _ _ _ (by decide)]; exact l0
    · show C.2.2 P 1 = _
      rw [r0, zu_s]
    · show C.2.2 tk 1 = _
      rw [r0, zu_n _ _ _ d1]; exact hl1
    · show C.2.2 tk 2 = _
      rw [r0, zu_n _ _ _ d1]; exact hl2
    · show C.2.2 tk 3 = _
      rw [r0, zu_n _ _ _ d1]; exact hl3
    · show C.2.2 tt 1 = _
      rw [r0, zu_n _ _ _ d7]; exact l5
    · show (X tk 4).toInt = _
      rw [hX tk d1, ftk]; exact z1
    · show (X kA j).toInt = _ ∧ C.2.1 vA j = _ ∧ (C.2.1 vA j).toInt32.toInt = _ ∧ (X qA j).toInt = _
      rw [hX kA d2, hX qA d3, fkA, fqA, r1, hT]
      exact ⟨rfl, rfl, rfl, rfl⟩
    · show (C.2.2 tt j).getD 0 ≠ P ∧ _
      rw [show (X, C.2.1, C.2.2).2.2 tt j = σ.2.2 tt j by show C.2.2 tt j = _; rw [r0, zu_n _ _ _ d7]]
      exact d11 j hj
  have e0 : (0 : Int32).toInt = 0 := by decide
  have em : (-1 : Int32).toInt = -1 := by decide
  have v0 := vGo0 ⟨d1, d2, d3, d4, d5, d6⟩ (row (zu (zu (zu (zu (zu (zu C.1 P 6 0) P 7 0) P 8 0) P 9 (-1)) P 10 0) P 11 (-1)) (fun c hc => by rw [zu_n _ _ _ hc, zu_n _ _ _ hc, zu_n _ _ _ hc, zu_n _ _ _ hc, zu_n _ _ _ hc, zu_n _ _ _ hc])) z2
    (by show (zu _ P 11 _ P 8 : Int32).toInt = 0; rw [zu_j _ _ _ _ _ (by decide), zu_j _ _ _ _ _ (by decide), zu_j _ _ _ _ _ (by decide), zu_s]; exact e0)
    (by show (zu _ P 11 _ P 10 : Int32).toInt = 0; rw [zu_j _ _ _ _ _ (by decide), zu_s]; exact e0)
    (by show (zu _ P 11 _ P 11 : Int32).toInt = -1; rw [zu_s]; exact em)
    (by show (zu _ P 11 _ P 6 : Int32).toInt = 0; rw [zu_j _ _ _ _ _ (by decide), zu_j _ _ _ _ _ (by decide), zu_j _ _ _ _ _ (by decide), zu_j _ _ _ _ _ (by decide), zu_j _ _ _ _ _ (by decide), zu_s]; exact e0)
    (by show (zu _ P 11 _ P 7 : Int32).toInt = 0; rw [zu_j _ _ _ _ _ (by decide), zu_j _ _ _ _ _ (by decide), zu_j _ _ _ _ _ (by decide), zu_j _ _ _ _ _ (by decide), zu_s]; exact e0)
  exact (vParse ⟨d1, d2, d3, d4, d5, d6⟩ hK 10000 0 0 _ _ (by decide) (by omega) (by omega) v0 (fun _ => Nat.zero_le _) 500 (by omega))
end ZV6
end
-- 35t.pure20
section
/-! THE REFERENCE'S READ -/
noncomputable def zRi (a0 : Nat) (t16 : zS) : zS :=
  zLet ((0 : Int32)) fun v20 =>
  zLet ((zu t16.1 a0 11 v20, t16.2.1, t16.2.2)) fun s21 =>
  zLet ((0 : Int32)) fun v26 =>
  zLet ((zu s21.1 a0 12 v26, s21.2.1, s21.2.2)) fun s27 =>
  zLet ((0 : Int32)) fun v33 =>
  zLet ((zu s27.1 a0 13 v33, s27.2.1, s27.2.2)) fun s35 =>
  zLet ((0 : Int32)) fun v42 =>
  zLet ((zu s35.1 a0 15 v42, s35.2.1, s35.2.2)) fun s43 =>
  zLet ((1 : Int32)) fun v51 =>
  zLet (s43.1 a0 18) fun v52 =>
  zLet (v51 - v52) fun v53 =>
  zLet ((zu s43.1 a0 19 v53, s43.2.1, s43.2.2)) fun s54 =>
  zLet (s54.1 a0 19) fun v64 =>
  zLet (F_X11_plain a0 v64 s54) fun t65 =>
  zLet ((130 : Int32)) fun v75 =>
  zLet (t65.1 a0 19) fun v76 =>
  zLet (v75 * v76) fun v77 =>
  zLet ((zu t65.1 a0 32 v77, t65.2.1, t65.2.2)) fun s78 =>
  zLet ((420 : Int32)) fun v89 =>
  zLet (s78.1 a0 19) fun v90 =>
  zLet (v89 * v90) fun v91 =>
  zLet ((zu s78.1 a0 38 v91, s78.2.1, s78.2.2)) fun s92 =>
  zLet ((0 : Int32)) fun v104 =>
  zLet ((zu s92.1 a0 41 v104, s92.2.1, s92.2.2)) fun s105 =>
  zLet ((0 : Int32)) fun v118 =>
  zLet ((zu s105.1 a0 42 v118, s105.2.1, s105.2.2)) fun s119 =>
  s119

theorem znb (x : Int32) (h : -128 ≤ x.toInt ∧ x.toInt ≤ 127) : vp_nar .byte x = x := by
  show x.toInt8.toInt32 = x
  refine Int32.toInt_inj.mp ?_
  rw [Int8.toInt_toInt32, Int32.toInt_toInt8]
  exact Int.bmod_eq_of_le (by omega) (by omega)
def zPf (a : Nat) (σ σ' : zS) : Prop := σ'.2 = σ.2 ∧ ∀ c, (∀ j, zQs j → (σ.2.2 a j).getD 0 ≠ c) → σ'.1 c = σ.1 c
theorem zPf.tr {a : Nat} {σ σ1 σ2 : zS} (h : zPf a σ σ1) (g : zPf a σ1 σ2) : zPf a σ σ2 := ⟨g.1.trans h.1, fun c hc => by
  have q := g.2 c
  rw [h.1] at q
  exact (q hc).trans (h.2 c hc)⟩
theorem pArr {a : Nat} {σ : zS} (j i : Nat) (v : Int32) (hj : zQs j) : zPf a σ (zu σ.1 ((σ.2.2 a j).getD 0) i v, σ.2.1, σ.2.2) := ⟨rfl, fun c hc => zu_n _ _ _ (fun z => hc j hj z.symm)⟩
theorem pPlain_l {a : Nat} {p : Int32} : ∀ (n : Nat) (x : Int32) (τ : zS), zPf a τ (F_X11_plain_37 a p n x τ) := by
  intro n
  induction n with
  | zero => intro x τ; exact ⟨rfl, fun _ _ => rfl⟩
  | succ n ih =>
    intro x τ
    have q30 : zQs 30 := by unfold zQs; omega
    have q31 : zQs 31 := by unfold zQs; omega
    rw [F_X11_plain_37]
    simp only [zlt]
    split
    · exact ((pArr 30 _ _ q30).tr (pArr 31 _ _ q31)).tr (ih _ _)
    · exact ⟨rfl, fun _ _ => rfl⟩
theorem pPlain {a : Nat} {p : Int32} {σ : zS} : zPf a σ (F_X11_plain a p σ) := by
  have q21 : zQs 21 := by unfold zQs; omega
  have q26 : zQs 26 := by unfold zQs; omega
  have q27 : zQs 27 := by unfold zQs; omega
  have q28 : zQs 28 := by unfold zQs; omega
  have q29 : zQs 29 := by unfold zQs; omega
  unfold F_X11_plain
  simp only [zlt]
  exact (((((pArr 21 _ _ q21).tr (pArr 26 _ _ q26)).tr (pArr 27 _ _ q27)).tr (pArr 28 _ _ q28)).tr (pArr 29 _ _ q29)).tr (pPlain_l _ _ _)
theorem zRi_f {a k q v : Nat} {t : zS} (hk : k ≠ a) (hq : q ≠ a) (hv : v ≠ a) (hs : ∀ j, zQs j → (t.2.2 a j).getD 0 ≠ a ∧ (t.2.2 a j).getD 0 ≠ k ∧ (t.2.2 a j).getD 0 ≠ q ∧ (t.2.2 a j).getD 0 ≠ v) :
    (zRi a t).2 = t.2 ∧ (zRi a t).1 k = t.1 k ∧ (zRi a t).1 q = t.1 q ∧ (zRi a t).1 v = t.1 v ∧ ∀ j, (j = 11 ∨ j = 12 ∨ j = 13 ∨ j = 15 ∨ j = 41 ∨ j = 42) → ((zRi a t).1 a j).toInt = 0 := by
  have e0 : (0 : Int32).toInt = 0 := by decide
  unfold zRi
  simp only [zlt]
  generalize hp : (1 : Int32) - _ = p
  generalize hp2 : zu (zu (zu (zu (zu t.1 a 11 0) a 12 0) a 13 0) a 15 0) a 19 p a 19 = p2
  generalize hX : F_X11_plain a p2 (zu (zu (zu (zu (zu t.1 a 11 0) a 12 0) a 13 0) a 15 0) a 19 p, t.2.1, t.2.2) = C
  have f := pPlain (a := a) (p := p2) (σ := (zu (zu (zu (zu (zu t.1 a 11 0) a 12 0) a 13 0) a 15 0) a 19 p, t.2.1, t.2.2))
  rw [hX] at f
  have fa := f.2 a (fun j hj => (hs j hj).1)
  have fk := f.2 k (fun j hj => (hs j hj).2.1)
  have fq := f.2 q (fun j hj => (hs j hj).2.2.1)
  have fv := f.2 v (fun j hj => (hs j hj).2.2.2)
  have n5 : ∀ c, c ≠ a → (zu (zu (zu (zu (zu t.1 a 11 0) a 12 0) a 13 0) a 15 0) a 19 p, t.2.1, t.2.2).1 c = t.1 c := fun c hc => by
    show zu (zu (zu (zu (zu t.1 a 11 0) a 12 0) a 13 0) a 15 0) a 19 p c = _
    rw [zu_n _ _ _ hc, zu_n _ _ _ hc, zu_n _ _ _ hc, zu_n _ _ _ hc, zu_n _ _ _ hc]
  refine ⟨f.1, ?_, ?_, ?_, fun j hj => ?_⟩
  · rw [zu_n _ _ _ hk, zu_n _ _ _ hk, zu_n _ _ _ hk, zu_n _ _ _ hk, fk]; exact n5 k hk
  · rw [zu_n _ _ _ hq, zu_n _ _ _ hq, zu_n _ _ _ hq, zu_n _ _ _ hq, fq]; exact n5 q hq
  · rw [zu_n _ _ _ hv, zu_n _ _ _ hv, zu_n _ _ _ hv, zu_n _ _ _ hv, fv]; exact n5 v hv
  · have fj : ∀ j, C.1 a j = zu (zu (zu (zu (zu t.1 a 11 0) a 12 0) a 13 0) a 15 0) a 19 p a j := fun j => by rw [fa]
    have out : ∀ j, j ≠ 32 → j ≠ 38 → j ≠ 41 → j ≠ 42 → ∀ x y, zu (zu (zu (zu C.1 a 32 x) a 38 y) a 41 0) a 42 0 a j = C.1 a j := fun j h1 h2 h3 h4 x y => by rw [zu_j _ _ _ _ _ (fun z => h4 z.symm), zu_j _ _ _ _ _ (fun z => h3 z.symm), zu_j _ _ _ _ _ (fun z => h2 z.symm), zu_j _ _ _ _ _ (fun z => h1 z.symm)]
    rcases hj with z | z | z | z | z | z <;> subst z
    · rw [out 11 (by decide) (by decide) (by decide) (by decide), fj, zu_j _ _ _ _ _ (by decide), zu_j _ _ _ _ _ (by decide), zu_j _ _ _ _ _ (by decide), zu_j _ _ _ _ _ (by decide), zu_s]; exact e0
    · rw [out 12 (by decide) (by decide) (by decide) (by decide), fj, zu_j _ _ _ _ _ (by decide), zu_j _ _ _ _ _ (by decide), zu_j _ _ _ _ _ (by decide), zu_s]; exact e0
    · rw [out 13 (by decide) (by decide) (by decide) (by decide), fj, zu_j _ _ _ _ _ (by decide), zu_j _ _ _ _ _ (by decide), zu_s]; exact e0
    · rw [out 15 (by decide) (by decide) (by decide) (by decide), fj, zu_j _ _ _ _ _ (by decide), zu_s]; exact e0
    · rw [zu_j _ _ _ _ _ (by decide), zu_s]; exact e0
    · rw [zu_s]; exact e0
theorem rcopy {a x bt n : Nat} (hxa : x ≠ a) (hbx : bt ≠ x) (hn2 : n ≤ 2000) : ∀ (fu : Nat) (x7 : Int32) (j : Nat) (τ : zS), x7.toInt = j → j ≤ n → n - j < fu → τ.2.2 a 3 = some x → τ.2.2 a 1 = some bt → (τ.1 a 4).toInt = n → (∀ i, -128 ≤ (τ.1 bt i).toInt ∧ (τ.1 bt i).toInt ≤ 127) →
    ∃ (f : Nat) (y : Int32) (τ' : zS), F_X11_read_10 a fu x7 τ = F_X11_read_117 y a (F_X11_read_10 a f) 10000 (zRi a (F_X11_cut a (zu τ'.1 a 2 0, τ'.2.1, τ'.2.2))) ∧ τ'.2 = τ.2 ∧ (∀ b, b ≠ x → τ'.1 b = τ.1 b) ∧ (∀ i, i < j → τ'.1 x i = τ.1 x i) ∧ (∀ i, j ≤ i → i < n → τ'.1 x i = τ.1 bt i) ∧ ∀ i, n ≤ i → τ'.1 x i = τ.1 x i := by
  intro fu
  induction fu with
  | zero => intro x7 j τ _ _ h; exact absurd h (by omega)
  | succ fu ih =>
    intro x7 j τ hx hj hm r3 r1 h4 hb
    by_cases c : j < n
    · have g3 : (τ.2.2 a 3).getD 0 = x := by rw [r3]; rfl
      have g1 : (τ.2.2 a 1).getD 0 = bt := by rw [r1]; rfl
      have ej : x7.toNatClampNeg = j := by rw [ztn, hx]; rfl
      obtain ⟨f, y, τ', u1, u2, u3, u4, u5, u6⟩ := ih (x7 + (1 : Int32)) (j + 1) (zu τ.1 x j (τ.1 bt j), τ.2.1, τ.2.2) (zp1 hx (by omega)) (by omega) (by omega) r3 r1 (by show (zu τ.1 x j _ a 4).toInt = _; rw [zu_n _ _ _ (fun z => hxa z.symm)]; exact h4) (fun i => by show -128 ≤ (zu τ.1 x j _ bt i).toInt ∧ (zu τ.1 x j _ bt i).toInt ≤ 127; rw [zu_n _ _ _ hbx]; exact hb i)
      refine ⟨f, y, τ', ?_, u2, fun b h => (u3 b h).trans (zu_n _ _ _ h), fun i hi => (u4 i (by omega)).trans (zu_j _ _ _ _ _ (by omega)), fun i h1 h2 => ?_, fun i hi => (u6 i hi).trans (zu_j _ _ _ _ _ (by omega))⟩
      · rw [F_X11_read_10]
        simp only [zlt, g3, g1, ej]
        rw [if_pos (by omega), znb _ (hb j)]
        exact u1
      · by_cases e : i = j
        · subst e
          exact (u4 i (by omega)).trans (zu_s _ _ _ _)
        · refine (u5 i (by omega) h2).trans ?_
          show zu τ.1 x j _ bt i = _
          rw [zu_n _ _ _ hbx]
    · refine ⟨fu, x7, τ, ?_, rfl, fun _ _ => rfl, fun _ _ => rfl, fun i h1 h2 => absurd h2 (by omega), fun _ _ => rfl⟩
      rw [F_X11_read_10]
      unfold zRi
      simp only [zlt]
      rw [if_neg (by omega)]
end
-- 35u.pure21
section
section CG
variable {b b' : Nat → Int32} {n a : Nat}
theorem zRun_cg {p : Int → Prop} {e : Nat} (hb : ∀ j, j < n → b j = b' j) (h : zRun p b n a e) : zRun p b' n a e := by
  refine ⟨h.1, fun j h2 h3 => ?_, fun z => h.2.2 ⟨z.1, by rw [hb _ z.1]; exact z.2⟩⟩
  have q := h.2.1 j h2 h3
  exact ⟨q.1, by rw [← hb j q.1]; exact q.2⟩
theorem zwd_cg (hb : ∀ j, j < n → b j = b' j) : ∀ k, (∀ j, j < k → a + j < n) → zwd b a k = zwd b' a k
  | 0, _ => rfl
  | k + 1, h => by rw [zwd, zwd, zwd_cg hb k (fun j hj => h j (by omega)), hb _ (h k (by omega))]
theorem zdv_cg (hb : ∀ j, j < n → b j = b' j) : ∀ k, (∀ j, j < k → a + j < n) → zdv b a k = zdv b' a k
  | 0, _ => rfl
  | k + 1, h => by rw [zdv, zdv, zdv_cg hb k (fun j hj => h j (by omega)), hb _ (h k (by omega))]
theorem zRT_cg {Y : Nat → Int64} {K Q V : Int} {M : Int64} {e : Nat} (hb : ∀ j, j < n → b j = b' j) (h : zRT b n Y a K Q V M e) : zRT b' n Y a K Q V M e := by
  obtain ⟨s, h1, h2, h3, h4⟩ := h
  refine ⟨s, zRun_cg hb h1, h2, h3, ?_⟩
  rcases h4 with h4 | ⟨l, g1, g2, g3⟩ | ⟨l, g1, g2, g3⟩ | ⟨l, g1, g2, g3, g4⟩
  · exact Or.inl h4
  · refine Or.inr (Or.inl ⟨l, by rw [← hb s l]; exact g1, zRun_cg hb g2, ?_⟩)
    rcases g3 with g3 | ⟨g3, g4, g5⟩
    · exact Or.inl g3
    · exact Or.inr ⟨g3, by rw [← zwd_cg hb _ (fun j hj => (g2.2.1 (s + j) (by omega) (by omega)).1)]; exact g4, g5⟩
  · refine Or.inr (Or.inr (Or.inl ⟨l, by rw [← hb s l]; exact g1, zRun_cg hb g2, ?_⟩))
    rcases g3 with g3 | ⟨g3, g4, g5⟩
    · exact Or.inl g3
    · exact Or.inr ⟨g3, g4, by rw [← zdv_cg hb _ (fun j hj => (g2.2.1 (s + j) (by omega) (by omega)).1)]; exact g5⟩
  · exact Or.inr (Or.inr (Or.inr ⟨l, by rw [← hb s l]; exact g1, by rw [← hb s l]; exact g2, g3, by rw [← hb s l]; exact g4⟩))
theorem zRq_cg {Y : Nat → Int64} {k q v nm m : Nat} {σ : zS} {E : Nat → Nat} (hb : ∀ j, j < n → b j = b' j) (h : zRq b n Y k q v nm σ m E) : zRq b' n Y k q v nm σ m E := ⟨h.1, fun j hj => zRT_cg hb (h.2.1 j hj), h.2.2⟩
end CG
theorem wRead0 {a x bt ky k q v nm nO n : Nat} {τ : zS} (hd : zRd a k q v nm) (hx : x ≠ a ∧ x ≠ k ∧ x ≠ q ∧ x ≠ v) (hbx : bt ≠ x) (hba : bt ≠ a) (hyn : ky ≠ nm) (hno : nm ≠ nO) (hl : zRl a k q v nm ky τ) (r3 : τ.2.2 a 3 = some x) (r1 : τ.2.2 a 1 = some bt) (r20 : τ.2.2 a 20 = some nO) (hn : (τ.1 a 2).toInt = n) (hn2 : n ≤ 2000) (hxb : ∀ j, -128 ≤ (τ.1 x j).toInt ∧ (τ.1 x j).toInt ≤ 127) (hb : ∀ j, -128 ≤ (τ.1 bt j).toInt ∧ (τ.1 bt j).toInt ≤ 127) (hs : ∀ j, zQs j → (τ.2.2 a j).getD 0 ≠ a ∧ (τ.2.2 a j).getD 0 ≠ k ∧ (τ.2.2 a j).getD 0 ≠ q ∧ (τ.2.2 a j).getD 0 ≠ v) :
    ∃ (τc : zS) (m' : Nat) (E' : Nat → Nat), m' ≤ 401 ∧ zRq (τ.1 bt) n (τ.2.1 ky) k q v nm τc m' E' ∧ (m' = 401 ∨ (0 < m' ∧ (τc.1 k (m' - 1)).toInt = 0)) ∧ ∀ (T : zTn) (m : Nat), zTm T m → zTK T m → (∀ j, j < m → (τc.1 k j).toInt = zrho (T.1 j) ∧ (τc.1 q j).toInt = T.2.2.2 j ∧ (T.1 j = 23 → (τc.1 v j).toInt = T.2.2.1 j) ∧ τc.2.1 nm j = (T.2.1 j).2) → (F_X11_read a τ).1.toInt = aAns (aRun T 500 aZ) ∧ ((F_X11_read a τ).2.1 a 17).toInt = aPos (aRun T 500 aZ) := by
  obtain ⟨f, y, τ', u1, u2, u3, u4, u5, u6⟩ := rcopy (a := a) hx.1 hbx hn2 10000 0 0 (zu τ.1 a 4 (τ.1 a 2), τ.2.1, τ.2.2) (by decide) (by omega) (by omega) r3 r1 (by show (zu τ.1 a 4 _ a 4).toInt = _; rw [zu_s]; exact hn) (fun i => by show -128 ≤ (zu τ.1 a 4 _ bt i).toInt ∧ (zu τ.1 a 4 _ bt i).toInt ≤ 127; rw [zu_n _ _ _ hba]; exact hb i)
  have w1 : τ'.2.1 = τ.2.1 := by rw [u2]
  have w2 : τ'.2.2 = τ.2.2 := by rw [u2]
  have tb : ∀ i, i < n → τ'.1 x i = τ.1 bt i := fun i hi => by
    rw [u5 i (Nat.zero_le _) hi]
    show zu τ.1 a 4 _ bt i = _
    rw [zu_n _ _ _ hba]
  have tx : ∀ i, n ≤ i → τ'.1 x i = τ.1 x i := fun i hi => by
    rw [u6 i hi]
    show zu τ.1 a 4 _ x i = _
    rw [zu_n _ _ _ hx.1]
  obtain ⟨N, hN, eN⟩ : ∃ N : Nat, 1700000 < N ∧ F_X11_cut a (zu τ'.1 a 2 0, τ'.2.1, τ'.2.2) = F_X11_cut_7 a N 0 (zu (zu τ'.1 a 2 0) a 10 0, τ'.2.1, τ'.2.2) := by
    unfold F_X11_cut
    simp only [zlt]
    exact ⟨2000000, by omega, rfl⟩
  have x3 : ∀ j, zu (zu τ'.1 a 2 (0 : Int32)) a 10 (0 : Int32) x j = τ'.1 x j := fun j => by rw [zu_n _ _ _ hx.1, zu_n _ _ _ hx.1]
  obtain ⟨m', E', z1, z2, z3, z4, z5⟩ := rc_loop hd hx hyn N 0 (zu (zu τ'.1 a 2 0) a 10 0, τ'.2.1, τ'.2.2) 0 0 0 (fun _ => 0) (n := n)
    (by
      refine ⟨by show τ'.2.2 a 3 = _; rw [w2]; exact r3, ?_, hn2, fun j => ?_⟩
      · show (zu (zu τ'.1 a 2 (0 : Int32)) a 10 (0 : Int32) a 4).toInt = _
        rw [zu_j _ _ _ _ _ (by decide), zu_j _ _ _ _ _ (by decide), u3 a (fun z => hx.1 z.symm)]
        show (zu τ.1 a 4 _ a 4).toInt = _
        rw [zu_s]; exact hn
      · show -128 ≤ (zu (zu τ'.1 a 2 (0 : Int32)) a 10 (0 : Int32) x j).toInt ∧ (zu (zu τ'.1 a 2 (0 : Int32)) a 10 (0 : Int32) x j).toInt ≤ 127
        rw [x3]
        by_cases c : j < n
        · rw [tb j c]; exact hb j
        · rw [tx j (by omega)]; exact hxb j)
    (by unfold zRl; show τ'.2.2 a 5 = _ ∧ τ'.2.2 a 6 = _ ∧ τ'.2.2 a 7 = _ ∧ τ'.2.2 a 8 = _ ∧ τ'.2.2 a 9 = _; rw [w2]; exact hl)
    (by show (zu (zu τ'.1 a 2 (0 : Int32)) a 10 (0 : Int32) a 10).toInt = _; rw [zu_s]; decide)
    (by omega) (by decide) (Nat.le_refl _) (Nat.zero_le _) rfl (fun j _ h => absurd h (by omega)) ⟨rfl, fun j hj => absurd hj (by omega), fun j hj => absurd hj (by omega)⟩ (fun z => absurd rfl z) (by omega)
  obtain ⟨C, hC⟩ : ∃ c : zS, c = F_X11_cut_7 a N 0 (zu (zu τ'.1 a 2 0) a 10 0, τ'.2.1, τ'.2.2) := ⟨_, rfl⟩
  rw [← hC] at z1 z3 z4 z5 eN
  have z3' : zRq (τ.1 bt) n (τ.2.1 ky) k q v nm C m' E' := by
    have z3b : zRq (fun j => zu (zu τ'.1 a 2 (0 : Int32)) a 10 (0 : Int32) x j) n (τ'.2.1 ky) k q v nm C m' E' := z3
    rw [w1] at z3b
    exact zRq_cg (fun j hj => by show zu (zu τ'.1 a 2 (0 : Int32)) a 10 (0 : Int32) x j = _; rw [x3, tb j hj]) z3b
  refine ⟨C, m', E', z2, z3', z4, fun T m hT hK ht => ?_⟩
  obtain ⟨e5, e6, e7, e8, e9⟩ := hl
  obtain ⟨dk, dq, dv, -, -, -⟩ := hd
  have c2 : C.2.2 = τ.2.2 := by rw [z5.1]; exact w2
  obtain ⟨i1, i2, i3, i4, i5⟩ := zRi_f (t := C) dk dq dv (by rw [c2]; exact hs)
  have j2 : (zRi a C).2.2 = τ.2.2 := by rw [i1]; exact c2
  have j1 : (zRi a C).2.1 = C.2.1 := by rw [i1]
  have base : zXo a k q v nm nO m T (zRi a C) aZ := by
    refine ⟨⟨⟨⟨?_, ?_, ?_, ?_, ?_⟩, fun j hj => ?_, fun j hj => ?_⟩, i5 13 (by omega), Int.le_refl _, fun z => absurd rfl z, fun _ => ⟨hK.1, i5 11 (by omega), i5 15 (by omega), Int.le_refl _, fun z => absurd rfl z, i5 41 (by omega), i5 42 (by omega), ⟨Int.le_refl _, (by decide : (0 : Int) ≤ 11)⟩, fun p h1 h2 => ?_⟩⟩, fun _ => i5 12 (by omega)⟩
    · rw [j2]; exact e5
    · rw [j2]; exact e6
    · rw [j2]; exact e7
    · rw [j2]; exact e8
    · rw [j2]; exact r20
    · rw [i2, i3, i4, j1]
      exact ht j hj
    · rw [j2]; exact hs j hj
    · have h1' : (p : Int) ≤ 0 := h1
      have h2' : p ≠ 0 ∨ (0 : Int) ≠ 0 := h2
      omega
  unfold F_X11_read
  simp only [zlt]
  rw [u1, eN]
  exact xRun ⟨dk, dq, dv, hno⟩ hT hK _ 10000 _ aZ base (fun _ => rfl) (fun _ => by omega) (by omega) 500 (fun _ => by omega) (by omega)
/-- both sides read alike -/
theorem zReadEq {P tk kA vA qA tt N p1 w n : Nat} {p2 : Int32} {a x bt ky k q v nm nO : Nat} {σ τ : zS}
    (hd : zVd P tk kA vA qA N) (hk : kA ≠ tk) (hq : qA ≠ tk) (hkq : kA ≠ qA) (hp : p1 ≠ tk ∧ p1 ≠ kA ∧ p1 ≠ qA) (hwv : w ≠ vA) (hn : p2.toInt = n) (hn2 : n ≤ 2000) (hl : zTl tk w kA vA qA σ) (l0 : σ.2.2 P 0 = some tk) (l5 : σ.2.2 tt 1 = some N) (htd : zTd P tk kA qA tt σ.2.2) (hby : ∀ j, -128 ≤ (σ.1 p1 j).toInt ∧ (σ.1 p1 j).toInt ≤ 127)
    (hd' : zRd a k q v nm) (hx : x ≠ a ∧ x ≠ k ∧ x ≠ q ∧ x ≠ v) (hbx : bt ≠ x) (hba : bt ≠ a) (hyn : ky ≠ nm) (hno : nm ≠ nO) (hl' : zRl a k q v nm ky τ) (r3 : τ.2.2 a 3 = some x) (r1 : τ.2.2 a 1 = some bt) (r20 : τ.2.2 a 20 = some nO) (hn' : (τ.1 a 2).toInt = n) (hxb : ∀ j, -128 ≤ (τ.1 x j).toInt ∧ (τ.1 x j).toInt ≤ 127) (hb : ∀ j, -128 ≤ (τ.1 bt j).toInt ∧ (τ.1 bt j).toInt ≤ 127) (hs : ∀ j, zQs j → (τ.2.2 a j).getD 0 ≠ a ∧ (τ.2.2 a j).getD 0 ≠ k ∧ (τ.2.2 a j).getD 0 ≠ q ∧ (τ.2.2 a j).getD 0 ≠ v)
    (hW : ∀ i, i < 22 → σ.2.1 w i = zw32 i) (hY : ∀ i, i < 22 → τ.2.1 ky i = zw27 i) (hB : ∀ j, j < n → σ.1 p1 j = τ.1 bt j) :
    (F_X3_parse P p1 p2 tt σ).1.toInt = (F_X11_read a τ).1.toInt ∧ ((F_X3_parse P p1 p2 tt σ).2.1 P 9).toInt = ((F_X11_read a τ).2.1 a 17).toInt := by
  obtain ⟨m, E, c1, c2, c3, c4, c5⟩ := vRead0 hd hk hq hkq hp hwv hn hn2 hl l0 l5 htd hby
  obtain ⟨τc, m', E', d1, d2, d3, d4⟩ := wRead0 hd' hx hbx hba hyn hno hl' r3 r1 r20 hn' hn2 hxb hb hs
  have d2' := zRq_cg (b' := σ.1 p1) (fun j hj => (hB j hj).symm) d2
  have z := zall hW hY c3 d2' c2 d3 c1 (by rcases d3 with y | y <;> omega)
  obtain ⟨hK, e, e9⟩ := c5 (fun j => τc.2.1 nm j)
  have hTm : zTm (zTo kA vA qA (F_X8_scan tk p1 p2 σ) (fun j => τc.2.1 nm j)) m := by
    refine ⟨fun j hj => zmono c3 j hj, fun j hj => ?_, fun j hj h22 => ?_⟩
    · obtain ⟨-, -, -, -, t1, t2, -, -⟩ := z j hj
      exact ⟨t1, t2⟩
    · obtain ⟨-, -, -, -, t1, t2, t3, -⟩ := z j hj
      exact t3 h22
  have d5 := d4 _ m hTm hK (fun j hj => by
    obtain ⟨-, -, t1, t2, -, -, -, t4⟩ := z j hj
    exact ⟨t2, t1.symm, fun y => (t4 y).symm, rfl⟩)
  exact ⟨e.trans d5.1.symm, e9.trans d5.2.symm⟩
end
