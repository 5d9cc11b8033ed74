/-! THE CLASS' UNITS, PRODUCTS, SUMS, with the codes they put down -/
abbrev zU0 (P tk kA vA qA tt N m A6 A7 : Nat) (T : zTn) (F : zS → zS) (o : Int) (h : Nat) : Prop := zUx P tk kA vA qA tt N m A6 A7 T (fun _ => True) (fun _ => True) (fun _ => False) F o h
abbrev zU1 (P tk kA vA qA tt N m A6 A7 : Nat) (T : zTn) (F : zS → zS) (o : Int) (h : Nat) : Prop := zUx P tk kA vA qA tt N m A6 A7 T hdP (fun K => ¬ (28 ≤ K ∧ K ≤ 29)) (fun x => x = 10 ∨ x = 15) F o h
abbrev zU2 (P tk kA vA qA tt N m A6 A7 : Nat) (T : zTn) (F : zS → zS) (o : Int) (h : Nat) : Prop := zUx P tk kA vA qA tt N m A6 A7 T hdS (fun K => ¬ (26 ≤ K ∧ K ≤ 29)) (fun x => x ≠ 6) F o h
section CX3
variable {P tk kA vA qA tt N m A6 A7 : Nat} {T : zTn} {σ σ' : zS} {s : zA} {n0 : Nat} {c : zCs}
theorem cProd (hd : zVd P tk kA vA qA N) (hT : zTK T m) (hP : tt ≠ P ∧ A6 ≠ P ∧ A7 ≠ P) {U : zS → zS} {o : Int} {h : Nat} (hU : zU0 P tk kA vA qA tt N m A6 A7 T U o h) (G : Nat → Int32 → zS → zS)
    (hG : ∀ (n : Nat) (x : Int32) (τ : zS), G (n + 1) x τ = if (400 : Int32).toInt < x.toInt then τ else if (F_X10_isWithin (τ.1 P 3) (28 : Int32) (29 : Int32)).toInt = 0 then τ else if (τ.1 P 3).toInt = (28 : Int32).toInt then G n (x + (1 : Int32)) (F_X9_addStep (((U (F_X3_take P (τ.1 P 3) τ)).2.2 P 1).getD 0) 4 0 (U (F_X3_take P (τ.1 P 3) τ))) else G n (x + (1 : Int32)) (F_X9_addStep (((U (F_X3_take P (τ.1 P 3) τ)).2.2 P 1).getD 0) 5 0 (U (F_X3_take P (τ.1 P 3) τ)))) (N0 : Nat) (hN0 : 401 < N0) : zU1 P tk kA vA qA tt N m A6 A7 T (fun σ => G N0 0 (U σ)) o (h + 1) := by
  intro σ s n0 c hv hz
  obtain ⟨s1, u1, u2⟩ := hU σ s n0 c hv hz
  have row := fun (ew : zCs) (hs : s1.1 = 0 → ((0 : Nat) ≤ s1.2.2.1 ∧ True) ∧ zCd tt A6 A7 n0 (U σ) (c ++ (ew ++ flw [])) ∧ n0 + c.length + (ew ++ flw []).length ≤ 10 + s1.2.2.1 ∧ zWl (ew ++ flw []) 0 (h + 1) 1 ∧ ∀ x ∈ ([] : List Int), x = 10 ∨ x = 15) => cRow (lo := 28) (C := 4) (D := 5) (H := hdP) (Wp := fun x => x = 10 ∨ x = 15) hd hT hP (by decide) (by decide) (by decide) (by decide) (by decide) (fun K w st out k1 k2 hw hst => by
    rw [decide_eq_true (by omega : 28 ≤ K), pl_w w out (fun x hx => by
      have := hw x hx
      exact ⟨by omega, fun _ => by omega⟩), pl_hP hst]) (fun _ _ _ _ => trivial) (fun _ z => z.elim) (fun K k1 k2 => by
    have : K = 28 ∨ K = 29 := by omega
    rcases this with rfl | rfl
    · exact Or.inl (by decide)
    · exact Or.inr (by decide)) hU G hG (n0 := n0) (c := c) N0 0 0 (U σ) s1 ew [] (by decide) (by omega) (by omega) u1 hs
  by_cases cf : s1.1 = 0
  · obtain ⟨⟨y1, y2, y3, -⟩, ew, w, y5, y6, y7, y8, k, y9⟩ := u2 cf
    have w0 : w = [] := by
      cases w with
      | nil => rfl
      | cons x w => exact (y8 x List.mem_cons_self).elim
    rw [w0] at y5 y6 y7 y9
    obtain ⟨s2, v1, v2⟩ := row ew (fun _ => ⟨⟨Nat.zero_le _, trivial⟩, y5, by have := (hz y1).2; omega, zWl_up (by omega) _ _ y7, fun x hx => by cases hx⟩)
    refine ⟨s2, v1, fun z => ?_⟩
    obtain ⟨⟨x1, x2, x3, -, x5⟩, ew', w', x6, x7, x8, x9, k2, x10⟩ := v2 z
    refine ⟨⟨y1, by omega, by rw [x3, y3], x5⟩, ew', w', x6, by omega, x8, x9, k2 + k, fun st out n hst => ?_⟩
    rw [← Nat.add_assoc, y9 st out _ trivial]
    exact x10 st out n hst
  · obtain ⟨s2, v1, v2⟩ := row [] (fun z => absurd z cf)
    exact ⟨s2, v1, fun z => absurd (v2 z).1.1 cf⟩
theorem cSum (hd : zVd P tk kA vA qA N) (hT : zTK T m) (hP : tt ≠ P ∧ A6 ≠ P ∧ A7 ≠ P) {U : zS → zS} {o : Int} {h : Nat} (hU : zU1 P tk kA vA qA tt N m A6 A7 T U o h) (G : Nat → Int32 → zS → zS)
    (hG : ∀ (n : Nat) (x : Int32) (τ : zS), G (n + 1) x τ = if (400 : Int32).toInt < x.toInt then τ else if (F_X10_isWithin (τ.1 P 3) (26 : Int32) (27 : Int32)).toInt = 0 then τ else if (τ.1 P 3).toInt = (26 : Int32).toInt then G n (x + (1 : Int32)) (F_X9_addStep (((U (F_X3_take P (τ.1 P 3) τ)).2.2 P 1).getD 0) 2 0 (U (F_X3_take P (τ.1 P 3) τ))) else G n (x + (1 : Int32)) (F_X9_addStep (((U (F_X3_take P (τ.1 P 3) τ)).2.2 P 1).getD 0) 3 0 (U (F_X3_take P (τ.1 P 3) τ)))) (N0 : Nat) (hN0 : 401 < N0) : zU2 P tk kA vA qA tt N m A6 A7 T (fun σ => G N0 0 (U σ)) o (h + 1) := by
  intro σ s n0 c hv hz
  obtain ⟨s1, u1, u2⟩ := hU σ s n0 c hv hz
  have row := fun (ew : zCs) (w : List Int) (hs : s1.1 = 0 → ((0 : Nat) ≤ s1.2.2.1 ∧ ¬ (28 ≤ T.1 s1.2.2.1 ∧ T.1 s1.2.2.1 ≤ 29)) ∧ zCd tt A6 A7 n0 (U σ) (c ++ (ew ++ flw w)) ∧ n0 + c.length + (ew ++ flw w).length ≤ 10 + s1.2.2.1 ∧ zWl (ew ++ flw w) 0 (h + 1) 1 ∧ ∀ x ∈ w, x ≠ 6) => cRow (lo := 26) (C := 2) (D := 3) (H := hdS) (Wp := fun x => x ≠ 6) hd hT hP (by decide) (by decide) (by decide) (by decide) (by decide) (fun K w st out k1 k2 hw hst => by
    rw [decide_eq_false (by omega : ¬ 28 ≤ K), pl_w w out (fun x hx => ⟨hw x hx, fun z => absurd z (by decide)⟩), pl_hS hst]) (fun K st k1 k2 => by
    intro x st' e
    injection e with e1 e2
    have : K = 26 ∨ K = 27 := by omega
    rcases this with rfl | rfl
    · exact Or.inr (Or.inl (e1.symm.trans (by decide)))
    · exact Or.inr (Or.inr (e1.symm.trans (by decide)))) (fun x hx => by omega) (fun K k1 k2 => by
    have : K = 26 ∨ K = 27 := by omega
    rcases this with rfl | rfl <;> decide) hU G hG (n0 := n0) (c := c) N0 0 0 (U σ) s1 ew w (by decide) (by omega) (by omega) u1 hs
  by_cases cf : s1.1 = 0
  · obtain ⟨⟨y1, y2, y3, y4⟩, ew, w, y5, y6, y7, y8, k, y9⟩ := u2 cf
    obtain ⟨s2, v1, v2⟩ := row ew w (fun _ => ⟨⟨Nat.zero_le _, y4⟩, y5, by have := (hz y1).2; omega, zWl_up (by omega) _ _ y7, fun x hx => by have := y8 x hx; omega⟩)
    refine ⟨s2, v1, fun z => ?_⟩
    obtain ⟨⟨x1, x2, x3, x4, x5⟩, ew', w', x6, x7, x8, x9, k2, x10⟩ := v2 z
    refine ⟨⟨y1, by omega, by rw [x3, y3], by omega⟩, ew', w', x6, by omega, x8, x9, k2 + k, fun st out n hst => ?_⟩
    rw [← Nat.add_assoc, y9 st out _ (fun x st' e => Or.inl (hst x st' e))]
    exact x10 st out n hst
  · obtain ⟨s2, v1, v2⟩ := row [] [] (fun z => absurd z cf)
    exact ⟨s2, v1, fun z => absurd (v2 z).1.1 cf⟩
theorem cUnit0 (hd : zVd P tk kA vA qA N) (hT : zTK T m) (hP : tt ≠ P ∧ A6 ≠ P ∧ A7 ≠ P) (hN : zNn T m) (o : Int) {h : Nat} (h1 : 1 ≤ h) (hv : zV P tk kA vA qA tt N m T σ s) (hz : s.1 = 0 → zCd tt A6 A7 n0 σ c ∧ n0 + c.length ≤ 10 + s.2.2.1) (hc : s.1 = 0) (cu : T.1 s.2.2.1 = 23 ∨ (13 ≤ T.1 s.2.2.1 ∧ T.1 s.2.2.1 < 22)) (A B : Int32) (hA : A.toInt = (aUc T s).1) (hB : B.toInt = (aUc T s).2) : zUo P tk kA vA qA tt N m A6 A7 T (fun _ => True) (fun _ => True) (fun _ => False) o h s n0 c (F_X3_take P ((F_X9_addStep ((σ.2.2 P 1).getD 0) A B σ).1 P 3) (F_X9_addStep ((σ.2.2 P 1).getD 0) A B σ)) := by
  rw [vtt hv]
  have g1 := vStep hv A B
  obtain ⟨r1, -, r3, -⟩ := g1.2.2.2 hc
  have t1 := vTake hd hT g1 ((F_X9_addStep tt A B σ).1 P 3) (by omega)
  rw [r3] at t1
  have rk := hT.2.1
  obtain ⟨z1, z2⟩ := hz hc
  have s1 := cTake (cStep z1 (by omega) A B hA hB) hP ((F_X9_addStep tt A B σ).1 P 3)
  refine ⟨_, t1, fun z => ?_⟩
  have q := aTake_i z
  refine ⟨⟨hc, by omega, q.2.2.2, trivial⟩, [aUc T s], [], s1, ?_, zWl_up h1 _ _ (zWl_u hN r1 cu), (fun x hx => by cases hx), 1, fun st out n _ => ?_⟩
  · show 1 + s.2.2.1 ≤ _
    omega
  · rw [aX, if_neg (zne hc), if_pos cu]
    rfl
theorem cUnitF (hd : zVd P tk kA vA qA N) (o : Int) {h : Nat} (hv : zV P tk kA vA qA tt N m T σ s) (A : Int32) (hA : A.toInt ≠ 0) {H : List Int → Prop} {Z Wp : Int → Prop} : zUo P tk kA vA qA tt N m A6 A7 T H Z Wp o h s n0 c (F_X3_fail P A σ) := ⟨_, vFail hd hv A hA, fun z => absurd z (aFail_1 hA)⟩
theorem cUnitB (hd : zVd P tk kA vA qA N) (hT : zTK T m) (hP : tt ≠ P ∧ A6 ≠ P ∧ A7 ≠ P) {F : zS → zS} (o : Int) {h : Nat} (ho : 0 ≤ o ∧ o < 6) (hS : zU2 P tk kA vA qA tt N m A6 A7 T F (o + 1) h) (hv : zV P tk kA vA qA tt N m T σ s) (hz : s.1 = 0 → zCd tt A6 A7 n0 σ c ∧ n0 + c.length ≤ 10 + s.2.2.1) (hc : s.1 = 0) (c1 : T.1 s.2.2.1 = 31) : zUo P tk kA vA qA tt N m A6 A7 T (fun _ => True) (fun _ => True) (fun _ => False) o h s n0 c (F_X3_take P 32 (F (F_X3_take P (σ.1 P 3) σ))) := by
  have e32 : (32 : Int32).toInt = 32 := by decide
  have r3 := (hv.2.2.2 hc).2.2.1
  have t1 := vTake hd hT hv (σ.1 P 3) (by omega)
  rw [r3, c1] at t1
  obtain ⟨z1, z2⟩ := hz hc
  obtain ⟨s2, u1, u2⟩ := hS _ _ n0 c t1 (fun z => ⟨cTake z1 hP _, by rw [(aTake_i z).2.2.1]; omega⟩)
  have t2 := vTake hd hT u1 32 (by decide)
  rw [e32] at t2
  refine ⟨_, t2, fun z => ?_⟩
  have q := aTake_i z
  obtain ⟨⟨y1, y2, y3, y4⟩, ew, w, y5, y6, y7, y8, k, y9⟩ := u2 q.1
  have q3 := aTake_i y1
  have en : (ew ++ flw w) ++ flw [] = ew ++ flw w := List.append_nil _
  refine ⟨⟨hc, by omega, by rw [q.2.2.2, y3, q3.2.2.2], trivial⟩, ew ++ flw w, [], by rw [en]; exact cTake y5 hP _, by rw [en]; omega, by rw [en]; exact y7, (fun x hx => by cases hx), 1 + k + 1, fun st out n _ => ?_⟩
  have h6 : hdS (6 :: st) := fun x st' e => by
    injection e with e1 e2
    exact e1.symm
  have e1 : aX T (n + (1 + k + 1)) true o s st out = aX T (n + 1 + k) true (o + 1) (aTake T 31 s) (6 :: st) out := by
    show aX T ((n + (1 + k)) + 1) true o s st out = _
    rw [aX, if_neg (zne hc), if_neg (by omega), if_pos ⟨c1, ho.2⟩, Nat.add_assoc]
  rw [e1, y9 _ _ _ h6, aX, if_neg (fun z => z q.1), if_neg y4, if_pos (by omega), if_pos q.2.1, show o + 1 - 1 = o by omega, pl_w w _ (fun x hx => ⟨y8 x hx, fun z => absurd z (by decide)⟩), pl_hS h6]
  show aX T n false o (aTake T 32 s2) st (out ++ ew ++ flw w) = aX T n false o (aTake T 32 s2) st (out ++ (ew ++ flw w))
  rw [List.append_assoc]
theorem cUnit_6 (hd : zVd P tk kA vA qA N) (hT : zTK T m) (hP : tt ≠ P ∧ A6 ≠ P ∧ A7 ≠ P) (hN : zNn T m) (p : Int32) (hp : p.toInt = 6) : zU0 P tk kA vA qA tt N m A6 A7 T (F_X3_unit_o6 P p) 6 1 := by
  intro σ s n0 c h hz
  have e23 : (23 : Int32).toInt = 23 := by decide
  have e13 : (13 : Int32).toInt = 13 := by decide
  have e31 : (31 : Int32).toInt = 31 := by decide
  have e22 : (22 : Int32).toInt = 22 := by decide
  have e6 : (6 : Int32).toInt = 6 := by decide
  have r : (s.1 = 0 → (σ.1 P 3).toInt = T.1 s.2.2.1) ∧ (s.1 ≠ 0 → (σ.1 P 3).toInt = 34) := ⟨fun z => (h.2.2.2 z).2.2.1, fun z => (h.2.2.1 z).2⟩
  unfold F_X3_unit_o6
  simp only [zlt, e23, e13, e31, e22, e6]
  by_cases c1 : (σ.1 P 3).toInt = 23
  · rw [if_pos c1]
    have hc : s.1 = 0 := Classical.byContradiction (fun z => by have := r.2 z; omega)
    have rr := r.1 hc
    have cu : T.1 s.2.2.1 = 23 := by omega
    have v4 := (h.2.2.2 hc).2.2.2.1
    have tv := h.1.2.2.1 s.2.2.1
    refine cUnit0 hd hT hP hN 6 (by decide) h hz hc (Or.inl cu) _ _ ?_ ?_
    · unfold aUc
      rw [if_pos cu]
      exact (by decide : (0 : Int32).toInt = 0)
    · unfold aUc
      rw [if_pos cu, v4, ← tv.2.1]
      exact tv.2.2.1
  rw [if_neg c1]
  by_cases c2 : (σ.1 P 3).toInt < 13
  · rw [if_pos c2, if_neg (by omega), if_neg (by omega)]
    exact cUnitF hd 6 h 1 (by decide)
  rw [if_neg c2]
  by_cases c3 : (σ.1 P 3).toInt < 22
  · rw [if_pos c3]
    have hc : s.1 = 0 := Classical.byContradiction (fun z => by have := r.2 z; omega)
    have rr := r.1 hc
    refine cUnit0 hd hT hP hN 6 (by decide) h hz hc (Or.inr (by omega)) _ _ ?_ ?_
    · unfold aUc
      rw [if_neg (by omega)]
      exact (by decide : (1 : Int32).toInt = 1)
    · unfold aUc
      rw [if_neg (by omega), zb_sub (by rw [e13]; omega) (by rw [e13]; omega), e13, rr]
  rw [if_neg c3]
  by_cases c4 : (σ.1 P 3).toInt = 31
  · rw [if_pos c4, if_neg (by omega), if_pos c4]
    exact cUnitF hd 6 h 2 (by decide)
  · rw [if_neg c4, if_neg c4]
    exact cUnitF hd 6 h 1 (by decide)
theorem cProd_6 (hd : zVd P tk kA vA qA N) (hT : zTK T m) (hP : tt ≠ P ∧ A6 ≠ P ∧ A7 ≠ P) (hN : zNn T m) (p : Int32) (hp : p.toInt = 6) : zU1 P tk kA vA qA tt N m A6 A7 T (F_X3_product_o6 P p) 6 2 := by
  intro σ s n0 c h hz
  obtain ⟨n, hn, e⟩ : ∃ n : Nat, n = 10000 ∧ F_X3_product_o6 P p σ = F_X3_product_o6_7 P p n 0 (F_X3_unit_o6 P p σ) := by
    unfold F_X3_product_o6
    simp only [zlt]
    exact ⟨10000, rfl, rfl⟩
  rw [e]
  exact cProd hd hT hP (cUnit_6 hd hT hP hN p hp) (F_X3_product_o6_7 P p) (fun n x τ => by rw [F_X3_product_o6_7]; simp only [zlt]) n (by omega) σ s n0 c h hz
theorem cSum_6 (hd : zVd P tk kA vA qA N) (hT : zTK T m) (hP : tt ≠ P ∧ A6 ≠ P ∧ A7 ≠ P) (hN : zNn T m) (p : Int32) (hp : p.toInt = 6) : zU2 P tk kA vA qA tt N m A6 A7 T (F_X3_sum_o6 P p) 6 3 := by
  intro σ s n0 c h hz
  obtain ⟨n, hn, e⟩ : ∃ n : Nat, n = 10000 ∧ F_X3_sum_o6 P p σ = F_X3_sum_o6_7 P p n 0 (F_X3_product_o6 P p σ) := by
    unfold F_X3_sum_o6
    simp only [zlt]
    exact ⟨10000, rfl, rfl⟩
  rw [e]
  exact cSum hd hT hP (cProd_6 hd hT hP hN p hp) (F_X3_sum_o6_7 P p) (fun n x τ => by rw [F_X3_sum_o6_7]; simp only [zlt]) n (by omega) σ s n0 c h hz
theorem cUnit_5 (hd : zVd P tk kA vA qA N) (hT : zTK T m) (hP : tt ≠ P ∧ A6 ≠ P ∧ A7 ≠ P) (hN : zNn T m) (p : Int32) (hp : p.toInt = 5) (hS : ∀ p : Int32, p.toInt = 6 → zU2 P tk kA vA qA tt N m A6 A7 T (F_X3_sum_o6 P p) 6 3) : zU0 P tk kA vA qA tt N m A6 A7 T (F_X3_unit_o5 P p) 5 3 := by
  intro σ s n0 c h hz
  have e23 : (23 : Int32).toInt = 23 := by decide
  have e13 : (13 : Int32).toInt = 13 := by decide
  have e31 : (31 : Int32).toInt = 31 := by decide
  have e22 : (22 : Int32).toInt = 22 := by decide
  have e6 : (6 : Int32).toInt = 6 := by decide
  have r : (s.1 = 0 → (σ.1 P 3).toInt = T.1 s.2.2.1) ∧ (s.1 ≠ 0 → (σ.1 P 3).toInt = 34) := ⟨fun z => (h.2.2.2 z).2.2.1, fun z => (h.2.2.1 z).2⟩
  unfold F_X3_unit_o5
  simp only [zlt, e23, e13, e31, e22, e6]
  by_cases c1 : (σ.1 P 3).toInt = 23
  · rw [if_pos c1]
    have hc : s.1 = 0 := Classical.byContradiction (fun z => by have := r.2 z; omega)
    have rr := r.1 hc
    have cu : T.1 s.2.2.1 = 23 := by omega
    have v4 := (h.2.2.2 hc).2.2.2.1
    have tv := h.1.2.2.1 s.2.2.1
    refine cUnit0 hd hT hP hN 5 (by decide) h hz hc (Or.inl cu) _ _ ?_ ?_
    · unfold aUc
      rw [if_pos cu]
      exact (by decide : (0 : Int32).toInt = 0)
    · unfold aUc
      rw [if_pos cu, v4, ← tv.2.1]
      exact tv.2.2.1
  rw [if_neg c1]
  by_cases c2 : (σ.1 P 3).toInt < 13
  · rw [if_pos c2, if_neg (by omega), if_neg (by omega)]
    exact cUnitF hd 5 h 1 (by decide)
  rw [if_neg c2]
  by_cases c3 : (σ.1 P 3).toInt < 22
  · rw [if_pos c3]
    have hc : s.1 = 0 := Classical.byContradiction (fun z => by have := r.2 z; omega)
    have rr := r.1 hc
    refine cUnit0 hd hT hP hN 5 (by decide) h hz hc (Or.inr (by omega)) _ _ ?_ ?_
    · unfold aUc
      rw [if_neg (by omega)]
      exact (by decide : (1 : Int32).toInt = 1)
    · unfold aUc
      rw [if_neg (by omega), zb_sub (by rw [e13]; omega) (by rw [e13]; omega), e13, rr]
  rw [if_neg c3]
  by_cases c4 : (σ.1 P 3).toInt = 31
  · have hc : s.1 = 0 := Classical.byContradiction (fun z => by have := r.2 z; omega)
    have rr := r.1 hc
    rw [if_pos c4, if_pos (by omega)]
    have e1 : (1 : Int32).toInt = 1 := by decide
    exact cUnitB hd hT hP 5 (by decide) (hS (p + 1) (by rw [zb_add (by rw [hp, e1]; decide) (by rw [hp, e1]; decide), hp, e1]; rfl)) h hz hc (by omega)
  · rw [if_neg c4, if_neg c4]
    exact cUnitF hd 5 h 1 (by decide)
theorem cProd_5 (hd : zVd P tk kA vA qA N) (hT : zTK T m) (hP : tt ≠ P ∧ A6 ≠ P ∧ A7 ≠ P) (hN : zNn T m) (p : Int32) (hp : p.toInt = 5) : zU1 P tk kA vA qA tt N m A6 A7 T (F_X3_product_o5 P p) 5 4 := by
  intro σ s n0 c h hz
  obtain ⟨n, hn, e⟩ : ∃ n : Nat, n = 10000 ∧ F_X3_product_o5 P p σ = F_X3_product_o5_7 P p n 0 (F_X3_unit_o5 P p σ) := by
    unfold F_X3_product_o5
    simp only [zlt]
    exact ⟨10000, rfl, rfl⟩
  rw [e]
  exact cProd hd hT hP (cUnit_5 hd hT hP hN p hp (fun p hp => cSum_6 hd hT hP hN p hp)) (F_X3_product_o5_7 P p) (fun n x τ => by rw [F_X3_product_o5_7]; simp only [zlt]) n (by omega) σ s n0 c h hz
theorem cSum_5 (hd : zVd P tk kA vA qA N) (hT : zTK T m) (hP : tt ≠ P ∧ A6 ≠ P ∧ A7 ≠ P) (hN : zNn T m) (p : Int32) (hp : p.toInt = 5) : zU2 P tk kA vA qA tt N m A6 A7 T (F_X3_sum_o5 P p) 5 5 := by
  intro σ s n0 c h hz
  obtain ⟨n, hn, e⟩ : ∃ n : Nat, n = 10000 ∧ F_X3_sum_o5 P p σ = F_X3_sum_o5_7 P p n 0 (F_X3_product_o5 P p σ) := by
    unfold F_X3_sum_o5
    simp only [zlt]
    exact ⟨10000, rfl, rfl⟩
  rw [e]
  exact cSum hd hT hP (cProd_5 hd hT hP hN p hp) (F_X3_sum_o5_7 P p) (fun n x τ => by rw [F_X3_sum_o5_7]; simp only [zlt]) n (by omega) σ s n0 c h hz
theorem cUnit_4 (hd : zVd P tk kA vA qA N) (hT : zTK T m) (hP : tt ≠ P ∧ A6 ≠ P ∧ A7 ≠ P) (hN : zNn T m) (p : Int32) (hp : p.toInt = 4) (hS : ∀ p : Int32, p.toInt = 5 → zU2 P tk kA vA qA tt N m A6 A7 T (F_X3_sum_o5 P p) 5 5) : zU0 P tk kA vA qA tt N m A6 A7 T (F_X3_unit_o4 P p) 4 5 := by
  intro σ s n0 c h hz
  have e23 : (23 : Int32).toInt = 23 := by decide
  have e13 : (13 : Int32).toInt = 13 := by decide
  have e31 : (31 : Int32).toInt = 31 := by decide
  have e22 : (22 : Int32).toInt = 22 := by decide
  have e6 : (6 : Int32).toInt = 6 := by decide
  have r : (s.1 = 0 → (σ.1 P 3).toInt = T.1 s.2.2.1) ∧ (s.1 ≠ 0 → (σ.1 P 3).toInt = 34) := ⟨fun z => (h.2.2.2 z).2.2.1, fun z => (h.2.2.1 z).2⟩
  unfold F_X3_unit_o4
  simp only [zlt, e23, e13, e31, e22, e6]
  by_cases c1 : (σ.1 P 3).toInt = 23
  · rw [if_pos c1]
    have hc : s.1 = 0 := Classical.byContradiction (fun z => by have := r.2 z; omega)
    have rr := r.1 hc
    have cu : T.1 s.2.2.1 = 23 := by omega
    have v4 := (h.2.2.2 hc).2.2.2.1
    have tv := h.1.2.2.1 s.2.2.1
    refine cUnit0 hd hT hP hN 4 (by decide) h hz hc (Or.inl cu) _ _ ?_ ?_
    · unfold aUc
      rw [if_pos cu]
      exact (by decide : (0 : Int32).toInt = 0)
    · unfold aUc
      rw [if_pos cu, v4, ← tv.2.1]
      exact tv.2.2.1
  rw [if_neg c1]
  by_cases c2 : (σ.1 P 3).toInt < 13
  · rw [if_pos c2, if_neg (by omega), if_neg (by omega)]
    exact cUnitF hd 4 h 1 (by decide)
  rw [if_neg c2]
  by_cases c3 : (σ.1 P 3).toInt < 22
  · rw [if_pos c3]
    have hc : s.1 = 0 := Classical.byContradiction (fun z => by have := r.2 z; omega)
    have rr := r.1 hc
    refine cUnit0 hd hT hP hN 4 (by decide) h hz hc (Or.inr (by omega)) _ _ ?_ ?_
    · unfold aUc
      rw [if_neg (by omega)]
      exact (by decide : (1 : Int32).toInt = 1)
    · unfold aUc
      rw [if_neg (by omega), zb_sub (by rw [e13]; omega) (by rw [e13]; omega), e13, rr]
  rw [if_neg c3]
  by_cases c4 : (σ.1 P 3).toInt = 31
  · have hc : s.1 = 0 := Classical.byContradiction (fun z => by have := r.2 z; omega)
    have rr := r.1 hc
    rw [if_pos c4, if_pos (by omega)]
    have e1 : (1 : Int32).toInt = 1 := by decide
    exact cUnitB hd hT hP 4 (by decide) (hS (p + 1) (by rw [zb_add (by rw [hp, e1]; decide) (by rw [hp, e1]; decide), hp, e1]; rfl)) h hz hc (by omega)
  · rw [if_neg c4, if_neg c4]
    exact cUnitF hd 4 h 1 (by decide)
theorem cProd_4 (hd : zVd P tk kA vA qA N) (hT : zTK T m) (hP : tt ≠ P ∧ A6 ≠ P ∧ A7 ≠ P) (hN : zNn T m) (p : Int32) (hp : p.toInt = 4) : zU1 P tk kA vA qA tt N m A6 A7 T (F_X3_product_o4 P p) 4 6 := by
  intro σ s n0 c h hz
  obtain ⟨n, hn, e⟩ : ∃ n : Nat, n = 10000 ∧ F_X3_product_o4 P p σ = F_X3_product_o4_7 P p n 0 (F_X3_unit_o4 P p σ) := by
    unfold F_X3_product_o4
    simp only [zlt]
    exact ⟨10000, rfl, rfl⟩
  rw [e]
  exact cProd hd hT hP (cUnit_4 hd hT hP hN p hp (fun p hp => cSum_5 hd hT hP hN p hp)) (F_X3_product_o4_7 P p) (fun n x τ => by rw [F_X3_product_o4_7]; simp only [zlt]) n (by omega) σ s n0 c h hz
theorem cSum_4 (hd : zVd P tk kA vA qA N) (hT : zTK T m) (hP : tt ≠ P ∧ A6 ≠ P ∧ A7 ≠ P) (hN : zNn T m) (p : Int32) (hp : p.toInt = 4) : zU2 P tk kA vA qA tt N m A6 A7 T (F_X3_sum_o4 P p) 4 7 := by
  intro σ s n0 c h hz
  obtain ⟨n, hn, e⟩ : ∃ n : Nat, n = 10000 ∧ F_X3_sum_o4 P p σ = F_X3_sum_o4_7 P p n 0 (F_X3_product_o4 P p σ) := by
    unfold F_X3_sum_o4
    simp only [zlt]
    exact ⟨10000, rfl, rfl⟩
  rw [e]
  exact cSum hd hT hP (cProd_4 hd hT hP hN p hp) (F_X3_sum_o4_7 P p) (fun n x τ => by rw [F_X3_sum_o4_7]; simp only [zlt]) n (by omega) σ s n0 c h hz
theorem cUnit_3 (hd : zVd P tk kA vA qA N) (hT : zTK T m) (hP : tt ≠ P ∧ A6 ≠ P ∧ A7 ≠ P) (hN : zNn T m) (p : Int32) (hp : p.toInt = 3) (hS : ∀ p : Int32, p.toInt = 4 → zU2 P tk kA vA qA tt N m A6 A7 T (F_X3_sum_o4 P p) 4 7) : zU0 P tk kA vA qA tt N m A6 A7 T (F_X3_unit_o3 P p) 3 7 := by
  intro σ s n0 c h hz
  have e23 : (23 : Int32).toInt = 23 := by decide
  have e13 : (13 : Int32).toInt = 13 := by decide
  have e31 : (31 : Int32).toInt = 31 := by decide
  have e22 : (22 : Int32).toInt = 22 := by decide
  have e6 : (6 : Int32).toInt = 6 := by decide
  have r : (s.1 = 0 → (σ.1 P 3).toInt = T.1 s.2.2.1) ∧ (s.1 ≠ 0 → (σ.1 P 3).toInt = 34) := ⟨fun z => (h.2.2.2 z).2.2.1, fun z => (h.2.2.1 z).2⟩
  unfold F_X3_unit_o3
  simp only [zlt, e23, e13, e31, e22, e6]
  by_cases c1 : (σ.1 P 3).toInt = 23
  · rw [if_pos c1]
    have hc : s.1 = 0 := Classical.byContradiction (fun z => by have := r.2 z; omega)
    have rr := r.1 hc
    have cu : T.1 s.2.2.1 = 23 := by omega
    have v4 := (h.2.2.2 hc).2.2.2.1
    have tv := h.1.2.2.1 s.2.2.1
    refine cUnit0 hd hT hP hN 3 (by decide) h hz hc (Or.inl cu) _ _ ?_ ?_
    · unfold aUc
      rw [if_pos cu]
      exact (by decide : (0 : Int32).toInt = 0)
    · unfold aUc
      rw [if_pos cu, v4, ← tv.2.1]
      exact tv.2.2.1
  rw [if_neg c1]
  by_cases c2 : (σ.1 P 3).toInt < 13
  · rw [if_pos c2, if_neg (by omega), if_neg (by omega)]
    exact cUnitF hd 3 h 1 (by decide)
  rw [if_neg c2]
  by_cases c3 : (σ.1 P 3).toInt < 22
  · rw [if_pos c3]
    have hc : s.1 = 0 := Classical.byContradiction (fun z => by have := r.2 z; omega)
    have rr := r.1 hc
    refine cUnit0 hd hT hP hN 3 (by decide) h hz hc (Or.inr (by omega)) _ _ ?_ ?_
    · unfold aUc
      rw [if_neg (by omega)]
      exact (by decide : (1 : Int32).toInt = 1)
    · unfold aUc
      rw [if_neg (by omega), zb_sub (by rw [e13]; omega) (by rw [e13]; omega), e13, rr]
  rw [if_neg c3]
  by_cases c4 : (σ.1 P 3).toInt = 31
  · have hc : s.1 = 0 := Classical.byContradiction (fun z => by have := r.2 z; omega)
    have rr := r.1 hc
    rw [if_pos c4, if_pos (by omega)]
    have e1 : (1 : Int32).toInt = 1 := by decide
    exact cUnitB hd hT hP 3 (by decide) (hS (p + 1) (by rw [zb_add (by rw [hp, e1]; decide) (by rw [hp, e1]; decide), hp, e1]; rfl)) h hz hc (by omega)
  · rw [if_neg c4, if_neg c4]
    exact cUnitF hd 3 h 1 (by decide)
theorem cProd_3 (hd : zVd P tk kA vA qA N) (hT : zTK T m) (hP : tt ≠ P ∧ A6 ≠ P ∧ A7 ≠ P) (hN : zNn T m) (p : Int32) (hp : p.toInt = 3) : zU1 P tk kA vA qA tt N m A6 A7 T (F_X3_product_o3 P p) 3 8 := by
  intro σ s n0 c h hz
  obtain ⟨n, hn, e⟩ : ∃ n : Nat, n = 10000 ∧ F_X3_product_o3 P p σ = F_X3_product_o3_7 P p n 0 (F_X3_unit_o3 P p σ) := by
    unfold F_X3_product_o3
    simp only [zlt]
    exact ⟨10000, rfl, rfl⟩
  rw [e]
  exact cProd hd hT hP (cUnit_3 hd hT hP hN p hp (fun p hp => cSum_4 hd hT hP hN p hp)) (F_X3_product_o3_7 P p) (fun n x τ => by rw [F_X3_product_o3_7]; simp only [zlt]) n (by omega) σ s n0 c h hz
theorem cSum_3 (hd : zVd P tk kA vA qA N) (hT : zTK T m) (hP : tt ≠ P ∧ A6 ≠ P ∧ A7 ≠ P) (hN : zNn T m) (p : Int32) (hp : p.toInt = 3) : zU2 P tk kA vA qA tt N m A6 A7 T (F_X3_sum_o3 P p) 3 9 := by
  intro σ s n0 c h hz
  obtain ⟨n, hn, e⟩ : ∃ n : Nat, n = 10000 ∧ F_X3_sum_o3 P p σ = F_X3_sum_o3_7 P p n 0 (F_X3_product_o3 P p σ) := by
    unfold F_X3_sum_o3
    simp only [zlt]
    exact ⟨10000, rfl, rfl⟩
  rw [e]
  exact cSum hd hT hP (cProd_3 hd hT hP hN p hp) (F_X3_sum_o3_7 P p) (fun n x τ => by rw [F_X3_sum_o3_7]; simp only [zlt]) n (by omega) σ s n0 c h hz
theorem cUnit_2 (hd : zVd P tk kA vA qA N) (hT : zTK T m) (hP : tt ≠ P ∧ A6 ≠ P ∧ A7 ≠ P) (hN : zNn T m) (p : Int32) (hp : p.toInt = 2) (hS : ∀ p : Int32, p.toInt = 3 → zU2 P tk kA vA qA tt N m A6 A7 T (F_X3_sum_o3 P p) 3 9) : zU0 P tk kA vA qA tt N m A6 A7 T (F_X3_unit_o2 P p) 2 9 := by
  intro σ s n0 c h hz
  have e23 : (23 : Int32).toInt = 23 := by decide
  have e13 : (13 : Int32).toInt = 13 := by decide
  have e31 : (31 : Int32).toInt = 31 := by decide
  have e22 : (22 : Int32).toInt = 22 := by decide
  have e6 : (6 : Int32).toInt = 6 := by decide
  have r : (s.1 = 0 → (σ.1 P 3).toInt = T.1 s.2.2.1) ∧ (s.1 ≠ 0 → (σ.1 P 3).toInt = 34) := ⟨fun z => (h.2.2.2 z).2.2.1, fun z => (h.2.2.1 z).2⟩
  unfold F_X3_unit_o2
  simp only [zlt, e23, e13, e31, e22, e6]
  by_cases c1 : (σ.1 P 3).toInt = 23
  · rw [if_pos c1]
    have hc : s.1 = 0 := Classical.byContradiction (fun z => by have := r.2 z; omega)
    have rr := r.1 hc
    have cu : T.1 s.2.2.1 = 23 := by omega
    have v4 := (h.2.2.2 hc).2.2.2.1
    have tv := h.1.2.2.1 s.2.2.1
    refine cUnit0 hd hT hP hN 2 (by decide) h hz hc (Or.inl cu) _ _ ?_ ?_
    · unfold aUc
      rw [if_pos cu]
      exact (by decide : (0 : Int32).toInt = 0)
    · unfold aUc
      rw [if_pos cu, v4, ← tv.2.1]
      exact tv.2.2.1
  rw [if_neg c1]
  by_cases c2 : (σ.1 P 3).toInt < 13
  · rw [if_pos c2, if_neg (by omega), if_neg (by omega)]
    exact cUnitF hd 2 h 1 (by decide)
  rw [if_neg c2]
  by_cases c3 : (σ.1 P 3).toInt < 22
  · rw [if_pos c3]
    have hc : s.1 = 0 := Classical.byContradiction (fun z => by have := r.2 z; omega)
    have rr := r.1 hc
    refine cUnit0 hd hT hP hN 2 (by decide) h hz hc (Or.inr (by omega)) _ _ ?_ ?_
    · unfold aUc
      rw [if_neg (by omega)]
      exact (by decide : (1 : Int32).toInt = 1)
    · unfold aUc
      rw [if_neg (by omega), zb_sub (by rw [e13]; omega) (by rw [e13]; omega), e13, rr]
  rw [if_neg c3]
  by_cases c4 : (σ.1 P 3).toInt = 31
  · have hc : s.1 = 0 := Classical.byContradiction (fun z => by have := r.2 z; omega)
    have rr := r.1 hc
    rw [if_pos c4, if_pos (by omega)]
    have e1 : (1 : Int32).toInt = 1 := by decide
    exact cUnitB hd hT hP 2 (by decide) (hS (p + 1) (by rw [zb_add (by rw [hp, e1]; decide) (by rw [hp, e1]; decide), hp, e1]; rfl)) h hz hc (by omega)
  · rw [if_neg c4, if_neg c4]
    exact cUnitF hd 2 h 1 (by decide)
theorem cProd_2 (hd : zVd P tk kA vA qA N) (hT : zTK T m) (hP : tt ≠ P ∧ A6 ≠ P ∧ A7 ≠ P) (hN : zNn T m) (p : Int32) (hp : p.toInt = 2) : zU1 P tk kA vA qA tt N m A6 A7 T (F_X3_product_o2 P p) 2 10 := by
  intro σ s n0 c h hz
  obtain ⟨n, hn, e⟩ : ∃ n : Nat, n = 10000 ∧ F_X3_product_o2 P p σ = F_X3_product_o2_7 P p n 0 (F_X3_unit_o2 P p σ) := by
    unfold F_X3_product_o2
    simp only [zlt]
    exact ⟨10000, rfl, rfl⟩
  rw [e]
  exact cProd hd hT hP (cUnit_2 hd hT hP hN p hp (fun p hp => cSum_3 hd hT hP hN p hp)) (F_X3_product_o2_7 P p) (fun n x τ => by rw [F_X3_product_o2_7]; simp only [zlt]) n (by omega) σ s n0 c h hz
theorem cSum_2 (hd : zVd P tk kA vA qA N) (hT : zTK T m) (hP : tt ≠ P ∧ A6 ≠ P ∧ A7 ≠ P) (hN : zNn T m) (p : Int32) (hp : p.toInt = 2) : zU2 P tk kA vA qA tt N m A6 A7 T (F_X3_sum_o2 P p) 2 11 := by
  intro σ s n0 c h hz
  obtain ⟨n, hn, e⟩ : ∃ n : Nat, n = 10000 ∧ F_X3_sum_o2 P p σ = F_X3_sum_o2_7 P p n 0 (F_X3_product_o2 P p σ) := by
    unfold F_X3_sum_o2
    simp only [zlt]
    exact ⟨10000, rfl, rfl⟩
  rw [e]
  exact cSum hd hT hP (cProd_2 hd hT hP hN p hp) (F_X3_sum_o2_7 P p) (fun n x τ => by rw [F_X3_sum_o2_7]; simp only [zlt]) n (by omega) σ s n0 c h hz
theorem cUnit_1 (hd : zVd P tk kA vA qA N) (hT : zTK T m) (hP : tt ≠ P ∧ A6 ≠ P ∧ A7 ≠ P) (hN : zNn T m) (p : Int32) (hp : p.toInt = 1) (hS : ∀ p : Int32, p.toInt = 2 → zU2 P tk kA vA qA tt N m A6 A7 T (F_X3_sum_o2 P p) 2 11) : zU0 P tk kA vA qA tt N m A6 A7 T (F_X3_unit_o1 P p) 1 11 := by
  intro σ s n0 c h hz
  have e23 : (23 : Int32).toInt = 23 := by decide
  have e13 : (13 : Int32).toInt = 13 := by decide
  have e31 : (31 : Int32).toInt = 31 := by decide
  have e22 : (22 : Int32).toInt = 22 := by decide
  have e6 : (6 : Int32).toInt = 6 := by decide
  have r : (s.1 = 0 → (σ.1 P 3).toInt = T.1 s.2.2.1) ∧ (s.1 ≠ 0 → (σ.1 P 3).toInt = 34) := ⟨fun z => (h.2.2.2 z).2.2.1, fun z => (h.2.2.1 z).2⟩
  unfold F_X3_unit_o1
  simp only [zlt, e23, e13, e31, e22, e6]
  by_cases c1 : (σ.1 P 3).toInt = 23
  · rw [if_pos c1]
    have hc : s.1 = 0 := Classical.byContradiction (fun z => by have := r.2 z; omega)
    have rr := r.1 hc
    have cu : T.1 s.2.2.1 = 23 := by omega
    have v4 := (h.2.2.2 hc).2.2.2.1
    have tv := h.1.2.2.1 s.2.2.1
    refine cUnit0 hd hT hP hN 1 (by decide) h hz hc (Or.inl cu) _ _ ?_ ?_
    · unfold aUc
      rw [if_pos cu]
      exact (by decide : (0 : Int32).toInt = 0)
    · unfold aUc
      rw [if_pos cu, v4, ← tv.2.1]
      exact tv.2.2.1
  rw [if_neg c1]
  by_cases c2 : (σ.1 P 3).toInt < 13
  · rw [if_pos c2, if_neg (by omega), if_neg (by omega)]
    exact cUnitF hd 1 h 1 (by decide)
  rw [if_neg c2]
  by_cases c3 : (σ.1 P 3).toInt < 22
  · rw [if_pos c3]
    have hc : s.1 = 0 := Classical.byContradiction (fun z => by have := r.2 z; omega)
    have rr := r.1 hc
    refine cUnit0 hd hT hP hN 1 (by decide) h hz hc (Or.inr (by omega)) _ _ ?_ ?_
    · unfold aUc
      rw [if_neg (by omega)]
      exact (by decide : (1 : Int32).toInt = 1)
    · unfold aUc
      rw [if_neg (by omega), zb_sub (by rw [e13]; omega) (by rw [e13]; omega), e13, rr]
  rw [if_neg c3]
  by_cases c4 : (σ.1 P 3).toInt = 31
  · have hc : s.1 = 0 := Classical.byContradiction (fun z => by have := r.2 z; omega)
    have rr := r.1 hc
    rw [if_pos c4, if_pos (by omega)]
    have e1 : (1 : Int32).toInt = 1 := by decide
    exact cUnitB hd hT hP 1 (by decide) (hS (p + 1) (by rw [zb_add (by rw [hp, e1]; decide) (by rw [hp, e1]; decide), hp, e1]; rfl)) h hz hc (by omega)
  · rw [if_neg c4, if_neg c4]
    exact cUnitF hd 1 h 1 (by decide)
theorem cProd_1 (hd : zVd P tk kA vA qA N) (hT : zTK T m) (hP : tt ≠ P ∧ A6 ≠ P ∧ A7 ≠ P) (hN : zNn T m) (p : Int32) (hp : p.toInt = 1) : zU1 P tk kA vA qA tt N m A6 A7 T (F_X3_product_o1 P p) 1 12 := by
  intro σ s n0 c h hz
  obtain ⟨n, hn, e⟩ : ∃ n : Nat, n = 10000 ∧ F_X3_product_o1 P p σ = F_X3_product_o1_7 P p n 0 (F_X3_unit_o1 P p σ) := by
    unfold F_X3_product_o1
    simp only [zlt]
    exact ⟨10000, rfl, rfl⟩
  rw [e]
  exact cProd hd hT hP (cUnit_1 hd hT hP hN p hp (fun p hp => cSum_2 hd hT hP hN p hp)) (F_X3_product_o1_7 P p) (fun n x τ => by rw [F_X3_product_o1_7]; simp only [zlt]) n (by omega) σ s n0 c h hz
theorem cSum_1 (hd : zVd P tk kA vA qA N) (hT : zTK T m) (hP : tt ≠ P ∧ A6 ≠ P ∧ A7 ≠ P) (hN : zNn T m) (p : Int32) (hp : p.toInt = 1) : zU2 P tk kA vA qA tt N m A6 A7 T (F_X3_sum_o1 P p) 1 13 := by
  intro σ s n0 c h hz
  obtain ⟨n, hn, e⟩ : ∃ n : Nat, n = 10000 ∧ F_X3_sum_o1 P p σ = F_X3_sum_o1_7 P p n 0 (F_X3_product_o1 P p σ) := by
    unfold F_X3_sum_o1
    simp only [zlt]
    exact ⟨10000, rfl, rfl⟩
  rw [e]
  exact cSum hd hT hP (cProd_1 hd hT hP hN p hp) (F_X3_sum_o1_7 P p) (fun n x τ => by rw [F_X3_sum_o1_7]; simp only [zlt]) n (by omega) σ s n0 c h hz
theorem cUnit_0 (hd : zVd P tk kA vA qA N) (hT : zTK T m) (hP : tt ≠ P ∧ A6 ≠ P ∧ A7 ≠ P) (hN : zNn T m) (p : Int32) (hp : p.toInt = 0) (hS : ∀ p : Int32, p.toInt = 1 → zU2 P tk kA vA qA tt N m A6 A7 T (F_X3_sum_o1 P p) 1 13) : zU0 P tk kA vA qA tt N m A6 A7 T (F_X3_unit_o0 P p) 0 13 := by
  intro σ s n0 c h hz
  have e23 : (23 : Int32).toInt = 23 := by decide
  have e13 : (13 : Int32).toInt = 13 := by decide
  have e31 : (31 : Int32).toInt = 31 := by decide
  have e22 : (22 : Int32).toInt = 22 := by decide
  have e6 : (6 : Int32).toInt = 6 := by decide
  have r : (s.1 = 0 → (σ.1 P 3).toInt = T.1 s.2.2.1) ∧ (s.1 ≠ 0 → (σ.1 P 3).toInt = 34) := ⟨fun z => (h.2.2.2 z).2.2.1, fun z => (h.2.2.1 z).2⟩
  unfold F_X3_unit_o0
  simp only [zlt, e23, e13, e31, e22, e6]
  by_cases c1 : (σ.1 P 3).toInt = 23
  · rw [if_pos c1]
    have hc : s.1 = 0 := Classical.byContradiction (fun z => by have := r.2 z; omega)
    have rr := r.1 hc
    have cu : T.1 s.2.2.1 = 23 := by omega
    have v4 := (h.2.2.2 hc).2.2.2.1
    have tv := h.1.2.2.1 s.2.2.1
    refine cUnit0 hd hT hP hN 0 (by decide) h hz hc (Or.inl cu) _ _ ?_ ?_
    · unfold aUc
      rw [if_pos cu]
      exact (by decide : (0 : Int32).toInt = 0)
    · unfold aUc
      rw [if_pos cu, v4, ← tv.2.1]
      exact tv.2.2.1
  rw [if_neg c1]
  by_cases c2 : (σ.1 P 3).toInt < 13
  · rw [if_pos c2, if_neg (by omega), if_neg (by omega)]
    exact cUnitF hd 0 h 1 (by decide)
  rw [if_neg c2]
  by_cases c3 : (σ.1 P 3).toInt < 22
  · rw [if_pos c3]
    have hc : s.1 = 0 := Classical.byContradiction (fun z => by have := r.2 z; omega)
    have rr := r.1 hc
    refine cUnit0 hd hT hP hN 0 (by decide) h hz hc (Or.inr (by omega)) _ _ ?_ ?_
    · unfold aUc
      rw [if_neg (by omega)]
      exact (by decide : (1 : Int32).toInt = 1)
    · unfold aUc
      rw [if_neg (by omega), zb_sub (by rw [e13]; omega) (by rw [e13]; omega), e13, rr]
  rw [if_neg c3]
  by_cases c4 : (σ.1 P 3).toInt = 31
  · have hc : s.1 = 0 := Classical.byContradiction (fun z => by have := r.2 z; omega)
    have rr := r.1 hc
    rw [if_pos c4, if_pos (by omega)]
    have e1 : (1 : Int32).toInt = 1 := by decide
    exact cUnitB hd hT hP 0 (by decide) (hS (p + 1) (by rw [zb_add (by rw [hp, e1]; decide) (by rw [hp, e1]; decide), hp, e1]; rfl)) h hz hc (by omega)
  · rw [if_neg c4, if_neg c4]
    exact cUnitF hd 0 h 1 (by decide)
theorem cProd_0 (hd : zVd P tk kA vA qA N) (hT : zTK T m) (hP : tt ≠ P ∧ A6 ≠ P ∧ A7 ≠ P) (hN : zNn T m) (p : Int32) (hp : p.toInt = 0) : zU1 P tk kA vA qA tt N m A6 A7 T (F_X3_product_o0 P p) 0 14 := by
  intro σ s n0 c h hz
  obtain ⟨n, hn, e⟩ : ∃ n : Nat, n = 10000 ∧ F_X3_product_o0 P p σ = F_X3_product_o0_7 P p n 0 (F_X3_unit_o0 P p σ) := by
    unfold F_X3_product_o0
    simp only [zlt]
    exact ⟨10000, rfl, rfl⟩
  rw [e]
  exact cProd hd hT hP (cUnit_0 hd hT hP hN p hp (fun p hp => cSum_1 hd hT hP hN p hp)) (F_X3_product_o0_7 P p) (fun n x τ => by rw [F_X3_product_o0_7]; simp only [zlt]) n (by omega) σ s n0 c h hz
theorem cSum_0 (hd : zVd P tk kA vA qA N) (hT : zTK T m) (hP : tt ≠ P ∧ A6 ≠ P ∧ A7 ≠ P) (hN : zNn T m) (p : Int32) (hp : p.toInt = 0) : zU2 P tk kA vA qA tt N m A6 A7 T (F_X3_sum_o0 P p) 0 15 := by
  intro σ s n0 c h hz
  obtain ⟨n, hn, e⟩ : ∃ n : Nat, n = 10000 ∧ F_X3_sum_o0 P p σ = F_X3_sum_o0_7 P p n 0 (F_X3_product_o0 P p σ) := by
    unfold F_X3_sum_o0
    simp only [zlt]
    exact ⟨10000, rfl, rfl⟩
  rw [e]
  exact cSum hd hT hP (cProd_0 hd hT hP hN p hp) (F_X3_sum_o0_7 P p) (fun n x τ => by rw [F_X3_sum_o0_7]; simp only [zlt]) n (by omega) σ s n0 c h hz
/-- a whole expression of the class -/
theorem cExpr (hd : zVd P tk kA vA qA N) (hT : zTK T m) (hP : tt ≠ P ∧ A6 ≠ P ∧ A7 ≠ P) (hN : zNn T m) (h : zV P tk kA vA qA tt N m T σ s) (hc : s.1 = 0) (h1 : zCd tt A6 A7 n0 σ c) (h2 : n0 + c.length ≤ 10 + s.2.2.1) (hz : (aSum T s).1 = 0) : zCd tt A6 A7 n0 (F_X3_sum_o0 P 0 σ) (c ++ aCo T s) ∧ (aCo T s).length + s.2.2.1 ≤ (aSum T s).2.2.1 ∧ zWl (aCo T s) 0 15 1 := by
  have rm := (h.2.2.2 hc).1
  have rk := hT.2.1
  have q := vSumZ hd hT h
  obtain ⟨s', u1, u2⟩ := cSum_0 hd hT hP hN 0 (by decide) σ s n0 c h (fun _ => ⟨h1, h2⟩)
  have z' : s'.1 = 0 := u1.2.1.symm.trans (q.2.1.trans hz)
  obtain ⟨⟨y1, y2, y3, y4⟩, ew, w, y5, y6, y7, y8, k, y9⟩ := u2 z'
  have e : ∀ n, aX T (n + (k + 1)) true 0 s [] [] = (s', ew ++ flw w) := fun n => by
    have t := y9 [] [] (n + 1) (fun x st' e => by cases e)
    rw [show n + (k + 1) = n + 1 + k by omega, t, aX, if_neg (zne z'), if_neg y4, if_neg (by decide), pl_w w _ (fun x hx => ⟨y8 x hx, fun z => absurd z (by decide)⟩)]
    rfl
  obtain ⟨w1, w2⟩ := aCo_e e (fun _ => by omega)
  rw [w1, w2]
  exact ⟨y5, y6, y7⟩
end CX3
