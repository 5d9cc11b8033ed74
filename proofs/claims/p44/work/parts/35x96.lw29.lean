/-! FLOWS: what comes down the tree, in whatever order it is worked out -/
def sm (v : Nat → Int32) : Nat → Int32
  | 0 => 0
  | n + 1 => sm v n + v n
theorem sm_cg {v w : Nat → Int32} : ∀ n, (∀ i, i < n → w i = v i) → sm w n = sm v n := by
  intro n
  induction n with
  | zero => intro _; rfl
  | succ n ih =>
    intro h
    rw [sm, sm, ih (fun i hi => h i (by omega)), h n (by omega)]
theorem sm_up {v w : Nat → Int32} {c : Nat} : ∀ n, c < n → (∀ i, i < n → i ≠ c → w i = v i) → v c = 0 → sm w n = sm v n + w c := by
  intro n
  induction n with
  | zero => intro h; exact absurd h (by omega)
  | succ n ih =>
    intro hc h h0
    rw [sm, sm]
    by_cases e : c = n
    · subst e
      rw [sm_cg (v := v) c (fun i hi => h i (by omega) (by omega)), h0, Int32.add_zero]
    · rw [ih (by omega) (fun i hi n => h i (by omega) n) h0, h n (by omega) (fun z => e z.symm), Int32.add_assoc, Int32.add_assoc, Int32.add_comm (w c)]
def smI (v : Nat → Int) : Nat → Int
  | 0 => 0
  | n + 1 => smI v n + v n
theorem smI_cg {v w : Nat → Int} : ∀ n, (∀ i, i < n → w i = v i) → smI w n = smI v n := by
  intro n
  induction n with
  | zero => intro _; rfl
  | succ n ih =>
    intro h
    rw [smI, smI, ih (fun i hi => h i (by omega)), h n (by omega)]
theorem smI_0 {v : Nat → Int} : ∀ n, (∀ i, i < n → 0 ≤ v i) → 0 ≤ smI v n := by
  intro n
  induction n with
  | zero => intro _; exact Int.le_refl _
  | succ n ih =>
    intro h
    have a := ih (fun i hi => h i (by omega))
    have b := h n (by omega)
    rw [smI]
    omega
theorem smI_1 (v : Nat → Int) {c : Nat} : ∀ n, c < n → smI v n = smI (fun i => if i = c then 0 else v i) n + v c := by
  intro n
  induction n with
  | zero => intro h; exact absurd h (by omega)
  | succ n ih =>
    intro h
    rw [smI, smI]
    by_cases e : c = n
    · subst e
      rw [smI_cg (v := v) (w := fun i => if i = c then 0 else v i) c (fun i hi => if_neg (by omega)), if_pos rfl]
      omega
    · have q := ih (by omega)
      rw [if_neg (fun z => e z.symm)]
      omega
theorem smI_2 (v : Nat → Int) {c d n : Nat} (hcd : c ≠ d) (hc : c < n) (hd : d < n) : smI v n = smI (fun i => if i = c then 0 else if i = d then 0 else v i) n + v c + v d := by
  have a := smI_1 v n hd
  have b := smI_1 (fun i => if i = d then 0 else v i) n hc
  rw [if_neg hcd] at b
  omega
/-- what runs from c into q of those gone through -/
def inF (u : Nat → Nat) (dm Pr : Nat → Bool) (dr : Nat → Int32 → Int32) (F : Nat → Int32) (q c : Nat) : Int32 := if (decide (1 ≤ c) && (Pr c && (decide (u c = q) && !dm c))) = true then F c - dr c (F c) else 0
/-- flows worked out so far: those gone through come behind all that run into them -/
def zFw (N : Nat) (u : Nat → Nat) (dm : Nat → Bool) (dr : Nat → Int32 → Int32) (r : Nat → Int32) (Pr : Nat → Bool) (F : Nat → Int32) : Prop := (∀ c, 1 ≤ c → c < N → Pr c = true → ∀ e, 1 ≤ e → e < N → u e = c → Pr e = true) ∧ ∀ q, q < N → F q = r q + sm (inF u dm Pr dr F q) N
section FLOW
variable {N : Nat} {u : Nat → Nat} {dm Pr Pr' : Nat → Bool} {dr dr' : Nat → Int32 → Int32} {r r' F F' G : Nat → Int32} {c : Nat}
theorem inF_0 {q : Nat} (h : ¬ (1 ≤ c ∧ Pr c = true ∧ u c = q ∧ dm c = false)) : inF u dm Pr dr F q c = 0 := by
  unfold inF
  rw [if_neg]
  intro z
  simp only [Bool.and_eq_true, decide_eq_true_eq, Bool.not_eq_true'] at z
  exact h ⟨z.1, z.2.1, z.2.2.1, z.2.2.2⟩
theorem inF_1 {q : Nat} (h1 : 1 ≤ c) (h2 : Pr c = true) (h3 : u c = q) (h4 : dm c = false) : inF u dm Pr dr F q c = F c - dr c (F c) := by
  unfold inF
  rw [if_pos]
  simp only [Bool.and_eq_true, decide_eq_true_eq, Bool.not_eq_true']
  exact ⟨h1, h2, h3, h4⟩
theorem zFw.st (hF : ∀ q, q < N → F q = r q) (hP : ∀ c, 1 ≤ c → c < N → Pr c = false) : zFw N u dm dr r Pr F := ⟨fun c c1 c2 h => absurd h (by rw [hP c c1 c2]; decide), fun q hq => by
  have e : sm (inF u dm Pr dr F q) N = sm (fun _ => 0) N := sm_cg N (fun i hi => by
    refine inF_0 (fun z => ?_)
    have := hP i z.1 hi
    rw [this] at z
    cases z.2.1)
  have z : ∀ n, sm (fun _ => 0) n = 0 := by
    intro n
    induction n with
    | zero => rfl
    | succ n ih => rw [sm, ih]; rfl
  rw [e, z, Int32.add_zero, hF q hq]⟩
theorem zFw.step (hT : zTr N u) (h : zFw N u dm dr r Pr F) (c1 : 1 ≤ c) (c2 : c < N) (hc : Pr c = false) (hk : ∀ e, 1 ≤ e → e < N → u e = c → Pr e = true) (hP : ∀ x, Pr' x = (Pr x || decide (x = c))) (hF : ∀ q, q < N → F' q = if dm c = false ∧ q = u c then F q + (F c - dr c (F c)) else F q) : zFw N u dm dr r Pr' F' := by
  obtain ⟨h1, h2⟩ := h
  have uc := hT.u_lt c1 c2
  have un : ∀ x, 1 ≤ x → x < N → Pr x = true → x ≠ u c := fun x x1 x2 hx e => by
    have := h1 x x1 x2 hx c c1 c2 e.symm
    rw [hc] at this
    cases this
  have ucc : c ≠ u c := fun e => hT.acyc c1 c2 (by rw [← e]; exact An_rf)
  have Fx : ∀ x, x < N → (Pr x = true ∧ 1 ≤ x ∨ x = c) → F' x = F x := fun x x2 hx => by
    rw [hF x x2, if_neg]
    rintro ⟨-, z⟩
    rcases hx with hx | hx
    · exact un x hx.2 x2 hx.1 z
    · rw [hx] at z
      exact ucc z
  have Pc : Pr' c = true := by rw [hP]; simp
  have Pn : ∀ x, x ≠ c → Pr' x = Pr x := fun x hx => by rw [hP]; simp [hx]
  refine ⟨fun x x1 x2 hx e e1 e2 eu => ?_, fun q hq => ?_⟩
  · by_cases ec : e = c
    · rw [ec]; exact Pc
    · rw [Pn e ec]
      by_cases xc : x = c
      · exact hk e e1 e2 (eu.trans xc)
      · rw [Pn x xc] at hx
        exact h1 x x1 x2 hx e e1 e2 eu
  · have old : inF u dm Pr dr F q c = 0 := inF_0 (fun z => by rw [hc] at z; cases z.2.1)
    have oth : ∀ i, i < N → i ≠ c → inF u dm Pr' dr F' q i = inF u dm Pr dr F q i := fun i hi n => by
      by_cases z : 1 ≤ i ∧ Pr i = true ∧ u i = q ∧ dm i = false
      · obtain ⟨z1, z2, z3, z4⟩ := z
        rw [inF_1 z1 (by rw [Pn i n]; exact z2) z3 z4, inF_1 z1 z2 z3 z4, Fx i hi (Or.inl ⟨z2, z1⟩)]
      · rw [inF_0 (by rw [Pn i n]; exact z), inF_0 z]
    rw [sm_up (v := inF u dm Pr dr F q) (c := c) N c2 oth old, hF q hq]
    by_cases z : dm c = false ∧ q = u c
    · rw [if_pos z, inF_1 c1 Pc z.2.symm z.1, Fx c c2 (Or.inr rfl), h2 q hq, Int32.add_assoc]
    · rw [if_neg z, inF_0 (fun w => z ⟨w.2.2.2, w.2.2.1.symm⟩), Int32.add_zero]
      exact h2 q hq
/-- all gone through: one outcome -/
theorem zFw.uniq (hT : zTr N u) (h : zFw N u dm dr r Pr F) (g : zFw N u dm dr' r' Pr' G) (hP : ∀ c, 1 ≤ c → c < N → Pr c = true) (hP' : ∀ c, 1 ≤ c → c < N → Pr' c = true) (hr : ∀ q, q < N → r q = r' q) (hd : ∀ c f, c < N → 0 ≤ f.toInt → dr c f = dr' c f) (hb : ∀ q, q < N → 0 ≤ (F q).toInt) : ∀ q, q < N → F q = G q := by
  have key : ∀ n q, q < N → N - dep N u q < n → F q = G q := by
    intro n
    induction n with
    | zero => intro q _ h; exact absurd h (by omega)
    | succ n ih =>
      intro q hq hn
      rw [h.2 q hq, g.2 q hq, hr q hq]
      congr 1
      refine (sm_cg N (fun i hi => ?_)).symm
      by_cases z : 1 ≤ i ∧ u i = q ∧ dm i = false
      · obtain ⟨z1, z2, z3⟩ := z
        have e : F i = G i := ih i hi (by
          have a := dep_s hT z1 hi
          have b := (dep_b hT i hi).2
          rw [z2] at a
          omega)
        rw [inF_1 z1 (hP' i z1 hi) z2 z3, inF_1 z1 (hP i z1 hi) z2 z3, hd i _ hi (hb i hi), e]
      · rw [inF_0 (fun w => z ⟨w.1, w.2.2⟩), inF_0 (fun w => z ⟨w.1, w.2.2⟩)]
  exact fun q hq => key (N - dep N u q + 1) q hq (by omega)
/-- what has not been gone through stays small in all -/
def zFb (N : Nat) (Pr : Nat → Bool) (F : Nat → Int32) : Prop := (∀ q, q < N → 0 ≤ (F q).toInt ∧ (F q).toInt ≤ 13176) ∧ smI (fun q => if Pr q = true then 0 else (F q).toInt) N ≤ 13176
theorem zFb.st (hN : N ≤ 12) (hF : ∀ q, q < N → 0 ≤ (F q).toInt ∧ (F q).toInt ≤ 1098) : zFb N Pr F := by
  have z : ∀ n, n ≤ N → smI (fun q => if Pr q = true then 0 else (F q).toInt) n ≤ 1098 * (n : Int) := by
    intro n
    induction n with
    | zero => intro _; exact Int.le_refl _
    | succ n ih =>
      intro hn
      have q := ih (by omega)
      have b := hF n (by omega)
      rw [smI]
      by_cases e : Pr n = true
      · rw [if_pos e]; omega
      · rw [if_neg e]; omega
  exact ⟨fun q hq => by have := hF q hq; omega, by have := z N (Nat.le_refl _); omega⟩
theorem zFb.step (hT : zTr N u) (h : zFb N Pr F) (c1 : 1 ≤ c) (c2 : c < N) (hc : Pr c = false) (hu : Pr (u c) = false) (hd : 0 ≤ (dr c (F c)).toInt ∧ (dr c (F c)).toInt ≤ (F c).toInt) (hP : ∀ x, Pr' x = (Pr x || decide (x = c))) (hF : ∀ q, q < N → F' q = if dm c = false ∧ q = u c then F q + (F c - dr c (F c)) else F q) : zFb N Pr' F' := by
  obtain ⟨h1, h2⟩ := h
  have uc := hT.u_lt c1 c2
  have ucc : c ≠ u c := fun e => hT.acyc c1 c2 (by rw [← e]; exact An_rf)
  obtain ⟨w, hw⟩ : ∃ w : Nat → Int, w = fun q => if Pr q = true then 0 else (F q).toInt := ⟨_, rfl⟩
  obtain ⟨w', hw'⟩ : ∃ w : Nat → Int, w = fun q => if Pr' q = true then 0 else (F' q).toInt := ⟨_, rfl⟩
  rw [← hw] at h2
  have w0 : ∀ i, i < N → 0 ≤ w i := fun i hi => by
    rw [hw]
    show 0 ≤ (if Pr i = true then 0 else (F i).toInt)
    split
    · exact Int.le_refl _
    · exact (h1 i hi).1
  have wc : w c = (F c).toInt := by
    rw [hw]
    show (if Pr c = true then 0 else (F c).toInt) = _
    rw [if_neg (by rw [hc]; decide)]
  have wu : w (u c) = (F (u c)).toInt := by
    rw [hw]
    show (if Pr (u c) = true then 0 else (F (u c)).toInt) = _
    rw [if_neg (by rw [hu]; decide)]
  have Pc : Pr' c = true := by rw [hP]; simp
  have Pn : ∀ x, x ≠ c → Pr' x = Pr x := fun x hx => by rw [hP]; simp [hx]
  have wc' : w' c = 0 := by
    rw [hw']
    show (if Pr' c = true then 0 else (F' c).toInt) = _
    rw [if_pos Pc]
  have wu' : w' (u c) = (F' (u c)).toInt := by
    rw [hw']
    show (if Pr' (u c) = true then 0 else (F' (u c)).toInt) = _
    rw [if_neg (by rw [Pn _ (fun e => ucc e.symm), hu]; decide)]
  have oth : ∀ i, i < N → i ≠ c → i ≠ u c → w' i = w i := fun i hi n1 n2 => by
    rw [hw, hw']
    show (if Pr' i = true then 0 else (F' i).toInt) = (if Pr i = true then 0 else (F i).toInt)
    rw [Pn i n1]
    by_cases pi : Pr i = true
    · rw [if_pos pi, if_pos pi]
    · rw [if_neg pi, if_neg pi, hF i hi, if_neg (fun z => n2 z.2)]
  have E1 := smI_2 w ucc c2 uc
  have E2 := smI_2 w' ucc c2 uc
  have E3 : smI (fun i => if i = c then 0 else if i = u c then 0 else w' i) N = smI (fun i => if i = c then 0 else if i = u c then 0 else w i) N := smI_cg N (fun i hi => by
    by_cases n1 : i = c
    · rw [if_pos n1, if_pos n1]
    · rw [if_neg n1, if_neg n1]
      by_cases n2 : i = u c
      · rw [if_pos n2, if_pos n2]
      · rw [if_neg n2, if_neg n2]
        exact oth i hi n1 n2)
  have E4 : 0 ≤ smI (fun i => if i = c then 0 else if i = u c then 0 else w i) N := smI_0 N (fun i hi => by
    show 0 ≤ (if i = c then 0 else if i = u c then 0 else w i)
    split
    · exact Int.le_refl _
    · split
      · exact Int.le_refl _
      · exact w0 i hi)
  rw [E3, wc', wu'] at E2
  rw [wc, wu] at E1
  have bc := h1 c c2
  have bu := h1 (u c) uc
  have fu : F' (u c) = if dm c = false then F (u c) + (F c - dr c (F c)) else F (u c) := by
    rw [hF _ uc]
    by_cases z : dm c = false
    · rw [if_pos ⟨z, rfl⟩, if_pos z]
    · rw [if_neg (fun q => z q.1), if_neg z]
  have nu : 0 ≤ (F' (u c)).toInt ∧ (F' (u c)).toInt ≤ (F (u c)).toInt + (F c).toInt := by
    rw [fu]
    split
    · have s1 : (F c - dr c (F c)).toInt = (F c).toInt - (dr c (F c)).toInt := zb_sub (by omega) (by omega)
      rw [zb_add (by rw [s1]; omega) (by rw [s1]; omega), s1]
      omega
    · omega
  refine ⟨fun q hq => ?_, ?_⟩
  · by_cases e : q = u c
    · rw [e]; omega
    · rw [hF q hq, if_neg (fun z => e z.2)]
      exact h1 q hq
  · rw [← hw']
    omega
end FLOW
