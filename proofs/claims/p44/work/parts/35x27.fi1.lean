/-! WHAT A FUNCTION LEAVES AS IT WAS: references and whole numbers as they were, but for the places A (longs may be written) -/
def zFi (A : Nat → Nat → Prop) (σ σ' : zS) : Prop := σ'.2.2 = σ.2.2 ∧ ∀ c j, ¬ A c j → σ'.1 c j = σ.1 c j
def zFj {α : Type} (A : Nat → Nat → Prop) (σ : zS) (r : α × zS) : Prop := zFi A σ r.2
section ZFI
variable {A : Nat → Nat → Prop} {σ s : zS} {α β : Type}
theorem zFi.rf (h : zFi A σ s) : s.2.2 = σ.2.2 := h.1
theorem zFi.id : zFi A σ σ := ⟨rfl, fun _ _ _ => rfl⟩
theorem zFi.w {r j : Nat} {v : Int32} (h : zFi A σ s) (hr : A r j) : zFi A σ (zu s.1 r j v, s.2.1, s.2.2) := ⟨h.1, fun c i n => by
  show zu s.1 r j v c i = _
  unfold zu
  by_cases e : c = r
  · rw [if_pos e]
    by_cases e2 : i = j
    · exact absurd (by rw [e, e2]; exact hr) n
    · rw [if_neg e2]; exact h.2 c i n
  · rw [if_neg e]; exact h.2 c i n⟩
theorem zFi.cp {a r n : Nat} (h : zFi A σ s) (hr : ∀ j, A r j) : zFi A σ (zcpy s a r n) := ⟨h.1, fun c i m => by
  show (if c = r then _ else s.1 c) i = _
  by_cases e : c = r
  · exact absurd (by rw [e]; exact hr i) m
  · rw [if_neg e]; exact h.2 c i m⟩
theorem zFi.fl {r n : Nat} {v : Int32} (h : zFi A σ s) (hr : ∀ j, A r j) : zFi A σ (zfil s r v n) := ⟨h.1, fun c i m => by
  show (if c = r then _ else s.1 c) i = _
  by_cases e : c = r
  · exact absurd (by rw [e]; exact hr i) m
  · rw [if_neg e]; exact h.2 c i m⟩
theorem zFi.up {B : Nat → Nat → Prop} (h : zFi A σ s) (u : ∀ c j, A c j → B c j) : zFi B σ s := ⟨h.1, fun c j n => h.2 c j (fun q => n (u c j q))⟩
theorem zFi.tr {s' : zS} (h : zFi A σ s) (g : zFi A s s') : zFi A σ s' := ⟨g.1.trans h.1, fun c j n => (g.2 c j n).trans (h.2 c j n)⟩
theorem zFj.of {r : α × zS} {v : α} (h : zFj A σ r) (e : (v, s) = r) : zFi A σ s := by rw [show s = r.2 from congrArg Prod.snd e]; exact h
theorem zFi_let {x : α} {f : α → zS} (h : ∀ v, v = x → zFi A σ (f v)) : zFi A σ (zLet x f) := h x rfl
theorem zFi_let2 {x : α × β} {f : α → β → zS} (h : ∀ v s, (v, s) = x → zFi A σ (f v s)) : zFi A σ (zLet2 x f) := h x.1 x.2 rfl
theorem zFj_let {x : α} {f : α → β × zS} (h : ∀ v, v = x → zFj A σ (f v)) : zFj A σ (zLet x f) := h x rfl
theorem zFj_let2 {γ : Type} {x : α × γ} {f : α → γ → β × zS} (h : ∀ v s, (v, s) = x → zFj A σ (f v s)) : zFj A σ (zLet2 x f) := h x.1 x.2 rfl
theorem zFi_if {c : Prop} {i : Decidable c} {x y : zS} (h : c → zFi A σ x) (g : ¬ c → zFi A σ y) : zFi A σ (@ite _ c i x y) := by
  by_cases e : c
  · rw [if_pos e]; exact h e
  · rw [if_neg e]; exact g e
theorem zFj_if {c : Prop} {i : Decidable c} {x y : α × zS} (h : c → zFj A σ x) (g : ¬ c → zFj A σ y) : zFj A σ (@ite _ c i x y) := by
  by_cases e : c
  · rw [if_pos e]; exact h e
  · rw [if_neg e]; exact g e
end ZFI
set_option maxRecDepth 100000 in
theorem fi_X3_goTo {A : Nat → Nat → Prop} {σ σ0 : zS} {a0 : Nat} {p1 : Int32}  (g : zFi A σ σ0) (h0 : A a0 2) (h1 : A a0 3) (h2 : A a0 5) : zFi A σ (F_X3_goTo a0 p1 σ0) := by
  unfold F_X3_goTo
  refine zFi_if (fun _ => ?_) (fun _ => ?_)
  · skip
    refine zFi_let (fun v2 _ => ?_)
    refine zFi_let (fun s3 es3 => ?_)
    have gs3 : zFi A σ s3 := by rw [es3]; exact g.w h0
    refine zFi_if (fun _ => ?_) (fun _ => ?_)
    · skip
      refine zFi_let (fun v5 _ => ?_)
      refine zFi_let (fun s6 es6 => ?_)
      have gs6 : zFi A σ s6 := by rw [es6]; exact gs3.w h1
      refine zFi_if (fun _ => ?_) (fun _ => ?_)
      · skip
        refine zFi_let (fun v8 _ => ?_)
        refine zFi_let (fun s9 es9 => ?_)
        have gs9 : zFi A σ s9 := by rw [es9]; exact gs6
        refine zFi_if (fun _ => ?_) (fun _ => ?_)
        · skip
          refine zFi_let (fun v11 _ => ?_)
          refine zFi_let (fun s12 es12 => ?_)
          have gs12 : zFi A σ s12 := by rw [es12]; exact gs9.w h2
          exact gs12
        · skip
          exact gs9
      · skip
        exact gs6
    · skip
      exact gs3
  · skip
    refine zFi_let (fun v13 ev13 => ?_)
    rw [g.rf] at ev13
    subst ev13
    refine zFi_let (fun v14 _ => ?_)
    refine zFi_if (fun _ => ?_) (fun _ => ?_)
    · skip
      refine zFi_let (fun v28 _ => ?_)
      refine zFi_let (fun s29 es29 => ?_)
      have gs29 : zFi A σ s29 := by rw [es29]; exact g.w h0
      refine zFi_if (fun _ => ?_) (fun _ => ?_)
      · skip
        exact gs29
      · skip
        refine zFi_let (fun v31 ev31 => ?_)
        rw [gs29.rf] at ev31
        subst ev31
        refine zFi_let (fun v32 ev32 => ?_)
        rw [gs29.rf] at ev32
        subst ev32
        refine zFi_let (fun v33 _ => ?_)
        refine zFi_let (fun s34 es34 => ?_)
        have gs34 : zFi A σ s34 := by rw [es34]; exact gs29.w h1
        refine zFi_if (fun _ => ?_) (fun _ => ?_)
        · skip
          exact gs34
        · skip
          refine zFi_let (fun v36 ev36 => ?_)
          rw [gs34.rf] at ev36
          subst ev36
          refine zFi_let (fun v37 ev37 => ?_)
          rw [gs34.rf] at ev37
          subst ev37
          refine zFi_let (fun v38 _ => ?_)
          refine zFi_let (fun s39 es39 => ?_)
          have gs39 : zFi A σ s39 := by rw [es39]; exact gs34
          refine zFi_if (fun _ => ?_) (fun _ => ?_)
          · skip
            exact gs39
          · skip
            refine zFi_let (fun v41 ev41 => ?_)
            rw [gs39.rf] at ev41
            subst ev41
            refine zFi_let (fun v42 ev42 => ?_)
            rw [gs39.rf] at ev42
            subst ev42
            refine zFi_let (fun v43 _ => ?_)
            refine zFi_let (fun s44 es44 => ?_)
            have gs44 : zFi A σ s44 := by rw [es44]; exact gs39.w h2
            exact gs44
    · skip
      refine zFi_let (fun v17 _ => ?_)
      refine zFi_let (fun s18 es18 => ?_)
      have gs18 : zFi A σ s18 := by rw [es18]; exact g.w h0
      refine zFi_if (fun _ => ?_) (fun _ => ?_)
      · skip
        refine zFi_let (fun v20 _ => ?_)
        refine zFi_let (fun s21 es21 => ?_)
        have gs21 : zFi A σ s21 := by rw [es21]; exact gs18.w h1
        refine zFi_if (fun _ => ?_) (fun _ => ?_)
        · skip
          refine zFi_let (fun v23 _ => ?_)
          refine zFi_let (fun s24 es24 => ?_)
          have gs24 : zFi A σ s24 := by rw [es24]; exact gs21
          refine zFi_if (fun _ => ?_) (fun _ => ?_)
          · skip
            refine zFi_let (fun v26 _ => ?_)
            refine zFi_let (fun s27 es27 => ?_)
            have gs27 : zFi A σ s27 := by rw [es27]; exact gs24.w h2
            exact gs27
          · skip
            exact gs24
        · skip
          exact gs21
      · skip
        exact gs18
set_option maxRecDepth 100000 in
theorem fi_X3_fail {A : Nat → Nat → Prop} {σ σ0 : zS} {a0 : Nat} {p1 : Int32}  (g : zFi A σ σ0) (h0 : A a0 8) (h1 : A a0 9) (h2 : A a0 3) : zFi A σ (F_X3_fail a0 p1 σ0) := by
  unfold F_X3_fail
  refine zFi_let (fun v1 _ => ?_)
  refine zFi_if (fun _ => ?_) (fun _ => ?_)
  · skip
    refine zFi_let (fun s3 es3 => ?_)
    have gs3 : zFi A σ s3 := by rw [es3]; exact g.w h0
    refine zFi_let (fun v4 _ => ?_)
    refine zFi_let (fun s5 es5 => ?_)
    have gs5 : zFi A σ s5 := by rw [es5]; exact gs3.w h1
    refine zFi_let (fun v6 _ => ?_)
    refine zFi_let (fun s7 es7 => ?_)
    have gs7 : zFi A σ s7 := by rw [es7]; exact gs5.w h2
    exact gs7
  · skip
    exact g
set_option maxRecDepth 100000 in
theorem fi_X3_failLate {A : Nat → Nat → Prop} {σ σ0 : zS} {a0 : Nat} {p1 : Int32}  (g : zFi A σ σ0) (h0 : A a0 10) (h1 : A a0 11) : zFi A σ (F_X3_failLate a0 p1 σ0) := by
  unfold F_X3_failLate
  refine zFi_let (fun v1 _ => ?_)
  refine zFi_if (fun _ => ?_) (fun _ => ?_)
  · skip
    refine zFi_let (fun s3 es3 => ?_)
    have gs3 : zFi A σ s3 := by rw [es3]; exact g.w h0
    refine zFi_let (fun v4 _ => ?_)
    refine zFi_let (fun s5 es5 => ?_)
    have gs5 : zFi A σ s5 := by rw [es5]; exact gs3.w h1
    exact gs5
  · skip
    exact g
set_option maxRecDepth 100000 in
theorem fi_X3_take {A : Nat → Nat → Prop} {σ σ0 : zS} {a0 : Nat} {p1 : Int32}  (g : zFi A σ σ0) (h0 : A a0 2) (h1 : A a0 3) (h2 : A a0 5) (h3 : A a0 8) (h4 : A a0 9) : zFi A σ (F_X3_take a0 p1 σ0) := by
  unfold F_X3_take
  refine zFi_let (fun v1 _ => ?_)
  refine zFi_if (fun _ => ?_) (fun _ => ?_)
  · skip
    refine zFi_let (fun v3 _ => ?_)
    refine zFi_let (fun v4 _ => ?_)
    refine zFi_if (fun _ => ?_) (fun _ => ?_)
    · skip
      refine zFi_let (fun v7 _ => ?_)
      refine zFi_let (fun v8 _ => ?_)
      refine zFi_let (fun v9 _ => ?_)
      refine zFi_let (fun s10 es10 => ?_)
      have gs10 : zFi A σ s10 := by rw [es10]; exact fi_X3_goTo g h0 h1 h2
      exact gs10
    · skip
      refine zFi_let (fun v11 _ => ?_)
      refine zFi_let (fun s12 es12 => ?_)
      have gs12 : zFi A σ s12 := by rw [es12]; exact fi_X3_fail g h3 h4 h1
      exact gs12
  · skip
    refine zFi_let (fun v13 _ => ?_)
    refine zFi_let (fun s14 es14 => ?_)
    have gs14 : zFi A σ s14 := by rw [es14]; exact fi_X3_fail g h3 h4 h1
    exact gs14
set_option maxRecDepth 100000 in
theorem fi_X3_placeNamed_13 {A : Nat → Nat → Prop} {σ : zS} {a0 : Nat} {p1 : Int64}   : ∀ (n : Nat) (x4 : Int32) (τ5 : zS), zFi A σ τ5 → zFj A σ (F_X3_placeNamed_13 a0 p1 n x4 τ5) := by
  intro n
  induction n with
  | zero => intro x4 τ5 g; exact g
  | succ n ih =>
    intro x4 τ5 g
    rw [F_X3_placeNamed_13]
    refine zFj_let (fun v6 _ => ?_)
    refine zFj_if (fun _ => ?_) (fun _ => ?_)
    · skip
      refine zFj_let (fun v8 _ => ?_)
      exact g
    · skip
      refine zFj_let (fun v9 _ => ?_)
      refine zFj_if (fun _ => ?_) (fun _ => ?_)
      · skip
        refine zFj_let (fun v11 ev11 => ?_)
        rw [g.rf] at ev11
        subst ev11
        refine zFj_let (fun v12 ev12 => ?_)
        rw [g.rf] at ev12
        subst ev12
        refine zFj_let (fun v13 _ => ?_)
        refine zFj_let (fun v14 _ => ?_)
        refine zFj_if (fun _ => ?_) (fun _ => ?_)
        · skip
          exact g
        · skip
          refine zFj_let (fun v16 _ => ?_)
          exact ih _ _ g
      · skip
        exact g
set_option maxRecDepth 100000 in
theorem fi_X3_placeNamed_13_1 {A : Nat → Nat → Prop} {σ : zS} {a0 : Nat} {p1 : Int64}   : ∀ (n : Nat) (x18 : Int32) (τ19 : zS), zFi A σ τ19 → zFj A σ (F_X3_placeNamed_13_1 a0 p1 n x18 τ19) := by
  intro n
  induction n with
  | zero => intro x18 τ19 g; exact g
  | succ n ih =>
    intro x18 τ19 g
    rw [F_X3_placeNamed_13_1]
    refine zFj_let (fun v20 _ => ?_)
    refine zFj_if (fun _ => ?_) (fun _ => ?_)
    · skip
      refine zFj_let (fun v22 _ => ?_)
      exact g
    · skip
      refine zFj_let (fun v23 _ => ?_)
      refine zFj_if (fun _ => ?_) (fun _ => ?_)
      · skip
        refine zFj_let (fun v25 ev25 => ?_)
        rw [g.rf] at ev25
        subst ev25
        refine zFj_let (fun v26 ev26 => ?_)
        rw [g.rf] at ev26
        subst ev26
        refine zFj_let (fun v27 _ => ?_)
        refine zFj_let (fun v28 _ => ?_)
        refine zFj_if (fun _ => ?_) (fun _ => ?_)
        · skip
          exact g
        · skip
          refine zFj_let (fun v30 _ => ?_)
          exact ih _ _ g
      · skip
        exact g
set_option maxRecDepth 100000 in
theorem fi_X3_placeNamed {A : Nat → Nat → Prop} {σ σ0 : zS} {a0 : Nat} {p1 : Int64}  (g : zFi A σ σ0)  : zFj A σ (F_X3_placeNamed a0 p1 σ0) := by
  unfold F_X3_placeNamed
  refine zFj_let (fun v1 _ => ?_)
  refine zFj_if (fun _ => ?_) (fun _ => ?_)
  · skip
    refine zFj_let (fun v3 _ => ?_)
    exact fi_X3_placeNamed_13   _ _ _ g
  · skip
    refine zFj_let (fun v17 _ => ?_)
    exact fi_X3_placeNamed_13_1   _ _ _ g
set_option maxRecDepth 100000 in
theorem fi_X3_newName {A : Nat → Nat → Prop} {σ σ0 : zS} {a0 : Nat}  (g : zFi A σ σ0) (h0 : A a0 2) (h1 : A a0 3) (h2 : A a0 5) (h3 : A a0 8) (h4 : A a0 9) (h5 : A a0 10) (h6 : A a0 11) : zFj A σ (F_X3_newName a0 σ0) := by
  unfold F_X3_newName
  refine zFj_let (fun v1 _ => ?_)
  refine zFj_let (fun v2 _ => ?_)
  refine zFj_let (fun v3 _ => ?_)
  refine zFj_if (fun _ => ?_) (fun _ => ?_)
  · skip
    refine zFj_let2 (fun v7 s8 es8 => ?_)
    have gs8 : zFi A σ s8 := (fi_X3_placeNamed g ).of es8
    refine zFj_let (fun v9 _ => ?_)
    refine zFj_if (fun _ => ?_) (fun _ => ?_)
    · skip
      refine zFj_let (fun v11 _ => ?_)
      refine zFj_let (fun s12 es12 => ?_)
      have gs12 : zFi A σ s12 := by rw [es12]; exact fi_X3_take gs8 h0 h1 h2 h3 h4
      exact gs12
    · skip
      refine zFj_let (fun v13 _ => ?_)
      refine zFj_let (fun s14 es14 => ?_)
      have gs14 : zFi A σ s14 := by rw [es14]; exact fi_X3_failLate gs8 h5 h6
      refine zFj_let (fun v15 _ => ?_)
      refine zFj_let (fun s16 es16 => ?_)
      have gs16 : zFi A σ s16 := by rw [es16]; exact fi_X3_take gs14 h0 h1 h2 h3 h4
      exact gs16
  · skip
    refine zFj_let (fun v5 _ => ?_)
    refine zFj_let (fun s6 es6 => ?_)
    have gs6 : zFi A σ s6 := by rw [es6]; exact fi_X3_take g h0 h1 h2 h3 h4
    exact gs6
set_option maxRecDepth 100000 in
theorem fi_X3_knownName {A : Nat → Nat → Prop} {σ σ0 : zS} {a0 : Nat}  (g : zFi A σ σ0) (h0 : A a0 10) (h1 : A a0 11) (h2 : A a0 2) (h3 : A a0 3) (h4 : A a0 5) (h5 : A a0 8) (h6 : A a0 9) : zFj A σ (F_X3_knownName a0 σ0) := by
  unfold F_X3_knownName
  refine zFj_let (fun v1 _ => ?_)
  refine zFj_let2 (fun v2 s3 es3 => ?_)
  have gs3 : zFi A σ s3 := (fi_X3_placeNamed g ).of es3
  refine zFj_let (fun v4 _ => ?_)
  refine zFj_let (fun v5 _ => ?_)
  refine zFj_if (fun _ => ?_) (fun _ => ?_)
  · skip
    refine zFj_let (fun v11 _ => ?_)
    refine zFj_if (fun _ => ?_) (fun _ => ?_)
    · skip
      refine zFj_let (fun v17 _ => ?_)
      refine zFj_let (fun s18 es18 => ?_)
      have gs18 : zFi A σ s18 := by rw [es18]; exact fi_X3_failLate gs3 h0 h1
      refine zFj_let (fun v19 _ => ?_)
      refine zFj_let (fun s20 es20 => ?_)
      have gs20 : zFi A σ s20 := by rw [es20]; exact fi_X3_take gs18 h2 h3 h4 h5 h6
      refine zFj_let (fun v21 _ => ?_)
      refine zFj_let (fun v22 _ => ?_)
      exact gs20
    · skip
      refine zFj_let (fun v13 _ => ?_)
      refine zFj_let (fun s14 es14 => ?_)
      have gs14 : zFi A σ s14 := by rw [es14]; exact fi_X3_take gs3 h2 h3 h4 h5 h6
      refine zFj_let (fun v15 _ => ?_)
      refine zFj_let (fun v16 _ => ?_)
      exact gs14
  · skip
    refine zFj_let (fun v7 _ => ?_)
    refine zFj_let (fun s8 es8 => ?_)
    have gs8 : zFi A σ s8 := by rw [es8]; exact fi_X3_take gs3 h2 h3 h4 h5 h6
    refine zFj_let (fun v9 _ => ?_)
    refine zFj_let (fun v10 _ => ?_)
    exact gs8
set_option maxRecDepth 100000 in
theorem fi_X3_number {A : Nat → Nat → Prop} {σ σ0 : zS} {a0 : Nat} {p1 : Int32} {p2 : Int32}  (g : zFi A σ σ0) (h0 : A a0 10) (h1 : A a0 11) (h2 : A a0 2) (h3 : A a0 3) (h4 : A a0 5) (h5 : A a0 8) (h6 : A a0 9) : zFj A σ (F_X3_number a0 p1 p2 σ0) := by
  unfold F_X3_number
  refine zFj_let (fun v1 _ => ?_)
  refine zFj_let (fun v2 _ => ?_)
  refine zFj_let (fun v3 _ => ?_)
  refine zFj_let (fun v4 _ => ?_)
  refine zFj_if (fun _ => ?_) (fun _ => ?_)
  · skip
    refine zFj_let (fun v8 _ => ?_)
    refine zFj_if (fun _ => ?_) (fun _ => ?_)
    · skip
      refine zFj_let (fun v12 _ => ?_)
      refine zFj_let (fun s13 es13 => ?_)
      have gs13 : zFi A σ s13 := by rw [es13]; exact fi_X3_failLate g h0 h1
      refine zFj_let (fun v14 _ => ?_)
      refine zFj_let (fun s15 es15 => ?_)
      have gs15 : zFi A σ s15 := by rw [es15]; exact fi_X3_take gs13 h2 h3 h4 h5 h6
      exact gs15
    · skip
      refine zFj_let (fun v10 _ => ?_)
      refine zFj_let (fun s11 es11 => ?_)
      have gs11 : zFi A σ s11 := by rw [es11]; exact fi_X3_take g h2 h3 h4 h5 h6
      exact gs11
  · skip
    refine zFj_let (fun v6 _ => ?_)
    refine zFj_let (fun s7 es7 => ?_)
    have gs7 : zFi A σ s7 := by rw [es7]; exact fi_X3_take g h2 h3 h4 h5 h6
    exact gs7
set_option maxRecDepth 100000 in
theorem fi_X9_addStep {A : Nat → Nat → Prop} {σ σ0 : zS} {a0 : Nat} {p1 : Int32} {p2 : Int32}  (g : zFi A σ σ0) (h0 : ∀ j, A ((σ.2.2 a0 6).getD 0) j) (h1 : ∀ j, A ((σ.2.2 a0 7).getD 0) j) (h2 : A a0 8) : zFi A σ (F_X9_addStep a0 p1 p2 σ0) := by
  unfold F_X9_addStep
  refine zFi_let (fun v1 _ => ?_)
  refine zFi_let (fun v2 _ => ?_)
  refine zFi_if (fun _ => ?_) (fun _ => ?_)
  · skip
    refine zFi_let (fun v4 ev4 => ?_)
    rw [g.rf] at ev4
    subst ev4
    refine zFi_let (fun v5 _ => ?_)
    refine zFi_let (fun s6 es6 => ?_)
    have gs6 : zFi A σ s6 := by rw [es6]; exact g.w (h0 _)
    refine zFi_let (fun v8 ev8 => ?_)
    rw [gs6.rf] at ev8
    subst ev8
    refine zFi_let (fun v9 _ => ?_)
    refine zFi_let (fun s10 es10 => ?_)
    have gs10 : zFi A σ s10 := by rw [es10]; exact gs6.w (h1 _)
    refine zFi_let (fun v12 _ => ?_)
    refine zFi_let (fun v13 _ => ?_)
    refine zFi_let (fun v14 _ => ?_)
    refine zFi_let (fun s15 es15 => ?_)
    have gs15 : zFi A σ s15 := by rw [es15]; exact gs10.w h2
    exact gs15
  · skip
    exact g
set_option maxRecDepth 100000 in
theorem fi_X3_unit_o6 {A : Nat → Nat → Prop} {σ σ0 : zS} {a0 : Nat} {p1 : Int32}  (g : zFi A σ σ0) (h0 : ∀ j, A ((σ.2.2 ((σ.2.2 a0 1).getD 0) 6).getD 0) j) (h1 : ∀ j, A ((σ.2.2 ((σ.2.2 a0 1).getD 0) 7).getD 0) j) (h2 : A (((σ.2.2 a0 1).getD 0)) 8) (h3 : A a0 2) (h4 : A a0 3) (h5 : A a0 5) (h6 : A a0 8) (h7 : A a0 9) : zFi A σ (F_X3_unit_o6 a0 p1 σ0) := by
  unfold F_X3_unit_o6
  refine zFi_let (fun v1 _ => ?_)
  refine zFi_let (fun v2 _ => ?_)
  refine zFi_if (fun _ => ?_) (fun _ => ?_)
  · skip
    refine zFi_let (fun v45 ev45 => ?_)
    rw [g.rf] at ev45
    subst ev45
    refine zFi_let (fun v46 _ => ?_)
    refine zFi_let (fun v47 _ => ?_)
    refine zFi_let (fun v48 _ => ?_)
    refine zFi_let (fun s49 es49 => ?_)
    have gs49 : zFi A σ s49 := by rw [es49]; exact fi_X9_addStep g h0 h1 h2
    refine zFi_let (fun v50 _ => ?_)
    refine zFi_let (fun s51 es51 => ?_)
    have gs51 : zFi A σ s51 := by rw [es51]; exact fi_X3_take gs49 h3 h4 h5 h6 h7
    exact gs51
  · skip
    refine zFi_let (fun v4 _ => ?_)
    refine zFi_let (fun v5 _ => ?_)
    refine zFi_if (fun _ => ?_) (fun _ => ?_)
    · skip
      refine zFi_let (fun v8 _ => ?_)
      refine zFi_let (fun v9 _ => ?_)
      refine zFi_if (fun _ => ?_) (fun _ => ?_)
      · skip
        exact g
      · skip
        refine zFi_let (fun v11 _ => ?_)
        refine zFi_let (fun v12 _ => ?_)
        refine zFi_if (fun _ => ?_) (fun _ => ?_)
        · skip
          exact g
        · skip
          refine zFi_let (fun v14 _ => ?_)
          refine zFi_let (fun s15 es15 => ?_)
          have gs15 : zFi A σ s15 := by rw [es15]; exact fi_X3_fail g h6 h7 h4
          exact gs15
    · skip
      refine zFi_let (fun v16 _ => ?_)
      refine zFi_let (fun v17 _ => ?_)
      refine zFi_if (fun _ => ?_) (fun _ => ?_)
      · skip
        refine zFi_let (fun v37 ev37 => ?_)
        rw [g.rf] at ev37
        subst ev37
        refine zFi_let (fun v38 _ => ?_)
        refine zFi_let (fun v39 _ => ?_)
        refine zFi_let (fun v40 _ => ?_)
        refine zFi_let (fun v41 _ => ?_)
        refine zFi_let (fun s42 es42 => ?_)
        have gs42 : zFi A σ s42 := by rw [es42]; exact fi_X9_addStep g h0 h1 h2
        refine zFi_let (fun v43 _ => ?_)
        refine zFi_let (fun s44 es44 => ?_)
        have gs44 : zFi A σ s44 := by rw [es44]; exact fi_X3_take gs42 h3 h4 h5 h6 h7
        exact gs44
      · skip
        refine zFi_let (fun v20 _ => ?_)
        refine zFi_let (fun v21 _ => ?_)
        refine zFi_if (fun _ => ?_) (fun _ => ?_)
        · skip
          refine zFi_let (fun v30 _ => ?_)
          refine zFi_if (fun _ => ?_) (fun _ => ?_)
          · skip
            exact g
          · skip
            refine zFi_let (fun v32 _ => ?_)
            refine zFi_let (fun v33 _ => ?_)
            refine zFi_if (fun _ => ?_) (fun _ => ?_)
            · skip
              refine zFi_let (fun v35 _ => ?_)
              refine zFi_let (fun s36 es36 => ?_)
              have gs36 : zFi A σ s36 := by rw [es36]; exact fi_X3_fail g h6 h7 h4
              exact gs36
            · skip
              exact g
        · skip
          refine zFi_let (fun v23 _ => ?_)
          refine zFi_let (fun v24 _ => ?_)
          refine zFi_if (fun _ => ?_) (fun _ => ?_)
          · skip
            refine zFi_let (fun v28 _ => ?_)
            refine zFi_let (fun s29 es29 => ?_)
            have gs29 : zFi A σ s29 := by rw [es29]; exact fi_X3_fail g h6 h7 h4
            exact gs29
          · skip
            refine zFi_let (fun v26 _ => ?_)
            refine zFi_let (fun s27 es27 => ?_)
            have gs27 : zFi A σ s27 := by rw [es27]; exact fi_X3_fail g h6 h7 h4
            exact gs27
set_option maxRecDepth 100000 in
theorem fi_X3_product_o6_7 {A : Nat → Nat → Prop} {σ : zS} {a0 : Nat} {p1 : Int32}  (h0 : A a0 2) (h1 : A a0 3) (h2 : A a0 5) (h3 : A a0 8) (h4 : A a0 9) (h5 : ∀ j, A ((σ.2.2 ((σ.2.2 a0 1).getD 0) 6).getD 0) j) (h6 : ∀ j, A ((σ.2.2 ((σ.2.2 a0 1).getD 0) 7).getD 0) j) (h7 : A (((σ.2.2 a0 1).getD 0)) 8) : ∀ (n : Nat) (x3 : Int32) (τ4 : zS), zFi A σ τ4 → zFi A σ (F_X3_product_o6_7 a0 p1 n x3 τ4) := by
  intro n
  induction n with
  | zero => intro x3 τ4 g; exact g
  | succ n ih =>
    intro x3 τ4 g
    rw [F_X3_product_o6_7]
    refine zFi_let (fun v5 _ => ?_)
    refine zFi_if (fun _ => ?_) (fun _ => ?_)
    · skip
      exact g
    · skip
      refine zFi_let (fun v7 _ => ?_)
      refine zFi_let (fun v8 _ => ?_)
      refine zFi_let (fun v9 _ => ?_)
      refine zFi_let (fun v10 _ => ?_)
      refine zFi_if (fun _ => ?_) (fun _ => ?_)
      · skip
        exact g
      · skip
        refine zFi_let (fun v12 _ => ?_)
        refine zFi_let (fun s13 es13 => ?_)
        have gs13 : zFi A σ s13 := by rw [es13]; exact fi_X3_take g h0 h1 h2 h3 h4
        refine zFi_let (fun s14 es14 => ?_)
        have gs14 : zFi A σ s14 := by rw [es14]; exact fi_X3_unit_o6 gs13 h5 h6 h7 h0 h1 h2 h3 h4
        refine zFi_let (fun v15 ev15 => ?_)
        rw [gs14.rf] at ev15
        subst ev15
        refine zFi_let (fun v16 _ => ?_)
        refine zFi_if (fun _ => ?_) (fun _ => ?_)
        · skip
          refine zFi_let (fun v22 _ => ?_)
          refine zFi_let (fun v23 _ => ?_)
          refine zFi_let (fun s24 es24 => ?_)
          have gs24 : zFi A σ s24 := by rw [es24]; exact fi_X9_addStep gs14 h5 h6 h7
          refine zFi_let (fun v25 _ => ?_)
          exact ih _ _ gs24
        · skip
          refine zFi_let (fun v18 _ => ?_)
          refine zFi_let (fun v19 _ => ?_)
          refine zFi_let (fun s20 es20 => ?_)
          have gs20 : zFi A σ s20 := by rw [es20]; exact fi_X9_addStep gs14 h5 h6 h7
          refine zFi_let (fun v21 _ => ?_)
          exact ih _ _ gs20
set_option maxRecDepth 100000 in
theorem fi_X3_product_o6 {A : Nat → Nat → Prop} {σ σ0 : zS} {a0 : Nat} {p1 : Int32}  (g : zFi A σ σ0) (h0 : ∀ j, A ((σ.2.2 ((σ.2.2 a0 1).getD 0) 6).getD 0) j) (h1 : ∀ j, A ((σ.2.2 ((σ.2.2 a0 1).getD 0) 7).getD 0) j) (h2 : A (((σ.2.2 a0 1).getD 0)) 8) (h3 : A a0 2) (h4 : A a0 3) (h5 : A a0 5) (h6 : A a0 8) (h7 : A a0 9) : zFi A σ (F_X3_product_o6 a0 p1 σ0) := by
  unfold F_X3_product_o6
  refine zFi_let (fun s1 es1 => ?_)
  have gs1 : zFi A σ s1 := by rw [es1]; exact fi_X3_unit_o6 g h0 h1 h2 h3 h4 h5 h6 h7
  refine zFi_let (fun v2 _ => ?_)
  exact fi_X3_product_o6_7  h3 h4 h5 h6 h7 h0 h1 h2 _ _ _ gs1
set_option maxRecDepth 100000 in
theorem fi_X3_sum_o6_7 {A : Nat → Nat → Prop} {σ : zS} {a0 : Nat} {p1 : Int32}  (h0 : A a0 2) (h1 : A a0 3) (h2 : A a0 5) (h3 : A a0 8) (h4 : A a0 9) (h5 : ∀ j, A ((σ.2.2 ((σ.2.2 a0 1).getD 0) 6).getD 0) j) (h6 : ∀ j, A ((σ.2.2 ((σ.2.2 a0 1).getD 0) 7).getD 0) j) (h7 : A (((σ.2.2 a0 1).getD 0)) 8) : ∀ (n : Nat) (x3 : Int32) (τ4 : zS), zFi A σ τ4 → zFi A σ (F_X3_sum_o6_7 a0 p1 n x3 τ4) := by
  intro n
  induction n with
  | zero => intro x3 τ4 g; exact g
  | succ n ih =>
    intro x3 τ4 g
    rw [F_X3_sum_o6_7]
    refine zFi_let (fun v5 _ => ?_)
    refine zFi_if (fun _ => ?_) (fun _ => ?_)
    · skip
      exact g
    · skip
      refine zFi_let (fun v7 _ => ?_)
      refine zFi_let (fun v8 _ => ?_)
      refine zFi_let (fun v9 _ => ?_)
      refine zFi_let (fun v10 _ => ?_)
      refine zFi_if (fun _ => ?_) (fun _ => ?_)
      · skip
        exact g
      · skip
        refine zFi_let (fun v12 _ => ?_)
        refine zFi_let (fun s13 es13 => ?_)
        have gs13 : zFi A σ s13 := by rw [es13]; exact fi_X3_take g h0 h1 h2 h3 h4
        refine zFi_let (fun s14 es14 => ?_)
        have gs14 : zFi A σ s14 := by rw [es14]; exact fi_X3_product_o6 gs13 h5 h6 h7 h0 h1 h2 h3 h4
        refine zFi_let (fun v15 ev15 => ?_)
        rw [gs14.rf] at ev15
        subst ev15
        refine zFi_let (fun v16 _ => ?_)
        refine zFi_if (fun _ => ?_) (fun _ => ?_)
        · skip
          refine zFi_let (fun v22 _ => ?_)
          refine zFi_let (fun v23 _ => ?_)
          refine zFi_let (fun s24 es24 => ?_)
          have gs24 : zFi A σ s24 := by rw [es24]; exact fi_X9_addStep gs14 h5 h6 h7
          refine zFi_let (fun v25 _ => ?_)
          exact ih _ _ gs24
        · skip
          refine zFi_let (fun v18 _ => ?_)
          refine zFi_let (fun v19 _ => ?_)
          refine zFi_let (fun s20 es20 => ?_)
          have gs20 : zFi A σ s20 := by rw [es20]; exact fi_X9_addStep gs14 h5 h6 h7
          refine zFi_let (fun v21 _ => ?_)
          exact ih _ _ gs20
set_option maxRecDepth 100000 in
theorem fi_X3_sum_o6 {A : Nat → Nat → Prop} {σ σ0 : zS} {a0 : Nat} {p1 : Int32}  (g : zFi A σ σ0) (h0 : ∀ j, A ((σ.2.2 ((σ.2.2 a0 1).getD 0) 6).getD 0) j) (h1 : ∀ j, A ((σ.2.2 ((σ.2.2 a0 1).getD 0) 7).getD 0) j) (h2 : A (((σ.2.2 a0 1).getD 0)) 8) (h3 : A a0 2) (h4 : A a0 3) (h5 : A a0 5) (h6 : A a0 8) (h7 : A a0 9) : zFi A σ (F_X3_sum_o6 a0 p1 σ0) := by
  unfold F_X3_sum_o6
  refine zFi_let (fun s1 es1 => ?_)
  have gs1 : zFi A σ s1 := by rw [es1]; exact fi_X3_product_o6 g h0 h1 h2 h3 h4 h5 h6 h7
  refine zFi_let (fun v2 _ => ?_)
  exact fi_X3_sum_o6_7  h3 h4 h5 h6 h7 h0 h1 h2 _ _ _ gs1
set_option maxRecDepth 100000 in
theorem fi_X3_unit_o5 {A : Nat → Nat → Prop} {σ σ0 : zS} {a0 : Nat} {p1 : Int32}  (g : zFi A σ σ0) (h0 : ∀ j, A ((σ.2.2 ((σ.2.2 a0 1).getD 0) 6).getD 0) j) (h1 : ∀ j, A ((σ.2.2 ((σ.2.2 a0 1).getD 0) 7).getD 0) j) (h2 : A (((σ.2.2 a0 1).getD 0)) 8) (h3 : A a0 2) (h4 : A a0 3) (h5 : A a0 5) (h6 : A a0 8) (h7 : A a0 9) : zFi A σ (F_X3_unit_o5 a0 p1 σ0) := by
  unfold F_X3_unit_o5
  refine zFi_let (fun v1 _ => ?_)
  refine zFi_let (fun v2 _ => ?_)
  refine zFi_if (fun _ => ?_) (fun _ => ?_)
  · skip
    refine zFi_let (fun v47 ev47 => ?_)
    rw [g.rf] at ev47
    subst ev47
    refine zFi_let (fun v48 _ => ?_)
    refine zFi_let (fun v49 _ => ?_)
    refine zFi_let (fun v50 _ => ?_)
    refine zFi_let (fun s51 es51 => ?_)
    have gs51 : zFi A σ s51 := by rw [es51]; exact fi_X9_addStep g h0 h1 h2
    refine zFi_let (fun v52 _ => ?_)
    refine zFi_let (fun s53 es53 => ?_)
    have gs53 : zFi A σ s53 := by rw [es53]; exact fi_X3_take gs51 h3 h4 h5 h6 h7
    exact gs53
  · skip
    refine zFi_let (fun v4 _ => ?_)
    refine zFi_let (fun v5 _ => ?_)
    refine zFi_if (fun _ => ?_) (fun _ => ?_)
    · skip
      refine zFi_let (fun v8 _ => ?_)
      refine zFi_let (fun v9 _ => ?_)
      refine zFi_if (fun _ => ?_) (fun _ => ?_)
      · skip
        exact g
      · skip
        refine zFi_let (fun v11 _ => ?_)
        refine zFi_let (fun v12 _ => ?_)
        refine zFi_if (fun _ => ?_) (fun _ => ?_)
        · skip
          exact g
        · skip
          refine zFi_let (fun v14 _ => ?_)
          refine zFi_let (fun s15 es15 => ?_)
          have gs15 : zFi A σ s15 := by rw [es15]; exact fi_X3_fail g h6 h7 h4
          exact gs15
    · skip
      refine zFi_let (fun v16 _ => ?_)
      refine zFi_let (fun v17 _ => ?_)
      refine zFi_if (fun _ => ?_) (fun _ => ?_)
      · skip
        refine zFi_let (fun v39 ev39 => ?_)
        rw [g.rf] at ev39
        subst ev39
        refine zFi_let (fun v40 _ => ?_)
        refine zFi_let (fun v41 _ => ?_)
        refine zFi_let (fun v42 _ => ?_)
        refine zFi_let (fun v43 _ => ?_)
        refine zFi_let (fun s44 es44 => ?_)
        have gs44 : zFi A σ s44 := by rw [es44]; exact fi_X9_addStep g h0 h1 h2
        refine zFi_let (fun v45 _ => ?_)
        refine zFi_let (fun s46 es46 => ?_)
        have gs46 : zFi A σ s46 := by rw [es46]; exact fi_X3_take gs44 h3 h4 h5 h6 h7
        exact gs46
      · skip
        refine zFi_let (fun v20 _ => ?_)
        refine zFi_let (fun v21 _ => ?_)
        refine zFi_if (fun _ => ?_) (fun _ => ?_)
        · skip
          refine zFi_let (fun v30 _ => ?_)
          refine zFi_if (fun _ => ?_) (fun _ => ?_)
          · skip
            refine zFi_let (fun v32 _ => ?_)
            refine zFi_let (fun s33 es33 => ?_)
            have gs33 : zFi A σ s33 := by rw [es33]; exact fi_X3_take g h3 h4 h5 h6 h7
            refine zFi_let (fun v34 _ => ?_)
            refine zFi_let (fun v35 _ => ?_)
            refine zFi_let (fun s36 es36 => ?_)
            have gs36 : zFi A σ s36 := by rw [es36]; exact fi_X3_sum_o6 gs33 h0 h1 h2 h3 h4 h5 h6 h7
            refine zFi_let (fun v37 _ => ?_)
            refine zFi_let (fun s38 es38 => ?_)
            have gs38 : zFi A σ s38 := by rw [es38]; exact fi_X3_take gs36 h3 h4 h5 h6 h7
            exact gs38
          · skip
            exact g
        · skip
          refine zFi_let (fun v23 _ => ?_)
          refine zFi_let (fun v24 _ => ?_)
          refine zFi_if (fun _ => ?_) (fun _ => ?_)
          · skip
            refine zFi_let (fun v28 _ => ?_)
            refine zFi_let (fun s29 es29 => ?_)
            have gs29 : zFi A σ s29 := by rw [es29]; exact fi_X3_fail g h6 h7 h4
            exact gs29
          · skip
            refine zFi_let (fun v26 _ => ?_)
            refine zFi_let (fun s27 es27 => ?_)
            have gs27 : zFi A σ s27 := by rw [es27]; exact fi_X3_fail g h6 h7 h4
            exact gs27
set_option maxRecDepth 100000 in
theorem fi_X3_product_o5_7 {A : Nat → Nat → Prop} {σ : zS} {a0 : Nat} {p1 : Int32}  (h0 : A a0 2) (h1 : A a0 3) (h2 : A a0 5) (h3 : A a0 8) (h4 : A a0 9) (h5 : ∀ j, A ((σ.2.2 ((σ.2.2 a0 1).getD 0) 6).getD 0) j) (h6 : ∀ j, A ((σ.2.2 ((σ.2.2 a0 1).getD 0) 7).getD 0) j) (h7 : A (((σ.2.2 a0 1).getD 0)) 8) : ∀ (n : Nat) (x3 : Int32) (τ4 : zS), zFi A σ τ4 → zFi A σ (F_X3_product_o5_7 a0 p1 n x3 τ4) := by
  intro n
  induction n with
  | zero => intro x3 τ4 g; exact g
  | succ n ih =>
    intro x3 τ4 g
    rw [F_X3_product_o5_7]
    refine zFi_let (fun v5 _ => ?_)
    refine zFi_if (fun _ => ?_) (fun _ => ?_)
    · skip
      exact g
    · skip
      refine zFi_let (fun v7 _ => ?_)
      refine zFi_let (fun v8 _ => ?_)
      refine zFi_let (fun v9 _ => ?_)
      refine zFi_let (fun v10 _ => ?_)
      refine zFi_if (fun _ => ?_) (fun _ => ?_)
      · skip
        exact g
      · skip
        refine zFi_let (fun v12 _ => ?_)
        refine zFi_let (fun s13 es13 => ?_)
        have gs13 : zFi A σ s13 := by rw [es13]; exact fi_X3_take g h0 h1 h2 h3 h4
        refine zFi_let (fun s14 es14 => ?_)
        have gs14 : zFi A σ s14 := by rw [es14]; exact fi_X3_unit_o5 gs13 h5 h6 h7 h0 h1 h2 h3 h4
        refine zFi_let (fun v15 ev15 => ?_)
        rw [gs14.rf] at ev15
        subst ev15
        refine zFi_let (fun v16 _ => ?_)
        refine zFi_if (fun _ => ?_) (fun _ => ?_)
        · skip
          refine zFi_let (fun v22 _ => ?_)
          refine zFi_let (fun v23 _ => ?_)
          refine zFi_let (fun s24 es24 => ?_)
          have gs24 : zFi A σ s24 := by rw [es24]; exact fi_X9_addStep gs14 h5 h6 h7
          refine zFi_let (fun v25 _ => ?_)
          exact ih _ _ gs24
        · skip
          refine zFi_let (fun v18 _ => ?_)
          refine zFi_let (fun v19 _ => ?_)
          refine zFi_let (fun s20 es20 => ?_)
          have gs20 : zFi A σ s20 := by rw [es20]; exact fi_X9_addStep gs14 h5 h6 h7
          refine zFi_let (fun v21 _ => ?_)
          exact ih _ _ gs20
set_option maxRecDepth 100000 in
theorem fi_X3_product_o5 {A : Nat → Nat → Prop} {σ σ0 : zS} {a0 : Nat} {p1 : Int32}  (g : zFi A σ σ0) (h0 : ∀ j, A ((σ.2.2 ((σ.2.2 a0 1).getD 0) 6).getD 0) j) (h1 : ∀ j, A ((σ.2.2 ((σ.2.2 a0 1).getD 0) 7).getD 0) j) (h2 : A (((σ.2.2 a0 1).getD 0)) 8) (h3 : A a0 2) (h4 : A a0 3) (h5 : A a0 5) (h6 : A a0 8) (h7 : A a0 9) : zFi A σ (F_X3_product_o5 a0 p1 σ0) := by
  unfold F_X3_product_o5
  refine zFi_let (fun s1 es1 => ?_)
  have gs1 : zFi A σ s1 := by rw [es1]; exact fi_X3_unit_o5 g h0 h1 h2 h3 h4 h5 h6 h7
  refine zFi_let (fun v2 _ => ?_)
  exact fi_X3_product_o5_7  h3 h4 h5 h6 h7 h0 h1 h2 _ _ _ gs1
set_option maxRecDepth 100000 in
theorem fi_X3_sum_o5_7 {A : Nat → Nat → Prop} {σ : zS} {a0 : Nat} {p1 : Int32}  (h0 : A a0 2) (h1 : A a0 3) (h2 : A a0 5) (h3 : A a0 8) (h4 : A a0 9) (h5 : ∀ j, A ((σ.2.2 ((σ.2.2 a0 1).getD 0) 6).getD 0) j) (h6 : ∀ j, A ((σ.2.2 ((σ.2.2 a0 1).getD 0) 7).getD 0) j) (h7 : A (((σ.2.2 a0 1).getD 0)) 8) : ∀ (n : Nat) (x3 : Int32) (τ4 : zS), zFi A σ τ4 → zFi A σ (F_X3_sum_o5_7 a0 p1 n x3 τ4) := by
  intro n
  induction n with
  | zero => intro x3 τ4 g; exact g
  | succ n ih =>
    intro x3 τ4 g
    rw [F_X3_sum_o5_7]
    refine zFi_let (fun v5 _ => ?_)
    refine zFi_if (fun _ => ?_) (fun _ => ?_)
    · skip
      exact g
    · skip
      refine zFi_let (fun v7 _ => ?_)
      refine zFi_let (fun v8 _ => ?_)
      refine zFi_let (fun v9 _ => ?_)
      refine zFi_let (fun v10 _ => ?_)
      refine zFi_if (fun _ => ?_) (fun _ => ?_)
      · skip
        exact g
      · skip
        refine zFi_let (fun v12 _ => ?_)
        refine zFi_let (fun s13 es13 => ?_)
        have gs13 : zFi A σ s13 := by rw [es13]; exact fi_X3_take g h0 h1 h2 h3 h4
        refine zFi_let (fun s14 es14 => ?_)
        have gs14 : zFi A σ s14 := by rw [es14]; exact fi_X3_product_o5 gs13 h5 h6 h7 h0 h1 h2 h3 h4
        refine zFi_let (fun v15 ev15 => ?_)
        rw [gs14.rf] at ev15
        subst ev15
        refine zFi_let (fun v16 _ => ?_)
        refine zFi_if (fun _ => ?_) (fun _ => ?_)
        · skip
          refine zFi_let (fun v22 _ => ?_)
          refine zFi_let (fun v23 _ => ?_)
          refine zFi_let (fun s24 es24 => ?_)
          have gs24 : zFi A σ s24 := by rw [es24]; exact fi_X9_addStep gs14 h5 h6 h7
          refine zFi_let (fun v25 _ => ?_)
          exact ih _ _ gs24
        · skip
          refine zFi_let (fun v18 _ => ?_)
          refine zFi_let (fun v19 _ => ?_)
          refine zFi_let (fun s20 es20 => ?_)
          have gs20 : zFi A σ s20 := by rw [es20]; exact fi_X9_addStep gs14 h5 h6 h7
          refine zFi_let (fun v21 _ => ?_)
          exact ih _ _ gs20
set_option maxRecDepth 100000 in
theorem fi_X3_sum_o5 {A : Nat → Nat → Prop} {σ σ0 : zS} {a0 : Nat} {p1 : Int32}  (g : zFi A σ σ0) (h0 : ∀ j, A ((σ.2.2 ((σ.2.2 a0 1).getD 0) 6).getD 0) j) (h1 : ∀ j, A ((σ.2.2 ((σ.2.2 a0 1).getD 0) 7).getD 0) j) (h2 : A (((σ.2.2 a0 1).getD 0)) 8) (h3 : A a0 2) (h4 : A a0 3) (h5 : A a0 5) (h6 : A a0 8) (h7 : A a0 9) : zFi A σ (F_X3_sum_o5 a0 p1 σ0) := by
  unfold F_X3_sum_o5
  refine zFi_let (fun s1 es1 => ?_)
  have gs1 : zFi A σ s1 := by rw [es1]; exact fi_X3_product_o5 g h0 h1 h2 h3 h4 h5 h6 h7
  refine zFi_let (fun v2 _ => ?_)
  exact fi_X3_sum_o5_7  h3 h4 h5 h6 h7 h0 h1 h2 _ _ _ gs1
set_option maxRecDepth 100000 in
theorem fi_X3_unit_o4 {A : Nat → Nat → Prop} {σ σ0 : zS} {a0 : Nat} {p1 : Int32}  (g : zFi A σ σ0) (h0 : ∀ j, A ((σ.2.2 ((σ.2.2 a0 1).getD 0) 6).getD 0) j) (h1 : ∀ j, A ((σ.2.2 ((σ.2.2 a0 1).getD 0) 7).getD 0) j) (h2 : A (((σ.2.2 a0 1).getD 0)) 8) (h3 : A a0 2) (h4 : A a0 3) (h5 : A a0 5) (h6 : A a0 8) (h7 : A a0 9) : zFi A σ (F_X3_unit_o4 a0 p1 σ0) := by
  unfold F_X3_unit_o4
  refine zFi_let (fun v1 _ => ?_)
  refine zFi_let (fun v2 _ => ?_)
  refine zFi_if (fun _ => ?_) (fun _ => ?_)
  · skip
    refine zFi_let (fun v47 ev47 => ?_)
    rw [g.rf] at ev47
    subst ev47
    refine zFi_let (fun v48 _ => ?_)
    refine zFi_let (fun v49 _ => ?_)
    refine zFi_let (fun v50 _ => ?_)
    refine zFi_let (fun s51 es51 => ?_)
    have gs51 : zFi A σ s51 := by rw [es51]; exact fi_X9_addStep g h0 h1 h2
    refine zFi_let (fun v52 _ => ?_)
    refine zFi_let (fun s53 es53 => ?_)
    have gs53 : zFi A σ s53 := by rw [es53]; exact fi_X3_take gs51 h3 h4 h5 h6 h7
    exact gs53
  · skip
    refine zFi_let (fun v4 _ => ?_)
    refine zFi_let (fun v5 _ => ?_)
    refine zFi_if (fun _ => ?_) (fun _ => ?_)
    · skip
      refine zFi_let (fun v8 _ => ?_)
      refine zFi_let (fun v9 _ => ?_)
      refine zFi_if (fun _ => ?_) (fun _ => ?_)
      · skip
        exact g
      · skip
        refine zFi_let (fun v11 _ => ?_)
        refine zFi_let (fun v12 _ => ?_)
        refine zFi_if (fun _ => ?_) (fun _ => ?_)
        · skip
          exact g
        · skip
          refine zFi_let (fun v14 _ => ?_)
          refine zFi_let (fun s15 es15 => ?_)
          have gs15 : zFi A σ s15 := by rw [es15]; exact fi_X3_fail g h6 h7 h4
          exact gs15
    · skip
      refine zFi_let (fun v16 _ => ?_)
      refine zFi_let (fun v17 _ => ?_)
      refine zFi_if (fun _ => ?_) (fun _ => ?_)
      · skip
        refine zFi_let (fun v39 ev39 => ?_)
        rw [g.rf] at ev39
        subst ev39
        refine zFi_let (fun v40 _ => ?_)
        refine zFi_let (fun v41 _ => ?_)
        refine zFi_let (fun v42 _ => ?_)
        refine zFi_let (fun v43 _ => ?_)
        refine zFi_let (fun s44 es44 => ?_)
        have gs44 : zFi A σ s44 := by rw [es44]; exact fi_X9_addStep g h0 h1 h2
        refine zFi_let (fun v45 _ => ?_)
        refine zFi_let (fun s46 es46 => ?_)
        have gs46 : zFi A σ s46 := by rw [es46]; exact fi_X3_take gs44 h3 h4 h5 h6 h7
        exact gs46
      · skip
        refine zFi_let (fun v20 _ => ?_)
        refine zFi_let (fun v21 _ => ?_)
        refine zFi_if (fun _ => ?_) (fun _ => ?_)
        · skip
          refine zFi_let (fun v30 _ => ?_)
          refine zFi_if (fun _ => ?_) (fun _ => ?_)
          · skip
            refine zFi_let (fun v32 _ => ?_)
            refine zFi_let (fun s33 es33 => ?_)
            have gs33 : zFi A σ s33 := by rw [es33]; exact fi_X3_take g h3 h4 h5 h6 h7
            refine zFi_let (fun v34 _ => ?_)
            refine zFi_let (fun v35 _ => ?_)
            refine zFi_let (fun s36 es36 => ?_)
            have gs36 : zFi A σ s36 := by rw [es36]; exact fi_X3_sum_o5 gs33 h0 h1 h2 h3 h4 h5 h6 h7
            refine zFi_let (fun v37 _ => ?_)
            refine zFi_let (fun s38 es38 => ?_)
            have gs38 : zFi A σ s38 := by rw [es38]; exact fi_X3_take gs36 h3 h4 h5 h6 h7
            exact gs38
          · skip
            exact g
        · skip
          refine zFi_let (fun v23 _ => ?_)
          refine zFi_let (fun v24 _ => ?_)
          refine zFi_if (fun _ => ?_) (fun _ => ?_)
          · skip
            refine zFi_let (fun v28 _ => ?_)
            refine zFi_let (fun s29 es29 => ?_)
            have gs29 : zFi A σ s29 := by rw [es29]; exact fi_X3_fail g h6 h7 h4
            exact gs29
          · skip
            refine zFi_let (fun v26 _ => ?_)
            refine zFi_let (fun s27 es27 => ?_)
            have gs27 : zFi A σ s27 := by rw [es27]; exact fi_X3_fail g h6 h7 h4
            exact gs27
set_option maxRecDepth 100000 in
theorem fi_X3_product_o4_7 {A : Nat → Nat → Prop} {σ : zS} {a0 : Nat} {p1 : Int32}  (h0 : A a0 2) (h1 : A a0 3) (h2 : A a0 5) (h3 : A a0 8) (h4 : A a0 9) (h5 : ∀ j, A ((σ.2.2 ((σ.2.2 a0 1).getD 0) 6).getD 0) j) (h6 : ∀ j, A ((σ.2.2 ((σ.2.2 a0 1).getD 0) 7).getD 0) j) (h7 : A (((σ.2.2 a0 1).getD 0)) 8) : ∀ (n : Nat) (x3 : Int32) (τ4 : zS), zFi A σ τ4 → zFi A σ (F_X3_product_o4_7 a0 p1 n x3 τ4) := by
  intro n
  induction n with
  | zero => intro x3 τ4 g; exact g
  | succ n ih =>
    intro x3 τ4 g
    rw [F_X3_product_o4_7]
    refine zFi_let (fun v5 _ => ?_)
    refine zFi_if (fun _ => ?_) (fun _ => ?_)
    · skip
      exact g
    · skip
      refine zFi_let (fun v7 _ => ?_)
      refine zFi_let (fun v8 _ => ?_)
      refine zFi_let (fun v9 _ => ?_)
      refine zFi_let (fun v10 _ => ?_)
      refine zFi_if (fun _ => ?_) (fun _ => ?_)
      · skip
        exact g
      · skip
        refine zFi_let (fun v12 _ => ?_)
        refine zFi_let (fun s13 es13 => ?_)
        have gs13 : zFi A σ s13 := by rw [es13]; exact fi_X3_take g h0 h1 h2 h3 h4
        refine zFi_let (fun s14 es14 => ?_)
        have gs14 : zFi A σ s14 := by rw [es14]; exact fi_X3_unit_o4 gs13 h5 h6 h7 h0 h1 h2 h3 h4
        refine zFi_let (fun v15 ev15 => ?_)
        rw [gs14.rf] at ev15
        subst ev15
        refine zFi_let (fun v16 _ => ?_)
        refine zFi_if (fun _ => ?_) (fun _ => ?_)
        · skip
          refine zFi_let (fun v22 _ => ?_)
          refine zFi_let (fun v23 _ => ?_)
          refine zFi_let (fun s24 es24 => ?_)
          have gs24 : zFi A σ s24 := by rw [es24]; exact fi_X9_addStep gs14 h5 h6 h7
          refine zFi_let (fun v25 _ => ?_)
          exact ih _ _ gs24
        · skip
          refine zFi_let (fun v18 _ => ?_)
          refine zFi_let (fun v19 _ => ?_)
          refine zFi_let (fun s20 es20 => ?_)
          have gs20 : zFi A σ s20 := by rw [es20]; exact fi_X9_addStep gs14 h5 h6 h7
          refine zFi_let (fun v21 _ => ?_)
          exact ih _ _ gs20
set_option maxRecDepth 100000 in
theorem fi_X3_product_o4 {A : Nat → Nat → Prop} {σ σ0 : zS} {a0 : Nat} {p1 : Int32}  (g : zFi A σ σ0) (h0 : ∀ j, A ((σ.2.2 ((σ.2.2 a0 1).getD 0) 6).getD 0) j) (h1 : ∀ j, A ((σ.2.2 ((σ.2.2 a0 1).getD 0) 7).getD 0) j) (h2 : A (((σ.2.2 a0 1).getD 0)) 8) (h3 : A a0 2) (h4 : A a0 3) (h5 : A a0 5) (h6 : A a0 8) (h7 : A a0 9) : zFi A σ (F_X3_product_o4 a0 p1 σ0) := by
  unfold F_X3_product_o4
  refine zFi_let (fun s1 es1 => ?_)
  have gs1 : zFi A σ s1 := by rw [es1]; exact fi_X3_unit_o4 g h0 h1 h2 h3 h4 h5 h6 h7
  refine zFi_let (fun v2 _ => ?_)
  exact fi_X3_product_o4_7  h3 h4 h5 h6 h7 h0 h1 h2 _ _ _ gs1
set_option maxRecDepth 100000 in
theorem fi_X3_sum_o4_7 {A : Nat → Nat → Prop} {σ : zS} {a0 : Nat} {p1 : Int32}  (h0 : A a0 2) (h1 : A a0 3) (h2 : A a0 5) (h3 : A a0 8) (h4 : A a0 9) (h5 : ∀ j, A ((σ.2.2 ((σ.2.2 a0 1).getD 0) 6).getD 0) j) (h6 : ∀ j, A ((σ.2.2 ((σ.2.2 a0 1).getD 0) 7).getD 0) j) (h7 : A (((σ.2.2 a0 1).getD 0)) 8) : ∀ (n : Nat) (x3 : Int32) (τ4 : zS), zFi A σ τ4 → zFi A σ (F_X3_sum_o4_7 a0 p1 n x3 τ4) := by
  intro n
  induction n with
  | zero => intro x3 τ4 g; exact g
  | succ n ih =>
    intro x3 τ4 g
    rw [F_X3_sum_o4_7]
    refine zFi_let (fun v5 _ => ?_)
    refine zFi_if (fun _ => ?_) (fun _ => ?_)
    · skip
      exact g
    · skip
      refine zFi_let (fun v7 _ => ?_)
      refine zFi_let (fun v8 _ => ?_)
      refine zFi_let (fun v9 _ => ?_)
      refine zFi_let (fun v10 _ => ?_)
      refine zFi_if (fun _ => ?_) (fun _ => ?_)
      · skip
        exact g
      · skip
        refine zFi_let (fun v12 _ => ?_)
        refine zFi_let (fun s13 es13 => ?_)
        have gs13 : zFi A σ s13 := by rw [es13]; exact fi_X3_take g h0 h1 h2 h3 h4
        refine zFi_let (fun s14 es14 => ?_)
        have gs14 : zFi A σ s14 := by rw [es14]; exact fi_X3_product_o4 gs13 h5 h6 h7 h0 h1 h2 h3 h4
        refine zFi_let (fun v15 ev15 => ?_)
        rw [gs14.rf] at ev15
        subst ev15
        refine zFi_let (fun v16 _ => ?_)
        refine zFi_if (fun _ => ?_) (fun _ => ?_)
        · skip
          refine zFi_let (fun v22 _ => ?_)
          refine zFi_let (fun v23 _ => ?_)
          refine zFi_let (fun s24 es24 => ?_)
          have gs24 : zFi A σ s24 := by rw [es24]; exact fi_X9_addStep gs14 h5 h6 h7
          refine zFi_let (fun v25 _ => ?_)
          exact ih _ _ gs24
        · skip
          refine zFi_let (fun v18 _ => ?_)
          refine zFi_let (fun v19 _ => ?_)
          refine zFi_let (fun s20 es20 => ?_)
          have gs20 : zFi A σ s20 := by rw [es20]; exact fi_X9_addStep gs14 h5 h6 h7
          refine zFi_let (fun v21 _ => ?_)
          exact ih _ _ gs20
set_option maxRecDepth 100000 in
theorem fi_X3_sum_o4 {A : Nat → Nat → Prop} {σ σ0 : zS} {a0 : Nat} {p1 : Int32}  (g : zFi A σ σ0) (h0 : ∀ j, A ((σ.2.2 ((σ.2.2 a0 1).getD 0) 6).getD 0) j) (h1 : ∀ j, A ((σ.2.2 ((σ.2.2 a0 1).getD 0) 7).getD 0) j) (h2 : A (((σ.2.2 a0 1).getD 0)) 8) (h3 : A a0 2) (h4 : A a0 3) (h5 : A a0 5) (h6 : A a0 8) (h7 : A a0 9) : zFi A σ (F_X3_sum_o4 a0 p1 σ0) := by
  unfold F_X3_sum_o4
  refine zFi_let (fun s1 es1 => ?_)
  have gs1 : zFi A σ s1 := by rw [es1]; exact fi_X3_product_o4 g h0 h1 h2 h3 h4 h5 h6 h7
  refine zFi_let (fun v2 _ => ?_)
  exact fi_X3_sum_o4_7  h3 h4 h5 h6 h7 h0 h1 h2 _ _ _ gs1
set_option maxRecDepth 100000 in
theorem fi_X3_unit_o3 {A : Nat → Nat → Prop} {σ σ0 : zS} {a0 : Nat} {p1 : Int32}  (g : zFi A σ σ0) (h0 : ∀ j, A ((σ.2.2 ((σ.2.2 a0 1).getD 0) 6).getD 0) j) (h1 : ∀ j, A ((σ.2.2 ((σ.2.2 a0 1).getD 0) 7).getD 0) j) (h2 : A (((σ.2.2 a0 1).getD 0)) 8) (h3 : A a0 2) (h4 : A a0 3) (h5 : A a0 5) (h6 : A a0 8) (h7 : A a0 9) : zFi A σ (F_X3_unit_o3 a0 p1 σ0) := by
  unfold F_X3_unit_o3
  refine zFi_let (fun v1 _ => ?_)
  refine zFi_let (fun v2 _ => ?_)
  refine zFi_if (fun _ => ?_) (fun _ => ?_)
  · skip
    refine zFi_let (fun v47 ev47 => ?_)
    rw [g.rf] at ev47
    subst ev47
    refine zFi_let (fun v48 _ => ?_)
    refine zFi_let (fun v49 _ => ?_)
    refine zFi_let (fun v50 _ => ?_)
    refine zFi_let (fun s51 es51 => ?_)
    have gs51 : zFi A σ s51 := by rw [es51]; exact fi_X9_addStep g h0 h1 h2
    refine zFi_let (fun v52 _ => ?_)
    refine zFi_let (fun s53 es53 => ?_)
    have gs53 : zFi A σ s53 := by rw [es53]; exact fi_X3_take gs51 h3 h4 h5 h6 h7
    exact gs53
  · skip
    refine zFi_let (fun v4 _ => ?_)
    refine zFi_let (fun v5 _ => ?_)
    refine zFi_if (fun _ => ?_) (fun _ => ?_)
    · skip
      refine zFi_let (fun v8 _ => ?_)
      refine zFi_let (fun v9 _ => ?_)
      refine zFi_if (fun _ => ?_) (fun _ => ?_)
      · skip
        exact g
      · skip
        refine zFi_let (fun v11 _ => ?_)
        refine zFi_let (fun v12 _ => ?_)
        refine zFi_if (fun _ => ?_) (fun _ => ?_)
        · skip
          exact g
        · skip
          refine zFi_let (fun v14 _ => ?_)
          refine zFi_let (fun s15 es15 => ?_)
          have gs15 : zFi A σ s15 := by rw [es15]; exact fi_X3_fail g h6 h7 h4
          exact gs15
    · skip
      refine zFi_let (fun v16 _ => ?_)
      refine zFi_let (fun v17 _ => ?_)
      refine zFi_if (fun _ => ?_) (fun _ => ?_)
      · skip
        refine zFi_let (fun v39 ev39 => ?_)
        rw [g.rf] at ev39
        subst ev39
        refine zFi_let (fun v40 _ => ?_)
        refine zFi_let (fun v41 _ => ?_)
        refine zFi_let (fun v42 _ => ?_)
        refine zFi_let (fun v43 _ => ?_)
        refine zFi_let (fun s44 es44 => ?_)
        have gs44 : zFi A σ s44 := by rw [es44]; exact fi_X9_addStep g h0 h1 h2
        refine zFi_let (fun v45 _ => ?_)
        refine zFi_let (fun s46 es46 => ?_)
        have gs46 : zFi A σ s46 := by rw [es46]; exact fi_X3_take gs44 h3 h4 h5 h6 h7
        exact gs46
      · skip
        refine zFi_let (fun v20 _ => ?_)
        refine zFi_let (fun v21 _ => ?_)
        refine zFi_if (fun _ => ?_) (fun _ => ?_)
        · skip
          refine zFi_let (fun v30 _ => ?_)
          refine zFi_if (fun _ => ?_) (fun _ => ?_)
          · skip
            refine zFi_let (fun v32 _ => ?_)
            refine zFi_let (fun s33 es33 => ?_)
            have gs33 : zFi A σ s33 := by rw [es33]; exact fi_X3_take g h3 h4 h5 h6 h7
            refine zFi_let (fun v34 _ => ?_)
            refine zFi_let (fun v35 _ => ?_)
            refine zFi_let (fun s36 es36 => ?_)
            have gs36 : zFi A σ s36 := by rw [es36]; exact fi_X3_sum_o4 gs33 h0 h1 h2 h3 h4 h5 h6 h7
            refine zFi_let (fun v37 _ => ?_)
            refine zFi_let (fun s38 es38 => ?_)
            have gs38 : zFi A σ s38 := by rw [es38]; exact fi_X3_take gs36 h3 h4 h5 h6 h7
            exact gs38
          · skip
            exact g
        · skip
          refine zFi_let (fun v23 _ => ?_)
          refine zFi_let (fun v24 _ => ?_)
          refine zFi_if (fun _ => ?_) (fun _ => ?_)
          · skip
            refine zFi_let (fun v28 _ => ?_)
            refine zFi_let (fun s29 es29 => ?_)
            have gs29 : zFi A σ s29 := by rw [es29]; exact fi_X3_fail g h6 h7 h4
            exact gs29
          · skip
            refine zFi_let (fun v26 _ => ?_)
            refine zFi_let (fun s27 es27 => ?_)
            have gs27 : zFi A σ s27 := by rw [es27]; exact fi_X3_fail g h6 h7 h4
            exact gs27
set_option maxRecDepth 100000 in
theorem fi_X3_product_o3_7 {A : Nat → Nat → Prop} {σ : zS} {a0 : Nat} {p1 : Int32}  (h0 : A a0 2) (h1 : A a0 3) (h2 : A a0 5) (h3 : A a0 8) (h4 : A a0 9) (h5 : ∀ j, A ((σ.2.2 ((σ.2.2 a0 1).getD 0) 6).getD 0) j) (h6 : ∀ j, A ((σ.2.2 ((σ.2.2 a0 1).getD 0) 7).getD 0) j) (h7 : A (((σ.2.2 a0 1).getD 0)) 8) : ∀ (n : Nat) (x3 : Int32) (τ4 : zS), zFi A σ τ4 → zFi A σ (F_X3_product_o3_7 a0 p1 n x3 τ4) := by
  intro n
  induction n with
  | zero => intro x3 τ4 g; exact g
  | succ n ih =>
    intro x3 τ4 g
    rw [F_X3_product_o3_7]
    refine zFi_let (fun v5 _ => ?_)
    refine zFi_if (fun _ => ?_) (fun _ => ?_)
    · skip
      exact g
    · skip
      refine zFi_let (fun v7 _ => ?_)
      refine zFi_let (fun v8 _ => ?_)
      refine zFi_let (fun v9 _ => ?_)
      refine zFi_let (fun v10 _ => ?_)
      refine zFi_if (fun _ => ?_) (fun _ => ?_)
      · skip
        exact g
      · skip
        refine zFi_let (fun v12 _ => ?_)
        refine zFi_let (fun s13 es13 => ?_)
        have gs13 : zFi A σ s13 := by rw [es13]; exact fi_X3_take g h0 h1 h2 h3 h4
        refine zFi_let (fun s14 es14 => ?_)
        have gs14 : zFi A σ s14 := by rw [es14]; exact fi_X3_unit_o3 gs13 h5 h6 h7 h0 h1 h2 h3 h4
        refine zFi_let (fun v15 ev15 => ?_)
        rw [gs14.rf] at ev15
        subst ev15
        refine zFi_let (fun v16 _ => ?_)
        refine zFi_if (fun _ => ?_) (fun _ => ?_)
        · skip
          refine zFi_let (fun v22 _ => ?_)
          refine zFi_let (fun v23 _ => ?_)
          refine zFi_let (fun s24 es24 => ?_)
          have gs24 : zFi A σ s24 := by rw [es24]; exact fi_X9_addStep gs14 h5 h6 h7
          refine zFi_let (fun v25 _ => ?_)
          exact ih _ _ gs24
        · skip
          refine zFi_let (fun v18 _ => ?_)
          refine zFi_let (fun v19 _ => ?_)
          refine zFi_let (fun s20 es20 => ?_)
          have gs20 : zFi A σ s20 := by rw [es20]; exact fi_X9_addStep gs14 h5 h6 h7
          refine zFi_let (fun v21 _ => ?_)
          exact ih _ _ gs20
set_option maxRecDepth 100000 in
theorem fi_X3_product_o3 {A : Nat → Nat → Prop} {σ σ0 : zS} {a0 : Nat} {p1 : Int32}  (g : zFi A σ σ0) (h0 : ∀ j, A ((σ.2.2 ((σ.2.2 a0 1).getD 0) 6).getD 0) j) (h1 : ∀ j, A ((σ.2.2 ((σ.2.2 a0 1).getD 0) 7).getD 0) j) (h2 : A (((σ.2.2 a0 1).getD 0)) 8) (h3 : A a0 2) (h4 : A a0 3) (h5 : A a0 5) (h6 : A a0 8) (h7 : A a0 9) : zFi A σ (F_X3_product_o3 a0 p1 σ0) := by
  unfold F_X3_product_o3
  refine zFi_let (fun s1 es1 => ?_)
  have gs1 : zFi A σ s1 := by rw [es1]; exact fi_X3_unit_o3 g h0 h1 h2 h3 h4 h5 h6 h7
  refine zFi_let (fun v2 _ => ?_)
  exact fi_X3_product_o3_7  h3 h4 h5 h6 h7 h0 h1 h2 _ _ _ gs1
set_option maxRecDepth 100000 in
theorem fi_X3_sum_o3_7 {A : Nat → Nat → Prop} {σ : zS} {a0 : Nat} {p1 : Int32}  (h0 : A a0 2) (h1 : A a0 3) (h2 : A a0 5) (h3 : A a0 8) (h4 : A a0 9) (h5 : ∀ j, A ((σ.2.2 ((σ.2.2 a0 1).getD 0) 6).getD 0) j) (h6 : ∀ j, A ((σ.2.2 ((σ.2.2 a0 1).getD 0) 7).getD 0) j) (h7 : A (((σ.2.2 a0 1).getD 0)) 8) : ∀ (n : Nat) (x3 : Int32) (τ4 : zS), zFi A σ τ4 → zFi A σ (F_X3_sum_o3_7 a0 p1 n x3 τ4) := by
  intro n
  induction n with
  | zero => intro x3 τ4 g; exact g
  | succ n ih =>
    intro x3 τ4 g
    rw [F_X3_sum_o3_7]
    refine zFi_let (fun v5 _ => ?_)
    refine zFi_if (fun _ => ?_) (fun _ => ?_)
    · skip
      exact g
    · skip
      refine zFi_let (fun v7 _ => ?_)
      refine zFi_let (fun v8 _ => ?_)
      refine zFi_let (fun v9 _ => ?_)
      refine zFi_let (fun v10 _ => ?_)
      refine zFi_if (fun _ => ?_) (fun _ => ?_)
      · skip
        exact g
      · skip
        refine zFi_let (fun v12 _ => ?_)
        refine zFi_let (fun s13 es13 => ?_)
        have gs13 : zFi A σ s13 := by rw [es13]; exact fi_X3_take g h0 h1 h2 h3 h4
        refine zFi_let (fun s14 es14 => ?_)
        have gs14 : zFi A σ s14 := by rw [es14]; exact fi_X3_product_o3 gs13 h5 h6 h7 h0 h1 h2 h3 h4
        refine zFi_let (fun v15 ev15 => ?_)
        rw [gs14.rf] at ev15
        subst ev15
        refine zFi_let (fun v16 _ => ?_)
        refine zFi_if (fun _ => ?_) (fun _ => ?_)
        · skip
          refine zFi_let (fun v22 _ => ?_)
          refine zFi_let (fun v23 _ => ?_)
          refine zFi_let (fun s24 es24 => ?_)
          have gs24 : zFi A σ s24 := by rw [es24]; exact fi_X9_addStep gs14 h5 h6 h7
          refine zFi_let (fun v25 _ => ?_)
          exact ih _ _ gs24
        · skip
          refine zFi_let (fun v18 _ => ?_)
          refine zFi_let (fun v19 _ => ?_)
          refine zFi_let (fun s20 es20 => ?_)
          have gs20 : zFi A σ s20 := by rw [es20]; exact fi_X9_addStep gs14 h5 h6 h7
          refine zFi_let (fun v21 _ => ?_)
          exact ih _ _ gs20
set_option maxRecDepth 100000 in
theorem fi_X3_sum_o3 {A : Nat → Nat → Prop} {σ σ0 : zS} {a0 : Nat} {p1 : Int32}  (g : zFi A σ σ0) (h0 : ∀ j, A ((σ.2.2 ((σ.2.2 a0 1).getD 0) 6).getD 0) j) (h1 : ∀ j, A ((σ.2.2 ((σ.2.2 a0 1).getD 0) 7).getD 0) j) (h2 : A (((σ.2.2 a0 1).getD 0)) 8) (h3 : A a0 2) (h4 : A a0 3) (h5 : A a0 5) (h6 : A a0 8) (h7 : A a0 9) : zFi A σ (F_X3_sum_o3 a0 p1 σ0) := by
  unfold F_X3_sum_o3
  refine zFi_let (fun s1 es1 => ?_)
  have gs1 : zFi A σ s1 := by rw [es1]; exact fi_X3_product_o3 g h0 h1 h2 h3 h4 h5 h6 h7
  refine zFi_let (fun v2 _ => ?_)
  exact fi_X3_sum_o3_7  h3 h4 h5 h6 h7 h0 h1 h2 _ _ _ gs1
set_option maxRecDepth 100000 in
theorem fi_X3_unit_o2 {A : Nat → Nat → Prop} {σ σ0 : zS} {a0 : Nat} {p1 : Int32}  (g : zFi A σ σ0) (h0 : ∀ j, A ((σ.2.2 ((σ.2.2 a0 1).getD 0) 6).getD 0) j) (h1 : ∀ j, A ((σ.2.2 ((σ.2.2 a0 1).getD 0) 7).getD 0) j) (h2 : A (((σ.2.2 a0 1).getD 0)) 8) (h3 : A a0 2) (h4 : A a0 3) (h5 : A a0 5) (h6 : A a0 8) (h7 : A a0 9) : zFi A σ (F_X3_unit_o2 a0 p1 σ0) := by
  unfold F_X3_unit_o2
  refine zFi_let (fun v1 _ => ?_)
  refine zFi_let (fun v2 _ => ?_)
  refine zFi_if (fun _ => ?_) (fun _ => ?_)
  · skip
    refine zFi_let (fun v47 ev47 => ?_)
    rw [g.rf] at ev47
    subst ev47
    refine zFi_let (fun v48 _ => ?_)
    refine zFi_let (fun v49 _ => ?_)
    refine zFi_let (fun v50 _ => ?_)
    refine zFi_let (fun s51 es51 => ?_)
    have gs51 : zFi A σ s51 := by rw [es51]; exact fi_X9_addStep g h0 h1 h2
    refine zFi_let (fun v52 _ => ?_)
    refine zFi_let (fun s53 es53 => ?_)
    have gs53 : zFi A σ s53 := by rw [es53]; exact fi_X3_take gs51 h3 h4 h5 h6 h7
    exact gs53
  · skip
    refine zFi_let (fun v4 _ => ?_)
    refine zFi_let (fun v5 _ => ?_)
    refine zFi_if (fun _ => ?_) (fun _ => ?_)
    · skip
      refine zFi_let (fun v8 _ => ?_)
      refine zFi_let (fun v9 _ => ?_)
      refine zFi_if (fun _ => ?_) (fun _ => ?_)
      · skip
        exact g
      · skip
        refine zFi_let (fun v11 _ => ?_)
        refine zFi_let (fun v12 _ => ?_)
        refine zFi_if (fun _ => ?_) (fun _ => ?_)
        · skip
          exact g
        · skip
          refine zFi_let (fun v14 _ => ?_)
          refine zFi_let (fun s15 es15 => ?_)
          have gs15 : zFi A σ s15 := by rw [es15]; exact fi_X3_fail g h6 h7 h4
          exact gs15
    · skip
      refine zFi_let (fun v16 _ => ?_)
      refine zFi_let (fun v17 _ => ?_)
      refine zFi_if (fun _ => ?_) (fun _ => ?_)
      · skip
        refine zFi_let (fun v39 ev39 => ?_)
        rw [g.rf] at ev39
        subst ev39
        refine zFi_let (fun v40 _ => ?_)
        refine zFi_let (fun v41 _ => ?_)
        refine zFi_let (fun v42 _ => ?_)
        refine zFi_let (fun v43 _ => ?_)
        refine zFi_let (fun s44 es44 => ?_)
        have gs44 : zFi A σ s44 := by rw [es44]; exact fi_X9_addStep g h0 h1 h2
        refine zFi_let (fun v45 _ => ?_)
        refine zFi_let (fun s46 es46 => ?_)
        have gs46 : zFi A σ s46 := by rw [es46]; exact fi_X3_take gs44 h3 h4 h5 h6 h7
        exact gs46
      · skip
        refine zFi_let (fun v20 _ => ?_)
        refine zFi_let (fun v21 _ => ?_)
        refine zFi_if (fun _ => ?_) (fun _ => ?_)
        · skip
          refine zFi_let (fun v30 _ => ?_)
          refine zFi_if (fun _ => ?_) (fun _ => ?_)
          · skip
            refine zFi_let (fun v32 _ => ?_)
            refine zFi_let (fun s33 es33 => ?_)
            have gs33 : zFi A σ s33 := by rw [es33]; exact fi_X3_take g h3 h4 h5 h6 h7
            refine zFi_let (fun v34 _ => ?_)
            refine zFi_let (fun v35 _ => ?_)
            refine zFi_let (fun s36 es36 => ?_)
            have gs36 : zFi A σ s36 := by rw [es36]; exact fi_X3_sum_o3 gs33 h0 h1 h2 h3 h4 h5 h6 h7
            refine zFi_let (fun v37 _ => ?_)
            refine zFi_let (fun s38 es38 => ?_)
            have gs38 : zFi A σ s38 := by rw [es38]; exact fi_X3_take gs36 h3 h4 h5 h6 h7
            exact gs38
          · skip
            exact g
        · skip
          refine zFi_let (fun v23 _ => ?_)
          refine zFi_let (fun v24 _ => ?_)
          refine zFi_if (fun _ => ?_) (fun _ => ?_)
          · skip
            refine zFi_let (fun v28 _ => ?_)
            refine zFi_let (fun s29 es29 => ?_)
            have gs29 : zFi A σ s29 := by rw [es29]; exact fi_X3_fail g h6 h7 h4
            exact gs29
          · skip
            refine zFi_let (fun v26 _ => ?_)
            refine zFi_let (fun s27 es27 => ?_)
            have gs27 : zFi A σ s27 := by rw [es27]; exact fi_X3_fail g h6 h7 h4
            exact gs27
set_option maxRecDepth 100000 in
theorem fi_X3_product_o2_7 {A : Nat → Nat → Prop} {σ : zS} {a0 : Nat} {p1 : Int32}  (h0 : A a0 2) (h1 : A a0 3) (h2 : A a0 5) (h3 : A a0 8) (h4 : A a0 9) (h5 : ∀ j, A ((σ.2.2 ((σ.2.2 a0 1).getD 0) 6).getD 0) j) (h6 : ∀ j, A ((σ.2.2 ((σ.2.2 a0 1).getD 0) 7).getD 0) j) (h7 : A (((σ.2.2 a0 1).getD 0)) 8) : ∀ (n : Nat) (x3 : Int32) (τ4 : zS), zFi A σ τ4 → zFi A σ (F_X3_product_o2_7 a0 p1 n x3 τ4) := by
  intro n
  induction n with
  | zero => intro x3 τ4 g; exact g
  | succ n ih =>
    intro x3 τ4 g
    rw [F_X3_product_o2_7]
    refine zFi_let (fun v5 _ => ?_)
    refine zFi_if (fun _ => ?_) (fun _ => ?_)
    · skip
      exact g
    · skip
      refine zFi_let (fun v7 _ => ?_)
      refine zFi_let (fun v8 _ => ?_)
      refine zFi_let (fun v9 _ => ?_)
      refine zFi_let (fun v10 _ => ?_)
      refine zFi_if (fun _ => ?_) (fun _ => ?_)
      · skip
        exact g
      · skip
        refine zFi_let (fun v12 _ => ?_)
        refine zFi_let (fun s13 es13 => ?_)
        have gs13 : zFi A σ s13 := by rw [es13]; exact fi_X3_take g h0 h1 h2 h3 h4
        refine zFi_let (fun s14 es14 => ?_)
        have gs14 : zFi A σ s14 := by rw [es14]; exact fi_X3_unit_o2 gs13 h5 h6 h7 h0 h1 h2 h3 h4
        refine zFi_let (fun v15 ev15 => ?_)
        rw [gs14.rf] at ev15
        subst ev15
        refine zFi_let (fun v16 _ => ?_)
        refine zFi_if (fun _ => ?_) (fun _ => ?_)
        · skip
          refine zFi_let (fun v22 _ => ?_)
          refine zFi_let (fun v23 _ => ?_)
          refine zFi_let (fun s24 es24 => ?_)
          have gs24 : zFi A σ s24 := by rw [es24]; exact fi_X9_addStep gs14 h5 h6 h7
          refine zFi_let (fun v25 _ => ?_)
          exact ih _ _ gs24
        · skip
          refine zFi_let (fun v18 _ => ?_)
          refine zFi_let (fun v19 _ => ?_)
          refine zFi_let (fun s20 es20 => ?_)
          have gs20 : zFi A σ s20 := by rw [es20]; exact fi_X9_addStep gs14 h5 h6 h7
          refine zFi_let (fun v21 _ => ?_)
          exact ih _ _ gs20
set_option maxRecDepth 100000 in
theorem fi_X3_product_o2 {A : Nat → Nat → Prop} {σ σ0 : zS} {a0 : Nat} {p1 : Int32}  (g : zFi A σ σ0) (h0 : ∀ j, A ((σ.2.2 ((σ.2.2 a0 1).getD 0) 6).getD 0) j) (h1 : ∀ j, A ((σ.2.2 ((σ.2.2 a0 1).getD 0) 7).getD 0) j) (h2 : A (((σ.2.2 a0 1).getD 0)) 8) (h3 : A a0 2) (h4 : A a0 3) (h5 : A a0 5) (h6 : A a0 8) (h7 : A a0 9) : zFi A σ (F_X3_product_o2 a0 p1 σ0) := by
  unfold F_X3_product_o2
  refine zFi_let (fun s1 es1 => ?_)
  have gs1 : zFi A σ s1 := by rw [es1]; exact fi_X3_unit_o2 g h0 h1 h2 h3 h4 h5 h6 h7
  refine zFi_let (fun v2 _ => ?_)
  exact fi_X3_product_o2_7  h3 h4 h5 h6 h7 h0 h1 h2 _ _ _ gs1
set_option maxRecDepth 100000 in
theorem fi_X3_sum_o2_7 {A : Nat → Nat → Prop} {σ : zS} {a0 : Nat} {p1 : Int32}  (h0 : A a0 2) (h1 : A a0 3) (h2 : A a0 5) (h3 : A a0 8) (h4 : A a0 9) (h5 : ∀ j, A ((σ.2.2 ((σ.2.2 a0 1).getD 0) 6).getD 0) j) (h6 : ∀ j, A ((σ.2.2 ((σ.2.2 a0 1).getD 0) 7).getD 0) j) (h7 : A (((σ.2.2 a0 1).getD 0)) 8) : ∀ (n : Nat) (x3 : Int32) (τ4 : zS), zFi A σ τ4 → zFi A σ (F_X3_sum_o2_7 a0 p1 n x3 τ4) := by
  intro n
  induction n with
  | zero => intro x3 τ4 g; exact g
  | succ n ih =>
    intro x3 τ4 g
    rw [F_X3_sum_o2_7]
    refine zFi_let (fun v5 _ => ?_)
    refine zFi_if (fun _ => ?_) (fun _ => ?_)
    · skip
      exact g
    · skip
      refine zFi_let (fun v7 _ => ?_)
      refine zFi_let (fun v8 _ => ?_)
      refine zFi_let (fun v9 _ => ?_)
      refine zFi_let (fun v10 _ => ?_)
      refine zFi_if (fun _ => ?_) (fun _ => ?_)
      · skip
        exact g
      · skip
        refine zFi_let (fun v12 _ => ?_)
        refine zFi_let (fun s13 es13 => ?_)
        have gs13 : zFi A σ s13 := by rw [es13]; exact fi_X3_take g h0 h1 h2 h3 h4
        refine zFi_let (fun s14 es14 => ?_)
        have gs14 : zFi A σ s14 := by rw [es14]; exact fi_X3_product_o2 gs13 h5 h6 h7 h0 h1 h2 h3 h4
        refine zFi_let (fun v15 ev15 => ?_)
        rw [gs14.rf] at ev15
        subst ev15
        refine zFi_let (fun v16 _ => ?_)
        refine zFi_if (fun _ => ?_) (fun _ => ?_)
        · skip
          refine zFi_let (fun v22 _ => ?_)
          refine zFi_let (fun v23 _ => ?_)
          refine zFi_let (fun s24 es24 => ?_)
          have gs24 : zFi A σ s24 := by rw [es24]; exact fi_X9_addStep gs14 h5 h6 h7
          refine zFi_let (fun v25 _ => ?_)
          exact ih _ _ gs24
        · skip
          refine zFi_let (fun v18 _ => ?_)
          refine zFi_let (fun v19 _ => ?_)
          refine zFi_let (fun s20 es20 => ?_)
          have gs20 : zFi A σ s20 := by rw [es20]; exact fi_X9_addStep gs14 h5 h6 h7
          refine zFi_let (fun v21 _ => ?_)
          exact ih _ _ gs20
set_option maxRecDepth 100000 in
theorem fi_X3_sum_o2 {A : Nat → Nat → Prop} {σ σ0 : zS} {a0 : Nat} {p1 : Int32}  (g : zFi A σ σ0) (h0 : ∀ j, A ((σ.2.2 ((σ.2.2 a0 1).getD 0) 6).getD 0) j) (h1 : ∀ j, A ((σ.2.2 ((σ.2.2 a0 1).getD 0) 7).getD 0) j) (h2 : A (((σ.2.2 a0 1).getD 0)) 8) (h3 : A a0 2) (h4 : A a0 3) (h5 : A a0 5) (h6 : A a0 8) (h7 : A a0 9) : zFi A σ (F_X3_sum_o2 a0 p1 σ0) := by
  unfold F_X3_sum_o2
  refine zFi_let (fun s1 es1 => ?_)
  have gs1 : zFi A σ s1 := by rw [es1]; exact fi_X3_product_o2 g h0 h1 h2 h3 h4 h5 h6 h7
  refine zFi_let (fun v2 _ => ?_)
  exact fi_X3_sum_o2_7  h3 h4 h5 h6 h7 h0 h1 h2 _ _ _ gs1
set_option maxRecDepth 100000 in
theorem fi_X3_unit_o1 {A : Nat → Nat → Prop} {σ σ0 : zS} {a0 : Nat} {p1 : Int32}  (g : zFi A σ σ0) (h0 : ∀ j, A ((σ.2.2 ((σ.2.2 a0 1).getD 0) 6).getD 0) j) (h1 : ∀ j, A ((σ.2.2 ((σ.2.2 a0 1).getD 0) 7).getD 0) j) (h2 : A (((σ.2.2 a0 1).getD 0)) 8) (h3 : A a0 2) (h4 : A a0 3) (h5 : A a0 5) (h6 : A a0 8) (h7 : A a0 9) : zFi A σ (F_X3_unit_o1 a0 p1 σ0) := by
  unfold F_X3_unit_o1
  refine zFi_let (fun v1 _ => ?_)
  refine zFi_let (fun v2 _ => ?_)
  refine zFi_if (fun _ => ?_) (fun _ => ?_)
  · skip
    refine zFi_let (fun v47 ev47 => ?_)
    rw [g.rf] at ev47
    subst ev47
    refine zFi_let (fun v48 _ => ?_)
    refine zFi_let (fun v49 _ => ?_)
    refine zFi_let (fun v50 _ => ?_)
    refine zFi_let (fun s51 es51 => ?_)
    have gs51 : zFi A σ s51 := by rw [es51]; exact fi_X9_addStep g h0 h1 h2
    refine zFi_let (fun v52 _ => ?_)
    refine zFi_let (fun s53 es53 => ?_)
    have gs53 : zFi A σ s53 := by rw [es53]; exact fi_X3_take gs51 h3 h4 h5 h6 h7
    exact gs53
  · skip
    refine zFi_let (fun v4 _ => ?_)
    refine zFi_let (fun v5 _ => ?_)
    refine zFi_if (fun _ => ?_) (fun _ => ?_)
    · skip
      refine zFi_let (fun v8 _ => ?_)
      refine zFi_let (fun v9 _ => ?_)
      refine zFi_if (fun _ => ?_) (fun _ => ?_)
      · skip
        exact g
      · skip
        refine zFi_let (fun v11 _ => ?_)
        refine zFi_let (fun v12 _ => ?_)
        refine zFi_if (fun _ => ?_) (fun _ => ?_)
        · skip
          exact g
        · skip
          refine zFi_let (fun v14 _ => ?_)
          refine zFi_let (fun s15 es15 => ?_)
          have gs15 : zFi A σ s15 := by rw [es15]; exact fi_X3_fail g h6 h7 h4
          exact gs15
    · skip
      refine zFi_let (fun v16 _ => ?_)
      refine zFi_let (fun v17 _ => ?_)
      refine zFi_if (fun _ => ?_) (fun _ => ?_)
      · skip
        refine zFi_let (fun v39 ev39 => ?_)
        rw [g.rf] at ev39
        subst ev39
        refine zFi_let (fun v40 _ => ?_)
        refine zFi_let (fun v41 _ => ?_)
        refine zFi_let (fun v42 _ => ?_)
        refine zFi_let (fun v43 _ => ?_)
        refine zFi_let (fun s44 es44 => ?_)
        have gs44 : zFi A σ s44 := by rw [es44]; exact fi_X9_addStep g h0 h1 h2
        refine zFi_let (fun v45 _ => ?_)
        refine zFi_let (fun s46 es46 => ?_)
        have gs46 : zFi A σ s46 := by rw [es46]; exact fi_X3_take gs44 h3 h4 h5 h6 h7
        exact gs46
      · skip
        refine zFi_let (fun v20 _ => ?_)
        refine zFi_let (fun v21 _ => ?_)
        refine zFi_if (fun _ => ?_) (fun _ => ?_)
        · skip
          refine zFi_let (fun v30 _ => ?_)
          refine zFi_if (fun _ => ?_) (fun _ => ?_)
          · skip
            refine zFi_let (fun v32 _ => ?_)
            refine zFi_let (fun s33 es33 => ?_)
            have gs33 : zFi A σ s33 := by rw [es33]; exact fi_X3_take g h3 h4 h5 h6 h7
            refine zFi_let (fun v34 _ => ?_)
            refine zFi_let (fun v35 _ => ?_)
            refine zFi_let (fun s36 es36 => ?_)
            have gs36 : zFi A σ s36 := by rw [es36]; exact fi_X3_sum_o2 gs33 h0 h1 h2 h3 h4 h5 h6 h7
            refine zFi_let (fun v37 _ => ?_)
            refine zFi_let (fun s38 es38 => ?_)
            have gs38 : zFi A σ s38 := by rw [es38]; exact fi_X3_take gs36 h3 h4 h5 h6 h7
            exact gs38
          · skip
            exact g
        · skip
          refine zFi_let (fun v23 _ => ?_)
          refine zFi_let (fun v24 _ => ?_)
          refine zFi_if (fun _ => ?_) (fun _ => ?_)
          · skip
            refine zFi_let (fun v28 _ => ?_)
            refine zFi_let (fun s29 es29 => ?_)
            have gs29 : zFi A σ s29 := by rw [es29]; exact fi_X3_fail g h6 h7 h4
            exact gs29
          · skip
            refine zFi_let (fun v26 _ => ?_)
            refine zFi_let (fun s27 es27 => ?_)
            have gs27 : zFi A σ s27 := by rw [es27]; exact fi_X3_fail g h6 h7 h4
            exact gs27
set_option maxRecDepth 100000 in
theorem fi_X3_product_o1_7 {A : Nat → Nat → Prop} {σ : zS} {a0 : Nat} {p1 : Int32}  (h0 : A a0 2) (h1 : A a0 3) (h2 : A a0 5) (h3 : A a0 8) (h4 : A a0 9) (h5 : ∀ j, A ((σ.2.2 ((σ.2.2 a0 1).getD 0) 6).getD 0) j) (h6 : ∀ j, A ((σ.2.2 ((σ.2.2 a0 1).getD 0) 7).getD 0) j) (h7 : A (((σ.2.2 a0 1).getD 0)) 8) : ∀ (n : Nat) (x3 : Int32) (τ4 : zS), zFi A σ τ4 → zFi A σ (F_X3_product_o1_7 a0 p1 n x3 τ4) := by
  intro n
  induction n with
  | zero => intro x3 τ4 g; exact g
  | succ n ih =>
    intro x3 τ4 g
    rw [F_X3_product_o1_7]
    refine zFi_let (fun v5 _ => ?_)
    refine zFi_if (fun _ => ?_) (fun _ => ?_)
    · skip
      exact g
    · skip
      refine zFi_let (fun v7 _ => ?_)
      refine zFi_let (fun v8 _ => ?_)
      refine zFi_let (fun v9 _ => ?_)
      refine zFi_let (fun v10 _ => ?_)
      refine zFi_if (fun _ => ?_) (fun _ => ?_)
      · skip
        exact g
      · skip
        refine zFi_let (fun v12 _ => ?_)
        refine zFi_let (fun s13 es13 => ?_)
        have gs13 : zFi A σ s13 := by rw [es13]; exact fi_X3_take g h0 h1 h2 h3 h4
        refine zFi_let (fun s14 es14 => ?_)
        have gs14 : zFi A σ s14 := by rw [es14]; exact fi_X3_unit_o1 gs13 h5 h6 h7 h0 h1 h2 h3 h4
        refine zFi_let (fun v15 ev15 => ?_)
        rw [gs14.rf] at ev15
        subst ev15
        refine zFi_let (fun v16 _ => ?_)
        refine zFi_if (fun _ => ?_) (fun _ => ?_)
        · skip
          refine zFi_let (fun v22 _ => ?_)
          refine zFi_let (fun v23 _ => ?_)
          refine zFi_let (fun s24 es24 => ?_)
          have gs24 : zFi A σ s24 := by rw [es24]; exact fi_X9_addStep gs14 h5 h6 h7
          refine zFi_let (fun v25 _ => ?_)
          exact ih _ _ gs24
        · skip
          refine zFi_let (fun v18 _ => ?_)
          refine zFi_let (fun v19 _ => ?_)
          refine zFi_let (fun s20 es20 => ?_)
          have gs20 : zFi A σ s20 := by rw [es20]; exact fi_X9_addStep gs14 h5 h6 h7
          refine zFi_let (fun v21 _ => ?_)
          exact ih _ _ gs20
set_option maxRecDepth 100000 in
theorem fi_X3_product_o1 {A : Nat → Nat → Prop} {σ σ0 : zS} {a0 : Nat} {p1 : Int32}  (g : zFi A σ σ0) (h0 : ∀ j, A ((σ.2.2 ((σ.2.2 a0 1).getD 0) 6).getD 0) j) (h1 : ∀ j, A ((σ.2.2 ((σ.2.2 a0 1).getD 0) 7).getD 0) j) (h2 : A (((σ.2.2 a0 1).getD 0)) 8) (h3 : A a0 2) (h4 : A a0 3) (h5 : A a0 5) (h6 : A a0 8) (h7 : A a0 9) : zFi A σ (F_X3_product_o1 a0 p1 σ0) := by
  unfold F_X3_product_o1
  refine zFi_let (fun s1 es1 => ?_)
  have gs1 : zFi A σ s1 := by rw [es1]; exact fi_X3_unit_o1 g h0 h1 h2 h3 h4 h5 h6 h7
  refine zFi_let (fun v2 _ => ?_)
  exact fi_X3_product_o1_7  h3 h4 h5 h6 h7 h0 h1 h2 _ _ _ gs1
set_option maxRecDepth 100000 in
theorem fi_X3_sum_o1_7 {A : Nat → Nat → Prop} {σ : zS} {a0 : Nat} {p1 : Int32}  (h0 : A a0 2) (h1 : A a0 3) (h2 : A a0 5) (h3 : A a0 8) (h4 : A a0 9) (h5 : ∀ j, A ((σ.2.2 ((σ.2.2 a0 1).getD 0) 6).getD 0) j) (h6 : ∀ j, A ((σ.2.2 ((σ.2.2 a0 1).getD 0) 7).getD 0) j) (h7 : A (((σ.2.2 a0 1).getD 0)) 8) : ∀ (n : Nat) (x3 : Int32) (τ4 : zS), zFi A σ τ4 → zFi A σ (F_X3_sum_o1_7 a0 p1 n x3 τ4) := by
  intro n
  induction n with
  | zero => intro x3 τ4 g; exact g
  | succ n ih =>
    intro x3 τ4 g
    rw [F_X3_sum_o1_7]
    refine zFi_let (fun v5 _ => ?_)
    refine zFi_if (fun _ => ?_) (fun _ => ?_)
    · skip
      exact g
    · skip
      refine zFi_let (fun v7 _ => ?_)
      refine zFi_let (fun v8 _ => ?_)
      refine zFi_let (fun v9 _ => ?_)
      refine zFi_let (fun v10 _ => ?_)
      refine zFi_if (fun _ => ?_) (fun _ => ?_)
      · skip
        exact g
      · skip
        refine zFi_let (fun v12 _ => ?_)
        refine zFi_let (fun s13 es13 => ?_)
        have gs13 : zFi A σ s13 := by rw [es13]; exact fi_X3_take g h0 h1 h2 h3 h4
        refine zFi_let (fun s14 es14 => ?_)
        have gs14 : zFi A σ s14 := by rw [es14]; exact fi_X3_product_o1 gs13 h5 h6 h7 h0 h1 h2 h3 h4
        refine zFi_let (fun v15 ev15 => ?_)
        rw [gs14.rf] at ev15
        subst ev15
        refine zFi_let (fun v16 _ => ?_)
        refine zFi_if (fun _ => ?_) (fun _ => ?_)
        · skip
          refine zFi_let (fun v22 _ => ?_)
          refine zFi_let (fun v23 _ => ?_)
          refine zFi_let (fun s24 es24 => ?_)
          have gs24 : zFi A σ s24 := by rw [es24]; exact fi_X9_addStep gs14 h5 h6 h7
          refine zFi_let (fun v25 _ => ?_)
          exact ih _ _ gs24
        · skip
          refine zFi_let (fun v18 _ => ?_)
          refine zFi_let (fun v19 _ => ?_)
          refine zFi_let (fun s20 es20 => ?_)
          have gs20 : zFi A σ s20 := by rw [es20]; exact fi_X9_addStep gs14 h5 h6 h7
          refine zFi_let (fun v21 _ => ?_)
          exact ih _ _ gs20
set_option maxRecDepth 100000 in
theorem fi_X3_sum_o1 {A : Nat → Nat → Prop} {σ σ0 : zS} {a0 : Nat} {p1 : Int32}  (g : zFi A σ σ0) (h0 : ∀ j, A ((σ.2.2 ((σ.2.2 a0 1).getD 0) 6).getD 0) j) (h1 : ∀ j, A ((σ.2.2 ((σ.2.2 a0 1).getD 0) 7).getD 0) j) (h2 : A (((σ.2.2 a0 1).getD 0)) 8) (h3 : A a0 2) (h4 : A a0 3) (h5 : A a0 5) (h6 : A a0 8) (h7 : A a0 9) : zFi A σ (F_X3_sum_o1 a0 p1 σ0) := by
  unfold F_X3_sum_o1
  refine zFi_let (fun s1 es1 => ?_)
  have gs1 : zFi A σ s1 := by rw [es1]; exact fi_X3_product_o1 g h0 h1 h2 h3 h4 h5 h6 h7
  refine zFi_let (fun v2 _ => ?_)
  exact fi_X3_sum_o1_7  h3 h4 h5 h6 h7 h0 h1 h2 _ _ _ gs1
set_option maxRecDepth 100000 in
theorem fi_X3_unit_o0 {A : Nat → Nat → Prop} {σ σ0 : zS} {a0 : Nat} {p1 : Int32}  (g : zFi A σ σ0) (h0 : ∀ j, A ((σ.2.2 ((σ.2.2 a0 1).getD 0) 6).getD 0) j) (h1 : ∀ j, A ((σ.2.2 ((σ.2.2 a0 1).getD 0) 7).getD 0) j) (h2 : A (((σ.2.2 a0 1).getD 0)) 8) (h3 : A a0 2) (h4 : A a0 3) (h5 : A a0 5) (h6 : A a0 8) (h7 : A a0 9) : zFi A σ (F_X3_unit_o0 a0 p1 σ0) := by
  unfold F_X3_unit_o0
  refine zFi_let (fun v1 _ => ?_)
  refine zFi_let (fun v2 _ => ?_)
  refine zFi_if (fun _ => ?_) (fun _ => ?_)
  · skip
    refine zFi_let (fun v47 ev47 => ?_)
    rw [g.rf] at ev47
    subst ev47
    refine zFi_let (fun v48 _ => ?_)
    refine zFi_let (fun v49 _ => ?_)
    refine zFi_let (fun v50 _ => ?_)
    refine zFi_let (fun s51 es51 => ?_)
    have gs51 : zFi A σ s51 := by rw [es51]; exact fi_X9_addStep g h0 h1 h2
    refine zFi_let (fun v52 _ => ?_)
    refine zFi_let (fun s53 es53 => ?_)
    have gs53 : zFi A σ s53 := by rw [es53]; exact fi_X3_take gs51 h3 h4 h5 h6 h7
    exact gs53
  · skip
    refine zFi_let (fun v4 _ => ?_)
    refine zFi_let (fun v5 _ => ?_)
    refine zFi_if (fun _ => ?_) (fun _ => ?_)
    · skip
      refine zFi_let (fun v8 _ => ?_)
      refine zFi_let (fun v9 _ => ?_)
      refine zFi_if (fun _ => ?_) (fun _ => ?_)
      · skip
        exact g
      · skip
        refine zFi_let (fun v11 _ => ?_)
        refine zFi_let (fun v12 _ => ?_)
        refine zFi_if (fun _ => ?_) (fun _ => ?_)
        · skip
          exact g
        · skip
          refine zFi_let (fun v14 _ => ?_)
          refine zFi_let (fun s15 es15 => ?_)
          have gs15 : zFi A σ s15 := by rw [es15]; exact fi_X3_fail g h6 h7 h4
          exact gs15
    · skip
      refine zFi_let (fun v16 _ => ?_)
      refine zFi_let (fun v17 _ => ?_)
      refine zFi_if (fun _ => ?_) (fun _ => ?_)
      · skip
        refine zFi_let (fun v39 ev39 => ?_)
        rw [g.rf] at ev39
        subst ev39
        refine zFi_let (fun v40 _ => ?_)
        refine zFi_let (fun v41 _ => ?_)
        refine zFi_let (fun v42 _ => ?_)
        refine zFi_let (fun v43 _ => ?_)
        refine zFi_let (fun s44 es44 => ?_)
        have gs44 : zFi A σ s44 := by rw [es44]; exact fi_X9_addStep g h0 h1 h2
        refine zFi_let (fun v45 _ => ?_)
        refine zFi_let (fun s46 es46 => ?_)
        have gs46 : zFi A σ s46 := by rw [es46]; exact fi_X3_take gs44 h3 h4 h5 h6 h7
        exact gs46
      · skip
        refine zFi_let (fun v20 _ => ?_)
        refine zFi_let (fun v21 _ => ?_)
        refine zFi_if (fun _ => ?_) (fun _ => ?_)
        · skip
          refine zFi_let (fun v30 _ => ?_)
          refine zFi_if (fun _ => ?_) (fun _ => ?_)
          · skip
            refine zFi_let (fun v32 _ => ?_)
            refine zFi_let (fun s33 es33 => ?_)
            have gs33 : zFi A σ s33 := by rw [es33]; exact fi_X3_take g h3 h4 h5 h6 h7
            refine zFi_let (fun v34 _ => ?_)
            refine zFi_let (fun v35 _ => ?_)
            refine zFi_let (fun s36 es36 => ?_)
            have gs36 : zFi A σ s36 := by rw [es36]; exact fi_X3_sum_o1 gs33 h0 h1 h2 h3 h4 h5 h6 h7
            refine zFi_let (fun v37 _ => ?_)
            refine zFi_let (fun s38 es38 => ?_)
            have gs38 : zFi A σ s38 := by rw [es38]; exact fi_X3_take gs36 h3 h4 h5 h6 h7
            exact gs38
          · skip
            exact g
        · skip
          refine zFi_let (fun v23 _ => ?_)
          refine zFi_let (fun v24 _ => ?_)
          refine zFi_if (fun _ => ?_) (fun _ => ?_)
          · skip
            refine zFi_let (fun v28 _ => ?_)
            refine zFi_let (fun s29 es29 => ?_)
            have gs29 : zFi A σ s29 := by rw [es29]; exact fi_X3_fail g h6 h7 h4
            exact gs29
          · skip
            refine zFi_let (fun v26 _ => ?_)
            refine zFi_let (fun s27 es27 => ?_)
            have gs27 : zFi A σ s27 := by rw [es27]; exact fi_X3_fail g h6 h7 h4
            exact gs27
set_option maxRecDepth 100000 in
theorem fi_X3_product_o0_7 {A : Nat → Nat → Prop} {σ : zS} {a0 : Nat} {p1 : Int32}  (h0 : A a0 2) (h1 : A a0 3) (h2 : A a0 5) (h3 : A a0 8) (h4 : A a0 9) (h5 : ∀ j, A ((σ.2.2 ((σ.2.2 a0 1).getD 0) 6).getD 0) j) (h6 : ∀ j, A ((σ.2.2 ((σ.2.2 a0 1).getD 0) 7).getD 0) j) (h7 : A (((σ.2.2 a0 1).getD 0)) 8) : ∀ (n : Nat) (x3 : Int32) (τ4 : zS), zFi A σ τ4 → zFi A σ (F_X3_product_o0_7 a0 p1 n x3 τ4) := by
  intro n
  induction n with
  | zero => intro x3 τ4 g; exact g
  | succ n ih =>
    intro x3 τ4 g
    rw [F_X3_product_o0_7]
    refine zFi_let (fun v5 _ => ?_)
    refine zFi_if (fun _ => ?_) (fun _ => ?_)
    · skip
      exact g
    · skip
      refine zFi_let (fun v7 _ => ?_)
      refine zFi_let (fun v8 _ => ?_)
      refine zFi_let (fun v9 _ => ?_)
      refine zFi_let (fun v10 _ => ?_)
      refine zFi_if (fun _ => ?_) (fun _ => ?_)
      · skip
        exact g
      · skip
        refine zFi_let (fun v12 _ => ?_)
        refine zFi_let (fun s13 es13 => ?_)
        have gs13 : zFi A σ s13 := by rw [es13]; exact fi_X3_take g h0 h1 h2 h3 h4
        refine zFi_let (fun s14 es14 => ?_)
        have gs14 : zFi A σ s14 := by rw [es14]; exact fi_X3_unit_o0 gs13 h5 h6 h7 h0 h1 h2 h3 h4
        refine zFi_let (fun v15 ev15 => ?_)
        rw [gs14.rf] at ev15
        subst ev15
        refine zFi_let (fun v16 _ => ?_)
        refine zFi_if (fun _ => ?_) (fun _ => ?_)
        · skip
          refine zFi_let (fun v22 _ => ?_)
          refine zFi_let (fun v23 _ => ?_)
          refine zFi_let (fun s24 es24 => ?_)
          have gs24 : zFi A σ s24 := by rw [es24]; exact fi_X9_addStep gs14 h5 h6 h7
          refine zFi_let (fun v25 _ => ?_)
          exact ih _ _ gs24
        · skip
          refine zFi_let (fun v18 _ => ?_)
          refine zFi_let (fun v19 _ => ?_)
          refine zFi_let (fun s20 es20 => ?_)
          have gs20 : zFi A σ s20 := by rw [es20]; exact fi_X9_addStep gs14 h5 h6 h7
          refine zFi_let (fun v21 _ => ?_)
          exact ih _ _ gs20
set_option maxRecDepth 100000 in
theorem fi_X3_product_o0 {A : Nat → Nat → Prop} {σ σ0 : zS} {a0 : Nat} {p1 : Int32}  (g : zFi A σ σ0) (h0 : ∀ j, A ((σ.2.2 ((σ.2.2 a0 1).getD 0) 6).getD 0) j) (h1 : ∀ j, A ((σ.2.2 ((σ.2.2 a0 1).getD 0) 7).getD 0) j) (h2 : A (((σ.2.2 a0 1).getD 0)) 8) (h3 : A a0 2) (h4 : A a0 3) (h5 : A a0 5) (h6 : A a0 8) (h7 : A a0 9) : zFi A σ (F_X3_product_o0 a0 p1 σ0) := by
  unfold F_X3_product_o0
  refine zFi_let (fun s1 es1 => ?_)
  have gs1 : zFi A σ s1 := by rw [es1]; exact fi_X3_unit_o0 g h0 h1 h2 h3 h4 h5 h6 h7
  refine zFi_let (fun v2 _ => ?_)
  exact fi_X3_product_o0_7  h3 h4 h5 h6 h7 h0 h1 h2 _ _ _ gs1
set_option maxRecDepth 100000 in
theorem fi_X3_sum_o0_7 {A : Nat → Nat → Prop} {σ : zS} {a0 : Nat} {p1 : Int32}  (h0 : A a0 2) (h1 : A a0 3) (h2 : A a0 5) (h3 : A a0 8) (h4 : A a0 9) (h5 : ∀ j, A ((σ.2.2 ((σ.2.2 a0 1).getD 0) 6).getD 0) j) (h6 : ∀ j, A ((σ.2.2 ((σ.2.2 a0 1).getD 0) 7).getD 0) j) (h7 : A (((σ.2.2 a0 1).getD 0)) 8) : ∀ (n : Nat) (x3 : Int32) (τ4 : zS), zFi A σ τ4 → zFi A σ (F_X3_sum_o0_7 a0 p1 n x3 τ4) := by
  intro n
  induction n with
  | zero => intro x3 τ4 g; exact g
  | succ n ih =>
    intro x3 τ4 g
    rw [F_X3_sum_o0_7]
    refine zFi_let (fun v5 _ => ?_)
    refine zFi_if (fun _ => ?_) (fun _ => ?_)
    · skip
      exact g
    · skip
      refine zFi_let (fun v7 _ => ?_)
      refine zFi_let (fun v8 _ => ?_)
      refine zFi_let (fun v9 _ => ?_)
      refine zFi_let (fun v10 _ => ?_)
      refine zFi_if (fun _ => ?_) (fun _ => ?_)
      · skip
        exact g
      · skip
        refine zFi_let (fun v12 _ => ?_)
        refine zFi_let (fun s13 es13 => ?_)
        have gs13 : zFi A σ s13 := by rw [es13]; exact fi_X3_take g h0 h1 h2 h3 h4
        refine zFi_let (fun s14 es14 => ?_)
        have gs14 : zFi A σ s14 := by rw [es14]; exact fi_X3_product_o0 gs13 h5 h6 h7 h0 h1 h2 h3 h4
        refine zFi_let (fun v15 ev15 => ?_)
        rw [gs14.rf] at ev15
        subst ev15
        refine zFi_let (fun v16 _ => ?_)
        refine zFi_if (fun _ => ?_) (fun _ => ?_)
        · skip
          refine zFi_let (fun v22 _ => ?_)
          refine zFi_let (fun v23 _ => ?_)
          refine zFi_let (fun s24 es24 => ?_)
          have gs24 : zFi A σ s24 := by rw [es24]; exact fi_X9_addStep gs14 h5 h6 h7
          refine zFi_let (fun v25 _ => ?_)
          exact ih _ _ gs24
        · skip
          refine zFi_let (fun v18 _ => ?_)
          refine zFi_let (fun v19 _ => ?_)
          refine zFi_let (fun s20 es20 => ?_)
          have gs20 : zFi A σ s20 := by rw [es20]; exact fi_X9_addStep gs14 h5 h6 h7
          refine zFi_let (fun v21 _ => ?_)
          exact ih _ _ gs20
set_option maxRecDepth 100000 in
theorem fi_X3_sum_o0 {A : Nat → Nat → Prop} {σ σ0 : zS} {a0 : Nat} {p1 : Int32}  (g : zFi A σ σ0) (h0 : ∀ j, A ((σ.2.2 ((σ.2.2 a0 1).getD 0) 6).getD 0) j) (h1 : ∀ j, A ((σ.2.2 ((σ.2.2 a0 1).getD 0) 7).getD 0) j) (h2 : A (((σ.2.2 a0 1).getD 0)) 8) (h3 : A a0 2) (h4 : A a0 3) (h5 : A a0 5) (h6 : A a0 8) (h7 : A a0 9) : zFi A σ (F_X3_sum_o0 a0 p1 σ0) := by
  unfold F_X3_sum_o0
  refine zFi_let (fun s1 es1 => ?_)
  have gs1 : zFi A σ s1 := by rw [es1]; exact fi_X3_product_o0 g h0 h1 h2 h3 h4 h5 h6 h7
  refine zFi_let (fun v2 _ => ?_)
  exact fi_X3_sum_o0_7  h3 h4 h5 h6 h7 h0 h1 h2 _ _ _ gs1
set_option maxRecDepth 100000 in
theorem fi_X9_setValue {A : Nat → Nat → Prop} {σ σ0 : zS} {a0 : Nat} {p1 : Int32} {p2 : Int32}  (g : zFi A σ σ0) (h0 : ∀ j, A ((σ.2.2 a0 7).getD 0) j) : zFi A σ (F_X9_setValue a0 p1 p2 σ0) := by
  unfold F_X9_setValue
  refine zFi_if (fun _ => ?_) (fun _ => ?_)
  · skip
    exact g
  · skip
    refine zFi_let (fun v2 _ => ?_)
    refine zFi_if (fun _ => ?_) (fun _ => ?_)
    · skip
      refine zFi_let (fun v5 ev5 => ?_)
      rw [g.rf] at ev5
      subst ev5
      refine zFi_let (fun s6 es6 => ?_)
      have gs6 : zFi A σ s6 := by rw [es6]; exact g.w (h0 _)
      exact gs6
    · skip
      exact g
set_option maxRecDepth 100000 in
theorem fi_X3_law_23 {A : Nat → Nat → Prop} {σ : zS} {v7 : Int32} {a0 : Nat} {p1 : Int32}  (h0 : ∀ j, A ((σ.2.2 ((σ.2.2 a0 1).getD 0) 6).getD 0) j) (h1 : ∀ j, A ((σ.2.2 ((σ.2.2 a0 1).getD 0) 7).getD 0) j) (h2 : A (((σ.2.2 a0 1).getD 0)) 8) (h3 : A a0 2) (h4 : A a0 3) (h5 : A a0 5) (h6 : A a0 8) (h7 : A a0 9) (h8 : ∀ j, A ((σ.2.2 ((σ.2.2 a0 1).getD 0) 9).getD 0) j) : ∀ (n : Nat) (x9 : Int32) (τ10 : zS), zFi A σ τ10 → zFi A σ (F_X3_law_23 v7 a0 p1 n x9 τ10) := by
  intro n
  induction n with
  | zero => intro x9 τ10 g; exact g
  | succ n ih =>
    intro x9 τ10 g
    rw [F_X3_law_23]
    refine zFi_let (fun v11 _ => ?_)
    refine zFi_if (fun _ => ?_) (fun _ => ?_)
    · skip
      refine zFi_let (fun v13 _ => ?_)
      refine zFi_let (fun s14 es14 => ?_)
      have gs14 : zFi A σ s14 := by rw [es14]; exact fi_X3_sum_o0 g h0 h1 h2 h3 h4 h5 h6 h7
      refine zFi_let (fun v15 ev15 => ?_)
      rw [gs14.rf] at ev15
      subst ev15
      refine zFi_let (fun v16 _ => ?_)
      refine zFi_let (fun v17 _ => ?_)
      refine zFi_let (fun s18 es18 => ?_)
      have gs18 : zFi A σ s18 := by rw [es18]; exact fi_X9_addStep gs14 h0 h1 h2
      refine zFi_let (fun v19 ev19 => ?_)
      rw [gs18.rf] at ev19
      subst ev19
      refine zFi_let (fun v20 ev20 => ?_)
      rw [gs18.rf] at ev20
      subst ev20
      refine zFi_let (fun s21 es21 => ?_)
      have gs21 : zFi A σ s21 := by rw [es21]; exact gs18.w (h8 _)
      exact gs21
    · skip
      refine zFi_let (fun v22 _ => ?_)
      refine zFi_let (fun v23 _ => ?_)
      refine zFi_if (fun _ => ?_) (fun _ => ?_)
      · skip
        refine zFi_let (fun v34 _ => ?_)
        refine zFi_if (fun _ => ?_) (fun _ => ?_)
        · skip
          refine zFi_let (fun v65 _ => ?_)
          refine zFi_let (fun s66 es66 => ?_)
          have gs66 : zFi A σ s66 := by rw [es66]; exact fi_X3_fail g h6 h7 h4
          refine zFi_let (fun v67 _ => ?_)
          refine zFi_let (fun s68 es68 => ?_)
          have gs68 : zFi A σ s68 := by rw [es68]; exact fi_X3_take gs66 h3 h4 h5 h6 h7
          refine zFi_let (fun v69 _ => ?_)
          refine zFi_let (fun s70 es70 => ?_)
          have gs70 : zFi A σ s70 := by rw [es70]; exact fi_X3_sum_o0 gs68 h0 h1 h2 h3 h4 h5 h6 h7
          refine zFi_let (fun v71 _ => ?_)
          refine zFi_let (fun s72 es72 => ?_)
          have gs72 : zFi A σ s72 := by rw [es72]; exact fi_X3_take gs70 h3 h4 h5 h6 h7
          refine zFi_let (fun v73 _ => ?_)
          refine zFi_let (fun s74 es74 => ?_)
          have gs74 : zFi A σ s74 := by rw [es74]; exact fi_X3_sum_o0 gs72 h0 h1 h2 h3 h4 h5 h6 h7
          refine zFi_let (fun v75 _ => ?_)
          refine zFi_let (fun s76 es76 => ?_)
          have gs76 : zFi A σ s76 := by rw [es76]; exact fi_X3_take gs74 h3 h4 h5 h6 h7
          refine zFi_let (fun v77 ev77 => ?_)
          rw [gs76.rf] at ev77
          subst ev77
          refine zFi_let (fun v78 _ => ?_)
          refine zFi_let (fun v79 ev79 => ?_)
          rw [gs76.rf] at ev79
          subst ev79
          refine zFi_let (fun v80 _ => ?_)
          refine zFi_let (fun v81 _ => ?_)
          refine zFi_let (fun s82 es82 => ?_)
          have gs82 : zFi A σ s82 := by rw [es82]; exact fi_X9_addStep gs76 h0 h1 h2
          refine zFi_let (fun v83 _ => ?_)
          refine zFi_let (fun s84 es84 => ?_)
          have gs84 : zFi A σ s84 := by rw [es84]; exact fi_X3_sum_o0 gs82 h0 h1 h2 h3 h4 h5 h6 h7
          refine zFi_let (fun v85 _ => ?_)
          refine zFi_let (fun s86 es86 => ?_)
          have gs86 : zFi A σ s86 := by rw [es86]; exact fi_X3_take gs84 h3 h4 h5 h6 h7
          refine zFi_let (fun v87 ev87 => ?_)
          rw [gs86.rf] at ev87
          subst ev87
          refine zFi_let (fun v88 _ => ?_)
          refine zFi_let (fun v89 _ => ?_)
          refine zFi_let (fun s90 es90 => ?_)
          have gs90 : zFi A σ s90 := by rw [es90]; exact fi_X9_addStep gs86 h0 h1 h2
          refine zFi_let (fun v91 ev91 => ?_)
          rw [gs90.rf] at ev91
          subst ev91
          refine zFi_let (fun v92 ev92 => ?_)
          rw [gs90.rf] at ev92
          subst ev92
          refine zFi_let (fun v93 _ => ?_)
          refine zFi_let (fun s94 es94 => ?_)
          have gs94 : zFi A σ s94 := by rw [es94]; exact fi_X9_setValue gs90 h1
          refine zFi_let (fun v95 _ => ?_)
          exact ih _ _ gs94
        · skip
          refine zFi_let (fun v36 _ => ?_)
          refine zFi_let (fun s37 es37 => ?_)
          have gs37 : zFi A σ s37 := by rw [es37]; exact fi_X3_take g h3 h4 h5 h6 h7
          refine zFi_let (fun v38 _ => ?_)
          refine zFi_let (fun s39 es39 => ?_)
          have gs39 : zFi A σ s39 := by rw [es39]; exact fi_X3_sum_o0 gs37 h0 h1 h2 h3 h4 h5 h6 h7
          refine zFi_let (fun v40 _ => ?_)
          refine zFi_let (fun s41 es41 => ?_)
          have gs41 : zFi A σ s41 := by rw [es41]; exact fi_X3_take gs39 h3 h4 h5 h6 h7
          refine zFi_let (fun v42 _ => ?_)
          refine zFi_let (fun s43 es43 => ?_)
          have gs43 : zFi A σ s43 := by rw [es43]; exact fi_X3_sum_o0 gs41 h0 h1 h2 h3 h4 h5 h6 h7
          refine zFi_let (fun v44 _ => ?_)
          refine zFi_let (fun s45 es45 => ?_)
          have gs45 : zFi A σ s45 := by rw [es45]; exact fi_X3_take gs43 h3 h4 h5 h6 h7
          refine zFi_let (fun v46 ev46 => ?_)
          rw [gs45.rf] at ev46
          subst ev46
          refine zFi_let (fun v47 _ => ?_)
          refine zFi_let (fun v48 ev48 => ?_)
          rw [gs45.rf] at ev48
          subst ev48
          refine zFi_let (fun v49 _ => ?_)
          refine zFi_let (fun v50 _ => ?_)
          refine zFi_let (fun s51 es51 => ?_)
          have gs51 : zFi A σ s51 := by rw [es51]; exact fi_X9_addStep gs45 h0 h1 h2
          refine zFi_let (fun v52 _ => ?_)
          refine zFi_let (fun s53 es53 => ?_)
          have gs53 : zFi A σ s53 := by rw [es53]; exact fi_X3_sum_o0 gs51 h0 h1 h2 h3 h4 h5 h6 h7
          refine zFi_let (fun v54 _ => ?_)
          refine zFi_let (fun s55 es55 => ?_)
          have gs55 : zFi A σ s55 := by rw [es55]; exact fi_X3_take gs53 h3 h4 h5 h6 h7
          refine zFi_let (fun v56 ev56 => ?_)
          rw [gs55.rf] at ev56
          subst ev56
          refine zFi_let (fun v57 _ => ?_)
          refine zFi_let (fun v58 _ => ?_)
          refine zFi_let (fun s59 es59 => ?_)
          have gs59 : zFi A σ s59 := by rw [es59]; exact fi_X9_addStep gs55 h0 h1 h2
          refine zFi_let (fun v60 ev60 => ?_)
          rw [gs59.rf] at ev60
          subst ev60
          refine zFi_let (fun v61 ev61 => ?_)
          rw [gs59.rf] at ev61
          subst ev61
          refine zFi_let (fun v62 _ => ?_)
          refine zFi_let (fun s63 es63 => ?_)
          have gs63 : zFi A σ s63 := by rw [es63]; exact fi_X9_setValue gs59 h1
          refine zFi_let (fun v64 _ => ?_)
          exact ih _ _ gs63
      · skip
        refine zFi_let (fun v25 _ => ?_)
        refine zFi_let (fun s26 es26 => ?_)
        have gs26 : zFi A σ s26 := by rw [es26]; exact fi_X3_sum_o0 g h0 h1 h2 h3 h4 h5 h6 h7
        refine zFi_let (fun v27 ev27 => ?_)
        rw [gs26.rf] at ev27
        subst ev27
        refine zFi_let (fun v28 _ => ?_)
        refine zFi_let (fun v29 _ => ?_)
        refine zFi_let (fun s30 es30 => ?_)
        have gs30 : zFi A σ s30 := by rw [es30]; exact fi_X9_addStep gs26 h0 h1 h2
        refine zFi_let (fun v31 ev31 => ?_)
        rw [gs30.rf] at ev31
        subst ev31
        refine zFi_let (fun v32 ev32 => ?_)
        rw [gs30.rf] at ev32
        subst ev32
        refine zFi_let (fun s33 es33 => ?_)
        have gs33 : zFi A σ s33 := by rw [es33]; exact gs30.w (h8 _)
        exact gs33
set_option maxRecDepth 100000 in
theorem fi_X3_law {A : Nat → Nat → Prop} {σ σ0 : zS} {a0 : Nat} {p1 : Int32}  (g : zFi A σ σ0) (h0 : A a0 2) (h1 : A a0 3) (h2 : A a0 5) (h3 : A a0 8) (h4 : A a0 9) (h5 : ∀ j, A ((σ.2.2 ((σ.2.2 a0 1).getD 0) 6).getD 0) j) (h6 : ∀ j, A ((σ.2.2 ((σ.2.2 a0 1).getD 0) 7).getD 0) j) (h7 : A (((σ.2.2 a0 1).getD 0)) 8) (h8 : ∀ j, A ((σ.2.2 ((σ.2.2 a0 1).getD 0) 9).getD 0) j) : zFi A σ (F_X3_law a0 p1 σ0) := by
  unfold F_X3_law
  refine zFi_let (fun v1 _ => ?_)
  refine zFi_let (fun v2 _ => ?_)
  refine zFi_let (fun s3 es3 => ?_)
  have gs3 : zFi A σ s3 := by rw [es3]; exact fi_X3_take g h0 h1 h2 h3 h4
  refine zFi_let (fun v4 _ => ?_)
  refine zFi_let (fun s5 es5 => ?_)
  have gs5 : zFi A σ s5 := by rw [es5]; exact fi_X3_take gs3 h0 h1 h2 h3 h4
  refine zFi_let (fun v6 ev6 => ?_)
  rw [gs5.rf] at ev6
  subst ev6
  refine zFi_let (fun v7 _ => ?_)
  refine zFi_let (fun v8 _ => ?_)
  exact fi_X3_law_23  h5 h6 h7 h0 h1 h2 h3 h4 h8 _ _ _ gs5
