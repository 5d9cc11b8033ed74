/-! WHAT A FUNCTION LEAVES AS IT WAS: references and longs as they were, whole numbers too, but for the places A -/
def zFr (A : Nat → Nat → Prop) (σ σ' : zS) : Prop := σ'.2 = σ.2 ∧ ∀ c j, ¬ A c j → σ'.1 c j = σ.1 c j
def zFp {α : Type} (A : Nat → Nat → Prop) (σ : zS) (r : α × zS) : Prop := zFr A σ r.2
section ZFR
variable {A : Nat → Nat → Prop} {σ s : zS} {α β : Type}
theorem zFr.rf (h : zFr A σ s) : s.2.2 = σ.2.2 := congrArg Prod.snd h.1
theorem zFr.id : zFr A σ σ := ⟨rfl, fun _ _ _ => rfl⟩
theorem zFr.w {r j : Nat} {v : Int32} (h : zFr A σ s) (hr : A r j) : zFr A σ (zu s.1 r j v, s.2.1, s.2.2) := ⟨h.1, fun c i n => by
  show zu s.1 r j v c i = _
  unfold zu
  by_cases e : c = r
  · rw [if_pos e]
    by_cases e2 : i = j
    · exact absurd (by rw [e, e2]; exact hr) n
    · rw [if_neg e2]; exact h.2 c i n
  · rw [if_neg e]; exact h.2 c i n⟩
theorem zFr.cp {a r n : Nat} (h : zFr A σ s) (hr : ∀ j, A r j) : zFr A σ (zcpy s a r n) := ⟨h.1, fun c i m => by
  show (if c = r then _ else s.1 c) i = _
  by_cases e : c = r
  · exact absurd (by rw [e]; exact hr i) m
  · rw [if_neg e]; exact h.2 c i m⟩
theorem zFr.fl {r n : Nat} {v : Int32} (h : zFr A σ s) (hr : ∀ j, A r j) : zFr A σ (zfil s r v n) := ⟨h.1, fun c i m => by
  show (if c = r then _ else s.1 c) i = _
  by_cases e : c = r
  · exact absurd (by rw [e]; exact hr i) m
  · rw [if_neg e]; exact h.2 c i m⟩
theorem zFr.up {B : Nat → Nat → Prop} (h : zFr A σ s) (u : ∀ c j, A c j → B c j) : zFr B σ s := ⟨h.1, fun c j n => h.2 c j (fun q => n (u c j q))⟩
theorem zFr.tr {s' : zS} (h : zFr A σ s) (g : zFr A s s') : zFr A σ s' := ⟨g.1.trans h.1, fun c j n => (g.2 c j n).trans (h.2 c j n)⟩
theorem zFp.of {r : α × zS} {v : α} (h : zFp A σ r) (e : (v, s) = r) : zFr A σ s := by rw [show s = r.2 from congrArg Prod.snd e]; exact h
theorem zFr_let {x : α} {f : α → zS} (h : ∀ v, v = x → zFr A σ (f v)) : zFr A σ (zLet x f) := h x rfl
theorem zFr_let2 {x : α × β} {f : α → β → zS} (h : ∀ v s, (v, s) = x → zFr A σ (f v s)) : zFr A σ (zLet2 x f) := h x.1 x.2 rfl
theorem zFp_let {x : α} {f : α → β × zS} (h : ∀ v, v = x → zFp A σ (f v)) : zFp A σ (zLet x f) := h x rfl
theorem zFp_let2 {γ : Type} {x : α × γ} {f : α → γ → β × zS} (h : ∀ v s, (v, s) = x → zFp A σ (f v s)) : zFp A σ (zLet2 x f) := h x.1 x.2 rfl
theorem zFr_if {c : Prop} {i : Decidable c} {x y : zS} (h : c → zFr A σ x) (g : ¬ c → zFr A σ y) : zFr A σ (@ite _ c i x y) := by
  by_cases e : c
  · rw [if_pos e]; exact h e
  · rw [if_neg e]; exact g e
theorem zFp_if {c : Prop} {i : Decidable c} {x y : α × zS} (h : c → zFp A σ x) (g : ¬ c → zFp A σ y) : zFp A σ (@ite _ c i x y) := by
  by_cases e : c
  · rw [if_pos e]; exact h e
  · rw [if_neg e]; exact g e
end ZFR
set_option maxRecDepth 100000 in
theorem fr_X9_addStep {A : Nat → Nat → Prop} {σ σ0 : zS} {a0 : Nat} {p1 : Int32} {p2 : Int32}  (g : zFr A σ σ0) (h0 : ∀ j, A ((σ.2.2 a0 6).getD 0) j) (h1 : ∀ j, A ((σ.2.2 a0 7).getD 0) j) (h2 : A a0 8) : zFr A σ (F_X9_addStep a0 p1 p2 σ0) := by
  unfold F_X9_addStep
  refine zFr_let (fun v1 _ => ?_)
  refine zFr_let (fun v2 _ => ?_)
  refine zFr_if (fun _ => ?_) (fun _ => ?_)
  · skip
    refine zFr_let (fun v4 ev4 => ?_)
    rw [g.rf] at ev4
    subst ev4
    refine zFr_let (fun v5 _ => ?_)
    refine zFr_let (fun s6 es6 => ?_)
    have gs6 : zFr A σ s6 := by rw [es6]; exact g.w (h0 _)
    refine zFr_let (fun v8 ev8 => ?_)
    rw [gs6.rf] at ev8
    subst ev8
    refine zFr_let (fun v9 _ => ?_)
    refine zFr_let (fun s10 es10 => ?_)
    have gs10 : zFr A σ s10 := by rw [es10]; exact gs6.w (h1 _)
    refine zFr_let (fun v12 _ => ?_)
    refine zFr_let (fun v13 _ => ?_)
    refine zFr_let (fun v14 _ => ?_)
    refine zFr_let (fun s15 es15 => ?_)
    have gs15 : zFr A σ s15 := by rw [es15]; exact gs10.w h2
    exact gs15
  · skip
    exact g
set_option maxRecDepth 100000 in
theorem fr_X9_setValue {A : Nat → Nat → Prop} {σ σ0 : zS} {a0 : Nat} {p1 : Int32} {p2 : Int32}  (g : zFr A σ σ0) (h0 : ∀ j, A ((σ.2.2 a0 7).getD 0) j) : zFr A σ (F_X9_setValue a0 p1 p2 σ0) := by
  unfold F_X9_setValue
  refine zFr_if (fun _ => ?_) (fun _ => ?_)
  · skip
    exact g
  · skip
    refine zFr_let (fun v2 _ => ?_)
    refine zFr_if (fun _ => ?_) (fun _ => ?_)
    · skip
      refine zFr_let (fun v5 ev5 => ?_)
      rw [g.rf] at ev5
      subst ev5
      refine zFr_let (fun s6 es6 => ?_)
      have gs6 : zFr A σ s6 := by rw [es6]; exact g.w (h0 _)
      exact gs6
    · skip
      exact g
set_option maxRecDepth 100000 in
theorem fr_X9_setPlace {A : Nat → Nat → Prop} {σ σ0 : zS} {a0 : Nat} {p1 : Int32} {p2 : Int32} {p3 : Int32} {p4 : Int32} {p5 : Int32}  (g : zFr A σ σ0) (h0 : ∀ j, A ((σ.2.2 a0 2).getD 0) j) (h1 : ∀ j, A ((σ.2.2 a0 3).getD 0) j) (h2 : ∀ j, A ((σ.2.2 a0 4).getD 0) j) (h3 : ∀ j, A ((σ.2.2 a0 5).getD 0) j) : zFr A σ (F_X9_setPlace a0 p1 p2 p3 p4 p5 σ0) := by
  unfold F_X9_setPlace
  refine zFr_if (fun _ => ?_) (fun _ => ?_)
  · skip
    exact g
  · skip
    refine zFr_let (fun v2 _ => ?_)
    refine zFr_if (fun _ => ?_) (fun _ => ?_)
    · skip
      refine zFr_let (fun v5 ev5 => ?_)
      rw [g.rf] at ev5
      subst ev5
      refine zFr_let (fun s6 es6 => ?_)
      have gs6 : zFr A σ s6 := by rw [es6]; exact g.w (h0 _)
      refine zFr_let (fun v7 ev7 => ?_)
      rw [gs6.rf] at ev7
      subst ev7
      refine zFr_let (fun s8 es8 => ?_)
      have gs8 : zFr A σ s8 := by rw [es8]; exact gs6.w (h1 _)
      refine zFr_let (fun v9 ev9 => ?_)
      rw [gs8.rf] at ev9
      subst ev9
      refine zFr_let (fun s10 es10 => ?_)
      have gs10 : zFr A σ s10 := by rw [es10]; exact gs8.w (h2 _)
      refine zFr_let (fun v11 ev11 => ?_)
      rw [gs10.rf] at ev11
      subst ev11
      refine zFr_let (fun s12 es12 => ?_)
      have gs12 : zFr A σ s12 := by rw [es12]; exact gs10.w (h3 _)
      exact gs12
    · skip
      exact g
set_option maxRecDepth 100000 in
theorem fr_X9_isStorm {A : Nat → Nat → Prop} {σ σ0 : zS} {a0 : Nat} {p1 : Int32} {p2 : Int32}  (g : zFr A σ σ0)  : zFp A σ (F_X9_isStorm a0 p1 p2 σ0) := by
  unfold F_X9_isStorm
  refine zFp_let (fun v1 _ => ?_)
  refine zFp_let (fun v2 _ => ?_)
  refine zFp_let (fun v3 _ => ?_)
  refine zFp_let (fun v4 _ => ?_)
  refine zFp_let (fun v5 _ => ?_)
  refine zFp_if (fun _ => ?_) (fun _ => ?_)
  · skip
    refine zFp_let (fun v10 _ => ?_)
    exact g
  · skip
    refine zFp_let (fun v9 _ => ?_)
    exact g
set_option maxRecDepth 100000 in
theorem fr_X1_moon {A : Nat → Nat → Prop} {σ σ0 : zS} {a0 : Nat}  (g : zFr A σ σ0)  : zFp A σ (F_X1_moon a0 σ0) := by
  unfold F_X1_moon
  refine zFp_let (fun v1 _ => ?_)
  refine zFp_let (fun v2 _ => ?_)
  refine zFp_let (fun v3 _ => ?_)
  exact g
set_option maxRecDepth 100000 in
theorem fr_X1_comesBy_5 {A : Nat → Nat → Prop} {σ : zS} {a0 : Nat} {p1 : Int32} {p2 : Int32}   : ∀ (n : Nat) (x2 : Int32) (x3 : Int32) (τ4 : zS), zFr A σ τ4 → zFp A σ (F_X1_comesBy_5 a0 p1 p2 n x2 x3 τ4) := by
  intro n
  induction n with
  | zero => intro x2 x3 τ4 g; exact g
  | succ n ih =>
    intro x2 x3 τ4 g
    rw [F_X1_comesBy_5]
    refine zFp_let (fun v5 _ => ?_)
    refine zFp_if (fun _ => ?_) (fun _ => ?_)
    · skip
      refine zFp_if (fun _ => ?_) (fun _ => ?_)
      · skip
        refine zFp_if (fun _ => ?_) (fun _ => ?_)
        · skip
          refine zFp_let (fun v13 _ => ?_)
          exact g
        · skip
          refine zFp_let (fun v12 _ => ?_)
          exact g
      · skip
        refine zFp_if (fun _ => ?_) (fun _ => ?_)
        · skip
          refine zFp_if (fun _ => ?_) (fun _ => ?_)
          · skip
            refine zFp_let (fun v17 _ => ?_)
            exact g
          · skip
            refine zFp_let (fun v16 _ => ?_)
            exact g
        · skip
          refine zFp_let (fun v18 ev18 => ?_)
          rw [g.rf] at ev18
          subst ev18
          refine zFp_let (fun v19 _ => ?_)
          refine zFp_let (fun v20 _ => ?_)
          exact ih _ _ _ g
    · skip
      refine zFp_if (fun _ => ?_) (fun _ => ?_)
      · skip
        refine zFp_let (fun v9 _ => ?_)
        exact g
      · skip
        refine zFp_let (fun v8 _ => ?_)
        exact g
set_option maxRecDepth 100000 in
theorem fr_X1_comesBy {A : Nat → Nat → Prop} {σ σ0 : zS} {a0 : Nat} {p1 : Int32} {p2 : Int32}  (g : zFr A σ σ0)  : zFp A σ (F_X1_comesBy a0 p1 p2 σ0) := by
  unfold F_X1_comesBy
  refine zFp_let (fun v1 _ => ?_)
  exact fr_X1_comesBy_5   _ _ _ _ g
set_option maxRecDepth 100000 in
theorem fr_X1_copy {A : Nat → Nat → Prop} {σ σ0 : zS} {a0 : Nat} {p1 : Nat}  (g : zFr A σ σ0) (h0 : ∀ j, A ((σ.2.2 a0 0).getD 0) j) (h1 : ∀ j, A ((σ.2.2 a0 1).getD 0) j) (h2 : ∀ j, A ((σ.2.2 a0 2).getD 0) j) (h3 : A a0 3) (h4 : A a0 4) (h5 : A a0 5) : zFr A σ (F_X1_copy a0 p1 σ0) := by
  unfold F_X1_copy
  refine zFr_let (fun v1 ev1 => ?_)
  rw [g.rf] at ev1
  subst ev1
  refine zFr_let (fun v2 _ => ?_)
  refine zFr_let (fun v3 ev3 => ?_)
  rw [g.rf] at ev3
  subst ev3
  refine zFr_let (fun v4 _ => ?_)
  refine zFr_let (fun v5 _ => ?_)
  refine zFr_let (fun s6 es6 => ?_)
  have gs6 : zFr A σ s6 := by rw [es6]; exact g.cp h0
  refine zFr_let (fun v7 ev7 => ?_)
  rw [gs6.rf] at ev7
  subst ev7
  refine zFr_let (fun v8 _ => ?_)
  refine zFr_let (fun v9 ev9 => ?_)
  rw [gs6.rf] at ev9
  subst ev9
  refine zFr_let (fun v10 _ => ?_)
  refine zFr_let (fun v11 _ => ?_)
  refine zFr_let (fun s12 es12 => ?_)
  have gs12 : zFr A σ s12 := by rw [es12]; exact gs6.cp h1
  refine zFr_let (fun v13 ev13 => ?_)
  rw [gs12.rf] at ev13
  subst ev13
  refine zFr_let (fun v14 _ => ?_)
  refine zFr_let (fun v15 ev15 => ?_)
  rw [gs12.rf] at ev15
  subst ev15
  refine zFr_let (fun v16 _ => ?_)
  refine zFr_let (fun v17 _ => ?_)
  refine zFr_let (fun s18 es18 => ?_)
  have gs18 : zFr A σ s18 := by rw [es18]; exact gs12.cp h2
  refine zFr_let (fun v19 _ => ?_)
  refine zFr_let (fun s20 es20 => ?_)
  have gs20 : zFr A σ s20 := by rw [es20]; exact gs18.w h3
  refine zFr_let (fun v21 _ => ?_)
  refine zFr_let (fun s22 es22 => ?_)
  have gs22 : zFr A σ s22 := by rw [es22]; exact gs20.w h4
  refine zFr_let (fun v23 _ => ?_)
  refine zFr_let (fun s24 es24 => ?_)
  have gs24 : zFr A σ s24 := by rw [es24]; exact gs22.w h5
  exact gs24
set_option maxRecDepth 100000 in
theorem fr_X1_pay {A : Nat → Nat → Prop} {σ σ0 : zS} {a0 : Nat} {p1 : Int32} {p2 : Int32}  (g : zFr A σ σ0) (h0 : ∀ j, A ((σ.2.2 a0 2).getD 0) j) (h1 : ∀ j, A ((σ.2.2 a0 1).getD 0) j) : zFr A σ (F_X1_pay a0 p1 p2 σ0) := by
  unfold F_X1_pay
  refine zFr_let (fun v1 ev1 => ?_)
  rw [g.rf] at ev1
  subst ev1
  refine zFr_let (fun v2 _ => ?_)
  refine zFr_let (fun v3 _ => ?_)
  refine zFr_let (fun s4 es4 => ?_)
  have gs4 : zFr A σ s4 := by rw [es4]; exact g.w (h0 _)
  refine zFr_let (fun v5 ev5 => ?_)
  rw [gs4.rf] at ev5
  subst ev5
  refine zFr_let (fun v6 _ => ?_)
  refine zFr_let (fun v7 ev7 => ?_)
  rw [gs4.rf] at ev7
  subst ev7
  refine zFr_let (fun v8 _ => ?_)
  refine zFr_let (fun v9 _ => ?_)
  refine zFr_let (fun v10 _ => ?_)
  refine zFr_let (fun v11 _ => ?_)
  refine zFr_let (fun s12 es12 => ?_)
  have gs12 : zFr A σ s12 := by rw [es12]; exact gs4.w (h1 _)
  exact gs12
set_option maxRecDepth 100000 in
theorem fr_X0_answer_13 {A : Nat → Nat → Prop} {σ : zS} {a0 : Nat} {p1 : Nat} {p2 : Int32}  (h0 : ∀ j, A ((σ.2.2 a0 1).getD 0) j) : ∀ (n : Nat) (x5 : Int32) (x6 : Int32) (x7 : Int32) (τ8 : zS), zFr A σ τ8 → zFp A σ (F_X0_answer_13 a0 p1 p2 n x5 x6 x7 τ8) := by
  intro n
  induction n with
  | zero => intro x5 x6 x7 τ8 g; exact g
  | succ n ih =>
    intro x5 x6 x7 τ8 g
    rw [F_X0_answer_13]
    refine zFp_let (fun v9 _ => ?_)
    refine zFp_if (fun _ => ?_) (fun _ => ?_)
    · skip
      refine zFp_if (fun _ => ?_) (fun _ => ?_)
      · skip
        refine zFp_let (fun v13 _ => ?_)
        exact g
      · skip
        refine zFp_let (fun v14 _ => ?_)
        refine zFp_if (fun _ => ?_) (fun _ => ?_)
        · skip
          refine zFp_let (fun v18 ev18 => ?_)
          rw [g.rf] at ev18
          subst ev18
          refine zFp_let (fun v19 _ => ?_)
          refine zFp_let (fun v20 ev20 => ?_)
          rw [g.rf] at ev20
          subst ev20
          refine zFp_let (fun v21 _ => ?_)
          refine zFp_let (fun v22 _ => ?_)
          refine zFp_let (fun v23 _ => ?_)
          refine zFp_if (fun _ => ?_) (fun _ => ?_)
          · skip
            refine zFp_if (fun _ => ?_) (fun _ => ?_)
            · skip
              refine zFp_let (fun v109 ev109 => ?_)
              rw [g.rf] at ev109
              subst ev109
              refine zFp_let (fun v110 _ => ?_)
              refine zFp_let (fun v111 _ => ?_)
              refine zFp_let (fun v112 _ => ?_)
              exact g
            · skip
              refine zFp_let (fun v108 _ => ?_)
              exact g
          · skip
            refine zFp_if (fun _ => ?_) (fun _ => ?_)
            · skip
              refine zFp_let (fun v26 _ => ?_)
              refine zFp_if (fun _ => ?_) (fun _ => ?_)
              · skip
                refine zFp_if (fun _ => ?_) (fun _ => ?_)
                · skip
                  refine zFp_let (fun v30 _ => ?_)
                  exact g
                · skip
                  refine zFp_let (fun v31 _ => ?_)
                  refine zFp_if (fun _ => ?_) (fun _ => ?_)
                  · skip
                    exact g
                  · skip
                    refine zFp_let (fun v33 ev33 => ?_)
                    rw [g.rf] at ev33
                    subst ev33
                    refine zFp_if (fun _ => ?_) (fun _ => ?_)
                    · skip
                      refine zFp_let (fun s35 es35 => ?_)
                      have gs35 : zFr A σ s35 := by rw [es35]; exact g.w (h0 _)
                      refine zFp_let (fun v36 _ => ?_)
                      refine zFp_let (fun v37 _ => ?_)
                      exact ih _ _ _ _ gs35
                    · skip
                      exact g
              · skip
                refine zFp_let (fun v28 _ => ?_)
                exact g
            · skip
              refine zFp_let (fun v38 _ => ?_)
              refine zFp_if (fun _ => ?_) (fun _ => ?_)
              · skip
                refine zFp_let (fun v89 _ => ?_)
                refine zFp_if (fun _ => ?_) (fun _ => ?_)
                · skip
                  refine zFp_if (fun _ => ?_) (fun _ => ?_)
                  · skip
                    refine zFp_let (fun v93 _ => ?_)
                    exact g
                  · skip
                    refine zFp_let (fun v94 _ => ?_)
                    refine zFp_if (fun _ => ?_) (fun _ => ?_)
                    · skip
                      refine zFp_let (fun v96 _ => ?_)
                      refine zFp_if (fun _ => ?_) (fun _ => ?_)
                      · skip
                        refine zFp_let (fun v99 ev99 => ?_)
                        rw [g.rf] at ev99
                        subst ev99
                        refine zFp_if (fun _ => ?_) (fun _ => ?_)
                        · skip
                          exact g
                        · skip
                          refine zFp_let (fun v101 ev101 => ?_)
                          rw [g.rf] at ev101
                          subst ev101
                          refine zFp_let (fun v102 _ => ?_)
                          refine zFp_let (fun s103 es103 => ?_)
                          have gs103 : zFr A σ s103 := by rw [es103]; exact g.w (h0 _)
                          refine zFp_let (fun v104 _ => ?_)
                          refine zFp_let (fun v105 _ => ?_)
                          exact ih _ _ _ _ gs103
                      · skip
                        refine zFp_let (fun v106 _ => ?_)
                        exact g
                    · skip
                      exact g
                · skip
                  refine zFp_let (fun v91 _ => ?_)
                  exact g
              · skip
                refine zFp_let (fun v40 _ => ?_)
                refine zFp_if (fun _ => ?_) (fun _ => ?_)
                · skip
                  refine zFp_let (fun v88 _ => ?_)
                  exact g
                · skip
                  refine zFp_let (fun v42 _ => ?_)
                  refine zFp_let (fun v43 ev43 => ?_)
                  rw [g.rf] at ev43
                  subst ev43
                  refine zFp_let (fun v44 _ => ?_)
                  refine zFp_let (fun v45 ev45 => ?_)
                  rw [g.rf] at ev45
                  subst ev45
                  refine zFp_let (fun v46 _ => ?_)
                  refine zFp_let (fun v47 _ => ?_)
                  refine zFp_let (fun v48 _ => ?_)
                  refine zFp_if (fun _ => ?_) (fun _ => ?_)
                  · skip
                    refine zFp_let (fun v50 ev50 => ?_)
                    rw [g.rf] at ev50
                    subst ev50
                    refine zFp_let (fun v51 _ => ?_)
                    refine zFp_let (fun v52 _ => ?_)
                    refine zFp_let (fun v53 _ => ?_)
                    refine zFp_let (fun s54 es54 => ?_)
                    have gs54 : zFr A σ s54 := by rw [es54]; exact g.w (h0 _)
                    refine zFp_let (fun v55 _ => ?_)
                    exact ih _ _ _ _ gs54
                  · skip
                    refine zFp_if (fun _ => ?_) (fun _ => ?_)
                    · skip
                      refine zFp_let (fun v57 ev57 => ?_)
                      rw [g.rf] at ev57
                      subst ev57
                      refine zFp_let (fun v58 _ => ?_)
                      refine zFp_let (fun v59 _ => ?_)
                      refine zFp_let (fun v60 _ => ?_)
                      refine zFp_let (fun s61 es61 => ?_)
                      have gs61 : zFr A σ s61 := by rw [es61]; exact g.w (h0 _)
                      refine zFp_let (fun v62 _ => ?_)
                      exact ih _ _ _ _ gs61
                    · skip
                      refine zFp_if (fun _ => ?_) (fun _ => ?_)
                      · skip
                        refine zFp_let (fun v64 ev64 => ?_)
                        rw [g.rf] at ev64
                        subst ev64
                        refine zFp_let (fun v65 _ => ?_)
                        refine zFp_let (fun v66 _ => ?_)
                        refine zFp_let (fun v67 _ => ?_)
                        refine zFp_let (fun s68 es68 => ?_)
                        have gs68 : zFr A σ s68 := by rw [es68]; exact g.w (h0 _)
                        refine zFp_let (fun v69 _ => ?_)
                        exact ih _ _ _ _ gs68
                      · skip
                        refine zFp_if (fun _ => ?_) (fun _ => ?_)
                        · skip
                          refine zFp_if (fun _ => ?_) (fun _ => ?_)
                          · skip
                            refine zFp_let (fun v78 _ => ?_)
                            exact g
                          · skip
                            refine zFp_let (fun v72 ev72 => ?_)
                            rw [g.rf] at ev72
                            subst ev72
                            refine zFp_let (fun v73 _ => ?_)
                            refine zFp_let (fun v74 _ => ?_)
                            refine zFp_let (fun v75 _ => ?_)
                            refine zFp_let (fun s76 es76 => ?_)
                            have gs76 : zFr A σ s76 := by rw [es76]; exact g.w (h0 _)
                            refine zFp_let (fun v77 _ => ?_)
                            exact ih _ _ _ _ gs76
                        · skip
                          refine zFp_let (fun v79 _ => ?_)
                          refine zFp_if (fun _ => ?_) (fun _ => ?_)
                          · skip
                            refine zFp_let (fun v83 _ => ?_)
                            exact ih _ _ _ _ g
                          · skip
                            refine zFp_if (fun _ => ?_) (fun _ => ?_)
                            · skip
                              refine zFp_let (fun v87 _ => ?_)
                              exact ih _ _ _ _ g
                            · skip
                              refine zFp_let (fun v86 _ => ?_)
                              exact ih _ _ _ _ g
        · skip
          refine zFp_let (fun v17 _ => ?_)
          exact g
    · skip
      refine zFp_let (fun v11 _ => ?_)
      exact g
set_option maxRecDepth 100000 in
theorem fr_X0_answer {A : Nat → Nat → Prop} {σ σ0 : zS} {a0 : Nat} {p1 : Nat} {p2 : Int32}  (g : zFr A σ σ0) (h0 : ∀ j, A ((σ.2.2 a0 1).getD 0) j) : zFp A σ (F_X0_answer a0 p1 p2 σ0) := by
  unfold F_X0_answer
  refine zFp_let (fun v1 _ => ?_)
  refine zFp_let (fun v2 ev2 => ?_)
  rw [g.rf] at ev2
  subst ev2
  refine zFp_let (fun v3 _ => ?_)
  refine zFp_let (fun v4 _ => ?_)
  exact fr_X0_answer_13  h0 _ _ _ _ _ g
set_option maxRecDepth 100000 in
theorem fr_X9_clear_12 {A : Nat → Nat → Prop} {σ : zS} {a0 : Nat}  (h0 : ∀ j, A ((σ.2.2 a0 9).getD 0) j) (h1 : ∀ j, A ((σ.2.2 a0 6).getD 0) j) (h2 : ∀ j, A ((σ.2.2 a0 7).getD 0) j) (h3 : A a0 8) (h4 : A a0 10) (h5 : A a0 11) (h6 : A a0 12) (h7 : A a0 13) : ∀ (n : Nat) (x6 : Int32) (τ7 : zS), zFr A σ τ7 → zFr A σ (F_X9_clear_12 a0 n x6 τ7) := by
  intro n
  induction n with
  | zero => intro x6 τ7 g; exact g
  | succ n ih =>
    intro x6 τ7 g
    rw [F_X9_clear_12]
    refine zFr_let (fun v8 _ => ?_)
    refine zFr_if (fun _ => ?_) (fun _ => ?_)
    · skip
      refine zFr_let (fun v19 _ => ?_)
      refine zFr_let (fun v20 ev20 => ?_)
      rw [g.rf] at ev20
      subst ev20
      refine zFr_let (fun v21 _ => ?_)
      refine zFr_let (fun s22 es22 => ?_)
      have gs22 : zFr A σ s22 := by rw [es22]; exact g.w (h0 _)
      refine zFr_let (fun v23 _ => ?_)
      refine zFr_if (fun _ => ?_) (fun _ => ?_)
      · skip
        refine zFr_let (fun v39 _ => ?_)
        refine zFr_let (fun v40 _ => ?_)
        refine zFr_if (fun _ => ?_) (fun _ => ?_)
        · skip
          refine zFr_let (fun v42 _ => ?_)
          refine zFr_let (fun s43 es43 => ?_)
          have gs43 : zFr A σ s43 := by rw [es43]; exact fr_X9_addStep gs22 h1 h2 h3
          refine zFr_let (fun v44 _ => ?_)
          refine zFr_let (fun v45 _ => ?_)
          refine zFr_let (fun s46 es46 => ?_)
          have gs46 : zFr A σ s46 := by rw [es46]; exact fr_X9_addStep gs43 h1 h2 h3
          refine zFr_let (fun v47 _ => ?_)
          exact ih _ _ gs46
        · skip
          exact gs22
      · skip
        refine zFr_let (fun v25 _ => ?_)
        refine zFr_let (fun v26 _ => ?_)
        refine zFr_if (fun _ => ?_) (fun _ => ?_)
        · skip
          refine zFr_let (fun v33 _ => ?_)
          refine zFr_let (fun s34 es34 => ?_)
          have gs34 : zFr A σ s34 := by rw [es34]; exact fr_X9_addStep gs22 h1 h2 h3
          refine zFr_let (fun v35 _ => ?_)
          refine zFr_let (fun v36 _ => ?_)
          refine zFr_let (fun s37 es37 => ?_)
          have gs37 : zFr A σ s37 := by rw [es37]; exact fr_X9_addStep gs34 h1 h2 h3
          refine zFr_let (fun v38 _ => ?_)
          exact ih _ _ gs37
        · skip
          refine zFr_let (fun s28 es28 => ?_)
          have gs28 : zFr A σ s28 := by rw [es28]; exact fr_X9_addStep gs22 h1 h2 h3
          refine zFr_let (fun v29 _ => ?_)
          refine zFr_let (fun v30 _ => ?_)
          refine zFr_let (fun s31 es31 => ?_)
          have gs31 : zFr A σ s31 := by rw [es31]; exact fr_X9_addStep gs28 h1 h2 h3
          refine zFr_let (fun v32 _ => ?_)
          exact ih _ _ gs31
    · skip
      refine zFr_let (fun v10 _ => ?_)
      refine zFr_let (fun s11 es11 => ?_)
      have gs11 : zFr A σ s11 := by rw [es11]; exact g.w h4
      refine zFr_let (fun v12 _ => ?_)
      refine zFr_let (fun s13 es13 => ?_)
      have gs13 : zFr A σ s13 := by rw [es13]; exact gs11.w h5
      refine zFr_let (fun v14 _ => ?_)
      refine zFr_let (fun s15 es15 => ?_)
      have gs15 : zFr A σ s15 := by rw [es15]; exact gs13.w h6
      refine zFr_let (fun v16 _ => ?_)
      refine zFr_let (fun s17 es17 => ?_)
      have gs17 : zFr A σ s17 := by rw [es17]; exact gs15.w h7
      exact gs17
set_option maxRecDepth 100000 in
theorem fr_X9_clear {A : Nat → Nat → Prop} {σ σ0 : zS} {a0 : Nat}  (g : zFr A σ σ0) (h0 : A a0 0) (h1 : A a0 8) (h2 : ∀ j, A ((σ.2.2 a0 9).getD 0) j) (h3 : ∀ j, A ((σ.2.2 a0 6).getD 0) j) (h4 : ∀ j, A ((σ.2.2 a0 7).getD 0) j) (h5 : A a0 10) (h6 : A a0 11) (h7 : A a0 12) (h8 : A a0 13) : zFr A σ (F_X9_clear a0 σ0) := by
  unfold F_X9_clear
  refine zFr_let (fun v1 _ => ?_)
  refine zFr_let (fun s2 es2 => ?_)
  have gs2 : zFr A σ s2 := by rw [es2]; exact g.w h0
  refine zFr_let (fun v3 _ => ?_)
  refine zFr_let (fun s4 es4 => ?_)
  have gs4 : zFr A σ s4 := by rw [es4]; exact gs2.w h1
  refine zFr_let (fun v5 _ => ?_)
  exact fr_X9_clear_12  h2 h3 h4 h1 h5 h6 h7 h8 _ _ _ gs4
set_option maxRecDepth 100000 in
theorem fr_X1_begin {A : Nat → Nat → Prop} {σ σ0 : zS} {a0 : Nat} {p1 : Nat}  (g : zFr A σ σ0) (h0 : ∀ j, A ((σ.2.2 a0 0).getD 0) j) (h1 : ∀ j, A ((σ.2.2 a0 1).getD 0) j) (h2 : ∀ j, A ((σ.2.2 a0 2).getD 0) j) (h3 : A a0 3) (h4 : A a0 4) (h5 : A a0 5) : zFr A σ (F_X1_begin a0 p1 σ0) := by
  unfold F_X1_begin
  refine zFr_let (fun v1 ev1 => ?_)
  rw [g.rf] at ev1
  subst ev1
  refine zFr_let (fun v2 _ => ?_)
  refine zFr_let (fun v3 ev3 => ?_)
  rw [g.rf] at ev3
  subst ev3
  refine zFr_let (fun v4 _ => ?_)
  refine zFr_let (fun v5 _ => ?_)
  refine zFr_let (fun s6 es6 => ?_)
  have gs6 : zFr A σ s6 := by rw [es6]; exact g.cp h0
  refine zFr_let (fun v7 ev7 => ?_)
  rw [gs6.rf] at ev7
  subst ev7
  refine zFr_let (fun v8 _ => ?_)
  refine zFr_let (fun s9 es9 => ?_)
  have gs9 : zFr A σ s9 := by rw [es9]; exact gs6.fl h1
  refine zFr_let (fun v10 ev10 => ?_)
  rw [gs9.rf] at ev10
  subst ev10
  refine zFr_let (fun v11 _ => ?_)
  refine zFr_let (fun s12 es12 => ?_)
  have gs12 : zFr A σ s12 := by rw [es12]; exact gs9.fl h2
  refine zFr_let (fun v13 _ => ?_)
  refine zFr_let (fun s14 es14 => ?_)
  have gs14 : zFr A σ s14 := by rw [es14]; exact gs12.w h3
  refine zFr_let (fun v15 _ => ?_)
  refine zFr_let (fun s16 es16 => ?_)
  have gs16 : zFr A σ s16 := by rw [es16]; exact gs14.w h4
  refine zFr_let (fun v17 _ => ?_)
  refine zFr_let (fun s18 es18 => ?_)
  have gs18 : zFr A σ s18 := by rw [es18]; exact gs16.w h5
  exact gs18
set_option maxRecDepth 100000 in
theorem fr_X6_isSource {A : Nat → Nat → Prop} {σ σ0 : zS} {a0 : Nat} {p1 : Int32}  (g : zFr A σ σ0)  : zFp A σ (F_X6_isSource a0 p1 σ0) := by
  unfold F_X6_isSource
  refine zFp_if (fun _ => ?_) (fun _ => ?_)
  · skip
    refine zFp_let (fun v3 _ => ?_)
    refine zFp_if (fun _ => ?_) (fun _ => ?_)
    · skip
      refine zFp_let (fun v7 ev7 => ?_)
      rw [g.rf] at ev7
      subst ev7
      refine zFp_let (fun v8 _ => ?_)
      refine zFp_if (fun _ => ?_) (fun _ => ?_)
      · skip
        refine zFp_let (fun v11 _ => ?_)
        exact g
      · skip
        refine zFp_let (fun v10 _ => ?_)
        exact g
    · skip
      refine zFp_let (fun v6 _ => ?_)
      exact g
  · skip
    refine zFp_let (fun v2 _ => ?_)
    exact g
set_option maxRecDepth 100000 in
theorem fr_X6_sources_4 {A : Nat → Nat → Prop} {σ : zS} {a0 : Nat}   : ∀ (n : Nat) (x3 : Int32) (x4 : Int32) (τ5 : zS), zFr A σ τ5 → zFp A σ (F_X6_sources_4 a0 n x3 x4 τ5) := by
  intro n
  induction n with
  | zero => intro x3 x4 τ5 g; exact g
  | succ n ih =>
    intro x3 x4 τ5 g
    rw [F_X6_sources_4]
    refine zFp_let (fun v6 _ => ?_)
    refine zFp_if (fun _ => ?_) (fun _ => ?_)
    · skip
      refine zFp_let (fun v8 ev8 => ?_)
      rw [g.rf] at ev8
      subst ev8
      refine zFp_let (fun v9 _ => ?_)
      refine zFp_if (fun _ => ?_) (fun _ => ?_)
      · skip
        refine zFp_let (fun v12 _ => ?_)
        refine zFp_let (fun v13 _ => ?_)
        refine zFp_let (fun v14 _ => ?_)
        exact ih _ _ _ g
      · skip
        refine zFp_let (fun v11 _ => ?_)
        exact ih _ _ _ g
    · skip
      exact g
set_option maxRecDepth 100000 in
theorem fr_X6_sources {A : Nat → Nat → Prop} {σ σ0 : zS} {a0 : Nat}  (g : zFr A σ σ0)  : zFp A σ (F_X6_sources a0 σ0) := by
  unfold F_X6_sources
  refine zFp_let (fun v1 _ => ?_)
  refine zFp_let (fun v2 _ => ?_)
  exact fr_X6_sources_4   _ _ _ _ g
set_option maxRecDepth 100000 in
theorem fr_X6_comingBy_4 {A : Nat → Nat → Prop} {σ : zS} {a0 : Nat} {p1 : Int32}   : ∀ (n : Nat) (x3 : Int32) (x4 : Int32) (τ5 : zS), zFr A σ τ5 → zFp A σ (F_X6_comingBy_4 a0 p1 n x3 x4 τ5) := by
  intro n
  induction n with
  | zero => intro x3 x4 τ5 g; exact g
  | succ n ih =>
    intro x3 x4 τ5 g
    rw [F_X6_comingBy_4]
    refine zFp_let (fun v6 _ => ?_)
    refine zFp_if (fun _ => ?_) (fun _ => ?_)
    · skip
      refine zFp_let (fun v8 ev8 => ?_)
      rw [g.rf] at ev8
      subst ev8
      refine zFp_let (fun v9 _ => ?_)
      refine zFp_let (fun v10 _ => ?_)
      refine zFp_if (fun _ => ?_) (fun _ => ?_)
      · skip
        refine zFp_let (fun v12 _ => ?_)
        exact ih _ _ _ g
      · skip
        refine zFp_let (fun v13 _ => ?_)
        refine zFp_let (fun v14 _ => ?_)
        refine zFp_let (fun v15 _ => ?_)
        exact ih _ _ _ g
    · skip
      exact g
set_option maxRecDepth 100000 in
theorem fr_X6_comingBy {A : Nat → Nat → Prop} {σ σ0 : zS} {a0 : Nat} {p1 : Int32}  (g : zFr A σ σ0)  : zFp A σ (F_X6_comingBy a0 p1 σ0) := by
  unfold F_X6_comingBy
  refine zFp_let (fun v1 _ => ?_)
  refine zFp_let (fun v2 _ => ?_)
  exact fr_X6_comingBy_4   _ _ _ _ g
set_option maxRecDepth 100000 in
theorem fr_X6_greatestFar_4 {A : Nat → Nat → Prop} {σ : zS} {a0 : Nat}   : ∀ (n : Nat) (x3 : Int32) (x4 : Int32) (τ5 : zS), zFr A σ τ5 → zFp A σ (F_X6_greatestFar_4 a0 n x3 x4 τ5) := by
  intro n
  induction n with
  | zero => intro x3 x4 τ5 g; exact g
  | succ n ih =>
    intro x3 x4 τ5 g
    rw [F_X6_greatestFar_4]
    refine zFp_let (fun v6 _ => ?_)
    refine zFp_if (fun _ => ?_) (fun _ => ?_)
    · skip
      refine zFp_let (fun v8 ev8 => ?_)
      rw [g.rf] at ev8
      subst ev8
      refine zFp_let (fun v9 _ => ?_)
      refine zFp_let (fun v10 _ => ?_)
      refine zFp_let (fun v11 _ => ?_)
      exact ih _ _ _ g
    · skip
      exact g
set_option maxRecDepth 100000 in
theorem fr_X6_greatestFar {A : Nat → Nat → Prop} {σ σ0 : zS} {a0 : Nat}  (g : zFr A σ σ0)  : zFp A σ (F_X6_greatestFar a0 σ0) := by
  unfold F_X6_greatestFar
  refine zFp_let (fun v1 _ => ?_)
  refine zFp_let (fun v2 _ => ?_)
  exact fr_X6_greatestFar_4   _ _ _ _ g
set_option maxRecDepth 100000 in
theorem fr_X6_deepest_4 {A : Nat → Nat → Prop} {σ : zS} {a0 : Nat}   : ∀ (n : Nat) (x3 : Int32) (x4 : Int32) (τ5 : zS), zFr A σ τ5 → zFp A σ (F_X6_deepest_4 a0 n x3 x4 τ5) := by
  intro n
  induction n with
  | zero => intro x3 x4 τ5 g; exact g
  | succ n ih =>
    intro x3 x4 τ5 g
    rw [F_X6_deepest_4]
    refine zFp_let (fun v6 _ => ?_)
    refine zFp_if (fun _ => ?_) (fun _ => ?_)
    · skip
      refine zFp_let (fun v8 ev8 => ?_)
      rw [g.rf] at ev8
      subst ev8
      refine zFp_let (fun v9 _ => ?_)
      refine zFp_let (fun v10 _ => ?_)
      refine zFp_let (fun v11 _ => ?_)
      refine zFp_let (fun v12 _ => ?_)
      exact ih _ _ _ g
    · skip
      exact g
set_option maxRecDepth 100000 in
theorem fr_X6_deepest {A : Nat → Nat → Prop} {σ σ0 : zS} {a0 : Nat}  (g : zFr A σ σ0)  : zFp A σ (F_X6_deepest a0 σ0) := by
  unfold F_X6_deepest
  refine zFp_let (fun v1 _ => ?_)
  refine zFp_let (fun v2 _ => ?_)
  exact fr_X6_deepest_4   _ _ _ _ g
set_option maxRecDepth 100000 in
theorem fr_X6_tourOf_59 {A : Nat → Nat → Prop} {σ : zS} {x5 : Int32} {x6 : Int32} {a0 : Nat} {p1 : Int32} {kLp7 : Int32 → Int32 → Int32 → zS → Int32 × zS} (ckLp7 : ∀ (y0 : Int32) (y1 : Int32) (y2 : Int32) (s : zS), zFr A σ s → zFp A σ (kLp7 y0 y1 y2 s))  : ∀ (n : Nat) (x12 : Int32) (x13 : Int32) (τ14 : zS), zFr A σ τ14 → zFp A σ (F_X6_tourOf_59 x5 x6 a0 p1 kLp7 n x12 x13 τ14) := by
  intro n
  induction n with
  | zero => intro x12 x13 τ14 g; exact g
  | succ n ih =>
    intro x12 x13 τ14 g
    rw [F_X6_tourOf_59]
    refine zFp_let (fun v15 _ => ?_)
    refine zFp_if (fun _ => ?_) (fun _ => ?_)
    · skip
      refine zFp_let (fun v20 _ => ?_)
      refine zFp_if (fun _ => ?_) (fun _ => ?_)
      · skip
        refine zFp_let (fun v22 _ => ?_)
        exact ih _ _ _ g
      · skip
        refine zFp_let (fun v23 ev23 => ?_)
        rw [g.rf] at ev23
        subst ev23
        refine zFp_let (fun v24 _ => ?_)
        refine zFp_let (fun v25 _ => ?_)
        refine zFp_let (fun v26 _ => ?_)
        exact ih _ _ _ g
    · skip
      refine zFp_let (fun v17 _ => ?_)
      refine zFp_let (fun v18 _ => ?_)
      refine zFp_let (fun v19 _ => ?_)
      exact g
set_option maxRecDepth 100000 in
theorem fr_X6_tourOf_7 {A : Nat → Nat → Prop} {σ : zS} {a0 : Nat} {p1 : Int32}   : ∀ (n : Nat) (x4 : Int32) (x5 : Int32) (x6 : Int32) (τ7 : zS), zFr A σ τ7 → zFp A σ (F_X6_tourOf_7 a0 p1 n x4 x5 x6 τ7) := by
  intro n
  induction n with
  | zero => intro x4 x5 x6 τ7 g; exact g
  | succ n ih =>
    intro x4 x5 x6 τ7 g
    rw [F_X6_tourOf_7]
    refine zFp_let (fun v8 _ => ?_)
    refine zFp_if (fun _ => ?_) (fun _ => ?_)
    · skip
      refine zFp_let (fun v27 _ => ?_)
      refine zFp_if (fun _ => ?_) (fun _ => ?_)
      · skip
        refine zFp_let (fun v29 _ => ?_)
        exact ih _ _ _ _ g
      · skip
        refine zFp_let (fun v30 ev30 => ?_)
        rw [g.rf] at ev30
        subst ev30
        refine zFp_let (fun v31 _ => ?_)
        refine zFp_let (fun v32 _ => ?_)
        refine zFp_let (fun v33 ev33 => ?_)
        rw [g.rf] at ev33
        subst ev33
        refine zFp_let (fun v34 _ => ?_)
        refine zFp_let (fun v35 _ => ?_)
        refine zFp_let (fun v36 _ => ?_)
        exact ih _ _ _ _ g
    · skip
      refine zFp_let (fun v10 _ => ?_)
      refine zFp_let (fun v11 _ => ?_)
      exact fr_X6_tourOf_59 ih  _ _ _ _ g
set_option maxRecDepth 100000 in
theorem fr_X6_tourOf {A : Nat → Nat → Prop} {σ σ0 : zS} {a0 : Nat} {p1 : Int32}  (g : zFr A σ σ0)  : zFp A σ (F_X6_tourOf a0 p1 σ0) := by
  unfold F_X6_tourOf
  refine zFp_let (fun v1 _ => ?_)
  refine zFp_let (fun v2 _ => ?_)
  refine zFp_let (fun v3 _ => ?_)
  exact fr_X6_tourOf_7   _ _ _ _ _ g
set_option maxRecDepth 100000 in
theorem fr_X6_meeting_20 {A : Nat → Nat → Prop} {σ : zS} {v5 : Int32} {a0 : Nat} {p1 : Int32} {p2 : Int32}   : ∀ (n : Nat) (x8 : Int32) (x9 : Int32) (τ10 : zS), zFr A σ τ10 → zFp A σ (F_X6_meeting_20 v5 a0 p1 p2 n x8 x9 τ10) := by
  intro n
  induction n with
  | zero => intro x8 x9 τ10 g; exact g
  | succ n ih =>
    intro x8 x9 τ10 g
    rw [F_X6_meeting_20]
    refine zFp_let (fun v11 _ => ?_)
    refine zFp_if (fun _ => ?_) (fun _ => ?_)
    · skip
      refine zFp_let (fun v13 _ => ?_)
      refine zFp_if (fun _ => ?_) (fun _ => ?_)
      · skip
        refine zFp_let (fun v15 _ => ?_)
        exact ih _ _ _ g
      · skip
        refine zFp_let (fun v16 ev16 => ?_)
        rw [g.rf] at ev16
        subst ev16
        refine zFp_let (fun v17 _ => ?_)
        refine zFp_let (fun v18 ev18 => ?_)
        rw [g.rf] at ev18
        subst ev18
        refine zFp_let (fun v19 _ => ?_)
        refine zFp_if (fun _ => ?_) (fun _ => ?_)
        · skip
          refine zFp_let (fun v24 _ => ?_)
          exact ih _ _ _ g
        · skip
          refine zFp_let (fun v23 _ => ?_)
          exact ih _ _ _ g
    · skip
      exact g
set_option maxRecDepth 100000 in
theorem fr_X6_meeting {A : Nat → Nat → Prop} {σ σ0 : zS} {a0 : Nat} {p1 : Int32} {p2 : Int32}  (g : zFr A σ σ0)  : zFp A σ (F_X6_meeting a0 p1 p2 σ0) := by
  unfold F_X6_meeting
  refine zFp_let (fun v1 ev1 => ?_)
  rw [g.rf] at ev1
  subst ev1
  refine zFp_let (fun v2 _ => ?_)
  refine zFp_let (fun v3 ev3 => ?_)
  rw [g.rf] at ev3
  subst ev3
  refine zFp_let (fun v4 _ => ?_)
  refine zFp_let (fun v5 _ => ?_)
  refine zFp_let (fun v6 _ => ?_)
  refine zFp_let (fun v7 _ => ?_)
  exact fr_X6_meeting_20   _ _ _ _ g
set_option maxRecDepth 100000 in
theorem fr_X6_orderOf_20 {A : Nat → Nat → Prop} {σ : zS} {x4 : Int32} {a0 : Nat} {p1 : Nat} {p2 : Int32} {kLp5 : Int32 → zS → Int32 × zS} (ckLp5 : ∀ (y0 : Int32) (s : zS), zFr A σ s → zFp A σ (kLp5 y0 s)) (h0 : ∀ j, A ((σ.2.2 a0 5).getD 0) j) : ∀ (n : Nat) (x12 : Int32) (x13 : Int32) (x14 : Int32) (τ15 : zS), zFr A σ τ15 → zFp A σ (F_X6_orderOf_20 x4 a0 p1 p2 kLp5 n x12 x13 x14 τ15) := by
  intro n
  induction n with
  | zero => intro x12 x13 x14 τ15 g; exact g
  | succ n ih =>
    intro x12 x13 x14 τ15 g
    rw [F_X6_orderOf_20]
    refine zFp_let (fun v16 _ => ?_)
    refine zFp_if (fun _ => ?_) (fun _ => ?_)
    · skip
      refine zFp_let (fun v31 ev31 => ?_)
      rw [g.rf] at ev31
      subst ev31
      refine zFp_let (fun v32 _ => ?_)
      refine zFp_let (fun v33 ev33 => ?_)
      rw [g.rf] at ev33
      subst ev33
      refine zFp_let (fun v34 _ => ?_)
      refine zFp_if (fun _ => ?_) (fun _ => ?_)
      · skip
        refine zFp_let (fun v37 ev37 => ?_)
        rw [g.rf] at ev37
        subst ev37
        refine zFp_let (fun v38 _ => ?_)
        refine zFp_if (fun _ => ?_) (fun _ => ?_)
        · skip
          refine zFp_let (fun v42 _ => ?_)
          exact ih _ _ _ _ g
        · skip
          refine zFp_let (fun v43 ev43 => ?_)
          rw [g.rf] at ev43
          subst ev43
          refine zFp_let (fun v44 _ => ?_)
          refine zFp_if (fun _ => ?_) (fun _ => ?_)
          · skip
            refine zFp_let (fun v50 _ => ?_)
            refine zFp_let (fun v51 _ => ?_)
            refine zFp_let (fun v52 ev52 => ?_)
            rw [g.rf] at ev52
            subst ev52
            refine zFp_let (fun v53 _ => ?_)
            refine zFp_let (fun v54 _ => ?_)
            exact ih _ _ _ _ g
          · skip
            refine zFp_let (fun v46 _ => ?_)
            refine zFp_let (fun v47 ev47 => ?_)
            rw [g.rf] at ev47
            subst ev47
            refine zFp_let (fun v48 _ => ?_)
            refine zFp_let (fun v49 _ => ?_)
            exact ih _ _ _ _ g
      · skip
        refine zFp_let (fun v36 _ => ?_)
        exact ih _ _ _ _ g
    · skip
      refine zFp_let (fun v18 ev18 => ?_)
      rw [g.rf] at ev18
      subst ev18
      refine zFp_let (fun v19 ev19 => ?_)
      rw [g.rf] at ev19
      subst ev19
      refine zFp_let (fun v20 _ => ?_)
      refine zFp_let (fun v21 _ => ?_)
      refine zFp_if (fun _ => ?_) (fun _ => ?_)
      · skip
        refine zFp_let (fun s28 es28 => ?_)
        have gs28 : zFr A σ s28 := by rw [es28]; exact g.w (h0 _)
        refine zFp_let (fun v30 _ => ?_)
        exact ckLp5 _ _ gs28
      · skip
        refine zFp_let (fun v23 _ => ?_)
        refine zFp_let (fun v24 _ => ?_)
        refine zFp_let (fun s25 es25 => ?_)
        have gs25 : zFr A σ s25 := by rw [es25]; exact g.w (h0 _)
        refine zFp_let (fun v27 _ => ?_)
        exact ckLp5 _ _ gs25
set_option maxRecDepth 100000 in
theorem fr_X6_orderOf_7 {A : Nat → Nat → Prop} {σ : zS} {a0 : Nat} {p1 : Nat} {p2 : Int32}  (h0 : ∀ j, A ((σ.2.2 a0 5).getD 0) j) : ∀ (n : Nat) (x4 : Int32) (τ5 : zS), zFr A σ τ5 → zFp A σ (F_X6_orderOf_7 a0 p1 p2 n x4 τ5) := by
  intro n
  induction n with
  | zero => intro x4 τ5 g; exact g
  | succ n ih =>
    intro x4 τ5 g
    rw [F_X6_orderOf_7]
    refine zFp_if (fun _ => ?_) (fun _ => ?_)
    · skip
      refine zFp_let (fun v7 ev7 => ?_)
      rw [g.rf] at ev7
      subst ev7
      refine zFp_let (fun v8 _ => ?_)
      exact g
    · skip
      refine zFp_let (fun v9 _ => ?_)
      refine zFp_let (fun v10 _ => ?_)
      refine zFp_let (fun v11 _ => ?_)
      exact fr_X6_orderOf_20 ih h0 _ _ _ _ _ g
set_option maxRecDepth 100000 in
theorem fr_X6_orderOf {A : Nat → Nat → Prop} {σ σ0 : zS} {a0 : Nat} {p1 : Nat} {p2 : Int32}  (g : zFr A σ σ0) (h0 : ∀ j, A ((σ.2.2 a0 5).getD 0) j) : zFp A σ (F_X6_orderOf a0 p1 p2 σ0) := by
  unfold F_X6_orderOf
  refine zFp_let (fun v1 _ => ?_)
  refine zFp_let (fun v2 _ => ?_)
  refine zFp_let (fun v3 _ => ?_)
  exact fr_X6_orderOf_7  h0 _ _ _ g
set_option maxRecDepth 100000 in
theorem fr_X6_countAbove_15 {A : Nat → Nat → Prop} {σ : zS} {a0 : Nat} {p1 : Nat}  (h0 : ∀ j, A ((σ.2.2 a0 4).getD 0) j) : ∀ (n : Nat) (x7 : Int32) (τ8 : zS), zFr A σ τ8 → zFr A σ (F_X6_countAbove_15 a0 p1 n x7 τ8) := by
  intro n
  induction n with
  | zero => intro x7 τ8 g; exact g
  | succ n ih =>
    intro x7 τ8 g
    rw [F_X6_countAbove_15]
    refine zFr_if (fun _ => ?_) (fun _ => ?_)
    · skip
      refine zFr_let (fun v10 ev10 => ?_)
      rw [g.rf] at ev10
      subst ev10
      refine zFr_let (fun v11 _ => ?_)
      refine zFr_let (fun v12 ev12 => ?_)
      rw [g.rf] at ev12
      subst ev12
      refine zFr_let (fun v13 ev13 => ?_)
      rw [g.rf] at ev13
      subst ev13
      refine zFr_let (fun v14 _ => ?_)
      refine zFr_let (fun v15 _ => ?_)
      refine zFr_let (fun v16 ev16 => ?_)
      rw [g.rf] at ev16
      subst ev16
      refine zFr_let (fun v17 _ => ?_)
      refine zFr_let (fun v18 _ => ?_)
      refine zFr_let (fun v19 _ => ?_)
      refine zFr_let (fun v20 _ => ?_)
      refine zFr_let (fun s21 es21 => ?_)
      have gs21 : zFr A σ s21 := by rw [es21]; exact g.w (h0 _)
      refine zFr_let (fun v22 _ => ?_)
      exact ih _ _ gs21
    · skip
      exact g
set_option maxRecDepth 100000 in
theorem fr_X6_countAbove {A : Nat → Nat → Prop} {σ σ0 : zS} {a0 : Nat} {p1 : Nat}  (g : zFr A σ σ0) (h0 : ∀ j, A ((σ.2.2 a0 4).getD 0) j) : zFr A σ (F_X6_countAbove a0 p1 σ0) := by
  unfold F_X6_countAbove
  refine zFr_let (fun v1 ev1 => ?_)
  rw [g.rf] at ev1
  subst ev1
  refine zFr_let (fun v2 _ => ?_)
  refine zFr_let (fun s3 es3 => ?_)
  have gs3 : zFr A σ s3 := by rw [es3]; exact g.fl h0
  refine zFr_let (fun v4 _ => ?_)
  refine zFr_let (fun v5 _ => ?_)
  refine zFr_let (fun v6 _ => ?_)
  exact fr_X6_countAbove_15  h0 _ _ _ gs3
set_option maxRecDepth 100000 in
theorem fr_X6_form_81 {A : Nat → Nat → Prop} {σ : zS} {v36 : Int32} {x30 : Int32} {a0 : Nat} {p1 : Nat} {p2 : Nat} {kLp32 : Int32 → Int32 → zS → zS} (ckLp32 : ∀ (y0 : Int32) (y1 : Int32) (s : zS), zFr A σ s → zFr A σ (kLp32 y0 y1 s)) (h0 : ∀ j, A ((σ.2.2 a0 3).getD 0) j) (h1 : ∀ j, A ((σ.2.2 a0 6).getD 0) j) (h2 : ∀ j, A ((σ.2.2 a0 2).getD 0) j) : ∀ (n : Nat) (x38 : Int32) (x39 : Int32) (τ40 : zS), zFr A σ τ40 → zFr A σ (F_X6_form_81 v36 x30 a0 p1 p2 kLp32 n x38 x39 τ40) := by
  intro n
  induction n with
  | zero => intro x38 x39 τ40 g; exact g
  | succ n ih =>
    intro x38 x39 τ40 g
    rw [F_X6_form_81]
    refine zFr_let (fun v41 _ => ?_)
    refine zFr_if (fun _ => ?_) (fun _ => ?_)
    · skip
      refine zFr_let (fun v44 _ => ?_)
      refine zFr_if (fun _ => ?_) (fun _ => ?_)
      · skip
        refine zFr_let (fun v47 ev47 => ?_)
        rw [g.rf] at ev47
        subst ev47
        refine zFr_let (fun v48 _ => ?_)
        refine zFr_if (fun _ => ?_) (fun _ => ?_)
        · skip
          refine zFr_let (fun v51 ev51 => ?_)
          rw [g.rf] at ev51
          subst ev51
          refine zFr_let (fun v52 ev52 => ?_)
          rw [g.rf] at ev52
          subst ev52
          refine zFr_let (fun v53 _ => ?_)
          refine zFr_let (fun v54 ev54 => ?_)
          rw [g.rf] at ev54
          subst ev54
          refine zFr_let (fun v55 _ => ?_)
          refine zFr_let (fun v56 _ => ?_)
          refine zFr_let (fun s57 es57 => ?_)
          have gs57 : zFr A σ s57 := by rw [es57]; exact g.w (h0 _)
          refine zFr_let (fun v59 ev59 => ?_)
          rw [gs57.rf] at ev59
          subst ev59
          refine zFr_let (fun v60 ev60 => ?_)
          rw [gs57.rf] at ev60
          subst ev60
          refine zFr_let (fun v61 _ => ?_)
          refine zFr_let (fun v62 _ => ?_)
          refine zFr_let (fun v63 _ => ?_)
          refine zFr_let (fun s64 es64 => ?_)
          have gs64 : zFr A σ s64 := by rw [es64]; exact gs57.w (h1 _)
          refine zFr_let (fun v66 ev66 => ?_)
          rw [gs64.rf] at ev66
          subst ev66
          refine zFr_let (fun s67 es67 => ?_)
          have gs67 : zFr A σ s67 := by rw [es67]; exact gs64.w (h2 _)
          refine zFr_let (fun v69 _ => ?_)
          refine zFr_let (fun v70 _ => ?_)
          exact ih _ _ _ gs67
        · skip
          refine zFr_let (fun v50 _ => ?_)
          exact ih _ _ _ g
      · skip
        refine zFr_let (fun v46 _ => ?_)
        exact ckLp32 _ _ _ g
    · skip
      refine zFr_let (fun v43 _ => ?_)
      exact ckLp32 _ _ _ g
set_option maxRecDepth 100000 in
theorem fr_X6_form_63 {A : Nat → Nat → Prop} {σ : zS} {a0 : Nat} {p1 : Nat} {p2 : Nat}  (h0 : ∀ j, A ((σ.2.2 a0 3).getD 0) j) (h1 : ∀ j, A ((σ.2.2 a0 6).getD 0) j) (h2 : ∀ j, A ((σ.2.2 a0 2).getD 0) j) (h3 : ∀ j, A ((σ.2.2 a0 4).getD 0) j) : ∀ (n : Nat) (x30 : Int32) (x31 : Int32) (τ32 : zS), zFr A σ τ32 → zFr A σ (F_X6_form_63 a0 p1 p2 n x30 x31 τ32) := by
  intro n
  induction n with
  | zero => intro x30 x31 τ32 g; exact g
  | succ n ih =>
    intro x30 x31 τ32 g
    rw [F_X6_form_63]
    refine zFr_if (fun _ => ?_) (fun _ => ?_)
    · skip
      refine zFr_let (fun v35 ev35 => ?_)
      rw [g.rf] at ev35
      subst ev35
      refine zFr_let (fun v36 _ => ?_)
      refine zFr_let (fun v37 _ => ?_)
      exact fr_X6_form_81 ih h0 h1 h2 _ _ _ _ g
    · skip
      refine zFr_let (fun s34 es34 => ?_)
      have gs34 : zFr A σ s34 := by rw [es34]; exact fr_X6_countAbove g h3
      exact gs34
set_option maxRecDepth 100000 in
theorem fr_X6_form_81_1 {A : Nat → Nat → Prop} {σ : zS} {v95 : Int32} {x89 : Int32} {a0 : Nat} {p1 : Nat} {p2 : Nat} {kLp91 : Int32 → Int32 → zS → zS} (ckLp91 : ∀ (y0 : Int32) (y1 : Int32) (s : zS), zFr A σ s → zFr A σ (kLp91 y0 y1 s)) (h0 : ∀ j, A ((σ.2.2 a0 3).getD 0) j) (h1 : ∀ j, A ((σ.2.2 a0 6).getD 0) j) (h2 : ∀ j, A ((σ.2.2 a0 2).getD 0) j) : ∀ (n : Nat) (x97 : Int32) (x98 : Int32) (τ99 : zS), zFr A σ τ99 → zFr A σ (F_X6_form_81_1 v95 x89 a0 p1 p2 kLp91 n x97 x98 τ99) := by
  intro n
  induction n with
  | zero => intro x97 x98 τ99 g; exact g
  | succ n ih =>
    intro x97 x98 τ99 g
    rw [F_X6_form_81_1]
    refine zFr_let (fun v100 _ => ?_)
    refine zFr_if (fun _ => ?_) (fun _ => ?_)
    · skip
      refine zFr_let (fun v103 _ => ?_)
      refine zFr_if (fun _ => ?_) (fun _ => ?_)
      · skip
        refine zFr_let (fun v106 ev106 => ?_)
        rw [g.rf] at ev106
        subst ev106
        refine zFr_let (fun v107 _ => ?_)
        refine zFr_if (fun _ => ?_) (fun _ => ?_)
        · skip
          refine zFr_let (fun v110 ev110 => ?_)
          rw [g.rf] at ev110
          subst ev110
          refine zFr_let (fun v111 ev111 => ?_)
          rw [g.rf] at ev111
          subst ev111
          refine zFr_let (fun v112 _ => ?_)
          refine zFr_let (fun v113 ev113 => ?_)
          rw [g.rf] at ev113
          subst ev113
          refine zFr_let (fun v114 _ => ?_)
          refine zFr_let (fun v115 _ => ?_)
          refine zFr_let (fun s116 es116 => ?_)
          have gs116 : zFr A σ s116 := by rw [es116]; exact g.w (h0 _)
          refine zFr_let (fun v118 ev118 => ?_)
          rw [gs116.rf] at ev118
          subst ev118
          refine zFr_let (fun v119 ev119 => ?_)
          rw [gs116.rf] at ev119
          subst ev119
          refine zFr_let (fun v120 _ => ?_)
          refine zFr_let (fun v121 _ => ?_)
          refine zFr_let (fun v122 _ => ?_)
          refine zFr_let (fun s123 es123 => ?_)
          have gs123 : zFr A σ s123 := by rw [es123]; exact gs116.w (h1 _)
          refine zFr_let (fun v125 ev125 => ?_)
          rw [gs123.rf] at ev125
          subst ev125
          refine zFr_let (fun s126 es126 => ?_)
          have gs126 : zFr A σ s126 := by rw [es126]; exact gs123.w (h2 _)
          refine zFr_let (fun v128 _ => ?_)
          refine zFr_let (fun v129 _ => ?_)
          exact ih _ _ _ gs126
        · skip
          refine zFr_let (fun v109 _ => ?_)
          exact ih _ _ _ g
      · skip
        refine zFr_let (fun v105 _ => ?_)
        exact ckLp91 _ _ _ g
    · skip
      refine zFr_let (fun v102 _ => ?_)
      exact ckLp91 _ _ _ g
set_option maxRecDepth 100000 in
theorem fr_X6_form_63_1 {A : Nat → Nat → Prop} {σ : zS} {a0 : Nat} {p1 : Nat} {p2 : Nat}  (h0 : ∀ j, A ((σ.2.2 a0 3).getD 0) j) (h1 : ∀ j, A ((σ.2.2 a0 6).getD 0) j) (h2 : ∀ j, A ((σ.2.2 a0 2).getD 0) j) (h3 : ∀ j, A ((σ.2.2 a0 4).getD 0) j) : ∀ (n : Nat) (x89 : Int32) (x90 : Int32) (τ91 : zS), zFr A σ τ91 → zFr A σ (F_X6_form_63_1 a0 p1 p2 n x89 x90 τ91) := by
  intro n
  induction n with
  | zero => intro x89 x90 τ91 g; exact g
  | succ n ih =>
    intro x89 x90 τ91 g
    rw [F_X6_form_63_1]
    refine zFr_if (fun _ => ?_) (fun _ => ?_)
    · skip
      refine zFr_let (fun v94 ev94 => ?_)
      rw [g.rf] at ev94
      subst ev94
      refine zFr_let (fun v95 _ => ?_)
      refine zFr_let (fun v96 _ => ?_)
      exact fr_X6_form_81_1 ih h0 h1 h2 _ _ _ _ g
    · skip
      refine zFr_let (fun s93 es93 => ?_)
      have gs93 : zFr A σ s93 := by rw [es93]; exact fr_X6_countAbove g h3
      exact gs93
set_option maxRecDepth 100000 in
theorem fr_X6_form {A : Nat → Nat → Prop} {σ σ0 : zS} {a0 : Nat} {p1 : Nat} {p2 : Nat}  (g : zFr A σ σ0) (h0 : A a0 0) (h1 : ∀ j, A ((σ.2.2 a0 1).getD 0) j) (h2 : ∀ j, A ((σ.2.2 a0 2).getD 0) j) (h3 : ∀ j, A ((σ.2.2 a0 3).getD 0) j) (h4 : ∀ j, A ((σ.2.2 a0 6).getD 0) j) (h5 : ∀ j, A ((σ.2.2 a0 4).getD 0) j) : zFr A σ (F_X6_form a0 p1 p2 σ0) := by
  unfold F_X6_form
  refine zFr_let (fun v1 _ => ?_)
  refine zFr_let (fun s2 es2 => ?_)
  have gs2 : zFr A σ s2 := by rw [es2]; exact g.w h0
  refine zFr_let (fun v4 ev4 => ?_)
  rw [gs2.rf] at ev4
  subst ev4
  refine zFr_let (fun v5 _ => ?_)
  refine zFr_let (fun v6 ev6 => ?_)
  rw [gs2.rf] at ev6
  subst ev6
  refine zFr_let (fun v7 _ => ?_)
  refine zFr_let (fun v8 _ => ?_)
  refine zFr_let (fun s9 es9 => ?_)
  have gs9 : zFr A σ s9 := by rw [es9]; exact gs2.cp h1
  refine zFr_let (fun v10 _ => ?_)
  refine zFr_if (fun _ => ?_) (fun _ => ?_)
  · skip
    refine zFr_let (fun v71 _ => ?_)
    refine zFr_let (fun v72 ev72 => ?_)
    rw [gs9.rf] at ev72
    subst ev72
    refine zFr_let (fun v73 _ => ?_)
    refine zFr_let (fun v74 _ => ?_)
    refine zFr_let (fun s75 es75 => ?_)
    have gs75 : zFr A σ s75 := by rw [es75]; exact gs9.w (h2 _)
    refine zFr_let (fun v77 ev77 => ?_)
    rw [gs75.rf] at ev77
    subst ev77
    refine zFr_let (fun v78 _ => ?_)
    refine zFr_let (fun v79 _ => ?_)
    refine zFr_let (fun s80 es80 => ?_)
    have gs80 : zFr A σ s80 := by rw [es80]; exact gs75.w (h3 _)
    refine zFr_let (fun v82 ev82 => ?_)
    rw [gs80.rf] at ev82
    subst ev82
    refine zFr_let (fun v83 _ => ?_)
    refine zFr_let (fun v84 _ => ?_)
    refine zFr_let (fun v85 _ => ?_)
    refine zFr_let (fun s86 es86 => ?_)
    have gs86 : zFr A σ s86 := by rw [es86]; exact gs80.w (h4 _)
    refine zFr_let (fun v88 _ => ?_)
    exact fr_X6_form_63_1  h3 h4 h2 h5 _ _ _ _ gs86
  · skip
    refine zFr_let (fun v12 _ => ?_)
    refine zFr_let (fun v13 ev13 => ?_)
    rw [gs9.rf] at ev13
    subst ev13
    refine zFr_let (fun v14 _ => ?_)
    refine zFr_let (fun v15 _ => ?_)
    refine zFr_let (fun s16 es16 => ?_)
    have gs16 : zFr A σ s16 := by rw [es16]; exact gs9.w (h2 _)
    refine zFr_let (fun v18 ev18 => ?_)
    rw [gs16.rf] at ev18
    subst ev18
    refine zFr_let (fun v19 _ => ?_)
    refine zFr_let (fun v20 _ => ?_)
    refine zFr_let (fun s21 es21 => ?_)
    have gs21 : zFr A σ s21 := by rw [es21]; exact gs16.w (h3 _)
    refine zFr_let (fun v23 ev23 => ?_)
    rw [gs21.rf] at ev23
    subst ev23
    refine zFr_let (fun v24 _ => ?_)
    refine zFr_let (fun v25 _ => ?_)
    refine zFr_let (fun v26 _ => ?_)
    refine zFr_let (fun s27 es27 => ?_)
    have gs27 : zFr A σ s27 := by rw [es27]; exact gs21.w (h4 _)
    refine zFr_let (fun v29 _ => ?_)
    exact fr_X6_form_63  h3 h4 h2 h5 _ _ _ _ gs27
set_option maxRecDepth 100000 in
theorem fr_X5_tells {A : Nat → Nat → Prop} {σ σ0 : zS} {a0 : Nat} {p1 : Int32} {p2 : Int32} {p3 : Int32}  (g : zFr A σ σ0) (h0 : ∀ j, A ((σ.2.2 ((σ.2.2 a0 1).getD 0) 0).getD 0) j) (h1 : ∀ j, A ((σ.2.2 ((σ.2.2 a0 1).getD 0) 1).getD 0) j) : zFp A σ (F_X5_tells a0 p1 p2 p3 σ0) := by
  unfold F_X5_tells
  refine zFp_let (fun v1 ev1 => ?_)
  rw [g.rf] at ev1
  subst ev1
  refine zFp_let (fun v2 ev2 => ?_)
  rw [g.rf] at ev2
  subst ev2
  refine zFp_let (fun v3 _ => ?_)
  refine zFp_let (fun v4 ev4 => ?_)
  rw [g.rf] at ev4
  subst ev4
  refine zFp_let (fun v5 ev5 => ?_)
  rw [g.rf] at ev5
  subst ev5
  refine zFp_let (fun v6 _ => ?_)
  refine zFp_let (fun s7 es7 => ?_)
  have gs7 : zFr A σ s7 := by rw [es7]; exact g.w (h0 _)
  refine zFp_let (fun v8 _ => ?_)
  refine zFp_let (fun v9 ev9 => ?_)
  rw [gs7.rf] at ev9
  subst ev9
  refine zFp_let (fun v10 ev10 => ?_)
  rw [gs7.rf] at ev10
  subst ev10
  refine zFp_let (fun v11 _ => ?_)
  refine zFp_let (fun s12 es12 => ?_)
  have gs12 : zFr A σ s12 := by rw [es12]; exact gs7.w (h0 _)
  refine zFp_let (fun v13 _ => ?_)
  refine zFp_let (fun v14 ev14 => ?_)
  rw [gs12.rf] at ev14
  subst ev14
  refine zFp_let (fun v15 ev15 => ?_)
  rw [gs12.rf] at ev15
  subst ev15
  refine zFp_let (fun v16 _ => ?_)
  refine zFp_let (fun s17 es17 => ?_)
  have gs17 : zFr A σ s17 := by rw [es17]; exact gs12.w (h0 _)
  refine zFp_let (fun v18 _ => ?_)
  refine zFp_let (fun v19 ev19 => ?_)
  rw [gs17.rf] at ev19
  subst ev19
  refine zFp_let2 (fun v20 s21 es21 => ?_)
  have gs21 : zFr A σ s21 := (fr_X1_moon gs17 ).of es21
  refine zFp_let (fun s22 es22 => ?_)
  have gs22 : zFr A σ s22 := by rw [es22]; exact gs21.w (h0 _)
  refine zFp_let (fun v23 _ => ?_)
  refine zFp_let (fun s24 es24 => ?_)
  have gs24 : zFr A σ s24 := by rw [es24]; exact gs22.w (h0 _)
  refine zFp_let (fun v25 _ => ?_)
  refine zFp_let (fun v26 ev26 => ?_)
  rw [gs24.rf] at ev26
  subst ev26
  refine zFp_let (fun v27 ev27 => ?_)
  rw [gs24.rf] at ev27
  subst ev27
  refine zFp_let (fun v28 _ => ?_)
  refine zFp_let (fun s29 es29 => ?_)
  have gs29 : zFr A σ s29 := by rw [es29]; exact gs24.w (h0 _)
  refine zFp_let (fun v30 _ => ?_)
  refine zFp_let (fun v31 ev31 => ?_)
  rw [gs29.rf] at ev31
  subst ev31
  refine zFp_let (fun v32 ev32 => ?_)
  rw [gs29.rf] at ev32
  subst ev32
  refine zFp_let (fun v33 _ => ?_)
  refine zFp_let (fun s34 es34 => ?_)
  have gs34 : zFr A σ s34 := by rw [es34]; exact gs29.w (h0 _)
  refine zFp_let (fun v35 _ => ?_)
  refine zFp_let (fun s36 es36 => ?_)
  have gs36 : zFr A σ s36 := by rw [es36]; exact gs34.w (h0 _)
  refine zFp_let (fun v37 _ => ?_)
  refine zFp_let (fun v38 ev38 => ?_)
  rw [gs36.rf] at ev38
  subst ev38
  refine zFp_let (fun v39 ev39 => ?_)
  rw [gs36.rf] at ev39
  subst ev39
  refine zFp_let (fun v40 _ => ?_)
  refine zFp_let (fun s41 es41 => ?_)
  have gs41 : zFr A σ s41 := by rw [es41]; exact gs36.w (h0 _)
  refine zFp_let (fun v42 ev42 => ?_)
  rw [gs41.rf] at ev42
  subst ev42
  refine zFp_let (fun v43 ev43 => ?_)
  rw [gs41.rf] at ev43
  subst ev43
  refine zFp_let2 (fun v44 s45 es45 => ?_)
  have gs45 : zFr A σ s45 := (fr_X0_answer gs41 h1).of es45
  exact gs45
set_option maxRecDepth 100000 in
theorem fr_X5_dried {A : Nat → Nat → Prop} {σ σ0 : zS} {a0 : Nat} {p1 : Int32}  (g : zFr A σ σ0) (h0 : ∀ j, A ((σ.2.2 ((σ.2.2 a0 1).getD 0) 0).getD 0) j) (h1 : ∀ j, A ((σ.2.2 ((σ.2.2 a0 1).getD 0) 1).getD 0) j) : zFp A σ (F_X5_dried a0 p1 σ0) := by
  unfold F_X5_dried
  refine zFp_let (fun v1 _ => ?_)
  refine zFp_let (fun v2 ev2 => ?_)
  rw [g.rf] at ev2
  subst ev2
  refine zFp_let (fun v3 _ => ?_)
  refine zFp_let2 (fun v4 s5 es5 => ?_)
  have gs5 : zFr A σ s5 := (fr_X5_tells g h0 h1).of es5
  refine zFp_let (fun v6 _ => ?_)
  refine zFp_let (fun v7 ev7 => ?_)
  rw [gs5.rf] at ev7
  subst ev7
  refine zFp_let (fun v8 _ => ?_)
  refine zFp_let (fun v9 _ => ?_)
  exact gs5
set_option maxRecDepth 100000 in
theorem fr_X5_run_25 {A : Nat → Nat → Prop} {σ : zS} {a0 : Nat} {p1 : Int32}  (h0 : ∀ j, A ((σ.2.2 ((σ.2.2 a0 1).getD 0) 0).getD 0) j) (h1 : ∀ j, A ((σ.2.2 ((σ.2.2 a0 1).getD 0) 1).getD 0) j) (h2 : ∀ j, A ((σ.2.2 a0 3).getD 0) j) : ∀ (n : Nat) (x11 : Int32) (τ12 : zS), zFr A σ τ12 → zFr A σ (F_X5_run_25 a0 p1 n x11 τ12) := by
  intro n
  induction n with
  | zero => intro x11 τ12 g; exact g
  | succ n ih =>
    intro x11 τ12 g
    rw [F_X5_run_25]
    refine zFr_if (fun _ => ?_) (fun _ => ?_)
    · skip
      refine zFr_let (fun v14 ev14 => ?_)
      rw [g.rf] at ev14
      subst ev14
      refine zFr_let (fun v15 ev15 => ?_)
      rw [g.rf] at ev15
      subst ev15
      refine zFr_let (fun v16 _ => ?_)
      refine zFr_let (fun v17 _ => ?_)
      refine zFr_if (fun _ => ?_) (fun _ => ?_)
      · skip
        refine zFr_let (fun v20 ev20 => ?_)
        rw [g.rf] at ev20
        subst ev20
        refine zFr_let (fun v21 ev21 => ?_)
        rw [g.rf] at ev21
        subst ev21
        refine zFr_let (fun v22 ev22 => ?_)
        rw [g.rf] at ev22
        subst ev22
        refine zFr_let (fun v23 _ => ?_)
        refine zFr_let (fun v24 _ => ?_)
        refine zFr_let (fun v25 ev25 => ?_)
        rw [g.rf] at ev25
        subst ev25
        refine zFr_let (fun v26 _ => ?_)
        refine zFr_let2 (fun v27 s28 es28 => ?_)
        have gs28 : zFr A σ s28 := (fr_X5_dried g h0 h1).of es28
        refine zFr_let (fun v29 _ => ?_)
        refine zFr_let (fun v30 _ => ?_)
        refine zFr_let (fun s31 es31 => ?_)
        have gs31 : zFr A σ s31 := by rw [es31]; exact gs28.w (h2 _)
        refine zFr_let (fun v32 _ => ?_)
        exact ih _ _ gs31
      · skip
        refine zFr_let (fun v19 _ => ?_)
        exact ih _ _ g
    · skip
      exact g
set_option maxRecDepth 100000 in
theorem fr_X5_run {A : Nat → Nat → Prop} {σ σ0 : zS} {a0 : Nat} {p1 : Int32}  (g : zFr A σ σ0) (h0 : ∀ j, A ((σ.2.2 a0 3).getD 0) j) (h1 : ∀ j, A ((σ.2.2 ((σ.2.2 a0 1).getD 0) 0).getD 0) j) (h2 : ∀ j, A ((σ.2.2 ((σ.2.2 a0 1).getD 0) 1).getD 0) j) : zFr A σ (F_X5_run a0 p1 σ0) := by
  unfold F_X5_run
  refine zFr_let (fun v1 ev1 => ?_)
  rw [g.rf] at ev1
  subst ev1
  refine zFr_let (fun v2 _ => ?_)
  refine zFr_let (fun v3 ev3 => ?_)
  rw [g.rf] at ev3
  subst ev3
  refine zFr_let (fun v4 _ => ?_)
  refine zFr_let (fun v5 _ => ?_)
  refine zFr_let (fun s6 es6 => ?_)
  have gs6 : zFr A σ s6 := by rw [es6]; exact g.cp h0
  refine zFr_let (fun v7 ev7 => ?_)
  rw [gs6.rf] at ev7
  subst ev7
  refine zFr_let (fun v8 _ => ?_)
  refine zFr_let (fun v9 _ => ?_)
  refine zFr_let (fun v10 _ => ?_)
  exact fr_X5_run_25  h1 h2 h0 _ _ _ gs6
set_option maxRecDepth 100000 in
theorem fr_X5_rainDown_2 {A : Nat → Nat → Prop} {σ : zS} {a0 : Nat} {p1 : Int32}  (h0 : ∀ j, A ((σ.2.2 ((σ.2.2 a0 1).getD 0) 0).getD 0) j) (h1 : ∀ j, A ((σ.2.2 ((σ.2.2 a0 1).getD 0) 1).getD 0) j) (h2 : ∀ j, A ((σ.2.2 a0 2).getD 0) j) : ∀ (n : Nat) (x2 : Int32) (τ3 : zS), zFr A σ τ3 → zFr A σ (F_X5_rainDown_2 a0 p1 n x2 τ3) := by
  intro n
  induction n with
  | zero => intro x2 τ3 g; exact g
  | succ n ih =>
    intro x2 τ3 g
    rw [F_X5_rainDown_2]
    refine zFr_let (fun v4 ev4 => ?_)
    rw [g.rf] at ev4
    subst ev4
    refine zFr_let (fun v5 _ => ?_)
    refine zFr_if (fun _ => ?_) (fun _ => ?_)
    · skip
      refine zFr_let (fun v7 ev7 => ?_)
      rw [g.rf] at ev7
      subst ev7
      refine zFr_let (fun v8 _ => ?_)
      refine zFr_let (fun v9 _ => ?_)
      refine zFr_let2 (fun v10 s11 es11 => ?_)
      have gs11 : zFr A σ s11 := (fr_X5_tells g h0 h1).of es11
      refine zFr_let (fun v12 _ => ?_)
      refine zFr_let (fun v13 _ => ?_)
      refine zFr_let (fun v14 _ => ?_)
      refine zFr_let (fun v15 _ => ?_)
      refine zFr_let (fun s16 es16 => ?_)
      have gs16 : zFr A σ s16 := by rw [es16]; exact gs11.w (h2 _)
      refine zFr_let (fun v17 _ => ?_)
      exact ih _ _ gs16
    · skip
      exact g
set_option maxRecDepth 100000 in
theorem fr_X5_rainDown {A : Nat → Nat → Prop} {σ σ0 : zS} {a0 : Nat} {p1 : Int32}  (g : zFr A σ σ0) (h0 : ∀ j, A ((σ.2.2 ((σ.2.2 a0 1).getD 0) 0).getD 0) j) (h1 : ∀ j, A ((σ.2.2 ((σ.2.2 a0 1).getD 0) 1).getD 0) j) (h2 : ∀ j, A ((σ.2.2 a0 2).getD 0) j) : zFr A σ (F_X5_rainDown a0 p1 σ0) := by
  unfold F_X5_rainDown
  refine zFr_let (fun v1 _ => ?_)
  exact fr_X5_rainDown_2  h0 h1 h2 _ _ _ g
set_option maxRecDepth 100000 in
theorem fr_X5_fall {A : Nat → Nat → Prop} {σ σ0 : zS} {a0 : Nat} {p1 : Int32}  (g : zFr A σ σ0) (h0 : ∀ j, A ((σ.2.2 ((σ.2.2 a0 1).getD 0) 0).getD 0) j) (h1 : ∀ j, A ((σ.2.2 ((σ.2.2 a0 1).getD 0) 1).getD 0) j) (h2 : ∀ j, A ((σ.2.2 a0 2).getD 0) j) (h3 : ∀ j, A ((σ.2.2 a0 3).getD 0) j) : zFr A σ (F_X5_fall a0 p1 σ0) := by
  unfold F_X5_fall
  refine zFr_let (fun s1 es1 => ?_)
  have gs1 : zFr A σ s1 := by rw [es1]; exact fr_X5_rainDown g h0 h1 h2
  refine zFr_let (fun v2 ev2 => ?_)
  rw [gs1.rf] at ev2
  subst ev2
  refine zFr_let (fun v3 _ => ?_)
  refine zFr_let (fun s4 es4 => ?_)
  have gs4 : zFr A σ s4 := by rw [es4]; exact fr_X5_run gs1 h3 h0 h1
  exact gs4
set_option maxRecDepth 100000 in
theorem fr_X5_claimOf {A : Nat → Nat → Prop} {σ σ0 : zS} {a0 : Nat} {p1 : Int32} {p2 : Int32}  (g : zFr A σ σ0) (h0 : ∀ j, A ((σ.2.2 ((σ.2.2 a0 1).getD 0) 0).getD 0) j) (h1 : ∀ j, A ((σ.2.2 ((σ.2.2 a0 1).getD 0) 1).getD 0) j) : zFp A σ (F_X5_claimOf a0 p1 p2 σ0) := by
  unfold F_X5_claimOf
  refine zFp_let (fun v1 _ => ?_)
  refine zFp_let (fun v2 _ => ?_)
  refine zFp_let (fun v3 ev3 => ?_)
  rw [g.rf] at ev3
  subst ev3
  refine zFp_let (fun v4 _ => ?_)
  refine zFp_let2 (fun v5 s6 es6 => ?_)
  have gs6 : zFr A σ s6 := (fr_X5_tells g h0 h1).of es6
  refine zFp_let (fun v7 _ => ?_)
  refine zFp_let (fun v8 _ => ?_)
  refine zFp_let (fun v9 _ => ?_)
  exact gs6
set_option maxRecDepth 100000 in
theorem fr_X5_weigh_2 {A : Nat → Nat → Prop} {σ : zS} {a0 : Nat} {p1 : Int32}  (h0 : ∀ j, A ((σ.2.2 a0 4).getD 0) j) (h1 : ∀ j, A ((σ.2.2 ((σ.2.2 a0 1).getD 0) 0).getD 0) j) (h2 : ∀ j, A ((σ.2.2 ((σ.2.2 a0 1).getD 0) 1).getD 0) j) : ∀ (n : Nat) (x2 : Int32) (τ3 : zS), zFr A σ τ3 → zFr A σ (F_X5_weigh_2 a0 p1 n x2 τ3) := by
  intro n
  induction n with
  | zero => intro x2 τ3 g; exact g
  | succ n ih =>
    intro x2 τ3 g
    rw [F_X5_weigh_2]
    refine zFr_let (fun v4 ev4 => ?_)
    rw [g.rf] at ev4
    subst ev4
    refine zFr_let (fun v5 _ => ?_)
    refine zFr_if (fun _ => ?_) (fun _ => ?_)
    · skip
      refine zFr_let (fun v7 ev7 => ?_)
      rw [g.rf] at ev7
      subst ev7
      refine zFr_let (fun v8 ev8 => ?_)
      rw [g.rf] at ev8
      subst ev8
      refine zFr_let2 (fun v9 s10 es10 => ?_)
      have gs10 : zFr A σ s10 := (fr_X6_isSource g ).of es10
      refine zFr_if (fun _ => ?_) (fun _ => ?_)
      · skip
        refine zFr_let (fun v12 _ => ?_)
        refine zFr_let (fun s13 es13 => ?_)
        have gs13 : zFr A σ s13 := by rw [es13]; exact gs10.w (h0 _)
        refine zFr_let (fun v14 _ => ?_)
        exact ih _ _ gs13
      · skip
        refine zFr_let2 (fun v15 s16 es16 => ?_)
        have gs16 : zFr A σ s16 := (fr_X5_claimOf gs10 h1 h2).of es16
        refine zFr_let (fun s17 es17 => ?_)
        have gs17 : zFr A σ s17 := by rw [es17]; exact gs16.w (h0 _)
        refine zFr_let (fun v18 _ => ?_)
        exact ih _ _ gs17
    · skip
      exact g
set_option maxRecDepth 100000 in
theorem fr_X5_weigh {A : Nat → Nat → Prop} {σ σ0 : zS} {a0 : Nat} {p1 : Int32}  (g : zFr A σ σ0) (h0 : ∀ j, A ((σ.2.2 a0 4).getD 0) j) (h1 : ∀ j, A ((σ.2.2 ((σ.2.2 a0 1).getD 0) 0).getD 0) j) (h2 : ∀ j, A ((σ.2.2 ((σ.2.2 a0 1).getD 0) 1).getD 0) j) : zFr A σ (F_X5_weigh a0 p1 σ0) := by
  unfold F_X5_weigh
  refine zFr_let (fun v1 _ => ?_)
  exact fr_X5_weigh_2  h0 h1 h2 _ _ _ g
set_option maxRecDepth 100000 in
theorem fr_X5_greatestClaim_5 {A : Nat → Nat → Prop} {σ : zS} {a0 : Nat} {p1 : Int32}   : ∀ (n : Nat) (x3 : Int32) (x4 : Int32) (τ5 : zS), zFr A σ τ5 → zFp A σ (F_X5_greatestClaim_5 a0 p1 n x3 x4 τ5) := by
  intro n
  induction n with
  | zero => intro x3 x4 τ5 g; exact g
  | succ n ih =>
    intro x3 x4 τ5 g
    rw [F_X5_greatestClaim_5]
    refine zFp_let (fun v6 ev6 => ?_)
    rw [g.rf] at ev6
    subst ev6
    refine zFp_let (fun v7 _ => ?_)
    refine zFp_if (fun _ => ?_) (fun _ => ?_)
    · skip
      refine zFp_if (fun _ => ?_) (fun _ => ?_)
      · skip
        refine zFp_let (fun v10 _ => ?_)
        exact ih _ _ _ g
      · skip
        refine zFp_let (fun v11 ev11 => ?_)
        rw [g.rf] at ev11
        subst ev11
        refine zFp_let2 (fun v12 s13 es13 => ?_)
        have gs13 : zFr A σ s13 := (fr_X6_isSource g ).of es13
        refine zFp_if (fun _ => ?_) (fun _ => ?_)
        · skip
          refine zFp_let (fun v15 _ => ?_)
          exact ih _ _ _ gs13
        · skip
          refine zFp_if (fun _ => ?_) (fun _ => ?_)
          · skip
            refine zFp_let (fun v17 _ => ?_)
            exact ih _ _ _ gs13
          · skip
            refine zFp_let (fun v18 ev18 => ?_)
            rw [gs13.rf] at ev18
            subst ev18
            refine zFp_let (fun v19 _ => ?_)
            refine zFp_let (fun v20 ev20 => ?_)
            rw [gs13.rf] at ev20
            subst ev20
            refine zFp_let (fun v21 _ => ?_)
            refine zFp_if (fun _ => ?_) (fun _ => ?_)
            · skip
              refine zFp_let (fun v26 _ => ?_)
              exact ih _ _ _ gs13
            · skip
              refine zFp_let (fun v25 _ => ?_)
              exact ih _ _ _ gs13
    · skip
      exact g
set_option maxRecDepth 100000 in
theorem fr_X5_greatestClaim {A : Nat → Nat → Prop} {σ σ0 : zS} {a0 : Nat} {p1 : Int32}  (g : zFr A σ σ0)  : zFp A σ (F_X5_greatestClaim a0 p1 σ0) := by
  unfold F_X5_greatestClaim
  refine zFp_let (fun v1 _ => ?_)
  refine zFp_let (fun v2 _ => ?_)
  exact fr_X5_greatestClaim_5   _ _ _ _ g
set_option maxRecDepth 100000 in
theorem fr_X5_rankOf_4 {A : Nat → Nat → Prop} {σ : zS} {a0 : Nat} {p1 : Int32}   : ∀ (n : Nat) (x3 : Int32) (x4 : Int32) (τ5 : zS), zFr A σ τ5 → zFp A σ (F_X5_rankOf_4 a0 p1 n x3 x4 τ5) := by
  intro n
  induction n with
  | zero => intro x3 x4 τ5 g; exact g
  | succ n ih =>
    intro x3 x4 τ5 g
    rw [F_X5_rankOf_4]
    refine zFp_let (fun v6 ev6 => ?_)
    rw [g.rf] at ev6
    subst ev6
    refine zFp_let (fun v7 _ => ?_)
    refine zFp_if (fun _ => ?_) (fun _ => ?_)
    · skip
      refine zFp_let (fun v9 ev9 => ?_)
      rw [g.rf] at ev9
      subst ev9
      refine zFp_let (fun v10 _ => ?_)
      refine zFp_let (fun v11 ev11 => ?_)
      rw [g.rf] at ev11
      subst ev11
      refine zFp_let (fun v12 _ => ?_)
      refine zFp_if (fun _ => ?_) (fun _ => ?_)
      · skip
        refine zFp_let (fun v16 _ => ?_)
        refine zFp_let (fun v17 _ => ?_)
        exact ih _ _ _ g
      · skip
        refine zFp_let (fun v18 ev18 => ?_)
        rw [g.rf] at ev18
        subst ev18
        refine zFp_let (fun v19 _ => ?_)
        refine zFp_let (fun v20 ev20 => ?_)
        rw [g.rf] at ev20
        subst ev20
        refine zFp_let (fun v21 _ => ?_)
        refine zFp_if (fun _ => ?_) (fun _ => ?_)
        · skip
          refine zFp_if (fun _ => ?_) (fun _ => ?_)
          · skip
            refine zFp_let (fun v26 _ => ?_)
            refine zFp_let (fun v27 _ => ?_)
            exact ih _ _ _ g
          · skip
            refine zFp_let (fun v25 _ => ?_)
            exact ih _ _ _ g
        · skip
          refine zFp_let (fun v23 _ => ?_)
          exact ih _ _ _ g
    · skip
      exact g
set_option maxRecDepth 100000 in
theorem fr_X5_rankOf {A : Nat → Nat → Prop} {σ σ0 : zS} {a0 : Nat} {p1 : Int32}  (g : zFr A σ σ0)  : zFp A σ (F_X5_rankOf a0 p1 σ0) := by
  unfold F_X5_rankOf
  refine zFp_let (fun v1 _ => ?_)
  refine zFp_let (fun v2 _ => ?_)
  exact fr_X5_rankOf_4   _ _ _ _ g
set_option maxRecDepth 100000 in
theorem fr_X5_winnerBy {A : Nat → Nat → Prop} {σ σ0 : zS} {a0 : Nat} {p1 : Int32}  (g : zFr A σ σ0) (h0 : ∀ j, A ((σ.2.2 a0 4).getD 0) j) (h1 : ∀ j, A ((σ.2.2 ((σ.2.2 a0 1).getD 0) 0).getD 0) j) (h2 : ∀ j, A ((σ.2.2 ((σ.2.2 a0 1).getD 0) 1).getD 0) j) : zFp A σ (F_X5_winnerBy a0 p1 σ0) := by
  unfold F_X5_winnerBy
  refine zFp_let (fun s1 es1 => ?_)
  have gs1 : zFr A σ s1 := by rw [es1]; exact fr_X5_weigh g h0 h1 h2
  refine zFp_let (fun v2 _ => ?_)
  refine zFp_let2 (fun v3 s4 es4 => ?_)
  have gs4 : zFr A σ s4 := (fr_X5_greatestClaim gs1 ).of es4
  exact gs4
set_option maxRecDepth 100000 in
theorem fr_X5_rainsOf_4 {A : Nat → Nat → Prop} {σ : zS} {a0 : Nat} {p1 : Int32}   : ∀ (n : Nat) (x3 : Int32) (x4 : Int32) (τ5 : zS), zFr A σ τ5 → zFp A σ (F_X5_rainsOf_4 a0 p1 n x3 x4 τ5) := by
  intro n
  induction n with
  | zero => intro x3 x4 τ5 g; exact g
  | succ n ih =>
    intro x3 x4 τ5 g
    rw [F_X5_rainsOf_4]
    refine zFp_let (fun v6 ev6 => ?_)
    rw [g.rf] at ev6
    subst ev6
    refine zFp_let (fun v7 _ => ?_)
    refine zFp_if (fun _ => ?_) (fun _ => ?_)
    · skip
      refine zFp_let (fun v9 _ => ?_)
      refine zFp_if (fun _ => ?_) (fun _ => ?_)
      · skip
        refine zFp_let (fun v11 _ => ?_)
        exact ih _ _ _ g
      · skip
        refine zFp_let (fun v12 ev12 => ?_)
        rw [g.rf] at ev12
        subst ev12
        refine zFp_let (fun v13 _ => ?_)
        refine zFp_let (fun v14 _ => ?_)
        refine zFp_let (fun v15 _ => ?_)
        exact ih _ _ _ g
    · skip
      exact g
set_option maxRecDepth 100000 in
theorem fr_X5_rainsOf {A : Nat → Nat → Prop} {σ σ0 : zS} {a0 : Nat} {p1 : Int32}  (g : zFr A σ σ0)  : zFp A σ (F_X5_rainsOf a0 p1 σ0) := by
  unfold F_X5_rainsOf
  refine zFp_let (fun v1 _ => ?_)
  refine zFp_let (fun v2 _ => ?_)
  exact fr_X5_rainsOf_4   _ _ _ _ g
set_option maxRecDepth 100000 in
theorem fr_X5_endMonth {A : Nat → Nat → Prop} {σ σ0 : zS} {a0 : Nat}  (g : zFr A σ σ0) (h0 : ∀ j, A ((σ.2.2 a0 4).getD 0) j) (h1 : ∀ j, A ((σ.2.2 ((σ.2.2 a0 1).getD 0) 0).getD 0) j) (h2 : ∀ j, A ((σ.2.2 ((σ.2.2 a0 1).getD 0) 1).getD 0) j) (h3 : ∀ j, A ((σ.2.2 ((σ.2.2 a0 6).getD 0) 2).getD 0) j) (h4 : ∀ j, A ((σ.2.2 ((σ.2.2 a0 6).getD 0) 1).getD 0) j) (h5 : A ((σ.2.2 a0 6).getD 0) 4) : zFr A σ (F_X5_endMonth a0 σ0) := by
  unfold F_X5_endMonth
  refine zFr_let (fun v1 ev1 => ?_)
  rw [g.rf] at ev1
  subst ev1
  refine zFr_let (fun v2 _ => ?_)
  refine zFr_let2 (fun v3 s4 es4 => ?_)
  have gs4 : zFr A σ s4 := (fr_X5_winnerBy g h0 h1 h2).of es4
  refine zFr_if (fun _ => ?_) (fun _ => ?_)
  · skip
    refine zFr_let (fun v11 ev11 => ?_)
    rw [gs4.rf] at ev11
    subst ev11
    refine zFr_let (fun v12 ev12 => ?_)
    rw [gs4.rf] at ev12
    subst ev12
    refine zFr_let (fun v13 _ => ?_)
    refine zFr_let (fun s14 es14 => ?_)
    have gs14 : zFr A σ s14 := by rw [es14]; exact fr_X1_pay gs4 h3 h4
    refine zFr_let (fun v15 ev15 => ?_)
    rw [gs14.rf] at ev15
    subst ev15
    refine zFr_let (fun v16 _ => ?_)
    refine zFr_let (fun v17 _ => ?_)
    refine zFr_let (fun v18 _ => ?_)
    refine zFr_let (fun s19 es19 => ?_)
    have gs19 : zFr A σ s19 := by rw [es19]; exact gs14.w h5
    exact gs19
  · skip
    refine zFr_let (fun v6 ev6 => ?_)
    rw [gs4.rf] at ev6
    subst ev6
    refine zFr_let (fun v7 _ => ?_)
    refine zFr_let (fun v8 _ => ?_)
    refine zFr_let (fun v9 _ => ?_)
    refine zFr_let (fun s10 es10 => ?_)
    have gs10 : zFr A σ s10 := by rw [es10]; exact gs4.w h5
    exact gs10
set_option maxRecDepth 100000 in
theorem fr_X5_goOn {A : Nat → Nat → Prop} {σ σ0 : zS} {a0 : Nat}  (g : zFr A σ σ0) (h0 : ∀ j, A ((σ.2.2 a0 4).getD 0) j) (h1 : ∀ j, A ((σ.2.2 ((σ.2.2 a0 1).getD 0) 0).getD 0) j) (h2 : ∀ j, A ((σ.2.2 ((σ.2.2 a0 1).getD 0) 1).getD 0) j) (h3 : ∀ j, A ((σ.2.2 ((σ.2.2 a0 6).getD 0) 2).getD 0) j) (h4 : ∀ j, A ((σ.2.2 ((σ.2.2 a0 6).getD 0) 1).getD 0) j) (h5 : A ((σ.2.2 a0 6).getD 0) 4) (h6 : ∀ j, A ((σ.2.2 a0 2).getD 0) j) (h7 : ∀ j, A ((σ.2.2 a0 3).getD 0) j) : zFr A σ (F_X5_goOn a0 σ0) := by
  unfold F_X5_goOn
  refine zFr_let (fun s1 es1 => ?_)
  have gs1 : zFr A σ s1 := by rw [es1]; exact fr_X5_endMonth g h0 h1 h2 h3 h4 h5
  refine zFr_let (fun v2 _ => ?_)
  refine zFr_let (fun s3 es3 => ?_)
  have gs3 : zFr A σ s3 := by rw [es3]; exact fr_X5_fall gs1 h1 h2 h6 h7
  exact gs3
set_option maxRecDepth 100000 in
theorem fr_X5_goThrough_9 {A : Nat → Nat → Prop} {σ : zS} {a0 : Nat} {p1 : Nat} {p2 : Nat} {p3 : Int32} {p4 : Int32}  (h0 : ∀ j, A ((σ.2.2 ((σ.2.2 a0 1).getD 0) 0).getD 0) j) (h1 : ∀ j, A ((σ.2.2 ((σ.2.2 a0 1).getD 0) 1).getD 0) j) (h2 : ∀ j, A ((σ.2.2 a0 2).getD 0) j) (h3 : ∀ j, A ((σ.2.2 a0 3).getD 0) j) (h4 : ∀ j, A ((σ.2.2 a0 4).getD 0) j) (h5 : ∀ j, A ((σ.2.2 ((σ.2.2 a0 6).getD 0) 2).getD 0) j) (h6 : ∀ j, A ((σ.2.2 ((σ.2.2 a0 6).getD 0) 1).getD 0) j) (h7 : A ((σ.2.2 a0 6).getD 0) 4) : ∀ (n : Nat) (x3 : Int32) (τ4 : zS), zFr A σ τ4 → zFr A σ (F_X5_goThrough_9 a0 p1 p2 p3 p4 n x3 τ4) := by
  intro n
  induction n with
  | zero => intro x3 τ4 g; exact g
  | succ n ih =>
    intro x3 τ4 g
    rw [F_X5_goThrough_9]
    refine zFr_if (fun _ => ?_) (fun _ => ?_)
    · skip
      refine zFr_let (fun v7 _ => ?_)
      refine zFr_let2 (fun v8 s9 es9 => ?_)
      have gs9 : zFr A σ s9 := (fr_X9_isStorm g ).of es9
      refine zFr_if (fun _ => ?_) (fun _ => ?_)
      · skip
        refine zFr_let (fun v11 _ => ?_)
        refine zFr_let (fun s12 es12 => ?_)
        have gs12 : zFr A σ s12 := by rw [es12]; exact fr_X5_fall gs9 h0 h1 h2 h3
        refine zFr_let (fun s13 es13 => ?_)
        have gs13 : zFr A σ s13 := by rw [es13]; exact fr_X5_endMonth gs12 h4 h0 h1 h5 h6 h7
        refine zFr_let (fun v14 _ => ?_)
        exact ih _ _ gs13
      · skip
        refine zFr_let (fun v15 _ => ?_)
        refine zFr_let (fun s16 es16 => ?_)
        have gs16 : zFr A σ s16 := by rw [es16]; exact fr_X5_fall gs9 h0 h1 h2 h3
        refine zFr_let (fun s17 es17 => ?_)
        have gs17 : zFr A σ s17 := by rw [es17]; exact fr_X5_endMonth gs16 h4 h0 h1 h5 h6 h7
        refine zFr_let (fun v18 _ => ?_)
        exact ih _ _ gs17
    · skip
      exact g
set_option maxRecDepth 100000 in
theorem fr_X2_add {A : Nat → Nat → Prop} {σ σ0 : zS} {a0 : Nat} {p1 : Int32} {p2 : Int32} {p3 : Int32} {p4 : Int32}  (g : zFr A σ σ0) (h0 : ∀ j, A ((σ.2.2 a0 0).getD 0) j) (h1 : ∀ j, A ((σ.2.2 a0 1).getD 0) j) (h2 : ∀ j, A ((σ.2.2 a0 2).getD 0) j) (h3 : ∀ j, A ((σ.2.2 a0 3).getD 0) j) (h4 : A a0 4) : zFp A σ (F_X2_add a0 p1 p2 p3 p4 σ0) := by
  unfold F_X2_add
  refine zFp_let (fun v1 _ => ?_)
  refine zFp_let (fun v2 _ => ?_)
  refine zFp_if (fun _ => ?_) (fun _ => ?_)
  · skip
    refine zFp_let (fun v4 ev4 => ?_)
    rw [g.rf] at ev4
    subst ev4
    refine zFp_let (fun v5 _ => ?_)
    refine zFp_let (fun s6 es6 => ?_)
    have gs6 : zFr A σ s6 := by rw [es6]; exact g.w (h0 _)
    refine zFp_let (fun v8 ev8 => ?_)
    rw [gs6.rf] at ev8
    subst ev8
    refine zFp_let (fun v9 _ => ?_)
    refine zFp_let (fun s10 es10 => ?_)
    have gs10 : zFr A σ s10 := by rw [es10]; exact gs6.w (h1 _)
    refine zFp_let (fun v12 ev12 => ?_)
    rw [gs10.rf] at ev12
    subst ev12
    refine zFp_let (fun v13 _ => ?_)
    refine zFp_let (fun s14 es14 => ?_)
    have gs14 : zFr A σ s14 := by rw [es14]; exact gs10.w (h2 _)
    refine zFp_let (fun v16 ev16 => ?_)
    rw [gs14.rf] at ev16
    subst ev16
    refine zFp_let (fun v17 _ => ?_)
    refine zFp_let (fun s18 es18 => ?_)
    have gs18 : zFr A σ s18 := by rw [es18]; exact gs14.w (h3 _)
    refine zFp_let (fun v20 _ => ?_)
    refine zFp_let (fun v21 _ => ?_)
    refine zFp_let (fun v22 _ => ?_)
    refine zFp_let (fun s23 es23 => ?_)
    have gs23 : zFr A σ s23 := by rw [es23]; exact gs18.w h4
    refine zFp_let (fun v26 _ => ?_)
    refine zFp_let (fun v27 _ => ?_)
    refine zFp_let (fun v28 _ => ?_)
    exact gs23
  · skip
    refine zFp_let (fun v29 _ => ?_)
    exact g
set_option maxRecDepth 100000 in
theorem fr_X2_isSo_6 {A : Nat → Nat → Prop} {σ : zS} {a0 : Nat} {p1 : Nat} {p2 : Int32} {p3 : Int32}   : ∀ (n : Nat) (x3 : Int32) (x4 : Int32) (τ5 : zS), zFr A σ τ5 → zFp A σ (F_X2_isSo_6 a0 p1 p2 p3 n x3 x4 τ5) := by
  intro n
  induction n with
  | zero => intro x3 x4 τ5 g; exact g
  | succ n ih =>
    intro x3 x4 τ5 g
    rw [F_X2_isSo_6]
    refine zFp_if (fun _ => ?_) (fun _ => ?_)
    · skip
      refine zFp_let (fun v8 _ => ?_)
      refine zFp_if (fun _ => ?_) (fun _ => ?_)
      · skip
        refine zFp_let (fun v10 ev10 => ?_)
        rw [g.rf] at ev10
        subst ev10
        refine zFp_let (fun v11 _ => ?_)
        refine zFp_let (fun v12 ev12 => ?_)
        rw [g.rf] at ev12
        subst ev12
        refine zFp_let (fun v13 ev13 => ?_)
        rw [g.rf] at ev13
        subst ev13
        refine zFp_let (fun v14 _ => ?_)
        refine zFp_let (fun v15 _ => ?_)
        refine zFp_let (fun v16 _ => ?_)
        refine zFp_let (fun v17 ev17 => ?_)
        rw [g.rf] at ev17
        subst ev17
        refine zFp_let (fun v18 _ => ?_)
        refine zFp_let (fun v19 ev19 => ?_)
        rw [g.rf] at ev19
        subst ev19
        refine zFp_let (fun v20 _ => ?_)
        refine zFp_let (fun v21 _ => ?_)
        refine zFp_if (fun _ => ?_) (fun _ => ?_)
        · skip
          refine zFp_let (fun v23 _ => ?_)
          refine zFp_if (fun _ => ?_) (fun _ => ?_)
          · skip
            refine zFp_let (fun v25 _ => ?_)
            refine zFp_let (fun v26 _ => ?_)
            exact ih _ _ _ g
          · skip
            refine zFp_let (fun v27 ev27 => ?_)
            rw [g.rf] at ev27
            subst ev27
            refine zFp_let (fun v28 _ => ?_)
            refine zFp_if (fun _ => ?_) (fun _ => ?_)
            · skip
              refine zFp_let (fun v32 _ => ?_)
              refine zFp_let (fun v33 _ => ?_)
              exact ih _ _ _ g
            · skip
              refine zFp_let (fun v30 _ => ?_)
              refine zFp_let (fun v31 _ => ?_)
              exact ih _ _ _ g
        · skip
          refine zFp_let (fun v34 ev34 => ?_)
          rw [g.rf] at ev34
          subst ev34
          refine zFp_let (fun v35 _ => ?_)
          refine zFp_let (fun v36 ev36 => ?_)
          rw [g.rf] at ev36
          subst ev36
          refine zFp_let (fun v37 _ => ?_)
          refine zFp_let (fun v38 _ => ?_)
          refine zFp_if (fun _ => ?_) (fun _ => ?_)
          · skip
            refine zFp_let (fun v40 _ => ?_)
            refine zFp_if (fun _ => ?_) (fun _ => ?_)
            · skip
              refine zFp_let (fun v42 _ => ?_)
              refine zFp_let (fun v43 _ => ?_)
              exact ih _ _ _ g
            · skip
              refine zFp_let (fun v44 ev44 => ?_)
              rw [g.rf] at ev44
              subst ev44
              refine zFp_let (fun v45 _ => ?_)
              refine zFp_if (fun _ => ?_) (fun _ => ?_)
              · skip
                refine zFp_let (fun v49 _ => ?_)
                refine zFp_let (fun v50 _ => ?_)
                exact ih _ _ _ g
              · skip
                refine zFp_let (fun v47 _ => ?_)
                refine zFp_let (fun v48 _ => ?_)
                exact ih _ _ _ g
          · skip
            refine zFp_let (fun v51 _ => ?_)
            refine zFp_if (fun _ => ?_) (fun _ => ?_)
            · skip
              refine zFp_let (fun v53 _ => ?_)
              refine zFp_let (fun v54 _ => ?_)
              exact ih _ _ _ g
            · skip
              refine zFp_let (fun v55 ev55 => ?_)
              rw [g.rf] at ev55
              subst ev55
              refine zFp_let (fun v56 _ => ?_)
              refine zFp_if (fun _ => ?_) (fun _ => ?_)
              · skip
                refine zFp_let (fun v60 _ => ?_)
                refine zFp_let (fun v61 _ => ?_)
                exact ih _ _ _ g
              · skip
                refine zFp_let (fun v58 _ => ?_)
                refine zFp_let (fun v59 _ => ?_)
                exact ih _ _ _ g
      · skip
        exact g
    · skip
      exact g
set_option maxRecDepth 100000 in
theorem fr_X2_isSo {A : Nat → Nat → Prop} {σ σ0 : zS} {a0 : Nat} {p1 : Nat} {p2 : Int32} {p3 : Int32}  (g : zFr A σ σ0)  : zFp A σ (F_X2_isSo a0 p1 p2 p3 σ0) := by
  unfold F_X2_isSo
  refine zFp_let (fun v1 _ => ?_)
  refine zFp_let (fun v2 _ => ?_)
  exact fr_X2_isSo_6   _ _ _ _ g
set_option maxRecDepth 100000 in
theorem fr_X2_left_5 {A : Nat → Nat → Prop} {σ : zS} {a0 : Nat} {p1 : Nat} {p2 : Int32}   : ∀ (n : Nat) (x3 : Int32) (x4 : Int32) (τ5 : zS), zFr A σ τ5 → zFp A σ (F_X2_left_5 a0 p1 p2 n x3 x4 τ5) := by
  intro n
  induction n with
  | zero => intro x3 x4 τ5 g; exact g
  | succ n ih =>
    intro x3 x4 τ5 g
    rw [F_X2_left_5]
    refine zFp_let (fun v6 _ => ?_)
    refine zFp_if (fun _ => ?_) (fun _ => ?_)
    · skip
      refine zFp_let2 (fun v8 s9 es9 => ?_)
      have gs9 : zFr A σ s9 := (fr_X6_isSource g ).of es9
      refine zFp_if (fun _ => ?_) (fun _ => ?_)
      · skip
        refine zFp_let (fun v11 _ => ?_)
        exact ih _ _ _ gs9
      · skip
        refine zFp_let2 (fun v12 s13 es13 => ?_)
        have gs13 : zFr A σ s13 := (fr_X2_isSo gs9 ).of es13
        refine zFp_if (fun _ => ?_) (fun _ => ?_)
        · skip
          refine zFp_let (fun v15 _ => ?_)
          exact ih _ _ _ gs13
        · skip
          refine zFp_let (fun v16 _ => ?_)
          refine zFp_let (fun v17 _ => ?_)
          refine zFp_let (fun v18 _ => ?_)
          exact ih _ _ _ gs13
    · skip
      exact g
set_option maxRecDepth 100000 in
theorem fr_X2_left {A : Nat → Nat → Prop} {σ σ0 : zS} {a0 : Nat} {p1 : Nat} {p2 : Int32}  (g : zFr A σ σ0)  : zFp A σ (F_X2_left a0 p1 p2 σ0) := by
  unfold F_X2_left
  refine zFp_let (fun v1 _ => ?_)
  refine zFp_let (fun v2 _ => ?_)
  exact fr_X2_left_5   _ _ _ _ g
set_option maxRecDepth 100000 in
theorem fr_X7_append {A : Nat → Nat → Prop} {σ σ0 : zS} {a0 : Nat} {p1 : Int32}  (g : zFr A σ σ0) (h0 : ∀ j, A ((σ.2.2 a0 0).getD 0) j) (h1 : A a0 1) : zFr A σ (F_X7_append a0 p1 σ0) := by
  unfold F_X7_append
  refine zFr_let (fun v1 _ => ?_)
  refine zFr_if (fun _ => ?_) (fun _ => ?_)
  · skip
    exact g
  · skip
    refine zFr_let (fun v3 _ => ?_)
    refine zFr_let (fun v4 ev4 => ?_)
    rw [g.rf] at ev4
    subst ev4
    refine zFr_let (fun v5 _ => ?_)
    refine zFr_if (fun _ => ?_) (fun _ => ?_)
    · skip
      refine zFr_let (fun v27 ev27 => ?_)
      rw [g.rf] at ev27
      subst ev27
      refine zFr_let (fun v28 _ => ?_)
      refine zFr_let (fun v29 _ => ?_)
      refine zFr_let (fun v30 _ => ?_)
      refine zFr_let (fun s31 es31 => ?_)
      have gs31 : zFr A σ s31 := by rw [es31]; exact g.w (h0 _)
      refine zFr_let (fun v33 _ => ?_)
      refine zFr_let (fun v34 _ => ?_)
      refine zFr_let (fun v35 _ => ?_)
      refine zFr_let (fun s36 es36 => ?_)
      have gs36 : zFr A σ s36 := by rw [es36]; exact gs31.w h1
      refine zFr_let (fun v37 _ => ?_)
      refine zFr_if (fun _ => ?_) (fun _ => ?_)
      · skip
        exact gs36
      · skip
        refine zFr_let (fun v39 _ => ?_)
        refine zFr_let (fun v40 ev40 => ?_)
        rw [gs36.rf] at ev40
        subst ev40
        refine zFr_let (fun v41 _ => ?_)
        refine zFr_if (fun _ => ?_) (fun _ => ?_)
        · skip
          refine zFr_let (fun v57 ev57 => ?_)
          rw [gs36.rf] at ev57
          subst ev57
          refine zFr_let (fun v58 _ => ?_)
          refine zFr_let (fun v59 _ => ?_)
          refine zFr_let (fun v60 _ => ?_)
          refine zFr_let (fun s61 es61 => ?_)
          have gs61 : zFr A σ s61 := by rw [es61]; exact gs36.w (h0 _)
          refine zFr_let (fun v63 _ => ?_)
          refine zFr_let (fun v64 _ => ?_)
          refine zFr_let (fun v65 _ => ?_)
          refine zFr_let (fun s66 es66 => ?_)
          have gs66 : zFr A σ s66 := by rw [es66]; exact gs61.w h1
          refine zFr_let (fun v67 _ => ?_)
          refine zFr_if (fun _ => ?_) (fun _ => ?_)
          · skip
            exact gs66
          · skip
            refine zFr_let (fun v69 _ => ?_)
            refine zFr_let (fun v70 ev70 => ?_)
            rw [gs66.rf] at ev70
            subst ev70
            refine zFr_let (fun v71 _ => ?_)
            refine zFr_if (fun _ => ?_) (fun _ => ?_)
            · skip
              refine zFr_let (fun v81 ev81 => ?_)
              rw [gs66.rf] at ev81
              subst ev81
              refine zFr_let (fun v82 _ => ?_)
              refine zFr_let (fun v83 _ => ?_)
              refine zFr_let (fun v84 _ => ?_)
              refine zFr_let (fun s85 es85 => ?_)
              have gs85 : zFr A σ s85 := by rw [es85]; exact gs66.w (h0 _)
              refine zFr_let (fun v87 _ => ?_)
              refine zFr_let (fun v88 _ => ?_)
              refine zFr_let (fun v89 _ => ?_)
              refine zFr_let (fun s90 es90 => ?_)
              have gs90 : zFr A σ s90 := by rw [es90]; exact gs85.w h1
              refine zFr_let (fun v91 _ => ?_)
              refine zFr_if (fun _ => ?_) (fun _ => ?_)
              · skip
                exact gs90
              · skip
                refine zFr_let (fun v93 _ => ?_)
                refine zFr_let (fun v94 ev94 => ?_)
                rw [gs90.rf] at ev94
                subst ev94
                refine zFr_let (fun v95 _ => ?_)
                refine zFr_if (fun _ => ?_) (fun _ => ?_)
                · skip
                  refine zFr_let (fun v99 ev99 => ?_)
                  rw [gs90.rf] at ev99
                  subst ev99
                  refine zFr_let (fun v100 _ => ?_)
                  refine zFr_let (fun v101 _ => ?_)
                  refine zFr_let (fun v102 _ => ?_)
                  refine zFr_let (fun s103 es103 => ?_)
                  have gs103 : zFr A σ s103 := by rw [es103]; exact gs90.w (h0 _)
                  refine zFr_let (fun v105 _ => ?_)
                  refine zFr_let (fun v106 _ => ?_)
                  refine zFr_let (fun v107 _ => ?_)
                  refine zFr_let (fun s108 es108 => ?_)
                  have gs108 : zFr A σ s108 := by rw [es108]; exact gs103.w h1
                  refine zFr_let (fun v109 _ => ?_)
                  refine zFr_if (fun _ => ?_) (fun _ => ?_)
                  · skip
                    exact gs108
                  · skip
                    exact gs108
                · skip
                  refine zFr_let (fun v97 _ => ?_)
                  refine zFr_if (fun _ => ?_) (fun _ => ?_)
                  · skip
                    exact gs90
                  · skip
                    exact gs90
            · skip
              refine zFr_let (fun v73 _ => ?_)
              refine zFr_if (fun _ => ?_) (fun _ => ?_)
              · skip
                exact gs66
              · skip
                refine zFr_let (fun v75 _ => ?_)
                refine zFr_let (fun v76 ev76 => ?_)
                rw [gs66.rf] at ev76
                subst ev76
                refine zFr_let (fun v77 _ => ?_)
                refine zFr_if (fun _ => ?_) (fun _ => ?_)
                · skip
                  exact gs66
                · skip
                  refine zFr_let (fun v79 _ => ?_)
                  refine zFr_if (fun _ => ?_) (fun _ => ?_)
                  · skip
                    exact gs66
                  · skip
                    exact gs66
        · skip
          refine zFr_let (fun v43 _ => ?_)
          refine zFr_if (fun _ => ?_) (fun _ => ?_)
          · skip
            exact gs36
          · skip
            refine zFr_let (fun v45 _ => ?_)
            refine zFr_let (fun v46 ev46 => ?_)
            rw [gs36.rf] at ev46
            subst ev46
            refine zFr_let (fun v47 _ => ?_)
            refine zFr_if (fun _ => ?_) (fun _ => ?_)
            · skip
              exact gs36
            · skip
              refine zFr_let (fun v49 _ => ?_)
              refine zFr_if (fun _ => ?_) (fun _ => ?_)
              · skip
                exact gs36
              · skip
                refine zFr_let (fun v51 _ => ?_)
                refine zFr_let (fun v52 ev52 => ?_)
                rw [gs36.rf] at ev52
                subst ev52
                refine zFr_let (fun v53 _ => ?_)
                refine zFr_if (fun _ => ?_) (fun _ => ?_)
                · skip
                  exact gs36
                · skip
                  refine zFr_let (fun v55 _ => ?_)
                  refine zFr_if (fun _ => ?_) (fun _ => ?_)
                  · skip
                    exact gs36
                  · skip
                    exact gs36
    · skip
      refine zFr_let (fun v7 _ => ?_)
      refine zFr_if (fun _ => ?_) (fun _ => ?_)
      · skip
        exact g
      · skip
        refine zFr_let (fun v9 _ => ?_)
        refine zFr_let (fun v10 ev10 => ?_)
        rw [g.rf] at ev10
        subst ev10
        refine zFr_let (fun v11 _ => ?_)
        refine zFr_if (fun _ => ?_) (fun _ => ?_)
        · skip
          exact g
        · skip
          refine zFr_let (fun v13 _ => ?_)
          refine zFr_if (fun _ => ?_) (fun _ => ?_)
          · skip
            exact g
          · skip
            refine zFr_let (fun v15 _ => ?_)
            refine zFr_let (fun v16 ev16 => ?_)
            rw [g.rf] at ev16
            subst ev16
            refine zFr_let (fun v17 _ => ?_)
            refine zFr_if (fun _ => ?_) (fun _ => ?_)
            · skip
              exact g
            · skip
              refine zFr_let (fun v19 _ => ?_)
              refine zFr_if (fun _ => ?_) (fun _ => ?_)
              · skip
                exact g
              · skip
                refine zFr_let (fun v21 _ => ?_)
                refine zFr_let (fun v22 ev22 => ?_)
                rw [g.rf] at ev22
                subst ev22
                refine zFr_let (fun v23 _ => ?_)
                refine zFr_if (fun _ => ?_) (fun _ => ?_)
                · skip
                  exact g
                · skip
                  refine zFr_let (fun v25 _ => ?_)
                  refine zFr_if (fun _ => ?_) (fun _ => ?_)
                  · skip
                    exact g
                  · skip
                    exact g
set_option maxRecDepth 100000 in
theorem fr_X10_isPlace {A : Nat → Nat → Prop} {σ σ0 : zS} {a0 : Nat} {p1 : Int32}  (g : zFr A σ σ0)  : zFp A σ (F_X10_isPlace a0 p1 σ0) := by
  unfold F_X10_isPlace
  refine zFp_let (fun v1 _ => ?_)
  refine zFp_let (fun v2 ev2 => ?_)
  rw [g.rf] at ev2
  subst ev2
  refine zFp_let (fun v3 _ => ?_)
  refine zFp_let (fun v4 _ => ?_)
  refine zFp_let (fun v5 _ => ?_)
  refine zFp_let (fun v6 _ => ?_)
  exact g
set_option maxRecDepth 100000 in
theorem fr_X10_isLaw {A : Nat → Nat → Prop} {σ σ0 : zS} {a0 : Nat} {p1 : Int32}  (g : zFr A σ σ0)  : zFp A σ (F_X10_isLaw a0 p1 σ0) := by
  unfold F_X10_isLaw
  refine zFp_let (fun v1 _ => ?_)
  refine zFp_let (fun v2 _ => ?_)
  refine zFp_let (fun v3 _ => ?_)
  exact g
set_option maxRecDepth 100000 in
theorem fr_X10_hasMouth {A : Nat → Nat → Prop} {σ σ0 : zS} {a0 : Nat}  (g : zFr A σ σ0)  : zFp A σ (F_X10_hasMouth a0 σ0) := by
  unfold F_X10_hasMouth
  refine zFp_let (fun v1 ev1 => ?_)
  rw [g.rf] at ev1
  subst ev1
  refine zFp_let (fun v2 _ => ?_)
  refine zFp_if (fun _ => ?_) (fun _ => ?_)
  · skip
    refine zFp_let (fun v5 _ => ?_)
    exact g
  · skip
    refine zFp_let (fun v4 _ => ?_)
    exact g
set_option maxRecDepth 100000 in
theorem fr_X10_mouthFlow {A : Nat → Nat → Prop} {σ σ0 : zS} {a0 : Nat}  (g : zFr A σ σ0)  : zFp A σ (F_X10_mouthFlow a0 σ0) := by
  unfold F_X10_mouthFlow
  refine zFp_let2 (fun v1 s2 es2 => ?_)
  have gs2 : zFr A σ s2 := (fr_X10_hasMouth g ).of es2
  refine zFp_if (fun _ => ?_) (fun _ => ?_)
  · skip
    refine zFp_let (fun v4 _ => ?_)
    exact gs2
  · skip
    refine zFp_let (fun v5 ev5 => ?_)
    rw [gs2.rf] at ev5
    subst ev5
    refine zFp_let (fun v6 ev6 => ?_)
    rw [gs2.rf] at ev6
    subst ev6
    refine zFp_let (fun v7 _ => ?_)
    refine zFp_let (fun v8 _ => ?_)
    exact gs2
set_option maxRecDepth 100000 in
theorem fr_X10_beginAnew {A : Nat → Nat → Prop} {σ σ0 : zS} {a0 : Nat}  (g : zFr A σ σ0) (h0 : ∀ j, A ((σ.2.2 ((σ.2.2 a0 6).getD 0) 0).getD 0) j) (h1 : ∀ j, A ((σ.2.2 ((σ.2.2 a0 6).getD 0) 1).getD 0) j) (h2 : ∀ j, A ((σ.2.2 ((σ.2.2 a0 6).getD 0) 2).getD 0) j) (h3 : A (((σ.2.2 a0 6).getD 0)) 3) (h4 : A (((σ.2.2 a0 6).getD 0)) 4) (h5 : A (((σ.2.2 a0 6).getD 0)) 5) (h6 : A ((σ.2.2 a0 4).getD 0) 2) (h7 : A ((σ.2.2 a0 5).getD 0) 4) (h8 : A a0 12) : zFr A σ (F_X10_beginAnew a0 σ0) := by
  unfold F_X10_beginAnew
  refine zFr_let (fun v1 ev1 => ?_)
  rw [g.rf] at ev1
  subst ev1
  refine zFr_let (fun v2 ev2 => ?_)
  rw [g.rf] at ev2
  subst ev2
  refine zFr_let (fun s3 es3 => ?_)
  have gs3 : zFr A σ s3 := by rw [es3]; exact fr_X1_begin g h0 h1 h2 h3 h4 h5
  refine zFr_let (fun v4 ev4 => ?_)
  rw [gs3.rf] at ev4
  subst ev4
  refine zFr_let (fun v5 _ => ?_)
  refine zFr_let (fun s6 es6 => ?_)
  have gs6 : zFr A σ s6 := by rw [es6]; exact gs3.w h6
  refine zFr_let (fun v7 ev7 => ?_)
  rw [gs6.rf] at ev7
  subst ev7
  refine zFr_let (fun v8 _ => ?_)
  refine zFr_let (fun s9 es9 => ?_)
  have gs9 : zFr A σ s9 := by rw [es9]; exact gs6.w h7
  refine zFr_let (fun v10 _ => ?_)
  refine zFr_let (fun s11 es11 => ?_)
  have gs11 : zFr A σ s11 := by rw [es11]; exact gs9.w h8
  exact gs11
set_option maxRecDepth 100000 in
theorem fr_X10_sumOf_4 {A : Nat → Nat → Prop} {σ : zS} {a0 : Nat} {p1 : Nat}   : ∀ (n : Nat) (x3 : Int32) (x4 : Int32) (τ5 : zS), zFr A σ τ5 → zFp A σ (F_X10_sumOf_4 a0 p1 n x3 x4 τ5) := by
  intro n
  induction n with
  | zero => intro x3 x4 τ5 g; exact g
  | succ n ih =>
    intro x3 x4 τ5 g
    rw [F_X10_sumOf_4]
    refine zFp_let (fun v6 ev6 => ?_)
    rw [g.rf] at ev6
    subst ev6
    refine zFp_let (fun v7 _ => ?_)
    refine zFp_if (fun _ => ?_) (fun _ => ?_)
    · skip
      refine zFp_let (fun v9 _ => ?_)
      refine zFp_let (fun v10 _ => ?_)
      refine zFp_let (fun v11 _ => ?_)
      exact ih _ _ _ g
    · skip
      exact g
set_option maxRecDepth 100000 in
theorem fr_X10_sumOf {A : Nat → Nat → Prop} {σ σ0 : zS} {a0 : Nat} {p1 : Nat}  (g : zFr A σ σ0)  : zFp A σ (F_X10_sumOf a0 p1 σ0) := by
  unfold F_X10_sumOf
  refine zFp_let (fun v1 _ => ?_)
  refine zFp_let (fun v2 _ => ?_)
  exact fr_X10_sumOf_4   _ _ _ _ g
set_option maxRecDepth 100000 in
theorem fr_X10_turnedPlaces_4 {A : Nat → Nat → Prop} {σ : zS} {a0 : Nat}   : ∀ (n : Nat) (x3 : Int32) (x4 : Int32) (τ5 : zS), zFr A σ τ5 → zFp A σ (F_X10_turnedPlaces_4 a0 n x3 x4 τ5) := by
  intro n
  induction n with
  | zero => intro x3 x4 τ5 g; exact g
  | succ n ih =>
    intro x3 x4 τ5 g
    rw [F_X10_turnedPlaces_4]
    refine zFp_let (fun v6 ev6 => ?_)
    rw [g.rf] at ev6
    subst ev6
    refine zFp_let (fun v7 _ => ?_)
    refine zFp_if (fun _ => ?_) (fun _ => ?_)
    · skip
      refine zFp_let (fun v9 ev9 => ?_)
      rw [g.rf] at ev9
      subst ev9
      refine zFp_let (fun v10 ev10 => ?_)
      rw [g.rf] at ev10
      subst ev10
      refine zFp_let (fun v11 _ => ?_)
      refine zFp_let (fun v12 ev12 => ?_)
      rw [g.rf] at ev12
      subst ev12
      refine zFp_let (fun v13 ev13 => ?_)
      rw [g.rf] at ev13
      subst ev13
      refine zFp_let (fun v14 _ => ?_)
      refine zFp_if (fun _ => ?_) (fun _ => ?_)
      · skip
        refine zFp_let (fun v16 _ => ?_)
        exact ih _ _ _ g
      · skip
        refine zFp_let (fun v17 _ => ?_)
        refine zFp_let (fun v18 _ => ?_)
        refine zFp_let (fun v19 _ => ?_)
        exact ih _ _ _ g
    · skip
      exact g
set_option maxRecDepth 100000 in
theorem fr_X10_turnedPlaces {A : Nat → Nat → Prop} {σ σ0 : zS} {a0 : Nat}  (g : zFr A σ σ0)  : zFp A σ (F_X10_turnedPlaces a0 σ0) := by
  unfold F_X10_turnedPlaces
  refine zFp_let (fun v1 _ => ?_)
  refine zFp_let (fun v2 _ => ?_)
  exact fr_X10_turnedPlaces_4   _ _ _ _ g
set_option maxRecDepth 100000 in
theorem fr_X10_isTurn {A : Nat → Nat → Prop} {σ σ0 : zS} {a0 : Nat} {p1 : Int32} {p2 : Int32}  (g : zFr A σ σ0)  : zFp A σ (F_X10_isTurn a0 p1 p2 σ0) := by
  unfold F_X10_isTurn
  refine zFp_if (fun _ => ?_) (fun _ => ?_)
  · skip
    refine zFp_let (fun v2 _ => ?_)
    exact g
  · skip
    refine zFp_let2 (fun v3 s4 es4 => ?_)
    have gs4 : zFr A σ s4 := (fr_X10_isPlace g ).of es4
    refine zFp_if (fun _ => ?_) (fun _ => ?_)
    · skip
      refine zFp_let (fun v6 _ => ?_)
      exact gs4
    · skip
      refine zFp_let2 (fun v7 s8 es8 => ?_)
      have gs8 : zFr A σ s8 := (fr_X10_isPlace gs4 ).of es8
      refine zFp_if (fun _ => ?_) (fun _ => ?_)
      · skip
        refine zFp_let (fun v10 _ => ?_)
        exact gs8
      · skip
        refine zFp_let (fun v11 ev11 => ?_)
        rw [gs8.rf] at ev11
        subst ev11
        refine zFp_let (fun v12 ev12 => ?_)
        rw [gs8.rf] at ev12
        subst ev12
        refine zFp_let (fun v13 _ => ?_)
        refine zFp_if (fun _ => ?_) (fun _ => ?_)
        · skip
          refine zFp_let (fun v15 _ => ?_)
          exact gs8
        · skip
          refine zFp_let (fun v16 ev16 => ?_)
          rw [gs8.rf] at ev16
          subst ev16
          refine zFp_let2 (fun v17 s18 es18 => ?_)
          have gs18 : zFr A σ s18 := (fr_X1_comesBy gs8 ).of es18
          refine zFp_if (fun _ => ?_) (fun _ => ?_)
          · skip
            refine zFp_let (fun v21 _ => ?_)
            exact gs18
          · skip
            refine zFp_let (fun v20 _ => ?_)
            exact gs18
set_option maxRecDepth 100000 in
theorem fr_X10_castVotes_17 {A : Nat → Nat → Prop} {σ : zS} {x2 : Int32} {a0 : Nat} {kLp3 : Int32 → zS → zS} (ckLp3 : ∀ (y0 : Int32) (s : zS), zFr A σ s → zFr A σ (kLp3 y0 s)) (h0 : ∀ j, A ((σ.2.2 a0 9).getD 0) j) : ∀ (n : Nat) (x9 : Int32) (τ10 : zS), zFr A σ τ10 → zFr A σ (F_X10_castVotes_17 x2 a0 kLp3 n x9 τ10) := by
  intro n
  induction n with
  | zero => intro x9 τ10 g; exact g
  | succ n ih =>
    intro x9 τ10 g
    rw [F_X10_castVotes_17]
    refine zFr_let (fun v11 ev11 => ?_)
    rw [g.rf] at ev11
    subst ev11
    refine zFr_let (fun v12 _ => ?_)
    refine zFr_if (fun _ => ?_) (fun _ => ?_)
    · skip
      refine zFr_let (fun v15 _ => ?_)
      refine zFr_let (fun v16 ev16 => ?_)
      rw [g.rf] at ev16
      subst ev16
      refine zFr_let2 (fun v17 s18 es18 => ?_)
      have gs18 : zFr A σ s18 := (fr_X5_rankOf g ).of es18
      refine zFr_let (fun v19 _ => ?_)
      refine zFr_let (fun v20 _ => ?_)
      refine zFr_let (fun v21 ev21 => ?_)
      rw [gs18.rf] at ev21
      subst ev21
      refine zFr_if (fun _ => ?_) (fun _ => ?_)
      · skip
        refine zFr_let (fun s28 es28 => ?_)
        have gs28 : zFr A σ s28 := by rw [es28]; exact gs18.w (h0 _)
        refine zFr_let (fun v29 _ => ?_)
        exact ih _ _ gs28
      · skip
        refine zFr_let (fun v23 ev23 => ?_)
        rw [gs18.rf] at ev23
        subst ev23
        refine zFr_let (fun v24 _ => ?_)
        refine zFr_let (fun v25 _ => ?_)
        refine zFr_let (fun s26 es26 => ?_)
        have gs26 : zFr A σ s26 := by rw [es26]; exact gs18.w (h0 _)
        refine zFr_let (fun v27 _ => ?_)
        exact ih _ _ gs26
    · skip
      refine zFr_let (fun v14 _ => ?_)
      exact ckLp3 _ _ g
set_option maxRecDepth 100000 in
theorem fr_X10_castVotes_2 {A : Nat → Nat → Prop} {σ : zS} {a0 : Nat}  (h0 : ∀ j, A ((σ.2.2 ((σ.2.2 a0 2).getD 0) 4).getD 0) j) (h1 : ∀ j, A ((σ.2.2 ((σ.2.2 ((σ.2.2 a0 2).getD 0) 1).getD 0) 0).getD 0) j) (h2 : ∀ j, A ((σ.2.2 ((σ.2.2 ((σ.2.2 a0 2).getD 0) 1).getD 0) 1).getD 0) j) (h3 : ∀ j, A ((σ.2.2 a0 9).getD 0) j) : ∀ (n : Nat) (x2 : Int32) (τ3 : zS), zFr A σ τ3 → zFr A σ (F_X10_castVotes_2 a0 n x2 τ3) := by
  intro n
  induction n with
  | zero => intro x2 τ3 g; exact g
  | succ n ih =>
    intro x2 τ3 g
    rw [F_X10_castVotes_2]
    refine zFr_let (fun v4 _ => ?_)
    refine zFr_if (fun _ => ?_) (fun _ => ?_)
    · skip
      refine zFr_let (fun v6 ev6 => ?_)
      rw [g.rf] at ev6
      subst ev6
      refine zFr_let (fun s7 es7 => ?_)
      have gs7 : zFr A σ s7 := by rw [es7]; exact fr_X5_weigh g h0 h1 h2
      refine zFr_let (fun v8 _ => ?_)
      exact fr_X10_castVotes_17 ih h3 _ _ _ gs7
    · skip
      exact g
set_option maxRecDepth 100000 in
theorem fr_X10_castVotes {A : Nat → Nat → Prop} {σ σ0 : zS} {a0 : Nat}  (g : zFr A σ σ0) (h0 : ∀ j, A ((σ.2.2 ((σ.2.2 a0 2).getD 0) 4).getD 0) j) (h1 : ∀ j, A ((σ.2.2 ((σ.2.2 ((σ.2.2 a0 2).getD 0) 1).getD 0) 0).getD 0) j) (h2 : ∀ j, A ((σ.2.2 ((σ.2.2 ((σ.2.2 a0 2).getD 0) 1).getD 0) 1).getD 0) j) (h3 : ∀ j, A ((σ.2.2 a0 9).getD 0) j) : zFr A σ (F_X10_castVotes a0 σ0) := by
  unfold F_X10_castVotes
  refine zFr_let (fun v1 _ => ?_)
  exact fr_X10_castVotes_2  h0 h1 h2 h3 _ _ _ g
set_option maxRecDepth 100000 in
theorem fr_X10_votesFor_4 {A : Nat → Nat → Prop} {σ : zS} {a0 : Nat} {p1 : Int32}   : ∀ (n : Nat) (x3 : Int32) (x4 : Int32) (τ5 : zS), zFr A σ τ5 → zFp A σ (F_X10_votesFor_4 a0 p1 n x3 x4 τ5) := by
  intro n
  induction n with
  | zero => intro x3 x4 τ5 g; exact g
  | succ n ih =>
    intro x3 x4 τ5 g
    rw [F_X10_votesFor_4]
    refine zFp_let (fun v6 ev6 => ?_)
    rw [g.rf] at ev6
    subst ev6
    refine zFp_let (fun v7 _ => ?_)
    refine zFp_if (fun _ => ?_) (fun _ => ?_)
    · skip
      refine zFp_let (fun v9 ev9 => ?_)
      rw [g.rf] at ev9
      subst ev9
      refine zFp_let2 (fun v10 s11 es11 => ?_)
      have gs11 : zFr A σ s11 := (fr_X6_isSource g ).of es11
      refine zFp_if (fun _ => ?_) (fun _ => ?_)
      · skip
        refine zFp_let (fun v13 _ => ?_)
        exact ih _ _ _ gs11
      · skip
        refine zFp_let (fun v14 ev14 => ?_)
        rw [gs11.rf] at ev14
        subst ev14
        refine zFp_let (fun v15 _ => ?_)
        refine zFp_let (fun v16 _ => ?_)
        refine zFp_let (fun v17 _ => ?_)
        refine zFp_if (fun _ => ?_) (fun _ => ?_)
        · skip
          refine zFp_let (fun v20 _ => ?_)
          refine zFp_let (fun v21 _ => ?_)
          exact ih _ _ _ gs11
        · skip
          refine zFp_let (fun v19 _ => ?_)
          exact ih _ _ _ gs11
    · skip
      exact g
set_option maxRecDepth 100000 in
theorem fr_X10_votesFor {A : Nat → Nat → Prop} {σ σ0 : zS} {a0 : Nat} {p1 : Int32}  (g : zFr A σ σ0)  : zFp A σ (F_X10_votesFor a0 p1 σ0) := by
  unfold F_X10_votesFor
  refine zFp_let (fun v1 _ => ?_)
  refine zFp_let (fun v2 _ => ?_)
  exact fr_X10_votesFor_4   _ _ _ _ g
set_option maxRecDepth 100000 in
theorem fr_X10_lossOf {A : Nat → Nat → Prop} {σ σ0 : zS} {a0 : Nat} {p1 : Int32}  (g : zFr A σ σ0) (h0 : ∀ j, A ((σ.2.2 ((σ.2.2 a0 2).getD 0) 3).getD 0) j) (h1 : ∀ j, A ((σ.2.2 ((σ.2.2 ((σ.2.2 a0 2).getD 0) 1).getD 0) 0).getD 0) j) (h2 : ∀ j, A ((σ.2.2 ((σ.2.2 ((σ.2.2 a0 2).getD 0) 1).getD 0) 1).getD 0) j) : zFp A σ (F_X10_lossOf a0 p1 σ0) := by
  unfold F_X10_lossOf
  refine zFp_let2 (fun v1 s2 es2 => ?_)
  have gs2 : zFr A σ s2 := (fr_X10_mouthFlow g ).of es2
  refine zFp_let (fun v3 ev3 => ?_)
  rw [gs2.rf] at ev3
  subst ev3
  refine zFp_let (fun v4 ev4 => ?_)
  rw [gs2.rf] at ev4
  subst ev4
  refine zFp_let (fun v5 _ => ?_)
  refine zFp_let (fun v6 _ => ?_)
  refine zFp_let (fun v7 _ => ?_)
  refine zFp_let (fun s8 es8 => ?_)
  have gs8 : zFr A σ s8 := by rw [es8]; exact fr_X5_run gs2 h0 h1 h2
  refine zFp_let2 (fun v9 s10 es10 => ?_)
  have gs10 : zFr A σ s10 := (fr_X10_mouthFlow gs8 ).of es10
  refine zFp_let (fun v11 _ => ?_)
  exact gs10
set_option maxRecDepth 100000 in
theorem fr_X10_greatestInto_4 {A : Nat → Nat → Prop} {σ : zS} {a0 : Nat} {p1 : Int32}   : ∀ (n : Nat) (x3 : Int32) (x4 : Int32) (τ5 : zS), zFr A σ τ5 → zFp A σ (F_X10_greatestInto_4 a0 p1 n x3 x4 τ5) := by
  intro n
  induction n with
  | zero => intro x3 x4 τ5 g; exact g
  | succ n ih =>
    intro x3 x4 τ5 g
    rw [F_X10_greatestInto_4]
    refine zFp_let (fun v6 ev6 => ?_)
    rw [g.rf] at ev6
    subst ev6
    refine zFp_let (fun v7 _ => ?_)
    refine zFp_if (fun _ => ?_) (fun _ => ?_)
    · skip
      refine zFp_let (fun v9 ev9 => ?_)
      rw [g.rf] at ev9
      subst ev9
      refine zFp_let (fun v10 ev10 => ?_)
      rw [g.rf] at ev10
      subst ev10
      refine zFp_let (fun v11 _ => ?_)
      refine zFp_if (fun _ => ?_) (fun _ => ?_)
      · skip
        refine zFp_let (fun v14 _ => ?_)
        refine zFp_if (fun _ => ?_) (fun _ => ?_)
        · skip
          refine zFp_let (fun v16 _ => ?_)
          exact ih _ _ _ g
        · skip
          refine zFp_let (fun v17 ev17 => ?_)
          rw [g.rf] at ev17
          subst ev17
          refine zFp_let (fun v18 ev18 => ?_)
          rw [g.rf] at ev18
          subst ev18
          refine zFp_let (fun v19 _ => ?_)
          refine zFp_let (fun v20 ev20 => ?_)
          rw [g.rf] at ev20
          subst ev20
          refine zFp_let (fun v21 ev21 => ?_)
          rw [g.rf] at ev21
          subst ev21
          refine zFp_let (fun v22 _ => ?_)
          refine zFp_if (fun _ => ?_) (fun _ => ?_)
          · skip
            refine zFp_let (fun v27 _ => ?_)
            exact ih _ _ _ g
          · skip
            refine zFp_let (fun v26 _ => ?_)
            exact ih _ _ _ g
      · skip
        refine zFp_let (fun v13 _ => ?_)
        exact ih _ _ _ g
    · skip
      exact g
set_option maxRecDepth 100000 in
theorem fr_X10_greatestInto {A : Nat → Nat → Prop} {σ σ0 : zS} {a0 : Nat} {p1 : Int32}  (g : zFr A σ σ0)  : zFp A σ (F_X10_greatestInto a0 p1 σ0) := by
  unfold F_X10_greatestInto
  refine zFp_let (fun v1 _ => ?_)
  refine zFp_let (fun v2 _ => ?_)
  exact fr_X10_greatestInto_4   _ _ _ _ g
set_option maxRecDepth 100000 in
theorem fr_X10_tallied_4 {A : Nat → Nat → Prop} {σ : zS} {a0 : Nat}   : ∀ (n : Nat) (x3 : Int32) (x4 : Int32) (τ5 : zS), zFr A σ τ5 → zFp A σ (F_X10_tallied_4 a0 n x3 x4 τ5) := by
  intro n
  induction n with
  | zero => intro x3 x4 τ5 g; exact g
  | succ n ih =>
    intro x3 x4 τ5 g
    rw [F_X10_tallied_4]
    refine zFp_let (fun v6 ev6 => ?_)
    rw [g.rf] at ev6
    subst ev6
    refine zFp_let (fun v7 _ => ?_)
    refine zFp_if (fun _ => ?_) (fun _ => ?_)
    · skip
      refine zFp_let (fun v9 ev9 => ?_)
      rw [g.rf] at ev9
      subst ev9
      refine zFp_let (fun v10 _ => ?_)
      refine zFp_if (fun _ => ?_) (fun _ => ?_)
      · skip
        refine zFp_let (fun v13 _ => ?_)
        refine zFp_let (fun v14 _ => ?_)
        exact ih _ _ _ g
      · skip
        refine zFp_let (fun v12 _ => ?_)
        exact ih _ _ _ g
    · skip
      exact g
set_option maxRecDepth 100000 in
theorem fr_X10_tallied {A : Nat → Nat → Prop} {σ σ0 : zS} {a0 : Nat}  (g : zFr A σ σ0)  : zFp A σ (F_X10_tallied a0 σ0) := by
  unfold F_X10_tallied
  refine zFp_let (fun v1 _ => ?_)
  refine zFp_let (fun v2 _ => ?_)
  exact fr_X10_tallied_4   _ _ _ _ g
set_option maxRecDepth 100000 in
theorem fr_X10_mostTallied_5 {A : Nat → Nat → Prop} {σ : zS} {a0 : Nat}   : ∀ (n : Nat) (x3 : Int32) (x4 : Int32) (τ5 : zS), zFr A σ τ5 → zFp A σ (F_X10_mostTallied_5 a0 n x3 x4 τ5) := by
  intro n
  induction n with
  | zero => intro x3 x4 τ5 g; exact g
  | succ n ih =>
    intro x3 x4 τ5 g
    rw [F_X10_mostTallied_5]
    refine zFp_let (fun v6 ev6 => ?_)
    rw [g.rf] at ev6
    subst ev6
    refine zFp_let (fun v7 _ => ?_)
    refine zFp_if (fun _ => ?_) (fun _ => ?_)
    · skip
      refine zFp_let (fun v9 ev9 => ?_)
      rw [g.rf] at ev9
      subst ev9
      refine zFp_let (fun v10 _ => ?_)
      refine zFp_if (fun _ => ?_) (fun _ => ?_)
      · skip
        refine zFp_let (fun v19 _ => ?_)
        refine zFp_if (fun _ => ?_) (fun _ => ?_)
        · skip
          refine zFp_let (fun v23 _ => ?_)
          exact ih _ _ _ g
        · skip
          refine zFp_let (fun v22 _ => ?_)
          exact ih _ _ _ g
      · skip
        refine zFp_let (fun v12 ev12 => ?_)
        rw [g.rf] at ev12
        subst ev12
        refine zFp_let (fun v13 _ => ?_)
        refine zFp_if (fun _ => ?_) (fun _ => ?_)
        · skip
          refine zFp_let (fun v18 _ => ?_)
          exact ih _ _ _ g
        · skip
          refine zFp_let (fun v17 _ => ?_)
          exact ih _ _ _ g
    · skip
      exact g
set_option maxRecDepth 100000 in
theorem fr_X10_mostTallied {A : Nat → Nat → Prop} {σ σ0 : zS} {a0 : Nat}  (g : zFr A σ σ0)  : zFp A σ (F_X10_mostTallied a0 σ0) := by
  unfold F_X10_mostTallied
  refine zFp_let (fun v1 _ => ?_)
  refine zFp_let (fun v2 _ => ?_)
  exact fr_X10_mostTallied_5   _ _ _ _ g
set_option maxRecDepth 100000 in
theorem fr_X10_hasWonMost_4 {A : Nat → Nat → Prop} {σ : zS} {a0 : Nat} {p1 : Int32}   : ∀ (n : Nat) (x3 : Int32) (x4 : Int32) (τ5 : zS), zFr A σ τ5 → zFp A σ (F_X10_hasWonMost_4 a0 p1 n x3 x4 τ5) := by
  intro n
  induction n with
  | zero => intro x3 x4 τ5 g; exact g
  | succ n ih =>
    intro x3 x4 τ5 g
    rw [F_X10_hasWonMost_4]
    refine zFp_let (fun v6 ev6 => ?_)
    rw [g.rf] at ev6
    subst ev6
    refine zFp_let (fun v7 _ => ?_)
    refine zFp_if (fun _ => ?_) (fun _ => ?_)
    · skip
      refine zFp_if (fun _ => ?_) (fun _ => ?_)
      · skip
        refine zFp_let (fun v10 _ => ?_)
        exact ih _ _ _ g
      · skip
        refine zFp_let (fun v11 ev11 => ?_)
        rw [g.rf] at ev11
        subst ev11
        refine zFp_let2 (fun v12 s13 es13 => ?_)
        have gs13 : zFr A σ s13 := (fr_X6_isSource g ).of es13
        refine zFp_if (fun _ => ?_) (fun _ => ?_)
        · skip
          refine zFp_let (fun v15 _ => ?_)
          exact ih _ _ _ gs13
        · skip
          refine zFp_let (fun v16 ev16 => ?_)
          rw [gs13.rf] at ev16
          subst ev16
          refine zFp_let (fun v17 ev17 => ?_)
          rw [gs13.rf] at ev17
          subst ev17
          refine zFp_let (fun v18 _ => ?_)
          refine zFp_let (fun v19 ev19 => ?_)
          rw [gs13.rf] at ev19
          subst ev19
          refine zFp_let (fun v20 ev20 => ?_)
          rw [gs13.rf] at ev20
          subst ev20
          refine zFp_let (fun v21 _ => ?_)
          refine zFp_if (fun _ => ?_) (fun _ => ?_)
          · skip
            refine zFp_let (fun v25 _ => ?_)
            exact ih _ _ _ gs13
          · skip
            refine zFp_let (fun v26 _ => ?_)
            refine zFp_let (fun v27 _ => ?_)
            exact ih _ _ _ gs13
    · skip
      exact g
set_option maxRecDepth 100000 in
theorem fr_X10_hasWonMost {A : Nat → Nat → Prop} {σ σ0 : zS} {a0 : Nat} {p1 : Int32}  (g : zFr A σ σ0)  : zFp A σ (F_X10_hasWonMost a0 p1 σ0) := by
  unfold F_X10_hasWonMost
  refine zFp_let (fun v1 _ => ?_)
  refine zFp_let (fun v2 _ => ?_)
  exact fr_X10_hasWonMost_4   _ _ _ _ g
set_option maxRecDepth 100000 in
theorem fr_X10_leftAtWorst {A : Nat → Nat → Prop} {σ σ0 : zS} {a0 : Nat} {p1 : Int32} {p2 : Int32}  (g : zFr A σ σ0)  : zFp A σ (F_X10_leftAtWorst a0 p1 p2 σ0) := by
  unfold F_X10_leftAtWorst
  refine zFp_let (fun v1 ev1 => ?_)
  rw [g.rf] at ev1
  subst ev1
  refine zFp_let2 (fun v2 s3 es3 => ?_)
  have gs3 : zFr A σ s3 := (fr_X6_comingBy g ).of es3
  refine zFp_let (fun v4 _ => ?_)
  refine zFp_let (fun v5 _ => ?_)
  refine zFp_let (fun v6 _ => ?_)
  refine zFp_let (fun v7 _ => ?_)
  refine zFp_let (fun v8 _ => ?_)
  refine zFp_let (fun v9 _ => ?_)
  refine zFp_let (fun v10 _ => ?_)
  exact gs3
set_option maxRecDepth 100000 in
theorem fr_X10_fewestDams_33 {A : Nat → Nat → Prop} {σ : zS} {v13 : Int32} {a0 : Nat} {p1 : Int32}  (h0 : ∀ j, A ((σ.2.2 ((σ.2.2 a0 2).getD 0) 3).getD 0) j) (h1 : ∀ j, A ((σ.2.2 ((σ.2.2 ((σ.2.2 a0 2).getD 0) 1).getD 0) 0).getD 0) j) (h2 : ∀ j, A ((σ.2.2 ((σ.2.2 ((σ.2.2 a0 2).getD 0) 1).getD 0) 1).getD 0) j) : ∀ (n : Nat) (x16 : Int32) (x17 : Int32) (τ18 : zS), zFr A σ τ18 → zFp A σ (F_X10_fewestDams_33 v13 a0 p1 n x16 x17 τ18) := by
  intro n
  induction n with
  | zero => intro x16 x17 τ18 g; exact g
  | succ n ih =>
    intro x16 x17 τ18 g
    rw [F_X10_fewestDams_33]
    refine zFp_if (fun _ => ?_) (fun _ => ?_)
    · skip
      exact g
    · skip
      refine zFp_let (fun v21 _ => ?_)
      refine zFp_let (fun v22 _ => ?_)
      refine zFp_let (fun v23 _ => ?_)
      refine zFp_if (fun _ => ?_) (fun _ => ?_)
      · skip
        refine zFp_let (fun v26 _ => ?_)
        refine zFp_let (fun v27 _ => ?_)
        refine zFp_if (fun _ => ?_) (fun _ => ?_)
        · skip
          refine zFp_let (fun v30 _ => ?_)
          exact ih _ _ _ g
        · skip
          refine zFp_let (fun v31 _ => ?_)
          refine zFp_if (fun _ => ?_) (fun _ => ?_)
          · skip
            refine zFp_let (fun v33 _ => ?_)
            exact ih _ _ _ g
          · skip
            refine zFp_let (fun v34 ev34 => ?_)
            rw [g.rf] at ev34
            subst ev34
            refine zFp_let (fun v35 ev35 => ?_)
            rw [g.rf] at ev35
            subst ev35
            refine zFp_let (fun v36 _ => ?_)
            refine zFp_let (fun v37 _ => ?_)
            refine zFp_let (fun s38 es38 => ?_)
            have gs38 : zFr A σ s38 := by rw [es38]; exact fr_X5_run g h0 h1 h2
            refine zFp_let2 (fun v39 s40 es40 => ?_)
            have gs40 : zFr A σ s40 := (fr_X10_mouthFlow gs38 ).of es40
            refine zFp_if (fun _ => ?_) (fun _ => ?_)
            · skip
              refine zFp_let (fun v44 _ => ?_)
              exact ih _ _ _ gs40
            · skip
              refine zFp_let (fun v45 _ => ?_)
              exact ih _ _ _ gs40
      · skip
        refine zFp_let (fun v25 _ => ?_)
        exact ih _ _ _ g
set_option maxRecDepth 100000 in
theorem fr_X10_fewestDams {A : Nat → Nat → Prop} {σ σ0 : zS} {a0 : Nat} {p1 : Int32}  (g : zFr A σ σ0) (h0 : ∀ j, A ((σ.2.2 ((σ.2.2 a0 2).getD 0) 3).getD 0) j) (h1 : ∀ j, A ((σ.2.2 ((σ.2.2 ((σ.2.2 a0 2).getD 0) 1).getD 0) 0).getD 0) j) (h2 : ∀ j, A ((σ.2.2 ((σ.2.2 ((σ.2.2 a0 2).getD 0) 1).getD 0) 1).getD 0) j) : zFp A σ (F_X10_fewestDams a0 p1 σ0) := by
  unfold F_X10_fewestDams
  refine zFp_let (fun v1 ev1 => ?_)
  rw [g.rf] at ev1
  subst ev1
  refine zFp_let (fun v2 _ => ?_)
  refine zFp_let (fun v3 _ => ?_)
  refine zFp_let (fun v4 _ => ?_)
  refine zFp_let (fun v5 _ => ?_)
  refine zFp_let (fun v6 ev6 => ?_)
  rw [g.rf] at ev6
  subst ev6
  refine zFp_let (fun v7 _ => ?_)
  refine zFp_let (fun v8 _ => ?_)
  refine zFp_let (fun v9 _ => ?_)
  refine zFp_let (fun v10 _ => ?_)
  refine zFp_let (fun v11 _ => ?_)
  refine zFp_let (fun v12 _ => ?_)
  refine zFp_let (fun v13 _ => ?_)
  refine zFp_let (fun v14 _ => ?_)
  refine zFp_let (fun v15 _ => ?_)
  exact fr_X10_fewestDams_33  h0 h1 h2 _ _ _ _ g
set_option maxRecDepth 100000 in
theorem fr_X10_place {A : Nat → Nat → Prop} {σ σ0 : zS} {a0 : Nat}  (g : zFr A σ σ0)  : zFp A σ (F_X10_place a0 σ0) := by
  unfold F_X10_place
  refine zFp_let (fun v1 _ => ?_)
  exact g
set_option maxRecDepth 100000 in
theorem fr_X10_vote_36 {A : Nat → Nat → Prop} {σ : zS} {a0 : Nat} {p1 : Int32}   : ∀ (n : Nat) (x13 : Int32) (x14 : Int32) (τ15 : zS), zFr A σ τ15 → zFp A σ (F_X10_vote_36 a0 p1 n x13 x14 τ15) := by
  intro n
  induction n with
  | zero => intro x13 x14 τ15 g; exact g
  | succ n ih =>
    intro x13 x14 τ15 g
    rw [F_X10_vote_36]
    refine zFp_let (fun v16 _ => ?_)
    refine zFp_if (fun _ => ?_) (fun _ => ?_)
    · skip
      refine zFp_let2 (fun v21 s22 es22 => ?_)
      have gs22 : zFr A σ s22 := (fr_X10_votesFor g ).of es22
      refine zFp_let2 (fun v23 s24 es24 => ?_)
      have gs24 : zFr A σ s24 := (fr_X10_votesFor gs22 ).of es24
      refine zFp_if (fun _ => ?_) (fun _ => ?_)
      · skip
        refine zFp_let (fun v29 _ => ?_)
        exact ih _ _ _ gs24
      · skip
        refine zFp_let (fun v28 _ => ?_)
        exact ih _ _ _ gs24
    · skip
      refine zFp_if (fun _ => ?_) (fun _ => ?_)
      · skip
        exact g
      · skip
        refine zFp_let2 (fun v19 s20 es20 => ?_)
        have gs20 : zFr A σ s20 := (fr_X10_votesFor g ).of es20
        exact gs20
set_option maxRecDepth 100000 in
theorem fr_X10_richest_15 {A : Nat → Nat → Prop} {σ : zS} {a0 : Nat} {p1 : Int32}   : ∀ (n : Nat) (x7 : Int32) (x8 : Int32) (τ9 : zS), zFr A σ τ9 → zFp A σ (F_X10_richest_15 a0 p1 n x7 x8 τ9) := by
  intro n
  induction n with
  | zero => intro x7 x8 τ9 g; exact g
  | succ n ih =>
    intro x7 x8 τ9 g
    rw [F_X10_richest_15]
    refine zFp_let (fun v10 ev10 => ?_)
    rw [g.rf] at ev10
    subst ev10
    refine zFp_let (fun v11 _ => ?_)
    refine zFp_if (fun _ => ?_) (fun _ => ?_)
    · skip
      refine zFp_let (fun v22 ev22 => ?_)
      rw [g.rf] at ev22
      subst ev22
      refine zFp_let (fun v23 ev23 => ?_)
      rw [g.rf] at ev23
      subst ev23
      refine zFp_let (fun v24 _ => ?_)
      refine zFp_let (fun v25 ev25 => ?_)
      rw [g.rf] at ev25
      subst ev25
      refine zFp_let (fun v26 ev26 => ?_)
      rw [g.rf] at ev26
      subst ev26
      refine zFp_let (fun v27 _ => ?_)
      refine zFp_if (fun _ => ?_) (fun _ => ?_)
      · skip
        refine zFp_let (fun v32 _ => ?_)
        exact ih _ _ _ g
      · skip
        refine zFp_let (fun v31 _ => ?_)
        exact ih _ _ _ g
    · skip
      refine zFp_let (fun v13 ev13 => ?_)
      rw [g.rf] at ev13
      subst ev13
      refine zFp_let (fun v14 ev14 => ?_)
      rw [g.rf] at ev14
      subst ev14
      refine zFp_let (fun v15 _ => ?_)
      refine zFp_if (fun _ => ?_) (fun _ => ?_)
      · skip
        refine zFp_let (fun v21 _ => ?_)
        exact g
      · skip
        refine zFp_if (fun _ => ?_) (fun _ => ?_)
        · skip
          exact g
        · skip
          refine zFp_let (fun v18 ev18 => ?_)
          rw [g.rf] at ev18
          subst ev18
          refine zFp_let (fun v19 ev19 => ?_)
          rw [g.rf] at ev19
          subst ev19
          refine zFp_let (fun v20 _ => ?_)
          exact g
set_option maxRecDepth 100000 in
theorem fr_X10_richest {A : Nat → Nat → Prop} {σ σ0 : zS} {a0 : Nat} {p1 : Int32}  (g : zFr A σ σ0)  : zFp A σ (F_X10_richest a0 p1 σ0) := by
  unfold F_X10_richest
  refine zFp_let (fun v1 _ => ?_)
  refine zFp_let (fun v2 _ => ?_)
  refine zFp_let (fun v3 _ => ?_)
  refine zFp_if (fun _ => ?_) (fun _ => ?_)
  · skip
    refine zFp_let (fun v33 _ => ?_)
    exact g
  · skip
    refine zFp_let (fun v5 _ => ?_)
    refine zFp_let (fun v6 _ => ?_)
    exact fr_X10_richest_15   _ _ _ _ g
set_option maxRecDepth 100000 in
theorem fr_X10_damFor_13 {A : Nat → Nat → Prop} {σ : zS} {a0 : Nat} {p1 : Int32} {p2 : Int32}  (h0 : ∀ j, A ((σ.2.2 ((σ.2.2 a0 2).getD 0) 3).getD 0) j) (h1 : ∀ j, A ((σ.2.2 ((σ.2.2 ((σ.2.2 a0 2).getD 0) 1).getD 0) 0).getD 0) j) (h2 : ∀ j, A ((σ.2.2 ((σ.2.2 ((σ.2.2 a0 2).getD 0) 1).getD 0) 1).getD 0) j) (h3 : ∀ j, A ((σ.2.2 ((σ.2.2 a0 2).getD 0) 4).getD 0) j) : ∀ (n : Nat) (x5 : Int32) (τ6 : zS), zFr A σ τ6 → zFp A σ (F_X10_damFor_13 a0 p1 p2 n x5 τ6) := by
  intro n
  induction n with
  | zero => intro x5 τ6 g; exact g
  | succ n ih =>
    intro x5 τ6 g
    rw [F_X10_damFor_13]
    refine zFp_let (fun v7 ev7 => ?_)
    rw [g.rf] at ev7
    subst ev7
    refine zFp_let (fun v8 _ => ?_)
    refine zFp_if (fun _ => ?_) (fun _ => ?_)
    · skip
      refine zFp_let (fun v11 ev11 => ?_)
      rw [g.rf] at ev11
      subst ev11
      refine zFp_let (fun v12 _ => ?_)
      refine zFp_let (fun v13 _ => ?_)
      refine zFp_if (fun _ => ?_) (fun _ => ?_)
      · skip
        refine zFp_let (fun v16 ev16 => ?_)
        rw [g.rf] at ev16
        subst ev16
        refine zFp_let (fun v17 ev17 => ?_)
        rw [g.rf] at ev17
        subst ev17
        refine zFp_let (fun v18 _ => ?_)
        refine zFp_let (fun v19 _ => ?_)
        refine zFp_let (fun v20 _ => ?_)
        refine zFp_let (fun s21 es21 => ?_)
        have gs21 : zFr A σ s21 := by rw [es21]; exact fr_X5_run g h0 h1 h2
        refine zFp_let (fun v22 ev22 => ?_)
        rw [gs21.rf] at ev22
        subst ev22
        refine zFp_let2 (fun v23 s24 es24 => ?_)
        have gs24 : zFr A σ s24 := (fr_X5_winnerBy gs21 h3 h1 h2).of es24
        refine zFp_if (fun _ => ?_) (fun _ => ?_)
        · skip
          exact gs24
        · skip
          refine zFp_let (fun v26 _ => ?_)
          exact ih _ _ gs24
      · skip
        refine zFp_let (fun v15 _ => ?_)
        exact ih _ _ g
    · skip
      refine zFp_let (fun v10 _ => ?_)
      exact g
set_option maxRecDepth 100000 in
theorem fr_X10_main_21 {A : Nat → Nat → Prop} {σ : zS} {a0 : Nat} {p1 : Int32}   : ∀ (n : Nat) (x9 : Int32) (x10 : Int32) (τ11 : zS), zFr A σ τ11 → zFp A σ (F_X10_main_21 a0 p1 n x9 x10 τ11) := by
  intro n
  induction n with
  | zero => intro x9 x10 τ11 g; exact g
  | succ n ih =>
    intro x9 x10 τ11 g
    rw [F_X10_main_21]
    refine zFp_if (fun _ => ?_) (fun _ => ?_)
    · skip
      refine zFp_let (fun v15 _ => ?_)
      refine zFp_if (fun _ => ?_) (fun _ => ?_)
      · skip
        exact g
      · skip
        refine zFp_let2 (fun v17 s18 es18 => ?_)
        have gs18 : zFr A σ s18 := (fr_X10_greatestInto g ).of es18
        refine zFp_let (fun v19 _ => ?_)
        exact ih _ _ _ gs18
    · skip
      exact g
set_option maxRecDepth 100000 in
theorem fr_X10_agree_20 {A : Nat → Nat → Prop} {σ : zS} {a0 : Nat} {p1 : Int32}  (h0 : ∀ j, A ((σ.2.2 ((σ.2.2 a0 2).getD 0) 4).getD 0) j) (h1 : ∀ j, A ((σ.2.2 ((σ.2.2 ((σ.2.2 a0 2).getD 0) 1).getD 0) 0).getD 0) j) (h2 : ∀ j, A ((σ.2.2 ((σ.2.2 ((σ.2.2 a0 2).getD 0) 1).getD 0) 1).getD 0) j) (h3 : ∀ j, A ((σ.2.2 ((σ.2.2 ((σ.2.2 a0 2).getD 0) 6).getD 0) 2).getD 0) j) (h4 : ∀ j, A ((σ.2.2 ((σ.2.2 ((σ.2.2 a0 2).getD 0) 6).getD 0) 1).getD 0) j) (h5 : A ((σ.2.2 ((σ.2.2 a0 2).getD 0) 6).getD 0) 4) (h6 : ∀ j, A ((σ.2.2 ((σ.2.2 a0 2).getD 0) 2).getD 0) j) (h7 : ∀ j, A ((σ.2.2 ((σ.2.2 a0 2).getD 0) 3).getD 0) j) : ∀ (n : Nat) (x8 : Int32) (x9 : Int32) (τ10 : zS), zFr A σ τ10 → zFp A σ (F_X10_agree_20 a0 p1 n x8 x9 τ10) := by
  intro n
  induction n with
  | zero => intro x8 x9 τ10 g; exact g
  | succ n ih =>
    intro x8 x9 τ10 g
    rw [F_X10_agree_20]
    refine zFp_if (fun _ => ?_) (fun _ => ?_)
    · skip
      refine zFp_let (fun v14 ev14 => ?_)
      rw [g.rf] at ev14
      subst ev14
      refine zFp_let (fun v15 _ => ?_)
      refine zFp_let2 (fun v16 s17 es17 => ?_)
      have gs17 : zFr A σ s17 := (fr_X5_winnerBy g h0 h1 h2).of es17
      refine zFp_if (fun _ => ?_) (fun _ => ?_)
      · skip
        refine zFp_let (fun v22 ev22 => ?_)
        rw [gs17.rf] at ev22
        subst ev22
        refine zFp_let (fun v23 _ => ?_)
        refine zFp_let2 (fun v24 s25 es25 => ?_)
        have gs25 : zFr A σ s25 := (fr_X5_winnerBy gs17 h0 h1 h2).of es25
        refine zFp_if (fun _ => ?_) (fun _ => ?_)
        · skip
          refine zFp_let (fun v30 ev30 => ?_)
          rw [gs25.rf] at ev30
          subst ev30
          refine zFp_let (fun v31 _ => ?_)
          refine zFp_let2 (fun v32 s33 es33 => ?_)
          have gs33 : zFr A σ s33 := (fr_X5_winnerBy gs25 h0 h1 h2).of es33
          refine zFp_if (fun _ => ?_) (fun _ => ?_)
          · skip
            refine zFp_let (fun v38 _ => ?_)
            refine zFp_let (fun v39 ev39 => ?_)
            rw [gs33.rf] at ev39
            subst ev39
            refine zFp_let (fun s40 es40 => ?_)
            have gs40 : zFr A σ s40 := by rw [es40]; exact fr_X5_goOn gs33 h0 h1 h2 h3 h4 h5 h6 h7
            refine zFp_let (fun v41 _ => ?_)
            exact ih _ _ _ gs40
          · skip
            refine zFp_let (fun v35 ev35 => ?_)
            rw [gs33.rf] at ev35
            subst ev35
            refine zFp_let (fun s36 es36 => ?_)
            have gs36 : zFr A σ s36 := by rw [es36]; exact fr_X5_goOn gs33 h0 h1 h2 h3 h4 h5 h6 h7
            refine zFp_let (fun v37 _ => ?_)
            exact ih _ _ _ gs36
        · skip
          refine zFp_let (fun v27 ev27 => ?_)
          rw [gs25.rf] at ev27
          subst ev27
          refine zFp_let (fun s28 es28 => ?_)
          have gs28 : zFr A σ s28 := by rw [es28]; exact fr_X5_goOn gs25 h0 h1 h2 h3 h4 h5 h6 h7
          refine zFp_let (fun v29 _ => ?_)
          exact ih _ _ _ gs28
      · skip
        refine zFp_let (fun v19 ev19 => ?_)
        rw [gs17.rf] at ev19
        subst ev19
        refine zFp_let (fun s20 es20 => ?_)
        have gs20 : zFr A σ s20 := by rw [es20]; exact fr_X5_goOn gs17 h0 h1 h2 h3 h4 h5 h6 h7
        refine zFp_let (fun v21 _ => ?_)
        exact ih _ _ _ gs20
    · skip
      exact g
set_option maxRecDepth 100000 in
theorem fr_X10_driest_43 {A : Nat → Nat → Prop} {σ : zS} {a0 : Nat} {p1 : Int32} {p2 : Int32}  (h0 : ∀ j, A ((σ.2.2 ((σ.2.2 a0 2).getD 0) 4).getD 0) j) (h1 : ∀ j, A ((σ.2.2 ((σ.2.2 ((σ.2.2 a0 2).getD 0) 1).getD 0) 0).getD 0) j) (h2 : ∀ j, A ((σ.2.2 ((σ.2.2 ((σ.2.2 a0 2).getD 0) 1).getD 0) 1).getD 0) j) (h3 : ∀ j, A ((σ.2.2 ((σ.2.2 ((σ.2.2 a0 2).getD 0) 6).getD 0) 2).getD 0) j) (h4 : ∀ j, A ((σ.2.2 ((σ.2.2 ((σ.2.2 a0 2).getD 0) 6).getD 0) 1).getD 0) j) (h5 : A ((σ.2.2 ((σ.2.2 a0 2).getD 0) 6).getD 0) 4) (h6 : ∀ j, A ((σ.2.2 ((σ.2.2 a0 2).getD 0) 2).getD 0) j) (h7 : ∀ j, A ((σ.2.2 ((σ.2.2 a0 2).getD 0) 3).getD 0) j) : ∀ (n : Nat) (x19 : Int32) (x20 : Int32) (x21 : Int32) (τ22 : zS), zFr A σ τ22 → zFp A σ (F_X10_driest_43 a0 p1 p2 n x19 x20 x21 τ22) := by
  intro n
  induction n with
  | zero => intro x19 x20 x21 τ22 g; exact g
  | succ n ih =>
    intro x19 x20 x21 τ22 g
    rw [F_X10_driest_43]
    refine zFp_if (fun _ => ?_) (fun _ => ?_)
    · skip
      refine zFp_let (fun v27 ev27 => ?_)
      rw [g.rf] at ev27
      subst ev27
      refine zFp_let (fun s28 es28 => ?_)
      have gs28 : zFr A σ s28 := by rw [es28]; exact fr_X5_goOn g h0 h1 h2 h3 h4 h5 h6 h7
      refine zFp_let2 (fun v29 s30 es30 => ?_)
      have gs30 : zFr A σ s30 := (fr_X10_mouthFlow gs28 ).of es30
      refine zFp_if (fun _ => ?_) (fun _ => ?_)
      · skip
        refine zFp_let2 (fun v35 s36 es36 => ?_)
        have gs36 : zFr A σ s36 := (fr_X10_mouthFlow gs30 ).of es36
        refine zFp_let (fun v37 _ => ?_)
        exact ih _ _ _ _ gs36
      · skip
        refine zFp_let (fun v34 _ => ?_)
        exact ih _ _ _ _ gs30
    · skip
      refine zFp_if (fun _ => ?_) (fun _ => ?_)
      · skip
        exact g
      · skip
        exact g
set_option maxRecDepth 100000 in
theorem fr_X10_reign_44 {A : Nat → Nat → Prop} {σ : zS} {a0 : Nat} {p1 : Int32} {p2 : Int32} {p3 : Int32}  (h0 : ∀ j, A ((σ.2.2 ((σ.2.2 a0 2).getD 0) 4).getD 0) j) (h1 : ∀ j, A ((σ.2.2 ((σ.2.2 ((σ.2.2 a0 2).getD 0) 1).getD 0) 0).getD 0) j) (h2 : ∀ j, A ((σ.2.2 ((σ.2.2 ((σ.2.2 a0 2).getD 0) 1).getD 0) 1).getD 0) j) (h3 : ∀ j, A ((σ.2.2 a0 9).getD 0) j) (h4 : ∀ j, A ((σ.2.2 ((σ.2.2 ((σ.2.2 a0 2).getD 0) 6).getD 0) 2).getD 0) j) (h5 : ∀ j, A ((σ.2.2 ((σ.2.2 ((σ.2.2 a0 2).getD 0) 6).getD 0) 1).getD 0) j) (h6 : A ((σ.2.2 ((σ.2.2 a0 2).getD 0) 6).getD 0) 4) (h7 : ∀ j, A ((σ.2.2 ((σ.2.2 a0 2).getD 0) 2).getD 0) j) (h8 : ∀ j, A ((σ.2.2 ((σ.2.2 a0 2).getD 0) 3).getD 0) j) : ∀ (n : Nat) (x19 : Int32) (τ20 : zS), zFr A σ τ20 → zFp A σ (F_X10_reign_44 a0 p1 p2 p3 n x19 τ20) := by
  intro n
  induction n with
  | zero => intro x19 τ20 g; exact g
  | succ n ih =>
    intro x19 τ20 g
    rw [F_X10_reign_44]
    refine zFp_if (fun _ => ?_) (fun _ => ?_)
    · skip
      refine zFp_let (fun v29 ev29 => ?_)
      rw [g.rf] at ev29
      subst ev29
      refine zFp_let2 (fun v30 s31 es31 => ?_)
      have gs31 : zFr A σ s31 := (fr_X5_winnerBy g h0 h1 h2).of es31
      refine zFp_if (fun _ => ?_) (fun _ => ?_)
      · skip
        refine zFp_let (fun v36 ev36 => ?_)
        rw [gs31.rf] at ev36
        subst ev36
        refine zFp_let (fun v37 _ => ?_)
        refine zFp_let (fun v38 _ => ?_)
        refine zFp_let (fun v39 _ => ?_)
        refine zFp_let (fun s40 es40 => ?_)
        have gs40 : zFr A σ s40 := by rw [es40]; exact gs31.w (h3 _)
        refine zFp_let (fun v41 ev41 => ?_)
        rw [gs40.rf] at ev41
        subst ev41
        refine zFp_let (fun s42 es42 => ?_)
        have gs42 : zFr A σ s42 := by rw [es42]; exact fr_X5_goOn gs40 h0 h1 h2 h4 h5 h6 h7 h8
        refine zFp_let (fun v43 _ => ?_)
        exact ih _ _ gs42
      · skip
        refine zFp_let (fun v33 ev33 => ?_)
        rw [gs31.rf] at ev33
        subst ev33
        refine zFp_let (fun s34 es34 => ?_)
        have gs34 : zFr A σ s34 := by rw [es34]; exact fr_X5_goOn gs31 h0 h1 h2 h4 h5 h6 h7 h8
        refine zFp_let (fun v35 _ => ?_)
        exact ih _ _ gs34
    · skip
      refine zFp_if (fun _ => ?_) (fun _ => ?_)
      · skip
        refine zFp_let2 (fun v27 s28 es28 => ?_)
        have gs28 : zFr A σ s28 := (fr_X10_tallied g ).of es28
        exact gs28
      · skip
        refine zFp_let2 (fun v25 s26 es26 => ?_)
        have gs26 : zFr A σ s26 := (fr_X10_mostTallied g ).of es26
        exact gs26
set_option maxRecDepth 100000 in
theorem fr_X10_when_23 {A : Nat → Nat → Prop} {σ : zS} {a0 : Nat} {p1 : Int32}  (h0 : ∀ j, A ((σ.2.2 ((σ.2.2 a0 2).getD 0) 4).getD 0) j) (h1 : ∀ j, A ((σ.2.2 ((σ.2.2 ((σ.2.2 a0 2).getD 0) 1).getD 0) 0).getD 0) j) (h2 : ∀ j, A ((σ.2.2 ((σ.2.2 ((σ.2.2 a0 2).getD 0) 1).getD 0) 1).getD 0) j) (h3 : ∀ j, A ((σ.2.2 ((σ.2.2 ((σ.2.2 a0 2).getD 0) 6).getD 0) 2).getD 0) j) (h4 : ∀ j, A ((σ.2.2 ((σ.2.2 ((σ.2.2 a0 2).getD 0) 6).getD 0) 1).getD 0) j) (h5 : A ((σ.2.2 ((σ.2.2 a0 2).getD 0) 6).getD 0) 4) (h6 : ∀ j, A ((σ.2.2 ((σ.2.2 a0 2).getD 0) 2).getD 0) j) (h7 : ∀ j, A ((σ.2.2 ((σ.2.2 a0 2).getD 0) 3).getD 0) j) : ∀ (n : Nat) (x8 : Int32) (τ9 : zS), zFr A σ τ9 → zFp A σ (F_X10_when_23 a0 p1 n x8 τ9) := by
  intro n
  induction n with
  | zero => intro x8 τ9 g; exact g
  | succ n ih =>
    intro x8 τ9 g
    rw [F_X10_when_23]
    refine zFp_let (fun v10 _ => ?_)
    refine zFp_if (fun _ => ?_) (fun _ => ?_)
    · skip
      refine zFp_let (fun v12 _ => ?_)
      exact g
    · skip
      refine zFp_let (fun v13 ev13 => ?_)
      rw [g.rf] at ev13
      subst ev13
      refine zFp_let (fun s14 es14 => ?_)
      have gs14 : zFr A σ s14 := by rw [es14]; exact fr_X5_goOn g h0 h1 h2 h3 h4 h5 h6 h7
      refine zFp_let (fun v15 ev15 => ?_)
      rw [gs14.rf] at ev15
      subst ev15
      refine zFp_let (fun v16 ev16 => ?_)
      rw [gs14.rf] at ev16
      subst ev16
      refine zFp_let (fun v17 _ => ?_)
      refine zFp_let (fun v18 ev18 => ?_)
      rw [gs14.rf] at ev18
      subst ev18
      refine zFp_let (fun v19 ev19 => ?_)
      rw [gs14.rf] at ev19
      subst ev19
      refine zFp_let (fun v20 _ => ?_)
      refine zFp_if (fun _ => ?_) (fun _ => ?_)
      · skip
        exact gs14
      · skip
        refine zFp_let (fun v24 _ => ?_)
        exact ih _ _ gs14
set_option maxRecDepth 100000 in
theorem fr_X10_parted_23 {A : Nat → Nat → Prop} {σ : zS} {v3 : Int32} {a0 : Nat}   : ∀ (n : Nat) (x9 : Int32) (x10 : Int32) (τ11 : zS), zFr A σ τ11 → zFp A σ (F_X10_parted_23 v3 a0 n x9 x10 τ11) := by
  intro n
  induction n with
  | zero => intro x9 x10 τ11 g; exact g
  | succ n ih =>
    intro x9 x10 τ11 g
    rw [F_X10_parted_23]
    refine zFp_if (fun _ => ?_) (fun _ => ?_)
    · skip
      refine zFp_let (fun v15 _ => ?_)
      refine zFp_if (fun _ => ?_) (fun _ => ?_)
      · skip
        refine zFp_let (fun v18 ev18 => ?_)
        rw [g.rf] at ev18
        subst ev18
        refine zFp_let2 (fun v19 s20 es20 => ?_)
        have gs20 : zFr A σ s20 := (fr_X6_tourOf g ).of es20
        refine zFp_let (fun v21 ev21 => ?_)
        rw [gs20.rf] at ev21
        subst ev21
        refine zFp_let (fun v22 _ => ?_)
        refine zFp_let (fun v23 _ => ?_)
        refine zFp_let (fun v24 _ => ?_)
        refine zFp_let2 (fun v25 s26 es26 => ?_)
        have gs26 : zFr A σ s26 := (fr_X6_tourOf gs20 ).of es26
        refine zFp_let (fun v27 _ => ?_)
        refine zFp_let (fun v28 _ => ?_)
        refine zFp_let (fun v29 _ => ?_)
        exact ih _ _ _ gs26
      · skip
        refine zFp_let (fun v17 _ => ?_)
        exact ih _ _ _ g
    · skip
      exact g
set_option maxRecDepth 100000 in
theorem fr_X10_tell {A : Nat → Nat → Prop} {σ σ0 : zS} {a0 : Nat} {p1 : Int32} {p2 : Int32} {p3 : Int32} {p4 : Int32}  (g : zFr A σ σ0) (h0 : ∀ j, A ((σ.2.2 ((σ.2.2 a0 5).getD 0) 0).getD 0) j) (h1 : ∀ j, A ((σ.2.2 ((σ.2.2 a0 5).getD 0) 1).getD 0) j) (h2 : ∀ j, A ((σ.2.2 ((σ.2.2 a0 5).getD 0) 2).getD 0) j) (h3 : ∀ j, A ((σ.2.2 ((σ.2.2 a0 5).getD 0) 3).getD 0) j) (h4 : A (((σ.2.2 a0 5).getD 0)) 4) : zFp A σ (F_X10_tell a0 p1 p2 p3 p4 σ0) := by
  unfold F_X10_tell
  refine zFp_let2 (fun v1 s2 es2 => ?_)
  have gs2 : zFr A σ s2 := (fr_X10_isPlace g ).of es2
  refine zFp_if (fun _ => ?_) (fun _ => ?_)
  · skip
    refine zFp_let (fun v4 _ => ?_)
    exact gs2
  · skip
    refine zFp_let (fun v5 _ => ?_)
    refine zFp_let (fun v6 _ => ?_)
    refine zFp_let (fun v7 _ => ?_)
    refine zFp_if (fun _ => ?_) (fun _ => ?_)
    · skip
      refine zFp_let (fun v9 _ => ?_)
      exact gs2
    · skip
      refine zFp_let (fun v10 _ => ?_)
      refine zFp_let (fun v11 _ => ?_)
      refine zFp_if (fun _ => ?_) (fun _ => ?_)
      · skip
        refine zFp_let (fun v16 _ => ?_)
        exact gs2
      · skip
        refine zFp_let (fun v13 ev13 => ?_)
        rw [gs2.rf] at ev13
        subst ev13
        refine zFp_let2 (fun v14 s15 es15 => ?_)
        have gs15 : zFr A σ s15 := (fr_X2_add gs2 h0 h1 h2 h3 h4).of es15
        exact gs15
set_option maxRecDepth 100000 in
theorem fr_X10_forget {A : Nat → Nat → Prop} {σ σ0 : zS} {a0 : Nat}  (g : zFr A σ σ0) (h0 : A ((σ.2.2 a0 5).getD 0) 4) : zFp A σ (F_X10_forget a0 σ0) := by
  unfold F_X10_forget
  refine zFp_let (fun v1 ev1 => ?_)
  rw [g.rf] at ev1
  subst ev1
  refine zFp_let (fun v2 _ => ?_)
  refine zFp_let (fun v3 ev3 => ?_)
  rw [g.rf] at ev3
  subst ev3
  refine zFp_let (fun v4 _ => ?_)
  refine zFp_let (fun s5 es5 => ?_)
  have gs5 : zFr A σ s5 := by rw [es5]; exact g.w h0
  exact gs5
set_option maxRecDepth 100000 in
theorem fr_X10_watch_46 {A : Nat → Nat → Prop} {σ : zS} {v9 : Int32} {a0 : Nat} {p1 : Int32}   : ∀ (n : Nat) (x14 : Int32) (x15 : Int32) (τ16 : zS), zFr A σ τ16 → zFp A σ (F_X10_watch_46 v9 a0 p1 n x14 x15 τ16) := by
  intro n
  induction n with
  | zero => intro x14 x15 τ16 g; exact g
  | succ n ih =>
    intro x14 x15 τ16 g
    rw [F_X10_watch_46]
    refine zFp_let (fun v17 ev17 => ?_)
    rw [g.rf] at ev17
    subst ev17
    refine zFp_let (fun v18 _ => ?_)
    refine zFp_if (fun _ => ?_) (fun _ => ?_)
    · skip
      refine zFp_let2 (fun v20 s21 es21 => ?_)
      have gs21 : zFr A σ s21 := (fr_X10_leftAtWorst g ).of es21
      refine zFp_let2 (fun v22 s23 es23 => ?_)
      have gs23 : zFr A σ s23 := (fr_X10_leftAtWorst gs21 ).of es23
      refine zFp_if (fun _ => ?_) (fun _ => ?_)
      · skip
        refine zFp_let (fun v28 _ => ?_)
        exact ih _ _ _ gs23
      · skip
        refine zFp_let (fun v27 _ => ?_)
        exact ih _ _ _ gs23
    · skip
      exact g
set_option maxRecDepth 100000 in
theorem fr_X10_back {A : Nat → Nat → Prop} {σ σ0 : zS} {a0 : Nat} {p1 : Int32}  (g : zFr A σ σ0) (h0 : A ((σ.2.2 a0 0).getD 0) 1) : zFp A σ (F_X10_back a0 p1 σ0) := by
  unfold F_X10_back
  refine zFp_if (fun _ => ?_) (fun _ => ?_)
  · skip
    refine zFp_let (fun v2 _ => ?_)
    exact g
  · skip
    refine zFp_let (fun v3 ev3 => ?_)
    rw [g.rf] at ev3
    subst ev3
    refine zFp_let (fun v4 _ => ?_)
    refine zFp_if (fun _ => ?_) (fun _ => ?_)
    · skip
      refine zFp_let (fun v13 _ => ?_)
      exact g
    · skip
      refine zFp_let (fun v7 ev7 => ?_)
      rw [g.rf] at ev7
      subst ev7
      refine zFp_let (fun v8 _ => ?_)
      refine zFp_let (fun v9 _ => ?_)
      refine zFp_let (fun s10 es10 => ?_)
      have gs10 : zFr A σ s10 := by rw [es10]; exact g.w h0
      refine zFp_let (fun v11 ev11 => ?_)
      rw [gs10.rf] at ev11
      subst ev11
      refine zFp_let (fun v12 _ => ?_)
      exact gs10
set_option maxRecDepth 100000 in
theorem fr_X10_feed {A : Nat → Nat → Prop} {σ σ0 : zS} {a0 : Nat} {p1 : Int32} {p2 : Int32} {p3 : Int32} {p4 : Int32} {p5 : Int32}  (g : zFr A σ σ0) (h0 : ∀ j, A ((σ.2.2 ((σ.2.2 a0 0).getD 0) 0).getD 0) j) (h1 : A (((σ.2.2 a0 0).getD 0)) 1) : zFp A σ (F_X10_feed a0 p1 p2 p3 p4 p5 σ0) := by
  unfold F_X10_feed
  refine zFp_let (fun v1 ev1 => ?_)
  rw [g.rf] at ev1
  subst ev1
  refine zFp_let (fun v2 _ => ?_)
  refine zFp_let (fun v3 _ => ?_)
  refine zFp_let (fun v4 _ => ?_)
  refine zFp_let (fun v5 _ => ?_)
  refine zFp_if (fun _ => ?_) (fun _ => ?_)
  · skip
    refine zFp_let (fun v19 _ => ?_)
    exact g
  · skip
    refine zFp_let (fun v7 ev7 => ?_)
    rw [g.rf] at ev7
    subst ev7
    refine zFp_let (fun s8 es8 => ?_)
    have gs8 : zFr A σ s8 := by rw [es8]; exact fr_X7_append g h0 h1
    refine zFp_let (fun v9 ev9 => ?_)
    rw [gs8.rf] at ev9
    subst ev9
    refine zFp_let (fun s10 es10 => ?_)
    have gs10 : zFr A σ s10 := by rw [es10]; exact fr_X7_append gs8 h0 h1
    refine zFp_let (fun v11 ev11 => ?_)
    rw [gs10.rf] at ev11
    subst ev11
    refine zFp_let (fun s12 es12 => ?_)
    have gs12 : zFr A σ s12 := by rw [es12]; exact fr_X7_append gs10 h0 h1
    refine zFp_let (fun v13 ev13 => ?_)
    rw [gs12.rf] at ev13
    subst ev13
    refine zFp_let (fun s14 es14 => ?_)
    have gs14 : zFr A σ s14 := by rw [es14]; exact fr_X7_append gs12 h0 h1
    refine zFp_let (fun v15 ev15 => ?_)
    rw [gs14.rf] at ev15
    subst ev15
    refine zFp_let (fun s16 es16 => ?_)
    have gs16 : zFr A σ s16 := by rw [es16]; exact fr_X7_append gs14 h0 h1
    refine zFp_let (fun v17 ev17 => ?_)
    rw [gs16.rf] at ev17
    subst ev17
    refine zFp_let (fun v18 _ => ?_)
    exact gs16
set_option maxRecDepth 100000 in
theorem fr_X8_kindOf_6 {A : Nat → Nat → Prop} {σ : zS} {a0 : Nat} {p1 : Int64}   : ∀ (n : Nat) (x3 : Int32) (x4 : Int32) (τ5 : zS), zFr A σ τ5 → zFp A σ (F_X8_kindOf_6 a0 p1 n x3 x4 τ5) := by
  intro n
  induction n with
  | zero => intro x3 x4 τ5 g; exact g
  | succ n ih =>
    intro x3 x4 τ5 g
    rw [F_X8_kindOf_6]
    refine zFp_let (fun v6 _ => ?_)
    refine zFp_if (fun _ => ?_) (fun _ => ?_)
    · skip
      refine zFp_let (fun v8 ev8 => ?_)
      rw [g.rf] at ev8
      subst ev8
      refine zFp_let (fun v9 _ => ?_)
      refine zFp_let (fun v10 _ => ?_)
      refine zFp_if (fun _ => ?_) (fun _ => ?_)
      · skip
        refine zFp_let (fun v13 _ => ?_)
        exact ih _ _ _ g
      · skip
        refine zFp_let (fun v12 _ => ?_)
        exact ih _ _ _ g
    · skip
      exact g
set_option maxRecDepth 100000 in
theorem fr_X8_kindOf {A : Nat → Nat → Prop} {σ σ0 : zS} {a0 : Nat} {p1 : Int64}  (g : zFr A σ σ0)  : zFp A σ (F_X8_kindOf a0 p1 σ0) := by
  unfold F_X8_kindOf
  refine zFp_let (fun v1 _ => ?_)
  refine zFp_let (fun v2 _ => ?_)
  exact fr_X8_kindOf_6   _ _ _ _ g
set_option maxRecDepth 100000 in
theorem fr_X8_pastBlanks_2 {A : Nat → Nat → Prop} {σ : zS} {p1 : Nat} {p2 : Int32} {p3 : Int32}   : ∀ (n : Nat) (x1 : Int32) (τ2 : zS), zFr A σ τ2 → zFp A σ (F_X8_pastBlanks_2 p1 p2 p3 n x1 τ2) := by
  intro n
  induction n with
  | zero => intro x1 τ2 g; exact g
  | succ n ih =>
    intro x1 τ2 g
    rw [F_X8_pastBlanks_2]
    refine zFp_if (fun _ => ?_) (fun _ => ?_)
    · skip
      refine zFp_let (fun v5 _ => ?_)
      refine zFp_let (fun v6 _ => ?_)
      refine zFp_if (fun _ => ?_) (fun _ => ?_)
      · skip
        refine zFp_let (fun v8 _ => ?_)
        exact ih _ _ g
      · skip
        refine zFp_let (fun v9 _ => ?_)
        refine zFp_let (fun v10 _ => ?_)
        refine zFp_if (fun _ => ?_) (fun _ => ?_)
        · skip
          refine zFp_let (fun v12 _ => ?_)
          exact ih _ _ g
        · skip
          refine zFp_let (fun v13 _ => ?_)
          refine zFp_let (fun v14 _ => ?_)
          refine zFp_if (fun _ => ?_) (fun _ => ?_)
          · skip
            refine zFp_let (fun v16 _ => ?_)
            exact ih _ _ g
          · skip
            refine zFp_let (fun v17 _ => ?_)
            refine zFp_let (fun v18 _ => ?_)
            refine zFp_if (fun _ => ?_) (fun _ => ?_)
            · skip
              refine zFp_let (fun v20 _ => ?_)
              exact ih _ _ g
            · skip
              exact g
    · skip
      exact g
set_option maxRecDepth 100000 in
theorem fr_X8_pastBlanks {A : Nat → Nat → Prop} {σ σ0 : zS} {p1 : Nat} {p2 : Int32} {p3 : Int32}  (g : zFr A σ σ0)  : zFp A σ (F_X8_pastBlanks p1 p2 p3 σ0) := by
  unfold F_X8_pastBlanks
  exact fr_X8_pastBlanks_2   _ _ _ g
set_option maxRecDepth 100000 in
theorem fr_X3_fail {A : Nat → Nat → Prop} {σ σ0 : zS} {a0 : Nat} {p1 : Int32}  (g : zFr A σ σ0) (h0 : A a0 8) (h1 : A a0 9) (h2 : A a0 3) : zFr A σ (F_X3_fail a0 p1 σ0) := by
  unfold F_X3_fail
  refine zFr_let (fun v1 _ => ?_)
  refine zFr_if (fun _ => ?_) (fun _ => ?_)
  · skip
    refine zFr_let (fun s3 es3 => ?_)
    have gs3 : zFr A σ s3 := by rw [es3]; exact g.w h0
    refine zFr_let (fun v4 _ => ?_)
    refine zFr_let (fun s5 es5 => ?_)
    have gs5 : zFr A σ s5 := by rw [es5]; exact gs3.w h1
    refine zFr_let (fun v6 _ => ?_)
    refine zFr_let (fun s7 es7 => ?_)
    have gs7 : zFr A σ s7 := by rw [es7]; exact gs5.w h2
    exact gs7
  · skip
    exact g
set_option maxRecDepth 100000 in
theorem fr_X3_failLate {A : Nat → Nat → Prop} {σ σ0 : zS} {a0 : Nat} {p1 : Int32}  (g : zFr A σ σ0) (h0 : A a0 10) (h1 : A a0 11) : zFr A σ (F_X3_failLate a0 p1 σ0) := by
  unfold F_X3_failLate
  refine zFr_let (fun v1 _ => ?_)
  refine zFr_if (fun _ => ?_) (fun _ => ?_)
  · skip
    refine zFr_let (fun s3 es3 => ?_)
    have gs3 : zFr A σ s3 := by rw [es3]; exact g.w h0
    refine zFr_let (fun v4 _ => ?_)
    refine zFr_let (fun s5 es5 => ?_)
    have gs5 : zFr A σ s5 := by rw [es5]; exact gs3.w h1
    exact gs5
  · skip
    exact g
set_option maxRecDepth 100000 in
theorem fr_X3_placeNamed_13 {A : Nat → Nat → Prop} {σ : zS} {a0 : Nat} {p1 : Int64}   : ∀ (n : Nat) (x4 : Int32) (τ5 : zS), zFr A σ τ5 → zFp A σ (F_X3_placeNamed_13 a0 p1 n x4 τ5) := by
  intro n
  induction n with
  | zero => intro x4 τ5 g; exact g
  | succ n ih =>
    intro x4 τ5 g
    rw [F_X3_placeNamed_13]
    refine zFp_let (fun v6 _ => ?_)
    refine zFp_if (fun _ => ?_) (fun _ => ?_)
    · skip
      refine zFp_let (fun v8 _ => ?_)
      exact g
    · skip
      refine zFp_let (fun v9 _ => ?_)
      refine zFp_if (fun _ => ?_) (fun _ => ?_)
      · skip
        refine zFp_let (fun v11 ev11 => ?_)
        rw [g.rf] at ev11
        subst ev11
        refine zFp_let (fun v12 ev12 => ?_)
        rw [g.rf] at ev12
        subst ev12
        refine zFp_let (fun v13 _ => ?_)
        refine zFp_let (fun v14 _ => ?_)
        refine zFp_if (fun _ => ?_) (fun _ => ?_)
        · skip
          exact g
        · skip
          refine zFp_let (fun v16 _ => ?_)
          exact ih _ _ g
      · skip
        exact g
set_option maxRecDepth 100000 in
theorem fr_X3_placeNamed_13_1 {A : Nat → Nat → Prop} {σ : zS} {a0 : Nat} {p1 : Int64}   : ∀ (n : Nat) (x18 : Int32) (τ19 : zS), zFr A σ τ19 → zFp A σ (F_X3_placeNamed_13_1 a0 p1 n x18 τ19) := by
  intro n
  induction n with
  | zero => intro x18 τ19 g; exact g
  | succ n ih =>
    intro x18 τ19 g
    rw [F_X3_placeNamed_13_1]
    refine zFp_let (fun v20 _ => ?_)
    refine zFp_if (fun _ => ?_) (fun _ => ?_)
    · skip
      refine zFp_let (fun v22 _ => ?_)
      exact g
    · skip
      refine zFp_let (fun v23 _ => ?_)
      refine zFp_if (fun _ => ?_) (fun _ => ?_)
      · skip
        refine zFp_let (fun v25 ev25 => ?_)
        rw [g.rf] at ev25
        subst ev25
        refine zFp_let (fun v26 ev26 => ?_)
        rw [g.rf] at ev26
        subst ev26
        refine zFp_let (fun v27 _ => ?_)
        refine zFp_let (fun v28 _ => ?_)
        refine zFp_if (fun _ => ?_) (fun _ => ?_)
        · skip
          exact g
        · skip
          refine zFp_let (fun v30 _ => ?_)
          exact ih _ _ g
      · skip
        exact g
set_option maxRecDepth 100000 in
theorem fr_X3_placeNamed {A : Nat → Nat → Prop} {σ σ0 : zS} {a0 : Nat} {p1 : Int64}  (g : zFr A σ σ0)  : zFp A σ (F_X3_placeNamed a0 p1 σ0) := by
  unfold F_X3_placeNamed
  refine zFp_let (fun v1 _ => ?_)
  refine zFp_if (fun _ => ?_) (fun _ => ?_)
  · skip
    refine zFp_let (fun v3 _ => ?_)
    exact fr_X3_placeNamed_13   _ _ _ g
  · skip
    refine zFp_let (fun v17 _ => ?_)
    exact fr_X3_placeNamed_13_1   _ _ _ g
