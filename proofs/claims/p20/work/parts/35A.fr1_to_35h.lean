-- 35A.fr1
section
/-! WHAT A FUNCTION LEAVES AS IT WAS: references and longs as they were, whole numbers too, but for the places A -/
def zFr (A : Nat → Nat → Prop) (σ σ' : zS) : Prop := σ'.2 = σ.2 ∧ ∀ c j, ¬ A c j → σ'.1 c j = σ.1 c j
def zFp {α : Type} (A : Nat → Nat → Prop) (σ : zS) (r : α × zS) : Prop := zFr A σ r.2
section ZFR
variable {A : Nat → Nat → Prop} {σ s : zS} {α β : Type}
theorem zFr.rf (h : zFr A σ s) : s.2.2 = σ.2.2 := congrArg Prod.snd h.1
theorem zFr.id : zFr A σ σ := ⟨rfl, fun _ _ _ => rfl⟩
theorem zFr.w {r j : Nat} {v : Int32} (h : zFr A σ s) (hr : A r j) : zFr A σ (zu s.1 r j v, s.2.1, s.2.2) := ⟨h.1, fun c i n => by
  show zu s.1 r j v c i = _
  unfold zu
  by_cases e : c = r
  · rw [if_pos e]
    by_cases e2 : i = j
    · exact absurd (by rw [e, e2]; exact hr) n
    · rw [if_neg e2]; exact h.2 c i n
  · rw [if_neg e]; exact h.2 c i n⟩
theorem zFr.cp {a r n : Nat} (h : zFr A σ s) (hr : ∀ j, A r j) : zFr A σ (zcpy s a r n) := ⟨h.1, fun c i m => by
  show (if c = r then _ else s.1 c) i = _
  by_cases e : c = r
  · exact absurd (by rw [e]; exact hr i) m
  · rw [if_neg e]; exact h.2 c i m⟩
theorem zFr.fl {r n : Nat} {v : Int32} (h : zFr A σ s) (hr : ∀ j, A r j) : zFr A σ (zfil s r v n) := ⟨h.1, fun c i m => by
  show (if c = r then _ else s.1 c) i = _
  by_cases e : c = r
  · exact absurd (by rw [e]; exact hr i) m
  · rw [if_neg e]; exact h.2 c i m⟩
theorem zFr.up {B : Nat → Nat → Prop} (h : zFr A σ s) (u : ∀ c j, A c j → B c j) : zFr B σ s := ⟨h.1, fun c j n => h.2 c j (fun q => n (u c j q))⟩
theorem zFr.tr {s' : zS} (h : zFr A σ s) (g : zFr A s s') : zFr A σ s' := ⟨g.1.trans h.1, fun c j n => (g.2 c j n).trans (h.2 c j n)⟩
theorem zFp.of {r : α × zS} {v : α} (h : zFp A σ r) (e : (v, s) = r) : zFr A σ s := by rw [show s = r.2 from congrArg Prod.snd e]; exact h
theorem zFr_let {x : α} {f : α → zS} (h : ∀ v, v = x → zFr A σ (f v)) : zFr A σ (zLet x f) := h x rfl
theorem zFr_let2 {x : α × β} {f : α → β → zS} (h : ∀ v s, (v, s) = x → zFr A σ (f v s)) : zFr A σ (zLet2 x f) := h x.1 x.2 rfl
theorem zFp_let {x : α} {f : α → β × zS} (h : ∀ v, v = x → zFp A σ (f v)) : zFp A σ (zLet x f) := h x rfl
theorem zFp_let2 {γ : Type} {x : α × γ} {f : α → γ → β × zS} (h : ∀ v s, (v, s) = x → zFp A σ (f v s)) : zFp A σ (zLet2 x f) := h x.1 x.2 rfl
theorem zFr_if {c : Prop} {i : Decidable c} {x y : zS} (h : c → zFr A σ x) (g : ¬ c → zFr A σ y) : zFr A σ (@ite _ c i x y) := by
  by_cases e : c
  · rw [if_pos e]; exact h e
  · rw [if_neg e]; exact g e
theorem zFp_if {c : Prop} {i : Decidable c} {x y : α × zS} (h : c → zFp A σ x) (g : ¬ c → zFp A σ y) : zFp A σ (@ite _ c i x y) := by
  by_cases e : c
  · rw [if_pos e]; exact h e
  · rw [if_neg e]; exact g e
end ZFR
set_option maxRecDepth 100000 in
theorem fr_X9_isStorm {A : Nat → Nat → Prop} {σ σ0 : zS} {a0 : Nat} {p1 : Int32} {p2 : Int32}  (g : zFr A σ σ0)  : zFp A σ (F_X9_isStorm a0 p1 p2 σ0) := by
  unfold F_X9_isStorm
  refine zFp_let (fun v1 _ => ?_)
  refine zFp_let (fun v2 _ => ?_)
  refine zFp_let (fun v3 _ => ?_)
  refine zFp_let (fun v4 _ => ?_)
  refine zFp_let (fun v5 _ => ?_)
  refine zFp_if (fun _ => ?_) (fun _ => ?_)
  · skip
    refine zFp_let (fun v10 _ => ?_)
    exact g
  · skip
    refine zFp_let (fun v9 _ => ?_)
    exact g
set_option maxRecDepth 100000 in
theorem fr_X1_moon {A : Nat → Nat → Prop} {σ σ0 : zS} {a0 : Nat}  (g : zFr A σ σ0)  : zFp A σ (F_X1_moon a0 σ0) := by
  unfold F_X1_moon
  refine zFp_let (fun v1 _ => ?_)
  refine zFp_let (fun v2 _ => ?_)
  refine zFp_let (fun v3 _ => ?_)
  exact g
set_option maxRecDepth 100000 in
theorem fr_X1_comesBy_5 {A : Nat → Nat → Prop} {σ : zS} {a0 : Nat} {p1 : Int32} {p2 : Int32}   : ∀ (n : Nat) (x2 : Int32) (x3 : Int32) (τ4 : zS), zFr A σ τ4 → zFp A σ (F_X1_comesBy_5 a0 p1 p2 n x2 x3 τ4) := by
  intro n
  induction n with
  | zero => intro x2 x3 τ4 g; exact g
  | succ n ih =>
    intro x2 x3 τ4 g
    rw [F_X1_comesBy_5]
    refine zFp_let (fun v5 _ => ?_)
    refine zFp_if (fun _ => ?_) (fun _ => ?_)
    · skip
      refine zFp_if (fun _ => ?_) (fun _ => ?_)
      · skip
        refine zFp_if (fun _ => ?_) (fun _ => ?_)
        · skip
          refine zFp_let (fun v13 _ => ?_)
          exact g
        · skip
          refine zFp_let (fun v12 _ => ?_)
          exact g
      · skip
        refine zFp_if (fun _ => ?_) (fun _ => ?_)
        · skip
          refine zFp_if (fun _ => ?_) (fun _ => ?_)
          · skip
            refine zFp_let (fun v17 _ => ?_)
            exact g
          · skip
            refine zFp_let (fun v16 _ => ?_)
            exact g
        · skip
          refine zFp_let (fun v18 ev18 => ?_)
          rw [g.rf] at ev18
          subst ev18
          refine zFp_let (fun v19 _ => ?_)
          refine zFp_let (fun v20 _ => ?_)
          exact ih _ _ _ g
    · skip
      refine zFp_if (fun _ => ?_) (fun _ => ?_)
      · skip
        refine zFp_let (fun v9 _ => ?_)
        exact g
      · skip
        refine zFp_let (fun v8 _ => ?_)
        exact g
set_option maxRecDepth 100000 in
theorem fr_X1_comesBy {A : Nat → Nat → Prop} {σ σ0 : zS} {a0 : Nat} {p1 : Int32} {p2 : Int32}  (g : zFr A σ σ0)  : zFp A σ (F_X1_comesBy a0 p1 p2 σ0) := by
  unfold F_X1_comesBy
  refine zFp_let (fun v1 _ => ?_)
  exact fr_X1_comesBy_5   _ _ _ _ g
set_option maxRecDepth 100000 in
theorem fr_X1_copy {A : Nat → Nat → Prop} {σ σ0 : zS} {a0 : Nat} {p1 : Nat}  (g : zFr A σ σ0) (h0 : ∀ j, A ((σ.2.2 a0 0).getD 0) j) (h1 : ∀ j, A ((σ.2.2 a0 1).getD 0) j) (h2 : ∀ j, A ((σ.2.2 a0 2).getD 0) j) (h3 : A a0 3) (h4 : A a0 4) (h5 : A a0 5) : zFr A σ (F_X1_copy a0 p1 σ0) := by
  unfold F_X1_copy
  refine zFr_let (fun v1 ev1 => ?_)
  rw [g.rf] at ev1
  subst ev1
  refine zFr_let (fun v2 _ => ?_)
  refine zFr_let (fun v3 ev3 => ?_)
  rw [g.rf] at ev3
  subst ev3
  refine zFr_let (fun v4 _ => ?_)
  refine zFr_let (fun v5 _ => ?_)
  refine zFr_let (fun s6 es6 => ?_)
  have gs6 : zFr A σ s6 := by rw [es6]; exact g.cp h0
  refine zFr_let (fun v7 ev7 => ?_)
  rw [gs6.rf] at ev7
  subst ev7
  refine zFr_let (fun v8 _ => ?_)
  refine zFr_let (fun v9 ev9 => ?_)
  rw [gs6.rf] at ev9
  subst ev9
  refine zFr_let (fun v10 _ => ?_)
  refine zFr_let (fun v11 _ => ?_)
  refine zFr_let (fun s12 es12 => ?_)
  have gs12 : zFr A σ s12 := by rw [es12]; exact gs6.cp h1
  refine zFr_let (fun v13 ev13 => ?_)
  rw [gs12.rf] at ev13
  subst ev13
  refine zFr_let (fun v14 _ => ?_)
  refine zFr_let (fun v15 ev15 => ?_)
  rw [gs12.rf] at ev15
  subst ev15
  refine zFr_let (fun v16 _ => ?_)
  refine zFr_let (fun v17 _ => ?_)
  refine zFr_let (fun s18 es18 => ?_)
  have gs18 : zFr A σ s18 := by rw [es18]; exact gs12.cp h2
  refine zFr_let (fun v19 _ => ?_)
  refine zFr_let (fun s20 es20 => ?_)
  have gs20 : zFr A σ s20 := by rw [es20]; exact gs18.w h3
  refine zFr_let (fun v21 _ => ?_)
  refine zFr_let (fun s22 es22 => ?_)
  have gs22 : zFr A σ s22 := by rw [es22]; exact gs20.w h4
  refine zFr_let (fun v23 _ => ?_)
  refine zFr_let (fun s24 es24 => ?_)
  have gs24 : zFr A σ s24 := by rw [es24]; exact gs22.w h5
  exact gs24
set_option maxRecDepth 100000 in
theorem fr_X1_pay {A : Nat → Nat → Prop} {σ σ0 : zS} {a0 : Nat} {p1 : Int32} {p2 : Int32}  (g : zFr A σ σ0) (h0 : ∀ j, A ((σ.2.2 a0 2).getD 0) j) (h1 : ∀ j, A ((σ.2.2 a0 1).getD 0) j) : zFr A σ (F_X1_pay a0 p1 p2 σ0) := by
  unfold F_X1_pay
  refine zFr_let (fun v1 ev1 => ?_)
  rw [g.rf] at ev1
  subst ev1
  refine zFr_let (fun v2 _ => ?_)
  refine zFr_let (fun v3 _ => ?_)
  refine zFr_let (fun s4 es4 => ?_)
  have gs4 : zFr A σ s4 := by rw [es4]; exact g.w (h0 _)
  refine zFr_let (fun v5 ev5 => ?_)
  rw [gs4.rf] at ev5
  subst ev5
  refine zFr_let (fun v6 _ => ?_)
  refine zFr_let (fun v7 ev7 => ?_)
  rw [gs4.rf] at ev7
  subst ev7
  refine zFr_let (fun v8 _ => ?_)
  refine zFr_let (fun v9 _ => ?_)
  refine zFr_let (fun v10 _ => ?_)
  refine zFr_let (fun v11 _ => ?_)
  refine zFr_let (fun s12 es12 => ?_)
  have gs12 : zFr A σ s12 := by rw [es12]; exact gs4.w (h1 _)
  exact gs12
set_option maxRecDepth 100000 in
theorem fr_X0_answer_13 {A : Nat → Nat → Prop} {σ : zS} {a0 : Nat} {p1 : Nat} {p2 : Int32}  (h0 : ∀ j, A ((σ.2.2 a0 1).getD 0) j) : ∀ (n : Nat) (x5 : Int32) (x6 : Int32) (x7 : Int32) (τ8 : zS), zFr A σ τ8 → zFp A σ (F_X0_answer_13 a0 p1 p2 n x5 x6 x7 τ8) := by
  intro n
  induction n with
  | zero => intro x5 x6 x7 τ8 g; exact g
  | succ n ih =>
    intro x5 x6 x7 τ8 g
    rw [F_X0_answer_13]
    refine zFp_let (fun v9 _ => ?_)
    refine zFp_if (fun _ => ?_) (fun _ => ?_)
    · skip
      refine zFp_if (fun _ => ?_) (fun _ => ?_)
      · skip
        refine zFp_let (fun v13 _ => ?_)
        exact g
      · skip
        refine zFp_let (fun v14 _ => ?_)
        refine zFp_if (fun _ => ?_) (fun _ => ?_)
        · skip
          refine zFp_let (fun v18 ev18 => ?_)
          rw [g.rf] at ev18
          subst ev18
          refine zFp_let (fun v19 _ => ?_)
          refine zFp_let (fun v20 ev20 => ?_)
          rw [g.rf] at ev20
          subst ev20
          refine zFp_let (fun v21 _ => ?_)
          refine zFp_let (fun v22 _ => ?_)
          refine zFp_let (fun v23 _ => ?_)
          refine zFp_if (fun _ => ?_) (fun _ => ?_)
          · skip
            refine zFp_if (fun _ => ?_) (fun _ => ?_)
            · skip
              refine zFp_let (fun v109 ev109 => ?_)
              rw [g.rf] at ev109
              subst ev109
              refine zFp_let (fun v110 _ => ?_)
              refine zFp_let (fun v111 _ => ?_)
              refine zFp_let (fun v112 _ => ?_)
              exact g
            · skip
              refine zFp_let (fun v108 _ => ?_)
              exact g
          · skip
            refine zFp_if (fun _ => ?_) (fun _ => ?_)
            · skip
              refine zFp_let (fun v26 _ => ?_)
              refine zFp_if (fun _ => ?_) (fun _ => ?_)
              · skip
                refine zFp_if (fun _ => ?_) (fun _ => ?_)
                · skip
                  refine zFp_let (fun v30 _ => ?_)
                  exact g
                · skip
                  refine zFp_let (fun v31 _ => ?_)
                  refine zFp_if (fun _ => ?_) (fun _ => ?_)
                  · skip
                    exact g
                  · skip
                    refine zFp_let (fun v33 ev33 => ?_)
                    rw [g.rf] at ev33
                    subst ev33
                    refine zFp_if (fun _ => ?_) (fun _ => ?_)
                    · skip
                      refine zFp_let (fun s35 es35 => ?_)
                      have gs35 : zFr A σ s35 := by rw [es35]; exact g.w (h0 _)
                      refine zFp_let (fun v36 _ => ?_)
                      refine zFp_let (fun v37 _ => ?_)
                      exact ih _ _ _ _ gs35
                    · skip
                      exact g
              · skip
                refine zFp_let (fun v28 _ => ?_)
                exact g
            · skip
              refine zFp_let (fun v38 _ => ?_)
              refine zFp_if (fun _ => ?_) (fun _ => ?_)
              · skip
                refine zFp_let (fun v89 _ => ?_)
                refine zFp_if (fun _ => ?_) (fun _ => ?_)
                · skip
                  refine zFp_if (fun _ => ?_) (fun _ => ?_)
                  · skip
                    refine zFp_let (fun v93 _ => ?_)
                    exact g
                  · skip
                    refine zFp_let (fun v94 _ => ?_)
                    refine zFp_if (fun _ => ?_) (fun _ => ?_)
                    · skip
                      refine zFp_let (fun v96 _ => ?_)
                      refine zFp_if (fun _ => ?_) (fun _ => ?_)
                      · skip
                        refine zFp_let (fun v99 ev99 => ?_)
                        rw [g.rf] at ev99
                        subst ev99
                        refine zFp_if (fun _ => ?_) (fun _ => ?_)
                        · skip
                          exact g
                        · skip
                          refine zFp_let (fun v101 ev101 => ?_)
                          rw [g.rf] at ev101
                          subst ev101
                          refine zFp_let (fun v102 _ => ?_)
                          refine zFp_let (fun s103 es103 => ?_)
                          have gs103 : zFr A σ s103 := by rw [es103]; exact g.w (h0 _)
                          refine zFp_let (fun v104 _ => ?_)
                          refine zFp_let (fun v105 _ => ?_)
                          exact ih _ _ _ _ gs103
                      · skip
                        refine zFp_let (fun v106 _ => ?_)
                        exact g
                    · skip
                      exact g
                · skip
                  refine zFp_let (fun v91 _ => ?_)
                  exact g
              · skip
                refine zFp_let (fun v40 _ => ?_)
                refine zFp_if (fun _ => ?_) (fun _ => ?_)
                · skip
                  refine zFp_let (fun v88 _ => ?_)
                  exact g
                · skip
                  refine zFp_let (fun v42 _ => ?_)
                  refine zFp_let (fun v43 ev43 => ?_)
                  rw [g.rf] at ev43
                  subst ev43
                  refine zFp_let (fun v44 _ => ?_)
                  refine zFp_let (fun v45 ev45 => ?_)
                  rw [g.rf] at ev45
                  subst ev45
                  refine zFp_let (fun v46 _ => ?_)
                  refine zFp_let (fun v47 _ => ?_)
                  refine zFp_let (fun v48 _ => ?_)
                  refine zFp_if (fun _ => ?_) (fun _ => ?_)
                  · skip
                    refine zFp_let (fun v50 ev50 => ?_)
                    rw [g.rf] at ev50
                    subst ev50
                    refine zFp_let (fun v51 _ => ?_)
                    refine zFp_let (fun v52 _ => ?_)
                    refine zFp_let (fun v53 _ => ?_)
                    refine zFp_let (fun s54 es54 => ?_)
                    have gs54 : zFr A σ s54 := by rw [es54]; exact g.w (h0 _)
                    refine zFp_let (fun v55 _ => ?_)
                    exact ih _ _ _ _ gs54
                  · skip
                    refine zFp_if (fun _ => ?_) (fun _ => ?_)
                    · skip
                      refine zFp_let (fun v57 ev57 => ?_)
                      rw [g.rf] at ev57
                      subst ev57
                      refine zFp_let (fun v58 _ => ?_)
                      refine zFp_let (fun v59 _ => ?_)
                      refine zFp_let (fun v60 _ => ?_)
                      refine zFp_let (fun s61 es61 => ?_)
                      have gs61 : zFr A σ s61 := by rw [es61]; exact g.w (h0 _)
                      refine zFp_let (fun v62 _ => ?_)
                      exact ih _ _ _ _ gs61
                    · skip
                      refine zFp_if (fun _ => ?_) (fun _ => ?_)
                      · skip
                        refine zFp_let (fun v64 ev64 => ?_)
                        rw [g.rf] at ev64
                        subst ev64
                        refine zFp_let (fun v65 _ => ?_)
                        refine zFp_let (fun v66 _ => ?_)
                        refine zFp_let (fun v67 _ => ?_)
                        refine zFp_let (fun s68 es68 => ?_)
                        have gs68 : zFr A σ s68 := by rw [es68]; exact g.w (h0 _)
                        refine zFp_let (fun v69 _ => ?_)
                        exact ih _ _ _ _ gs68
                      · skip
                        refine zFp_if (fun _ => ?_) (fun _ => ?_)
                        · skip
                          refine zFp_if (fun _ => ?_) (fun _ => ?_)
                          · skip
                            refine zFp_let (fun v78 _ => ?_)
                            exact g
                          · skip
                            refine zFp_let (fun v72 ev72 => ?_)
                            rw [g.rf] at ev72
                            subst ev72
                            refine zFp_let (fun v73 _ => ?_)
                            refine zFp_let (fun v74 _ => ?_)
                            refine zFp_let (fun v75 _ => ?_)
                            refine zFp_let (fun s76 es76 => ?_)
                            have gs76 : zFr A σ s76 := by rw [es76]; exact g.w (h0 _)
                            refine zFp_let (fun v77 _ => ?_)
                            exact ih _ _ _ _ gs76
                        · skip
                          refine zFp_let (fun v79 _ => ?_)
                          refine zFp_if (fun _ => ?_) (fun _ => ?_)
                          · skip
                            refine zFp_let (fun v83 _ => ?_)
                            exact ih _ _ _ _ g
                          · skip
                            refine zFp_if (fun _ => ?_) (fun _ => ?_)
                            · skip
                              refine zFp_let (fun v87 _ => ?_)
                              exact ih _ _ _ _ g
                            · skip
                              refine zFp_let (fun v86 _ => ?_)
                              exact ih _ _ _ _ g
        · skip
          refine zFp_let (fun v17 _ => ?_)
          exact g
    · skip
      refine zFp_let (fun v11 _ => ?_)
      exact g
set_option maxRecDepth 100000 in
theorem fr_X0_answer {A : Nat → Nat → Prop} {σ σ0 : zS} {a0 : Nat} {p1 : Nat} {p2 : Int32}  (g : zFr A σ σ0) (h0 : ∀ j, A ((σ.2.2 a0 1).getD 0) j) : zFp A σ (F_X0_answer a0 p1 p2 σ0) := by
  unfold F_X0_answer
  refine zFp_let (fun v1 _ => ?_)
  refine zFp_let (fun v2 ev2 => ?_)
  rw [g.rf] at ev2
  subst ev2
  refine zFp_let (fun v3 _ => ?_)
  refine zFp_let (fun v4 _ => ?_)
  exact fr_X0_answer_13  h0 _ _ _ _ _ g
set_option maxRecDepth 100000 in
theorem fr_X1_begin {A : Nat → Nat → Prop} {σ σ0 : zS} {a0 : Nat} {p1 : Nat}  (g : zFr A σ σ0) (h0 : ∀ j, A ((σ.2.2 a0 0).getD 0) j) (h1 : ∀ j, A ((σ.2.2 a0 1).getD 0) j) (h2 : ∀ j, A ((σ.2.2 a0 2).getD 0) j) (h3 : A a0 3) (h4 : A a0 4) (h5 : A a0 5) : zFr A σ (F_X1_begin a0 p1 σ0) := by
  unfold F_X1_begin
  refine zFr_let (fun v1 ev1 => ?_)
  rw [g.rf] at ev1
  subst ev1
  refine zFr_let (fun v2 _ => ?_)
  refine zFr_let (fun v3 ev3 => ?_)
  rw [g.rf] at ev3
  subst ev3
  refine zFr_let (fun v4 _ => ?_)
  refine zFr_let (fun v5 _ => ?_)
  refine zFr_let (fun s6 es6 => ?_)
  have gs6 : zFr A σ s6 := by rw [es6]; exact g.cp h0
  refine zFr_let (fun v7 ev7 => ?_)
  rw [gs6.rf] at ev7
  subst ev7
  refine zFr_let (fun v8 _ => ?_)
  refine zFr_let (fun s9 es9 => ?_)
  have gs9 : zFr A σ s9 := by rw [es9]; exact gs6.fl h1
  refine zFr_let (fun v10 ev10 => ?_)
  rw [gs9.rf] at ev10
  subst ev10
  refine zFr_let (fun v11 _ => ?_)
  refine zFr_let (fun s12 es12 => ?_)
  have gs12 : zFr A σ s12 := by rw [es12]; exact gs9.fl h2
  refine zFr_let (fun v13 _ => ?_)
  refine zFr_let (fun s14 es14 => ?_)
  have gs14 : zFr A σ s14 := by rw [es14]; exact gs12.w h3
  refine zFr_let (fun v15 _ => ?_)
  refine zFr_let (fun s16 es16 => ?_)
  have gs16 : zFr A σ s16 := by rw [es16]; exact gs14.w h4
  refine zFr_let (fun v17 _ => ?_)
  refine zFr_let (fun s18 es18 => ?_)
  have gs18 : zFr A σ s18 := by rw [es18]; exact gs16.w h5
  exact gs18
set_option maxRecDepth 100000 in
theorem fr_X6_isSource {A : Nat → Nat → Prop} {σ σ0 : zS} {a0 : Nat} {p1 : Int32}  (g : zFr A σ σ0)  : zFp A σ (F_X6_isSource a0 p1 σ0) := by
  unfold F_X6_isSource
  refine zFp_if (fun _ => ?_) (fun _ => ?_)
  · skip
    refine zFp_let (fun v3 _ => ?_)
    refine zFp_if (fun _ => ?_) (fun _ => ?_)
    · skip
      refine zFp_let (fun v7 ev7 => ?_)
      rw [g.rf] at ev7
      subst ev7
      refine zFp_let (fun v8 _ => ?_)
      refine zFp_if (fun _ => ?_) (fun _ => ?_)
      · skip
        refine zFp_let (fun v11 _ => ?_)
        exact g
      · skip
        refine zFp_let (fun v10 _ => ?_)
        exact g
    · skip
      refine zFp_let (fun v6 _ => ?_)
      exact g
  · skip
    refine zFp_let (fun v2 _ => ?_)
    exact g
set_option maxRecDepth 100000 in
theorem fr_X6_countAbove_15 {A : Nat → Nat → Prop} {σ : zS} {a0 : Nat} {p1 : Nat}  (h0 : ∀ j, A ((σ.2.2 a0 4).getD 0) j) : ∀ (n : Nat) (x7 : Int32) (τ8 : zS), zFr A σ τ8 → zFr A σ (F_X6_countAbove_15 a0 p1 n x7 τ8) := by
  intro n
  induction n with
  | zero => intro x7 τ8 g; exact g
  | succ n ih =>
    intro x7 τ8 g
    rw [F_X6_countAbove_15]
    refine zFr_if (fun _ => ?_) (fun _ => ?_)
    · skip
      refine zFr_let (fun v10 ev10 => ?_)
      rw [g.rf] at ev10
      subst ev10
      refine zFr_let (fun v11 _ => ?_)
      refine zFr_let (fun v12 ev12 => ?_)
      rw [g.rf] at ev12
      subst ev12
      refine zFr_let (fun v13 ev13 => ?_)
      rw [g.rf] at ev13
      subst ev13
      refine zFr_let (fun v14 _ => ?_)
      refine zFr_let (fun v15 _ => ?_)
      refine zFr_let (fun v16 ev16 => ?_)
      rw [g.rf] at ev16
      subst ev16
      refine zFr_let (fun v17 _ => ?_)
      refine zFr_let (fun v18 _ => ?_)
      refine zFr_let (fun v19 _ => ?_)
      refine zFr_let (fun v20 _ => ?_)
      refine zFr_let (fun s21 es21 => ?_)
      have gs21 : zFr A σ s21 := by rw [es21]; exact g.w (h0 _)
      refine zFr_let (fun v22 _ => ?_)
      exact ih _ _ gs21
    · skip
      exact g
set_option maxRecDepth 100000 in
theorem fr_X6_countAbove {A : Nat → Nat → Prop} {σ σ0 : zS} {a0 : Nat} {p1 : Nat}  (g : zFr A σ σ0) (h0 : ∀ j, A ((σ.2.2 a0 4).getD 0) j) : zFr A σ (F_X6_countAbove a0 p1 σ0) := by
  unfold F_X6_countAbove
  refine zFr_let (fun v1 ev1 => ?_)
  rw [g.rf] at ev1
  subst ev1
  refine zFr_let (fun v2 _ => ?_)
  refine zFr_let (fun s3 es3 => ?_)
  have gs3 : zFr A σ s3 := by rw [es3]; exact g.fl h0
  refine zFr_let (fun v4 _ => ?_)
  refine zFr_let (fun v5 _ => ?_)
  refine zFr_let (fun v6 _ => ?_)
  exact fr_X6_countAbove_15  h0 _ _ _ gs3
set_option maxRecDepth 100000 in
theorem fr_X6_form_81 {A : Nat → Nat → Prop} {σ : zS} {v36 : Int32} {x30 : Int32} {a0 : Nat} {p1 : Nat} {p2 : Nat} {kLp32 : Int32 → Int32 → zS → zS} (ckLp32 : ∀ (y0 : Int32) (y1 : Int32) (s : zS), zFr A σ s → zFr A σ (kLp32 y0 y1 s)) (h0 : ∀ j, A ((σ.2.2 a0 3).getD 0) j) (h1 : ∀ j, A ((σ.2.2 a0 6).getD 0) j) (h2 : ∀ j, A ((σ.2.2 a0 2).getD 0) j) : ∀ (n : Nat) (x38 : Int32) (x39 : Int32) (τ40 : zS), zFr A σ τ40 → zFr A σ (F_X6_form_81 v36 x30 a0 p1 p2 kLp32 n x38 x39 τ40) := by
  intro n
  induction n with
  | zero => intro x38 x39 τ40 g; exact g
  | succ n ih =>
    intro x38 x39 τ40 g
    rw [F_X6_form_81]
    refine zFr_let (fun v41 _ => ?_)
    refine zFr_if (fun _ => ?_) (fun _ => ?_)
    · skip
      refine zFr_let (fun v44 _ => ?_)
      refine zFr_if (fun _ => ?_) (fun _ => ?_)
      · skip
        refine zFr_let (fun v47 ev47 => ?_)
        rw [g.rf] at ev47
        subst ev47
        refine zFr_let (fun v48 _ => ?_)
        refine zFr_if (fun _ => ?_) (fun _ => ?_)
        · skip
          refine zFr_let (fun v51 ev51 => ?_)
          rw [g.rf] at ev51
          subst ev51
          refine zFr_let (fun v52 ev52 => ?_)
          rw [g.rf] at ev52
          subst ev52
          refine zFr_let (fun v53 _ => ?_)
          refine zFr_let (fun v54 ev54 => ?_)
          rw [g.rf] at ev54
          subst ev54
          refine zFr_let (fun v55 _ => ?_)
          refine zFr_let (fun v56 _ => ?_)
          refine zFr_let (fun s57 es57 => ?_)
          have gs57 : zFr A σ s57 := by rw [es57]; exact g.w (h0 _)
          refine zFr_let (fun v59 ev59 => ?_)
          rw [gs57.rf] at ev59
          subst ev59
          refine zFr_let (fun v60 ev60 => ?_)
          rw [gs57.rf] at ev60
          subst ev60
          refine zFr_let (fun v61 _ => ?_)
          refine zFr_let (fun v62 _ => ?_)
          refine zFr_let (fun v63 _ => ?_)
          refine zFr_let (fun s64 es64 => ?_)
          have gs64 : zFr A σ s64 := by rw [es64]; exact gs57.w (h1 _)
          refine zFr_let (fun v66 ev66 => ?_)
          rw [gs64.rf] at ev66
          subst ev66
          refine zFr_let (fun s67 es67 => ?_)
          have gs67 : zFr A σ s67 := by rw [es67]; exact gs64.w (h2 _)
          refine zFr_let (fun v69 _ => ?_)
          refine zFr_let (fun v70 _ => ?_)
          exact ih _ _ _ gs67
        · skip
          refine zFr_let (fun v50 _ => ?_)
          exact ih _ _ _ g
      · skip
        refine zFr_let (fun v46 _ => ?_)
        exact ckLp32 _ _ _ g
    · skip
      refine zFr_let (fun v43 _ => ?_)
      exact ckLp32 _ _ _ g
set_option maxRecDepth 100000 in
theorem fr_X6_form_63 {A : Nat → Nat → Prop} {σ : zS} {a0 : Nat} {p1 : Nat} {p2 : Nat}  (h0 : ∀ j, A ((σ.2.2 a0 3).getD 0) j) (h1 : ∀ j, A ((σ.2.2 a0 6).getD 0) j) (h2 : ∀ j, A ((σ.2.2 a0 2).getD 0) j) (h3 : ∀ j, A ((σ.2.2 a0 4).getD 0) j) : ∀ (n : Nat) (x30 : Int32) (x31 : Int32) (τ32 : zS), zFr A σ τ32 → zFr A σ (F_X6_form_63 a0 p1 p2 n x30 x31 τ32) := by
  intro n
  induction n with
  | zero => intro x30 x31 τ32 g; exact g
  | succ n ih =>
    intro x30 x31 τ32 g
    rw [F_X6_form_63]
    refine zFr_if (fun _ => ?_) (fun _ => ?_)
    · skip
      refine zFr_let (fun v35 ev35 => ?_)
      rw [g.rf] at ev35
      subst ev35
      refine zFr_let (fun v36 _ => ?_)
      refine zFr_let (fun v37 _ => ?_)
      exact fr_X6_form_81 ih h0 h1 h2 _ _ _ _ g
    · skip
      refine zFr_let (fun s34 es34 => ?_)
      have gs34 : zFr A σ s34 := by rw [es34]; exact fr_X6_countAbove g h3
      exact gs34
set_option maxRecDepth 100000 in
theorem fr_X6_form_81_1 {A : Nat → Nat → Prop} {σ : zS} {v95 : Int32} {x89 : Int32} {a0 : Nat} {p1 : Nat} {p2 : Nat} {kLp91 : Int32 → Int32 → zS → zS} (ckLp91 : ∀ (y0 : Int32) (y1 : Int32) (s : zS), zFr A σ s → zFr A σ (kLp91 y0 y1 s)) (h0 : ∀ j, A ((σ.2.2 a0 3).getD 0) j) (h1 : ∀ j, A ((σ.2.2 a0 6).getD 0) j) (h2 : ∀ j, A ((σ.2.2 a0 2).getD 0) j) : ∀ (n : Nat) (x97 : Int32) (x98 : Int32) (τ99 : zS), zFr A σ τ99 → zFr A σ (F_X6_form_81_1 v95 x89 a0 p1 p2 kLp91 n x97 x98 τ99) := by
  intro n
  induction n with
  | zero => intro x97 x98 τ99 g; exact g
  | succ n ih =>
    intro x97 x98 τ99 g
    rw [F_X6_form_81_1]
    refine zFr_let (fun v100 _ => ?_)
    refine zFr_if (fun _ => ?_) (fun _ => ?_)
    · skip
      refine zFr_let (fun v103 _ => ?_)
      refine zFr_if (fun _ => ?_) (fun _ => ?_)
      · skip
        refine zFr_let (fun v106 ev106 => ?_)
        rw [g.rf] at ev106
        subst ev106
        refine zFr_let (fun v107 _ => ?_)
        refine zFr_if (fun _ => ?_) (fun _ => ?_)
        · skip
          refine zFr_let (fun v110 ev110 => ?_)
          rw [g.rf] at ev110
          subst ev110
          refine zFr_let (fun v111 ev111 => ?_)
          rw [g.rf] at ev111
          subst ev111
          refine zFr_let (fun v112 _ => ?_)
          refine zFr_let (fun v113 ev113 => ?_)
          rw [g.rf] at ev113
          subst ev113
          refine zFr_let (fun v114 _ => ?_)
          refine zFr_let (fun v115 _ => ?_)
          refine zFr_let (fun s116 es116 => ?_)
          have gs116 : zFr A σ s116 := by rw [es116]; exact g.w (h0 _)
          refine zFr_let (fun v118 ev118 => ?_)
          rw [gs116.rf] at ev118
          subst ev118
          refine zFr_let (fun v119 ev119 => ?_)
          rw [gs116.rf] at ev119
          subst ev119
          refine zFr_let (fun v120 _ => ?_)
          refine zFr_let (fun v121 _ => ?_)
          refine zFr_let (fun v122 _ => ?_)
          refine zFr_let (fun s123 es123 => ?_)
          have gs123 : zFr A σ s123 := by rw [es123]; exact gs116.w (h1 _)
          refine zFr_let (fun v125 ev125 => ?_)
          rw [gs123.rf] at ev125
          subst ev125
          refine zFr_let (fun s126 es126 => ?_)
          have gs126 : zFr A σ s126 := by rw [es126]; exact gs123.w (h2 _)
          refine zFr_let (fun v128 _ => ?_)
          refine zFr_let (fun v129 _ => ?_)
          exact ih _ _ _ gs126
        · skip
          refine zFr_let (fun v109 _ => ?_)
          exact ih _ _ _ g
      · skip
        refine zFr_let (fun v105 _ => ?_)
        exact ckLp91 _ _ _ g
    · skip
      refine zFr_let (fun v102 _ => ?_)
      exact ckLp91 _ _ _ g
set_option maxRecDepth 100000 in
theorem fr_X6_form_63_1 {A : Nat → Nat → Prop} {σ : zS} {a0 : Nat} {p1 : Nat} {p2 : Nat}  (h0 : ∀ j, A ((σ.2.2 a0 3).getD 0) j) (h1 : ∀ j, A ((σ.2.2 a0 6).getD 0) j) (h2 : ∀ j, A ((σ.2.2 a0 2).getD 0) j) (h3 : ∀ j, A ((σ.2.2 a0 4).getD 0) j) : ∀ (n : Nat) (x89 : Int32) (x90 : Int32) (τ91 : zS), zFr A σ τ91 → zFr A σ (F_X6_form_63_1 a0 p1 p2 n x89 x90 τ91) := by
  intro n
  induction n with
  | zero => intro x89 x90 τ91 g; exact g
  | succ n ih =>
    intro x89 x90 τ91 g
    rw [F_X6_form_63_1]
    refine zFr_if (fun _ => ?_) (fun _ => ?_)
    · skip
      refine zFr_let (fun v94 ev94 => ?_)
      rw [g.rf] at ev94
      subst ev94
      refine zFr_let (fun v95 _ => ?_)
      refine zFr_let (fun v96 _ => ?_)
      exact fr_X6_form_81_1 ih h0 h1 h2 _ _ _ _ g
    · skip
      refine zFr_let (fun s93 es93 => ?_)
      have gs93 : zFr A σ s93 := by rw [es93]; exact fr_X6_countAbove g h3
      exact gs93
set_option maxRecDepth 100000 in
theorem fr_X6_form {A : Nat → Nat → Prop} {σ σ0 : zS} {a0 : Nat} {p1 : Nat} {p2 : Nat}  (g : zFr A σ σ0) (h0 : A a0 0) (h1 : ∀ j, A ((σ.2.2 a0 1).getD 0) j) (h2 : ∀ j, A ((σ.2.2 a0 2).getD 0) j) (h3 : ∀ j, A ((σ.2.2 a0 3).getD 0) j) (h4 : ∀ j, A ((σ.2.2 a0 6).getD 0) j) (h5 : ∀ j, A ((σ.2.2 a0 4).getD 0) j) : zFr A σ (F_X6_form a0 p1 p2 σ0) := by
  unfold F_X6_form
  refine zFr_let (fun v1 _ => ?_)
  refine zFr_let (fun s2 es2 => ?_)
  have gs2 : zFr A σ s2 := by rw [es2]; exact g.w h0
  refine zFr_let (fun v4 ev4 => ?_)
  rw [gs2.rf] at ev4
  subst ev4
  refine zFr_let (fun v5 _ => ?_)
  refine zFr_let (fun v6 ev6 => ?_)
  rw [gs2.rf] at ev6
  subst ev6
  refine zFr_let (fun v7 _ => ?_)
  refine zFr_let (fun v8 _ => ?_)
  refine zFr_let (fun s9 es9 => ?_)
  have gs9 : zFr A σ s9 := by rw [es9]; exact gs2.cp h1
  refine zFr_let (fun v10 _ => ?_)
  refine zFr_if (fun _ => ?_) (fun _ => ?_)
  · skip
    refine zFr_let (fun v71 _ => ?_)
    refine zFr_let (fun v72 ev72 => ?_)
    rw [gs9.rf] at ev72
    subst ev72
    refine zFr_let (fun v73 _ => ?_)
    refine zFr_let (fun v74 _ => ?_)
    refine zFr_let (fun s75 es75 => ?_)
    have gs75 : zFr A σ s75 := by rw [es75]; exact gs9.w (h2 _)
    refine zFr_let (fun v77 ev77 => ?_)
    rw [gs75.rf] at ev77
    subst ev77
    refine zFr_let (fun v78 _ => ?_)
    refine zFr_let (fun v79 _ => ?_)
    refine zFr_let (fun s80 es80 => ?_)
    have gs80 : zFr A σ s80 := by rw [es80]; exact gs75.w (h3 _)
    refine zFr_let (fun v82 ev82 => ?_)
    rw [gs80.rf] at ev82
    subst ev82
    refine zFr_let (fun v83 _ => ?_)
    refine zFr_let (fun v84 _ => ?_)
    refine zFr_let (fun v85 _ => ?_)
    refine zFr_let (fun s86 es86 => ?_)
    have gs86 : zFr A σ s86 := by rw [es86]; exact gs80.w (h4 _)
    refine zFr_let (fun v88 _ => ?_)
    exact fr_X6_form_63_1  h3 h4 h2 h5 _ _ _ _ gs86
  · skip
    refine zFr_let (fun v12 _ => ?_)
    refine zFr_let (fun v13 ev13 => ?_)
    rw [gs9.rf] at ev13
    subst ev13
    refine zFr_let (fun v14 _ => ?_)
    refine zFr_let (fun v15 _ => ?_)
    refine zFr_let (fun s16 es16 => ?_)
    have gs16 : zFr A σ s16 := by rw [es16]; exact gs9.w (h2 _)
    refine zFr_let (fun v18 ev18 => ?_)
    rw [gs16.rf] at ev18
    subst ev18
    refine zFr_let (fun v19 _ => ?_)
    refine zFr_let (fun v20 _ => ?_)
    refine zFr_let (fun s21 es21 => ?_)
    have gs21 : zFr A σ s21 := by rw [es21]; exact gs16.w (h3 _)
    refine zFr_let (fun v23 ev23 => ?_)
    rw [gs21.rf] at ev23
    subst ev23
    refine zFr_let (fun v24 _ => ?_)
    refine zFr_let (fun v25 _ => ?_)
    refine zFr_let (fun v26 _ => ?_)
    refine zFr_let (fun s27 es27 => ?_)
    have gs27 : zFr A σ s27 := by rw [es27]; exact gs21.w (h4 _)
    refine zFr_let (fun v29 _ => ?_)
    exact fr_X6_form_63  h3 h4 h2 h5 _ _ _ _ gs27
set_option maxRecDepth 100000 in
theorem fr_X5_tells {A : Nat → Nat → Prop} {σ σ0 : zS} {a0 : Nat} {p1 : Int32} {p2 : Int32} {p3 : Int32}  (g : zFr A σ σ0) (h0 : ∀ j, A ((σ.2.2 ((σ.2.2 a0 1).getD 0) 0).getD 0) j) (h1 : ∀ j, A ((σ.2.2 ((σ.2.2 a0 1).getD 0) 1).getD 0) j) : zFp A σ (F_X5_tells a0 p1 p2 p3 σ0) := by
  unfold F_X5_tells
  refine zFp_let (fun v1 ev1 => ?_)
  rw [g.rf] at ev1
  subst ev1
  refine zFp_let (fun v2 ev2 => ?_)
  rw [g.rf] at ev2
  subst ev2
  refine zFp_let (fun v3 _ => ?_)
  refine zFp_let (fun v4 ev4 => ?_)
  rw [g.rf] at ev4
  subst ev4
  refine zFp_let (fun v5 ev5 => ?_)
  rw [g.rf] at ev5
  subst ev5
  refine zFp_let (fun v6 _ => ?_)
  refine zFp_let (fun s7 es7 => ?_)
  have gs7 : zFr A σ s7 := by rw [es7]; exact g.w (h0 _)
  refine zFp_let (fun v8 _ => ?_)
  refine zFp_let (fun v9 ev9 => ?_)
  rw [gs7.rf] at ev9
  subst ev9
  refine zFp_let (fun v10 ev10 => ?_)
  rw [gs7.rf] at ev10
  subst ev10
  refine zFp_let (fun v11 _ => ?_)
  refine zFp_let (fun s12 es12 => ?_)
  have gs12 : zFr A σ s12 := by rw [es12]; exact gs7.w (h0 _)
  refine zFp_let (fun v13 _ => ?_)
  refine zFp_let (fun v14 ev14 => ?_)
  rw [gs12.rf] at ev14
  subst ev14
  refine zFp_let (fun v15 ev15 => ?_)
  rw [gs12.rf] at ev15
  subst ev15
  refine zFp_let (fun v16 _ => ?_)
  refine zFp_let (fun s17 es17 => ?_)
  have gs17 : zFr A σ s17 := by rw [es17]; exact gs12.w (h0 _)
  refine zFp_let (fun v18 _ => ?_)
  refine zFp_let (fun v19 ev19 => ?_)
  rw [gs17.rf] at ev19
  subst ev19
  refine zFp_let2 (fun v20 s21 es21 => ?_)
  have gs21 : zFr A σ s21 := (fr_X1_moon gs17 ).of es21
  refine zFp_let (fun s22 es22 => ?_)
  have gs22 : zFr A σ s22 := by rw [es22]; exact gs21.w (h0 _)
  refine zFp_let (fun v23 _ => ?_)
  refine zFp_let (fun s24 es24 => ?_)
  have gs24 : zFr A σ s24 := by rw [es24]; exact gs22.w (h0 _)
  refine zFp_let (fun v25 _ => ?_)
  refine zFp_let (fun v26 ev26 => ?_)
  rw [gs24.rf] at ev26
  subst ev26
  refine zFp_let (fun v27 ev27 => ?_)
  rw [gs24.rf] at ev27
  subst ev27
  refine zFp_let (fun v28 _ => ?_)
  refine zFp_let (fun s29 es29 => ?_)
  have gs29 : zFr A σ s29 := by rw [es29]; exact gs24.w (h0 _)
  refine zFp_let (fun v30 _ => ?_)
  refine zFp_let (fun v31 ev31 => ?_)
  rw [gs29.rf] at ev31
  subst ev31
  refine zFp_let (fun v32 ev32 => ?_)
  rw [gs29.rf] at ev32
  subst ev32
  refine zFp_let (fun v33 _ => ?_)
  refine zFp_let (fun s34 es34 => ?_)
  have gs34 : zFr A σ s34 := by rw [es34]; exact gs29.w (h0 _)
  refine zFp_let (fun v35 _ => ?_)
  refine zFp_let (fun s36 es36 => ?_)
  have gs36 : zFr A σ s36 := by rw [es36]; exact gs34.w (h0 _)
  refine zFp_let (fun v37 _ => ?_)
  refine zFp_let (fun v38 ev38 => ?_)
  rw [gs36.rf] at ev38
  subst ev38
  refine zFp_let (fun v39 ev39 => ?_)
  rw [gs36.rf] at ev39
  subst ev39
  refine zFp_let (fun v40 _ => ?_)
  refine zFp_let (fun s41 es41 => ?_)
  have gs41 : zFr A σ s41 := by rw [es41]; exact gs36.w (h0 _)
  refine zFp_let (fun v42 ev42 => ?_)
  rw [gs41.rf] at ev42
  subst ev42
  refine zFp_let (fun v43 ev43 => ?_)
  rw [gs41.rf] at ev43
  subst ev43
  refine zFp_let2 (fun v44 s45 es45 => ?_)
  have gs45 : zFr A σ s45 := (fr_X0_answer gs41 h1).of es45
  exact gs45
set_option maxRecDepth 100000 in
theorem fr_X5_dried {A : Nat → Nat → Prop} {σ σ0 : zS} {a0 : Nat} {p1 : Int32}  (g : zFr A σ σ0) (h0 : ∀ j, A ((σ.2.2 ((σ.2.2 a0 1).getD 0) 0).getD 0) j) (h1 : ∀ j, A ((σ.2.2 ((σ.2.2 a0 1).getD 0) 1).getD 0) j) : zFp A σ (F_X5_dried a0 p1 σ0) := by
  unfold F_X5_dried
  refine zFp_let (fun v1 _ => ?_)
  refine zFp_let (fun v2 ev2 => ?_)
  rw [g.rf] at ev2
  subst ev2
  refine zFp_let (fun v3 _ => ?_)
  refine zFp_let2 (fun v4 s5 es5 => ?_)
  have gs5 : zFr A σ s5 := (fr_X5_tells g h0 h1).of es5
  refine zFp_let (fun v6 _ => ?_)
  refine zFp_let (fun v7 ev7 => ?_)
  rw [gs5.rf] at ev7
  subst ev7
  refine zFp_let (fun v8 _ => ?_)
  refine zFp_let (fun v9 _ => ?_)
  exact gs5
set_option maxRecDepth 100000 in
theorem fr_X5_run_25 {A : Nat → Nat → Prop} {σ : zS} {a0 : Nat} {p1 : Int32}  (h0 : ∀ j, A ((σ.2.2 ((σ.2.2 a0 1).getD 0) 0).getD 0) j) (h1 : ∀ j, A ((σ.2.2 ((σ.2.2 a0 1).getD 0) 1).getD 0) j) (h2 : ∀ j, A ((σ.2.2 a0 3).getD 0) j) : ∀ (n : Nat) (x11 : Int32) (τ12 : zS), zFr A σ τ12 → zFr A σ (F_X5_run_25 a0 p1 n x11 τ12) := by
  intro n
  induction n with
  | zero => intro x11 τ12 g; exact g
  | succ n ih =>
    intro x11 τ12 g
    rw [F_X5_run_25]
    refine zFr_if (fun _ => ?_) (fun _ => ?_)
    · skip
      refine zFr_let (fun v14 ev14 => ?_)
      rw [g.rf] at ev14
      subst ev14
      refine zFr_let (fun v15 ev15 => ?_)
      rw [g.rf] at ev15
      subst ev15
      refine zFr_let (fun v16 _ => ?_)
      refine zFr_let (fun v17 _ => ?_)
      refine zFr_if (fun _ => ?_) (fun _ => ?_)
      · skip
        refine zFr_let (fun v20 ev20 => ?_)
        rw [g.rf] at ev20
        subst ev20
        refine zFr_let (fun v21 ev21 => ?_)
        rw [g.rf] at ev21
        subst ev21
        refine zFr_let (fun v22 ev22 => ?_)
        rw [g.rf] at ev22
        subst ev22
        refine zFr_let (fun v23 _ => ?_)
        refine zFr_let (fun v24 _ => ?_)
        refine zFr_let (fun v25 ev25 => ?_)
        rw [g.rf] at ev25
        subst ev25
        refine zFr_let (fun v26 _ => ?_)
        refine zFr_let2 (fun v27 s28 es28 => ?_)
        have gs28 : zFr A σ s28 := (fr_X5_dried g h0 h1).of es28
        refine zFr_let (fun v29 _ => ?_)
        refine zFr_let (fun v30 _ => ?_)
        refine zFr_let (fun s31 es31 => ?_)
        have gs31 : zFr A σ s31 := by rw [es31]; exact gs28.w (h2 _)
        refine zFr_let (fun v32 _ => ?_)
        exact ih _ _ gs31
      · skip
        refine zFr_let (fun v19 _ => ?_)
        exact ih _ _ g
    · skip
      exact g
set_option maxRecDepth 100000 in
theorem fr_X5_run {A : Nat → Nat → Prop} {σ σ0 : zS} {a0 : Nat} {p1 : Int32}  (g : zFr A σ σ0) (h0 : ∀ j, A ((σ.2.2 a0 3).getD 0) j) (h1 : ∀ j, A ((σ.2.2 ((σ.2.2 a0 1).getD 0) 0).getD 0) j) (h2 : ∀ j, A ((σ.2.2 ((σ.2.2 a0 1).getD 0) 1).getD 0) j) : zFr A σ (F_X5_run a0 p1 σ0) := by
  unfold F_X5_run
  refine zFr_let (fun v1 ev1 => ?_)
  rw [g.rf] at ev1
  subst ev1
  refine zFr_let (fun v2 _ => ?_)
  refine zFr_let (fun v3 ev3 => ?_)
  rw [g.rf] at ev3
  subst ev3
  refine zFr_let (fun v4 _ => ?_)
  refine zFr_let (fun v5 _ => ?_)
  refine zFr_let (fun s6 es6 => ?_)
  have gs6 : zFr A σ s6 := by rw [es6]; exact g.cp h0
  refine zFr_let (fun v7 ev7 => ?_)
  rw [gs6.rf] at ev7
  subst ev7
  refine zFr_let (fun v8 _ => ?_)
  refine zFr_let (fun v9 _ => ?_)
  refine zFr_let (fun v10 _ => ?_)
  exact fr_X5_run_25  h1 h2 h0 _ _ _ gs6
set_option maxRecDepth 100000 in
theorem fr_X5_rainDown_2 {A : Nat → Nat → Prop} {σ : zS} {a0 : Nat} {p1 : Int32}  (h0 : ∀ j, A ((σ.2.2 ((σ.2.2 a0 1).getD 0) 0).getD 0) j) (h1 : ∀ j, A ((σ.2.2 ((σ.2.2 a0 1).getD 0) 1).getD 0) j) (h2 : ∀ j, A ((σ.2.2 a0 2).getD 0) j) : ∀ (n : Nat) (x2 : Int32) (τ3 : zS), zFr A σ τ3 → zFr A σ (F_X5_rainDown_2 a0 p1 n x2 τ3) := by
  intro n
  induction n with
  | zero => intro x2 τ3 g; exact g
  | succ n ih =>
    intro x2 τ3 g
    rw [F_X5_rainDown_2]
    refine zFr_let (fun v4 ev4 => ?_)
    rw [g.rf] at ev4
    subst ev4
    refine zFr_let (fun v5 _ => ?_)
    refine zFr_if (fun _ => ?_) (fun _ => ?_)
    · skip
      refine zFr_let (fun v7 ev7 => ?_)
      rw [g.rf] at ev7
      subst ev7
      refine zFr_let (fun v8 _ => ?_)
      refine zFr_let (fun v9 _ => ?_)
      refine zFr_let2 (fun v10 s11 es11 => ?_)
      have gs11 : zFr A σ s11 := (fr_X5_tells g h0 h1).of es11
      refine zFr_let (fun v12 _ => ?_)
      refine zFr_let (fun v13 _ => ?_)
      refine zFr_let (fun v14 _ => ?_)
      refine zFr_let (fun v15 _ => ?_)
      refine zFr_let (fun s16 es16 => ?_)
      have gs16 : zFr A σ s16 := by rw [es16]; exact gs11.w (h2 _)
      refine zFr_let (fun v17 _ => ?_)
      exact ih _ _ gs16
    · skip
      exact g
set_option maxRecDepth 100000 in
theorem fr_X5_rainDown {A : Nat → Nat → Prop} {σ σ0 : zS} {a0 : Nat} {p1 : Int32}  (g : zFr A σ σ0) (h0 : ∀ j, A ((σ.2.2 ((σ.2.2 a0 1).getD 0) 0).getD 0) j) (h1 : ∀ j, A ((σ.2.2 ((σ.2.2 a0 1).getD 0) 1).getD 0) j) (h2 : ∀ j, A ((σ.2.2 a0 2).getD 0) j) : zFr A σ (F_X5_rainDown a0 p1 σ0) := by
  unfold F_X5_rainDown
  refine zFr_let (fun v1 _ => ?_)
  exact fr_X5_rainDown_2  h0 h1 h2 _ _ _ g
set_option maxRecDepth 100000 in
theorem fr_X5_fall {A : Nat → Nat → Prop} {σ σ0 : zS} {a0 : Nat} {p1 : Int32}  (g : zFr A σ σ0) (h0 : ∀ j, A ((σ.2.2 ((σ.2.2 a0 1).getD 0) 0).getD 0) j) (h1 : ∀ j, A ((σ.2.2 ((σ.2.2 a0 1).getD 0) 1).getD 0) j) (h2 : ∀ j, A ((σ.2.2 a0 2).getD 0) j) (h3 : ∀ j, A ((σ.2.2 a0 3).getD 0) j) : zFr A σ (F_X5_fall a0 p1 σ0) := by
  unfold F_X5_fall
  refine zFr_let (fun s1 es1 => ?_)
  have gs1 : zFr A σ s1 := by rw [es1]; exact fr_X5_rainDown g h0 h1 h2
  refine zFr_let (fun v2 ev2 => ?_)
  rw [gs1.rf] at ev2
  subst ev2
  refine zFr_let (fun v3 _ => ?_)
  refine zFr_let (fun s4 es4 => ?_)
  have gs4 : zFr A σ s4 := by rw [es4]; exact fr_X5_run gs1 h3 h0 h1
  exact gs4
set_option maxRecDepth 100000 in
theorem fr_X5_claimOf {A : Nat → Nat → Prop} {σ σ0 : zS} {a0 : Nat} {p1 : Int32} {p2 : Int32}  (g : zFr A σ σ0) (h0 : ∀ j, A ((σ.2.2 ((σ.2.2 a0 1).getD 0) 0).getD 0) j) (h1 : ∀ j, A ((σ.2.2 ((σ.2.2 a0 1).getD 0) 1).getD 0) j) : zFp A σ (F_X5_claimOf a0 p1 p2 σ0) := by
  unfold F_X5_claimOf
  refine zFp_let (fun v1 _ => ?_)
  refine zFp_let (fun v2 _ => ?_)
  refine zFp_let (fun v3 ev3 => ?_)
  rw [g.rf] at ev3
  subst ev3
  refine zFp_let (fun v4 _ => ?_)
  refine zFp_let2 (fun v5 s6 es6 => ?_)
  have gs6 : zFr A σ s6 := (fr_X5_tells g h0 h1).of es6
  refine zFp_let (fun v7 _ => ?_)
  refine zFp_let (fun v8 _ => ?_)
  refine zFp_let (fun v9 _ => ?_)
  exact gs6
set_option maxRecDepth 100000 in
theorem fr_X5_weigh_2 {A : Nat → Nat → Prop} {σ : zS} {a0 : Nat} {p1 : Int32}  (h0 : ∀ j, A ((σ.2.2 a0 4).getD 0) j) (h1 : ∀ j, A ((σ.2.2 ((σ.2.2 a0 1).getD 0) 0).getD 0) j) (h2 : ∀ j, A ((σ.2.2 ((σ.2.2 a0 1).getD 0) 1).getD 0) j) : ∀ (n : Nat) (x2 : Int32) (τ3 : zS), zFr A σ τ3 → zFr A σ (F_X5_weigh_2 a0 p1 n x2 τ3) := by
  intro n
  induction n with
  | zero => intro x2 τ3 g; exact g
  | succ n ih =>
    intro x2 τ3 g
    rw [F_X5_weigh_2]
    refine zFr_let (fun v4 ev4 => ?_)
    rw [g.rf] at ev4
    subst ev4
    refine zFr_let (fun v5 _ => ?_)
    refine zFr_if (fun _ => ?_) (fun _ => ?_)
    · skip
      refine zFr_let (fun v7 ev7 => ?_)
      rw [g.rf] at ev7
      subst ev7
      refine zFr_let (fun v8 ev8 => ?_)
      rw [g.rf] at ev8
      subst ev8
      refine zFr_let2 (fun v9 s10 es10 => ?_)
      have gs10 : zFr A σ s10 := (fr_X6_isSource g ).of es10
      refine zFr_if (fun _ => ?_) (fun _ => ?_)
      · skip
        refine zFr_let (fun v12 _ => ?_)
        refine zFr_let (fun s13 es13 => ?_)
        have gs13 : zFr A σ s13 := by rw [es13]; exact gs10.w (h0 _)
        refine zFr_let (fun v14 _ => ?_)
        exact ih _ _ gs13
      · skip
        refine zFr_let2 (fun v15 s16 es16 => ?_)
        have gs16 : zFr A σ s16 := (fr_X5_claimOf gs10 h1 h2).of es16
        refine zFr_let (fun s17 es17 => ?_)
        have gs17 : zFr A σ s17 := by rw [es17]; exact gs16.w (h0 _)
        refine zFr_let (fun v18 _ => ?_)
        exact ih _ _ gs17
    · skip
      exact g
set_option maxRecDepth 100000 in
theorem fr_X5_weigh {A : Nat → Nat → Prop} {σ σ0 : zS} {a0 : Nat} {p1 : Int32}  (g : zFr A σ σ0) (h0 : ∀ j, A ((σ.2.2 a0 4).getD 0) j) (h1 : ∀ j, A ((σ.2.2 ((σ.2.2 a0 1).getD 0) 0).getD 0) j) (h2 : ∀ j, A ((σ.2.2 ((σ.2.2 a0 1).getD 0) 1).getD 0) j) : zFr A σ (F_X5_weigh a0 p1 σ0) := by
  unfold F_X5_weigh
  refine zFr_let (fun v1 _ => ?_)
  exact fr_X5_weigh_2  h0 h1 h2 _ _ _ g
set_option maxRecDepth 100000 in
theorem fr_X5_greatestClaim_5 {A : Nat → Nat → Prop} {σ : zS} {a0 : Nat} {p1 : Int32}   : ∀ (n : Nat) (x3 : Int32) (x4 : Int32) (τ5 : zS), zFr A σ τ5 → zFp A σ (F_X5_greatestClaim_5 a0 p1 n x3 x4 τ5) := by
  intro n
  induction n with
  | zero => intro x3 x4 τ5 g; exact g
  | succ n ih =>
    intro x3 x4 τ5 g
    rw [F_X5_greatestClaim_5]
    refine zFp_let (fun v6 ev6 => ?_)
    rw [g.rf] at ev6
    subst ev6
    refine zFp_let (fun v7 _ => ?_)
    refine zFp_if (fun _ => ?_) (fun _ => ?_)
    · skip
      refine zFp_if (fun _ => ?_) (fun _ => ?_)
      · skip
        refine zFp_let (fun v10 _ => ?_)
        exact ih _ _ _ g
      · skip
        refine zFp_let (fun v11 ev11 => ?_)
        rw [g.rf] at ev11
        subst ev11
        refine zFp_let2 (fun v12 s13 es13 => ?_)
        have gs13 : zFr A σ s13 := (fr_X6_isSource g ).of es13
        refine zFp_if (fun _ => ?_) (fun _ => ?_)
        · skip
          refine zFp_let (fun v15 _ => ?_)
          exact ih _ _ _ gs13
        · skip
          refine zFp_if (fun _ => ?_) (fun _ => ?_)
          · skip
            refine zFp_let (fun v17 _ => ?_)
            exact ih _ _ _ gs13
          · skip
            refine zFp_let (fun v18 ev18 => ?_)
            rw [gs13.rf] at ev18
            subst ev18
            refine zFp_let (fun v19 _ => ?_)
            refine zFp_let (fun v20 ev20 => ?_)
            rw [gs13.rf] at ev20
            subst ev20
            refine zFp_let (fun v21 _ => ?_)
            refine zFp_if (fun _ => ?_) (fun _ => ?_)
            · skip
              refine zFp_let (fun v26 _ => ?_)
              exact ih _ _ _ gs13
            · skip
              refine zFp_let (fun v25 _ => ?_)
              exact ih _ _ _ gs13
    · skip
      exact g
set_option maxRecDepth 100000 in
theorem fr_X5_greatestClaim {A : Nat → Nat → Prop} {σ σ0 : zS} {a0 : Nat} {p1 : Int32}  (g : zFr A σ σ0)  : zFp A σ (F_X5_greatestClaim a0 p1 σ0) := by
  unfold F_X5_greatestClaim
  refine zFp_let (fun v1 _ => ?_)
  refine zFp_let (fun v2 _ => ?_)
  exact fr_X5_greatestClaim_5   _ _ _ _ g
set_option maxRecDepth 100000 in
theorem fr_X5_winnerBy {A : Nat → Nat → Prop} {σ σ0 : zS} {a0 : Nat} {p1 : Int32}  (g : zFr A σ σ0) (h0 : ∀ j, A ((σ.2.2 a0 4).getD 0) j) (h1 : ∀ j, A ((σ.2.2 ((σ.2.2 a0 1).getD 0) 0).getD 0) j) (h2 : ∀ j, A ((σ.2.2 ((σ.2.2 a0 1).getD 0) 1).getD 0) j) : zFp A σ (F_X5_winnerBy a0 p1 σ0) := by
  unfold F_X5_winnerBy
  refine zFp_let (fun s1 es1 => ?_)
  have gs1 : zFr A σ s1 := by rw [es1]; exact fr_X5_weigh g h0 h1 h2
  refine zFp_let (fun v2 _ => ?_)
  refine zFp_let2 (fun v3 s4 es4 => ?_)
  have gs4 : zFr A σ s4 := (fr_X5_greatestClaim gs1 ).of es4
  exact gs4
set_option maxRecDepth 100000 in
theorem fr_X5_endMonth {A : Nat → Nat → Prop} {σ σ0 : zS} {a0 : Nat}  (g : zFr A σ σ0) (h0 : ∀ j, A ((σ.2.2 a0 4).getD 0) j) (h1 : ∀ j, A ((σ.2.2 ((σ.2.2 a0 1).getD 0) 0).getD 0) j) (h2 : ∀ j, A ((σ.2.2 ((σ.2.2 a0 1).getD 0) 1).getD 0) j) (h3 : ∀ j, A ((σ.2.2 ((σ.2.2 a0 6).getD 0) 2).getD 0) j) (h4 : ∀ j, A ((σ.2.2 ((σ.2.2 a0 6).getD 0) 1).getD 0) j) (h5 : A ((σ.2.2 a0 6).getD 0) 4) : zFr A σ (F_X5_endMonth a0 σ0) := by
  unfold F_X5_endMonth
  refine zFr_let (fun v1 ev1 => ?_)
  rw [g.rf] at ev1
  subst ev1
  refine zFr_let (fun v2 _ => ?_)
  refine zFr_let2 (fun v3 s4 es4 => ?_)
  have gs4 : zFr A σ s4 := (fr_X5_winnerBy g h0 h1 h2).of es4
  refine zFr_if (fun _ => ?_) (fun _ => ?_)
  · skip
    refine zFr_let (fun v11 ev11 => ?_)
    rw [gs4.rf] at ev11
    subst ev11
    refine zFr_let (fun v12 ev12 => ?_)
    rw [gs4.rf] at ev12
    subst ev12
    refine zFr_let (fun v13 _ => ?_)
    refine zFr_let (fun s14 es14 => ?_)
    have gs14 : zFr A σ s14 := by rw [es14]; exact fr_X1_pay gs4 h3 h4
    refine zFr_let (fun v15 ev15 => ?_)
    rw [gs14.rf] at ev15
    subst ev15
    refine zFr_let (fun v16 _ => ?_)
    refine zFr_let (fun v17 _ => ?_)
    refine zFr_let (fun v18 _ => ?_)
    refine zFr_let (fun s19 es19 => ?_)
    have gs19 : zFr A σ s19 := by rw [es19]; exact gs14.w h5
    exact gs19
  · skip
    refine zFr_let (fun v6 ev6 => ?_)
    rw [gs4.rf] at ev6
    subst ev6
    refine zFr_let (fun v7 _ => ?_)
    refine zFr_let (fun v8 _ => ?_)
    refine zFr_let (fun v9 _ => ?_)
    refine zFr_let (fun s10 es10 => ?_)
    have gs10 : zFr A σ s10 := by rw [es10]; exact gs4.w h5
    exact gs10
set_option maxRecDepth 100000 in
theorem fr_X5_goOn {A : Nat → Nat → Prop} {σ σ0 : zS} {a0 : Nat}  (g : zFr A σ σ0) (h0 : ∀ j, A ((σ.2.2 a0 4).getD 0) j) (h1 : ∀ j, A ((σ.2.2 ((σ.2.2 a0 1).getD 0) 0).getD 0) j) (h2 : ∀ j, A ((σ.2.2 ((σ.2.2 a0 1).getD 0) 1).getD 0) j) (h3 : ∀ j, A ((σ.2.2 ((σ.2.2 a0 6).getD 0) 2).getD 0) j) (h4 : ∀ j, A ((σ.2.2 ((σ.2.2 a0 6).getD 0) 1).getD 0) j) (h5 : A ((σ.2.2 a0 6).getD 0) 4) (h6 : ∀ j, A ((σ.2.2 a0 2).getD 0) j) (h7 : ∀ j, A ((σ.2.2 a0 3).getD 0) j) : zFr A σ (F_X5_goOn a0 σ0) := by
  unfold F_X5_goOn
  refine zFr_let (fun s1 es1 => ?_)
  have gs1 : zFr A σ s1 := by rw [es1]; exact fr_X5_endMonth g h0 h1 h2 h3 h4 h5
  refine zFr_let (fun v2 _ => ?_)
  refine zFr_let (fun s3 es3 => ?_)
  have gs3 : zFr A σ s3 := by rw [es3]; exact fr_X5_fall gs1 h1 h2 h6 h7
  exact gs3
set_option maxRecDepth 100000 in
theorem fr_X5_goThrough_9 {A : Nat → Nat → Prop} {σ : zS} {a0 : Nat} {p1 : Nat} {p2 : Nat} {p3 : Int32} {p4 : Int32}  (h0 : ∀ j, A ((σ.2.2 ((σ.2.2 a0 1).getD 0) 0).getD 0) j) (h1 : ∀ j, A ((σ.2.2 ((σ.2.2 a0 1).getD 0) 1).getD 0) j) (h2 : ∀ j, A ((σ.2.2 a0 2).getD 0) j) (h3 : ∀ j, A ((σ.2.2 a0 3).getD 0) j) (h4 : ∀ j, A ((σ.2.2 a0 4).getD 0) j) (h5 : ∀ j, A ((σ.2.2 ((σ.2.2 a0 6).getD 0) 2).getD 0) j) (h6 : ∀ j, A ((σ.2.2 ((σ.2.2 a0 6).getD 0) 1).getD 0) j) (h7 : A ((σ.2.2 a0 6).getD 0) 4) : ∀ (n : Nat) (x3 : Int32) (τ4 : zS), zFr A σ τ4 → zFr A σ (F_X5_goThrough_9 a0 p1 p2 p3 p4 n x3 τ4) := by
  intro n
  induction n with
  | zero => intro x3 τ4 g; exact g
  | succ n ih =>
    intro x3 τ4 g
    rw [F_X5_goThrough_9]
    refine zFr_if (fun _ => ?_) (fun _ => ?_)
    · skip
      refine zFr_let (fun v7 _ => ?_)
      refine zFr_let2 (fun v8 s9 es9 => ?_)
      have gs9 : zFr A σ s9 := (fr_X9_isStorm g ).of es9
      refine zFr_if (fun _ => ?_) (fun _ => ?_)
      · skip
        refine zFr_let (fun v11 _ => ?_)
        refine zFr_let (fun s12 es12 => ?_)
        have gs12 : zFr A σ s12 := by rw [es12]; exact fr_X5_fall gs9 h0 h1 h2 h3
        refine zFr_let (fun s13 es13 => ?_)
        have gs13 : zFr A σ s13 := by rw [es13]; exact fr_X5_endMonth gs12 h4 h0 h1 h5 h6 h7
        refine zFr_let (fun v14 _ => ?_)
        exact ih _ _ gs13
      · skip
        refine zFr_let (fun v15 _ => ?_)
        refine zFr_let (fun s16 es16 => ?_)
        have gs16 : zFr A σ s16 := by rw [es16]; exact fr_X5_fall gs9 h0 h1 h2 h3
        refine zFr_let (fun s17 es17 => ?_)
        have gs17 : zFr A σ s17 := by rw [es17]; exact fr_X5_endMonth gs16 h4 h0 h1 h5 h6 h7
        refine zFr_let (fun v18 _ => ?_)
        exact ih _ _ gs17
    · skip
      exact g
set_option maxRecDepth 100000 in
theorem fr_X10_isPlace {A : Nat → Nat → Prop} {σ σ0 : zS} {a0 : Nat} {p1 : Int32}  (g : zFr A σ σ0)  : zFp A σ (F_X10_isPlace a0 p1 σ0) := by
  unfold F_X10_isPlace
  refine zFp_let (fun v1 _ => ?_)
  refine zFp_let (fun v2 ev2 => ?_)
  rw [g.rf] at ev2
  subst ev2
  refine zFp_let (fun v3 _ => ?_)
  refine zFp_let (fun v4 _ => ?_)
  refine zFp_let (fun v5 _ => ?_)
  refine zFp_let (fun v6 _ => ?_)
  exact g
set_option maxRecDepth 100000 in
theorem fr_X10_isLaw {A : Nat → Nat → Prop} {σ σ0 : zS} {a0 : Nat} {p1 : Int32}  (g : zFr A σ σ0)  : zFp A σ (F_X10_isLaw a0 p1 σ0) := by
  unfold F_X10_isLaw
  refine zFp_let (fun v1 _ => ?_)
  refine zFp_let (fun v2 _ => ?_)
  refine zFp_let (fun v3 _ => ?_)
  exact g
set_option maxRecDepth 100000 in
theorem fr_X10_hasMouth {A : Nat → Nat → Prop} {σ σ0 : zS} {a0 : Nat}  (g : zFr A σ σ0)  : zFp A σ (F_X10_hasMouth a0 σ0) := by
  unfold F_X10_hasMouth
  refine zFp_let (fun v1 ev1 => ?_)
  rw [g.rf] at ev1
  subst ev1
  refine zFp_let (fun v2 _ => ?_)
  refine zFp_if (fun _ => ?_) (fun _ => ?_)
  · skip
    refine zFp_let (fun v5 _ => ?_)
    exact g
  · skip
    refine zFp_let (fun v4 _ => ?_)
    exact g
set_option maxRecDepth 100000 in
theorem fr_X10_mouthFlow {A : Nat → Nat → Prop} {σ σ0 : zS} {a0 : Nat}  (g : zFr A σ σ0)  : zFp A σ (F_X10_mouthFlow a0 σ0) := by
  unfold F_X10_mouthFlow
  refine zFp_let2 (fun v1 s2 es2 => ?_)
  have gs2 : zFr A σ s2 := (fr_X10_hasMouth g ).of es2
  refine zFp_if (fun _ => ?_) (fun _ => ?_)
  · skip
    refine zFp_let (fun v4 _ => ?_)
    exact gs2
  · skip
    refine zFp_let (fun v5 ev5 => ?_)
    rw [gs2.rf] at ev5
    subst ev5
    refine zFp_let (fun v6 ev6 => ?_)
    rw [gs2.rf] at ev6
    subst ev6
    refine zFp_let (fun v7 _ => ?_)
    refine zFp_let (fun v8 _ => ?_)
    exact gs2
set_option maxRecDepth 100000 in
theorem fr_X10_beginAnew {A : Nat → Nat → Prop} {σ σ0 : zS} {a0 : Nat}  (g : zFr A σ σ0) (h0 : ∀ j, A ((σ.2.2 ((σ.2.2 a0 6).getD 0) 0).getD 0) j) (h1 : ∀ j, A ((σ.2.2 ((σ.2.2 a0 6).getD 0) 1).getD 0) j) (h2 : ∀ j, A ((σ.2.2 ((σ.2.2 a0 6).getD 0) 2).getD 0) j) (h3 : A (((σ.2.2 a0 6).getD 0)) 3) (h4 : A (((σ.2.2 a0 6).getD 0)) 4) (h5 : A (((σ.2.2 a0 6).getD 0)) 5) (h6 : A ((σ.2.2 a0 4).getD 0) 2) (h7 : A ((σ.2.2 a0 5).getD 0) 4) (h8 : A a0 12) : zFr A σ (F_X10_beginAnew a0 σ0) := by
  unfold F_X10_beginAnew
  refine zFr_let (fun v1 ev1 => ?_)
  rw [g.rf] at ev1
  subst ev1
  refine zFr_let (fun v2 ev2 => ?_)
  rw [g.rf] at ev2
  subst ev2
  refine zFr_let (fun s3 es3 => ?_)
  have gs3 : zFr A σ s3 := by rw [es3]; exact fr_X1_begin g h0 h1 h2 h3 h4 h5
  refine zFr_let (fun v4 ev4 => ?_)
  rw [gs3.rf] at ev4
  subst ev4
  refine zFr_let (fun v5 _ => ?_)
  refine zFr_let (fun s6 es6 => ?_)
  have gs6 : zFr A σ s6 := by rw [es6]; exact gs3.w h6
  refine zFr_let (fun v7 ev7 => ?_)
  rw [gs6.rf] at ev7
  subst ev7
  refine zFr_let (fun v8 _ => ?_)
  refine zFr_let (fun s9 es9 => ?_)
  have gs9 : zFr A σ s9 := by rw [es9]; exact gs6.w h7
  refine zFr_let (fun v10 _ => ?_)
  refine zFr_let (fun s11 es11 => ?_)
  have gs11 : zFr A σ s11 := by rw [es11]; exact gs9.w h8
  exact gs11
set_option maxRecDepth 100000 in
theorem fr_X10_isTurn {A : Nat → Nat → Prop} {σ σ0 : zS} {a0 : Nat} {p1 : Int32} {p2 : Int32}  (g : zFr A σ σ0)  : zFp A σ (F_X10_isTurn a0 p1 p2 σ0) := by
  unfold F_X10_isTurn
  refine zFp_if (fun _ => ?_) (fun _ => ?_)
  · skip
    refine zFp_let (fun v2 _ => ?_)
    exact g
  · skip
    refine zFp_let2 (fun v3 s4 es4 => ?_)
    have gs4 : zFr A σ s4 := (fr_X10_isPlace g ).of es4
    refine zFp_if (fun _ => ?_) (fun _ => ?_)
    · skip
      refine zFp_let (fun v6 _ => ?_)
      exact gs4
    · skip
      refine zFp_let2 (fun v7 s8 es8 => ?_)
      have gs8 : zFr A σ s8 := (fr_X10_isPlace gs4 ).of es8
      refine zFp_if (fun _ => ?_) (fun _ => ?_)
      · skip
        refine zFp_let (fun v10 _ => ?_)
        exact gs8
      · skip
        refine zFp_let (fun v11 ev11 => ?_)
        rw [gs8.rf] at ev11
        subst ev11
        refine zFp_let (fun v12 ev12 => ?_)
        rw [gs8.rf] at ev12
        subst ev12
        refine zFp_let (fun v13 _ => ?_)
        refine zFp_if (fun _ => ?_) (fun _ => ?_)
        · skip
          refine zFp_let (fun v15 _ => ?_)
          exact gs8
        · skip
          refine zFp_let (fun v16 ev16 => ?_)
          rw [gs8.rf] at ev16
          subst ev16
          refine zFp_let2 (fun v17 s18 es18 => ?_)
          have gs18 : zFr A σ s18 := (fr_X1_comesBy gs8 ).of es18
          refine zFp_if (fun _ => ?_) (fun _ => ?_)
          · skip
            refine zFp_let (fun v21 _ => ?_)
            exact gs18
          · skip
            refine zFp_let (fun v20 _ => ?_)
            exact gs18
set_option maxRecDepth 100000 in
theorem fr_X10_tallied_4 {A : Nat → Nat → Prop} {σ : zS} {a0 : Nat}   : ∀ (n : Nat) (x3 : Int32) (x4 : Int32) (τ5 : zS), zFr A σ τ5 → zFp A σ (F_X10_tallied_4 a0 n x3 x4 τ5) := by
  intro n
  induction n with
  | zero => intro x3 x4 τ5 g; exact g
  | succ n ih =>
    intro x3 x4 τ5 g
    rw [F_X10_tallied_4]
    refine zFp_let (fun v6 ev6 => ?_)
    rw [g.rf] at ev6
    subst ev6
    refine zFp_let (fun v7 _ => ?_)
    refine zFp_if (fun _ => ?_) (fun _ => ?_)
    · skip
      refine zFp_let (fun v9 ev9 => ?_)
      rw [g.rf] at ev9
      subst ev9
      refine zFp_let (fun v10 _ => ?_)
      refine zFp_if (fun _ => ?_) (fun _ => ?_)
      · skip
        refine zFp_let (fun v13 _ => ?_)
        refine zFp_let (fun v14 _ => ?_)
        exact ih _ _ _ g
      · skip
        refine zFp_let (fun v12 _ => ?_)
        exact ih _ _ _ g
    · skip
      exact g
set_option maxRecDepth 100000 in
theorem fr_X10_tallied {A : Nat → Nat → Prop} {σ σ0 : zS} {a0 : Nat}  (g : zFr A σ σ0)  : zFp A σ (F_X10_tallied a0 σ0) := by
  unfold F_X10_tallied
  refine zFp_let (fun v1 _ => ?_)
  refine zFp_let (fun v2 _ => ?_)
  exact fr_X10_tallied_4   _ _ _ _ g
set_option maxRecDepth 100000 in
theorem fr_X10_mostTallied_5 {A : Nat → Nat → Prop} {σ : zS} {a0 : Nat}   : ∀ (n : Nat) (x3 : Int32) (x4 : Int32) (τ5 : zS), zFr A σ τ5 → zFp A σ (F_X10_mostTallied_5 a0 n x3 x4 τ5) := by
  intro n
  induction n with
  | zero => intro x3 x4 τ5 g; exact g
  | succ n ih =>
    intro x3 x4 τ5 g
    rw [F_X10_mostTallied_5]
    refine zFp_let (fun v6 ev6 => ?_)
    rw [g.rf] at ev6
    subst ev6
    refine zFp_let (fun v7 _ => ?_)
    refine zFp_if (fun _ => ?_) (fun _ => ?_)
    · skip
      refine zFp_let (fun v9 ev9 => ?_)
      rw [g.rf] at ev9
      subst ev9
      refine zFp_let (fun v10 _ => ?_)
      refine zFp_if (fun _ => ?_) (fun _ => ?_)
      · skip
        refine zFp_let (fun v19 _ => ?_)
        refine zFp_if (fun _ => ?_) (fun _ => ?_)
        · skip
          refine zFp_let (fun v23 _ => ?_)
          exact ih _ _ _ g
        · skip
          refine zFp_let (fun v22 _ => ?_)
          exact ih _ _ _ g
      · skip
        refine zFp_let (fun v12 ev12 => ?_)
        rw [g.rf] at ev12
        subst ev12
        refine zFp_let (fun v13 _ => ?_)
        refine zFp_if (fun _ => ?_) (fun _ => ?_)
        · skip
          refine zFp_let (fun v18 _ => ?_)
          exact ih _ _ _ g
        · skip
          refine zFp_let (fun v17 _ => ?_)
          exact ih _ _ _ g
    · skip
      exact g
set_option maxRecDepth 100000 in
theorem fr_X10_mostTallied {A : Nat → Nat → Prop} {σ σ0 : zS} {a0 : Nat}  (g : zFr A σ σ0)  : zFp A σ (F_X10_mostTallied a0 σ0) := by
  unfold F_X10_mostTallied
  refine zFp_let (fun v1 _ => ?_)
  refine zFp_let (fun v2 _ => ?_)
  exact fr_X10_mostTallied_5   _ _ _ _ g
set_option maxRecDepth 100000 in
theorem fr_X10_hasWonMost_4 {A : Nat → Nat → Prop} {σ : zS} {a0 : Nat} {p1 : Int32}   : ∀ (n : Nat) (x3 : Int32) (x4 : Int32) (τ5 : zS), zFr A σ τ5 → zFp A σ (F_X10_hasWonMost_4 a0 p1 n x3 x4 τ5) := by
  intro n
  induction n with
  | zero => intro x3 x4 τ5 g; exact g
  | succ n ih =>
    intro x3 x4 τ5 g
    rw [F_X10_hasWonMost_4]
    refine zFp_let (fun v6 ev6 => ?_)
    rw [g.rf] at ev6
    subst ev6
    refine zFp_let (fun v7 _ => ?_)
    refine zFp_if (fun _ => ?_) (fun _ => ?_)
    · skip
      refine zFp_if (fun _ => ?_) (fun _ => ?_)
      · skip
        refine zFp_let (fun v10 _ => ?_)
        exact ih _ _ _ g
      · skip
        refine zFp_let (fun v11 ev11 => ?_)
        rw [g.rf] at ev11
        subst ev11
        refine zFp_let2 (fun v12 s13 es13 => ?_)
        have gs13 : zFr A σ s13 := (fr_X6_isSource g ).of es13
        refine zFp_if (fun _ => ?_) (fun _ => ?_)
        · skip
          refine zFp_let (fun v15 _ => ?_)
          exact ih _ _ _ gs13
        · skip
          refine zFp_let (fun v16 ev16 => ?_)
          rw [gs13.rf] at ev16
          subst ev16
          refine zFp_let (fun v17 ev17 => ?_)
          rw [gs13.rf] at ev17
          subst ev17
          refine zFp_let (fun v18 _ => ?_)
          refine zFp_let (fun v19 ev19 => ?_)
          rw [gs13.rf] at ev19
          subst ev19
          refine zFp_let (fun v20 ev20 => ?_)
          rw [gs13.rf] at ev20
          subst ev20
          refine zFp_let (fun v21 _ => ?_)
          refine zFp_if (fun _ => ?_) (fun _ => ?_)
          · skip
            refine zFp_let (fun v25 _ => ?_)
            exact ih _ _ _ gs13
          · skip
            refine zFp_let (fun v26 _ => ?_)
            refine zFp_let (fun v27 _ => ?_)
            exact ih _ _ _ gs13
    · skip
      exact g
set_option maxRecDepth 100000 in
theorem fr_X10_hasWonMost {A : Nat → Nat → Prop} {σ σ0 : zS} {a0 : Nat} {p1 : Int32}  (g : zFr A σ σ0)  : zFp A σ (F_X10_hasWonMost a0 p1 σ0) := by
  unfold F_X10_hasWonMost
  refine zFp_let (fun v1 _ => ?_)
  refine zFp_let (fun v2 _ => ?_)
  exact fr_X10_hasWonMost_4   _ _ _ _ g
set_option maxRecDepth 100000 in
theorem fr_X10_agree_20 {A : Nat → Nat → Prop} {σ : zS} {a0 : Nat} {p1 : Int32}  (h0 : ∀ j, A ((σ.2.2 ((σ.2.2 a0 2).getD 0) 4).getD 0) j) (h1 : ∀ j, A ((σ.2.2 ((σ.2.2 ((σ.2.2 a0 2).getD 0) 1).getD 0) 0).getD 0) j) (h2 : ∀ j, A ((σ.2.2 ((σ.2.2 ((σ.2.2 a0 2).getD 0) 1).getD 0) 1).getD 0) j) (h3 : ∀ j, A ((σ.2.2 ((σ.2.2 ((σ.2.2 a0 2).getD 0) 6).getD 0) 2).getD 0) j) (h4 : ∀ j, A ((σ.2.2 ((σ.2.2 ((σ.2.2 a0 2).getD 0) 6).getD 0) 1).getD 0) j) (h5 : A ((σ.2.2 ((σ.2.2 a0 2).getD 0) 6).getD 0) 4) (h6 : ∀ j, A ((σ.2.2 ((σ.2.2 a0 2).getD 0) 2).getD 0) j) (h7 : ∀ j, A ((σ.2.2 ((σ.2.2 a0 2).getD 0) 3).getD 0) j) : ∀ (n : Nat) (x8 : Int32) (x9 : Int32) (τ10 : zS), zFr A σ τ10 → zFp A σ (F_X10_agree_20 a0 p1 n x8 x9 τ10) := by
  intro n
  induction n with
  | zero => intro x8 x9 τ10 g; exact g
  | succ n ih =>
    intro x8 x9 τ10 g
    rw [F_X10_agree_20]
    refine zFp_if (fun _ => ?_) (fun _ => ?_)
    · skip
      refine zFp_let (fun v14 ev14 => ?_)
      rw [g.rf] at ev14
      subst ev14
      refine zFp_let (fun v15 _ => ?_)
      refine zFp_let2 (fun v16 s17 es17 => ?_)
      have gs17 : zFr A σ s17 := (fr_X5_winnerBy g h0 h1 h2).of es17
      refine zFp_if (fun _ => ?_) (fun _ => ?_)
      · skip
        refine zFp_let (fun v22 ev22 => ?_)
        rw [gs17.rf] at ev22
        subst ev22
        refine zFp_let (fun v23 _ => ?_)
        refine zFp_let2 (fun v24 s25 es25 => ?_)
        have gs25 : zFr A σ s25 := (fr_X5_winnerBy gs17 h0 h1 h2).of es25
        refine zFp_if (fun _ => ?_) (fun _ => ?_)
        · skip
          refine zFp_let (fun v30 ev30 => ?_)
          rw [gs25.rf] at ev30
          subst ev30
          refine zFp_let (fun v31 _ => ?_)
          refine zFp_let2 (fun v32 s33 es33 => ?_)
          have gs33 : zFr A σ s33 := (fr_X5_winnerBy gs25 h0 h1 h2).of es33
          refine zFp_if (fun _ => ?_) (fun _ => ?_)
          · skip
            refine zFp_let (fun v38 _ => ?_)
            refine zFp_let (fun v39 ev39 => ?_)
            rw [gs33.rf] at ev39
            subst ev39
            refine zFp_let (fun s40 es40 => ?_)
            have gs40 : zFr A σ s40 := by rw [es40]; exact fr_X5_goOn gs33 h0 h1 h2 h3 h4 h5 h6 h7
            refine zFp_let (fun v41 _ => ?_)
            exact ih _ _ _ gs40
          · skip
            refine zFp_let (fun v35 ev35 => ?_)
            rw [gs33.rf] at ev35
            subst ev35
            refine zFp_let (fun s36 es36 => ?_)
            have gs36 : zFr A σ s36 := by rw [es36]; exact fr_X5_goOn gs33 h0 h1 h2 h3 h4 h5 h6 h7
            refine zFp_let (fun v37 _ => ?_)
            exact ih _ _ _ gs36
        · skip
          refine zFp_let (fun v27 ev27 => ?_)
          rw [gs25.rf] at ev27
          subst ev27
          refine zFp_let (fun s28 es28 => ?_)
          have gs28 : zFr A σ s28 := by rw [es28]; exact fr_X5_goOn gs25 h0 h1 h2 h3 h4 h5 h6 h7
          refine zFp_let (fun v29 _ => ?_)
          exact ih _ _ _ gs28
      · skip
        refine zFp_let (fun v19 ev19 => ?_)
        rw [gs17.rf] at ev19
        subst ev19
        refine zFp_let (fun s20 es20 => ?_)
        have gs20 : zFr A σ s20 := by rw [es20]; exact fr_X5_goOn gs17 h0 h1 h2 h3 h4 h5 h6 h7
        refine zFp_let (fun v21 _ => ?_)
        exact ih _ _ _ gs20
    · skip
      exact g
set_option maxRecDepth 100000 in
theorem fr_X10_driest_43 {A : Nat → Nat → Prop} {σ : zS} {a0 : Nat} {p1 : Int32} {p2 : Int32}  (h0 : ∀ j, A ((σ.2.2 ((σ.2.2 a0 2).getD 0) 4).getD 0) j) (h1 : ∀ j, A ((σ.2.2 ((σ.2.2 ((σ.2.2 a0 2).getD 0) 1).getD 0) 0).getD 0) j) (h2 : ∀ j, A ((σ.2.2 ((σ.2.2 ((σ.2.2 a0 2).getD 0) 1).getD 0) 1).getD 0) j) (h3 : ∀ j, A ((σ.2.2 ((σ.2.2 ((σ.2.2 a0 2).getD 0) 6).getD 0) 2).getD 0) j) (h4 : ∀ j, A ((σ.2.2 ((σ.2.2 ((σ.2.2 a0 2).getD 0) 6).getD 0) 1).getD 0) j) (h5 : A ((σ.2.2 ((σ.2.2 a0 2).getD 0) 6).getD 0) 4) (h6 : ∀ j, A ((σ.2.2 ((σ.2.2 a0 2).getD 0) 2).getD 0) j) (h7 : ∀ j, A ((σ.2.2 ((σ.2.2 a0 2).getD 0) 3).getD 0) j) : ∀ (n : Nat) (x19 : Int32) (x20 : Int32) (x21 : Int32) (τ22 : zS), zFr A σ τ22 → zFp A σ (F_X10_driest_43 a0 p1 p2 n x19 x20 x21 τ22) := by
  intro n
  induction n with
  | zero => intro x19 x20 x21 τ22 g; exact g
  | succ n ih =>
    intro x19 x20 x21 τ22 g
    rw [F_X10_driest_43]
    refine zFp_if (fun _ => ?_) (fun _ => ?_)
    · skip
      refine zFp_let (fun v27 ev27 => ?_)
      rw [g.rf] at ev27
      subst ev27
      refine zFp_let (fun s28 es28 => ?_)
      have gs28 : zFr A σ s28 := by rw [es28]; exact fr_X5_goOn g h0 h1 h2 h3 h4 h5 h6 h7
      refine zFp_let2 (fun v29 s30 es30 => ?_)
      have gs30 : zFr A σ s30 := (fr_X10_mouthFlow gs28 ).of es30
      refine zFp_if (fun _ => ?_) (fun _ => ?_)
      · skip
        refine zFp_let2 (fun v35 s36 es36 => ?_)
        have gs36 : zFr A σ s36 := (fr_X10_mouthFlow gs30 ).of es36
        refine zFp_let (fun v37 _ => ?_)
        exact ih _ _ _ _ gs36
      · skip
        refine zFp_let (fun v34 _ => ?_)
        exact ih _ _ _ _ gs30
    · skip
      refine zFp_if (fun _ => ?_) (fun _ => ?_)
      · skip
        exact g
      · skip
        exact g
set_option maxRecDepth 100000 in
theorem fr_X10_reign_44 {A : Nat → Nat → Prop} {σ : zS} {a0 : Nat} {p1 : Int32} {p2 : Int32} {p3 : Int32}  (h0 : ∀ j, A ((σ.2.2 ((σ.2.2 a0 2).getD 0) 4).getD 0) j) (h1 : ∀ j, A ((σ.2.2 ((σ.2.2 ((σ.2.2 a0 2).getD 0) 1).getD 0) 0).getD 0) j) (h2 : ∀ j, A ((σ.2.2 ((σ.2.2 ((σ.2.2 a0 2).getD 0) 1).getD 0) 1).getD 0) j) (h3 : ∀ j, A ((σ.2.2 a0 9).getD 0) j) (h4 : ∀ j, A ((σ.2.2 ((σ.2.2 ((σ.2.2 a0 2).getD 0) 6).getD 0) 2).getD 0) j) (h5 : ∀ j, A ((σ.2.2 ((σ.2.2 ((σ.2.2 a0 2).getD 0) 6).getD 0) 1).getD 0) j) (h6 : A ((σ.2.2 ((σ.2.2 a0 2).getD 0) 6).getD 0) 4) (h7 : ∀ j, A ((σ.2.2 ((σ.2.2 a0 2).getD 0) 2).getD 0) j) (h8 : ∀ j, A ((σ.2.2 ((σ.2.2 a0 2).getD 0) 3).getD 0) j) : ∀ (n : Nat) (x19 : Int32) (τ20 : zS), zFr A σ τ20 → zFp A σ (F_X10_reign_44 a0 p1 p2 p3 n x19 τ20) := by
  intro n
  induction n with
  | zero => intro x19 τ20 g; exact g
  | succ n ih =>
    intro x19 τ20 g
    rw [F_X10_reign_44]
    refine zFp_if (fun _ => ?_) (fun _ => ?_)
    · skip
      refine zFp_let (fun v29 ev29 => ?_)
      rw [g.rf] at ev29
      subst ev29
      refine zFp_let2 (fun v30 s31 es31 => ?_)
      have gs31 : zFr A σ s31 := (fr_X5_winnerBy g h0 h1 h2).of es31
      refine zFp_if (fun _ => ?_) (fun _ => ?_)
      · skip
        refine zFp_let (fun v36 ev36 => ?_)
        rw [gs31.rf] at ev36
        subst ev36
        refine zFp_let (fun v37 _ => ?_)
        refine zFp_let (fun v38 _ => ?_)
        refine zFp_let (fun v39 _ => ?_)
        refine zFp_let (fun s40 es40 => ?_)
        have gs40 : zFr A σ s40 := by rw [es40]; exact gs31.w (h3 _)
        refine zFp_let (fun v41 ev41 => ?_)
        rw [gs40.rf] at ev41
        subst ev41
        refine zFp_let (fun s42 es42 => ?_)
        have gs42 : zFr A σ s42 := by rw [es42]; exact fr_X5_goOn gs40 h0 h1 h2 h4 h5 h6 h7 h8
        refine zFp_let (fun v43 _ => ?_)
        exact ih _ _ gs42
      · skip
        refine zFp_let (fun v33 ev33 => ?_)
        rw [gs31.rf] at ev33
        subst ev33
        refine zFp_let (fun s34 es34 => ?_)
        have gs34 : zFr A σ s34 := by rw [es34]; exact fr_X5_goOn gs31 h0 h1 h2 h4 h5 h6 h7 h8
        refine zFp_let (fun v35 _ => ?_)
        exact ih _ _ gs34
    · skip
      refine zFp_if (fun _ => ?_) (fun _ => ?_)
      · skip
        refine zFp_let2 (fun v27 s28 es28 => ?_)
        have gs28 : zFr A σ s28 := (fr_X10_tallied g ).of es28
        exact gs28
      · skip
        refine zFp_let2 (fun v25 s26 es26 => ?_)
        have gs26 : zFr A σ s26 := (fr_X10_mostTallied g ).of es26
        exact gs26
set_option maxRecDepth 100000 in
theorem fr_X10_when_23 {A : Nat → Nat → Prop} {σ : zS} {a0 : Nat} {p1 : Int32}  (h0 : ∀ j, A ((σ.2.2 ((σ.2.2 a0 2).getD 0) 4).getD 0) j) (h1 : ∀ j, A ((σ.2.2 ((σ.2.2 ((σ.2.2 a0 2).getD 0) 1).getD 0) 0).getD 0) j) (h2 : ∀ j, A ((σ.2.2 ((σ.2.2 ((σ.2.2 a0 2).getD 0) 1).getD 0) 1).getD 0) j) (h3 : ∀ j, A ((σ.2.2 ((σ.2.2 ((σ.2.2 a0 2).getD 0) 6).getD 0) 2).getD 0) j) (h4 : ∀ j, A ((σ.2.2 ((σ.2.2 ((σ.2.2 a0 2).getD 0) 6).getD 0) 1).getD 0) j) (h5 : A ((σ.2.2 ((σ.2.2 a0 2).getD 0) 6).getD 0) 4) (h6 : ∀ j, A ((σ.2.2 ((σ.2.2 a0 2).getD 0) 2).getD 0) j) (h7 : ∀ j, A ((σ.2.2 ((σ.2.2 a0 2).getD 0) 3).getD 0) j) : ∀ (n : Nat) (x8 : Int32) (τ9 : zS), zFr A σ τ9 → zFp A σ (F_X10_when_23 a0 p1 n x8 τ9) := by
  intro n
  induction n with
  | zero => intro x8 τ9 g; exact g
  | succ n ih =>
    intro x8 τ9 g
    rw [F_X10_when_23]
    refine zFp_let (fun v10 _ => ?_)
    refine zFp_if (fun _ => ?_) (fun _ => ?_)
    · skip
      refine zFp_let (fun v12 _ => ?_)
      exact g
    · skip
      refine zFp_let (fun v13 ev13 => ?_)
      rw [g.rf] at ev13
      subst ev13
      refine zFp_let (fun s14 es14 => ?_)
      have gs14 : zFr A σ s14 := by rw [es14]; exact fr_X5_goOn g h0 h1 h2 h3 h4 h5 h6 h7
      refine zFp_let (fun v15 ev15 => ?_)
      rw [gs14.rf] at ev15
      subst ev15
      refine zFp_let (fun v16 ev16 => ?_)
      rw [gs14.rf] at ev16
      subst ev16
      refine zFp_let (fun v17 _ => ?_)
      refine zFp_let (fun v18 ev18 => ?_)
      rw [gs14.rf] at ev18
      subst ev18
      refine zFp_let (fun v19 ev19 => ?_)
      rw [gs14.rf] at ev19
      subst ev19
      refine zFp_let (fun v20 _ => ?_)
      refine zFp_if (fun _ => ?_) (fun _ => ?_)
      · skip
        exact gs14
      · skip
        refine zFp_let (fun v24 _ => ?_)
        exact ih _ _ gs14
end
-- 35B.fr2
section
set_option maxRecDepth 100000 in
theorem fr_X11_keepsRow_2 {A : Nat → Nat → Prop} {σ : zS} {a0 : Nat}  (h0 : ∀ j, A ((σ.2.2 a0 48).getD 0) j) : ∀ (n : Nat) (x2 : Int32) (τ3 : zS), zFr A σ τ3 → zFr A σ (F_X11_keepsRow_2 a0 n x2 τ3) := by
  intro n
  induction n with
  | zero => intro x2 τ3 g; exact g
  | succ n ih =>
    intro x2 τ3 g
    rw [F_X11_keepsRow_2]
    refine zFr_let (fun v4 _ => ?_)
    refine zFr_if (fun _ => ?_) (fun _ => ?_)
    · skip
      refine zFr_let (fun v6 ev6 => ?_)
      rw [g.rf] at ev6
      subst ev6
      refine zFr_let (fun v7 ev7 => ?_)
      rw [g.rf] at ev7
      subst ev7
      refine zFr_let (fun v8 _ => ?_)
      refine zFr_let (fun s9 es9 => ?_)
      have gs9 : zFr A σ s9 := by rw [es9]; exact g.w (h0 _)
      refine zFr_let (fun v11 _ => ?_)
      exact ih _ _ gs9
    · skip
      exact g
set_option maxRecDepth 100000 in
theorem fr_X11_keepsRow {A : Nat → Nat → Prop} {σ σ0 : zS} {a0 : Nat}  (g : zFr A σ σ0) (h0 : ∀ j, A ((σ.2.2 a0 48).getD 0) j) : zFr A σ (F_X11_keepsRow a0 σ0) := by
  unfold F_X11_keepsRow
  refine zFr_let (fun v1 _ => ?_)
  exact fr_X11_keepsRow_2  h0 _ _ _ g
set_option maxRecDepth 100000 in
theorem fr_X11_looks {A : Nat → Nat → Prop} {σ σ0 : zS} {a0 : Nat} {p1 : Int32} {p2 : Int32}  (g : zFr A σ σ0) (h0 : ∀ j, A ((σ.2.2 a0 45).getD 0) j) : zFr A σ (F_X11_looks a0 p1 p2 σ0) := by
  unfold F_X11_looks
  refine zFr_let (fun v1 ev1 => ?_)
  rw [g.rf] at ev1
  subst ev1
  refine zFr_let (fun v2 _ => ?_)
  refine zFr_let (fun v3 ev3 => ?_)
  rw [g.rf] at ev3
  subst ev3
  refine zFr_let (fun v4 _ => ?_)
  refine zFr_let (fun v5 _ => ?_)
  refine zFr_let (fun v6 _ => ?_)
  refine zFr_let (fun v7 _ => ?_)
  refine zFr_let (fun v8 _ => ?_)
  refine zFr_let (fun s9 es9 => ?_)
  have gs9 : zFr A σ s9 := by rw [es9]; exact g.w (h0 _)
  refine zFr_let (fun v12 ev12 => ?_)
  rw [gs9.rf] at ev12
  subst ev12
  refine zFr_let (fun v13 _ => ?_)
  refine zFr_let (fun v14 ev14 => ?_)
  rw [gs9.rf] at ev14
  subst ev14
  refine zFr_let (fun v15 _ => ?_)
  refine zFr_let (fun s16 es16 => ?_)
  have gs16 : zFr A σ s16 := by rw [es16]; exact gs9.w (h0 _)
  refine zFr_let (fun v19 ev19 => ?_)
  rw [gs16.rf] at ev19
  subst ev19
  refine zFr_let (fun v20 _ => ?_)
  refine zFr_let (fun v21 ev21 => ?_)
  rw [gs16.rf] at ev21
  subst ev21
  refine zFr_let (fun v22 _ => ?_)
  refine zFr_let (fun v23 _ => ?_)
  refine zFr_let (fun v24 _ => ?_)
  refine zFr_let (fun v25 _ => ?_)
  refine zFr_let (fun v26 _ => ?_)
  refine zFr_let (fun s27 es27 => ?_)
  have gs27 : zFr A σ s27 := by rw [es27]; exact gs16.w (h0 _)
  refine zFr_let (fun v30 ev30 => ?_)
  rw [gs27.rf] at ev30
  subst ev30
  refine zFr_let (fun v31 _ => ?_)
  refine zFr_let (fun v32 ev32 => ?_)
  rw [gs27.rf] at ev32
  subst ev32
  refine zFr_let (fun v33 _ => ?_)
  refine zFr_let (fun v34 _ => ?_)
  refine zFr_let (fun v35 _ => ?_)
  refine zFr_let (fun v36 _ => ?_)
  refine zFr_let (fun s37 es37 => ?_)
  have gs37 : zFr A σ s37 := by rw [es37]; exact gs27.w (h0 _)
  refine zFr_let (fun v40 ev40 => ?_)
  rw [gs37.rf] at ev40
  subst ev40
  refine zFr_let (fun v41 _ => ?_)
  refine zFr_let (fun s42 es42 => ?_)
  have gs42 : zFr A σ s42 := by rw [es42]; exact gs37.w (h0 _)
  refine zFr_let (fun v45 ev45 => ?_)
  rw [gs42.rf] at ev45
  subst ev45
  refine zFr_let (fun v46 _ => ?_)
  refine zFr_let (fun v47 ev47 => ?_)
  rw [gs42.rf] at ev47
  subst ev47
  refine zFr_let (fun v48 _ => ?_)
  refine zFr_let (fun v49 _ => ?_)
  refine zFr_let (fun v50 _ => ?_)
  refine zFr_let (fun v51 _ => ?_)
  refine zFr_let (fun v52 _ => ?_)
  refine zFr_let (fun s53 es53 => ?_)
  have gs53 : zFr A σ s53 := by rw [es53]; exact gs42.w (h0 _)
  refine zFr_let (fun v56 ev56 => ?_)
  rw [gs53.rf] at ev56
  subst ev56
  refine zFr_let (fun v57 _ => ?_)
  refine zFr_let (fun v58 ev58 => ?_)
  rw [gs53.rf] at ev58
  subst ev58
  refine zFr_let (fun v59 _ => ?_)
  refine zFr_let (fun v60 _ => ?_)
  refine zFr_let (fun v61 _ => ?_)
  refine zFr_let (fun s62 es62 => ?_)
  have gs62 : zFr A σ s62 := by rw [es62]; exact gs53.w (h0 _)
  refine zFr_let (fun v65 ev65 => ?_)
  rw [gs62.rf] at ev65
  subst ev65
  refine zFr_let (fun v66 _ => ?_)
  refine zFr_let (fun s67 es67 => ?_)
  have gs67 : zFr A σ s67 := by rw [es67]; exact gs62.w (h0 _)
  refine zFr_let (fun v70 ev70 => ?_)
  rw [gs67.rf] at ev70
  subst ev70
  refine zFr_let (fun v71 _ => ?_)
  refine zFr_let (fun v72 ev72 => ?_)
  rw [gs67.rf] at ev72
  subst ev72
  refine zFr_let (fun v73 _ => ?_)
  refine zFr_let (fun v74 _ => ?_)
  refine zFr_let (fun v75 _ => ?_)
  refine zFr_let (fun v76 _ => ?_)
  refine zFr_let (fun s77 es77 => ?_)
  have gs77 : zFr A σ s77 := by rw [es77]; exact gs67.w (h0 _)
  exact gs77
set_option maxRecDepth 100000 in
theorem fr_X11_termOf_5 {A : Nat → Nat → Prop} {σ : zS} {a0 : Nat} {p1 : Int32} {p2 : Int32}  (h0 : ∀ j, A ((σ.2.2 a0 46).getD 0) j) (h1 : A a0 47) : ∀ (n : Nat) (x2 : Int32) (x3 : Int32) (τ4 : zS), zFr A σ τ4 → zFp A σ (F_X11_termOf_5 a0 p1 p2 n x2 x3 τ4) := by
  intro n
  induction n with
  | zero => intro x2 x3 τ4 g; exact g
  | succ n ih =>
    intro x2 x3 τ4 g
    rw [F_X11_termOf_5]
    refine zFp_if (fun _ => ?_) (fun _ => ?_)
    · skip
      refine zFp_let (fun v9 ev9 => ?_)
      rw [g.rf] at ev9
      subst ev9
      refine zFp_let (fun v10 _ => ?_)
      refine zFp_let (fun v11 _ => ?_)
      refine zFp_if (fun _ => ?_) (fun _ => ?_)
      · skip
        refine zFp_let (fun v67 ev67 => ?_)
        rw [g.rf] at ev67
        subst ev67
        refine zFp_if (fun _ => ?_) (fun _ => ?_)
        · skip
          refine zFp_let (fun v77 ev77 => ?_)
          rw [g.rf] at ev77
          subst ev77
          refine zFp_let (fun v78 _ => ?_)
          refine zFp_let (fun s79 es79 => ?_)
          have gs79 : zFr A σ s79 := by rw [es79]; exact g.w (h0 _)
          refine zFp_let (fun v81 _ => ?_)
          refine zFp_let (fun v82 _ => ?_)
          exact ih _ _ _ gs79
        · skip
          refine zFp_let (fun v69 ev69 => ?_)
          rw [g.rf] at ev69
          subst ev69
          refine zFp_let (fun v70 ev70 => ?_)
          rw [g.rf] at ev70
          subst ev70
          refine zFp_let (fun v71 _ => ?_)
          refine zFp_let (fun v72 _ => ?_)
          refine zFp_let (fun s73 es73 => ?_)
          have gs73 : zFr A σ s73 := by rw [es73]; exact g.w (h0 _)
          refine zFp_let (fun v75 _ => ?_)
          refine zFp_let (fun v76 _ => ?_)
          exact ih _ _ _ gs73
      · skip
        refine zFp_let (fun v14 _ => ?_)
        refine zFp_let (fun v15 ev15 => ?_)
        rw [g.rf] at ev15
        subst ev15
        refine zFp_let (fun v16 _ => ?_)
        refine zFp_let (fun v17 _ => ?_)
        refine zFp_let (fun v18 _ => ?_)
        refine zFp_let (fun v19 ev19 => ?_)
        rw [g.rf] at ev19
        subst ev19
        refine zFp_let (fun v20 _ => ?_)
        refine zFp_let (fun v21 _ => ?_)
        refine zFp_if (fun _ => ?_) (fun _ => ?_)
        · skip
          refine zFp_if (fun _ => ?_) (fun _ => ?_)
          · skip
            refine zFp_let (fun v62 _ => ?_)
            refine zFp_let (fun s63 es63 => ?_)
            have gs63 : zFr A σ s63 := by rw [es63]; exact g.w h1
            refine zFp_let (fun v66 _ => ?_)
            exact gs63
          · skip
            refine zFp_let (fun v49 ev49 => ?_)
            rw [g.rf] at ev49
            subst ev49
            refine zFp_let (fun v50 _ => ?_)
            refine zFp_let (fun v51 _ => ?_)
            refine zFp_let (fun v52 _ => ?_)
            refine zFp_if (fun _ => ?_) (fun _ => ?_)
            · skip
              exact g
            · skip
              refine zFp_let (fun v54 _ => ?_)
              refine zFp_if (fun _ => ?_) (fun _ => ?_)
              · skip
                exact g
              · skip
                refine zFp_let (fun v56 _ => ?_)
                refine zFp_if (fun _ => ?_) (fun _ => ?_)
                · skip
                  exact g
                · skip
                  refine zFp_let (fun v58 _ => ?_)
                  refine zFp_let (fun s59 es59 => ?_)
                  have gs59 : zFr A σ s59 := by rw [es59]; exact g.w (h0 _)
                  refine zFp_let (fun v61 _ => ?_)
                  exact ih _ _ _ gs59
        · skip
          refine zFp_let (fun v23 ev23 => ?_)
          rw [g.rf] at ev23
          subst ev23
          refine zFp_let (fun v24 _ => ?_)
          refine zFp_let (fun v25 _ => ?_)
          refine zFp_let (fun v26 _ => ?_)
          refine zFp_if (fun _ => ?_) (fun _ => ?_)
          · skip
            refine zFp_let (fun v44 _ => ?_)
            refine zFp_let (fun s45 es45 => ?_)
            have gs45 : zFr A σ s45 := by rw [es45]; exact g.w (h0 _)
            refine zFp_let (fun v47 _ => ?_)
            exact ih _ _ _ gs45
          · skip
            refine zFp_let (fun v28 _ => ?_)
            refine zFp_if (fun _ => ?_) (fun _ => ?_)
            · skip
              refine zFp_let (fun v40 _ => ?_)
              refine zFp_let (fun s41 es41 => ?_)
              have gs41 : zFr A σ s41 := by rw [es41]; exact g.w (h0 _)
              refine zFp_let (fun v43 _ => ?_)
              exact ih _ _ _ gs41
            · skip
              refine zFp_let (fun v30 _ => ?_)
              refine zFp_if (fun _ => ?_) (fun _ => ?_)
              · skip
                refine zFp_let (fun v36 _ => ?_)
                refine zFp_let (fun s37 es37 => ?_)
                have gs37 : zFr A σ s37 := by rw [es37]; exact g.w (h0 _)
                refine zFp_let (fun v39 _ => ?_)
                exact ih _ _ _ gs37
              · skip
                refine zFp_let (fun v32 _ => ?_)
                refine zFp_let (fun s33 es33 => ?_)
                have gs33 : zFr A σ s33 := by rw [es33]; exact g.w (h0 _)
                refine zFp_let (fun v35 _ => ?_)
                exact ih _ _ _ gs33
    · skip
      refine zFp_let (fun v6 ev6 => ?_)
      rw [g.rf] at ev6
      subst ev6
      refine zFp_let (fun v7 _ => ?_)
      refine zFp_let (fun v8 _ => ?_)
      exact g
set_option maxRecDepth 100000 in
theorem fr_X11_termOf {A : Nat → Nat → Prop} {σ σ0 : zS} {a0 : Nat} {p1 : Int32} {p2 : Int32}  (g : zFr A σ σ0) (h0 : ∀ j, A ((σ.2.2 a0 46).getD 0) j) (h1 : A a0 47) : zFp A σ (F_X11_termOf a0 p1 p2 σ0) := by
  unfold F_X11_termOf
  refine zFp_let (fun v1 _ => ?_)
  exact fr_X11_termOf_5  h0 h1 _ _ _ _ g
set_option maxRecDepth 100000 in
theorem fr_X11_lawTells_39 {A : Nat → Nat → Prop} {σ : zS} {v4 : Int32} {a0 : Nat} {p1 : Int32} {p2 : Int32}  (h0 : ∀ j, A ((σ.2.2 a0 46).getD 0) j) (h1 : A a0 47) : ∀ (n : Nat) (x17 : Int32) (τ18 : zS), zFr A σ τ18 → zFp A σ (F_X11_lawTells_39 v4 a0 p1 p2 n x17 τ18) := by
  intro n
  induction n with
  | zero => intro x17 τ18 g; exact g
  | succ n ih =>
    intro x17 τ18 g
    rw [F_X11_lawTells_39]
    refine zFp_let (fun v19 ev19 => ?_)
    rw [g.rf] at ev19
    subst ev19
    refine zFp_let (fun v20 _ => ?_)
    refine zFp_if (fun _ => ?_) (fun _ => ?_)
    · skip
      refine zFp_let (fun v25 ev25 => ?_)
      rw [g.rf] at ev25
      subst ev25
      refine zFp_let (fun v26 _ => ?_)
      refine zFp_if (fun _ => ?_) (fun _ => ?_)
      · skip
        refine zFp_let (fun v28 ev28 => ?_)
        rw [g.rf] at ev28
        subst ev28
        refine zFp_let (fun v29 _ => ?_)
        refine zFp_let (fun v30 ev30 => ?_)
        rw [g.rf] at ev30
        subst ev30
        refine zFp_let (fun v31 _ => ?_)
        refine zFp_let2 (fun v33 t32 et32 => ?_)
        have gt32 : zFr A σ t32 := (fr_X11_termOf g h0 h1).of et32
        refine zFp_let (fun v35 _ => ?_)
        refine zFp_if (fun _ => ?_) (fun _ => ?_)
        · skip
          exact gt32
        · skip
          refine zFp_let (fun v37 _ => ?_)
          exact gt32
      · skip
        refine zFp_let (fun v38 ev38 => ?_)
        rw [g.rf] at ev38
        subst ev38
        refine zFp_let (fun v39 _ => ?_)
        refine zFp_let (fun v40 ev40 => ?_)
        rw [g.rf] at ev40
        subst ev40
        refine zFp_let (fun v41 _ => ?_)
        refine zFp_let2 (fun v43 t42 et42 => ?_)
        have gt42 : zFr A σ t42 := (fr_X11_termOf g h0 h1).of et42
        refine zFp_let (fun v45 ev45 => ?_)
        rw [gt42.rf] at ev45
        subst ev45
        refine zFp_let (fun v46 _ => ?_)
        refine zFp_let (fun v47 ev47 => ?_)
        rw [gt42.rf] at ev47
        subst ev47
        refine zFp_let (fun v48 _ => ?_)
        refine zFp_let2 (fun v50 t49 et49 => ?_)
        have gt49 : zFr A σ t49 := (fr_X11_termOf gt42 h0 h1).of et49
        refine zFp_let (fun v52 _ => ?_)
        refine zFp_if (fun _ => ?_) (fun _ => ?_)
        · skip
          refine zFp_if (fun _ => ?_) (fun _ => ?_)
          · skip
            refine zFp_let (fun v57 ev57 => ?_)
            rw [gt49.rf] at ev57
            subst ev57
            refine zFp_let (fun v58 _ => ?_)
            refine zFp_let (fun v59 ev59 => ?_)
            rw [gt49.rf] at ev59
            subst ev59
            refine zFp_let (fun v60 _ => ?_)
            refine zFp_let2 (fun v62 t61 et61 => ?_)
            have gt61 : zFr A σ t61 := (fr_X11_termOf gt49 h0 h1).of et61
            refine zFp_let (fun v64 _ => ?_)
            refine zFp_if (fun _ => ?_) (fun _ => ?_)
            · skip
              exact gt61
            · skip
              refine zFp_let (fun v66 _ => ?_)
              exact gt61
          · skip
            refine zFp_let (fun v67 _ => ?_)
            exact ih _ _ gt49
        · skip
          refine zFp_let (fun v68 _ => ?_)
          exact gt49
    · skip
      refine zFp_let (fun v24 _ => ?_)
      exact g
set_option maxRecDepth 100000 in
theorem fr_X11_lawTells {A : Nat → Nat → Prop} {σ σ0 : zS} {a0 : Nat} {p1 : Int32} {p2 : Int32}  (g : zFr A σ σ0) (h0 : A a0 47) (h1 : ∀ j, A ((σ.2.2 a0 46).getD 0) j) : zFp A σ (F_X11_lawTells a0 p1 p2 σ0) := by
  unfold F_X11_lawTells
  refine zFp_let (fun v1 _ => ?_)
  refine zFp_let (fun v2 _ => ?_)
  refine zFp_let (fun v3 _ => ?_)
  refine zFp_let (fun v4 _ => ?_)
  refine zFp_let (fun v5 ev5 => ?_)
  rw [g.rf] at ev5
  subst ev5
  refine zFp_let (fun v6 _ => ?_)
  refine zFp_let (fun v7 ev7 => ?_)
  rw [g.rf] at ev7
  subst ev7
  refine zFp_let (fun v8 _ => ?_)
  refine zFp_if (fun _ => ?_) (fun _ => ?_)
  · skip
    exact g
  · skip
    refine zFp_let (fun v10 _ => ?_)
    refine zFp_let (fun s11 es11 => ?_)
    have gs11 : zFr A σ s11 := by rw [es11]; exact g.w h0
    refine zFp_let (fun v15 ev15 => ?_)
    rw [gs11.rf] at ev15
    subst ev15
    refine zFp_let (fun v16 _ => ?_)
    exact fr_X11_lawTells_39  h1 h0 _ _ _ gs11
set_option maxRecDepth 100000 in
theorem fr_X11_rainsAt {A : Nat → Nat → Prop} {σ σ0 : zS} {a0 : Nat} {p1 : Int32}  (g : zFr A σ σ0) (h0 : ∀ j, A ((σ.2.2 a0 45).getD 0) j) (h1 : A a0 47) (h2 : ∀ j, A ((σ.2.2 a0 46).getD 0) j) : zFp A σ (F_X11_rainsAt a0 p1 σ0) := by
  unfold F_X11_rainsAt
  refine zFp_let (fun v1 _ => ?_)
  refine zFp_let (fun t2 et2 => ?_)
  have gt2 : zFr A σ t2 := by rw [et2]; exact fr_X11_looks g h0
  refine zFp_let (fun v4 _ => ?_)
  refine zFp_let (fun v5 ev5 => ?_)
  rw [gt2.rf] at ev5
  subst ev5
  refine zFp_let (fun v6 _ => ?_)
  refine zFp_let (fun v7 _ => ?_)
  refine zFp_let2 (fun v9 t8 et8 => ?_)
  have gt8 : zFr A σ t8 := (fr_X11_lawTells gt2 h1 h2).of et8
  refine zFp_let (fun v11 _ => ?_)
  refine zFp_let (fun v12 _ => ?_)
  refine zFp_let (fun v13 _ => ?_)
  exact gt8
set_option maxRecDepth 100000 in
theorem fr_X11_driesAt {A : Nat → Nat → Prop} {σ σ0 : zS} {a0 : Nat} {p1 : Int32}  (g : zFr A σ σ0) (h0 : ∀ j, A ((σ.2.2 a0 45).getD 0) j) (h1 : A a0 47) (h2 : ∀ j, A ((σ.2.2 a0 46).getD 0) j) : zFp A σ (F_X11_driesAt a0 p1 σ0) := by
  unfold F_X11_driesAt
  refine zFp_let (fun v1 ev1 => ?_)
  rw [g.rf] at ev1
  subst ev1
  refine zFp_let (fun v2 _ => ?_)
  refine zFp_let (fun t3 et3 => ?_)
  have gt3 : zFr A σ t3 := by rw [et3]; exact fr_X11_looks g h0
  refine zFp_let (fun v5 _ => ?_)
  refine zFp_let (fun v6 _ => ?_)
  refine zFp_let2 (fun v8 t7 et7 => ?_)
  have gt7 : zFr A σ t7 := (fr_X11_lawTells gt3 h1 h2).of et7
  refine zFp_let (fun v10 _ => ?_)
  refine zFp_let (fun v11 ev11 => ?_)
  rw [gt7.rf] at ev11
  subst ev11
  refine zFp_let (fun v12 _ => ?_)
  refine zFp_let (fun v13 _ => ?_)
  exact gt7
set_option maxRecDepth 100000 in
theorem fr_X11_claimOf {A : Nat → Nat → Prop} {σ σ0 : zS} {a0 : Nat} {p1 : Int32} {p2 : Int32}  (g : zFr A σ σ0) (h0 : ∀ j, A ((σ.2.2 a0 45).getD 0) j) (h1 : A a0 47) (h2 : ∀ j, A ((σ.2.2 a0 46).getD 0) j) : zFp A σ (F_X11_claimOf a0 p1 p2 σ0) := by
  unfold F_X11_claimOf
  refine zFp_let (fun v1 ev1 => ?_)
  rw [g.rf] at ev1
  subst ev1
  refine zFp_let (fun v2 _ => ?_)
  refine zFp_let (fun t3 et3 => ?_)
  have gt3 : zFr A σ t3 := by rw [et3]; exact fr_X11_looks g h0
  refine zFp_if (fun _ => ?_) (fun _ => ?_)
  · skip
    refine zFp_let (fun v30 ev30 => ?_)
    rw [gt3.rf] at ev30
    subst ev30
    refine zFp_let (fun v31 _ => ?_)
    refine zFp_let (fun v32 _ => ?_)
    refine zFp_let (fun v33 _ => ?_)
    refine zFp_let (fun v34 _ => ?_)
    refine zFp_let2 (fun v36 t35 et35 => ?_)
    have gt35 : zFr A σ t35 := (fr_X11_lawTells gt3 h1 h2).of et35
    refine zFp_let (fun v38 _ => ?_)
    refine zFp_let (fun v39 _ => ?_)
    refine zFp_let (fun v40 _ => ?_)
    exact gt35
  · skip
    refine zFp_let (fun v6 _ => ?_)
    refine zFp_if (fun _ => ?_) (fun _ => ?_)
    · skip
      refine zFp_let (fun v19 ev19 => ?_)
      rw [gt3.rf] at ev19
      subst ev19
      refine zFp_let (fun v20 _ => ?_)
      refine zFp_let (fun v21 _ => ?_)
      refine zFp_let (fun v22 _ => ?_)
      refine zFp_let (fun v23 _ => ?_)
      refine zFp_let2 (fun v25 t24 et24 => ?_)
      have gt24 : zFr A σ t24 := (fr_X11_lawTells gt3 h1 h2).of et24
      refine zFp_let (fun v27 _ => ?_)
      refine zFp_let (fun v28 _ => ?_)
      refine zFp_let (fun v29 _ => ?_)
      exact gt24
    · skip
      refine zFp_let (fun v8 ev8 => ?_)
      rw [gt3.rf] at ev8
      subst ev8
      refine zFp_let (fun v9 _ => ?_)
      refine zFp_let (fun v10 _ => ?_)
      refine zFp_let (fun v11 _ => ?_)
      refine zFp_let (fun v12 _ => ?_)
      refine zFp_let2 (fun v14 t13 et13 => ?_)
      have gt13 : zFr A σ t13 := (fr_X11_lawTells gt3 h1 h2).of et13
      refine zFp_let (fun v16 _ => ?_)
      refine zFp_let (fun v17 _ => ?_)
      refine zFp_let (fun v18 _ => ?_)
      exact gt13
set_option maxRecDepth 100000 in
theorem fr_X11_winnerBy_8 {A : Nat → Nat → Prop} {σ : zS} {a0 : Nat} {p1 : Int32}  (h0 : ∀ j, A ((σ.2.2 a0 45).getD 0) j) (h1 : A a0 47) (h2 : ∀ j, A ((σ.2.2 a0 46).getD 0) j) : ∀ (n : Nat) (x4 : Int32) (x5 : Int32) (x6 : Int32) (τ7 : zS), zFr A σ τ7 → zFp A σ (F_X11_winnerBy_8 a0 p1 n x4 x5 x6 τ7) := by
  intro n
  induction n with
  | zero => intro x4 x5 x6 τ7 g; exact g
  | succ n ih =>
    intro x4 x5 x6 τ7 g
    rw [F_X11_winnerBy_8]
    refine zFp_let (fun v9 _ => ?_)
    refine zFp_if (fun _ => ?_) (fun _ => ?_)
    · skip
      refine zFp_let (fun v12 _ => ?_)
      refine zFp_if (fun _ => ?_) (fun _ => ?_)
      · skip
        refine zFp_let (fun v24 _ => ?_)
        exact ih _ _ _ _ g
      · skip
        refine zFp_let2 (fun v15 t14 et14 => ?_)
        have gt14 : zFr A σ t14 := (fr_X11_claimOf g h0 h1 h2).of et14
        refine zFp_if (fun _ => ?_) (fun _ => ?_)
        · skip
          refine zFp_let (fun v18 _ => ?_)
          exact ih _ _ _ _ gt14
        · skip
          refine zFp_if (fun _ => ?_) (fun _ => ?_)
          · skip
            refine zFp_let (fun v22 _ => ?_)
            exact ih _ _ _ _ gt14
          · skip
            refine zFp_let (fun v23 _ => ?_)
            exact ih _ _ _ _ gt14
    · skip
      exact g
set_option maxRecDepth 100000 in
theorem fr_X11_winnerBy {A : Nat → Nat → Prop} {σ σ0 : zS} {a0 : Nat} {p1 : Int32}  (g : zFr A σ σ0) (h0 : ∀ j, A ((σ.2.2 a0 45).getD 0) j) (h1 : A a0 47) (h2 : ∀ j, A ((σ.2.2 a0 46).getD 0) j) : zFp A σ (F_X11_winnerBy a0 p1 σ0) := by
  unfold F_X11_winnerBy
  refine zFp_let (fun v1 _ => ?_)
  refine zFp_let (fun v2 _ => ?_)
  refine zFp_let (fun v3 _ => ?_)
  exact fr_X11_winnerBy_8  h0 h1 h2 _ _ _ _ _ g
set_option maxRecDepth 100000 in
theorem fr_X11_fillsWays_61 {A : Nat → Nat → Prop} {σ : zS} {x8 : Int32} {a0 : Nat} {kLp3 : Int32 → zS → zS} {kLp9 : Int32 → zS → zS} (ckLp3 : ∀ (y0 : Int32) (s : zS), zFr A σ s → zFr A σ (kLp3 y0 s)) (ckLp9 : ∀ (y0 : Int32) (s : zS), zFr A σ s → zFr A σ (kLp9 y0 s)) (h0 : ∀ j, A ((σ.2.2 a0 52).getD 0) j) (h1 : ∀ j, A ((σ.2.2 a0 53).getD 0) j) (h2 : ∀ j, A ((σ.2.2 a0 54).getD 0) j) : ∀ (n : Nat) (x28 : Int32) (τ29 : zS), zFr A σ τ29 → zFr A σ (F_X11_fillsWays_61 x8 a0 kLp3 kLp9 n x28 τ29) := by
  intro n
  induction n with
  | zero => intro x28 τ29 g; exact g
  | succ n ih =>
    intro x28 τ29 g
    rw [F_X11_fillsWays_61]
    refine zFr_if (fun _ => ?_) (fun _ => ?_)
    · skip
      refine zFr_let (fun v32 ev32 => ?_)
      rw [g.rf] at ev32
      subst ev32
      refine zFr_let (fun v33 _ => ?_)
      refine zFr_let (fun v34 ev34 => ?_)
      rw [g.rf] at ev34
      subst ev34
      refine zFr_let (fun v35 _ => ?_)
      refine zFr_let (fun v36 _ => ?_)
      refine zFr_let (fun v37 _ => ?_)
      refine zFr_let (fun v38 _ => ?_)
      refine zFr_let (fun v39 _ => ?_)
      refine zFr_let (fun v40 _ => ?_)
      refine zFr_let (fun s41 es41 => ?_)
      have gs41 : zFr A σ s41 := by rw [es41]; exact g.w (h0 _)
      refine zFr_let (fun v44 ev44 => ?_)
      rw [gs41.rf] at ev44
      subst ev44
      refine zFr_let (fun v45 _ => ?_)
      refine zFr_let (fun v46 _ => ?_)
      refine zFr_let (fun v47 _ => ?_)
      refine zFr_let (fun s48 es48 => ?_)
      have gs48 : zFr A σ s48 := by rw [es48]; exact gs41.w (h1 _)
      refine zFr_let (fun v51 ev51 => ?_)
      rw [gs48.rf] at ev51
      subst ev51
      refine zFr_let (fun v52 _ => ?_)
      refine zFr_let (fun v53 ev53 => ?_)
      rw [gs48.rf] at ev53
      subst ev53
      refine zFr_let (fun v54 _ => ?_)
      refine zFr_let (fun v55 _ => ?_)
      refine zFr_let (fun v56 _ => ?_)
      refine zFr_let (fun v57 _ => ?_)
      refine zFr_let (fun s58 es58 => ?_)
      have gs58 : zFr A σ s58 := by rw [es58]; exact gs48.w (h2 _)
      exact ih _ _ gs58
    · skip
      refine zFr_let (fun v31 _ => ?_)
      exact ckLp9 _ _ g
set_option maxRecDepth 100000 in
theorem fr_X11_fillsWays_25 {A : Nat → Nat → Prop} {σ : zS} {a0 : Nat} {kLp3 : Int32 → zS → zS} (ckLp3 : ∀ (y0 : Int32) (s : zS), zFr A σ s → zFr A σ (kLp3 y0 s)) (h0 : ∀ j, A ((σ.2.2 a0 52).getD 0) j) (h1 : ∀ j, A ((σ.2.2 a0 53).getD 0) j) (h2 : ∀ j, A ((σ.2.2 a0 54).getD 0) j) : ∀ (n : Nat) (x8 : Int32) (τ9 : zS), zFr A σ τ9 → zFr A σ (F_X11_fillsWays_25 a0 kLp3 n x8 τ9) := by
  intro n
  induction n with
  | zero => intro x8 τ9 g; exact g
  | succ n ih =>
    intro x8 τ9 g
    rw [F_X11_fillsWays_25]
    refine zFr_let (fun v11 _ => ?_)
    refine zFr_if (fun _ => ?_) (fun _ => ?_)
    · skip
      refine zFr_let (fun v13 ev13 => ?_)
      rw [g.rf] at ev13
      subst ev13
      refine zFr_let (fun v14 _ => ?_)
      refine zFr_let (fun s15 es15 => ?_)
      have gs15 : zFr A σ s15 := by rw [es15]; exact g.w (h0 _)
      refine zFr_let (fun v17 ev17 => ?_)
      rw [gs15.rf] at ev17
      subst ev17
      refine zFr_let (fun v18 _ => ?_)
      refine zFr_let (fun s19 es19 => ?_)
      have gs19 : zFr A σ s19 := by rw [es19]; exact gs15.w (h1 _)
      refine zFr_let (fun v21 ev21 => ?_)
      rw [gs19.rf] at ev21
      subst ev21
      refine zFr_let (fun v22 _ => ?_)
      refine zFr_let (fun v23 _ => ?_)
      refine zFr_let (fun v24 _ => ?_)
      refine zFr_let (fun v25 _ => ?_)
      refine zFr_let (fun s26 es26 => ?_)
      have gs26 : zFr A σ s26 := by rw [es26]; exact gs19.w (h2 _)
      exact fr_X11_fillsWays_61 ckLp3 ih h0 h1 h2 _ _ _ gs26
    · skip
      exact g
set_option maxRecDepth 100000 in
theorem fr_X11_fillsWays_2 {A : Nat → Nat → Prop} {σ : zS} {a0 : Nat}  (h0 : ∀ j, A ((σ.2.2 a0 54).getD 0) j) (h1 : ∀ j, A ((σ.2.2 a0 52).getD 0) j) (h2 : ∀ j, A ((σ.2.2 a0 53).getD 0) j) : ∀ (n : Nat) (x2 : Int32) (τ3 : zS), zFr A σ τ3 → zFr A σ (F_X11_fillsWays_2 a0 n x2 τ3) := by
  intro n
  induction n with
  | zero => intro x2 τ3 g; exact g
  | succ n ih =>
    intro x2 τ3 g
    rw [F_X11_fillsWays_2]
    refine zFr_let (fun v5 _ => ?_)
    refine zFr_if (fun _ => ?_) (fun _ => ?_)
    · skip
      refine zFr_let (fun v61 ev61 => ?_)
      rw [g.rf] at ev61
      subst ev61
      refine zFr_let (fun v62 _ => ?_)
      refine zFr_let (fun s63 es63 => ?_)
      have gs63 : zFr A σ s63 := by rw [es63]; exact g.w (h0 _)
      refine zFr_let (fun v65 _ => ?_)
      exact ih _ _ gs63
    · skip
      refine zFr_let (fun v7 _ => ?_)
      exact fr_X11_fillsWays_25 ih h1 h2 h0 _ _ _ g
set_option maxRecDepth 100000 in
theorem fr_X11_fillsWays {A : Nat → Nat → Prop} {σ σ0 : zS} {a0 : Nat}  (g : zFr A σ σ0) (h0 : ∀ j, A ((σ.2.2 a0 54).getD 0) j) (h1 : ∀ j, A ((σ.2.2 a0 52).getD 0) j) (h2 : ∀ j, A ((σ.2.2 a0 53).getD 0) j) : zFr A σ (F_X11_fillsWays a0 σ0) := by
  unfold F_X11_fillsWays
  refine zFr_let (fun v1 _ => ?_)
  exact fr_X11_fillsWays_2  h0 h1 h2 _ _ _ g
set_option maxRecDepth 100000 in
theorem fr_X11_fillsFlows_38 {A : Nat → Nat → Prop} {σ : zS} {x8 : Int32} {a0 : Nat} {p1 : Int32} {kLp3 : Int32 → zS → zS} {kLp9 : Int32 → zS → zS} (ckLp3 : ∀ (y0 : Int32) (s : zS), zFr A σ s → zFr A σ (kLp3 y0 s)) (ckLp9 : ∀ (y0 : Int32) (s : zS), zFr A σ s → zFr A σ (kLp9 y0 s)) (h0 : ∀ j, A ((σ.2.2 a0 45).getD 0) j) (h1 : A a0 47) (h2 : ∀ j, A ((σ.2.2 a0 46).getD 0) j) (h3 : ∀ j, A ((σ.2.2 a0 55).getD 0) j) : ∀ (n : Nat) (x12 : Int32) (τ13 : zS), zFr A σ τ13 → zFr A σ (F_X11_fillsFlows_38 x8 a0 p1 kLp3 kLp9 n x12 τ13) := by
  intro n
  induction n with
  | zero => intro x12 τ13 g; exact g
  | succ n ih =>
    intro x12 τ13 g
    rw [F_X11_fillsFlows_38]
    refine zFr_let (fun v15 _ => ?_)
    refine zFr_if (fun _ => ?_) (fun _ => ?_)
    · skip
      refine zFr_let (fun v18 ev18 => ?_)
      rw [g.rf] at ev18
      subst ev18
      refine zFr_let (fun v19 _ => ?_)
      refine zFr_if (fun _ => ?_) (fun _ => ?_)
      · skip
        refine zFr_let (fun v22 ev22 => ?_)
        rw [g.rf] at ev22
        subst ev22
        refine zFr_let (fun v23 _ => ?_)
        refine zFr_let (fun v24 _ => ?_)
        refine zFr_let (fun v25 _ => ?_)
        refine zFr_let (fun v26 _ => ?_)
        refine zFr_if (fun _ => ?_) (fun _ => ?_)
        · skip
          refine zFr_let (fun v42 _ => ?_)
          exact ih _ _ g
        · skip
          refine zFr_let (fun v28 ev28 => ?_)
          rw [g.rf] at ev28
          subst ev28
          refine zFr_let (fun v29 _ => ?_)
          refine zFr_let2 (fun v31 t30 et30 => ?_)
          have gt30 : zFr A σ t30 := (fr_X11_driesAt g h0 h1 h2).of et30
          refine zFr_let (fun v33 _ => ?_)
          refine zFr_let (fun v34 ev34 => ?_)
          rw [gt30.rf] at ev34
          subst ev34
          refine zFr_let (fun v35 ev35 => ?_)
          rw [gt30.rf] at ev35
          subst ev35
          refine zFr_let (fun v36 _ => ?_)
          refine zFr_let (fun v37 _ => ?_)
          refine zFr_let (fun v38 _ => ?_)
          refine zFr_let (fun s39 es39 => ?_)
          have gs39 : zFr A σ s39 := by rw [es39]; exact gt30.w (h3 _)
          refine zFr_let (fun v41 _ => ?_)
          exact ih _ _ gs39
      · skip
        refine zFr_let (fun v21 _ => ?_)
        exact ih _ _ g
    · skip
      refine zFr_let (fun v17 _ => ?_)
      exact ckLp9 _ _ g
set_option maxRecDepth 100000 in
theorem fr_X11_fillsFlows_32 {A : Nat → Nat → Prop} {σ : zS} {a0 : Nat} {p1 : Int32} {kLp3 : Int32 → zS → zS} (ckLp3 : ∀ (y0 : Int32) (s : zS), zFr A σ s → zFr A σ (kLp3 y0 s)) (h0 : ∀ j, A ((σ.2.2 a0 45).getD 0) j) (h1 : A a0 47) (h2 : ∀ j, A ((σ.2.2 a0 46).getD 0) j) (h3 : ∀ j, A ((σ.2.2 a0 55).getD 0) j) : ∀ (n : Nat) (x8 : Int32) (τ9 : zS), zFr A σ τ9 → zFr A σ (F_X11_fillsFlows_32 a0 p1 kLp3 n x8 τ9) := by
  intro n
  induction n with
  | zero => intro x8 τ9 g; exact g
  | succ n ih =>
    intro x8 τ9 g
    rw [F_X11_fillsFlows_32]
    refine zFr_if (fun _ => ?_) (fun _ => ?_)
    · skip
      refine zFr_let (fun v11 _ => ?_)
      exact fr_X11_fillsFlows_38 ckLp3 ih h0 h1 h2 h3 _ _ _ g
    · skip
      exact g
set_option maxRecDepth 100000 in
theorem fr_X11_fillsFlows_2 {A : Nat → Nat → Prop} {σ : zS} {a0 : Nat} {p1 : Int32}  (h0 : ∀ j, A ((σ.2.2 a0 45).getD 0) j) (h1 : A a0 47) (h2 : ∀ j, A ((σ.2.2 a0 46).getD 0) j) (h3 : ∀ j, A ((σ.2.2 a0 55).getD 0) j) : ∀ (n : Nat) (x2 : Int32) (τ3 : zS), zFr A σ τ3 → zFr A σ (F_X11_fillsFlows_2 a0 p1 n x2 τ3) := by
  intro n
  induction n with
  | zero => intro x2 τ3 g; exact g
  | succ n ih =>
    intro x2 τ3 g
    rw [F_X11_fillsFlows_2]
    refine zFr_let (fun v5 _ => ?_)
    refine zFr_if (fun _ => ?_) (fun _ => ?_)
    · skip
      refine zFr_let (fun v43 ev43 => ?_)
      rw [g.rf] at ev43
      subst ev43
      refine zFr_let2 (fun v45 t44 et44 => ?_)
      have gt44 : zFr A σ t44 := (fr_X11_rainsAt g h0 h1 h2).of et44
      refine zFr_let (fun v48 _ => ?_)
      refine zFr_let (fun s49 es49 => ?_)
      have gs49 : zFr A σ s49 := by rw [es49]; exact gt44.w (h3 _)
      refine zFr_let (fun v51 _ => ?_)
      exact ih _ _ gs49
    · skip
      refine zFr_let (fun v7 _ => ?_)
      exact fr_X11_fillsFlows_32 ih h0 h1 h2 h3 _ _ _ g
set_option maxRecDepth 100000 in
theorem fr_X11_fillsFlows {A : Nat → Nat → Prop} {σ σ0 : zS} {a0 : Nat} {p1 : Int32}  (g : zFr A σ σ0) (h0 : ∀ j, A ((σ.2.2 a0 45).getD 0) j) (h1 : A a0 47) (h2 : ∀ j, A ((σ.2.2 a0 46).getD 0) j) (h3 : ∀ j, A ((σ.2.2 a0 55).getD 0) j) : zFr A σ (F_X11_fillsFlows a0 p1 σ0) := by
  unfold F_X11_fillsFlows
  refine zFr_let (fun v1 _ => ?_)
  exact fr_X11_fillsFlows_2  h0 h1 h2 h3 _ _ _ g
set_option maxRecDepth 100000 in
theorem fr_X11_copies_2 {A : Nat → Nat → Prop} {σ : zS} {a0 : Nat}  (h0 : ∀ j, A ((σ.2.2 a0 49).getD 0) j) (h1 : A a0 50) (h2 : A a0 51) (h3 : ∀ j, A ((σ.2.2 a0 54).getD 0) j) (h4 : ∀ j, A ((σ.2.2 a0 52).getD 0) j) (h5 : ∀ j, A ((σ.2.2 a0 53).getD 0) j) (h6 : ∀ j, A ((σ.2.2 a0 45).getD 0) j) (h7 : A a0 47) (h8 : ∀ j, A ((σ.2.2 a0 46).getD 0) j) (h9 : ∀ j, A ((σ.2.2 a0 55).getD 0) j) : ∀ (n : Nat) (x2 : Int32) (τ3 : zS), zFr A σ τ3 → zFr A σ (F_X11_copies_2 a0 n x2 τ3) := by
  intro n
  induction n with
  | zero => intro x2 τ3 g; exact g
  | succ n ih =>
    intro x2 τ3 g
    rw [F_X11_copies_2]
    refine zFr_let (fun v4 _ => ?_)
    refine zFr_if (fun _ => ?_) (fun _ => ?_)
    · skip
      refine zFr_let (fun v30 ev30 => ?_)
      rw [g.rf] at ev30
      subst ev30
      refine zFr_let (fun v31 ev31 => ?_)
      rw [g.rf] at ev31
      subst ev31
      refine zFr_let (fun v32 _ => ?_)
      refine zFr_let (fun s33 es33 => ?_)
      have gs33 : zFr A σ s33 := by rw [es33]; exact g.w (h0 _)
      refine zFr_let (fun v35 _ => ?_)
      exact ih _ _ gs33
    · skip
      refine zFr_let (fun v6 ev6 => ?_)
      rw [g.rf] at ev6
      subst ev6
      refine zFr_let (fun v7 _ => ?_)
      refine zFr_let (fun v8 _ => ?_)
      refine zFr_let (fun s9 es9 => ?_)
      have gs9 : zFr A σ s9 := by rw [es9]; exact g.w h1
      refine zFr_let (fun v13 _ => ?_)
      refine zFr_let (fun s14 es14 => ?_)
      have gs14 : zFr A σ s14 := by rw [es14]; exact gs9.w h2
      refine zFr_let (fun t19 et19 => ?_)
      have gt19 : zFr A σ t19 := by rw [et19]; exact fr_X11_fillsWays gs14 h3 h4 h5
      refine zFr_let (fun v24 _ => ?_)
      refine zFr_let (fun t25 et25 => ?_)
      have gt25 : zFr A σ t25 := by rw [et25]; exact fr_X11_fillsFlows gt19 h6 h7 h8 h9
      exact gt25
set_option maxRecDepth 100000 in
theorem fr_X11_copies {A : Nat → Nat → Prop} {σ σ0 : zS} {a0 : Nat}  (g : zFr A σ σ0) (h0 : ∀ j, A ((σ.2.2 a0 49).getD 0) j) (h1 : A a0 50) (h2 : A a0 51) (h3 : ∀ j, A ((σ.2.2 a0 54).getD 0) j) (h4 : ∀ j, A ((σ.2.2 a0 52).getD 0) j) (h5 : ∀ j, A ((σ.2.2 a0 53).getD 0) j) (h6 : ∀ j, A ((σ.2.2 a0 45).getD 0) j) (h7 : A a0 47) (h8 : ∀ j, A ((σ.2.2 a0 46).getD 0) j) (h9 : ∀ j, A ((σ.2.2 a0 55).getD 0) j) : zFr A σ (F_X11_copies a0 σ0) := by
  unfold F_X11_copies
  refine zFr_let (fun v1 _ => ?_)
  exact fr_X11_copies_2  h0 h1 h2 h3 h4 h5 h6 h7 h8 h9 _ _ _ g
set_option maxRecDepth 100000 in
theorem fr_X11_begins_23 {A : Nat → Nat → Prop} {σ : zS} {a0 : Nat} {kLp3 : Int32 → zS → zS} (ckLp3 : ∀ (y0 : Int32) (s : zS), zFr A σ s → zFr A σ (kLp3 y0 s)) (h0 : ∀ j, A ((σ.2.2 a0 49).getD 0) j) (h1 : A a0 50) (h2 : A a0 51) : ∀ (n : Nat) (x7 : Int32) (τ8 : zS), zFr A σ τ8 → zFr A σ (F_X11_begins_23 a0 kLp3 n x7 τ8) := by
  intro n
  induction n with
  | zero => intro x7 τ8 g; exact g
  | succ n ih =>
    intro x7 τ8 g
    rw [F_X11_begins_23]
    refine zFr_let (fun v10 _ => ?_)
    refine zFr_if (fun _ => ?_) (fun _ => ?_)
    · skip
      refine zFr_let (fun v25 ev25 => ?_)
      rw [g.rf] at ev25
      subst ev25
      refine zFr_let (fun v26 ev26 => ?_)
      rw [g.rf] at ev26
      subst ev26
      refine zFr_let (fun v27 _ => ?_)
      refine zFr_let (fun v28 _ => ?_)
      refine zFr_let (fun v29 _ => ?_)
      refine zFr_let (fun v30 _ => ?_)
      refine zFr_let (fun v31 _ => ?_)
      refine zFr_let (fun s32 es32 => ?_)
      have gs32 : zFr A σ s32 := by rw [es32]; exact g.w (h0 _)
      refine zFr_let (fun v35 _ => ?_)
      exact ih _ _ gs32
    · skip
      refine zFr_let (fun v12 ev12 => ?_)
      rw [g.rf] at ev12
      subst ev12
      refine zFr_let (fun v13 _ => ?_)
      refine zFr_let (fun v14 _ => ?_)
      refine zFr_let (fun s15 es15 => ?_)
      have gs15 : zFr A σ s15 := by rw [es15]; exact g.w h1
      refine zFr_let (fun v19 _ => ?_)
      refine zFr_let (fun s20 es20 => ?_)
      have gs20 : zFr A σ s20 := by rw [es20]; exact gs15.w h2
      exact gs20
set_option maxRecDepth 100000 in
theorem fr_X11_begins_2 {A : Nat → Nat → Prop} {σ : zS} {a0 : Nat}  (h0 : ∀ j, A ((σ.2.2 a0 49).getD 0) j) (h1 : A a0 50) (h2 : A a0 51) : ∀ (n : Nat) (x2 : Int32) (τ3 : zS), zFr A σ τ3 → zFr A σ (F_X11_begins_2 a0 n x2 τ3) := by
  intro n
  induction n with
  | zero => intro x2 τ3 g; exact g
  | succ n ih =>
    intro x2 τ3 g
    rw [F_X11_begins_2]
    refine zFr_let (fun v4 _ => ?_)
    refine zFr_if (fun _ => ?_) (fun _ => ?_)
    · skip
      refine zFr_let (fun v36 ev36 => ?_)
      rw [g.rf] at ev36
      subst ev36
      refine zFr_let (fun v37 _ => ?_)
      refine zFr_let (fun s38 es38 => ?_)
      have gs38 : zFr A σ s38 := by rw [es38]; exact g.w (h0 _)
      refine zFr_let (fun v40 _ => ?_)
      exact ih _ _ gs38
    · skip
      refine zFr_let (fun v6 _ => ?_)
      exact fr_X11_begins_23 ih h0 h1 h2 _ _ _ g
set_option maxRecDepth 100000 in
theorem fr_X11_begins {A : Nat → Nat → Prop} {σ σ0 : zS} {a0 : Nat}  (g : zFr A σ σ0) (h0 : ∀ j, A ((σ.2.2 a0 49).getD 0) j) (h1 : A a0 50) (h2 : A a0 51) : zFr A σ (F_X11_begins a0 σ0) := by
  unfold F_X11_begins
  refine zFr_let (fun v1 _ => ?_)
  exact fr_X11_begins_2  h0 h1 h2 _ _ _ g
set_option maxRecDepth 100000 in
theorem fr_X11_damsAll_6 {A : Nat → Nat → Prop} {σ : zS} {a0 : Nat} {p1 : Int32}  (h0 : ∀ j, A ((σ.2.2 a0 49).getD 0) j) (h1 : ∀ j, A ((σ.2.2 a0 45).getD 0) j) (h2 : A a0 47) (h3 : ∀ j, A ((σ.2.2 a0 46).getD 0) j) (h4 : ∀ j, A ((σ.2.2 a0 55).getD 0) j) : ∀ (n : Nat) (x4 : Int32) (τ5 : zS), zFr A σ τ5 → zFr A σ (F_X11_damsAll_6 a0 p1 n x4 τ5) := by
  intro n
  induction n with
  | zero => intro x4 τ5 g; exact g
  | succ n ih =>
    intro x4 τ5 g
    rw [F_X11_damsAll_6]
    refine zFr_let (fun v7 _ => ?_)
    refine zFr_if (fun _ => ?_) (fun _ => ?_)
    · skip
      refine zFr_let (fun v12 _ => ?_)
      refine zFr_let (fun v13 _ => ?_)
      refine zFr_let (fun v14 _ => ?_)
      refine zFr_let (fun v15 _ => ?_)
      refine zFr_if (fun _ => ?_) (fun _ => ?_)
      · skip
        refine zFr_let (fun v18 ev18 => ?_)
        rw [g.rf] at ev18
        subst ev18
        refine zFr_let (fun v19 _ => ?_)
        refine zFr_let (fun v20 _ => ?_)
        refine zFr_let (fun v21 _ => ?_)
        refine zFr_let (fun s22 es22 => ?_)
        have gs22 : zFr A σ s22 := by rw [es22]; exact g.w (h0 _)
        refine zFr_let (fun v24 _ => ?_)
        exact ih _ _ gs22
      · skip
        refine zFr_let (fun v17 _ => ?_)
        exact ih _ _ g
    · skip
      refine zFr_let (fun v9 _ => ?_)
      refine zFr_let (fun t10 et10 => ?_)
      have gt10 : zFr A σ t10 := by rw [et10]; exact fr_X11_fillsFlows g h1 h2 h3 h4
      exact gt10
set_option maxRecDepth 100000 in
theorem fr_X11_damsAll {A : Nat → Nat → Prop} {σ σ0 : zS} {a0 : Nat} {p1 : Int32}  (g : zFr A σ σ0) (h0 : ∀ j, A ((σ.2.2 a0 49).getD 0) j) (h1 : A a0 50) (h2 : A a0 51) (h3 : ∀ j, A ((σ.2.2 a0 54).getD 0) j) (h4 : ∀ j, A ((σ.2.2 a0 52).getD 0) j) (h5 : ∀ j, A ((σ.2.2 a0 53).getD 0) j) (h6 : ∀ j, A ((σ.2.2 a0 45).getD 0) j) (h7 : A a0 47) (h8 : ∀ j, A ((σ.2.2 a0 46).getD 0) j) (h9 : ∀ j, A ((σ.2.2 a0 55).getD 0) j) : zFr A σ (F_X11_damsAll a0 p1 σ0) := by
  unfold F_X11_damsAll
  refine zFr_let (fun t1 et1 => ?_)
  have gt1 : zFr A σ t1 := by rw [et1]; exact fr_X11_copies g h0 h1 h2 h3 h4 h5 h6 h7 h8 h9
  refine zFr_let (fun v3 _ => ?_)
  exact fr_X11_damsAll_6  h0 h6 h7 h8 h9 _ _ _ gt1
end
-- 35C.rf1
section
/-! REFERENCES THAT STAY -/
def zRs (R : Nat → Nat → Option Nat) (s : zS) : Prop := s.2.2 = R
def zRp {α : Type} (R : Nat → Nat → Option Nat) (r : α × zS) : Prop := zRs R r.2
section ZRF
variable {R : Nat → Nat → Option Nat} {s : zS} {α β : Type}
theorem zRp.of {r : α × zS} {v : α} (h : zRp R r) (e : (v, s) = r) : zRs R s := by rw [show s = r.2 from congrArg Prod.snd e]; exact h
theorem zRs_let {x : α} {f : α → zS} (h : ∀ v, v = x → zRs R (f v)) : zRs R (zLet x f) := h x rfl
theorem zRs_let2 {x : α × β} {f : α → β → zS} (h : ∀ v s, (v, s) = x → zRs R (f v s)) : zRs R (zLet2 x f) := h x.1 x.2 rfl
theorem zRp_let {x : α} {f : α → β × zS} (h : ∀ v, v = x → zRp R (f v)) : zRp R (zLet x f) := h x rfl
theorem zRp_let2 {γ : Type} {x : α × γ} {f : α → γ → β × zS} (h : ∀ v s, (v, s) = x → zRp R (f v s)) : zRp R (zLet2 x f) := h x.1 x.2 rfl
theorem zRs_if {c : Prop} {i : Decidable c} {x y : zS} (h : c → zRs R x) (g : ¬ c → zRs R y) : zRs R (@ite _ c i x y) := by
  by_cases e : c
  · rw [if_pos e]; exact h e
  · rw [if_neg e]; exact g e
theorem zRp_if {c : Prop} {i : Decidable c} {x y : α × zS} (h : c → zRp R x) (g : ¬ c → zRp R y) : zRp R (@ite _ c i x y) := by
  by_cases e : c
  · rw [if_pos e]; exact h e
  · rw [if_neg e]; exact g e
end ZRF
set_option maxRecDepth 100000 in
theorem rf_X8_pastBlanks_2 {R : Nat → Nat → Option Nat} {p1 : Nat} {p2 : Int32} {p3 : Int32}  : ∀ (n : Nat) (x1 : Int32) (τ2 : zS), zRs R τ2 → zRp R (F_X8_pastBlanks_2 p1 p2 p3 n x1 τ2) := by
  intro n
  induction n with
  | zero => intro x1 τ2 g; exact g
  | succ n ih =>
    intro x1 τ2 g
    rw [F_X8_pastBlanks_2]
    refine zRp_if (fun _ => ?_) (fun _ => ?_)
    · skip
      refine zRp_let (fun v5 _ => ?_)
      refine zRp_let (fun v6 _ => ?_)
      refine zRp_if (fun _ => ?_) (fun _ => ?_)
      · skip
        refine zRp_let (fun v8 _ => ?_)
        exact ih _ _ g
      · skip
        refine zRp_let (fun v9 _ => ?_)
        refine zRp_let (fun v10 _ => ?_)
        refine zRp_if (fun _ => ?_) (fun _ => ?_)
        · skip
          refine zRp_let (fun v12 _ => ?_)
          exact ih _ _ g
        · skip
          refine zRp_let (fun v13 _ => ?_)
          refine zRp_let (fun v14 _ => ?_)
          refine zRp_if (fun _ => ?_) (fun _ => ?_)
          · skip
            refine zRp_let (fun v16 _ => ?_)
            exact ih _ _ g
          · skip
            refine zRp_let (fun v17 _ => ?_)
            refine zRp_let (fun v18 _ => ?_)
            refine zRp_if (fun _ => ?_) (fun _ => ?_)
            · skip
              refine zRp_let (fun v20 _ => ?_)
              exact ih _ _ g
            · skip
              exact g
    · skip
      exact g
set_option maxRecDepth 100000 in
theorem rf_X8_pastBlanks {R : Nat → Nat → Option Nat} {σ0 : zS} {p1 : Nat} {p2 : Int32} {p3 : Int32}  (g : zRs R σ0) : zRp R (F_X8_pastBlanks p1 p2 p3 σ0) := by
  unfold F_X8_pastBlanks
  exact rf_X8_pastBlanks_2  _ _ _ g
set_option maxRecDepth 100000 in
theorem rf_X8_add {R : Nat → Nat → Option Nat} {σ0 : zS} {a0 : Nat} {p1 : Int32} {p2 : Int64} {p3 : Int32}  (g : zRs R σ0) : zRs R (F_X8_add a0 p1 p2 p3 σ0) := by
  unfold F_X8_add
  refine zRs_let (fun v1 _ => ?_)
  refine zRs_let (fun v2 _ => ?_)
  refine zRs_let (fun v3 _ => ?_)
  refine zRs_if (fun _ => ?_) (fun _ => ?_)
  · skip
    refine zRs_let (fun v5 _ => ?_)
    refine zRs_let (fun v6 _ => ?_)
    refine zRs_let (fun s7 es7 => ?_)
    have gs7 : zRs R s7 := by rw [es7]; exact g
    refine zRs_let (fun v9 _ => ?_)
    refine zRs_let (fun v10 _ => ?_)
    refine zRs_let (fun s11 es11 => ?_)
    have gs11 : zRs R s11 := by rw [es11]; exact gs7
    refine zRs_let (fun v13 _ => ?_)
    refine zRs_let (fun v14 _ => ?_)
    refine zRs_let (fun s15 es15 => ?_)
    have gs15 : zRs R s15 := by rw [es15]; exact gs11
    refine zRs_let (fun v17 _ => ?_)
    refine zRs_let (fun v18 _ => ?_)
    refine zRs_let (fun v19 _ => ?_)
    refine zRs_let (fun s20 es20 => ?_)
    have gs20 : zRs R s20 := by rw [es20]; exact gs15
    exact gs20
  · skip
    exact g
set_option maxRecDepth 100000 in
theorem rf_X8_addDigits_6 {R : Nat → Nat → Option Nat} {a0 : Nat} {p1 : Nat} {p2 : Int32} {p3 : Int32}  : ∀ (n : Nat) (x2 : Int32) (x3 : Int32) (τ4 : zS), zRs R τ4 → zRp R (F_X8_addDigits_6 a0 p1 p2 p3 n x2 x3 τ4) := by
  intro n
  induction n with
  | zero => intro x2 x3 τ4 g; exact g
  | succ n ih =>
    intro x2 x3 τ4 g
    rw [F_X8_addDigits_6]
    refine zRp_if (fun _ => ?_) (fun _ => ?_)
    · skip
      refine zRp_let (fun v16 _ => ?_)
      refine zRp_let (fun v17 _ => ?_)
      refine zRp_if (fun _ => ?_) (fun _ => ?_)
      · skip
        refine zRp_let (fun v19 _ => ?_)
        refine zRp_let (fun v20 _ => ?_)
        refine zRp_if (fun _ => ?_) (fun _ => ?_)
        · skip
          refine zRp_let (fun v25 _ => ?_)
          refine zRp_let (fun v26 _ => ?_)
          refine zRp_let (fun s27 es27 => ?_)
          have gs27 : zRs R s27 := by rw [es27]; exact rf_X8_add g
          exact gs27
        · skip
          refine zRp_let (fun v22 _ => ?_)
          refine zRp_let (fun v23 _ => ?_)
          refine zRp_let (fun s24 es24 => ?_)
          have gs24 : zRs R s24 := by rw [es24]; exact rf_X8_add g
          exact gs24
      · skip
        refine zRp_let (fun v28 _ => ?_)
        refine zRp_let (fun v29 _ => ?_)
        refine zRp_if (fun _ => ?_) (fun _ => ?_)
        · skip
          refine zRp_let (fun v33 _ => ?_)
          refine zRp_let (fun v34 _ => ?_)
          refine zRp_let (fun v35 _ => ?_)
          refine zRp_let (fun v36 _ => ?_)
          refine zRp_let (fun v37 _ => ?_)
          refine zRp_let (fun v38 _ => ?_)
          refine zRp_let (fun v39 _ => ?_)
          exact ih _ _ _ g
        · skip
          refine zRp_let (fun v31 _ => ?_)
          refine zRp_let (fun v32 _ => ?_)
          exact ih _ _ _ g
    · skip
      refine zRp_let (fun v7 _ => ?_)
      refine zRp_let (fun v8 _ => ?_)
      refine zRp_if (fun _ => ?_) (fun _ => ?_)
      · skip
        refine zRp_let (fun v13 _ => ?_)
        refine zRp_let (fun v14 _ => ?_)
        refine zRp_let (fun s15 es15 => ?_)
        have gs15 : zRs R s15 := by rw [es15]; exact rf_X8_add g
        exact gs15
      · skip
        refine zRp_let (fun v10 _ => ?_)
        refine zRp_let (fun v11 _ => ?_)
        refine zRp_let (fun s12 es12 => ?_)
        have gs12 : zRs R s12 := by rw [es12]; exact rf_X8_add g
        exact gs12
set_option maxRecDepth 100000 in
theorem rf_X8_addDigits {R : Nat → Nat → Option Nat} {σ0 : zS} {a0 : Nat} {p1 : Nat} {p2 : Int32} {p3 : Int32}  (g : zRs R σ0) : zRp R (F_X8_addDigits a0 p1 p2 p3 σ0) := by
  unfold F_X8_addDigits
  refine zRp_let (fun v1 _ => ?_)
  exact rf_X8_addDigits_6  _ _ _ _ g
set_option maxRecDepth 100000 in
theorem rf_X8_kindOf_6 {R : Nat → Nat → Option Nat} {a0 : Nat} {p1 : Int64}  : ∀ (n : Nat) (x3 : Int32) (x4 : Int32) (τ5 : zS), zRs R τ5 → zRp R (F_X8_kindOf_6 a0 p1 n x3 x4 τ5) := by
  intro n
  induction n with
  | zero => intro x3 x4 τ5 g; exact g
  | succ n ih =>
    intro x3 x4 τ5 g
    rw [F_X8_kindOf_6]
    refine zRp_let (fun v6 _ => ?_)
    refine zRp_if (fun _ => ?_) (fun _ => ?_)
    · skip
      refine zRp_let (fun v8 _ => ?_)
      refine zRp_let (fun v9 _ => ?_)
      refine zRp_let (fun v10 _ => ?_)
      refine zRp_if (fun _ => ?_) (fun _ => ?_)
      · skip
        refine zRp_let (fun v13 _ => ?_)
        exact ih _ _ _ g
      · skip
        refine zRp_let (fun v12 _ => ?_)
        exact ih _ _ _ g
    · skip
      exact g
set_option maxRecDepth 100000 in
theorem rf_X8_kindOf {R : Nat → Nat → Option Nat} {σ0 : zS} {a0 : Nat} {p1 : Int64}  (g : zRs R σ0) : zRp R (F_X8_kindOf a0 p1 σ0) := by
  unfold F_X8_kindOf
  refine zRp_let (fun v1 _ => ?_)
  refine zRp_let (fun v2 _ => ?_)
  exact rf_X8_kindOf_6  _ _ _ _ g
set_option maxRecDepth 100000 in
theorem rf_X8_addLetters_6 {R : Nat → Nat → Option Nat} {a0 : Nat} {p1 : Nat} {p2 : Int32} {p3 : Int32}  : ∀ (n : Nat) (x2 : Int32) (x3 : Int64) (τ4 : zS), zRs R τ4 → zRp R (F_X8_addLetters_6 a0 p1 p2 p3 n x2 x3 τ4) := by
  intro n
  induction n with
  | zero => intro x2 x3 τ4 g; exact g
  | succ n ih =>
    intro x2 x3 τ4 g
    rw [F_X8_addLetters_6]
    refine zRp_if (fun _ => ?_) (fun _ => ?_)
    · skip
      refine zRp_let (fun v15 _ => ?_)
      refine zRp_let (fun v16 _ => ?_)
      refine zRp_if (fun _ => ?_) (fun _ => ?_)
      · skip
        refine zRp_let (fun v18 _ => ?_)
        refine zRp_let (fun v19 _ => ?_)
        refine zRp_if (fun _ => ?_) (fun _ => ?_)
        · skip
          refine zRp_let (fun v24 _ => ?_)
          refine zRp_let (fun s25 es25 => ?_)
          have gs25 : zRs R s25 := by rw [es25]; exact rf_X8_add g
          exact gs25
        · skip
          refine zRp_let2 (fun v21 s22 es22 => ?_)
          have gs22 : zRs R s22 := zRp.of (rf_X8_kindOf g) es22
          refine zRp_let (fun s23 es23 => ?_)
          have gs23 : zRs R s23 := by rw [es23]; exact rf_X8_add gs22
          exact gs23
      · skip
        refine zRp_let (fun v26 _ => ?_)
        refine zRp_let (fun v27 _ => ?_)
        refine zRp_if (fun _ => ?_) (fun _ => ?_)
        · skip
          refine zRp_let (fun v31 _ => ?_)
          refine zRp_let (fun v32 _ => ?_)
          refine zRp_let (fun v33 _ => ?_)
          exact ih _ _ _ g
        · skip
          refine zRp_let (fun v29 _ => ?_)
          refine zRp_let (fun v30 _ => ?_)
          exact ih _ _ _ g
    · skip
      refine zRp_let (fun v7 _ => ?_)
      refine zRp_let (fun v8 _ => ?_)
      refine zRp_if (fun _ => ?_) (fun _ => ?_)
      · skip
        refine zRp_let (fun v13 _ => ?_)
        refine zRp_let (fun s14 es14 => ?_)
        have gs14 : zRs R s14 := by rw [es14]; exact rf_X8_add g
        exact gs14
      · skip
        refine zRp_let2 (fun v10 s11 es11 => ?_)
        have gs11 : zRs R s11 := zRp.of (rf_X8_kindOf g) es11
        refine zRp_let (fun s12 es12 => ?_)
        have gs12 : zRs R s12 := by rw [es12]; exact rf_X8_add gs11
        exact gs12
set_option maxRecDepth 100000 in
theorem rf_X8_addLetters {R : Nat → Nat → Option Nat} {σ0 : zS} {a0 : Nat} {p1 : Nat} {p2 : Int32} {p3 : Int32}  (g : zRs R σ0) : zRp R (F_X8_addLetters a0 p1 p2 p3 σ0) := by
  unfold F_X8_addLetters
  refine zRp_let (fun v1 _ => ?_)
  exact rf_X8_addLetters_6  _ _ _ _ g
set_option maxRecDepth 100000 in
theorem rf_X8_scan_13 {R : Nat → Nat → Option Nat} {a0 : Nat} {p1 : Nat} {p2 : Int32}  : ∀ (n : Nat) (x7 : Int32) (x8 : Int32) (x9 : Int32) (τ10 : zS), zRs R τ10 → zRs R (F_X8_scan_13 a0 p1 p2 n x7 x8 x9 τ10) := by
  intro n
  induction n with
  | zero => intro x7 x8 x9 τ10 g; exact g
  | succ n ih =>
    intro x7 x8 x9 τ10 g
    rw [F_X8_scan_13]
    refine zRs_let (fun v11 _ => ?_)
    refine zRs_if (fun _ => ?_) (fun _ => ?_)
    · skip
      exact g
    · skip
      refine zRs_if (fun _ => ?_) (fun _ => ?_)
      · skip
        exact g
      · skip
        refine zRs_let2 (fun v14 s15 es15 => ?_)
        have gs15 : zRs R s15 := zRp.of (rf_X8_pastBlanks g) es15
        refine zRs_if (fun _ => ?_) (fun _ => ?_)
        · skip
          refine zRs_let (fun v103 _ => ?_)
          refine zRs_if (fun _ => ?_) (fun _ => ?_)
          · skip
            refine zRs_let (fun v105 _ => ?_)
            refine zRs_if (fun _ => ?_) (fun _ => ?_)
            · skip
              refine zRs_let (fun v107 _ => ?_)
              refine zRs_if (fun _ => ?_) (fun _ => ?_)
              · skip
                refine zRs_if (fun _ => ?_) (fun _ => ?_)
                · skip
                  refine zRs_let (fun v132 _ => ?_)
                  refine zRs_let (fun v133 _ => ?_)
                  refine zRs_if (fun _ => ?_) (fun _ => ?_)
                  · skip
                    refine zRs_let (fun v156 _ => ?_)
                    refine zRs_let (fun v157 _ => ?_)
                    refine zRs_let (fun s158 es158 => ?_)
                    have gs158 : zRs R s158 := by rw [es158]; exact rf_X8_add gs15
                    refine zRs_let (fun v159 _ => ?_)
                    refine zRs_let (fun v160 _ => ?_)
                    refine zRs_if (fun _ => ?_) (fun _ => ?_)
                    · skip
                      refine zRs_let (fun v164 _ => ?_)
                      refine zRs_let (fun v165 _ => ?_)
                      refine zRs_let (fun v166 _ => ?_)
                      refine zRs_let (fun v167 _ => ?_)
                      refine zRs_let (fun v168 _ => ?_)
                      refine zRs_let (fun v169 _ => ?_)
                      refine zRs_if (fun _ => ?_) (fun _ => ?_)
                      · skip
                        refine zRs_let (fun v174 _ => ?_)
                        refine zRs_let (fun v175 _ => ?_)
                        exact ih _ _ _ _ gs158
                      · skip
                        refine zRs_let (fun v172 _ => ?_)
                        refine zRs_let (fun v173 _ => ?_)
                        exact ih _ _ _ _ gs158
                    · skip
                      refine zRs_let (fun v162 _ => ?_)
                      refine zRs_let (fun v163 _ => ?_)
                      exact ih _ _ _ _ gs158
                  · skip
                    refine zRs_let (fun v135 _ => ?_)
                    refine zRs_let (fun v136 _ => ?_)
                    refine zRs_let (fun v137 _ => ?_)
                    refine zRs_let (fun s138 es138 => ?_)
                    have gs138 : zRs R s138 := by rw [es138]; exact rf_X8_add gs15
                    refine zRs_let (fun v139 _ => ?_)
                    refine zRs_let (fun v140 _ => ?_)
                    refine zRs_if (fun _ => ?_) (fun _ => ?_)
                    · skip
                      refine zRs_let (fun v144 _ => ?_)
                      refine zRs_let (fun v145 _ => ?_)
                      refine zRs_let (fun v146 _ => ?_)
                      refine zRs_let (fun v147 _ => ?_)
                      refine zRs_let (fun v148 _ => ?_)
                      refine zRs_let (fun v149 _ => ?_)
                      refine zRs_if (fun _ => ?_) (fun _ => ?_)
                      · skip
                        refine zRs_let (fun v154 _ => ?_)
                        refine zRs_let (fun v155 _ => ?_)
                        exact ih _ _ _ _ gs138
                      · skip
                        refine zRs_let (fun v152 _ => ?_)
                        refine zRs_let (fun v153 _ => ?_)
                        exact ih _ _ _ _ gs138
                    · skip
                      refine zRs_let (fun v142 _ => ?_)
                      refine zRs_let (fun v143 _ => ?_)
                      exact ih _ _ _ _ gs138
                · skip
                  refine zRs_let (fun v110 _ => ?_)
                  refine zRs_if (fun _ => ?_) (fun _ => ?_)
                  · skip
                    refine zRs_let (fun v112 _ => ?_)
                    refine zRs_let (fun v113 _ => ?_)
                    refine zRs_let (fun s114 es114 => ?_)
                    have gs114 : zRs R s114 := by rw [es114]; exact rf_X8_add gs15
                    refine zRs_let (fun v115 _ => ?_)
                    refine zRs_let (fun v116 _ => ?_)
                    refine zRs_if (fun _ => ?_) (fun _ => ?_)
                    · skip
                      refine zRs_let (fun v120 _ => ?_)
                      refine zRs_let (fun v121 _ => ?_)
                      refine zRs_let (fun v122 _ => ?_)
                      refine zRs_let (fun v123 _ => ?_)
                      refine zRs_let (fun v124 _ => ?_)
                      refine zRs_let (fun v125 _ => ?_)
                      refine zRs_if (fun _ => ?_) (fun _ => ?_)
                      · skip
                        refine zRs_let (fun v130 _ => ?_)
                        refine zRs_let (fun v131 _ => ?_)
                        exact ih _ _ _ _ gs114
                      · skip
                        refine zRs_let (fun v128 _ => ?_)
                        refine zRs_let (fun v129 _ => ?_)
                        exact ih _ _ _ _ gs114
                    · skip
                      refine zRs_let (fun v118 _ => ?_)
                      refine zRs_let (fun v119 _ => ?_)
                      exact ih _ _ _ _ gs114
                  · skip
                    exact gs15
              · skip
                refine zRs_let2 (fun v176 s177 es177 => ?_)
                have gs177 : zRs R s177 := zRp.of (rf_X8_addDigits gs15) es177
                refine zRs_let (fun v178 _ => ?_)
                refine zRs_if (fun _ => ?_) (fun _ => ?_)
                · skip
                  refine zRs_let (fun v182 _ => ?_)
                  refine zRs_let (fun v183 _ => ?_)
                  refine zRs_let (fun v184 _ => ?_)
                  refine zRs_let (fun v185 _ => ?_)
                  refine zRs_let (fun v186 _ => ?_)
                  refine zRs_let (fun v187 _ => ?_)
                  refine zRs_if (fun _ => ?_) (fun _ => ?_)
                  · skip
                    refine zRs_let (fun v192 _ => ?_)
                    refine zRs_let (fun v193 _ => ?_)
                    exact ih _ _ _ _ gs177
                  · skip
                    refine zRs_let (fun v190 _ => ?_)
                    refine zRs_let (fun v191 _ => ?_)
                    exact ih _ _ _ _ gs177
                · skip
                  refine zRs_let (fun v180 _ => ?_)
                  refine zRs_let (fun v181 _ => ?_)
                  exact ih _ _ _ _ gs177
            · skip
              refine zRs_let2 (fun v194 s195 es195 => ?_)
              have gs195 : zRs R s195 := zRp.of (rf_X8_addLetters gs15) es195
              refine zRs_let (fun v196 _ => ?_)
              refine zRs_if (fun _ => ?_) (fun _ => ?_)
              · skip
                refine zRs_let (fun v200 _ => ?_)
                refine zRs_let (fun v201 _ => ?_)
                refine zRs_let (fun v202 _ => ?_)
                refine zRs_let (fun v203 _ => ?_)
                refine zRs_let (fun v204 _ => ?_)
                refine zRs_let (fun v205 _ => ?_)
                refine zRs_if (fun _ => ?_) (fun _ => ?_)
                · skip
                  refine zRs_let (fun v210 _ => ?_)
                  refine zRs_let (fun v211 _ => ?_)
                  exact ih _ _ _ _ gs195
                · skip
                  refine zRs_let (fun v208 _ => ?_)
                  refine zRs_let (fun v209 _ => ?_)
                  exact ih _ _ _ _ gs195
              · skip
                refine zRs_let (fun v198 _ => ?_)
                refine zRs_let (fun v199 _ => ?_)
                exact ih _ _ _ _ gs195
          · skip
            refine zRs_let (fun v212 _ => ?_)
            refine zRs_let (fun v213 _ => ?_)
            refine zRs_let (fun s214 es214 => ?_)
            have gs214 : zRs R s214 := by rw [es214]; exact rf_X8_add gs15
            refine zRs_let (fun v215 _ => ?_)
            refine zRs_if (fun _ => ?_) (fun _ => ?_)
            · skip
              refine zRs_let (fun v219 _ => ?_)
              refine zRs_let (fun v220 _ => ?_)
              refine zRs_let (fun v221 _ => ?_)
              refine zRs_let (fun v222 _ => ?_)
              refine zRs_let (fun v223 _ => ?_)
              refine zRs_let (fun v224 _ => ?_)
              refine zRs_if (fun _ => ?_) (fun _ => ?_)
              · skip
                refine zRs_let (fun v229 _ => ?_)
                refine zRs_let (fun v230 _ => ?_)
                exact ih _ _ _ _ gs214
              · skip
                refine zRs_let (fun v227 _ => ?_)
                refine zRs_let (fun v228 _ => ?_)
                exact ih _ _ _ _ gs214
            · skip
              refine zRs_let (fun v217 _ => ?_)
              refine zRs_let (fun v218 _ => ?_)
              exact ih _ _ _ _ gs214
        · skip
          refine zRs_let (fun v18 _ => ?_)
          refine zRs_if (fun _ => ?_) (fun _ => ?_)
          · skip
            refine zRs_let (fun v21 _ => ?_)
            refine zRs_if (fun _ => ?_) (fun _ => ?_)
            · skip
              refine zRs_let (fun v23 _ => ?_)
              refine zRs_if (fun _ => ?_) (fun _ => ?_)
              · skip
                refine zRs_if (fun _ => ?_) (fun _ => ?_)
                · skip
                  exact gs15
                · skip
                  refine zRs_let (fun v26 _ => ?_)
                  refine zRs_if (fun _ => ?_) (fun _ => ?_)
                  · skip
                    refine zRs_let (fun v28 _ => ?_)
                    refine zRs_let (fun v29 _ => ?_)
                    refine zRs_let (fun s30 es30 => ?_)
                    have gs30 : zRs R s30 := by rw [es30]; exact rf_X8_add gs15
                    refine zRs_let (fun v31 _ => ?_)
                    refine zRs_let (fun v32 _ => ?_)
                    refine zRs_if (fun _ => ?_) (fun _ => ?_)
                    · skip
                      refine zRs_let (fun v36 _ => ?_)
                      refine zRs_let (fun v37 _ => ?_)
                      refine zRs_let (fun v38 _ => ?_)
                      refine zRs_let (fun v39 _ => ?_)
                      refine zRs_let (fun v40 _ => ?_)
                      refine zRs_let (fun v41 _ => ?_)
                      refine zRs_if (fun _ => ?_) (fun _ => ?_)
                      · skip
                        refine zRs_let (fun v46 _ => ?_)
                        refine zRs_let (fun v47 _ => ?_)
                        exact ih _ _ _ _ gs30
                      · skip
                        refine zRs_let (fun v44 _ => ?_)
                        refine zRs_let (fun v45 _ => ?_)
                        exact ih _ _ _ _ gs30
                    · skip
                      refine zRs_let (fun v34 _ => ?_)
                      refine zRs_let (fun v35 _ => ?_)
                      exact ih _ _ _ _ gs30
                  · skip
                    exact gs15
              · skip
                refine zRs_let2 (fun v48 s49 es49 => ?_)
                have gs49 : zRs R s49 := zRp.of (rf_X8_addDigits gs15) es49
                refine zRs_let (fun v50 _ => ?_)
                refine zRs_if (fun _ => ?_) (fun _ => ?_)
                · skip
                  refine zRs_let (fun v54 _ => ?_)
                  refine zRs_let (fun v55 _ => ?_)
                  refine zRs_let (fun v56 _ => ?_)
                  refine zRs_let (fun v57 _ => ?_)
                  refine zRs_let (fun v58 _ => ?_)
                  refine zRs_let (fun v59 _ => ?_)
                  refine zRs_if (fun _ => ?_) (fun _ => ?_)
                  · skip
                    refine zRs_let (fun v64 _ => ?_)
                    refine zRs_let (fun v65 _ => ?_)
                    exact ih _ _ _ _ gs49
                  · skip
                    refine zRs_let (fun v62 _ => ?_)
                    refine zRs_let (fun v63 _ => ?_)
                    exact ih _ _ _ _ gs49
                · skip
                  refine zRs_let (fun v52 _ => ?_)
                  refine zRs_let (fun v53 _ => ?_)
                  exact ih _ _ _ _ gs49
            · skip
              refine zRs_let2 (fun v66 s67 es67 => ?_)
              have gs67 : zRs R s67 := zRp.of (rf_X8_addLetters gs15) es67
              refine zRs_let (fun v68 _ => ?_)
              refine zRs_if (fun _ => ?_) (fun _ => ?_)
              · skip
                refine zRs_let (fun v72 _ => ?_)
                refine zRs_let (fun v73 _ => ?_)
                refine zRs_let (fun v74 _ => ?_)
                refine zRs_let (fun v75 _ => ?_)
                refine zRs_let (fun v76 _ => ?_)
                refine zRs_let (fun v77 _ => ?_)
                refine zRs_if (fun _ => ?_) (fun _ => ?_)
                · skip
                  refine zRs_let (fun v82 _ => ?_)
                  refine zRs_let (fun v83 _ => ?_)
                  exact ih _ _ _ _ gs67
                · skip
                  refine zRs_let (fun v80 _ => ?_)
                  refine zRs_let (fun v81 _ => ?_)
                  exact ih _ _ _ _ gs67
              · skip
                refine zRs_let (fun v70 _ => ?_)
                refine zRs_let (fun v71 _ => ?_)
                exact ih _ _ _ _ gs67
          · skip
            refine zRs_let (fun v84 _ => ?_)
            refine zRs_let (fun v85 _ => ?_)
            refine zRs_let (fun s86 es86 => ?_)
            have gs86 : zRs R s86 := by rw [es86]; exact rf_X8_add gs15
            refine zRs_let (fun v87 _ => ?_)
            refine zRs_if (fun _ => ?_) (fun _ => ?_)
            · skip
              refine zRs_let (fun v91 _ => ?_)
              refine zRs_let (fun v92 _ => ?_)
              refine zRs_let (fun v93 _ => ?_)
              refine zRs_let (fun v94 _ => ?_)
              refine zRs_let (fun v95 _ => ?_)
              refine zRs_let (fun v96 _ => ?_)
              refine zRs_if (fun _ => ?_) (fun _ => ?_)
              · skip
                refine zRs_let (fun v101 _ => ?_)
                refine zRs_let (fun v102 _ => ?_)
                exact ih _ _ _ _ gs86
              · skip
                refine zRs_let (fun v99 _ => ?_)
                refine zRs_let (fun v100 _ => ?_)
                exact ih _ _ _ _ gs86
            · skip
              refine zRs_let (fun v89 _ => ?_)
              refine zRs_let (fun v90 _ => ?_)
              exact ih _ _ _ _ gs86
set_option maxRecDepth 100000 in
theorem rf_X8_scan {R : Nat → Nat → Option Nat} {σ0 : zS} {a0 : Nat} {p1 : Nat} {p2 : Int32}  (g : zRs R σ0) : zRs R (F_X8_scan a0 p1 p2 σ0) := by
  unfold F_X8_scan
  refine zRs_let (fun v1 _ => ?_)
  refine zRs_let (fun s2 es2 => ?_)
  have gs2 : zRs R s2 := by rw [es2]; exact g
  refine zRs_let (fun v4 _ => ?_)
  refine zRs_let (fun v5 _ => ?_)
  refine zRs_let (fun v6 _ => ?_)
  exact rf_X8_scan_13  _ _ _ _ _ gs2
set_option maxRecDepth 100000 in
theorem rf_X9_addStep {R : Nat → Nat → Option Nat} {σ0 : zS} {a0 : Nat} {p1 : Int32} {p2 : Int32}  (g : zRs R σ0) : zRs R (F_X9_addStep a0 p1 p2 σ0) := by
  unfold F_X9_addStep
  refine zRs_let (fun v1 _ => ?_)
  refine zRs_let (fun v2 _ => ?_)
  refine zRs_if (fun _ => ?_) (fun _ => ?_)
  · skip
    refine zRs_let (fun v4 _ => ?_)
    refine zRs_let (fun v5 _ => ?_)
    refine zRs_let (fun s6 es6 => ?_)
    have gs6 : zRs R s6 := by rw [es6]; exact g
    refine zRs_let (fun v8 _ => ?_)
    refine zRs_let (fun v9 _ => ?_)
    refine zRs_let (fun s10 es10 => ?_)
    have gs10 : zRs R s10 := by rw [es10]; exact gs6
    refine zRs_let (fun v12 _ => ?_)
    refine zRs_let (fun v13 _ => ?_)
    refine zRs_let (fun v14 _ => ?_)
    refine zRs_let (fun s15 es15 => ?_)
    have gs15 : zRs R s15 := by rw [es15]; exact gs10
    exact gs15
  · skip
    exact g
set_option maxRecDepth 100000 in
theorem rf_X9_clear_12 {R : Nat → Nat → Option Nat} {a0 : Nat}  : ∀ (n : Nat) (x6 : Int32) (τ7 : zS), zRs R τ7 → zRs R (F_X9_clear_12 a0 n x6 τ7) := by
  intro n
  induction n with
  | zero => intro x6 τ7 g; exact g
  | succ n ih =>
    intro x6 τ7 g
    rw [F_X9_clear_12]
    refine zRs_let (fun v8 _ => ?_)
    refine zRs_if (fun _ => ?_) (fun _ => ?_)
    · skip
      refine zRs_let (fun v19 _ => ?_)
      refine zRs_let (fun v20 _ => ?_)
      refine zRs_let (fun v21 _ => ?_)
      refine zRs_let (fun s22 es22 => ?_)
      have gs22 : zRs R s22 := by rw [es22]; exact g
      refine zRs_let (fun v23 _ => ?_)
      refine zRs_if (fun _ => ?_) (fun _ => ?_)
      · skip
        refine zRs_let (fun v39 _ => ?_)
        refine zRs_let (fun v40 _ => ?_)
        refine zRs_if (fun _ => ?_) (fun _ => ?_)
        · skip
          refine zRs_let (fun v42 _ => ?_)
          refine zRs_let (fun s43 es43 => ?_)
          have gs43 : zRs R s43 := by rw [es43]; exact rf_X9_addStep gs22
          refine zRs_let (fun v44 _ => ?_)
          refine zRs_let (fun v45 _ => ?_)
          refine zRs_let (fun s46 es46 => ?_)
          have gs46 : zRs R s46 := by rw [es46]; exact rf_X9_addStep gs43
          refine zRs_let (fun v47 _ => ?_)
          exact ih _ _ gs46
        · skip
          exact gs22
      · skip
        refine zRs_let (fun v25 _ => ?_)
        refine zRs_let (fun v26 _ => ?_)
        refine zRs_if (fun _ => ?_) (fun _ => ?_)
        · skip
          refine zRs_let (fun v33 _ => ?_)
          refine zRs_let (fun s34 es34 => ?_)
          have gs34 : zRs R s34 := by rw [es34]; exact rf_X9_addStep gs22
          refine zRs_let (fun v35 _ => ?_)
          refine zRs_let (fun v36 _ => ?_)
          refine zRs_let (fun s37 es37 => ?_)
          have gs37 : zRs R s37 := by rw [es37]; exact rf_X9_addStep gs34
          refine zRs_let (fun v38 _ => ?_)
          exact ih _ _ gs37
        · skip
          refine zRs_let (fun s28 es28 => ?_)
          have gs28 : zRs R s28 := by rw [es28]; exact rf_X9_addStep gs22
          refine zRs_let (fun v29 _ => ?_)
          refine zRs_let (fun v30 _ => ?_)
          refine zRs_let (fun s31 es31 => ?_)
          have gs31 : zRs R s31 := by rw [es31]; exact rf_X9_addStep gs28
          refine zRs_let (fun v32 _ => ?_)
          exact ih _ _ gs31
    · skip
      refine zRs_let (fun v10 _ => ?_)
      refine zRs_let (fun s11 es11 => ?_)
      have gs11 : zRs R s11 := by rw [es11]; exact g
      refine zRs_let (fun v12 _ => ?_)
      refine zRs_let (fun s13 es13 => ?_)
      have gs13 : zRs R s13 := by rw [es13]; exact gs11
      refine zRs_let (fun v14 _ => ?_)
      refine zRs_let (fun s15 es15 => ?_)
      have gs15 : zRs R s15 := by rw [es15]; exact gs13
      refine zRs_let (fun v16 _ => ?_)
      refine zRs_let (fun s17 es17 => ?_)
      have gs17 : zRs R s17 := by rw [es17]; exact gs15
      exact gs17
set_option maxRecDepth 100000 in
theorem rf_X9_clear {R : Nat → Nat → Option Nat} {σ0 : zS} {a0 : Nat}  (g : zRs R σ0) : zRs R (F_X9_clear a0 σ0) := by
  unfold F_X9_clear
  refine zRs_let (fun v1 _ => ?_)
  refine zRs_let (fun s2 es2 => ?_)
  have gs2 : zRs R s2 := by rw [es2]; exact g
  refine zRs_let (fun v3 _ => ?_)
  refine zRs_let (fun s4 es4 => ?_)
  have gs4 : zRs R s4 := by rw [es4]; exact gs2
  refine zRs_let (fun v5 _ => ?_)
  exact rf_X9_clear_12  _ _ _ gs4
set_option maxRecDepth 100000 in
theorem rf_X3_goTo {R : Nat → Nat → Option Nat} {σ0 : zS} {a0 : Nat} {p1 : Int32}  (g : zRs R σ0) : zRs R (F_X3_goTo a0 p1 σ0) := by
  unfold F_X3_goTo
  refine zRs_if (fun _ => ?_) (fun _ => ?_)
  · skip
    refine zRs_let (fun v2 _ => ?_)
    refine zRs_let (fun s3 es3 => ?_)
    have gs3 : zRs R s3 := by rw [es3]; exact g
    refine zRs_if (fun _ => ?_) (fun _ => ?_)
    · skip
      refine zRs_let (fun v5 _ => ?_)
      refine zRs_let (fun s6 es6 => ?_)
      have gs6 : zRs R s6 := by rw [es6]; exact gs3
      refine zRs_if (fun _ => ?_) (fun _ => ?_)
      · skip
        refine zRs_let (fun v8 _ => ?_)
        refine zRs_let (fun s9 es9 => ?_)
        have gs9 : zRs R s9 := by rw [es9]; exact gs6
        refine zRs_if (fun _ => ?_) (fun _ => ?_)
        · skip
          refine zRs_let (fun v11 _ => ?_)
          refine zRs_let (fun s12 es12 => ?_)
          have gs12 : zRs R s12 := by rw [es12]; exact gs9
          exact gs12
        · skip
          exact gs9
      · skip
        exact gs6
    · skip
      exact gs3
  · skip
    refine zRs_let (fun v13 _ => ?_)
    refine zRs_let (fun v14 _ => ?_)
    refine zRs_if (fun _ => ?_) (fun _ => ?_)
    · skip
      refine zRs_let (fun v28 _ => ?_)
      refine zRs_let (fun s29 es29 => ?_)
      have gs29 : zRs R s29 := by rw [es29]; exact g
      refine zRs_if (fun _ => ?_) (fun _ => ?_)
      · skip
        exact gs29
      · skip
        refine zRs_let (fun v31 _ => ?_)
        refine zRs_let (fun v32 _ => ?_)
        refine zRs_let (fun v33 _ => ?_)
        refine zRs_let (fun s34 es34 => ?_)
        have gs34 : zRs R s34 := by rw [es34]; exact gs29
        refine zRs_if (fun _ => ?_) (fun _ => ?_)
        · skip
          exact gs34
        · skip
          refine zRs_let (fun v36 _ => ?_)
          refine zRs_let (fun v37 _ => ?_)
          refine zRs_let (fun v38 _ => ?_)
          refine zRs_let (fun s39 es39 => ?_)
          have gs39 : zRs R s39 := by rw [es39]; exact gs34
          refine zRs_if (fun _ => ?_) (fun _ => ?_)
          · skip
            exact gs39
          · skip
            refine zRs_let (fun v41 _ => ?_)
            refine zRs_let (fun v42 _ => ?_)
            refine zRs_let (fun v43 _ => ?_)
            refine zRs_let (fun s44 es44 => ?_)
            have gs44 : zRs R s44 := by rw [es44]; exact gs39
            exact gs44
    · skip
      refine zRs_let (fun v17 _ => ?_)
      refine zRs_let (fun s18 es18 => ?_)
      have gs18 : zRs R s18 := by rw [es18]; exact g
      refine zRs_if (fun _ => ?_) (fun _ => ?_)
      · skip
        refine zRs_let (fun v20 _ => ?_)
        refine zRs_let (fun s21 es21 => ?_)
        have gs21 : zRs R s21 := by rw [es21]; exact gs18
        refine zRs_if (fun _ => ?_) (fun _ => ?_)
        · skip
          refine zRs_let (fun v23 _ => ?_)
          refine zRs_let (fun s24 es24 => ?_)
          have gs24 : zRs R s24 := by rw [es24]; exact gs21
          refine zRs_if (fun _ => ?_) (fun _ => ?_)
          · skip
            refine zRs_let (fun v26 _ => ?_)
            refine zRs_let (fun s27 es27 => ?_)
            have gs27 : zRs R s27 := by rw [es27]; exact gs24
            exact gs27
          · skip
            exact gs24
        · skip
          exact gs21
      · skip
        exact gs18
set_option maxRecDepth 100000 in
theorem rf_X3_fail {R : Nat → Nat → Option Nat} {σ0 : zS} {a0 : Nat} {p1 : Int32}  (g : zRs R σ0) : zRs R (F_X3_fail a0 p1 σ0) := by
  unfold F_X3_fail
  refine zRs_let (fun v1 _ => ?_)
  refine zRs_if (fun _ => ?_) (fun _ => ?_)
  · skip
    refine zRs_let (fun s3 es3 => ?_)
    have gs3 : zRs R s3 := by rw [es3]; exact g
    refine zRs_let (fun v4 _ => ?_)
    refine zRs_let (fun s5 es5 => ?_)
    have gs5 : zRs R s5 := by rw [es5]; exact gs3
    refine zRs_let (fun v6 _ => ?_)
    refine zRs_let (fun s7 es7 => ?_)
    have gs7 : zRs R s7 := by rw [es7]; exact gs5
    exact gs7
  · skip
    exact g
set_option maxRecDepth 100000 in
theorem rf_X3_take {R : Nat → Nat → Option Nat} {σ0 : zS} {a0 : Nat} {p1 : Int32}  (g : zRs R σ0) : zRs R (F_X3_take a0 p1 σ0) := by
  unfold F_X3_take
  refine zRs_let (fun v1 _ => ?_)
  refine zRs_if (fun _ => ?_) (fun _ => ?_)
  · skip
    refine zRs_let (fun v3 _ => ?_)
    refine zRs_let (fun v4 _ => ?_)
    refine zRs_if (fun _ => ?_) (fun _ => ?_)
    · skip
      refine zRs_let (fun v7 _ => ?_)
      refine zRs_let (fun v8 _ => ?_)
      refine zRs_let (fun v9 _ => ?_)
      refine zRs_let (fun s10 es10 => ?_)
      have gs10 : zRs R s10 := by rw [es10]; exact rf_X3_goTo g
      exact gs10
    · skip
      refine zRs_let (fun v11 _ => ?_)
      refine zRs_let (fun s12 es12 => ?_)
      have gs12 : zRs R s12 := by rw [es12]; exact rf_X3_fail g
      exact gs12
  · skip
    refine zRs_let (fun v13 _ => ?_)
    refine zRs_let (fun s14 es14 => ?_)
    have gs14 : zRs R s14 := by rw [es14]; exact rf_X3_fail g
    exact gs14
set_option maxRecDepth 100000 in
theorem rf_X3_placeNamed_13 {R : Nat → Nat → Option Nat} {a0 : Nat} {p1 : Int64}  : ∀ (n : Nat) (x4 : Int32) (τ5 : zS), zRs R τ5 → zRp R (F_X3_placeNamed_13 a0 p1 n x4 τ5) := by
  intro n
  induction n with
  | zero => intro x4 τ5 g; exact g
  | succ n ih =>
    intro x4 τ5 g
    rw [F_X3_placeNamed_13]
    refine zRp_let (fun v6 _ => ?_)
    refine zRp_if (fun _ => ?_) (fun _ => ?_)
    · skip
      refine zRp_let (fun v8 _ => ?_)
      exact g
    · skip
      refine zRp_let (fun v9 _ => ?_)
      refine zRp_if (fun _ => ?_) (fun _ => ?_)
      · skip
        refine zRp_let (fun v11 _ => ?_)
        refine zRp_let (fun v12 _ => ?_)
        refine zRp_let (fun v13 _ => ?_)
        refine zRp_let (fun v14 _ => ?_)
        refine zRp_if (fun _ => ?_) (fun _ => ?_)
        · skip
          exact g
        · skip
          refine zRp_let (fun v16 _ => ?_)
          exact ih _ _ g
      · skip
        exact g
set_option maxRecDepth 100000 in
theorem rf_X3_placeNamed_13_1 {R : Nat → Nat → Option Nat} {a0 : Nat} {p1 : Int64}  : ∀ (n : Nat) (x18 : Int32) (τ19 : zS), zRs R τ19 → zRp R (F_X3_placeNamed_13_1 a0 p1 n x18 τ19) := by
  intro n
  induction n with
  | zero => intro x18 τ19 g; exact g
  | succ n ih =>
    intro x18 τ19 g
    rw [F_X3_placeNamed_13_1]
    refine zRp_let (fun v20 _ => ?_)
    refine zRp_if (fun _ => ?_) (fun _ => ?_)
    · skip
      refine zRp_let (fun v22 _ => ?_)
      exact g
    · skip
      refine zRp_let (fun v23 _ => ?_)
      refine zRp_if (fun _ => ?_) (fun _ => ?_)
      · skip
        refine zRp_let (fun v25 _ => ?_)
        refine zRp_let (fun v26 _ => ?_)
        refine zRp_let (fun v27 _ => ?_)
        refine zRp_let (fun v28 _ => ?_)
        refine zRp_if (fun _ => ?_) (fun _ => ?_)
        · skip
          exact g
        · skip
          refine zRp_let (fun v30 _ => ?_)
          exact ih _ _ g
      · skip
        exact g
set_option maxRecDepth 100000 in
theorem rf_X3_placeNamed {R : Nat → Nat → Option Nat} {σ0 : zS} {a0 : Nat} {p1 : Int64}  (g : zRs R σ0) : zRp R (F_X3_placeNamed a0 p1 σ0) := by
  unfold F_X3_placeNamed
  refine zRp_let (fun v1 _ => ?_)
  refine zRp_if (fun _ => ?_) (fun _ => ?_)
  · skip
    refine zRp_let (fun v3 _ => ?_)
    exact rf_X3_placeNamed_13  _ _ _ g
  · skip
    refine zRp_let (fun v17 _ => ?_)
    exact rf_X3_placeNamed_13_1  _ _ _ g
set_option maxRecDepth 100000 in
theorem rf_X3_failLate {R : Nat → Nat → Option Nat} {σ0 : zS} {a0 : Nat} {p1 : Int32}  (g : zRs R σ0) : zRs R (F_X3_failLate a0 p1 σ0) := by
  unfold F_X3_failLate
  refine zRs_let (fun v1 _ => ?_)
  refine zRs_if (fun _ => ?_) (fun _ => ?_)
  · skip
    refine zRs_let (fun s3 es3 => ?_)
    have gs3 : zRs R s3 := by rw [es3]; exact g
    refine zRs_let (fun v4 _ => ?_)
    refine zRs_let (fun s5 es5 => ?_)
    have gs5 : zRs R s5 := by rw [es5]; exact gs3
    exact gs5
  · skip
    exact g
set_option maxRecDepth 100000 in
theorem rf_X3_newName {R : Nat → Nat → Option Nat} {σ0 : zS} {a0 : Nat}  (g : zRs R σ0) : zRp R (F_X3_newName a0 σ0) := by
  unfold F_X3_newName
  refine zRp_let (fun v1 _ => ?_)
  refine zRp_let (fun v2 _ => ?_)
  refine zRp_let (fun v3 _ => ?_)
  refine zRp_if (fun _ => ?_) (fun _ => ?_)
  · skip
    refine zRp_let2 (fun v7 s8 es8 => ?_)
    have gs8 : zRs R s8 := zRp.of (rf_X3_placeNamed g) es8
    refine zRp_let (fun v9 _ => ?_)
    refine zRp_if (fun _ => ?_) (fun _ => ?_)
    · skip
      refine zRp_let (fun v11 _ => ?_)
      refine zRp_let (fun s12 es12 => ?_)
      have gs12 : zRs R s12 := by rw [es12]; exact rf_X3_take gs8
      exact gs12
    · skip
      refine zRp_let (fun v13 _ => ?_)
      refine zRp_let (fun s14 es14 => ?_)
      have gs14 : zRs R s14 := by rw [es14]; exact rf_X3_failLate gs8
      refine zRp_let (fun v15 _ => ?_)
      refine zRp_let (fun s16 es16 => ?_)
      have gs16 : zRs R s16 := by rw [es16]; exact rf_X3_take gs14
      exact gs16
  · skip
    refine zRp_let (fun v5 _ => ?_)
    refine zRp_let (fun s6 es6 => ?_)
    have gs6 : zRs R s6 := by rw [es6]; exact rf_X3_take g
    exact gs6
set_option maxRecDepth 100000 in
theorem rf_X9_setPlace {R : Nat → Nat → Option Nat} {σ0 : zS} {a0 : Nat} {p1 : Int32} {p2 : Int32} {p3 : Int32} {p4 : Int32} {p5 : Int32}  (g : zRs R σ0) : zRs R (F_X9_setPlace a0 p1 p2 p3 p4 p5 σ0) := by
  unfold F_X9_setPlace
  refine zRs_if (fun _ => ?_) (fun _ => ?_)
  · skip
    exact g
  · skip
    refine zRs_let (fun v2 _ => ?_)
    refine zRs_if (fun _ => ?_) (fun _ => ?_)
    · skip
      refine zRs_let (fun v5 _ => ?_)
      refine zRs_let (fun s6 es6 => ?_)
      have gs6 : zRs R s6 := by rw [es6]; exact g
      refine zRs_let (fun v7 _ => ?_)
      refine zRs_let (fun s8 es8 => ?_)
      have gs8 : zRs R s8 := by rw [es8]; exact gs6
      refine zRs_let (fun v9 _ => ?_)
      refine zRs_let (fun s10 es10 => ?_)
      have gs10 : zRs R s10 := by rw [es10]; exact gs8
      refine zRs_let (fun v11 _ => ?_)
      refine zRs_let (fun s12 es12 => ?_)
      have gs12 : zRs R s12 := by rw [es12]; exact gs10
      exact gs12
    · skip
      exact g
set_option maxRecDepth 100000 in
theorem rf_X3_mouth {R : Nat → Nat → Option Nat} {σ0 : zS} {a0 : Nat}  (g : zRs R σ0) : zRs R (F_X3_mouth a0 σ0) := by
  unfold F_X3_mouth
  refine zRs_let (fun v1 _ => ?_)
  refine zRs_if (fun _ => ?_) (fun _ => ?_)
  · skip
    refine zRs_let (fun v3 _ => ?_)
    refine zRs_let (fun s4 es4 => ?_)
    have gs4 : zRs R s4 := by rw [es4]; exact rf_X3_take g
    refine zRs_let2 (fun v5 s6 es6 => ?_)
    have gs6 : zRs R s6 := zRp.of (rf_X3_newName gs4) es6
    refine zRs_let (fun v7 _ => ?_)
    refine zRs_if (fun _ => ?_) (fun _ => ?_)
    · skip
      refine zRs_let (fun v9 _ => ?_)
      refine zRs_let (fun s10 es10 => ?_)
      have gs10 : zRs R s10 := by rw [es10]; exact gs6
      refine zRs_let (fun v11 _ => ?_)
      refine zRs_let (fun v12 _ => ?_)
      refine zRs_let (fun v13 _ => ?_)
      refine zRs_let (fun s14 es14 => ?_)
      have gs14 : zRs R s14 := by rw [es14]; exact gs10
      refine zRs_let (fun v15 _ => ?_)
      refine zRs_let (fun v16 _ => ?_)
      refine zRs_let (fun v17 _ => ?_)
      refine zRs_let (fun v18 _ => ?_)
      refine zRs_let (fun v19 _ => ?_)
      refine zRs_let (fun v20 _ => ?_)
      refine zRs_let (fun s21 es21 => ?_)
      have gs21 : zRs R s21 := by rw [es21]; exact rf_X9_setPlace gs14
      exact gs21
    · skip
      exact gs6
  · skip
    refine zRs_let (fun v22 _ => ?_)
    refine zRs_let (fun s23 es23 => ?_)
    have gs23 : zRs R s23 := by rw [es23]; exact rf_X3_fail g
    refine zRs_let (fun v24 _ => ?_)
    refine zRs_let (fun s25 es25 => ?_)
    have gs25 : zRs R s25 := by rw [es25]; exact rf_X3_take gs23
    refine zRs_let2 (fun v26 s27 es27 => ?_)
    have gs27 : zRs R s27 := zRp.of (rf_X3_newName gs25) es27
    refine zRs_let (fun v28 _ => ?_)
    refine zRs_if (fun _ => ?_) (fun _ => ?_)
    · skip
      refine zRs_let (fun v30 _ => ?_)
      refine zRs_let (fun s31 es31 => ?_)
      have gs31 : zRs R s31 := by rw [es31]; exact gs27
      refine zRs_let (fun v32 _ => ?_)
      refine zRs_let (fun v33 _ => ?_)
      refine zRs_let (fun v34 _ => ?_)
      refine zRs_let (fun s35 es35 => ?_)
      have gs35 : zRs R s35 := by rw [es35]; exact gs31
      refine zRs_let (fun v36 _ => ?_)
      refine zRs_let (fun v37 _ => ?_)
      refine zRs_let (fun v38 _ => ?_)
      refine zRs_let (fun v39 _ => ?_)
      refine zRs_let (fun v40 _ => ?_)
      refine zRs_let (fun v41 _ => ?_)
      refine zRs_let (fun s42 es42 => ?_)
      have gs42 : zRs R s42 := by rw [es42]; exact rf_X9_setPlace gs35
      exact gs42
    · skip
      exact gs27
set_option maxRecDepth 100000 in
theorem rf_X3_knownName {R : Nat → Nat → Option Nat} {σ0 : zS} {a0 : Nat}  (g : zRs R σ0) : zRp R (F_X3_knownName a0 σ0) := by
  unfold F_X3_knownName
  refine zRp_let (fun v1 _ => ?_)
  refine zRp_let2 (fun v2 s3 es3 => ?_)
  have gs3 : zRs R s3 := zRp.of (rf_X3_placeNamed g) es3
  refine zRp_let (fun v4 _ => ?_)
  refine zRp_let (fun v5 _ => ?_)
  refine zRp_if (fun _ => ?_) (fun _ => ?_)
  · skip
    refine zRp_let (fun v11 _ => ?_)
    refine zRp_if (fun _ => ?_) (fun _ => ?_)
    · skip
      refine zRp_let (fun v17 _ => ?_)
      refine zRp_let (fun s18 es18 => ?_)
      have gs18 : zRs R s18 := by rw [es18]; exact rf_X3_failLate gs3
      refine zRp_let (fun v19 _ => ?_)
      refine zRp_let (fun s20 es20 => ?_)
      have gs20 : zRs R s20 := by rw [es20]; exact rf_X3_take gs18
      refine zRp_let (fun v21 _ => ?_)
      refine zRp_let (fun v22 _ => ?_)
      exact gs20
    · skip
      refine zRp_let (fun v13 _ => ?_)
      refine zRp_let (fun s14 es14 => ?_)
      have gs14 : zRs R s14 := by rw [es14]; exact rf_X3_take gs3
      refine zRp_let (fun v15 _ => ?_)
      refine zRp_let (fun v16 _ => ?_)
      exact gs14
  · skip
    refine zRp_let (fun v7 _ => ?_)
    refine zRp_let (fun s8 es8 => ?_)
    have gs8 : zRs R s8 := by rw [es8]; exact rf_X3_take gs3
    refine zRp_let (fun v9 _ => ?_)
    refine zRp_let (fun v10 _ => ?_)
    exact gs8
set_option maxRecDepth 100000 in
theorem rf_X3_number {R : Nat → Nat → Option Nat} {σ0 : zS} {a0 : Nat} {p1 : Int32} {p2 : Int32}  (g : zRs R σ0) : zRp R (F_X3_number a0 p1 p2 σ0) := by
  unfold F_X3_number
  refine zRp_let (fun v1 _ => ?_)
  refine zRp_let (fun v2 _ => ?_)
  refine zRp_let (fun v3 _ => ?_)
  refine zRp_let (fun v4 _ => ?_)
  refine zRp_if (fun _ => ?_) (fun _ => ?_)
  · skip
    refine zRp_let (fun v8 _ => ?_)
    refine zRp_if (fun _ => ?_) (fun _ => ?_)
    · skip
      refine zRp_let (fun v12 _ => ?_)
      refine zRp_let (fun s13 es13 => ?_)
      have gs13 : zRs R s13 := by rw [es13]; exact rf_X3_failLate g
      refine zRp_let (fun v14 _ => ?_)
      refine zRp_let (fun s15 es15 => ?_)
      have gs15 : zRs R s15 := by rw [es15]; exact rf_X3_take gs13
      exact gs15
    · skip
      refine zRp_let (fun v10 _ => ?_)
      refine zRp_let (fun s11 es11 => ?_)
      have gs11 : zRs R s11 := by rw [es11]; exact rf_X3_take g
      exact gs11
  · skip
    refine zRp_let (fun v6 _ => ?_)
    refine zRp_let (fun s7 es7 => ?_)
    have gs7 : zRs R s7 := by rw [es7]; exact rf_X3_take g
    exact gs7
set_option maxRecDepth 100000 in
theorem rf_X3_newPlace {R : Nat → Nat → Option Nat} {σ0 : zS} {a0 : Nat}  (g : zRs R σ0) : zRs R (F_X3_newPlace a0 σ0) := by
  unfold F_X3_newPlace
  refine zRs_let (fun v1 _ => ?_)
  refine zRs_let (fun v2 _ => ?_)
  refine zRs_if (fun _ => ?_) (fun _ => ?_)
  · skip
    refine zRs_let (fun v4 _ => ?_)
    refine zRs_let (fun s5 es5 => ?_)
    have gs5 : zRs R s5 := by rw [es5]; exact rf_X3_take g
    refine zRs_let2 (fun v6 s7 es7 => ?_)
    have gs7 : zRs R s7 := zRp.of (rf_X3_newName gs5) es7
    refine zRs_let2 (fun v8 s9 es9 => ?_)
    have gs9 : zRs R s9 := zRp.of (rf_X3_knownName gs7) es9
    refine zRs_let (fun v10 _ => ?_)
    refine zRs_let (fun v11 _ => ?_)
    refine zRs_let2 (fun v12 s13 es13 => ?_)
    have gs13 : zRs R s13 := zRp.of (rf_X3_number gs9) es13
    refine zRs_let (fun v14 _ => ?_)
    refine zRs_let (fun v15 _ => ?_)
    refine zRs_let2 (fun v16 s17 es17 => ?_)
    have gs17 : zRs R s17 := zRp.of (rf_X3_number gs13) es17
    refine zRs_let (fun v18 _ => ?_)
    refine zRs_let (fun v19 _ => ?_)
    refine zRs_let2 (fun v20 s21 es21 => ?_)
    have gs21 : zRs R s21 := zRp.of (rf_X3_number gs17) es21
    refine zRs_let (fun v22 _ => ?_)
    refine zRs_if (fun _ => ?_) (fun _ => ?_)
    · skip
      refine zRs_let (fun v24 _ => ?_)
      refine zRs_let (fun v25 _ => ?_)
      refine zRs_if (fun _ => ?_) (fun _ => ?_)
      · skip
        refine zRs_let (fun v27 _ => ?_)
        refine zRs_let (fun v28 _ => ?_)
        refine zRs_let (fun v29 _ => ?_)
        refine zRs_let (fun s30 es30 => ?_)
        have gs30 : zRs R s30 := by rw [es30]; exact gs21
        refine zRs_let (fun v33 _ => ?_)
        refine zRs_let (fun v34 _ => ?_)
        refine zRs_let (fun v35 _ => ?_)
        refine zRs_let (fun s36 es36 => ?_)
        have gs36 : zRs R s36 := by rw [es36]; exact gs30
        refine zRs_let (fun v38 _ => ?_)
        refine zRs_let (fun v39 _ => ?_)
        refine zRs_let (fun s40 es40 => ?_)
        have gs40 : zRs R s40 := by rw [es40]; exact rf_X9_setPlace gs36
        exact gs40
      · skip
        exact gs21
    · skip
      exact gs21
  · skip
    refine zRs_let (fun v41 _ => ?_)
    refine zRs_let (fun s42 es42 => ?_)
    have gs42 : zRs R s42 := by rw [es42]; exact rf_X3_fail g
    refine zRs_let (fun v43 _ => ?_)
    refine zRs_let (fun s44 es44 => ?_)
    have gs44 : zRs R s44 := by rw [es44]; exact rf_X3_take gs42
    refine zRs_let2 (fun v45 s46 es46 => ?_)
    have gs46 : zRs R s46 := zRp.of (rf_X3_newName gs44) es46
    refine zRs_let2 (fun v47 s48 es48 => ?_)
    have gs48 : zRs R s48 := zRp.of (rf_X3_knownName gs46) es48
    refine zRs_let (fun v49 _ => ?_)
    refine zRs_let (fun v50 _ => ?_)
    refine zRs_let2 (fun v51 s52 es52 => ?_)
    have gs52 : zRs R s52 := zRp.of (rf_X3_number gs48) es52
    refine zRs_let (fun v53 _ => ?_)
    refine zRs_let (fun v54 _ => ?_)
    refine zRs_let2 (fun v55 s56 es56 => ?_)
    have gs56 : zRs R s56 := zRp.of (rf_X3_number gs52) es56
    refine zRs_let (fun v57 _ => ?_)
    refine zRs_let (fun v58 _ => ?_)
    refine zRs_let2 (fun v59 s60 es60 => ?_)
    have gs60 : zRs R s60 := zRp.of (rf_X3_number gs56) es60
    refine zRs_let (fun v61 _ => ?_)
    refine zRs_if (fun _ => ?_) (fun _ => ?_)
    · skip
      refine zRs_let (fun v63 _ => ?_)
      refine zRs_let (fun v64 _ => ?_)
      refine zRs_if (fun _ => ?_) (fun _ => ?_)
      · skip
        refine zRs_let (fun v66 _ => ?_)
        refine zRs_let (fun v67 _ => ?_)
        refine zRs_let (fun v68 _ => ?_)
        refine zRs_let (fun s69 es69 => ?_)
        have gs69 : zRs R s69 := by rw [es69]; exact gs60
        refine zRs_let (fun v72 _ => ?_)
        refine zRs_let (fun v73 _ => ?_)
        refine zRs_let (fun v74 _ => ?_)
        refine zRs_let (fun s75 es75 => ?_)
        have gs75 : zRs R s75 := by rw [es75]; exact gs69
        refine zRs_let (fun v77 _ => ?_)
        refine zRs_let (fun v78 _ => ?_)
        refine zRs_let (fun s79 es79 => ?_)
        have gs79 : zRs R s79 := by rw [es79]; exact rf_X9_setPlace gs75
        exact gs79
      · skip
        exact gs60
    · skip
      exact gs60
set_option maxRecDepth 100000 in
theorem rf_X3_unit_o6 {R : Nat → Nat → Option Nat} {σ0 : zS} {a0 : Nat} {p1 : Int32}  (g : zRs R σ0) : zRs R (F_X3_unit_o6 a0 p1 σ0) := by
  unfold F_X3_unit_o6
  refine zRs_let (fun v1 _ => ?_)
  refine zRs_let (fun v2 _ => ?_)
  refine zRs_if (fun _ => ?_) (fun _ => ?_)
  · skip
    refine zRs_let (fun v45 _ => ?_)
    refine zRs_let (fun v46 _ => ?_)
    refine zRs_let (fun v47 _ => ?_)
    refine zRs_let (fun v48 _ => ?_)
    refine zRs_let (fun s49 es49 => ?_)
    have gs49 : zRs R s49 := by rw [es49]; exact rf_X9_addStep g
    refine zRs_let (fun v50 _ => ?_)
    refine zRs_let (fun s51 es51 => ?_)
    have gs51 : zRs R s51 := by rw [es51]; exact rf_X3_take gs49
    exact gs51
  · skip
    refine zRs_let (fun v4 _ => ?_)
    refine zRs_let (fun v5 _ => ?_)
    refine zRs_if (fun _ => ?_) (fun _ => ?_)
    · skip
      refine zRs_let (fun v8 _ => ?_)
      refine zRs_let (fun v9 _ => ?_)
      refine zRs_if (fun _ => ?_) (fun _ => ?_)
      · skip
        exact g
      · skip
        refine zRs_let (fun v11 _ => ?_)
        refine zRs_let (fun v12 _ => ?_)
        refine zRs_if (fun _ => ?_) (fun _ => ?_)
        · skip
          exact g
        · skip
          refine zRs_let (fun v14 _ => ?_)
          refine zRs_let (fun s15 es15 => ?_)
          have gs15 : zRs R s15 := by rw [es15]; exact rf_X3_fail g
          exact gs15
    · skip
      refine zRs_let (fun v16 _ => ?_)
      refine zRs_let (fun v17 _ => ?_)
      refine zRs_if (fun _ => ?_) (fun _ => ?_)
      · skip
        refine zRs_let (fun v37 _ => ?_)
        refine zRs_let (fun v38 _ => ?_)
        refine zRs_let (fun v39 _ => ?_)
        refine zRs_let (fun v40 _ => ?_)
        refine zRs_let (fun v41 _ => ?_)
        refine zRs_let (fun s42 es42 => ?_)
        have gs42 : zRs R s42 := by rw [es42]; exact rf_X9_addStep g
        refine zRs_let (fun v43 _ => ?_)
        refine zRs_let (fun s44 es44 => ?_)
        have gs44 : zRs R s44 := by rw [es44]; exact rf_X3_take gs42
        exact gs44
      · skip
        refine zRs_let (fun v20 _ => ?_)
        refine zRs_let (fun v21 _ => ?_)
        refine zRs_if (fun _ => ?_) (fun _ => ?_)
        · skip
          refine zRs_let (fun v30 _ => ?_)
          refine zRs_if (fun _ => ?_) (fun _ => ?_)
          · skip
            exact g
          · skip
            refine zRs_let (fun v32 _ => ?_)
            refine zRs_let (fun v33 _ => ?_)
            refine zRs_if (fun _ => ?_) (fun _ => ?_)
            · skip
              refine zRs_let (fun v35 _ => ?_)
              refine zRs_let (fun s36 es36 => ?_)
              have gs36 : zRs R s36 := by rw [es36]; exact rf_X3_fail g
              exact gs36
            · skip
              exact g
        · skip
          refine zRs_let (fun v23 _ => ?_)
          refine zRs_let (fun v24 _ => ?_)
          refine zRs_if (fun _ => ?_) (fun _ => ?_)
          · skip
            refine zRs_let (fun v28 _ => ?_)
            refine zRs_let (fun s29 es29 => ?_)
            have gs29 : zRs R s29 := by rw [es29]; exact rf_X3_fail g
            exact gs29
          · skip
            refine zRs_let (fun v26 _ => ?_)
            refine zRs_let (fun s27 es27 => ?_)
            have gs27 : zRs R s27 := by rw [es27]; exact rf_X3_fail g
            exact gs27
set_option maxRecDepth 100000 in
theorem rf_X3_product_o6_7 {R : Nat → Nat → Option Nat} {a0 : Nat} {p1 : Int32}  : ∀ (n : Nat) (x3 : Int32) (τ4 : zS), zRs R τ4 → zRs R (F_X3_product_o6_7 a0 p1 n x3 τ4) := by
  intro n
  induction n with
  | zero => intro x3 τ4 g; exact g
  | succ n ih =>
    intro x3 τ4 g
    rw [F_X3_product_o6_7]
    refine zRs_let (fun v5 _ => ?_)
    refine zRs_if (fun _ => ?_) (fun _ => ?_)
    · skip
      exact g
    · skip
      refine zRs_let (fun v7 _ => ?_)
      refine zRs_let (fun v8 _ => ?_)
      refine zRs_let (fun v9 _ => ?_)
      refine zRs_let (fun v10 _ => ?_)
      refine zRs_if (fun _ => ?_) (fun _ => ?_)
      · skip
        exact g
      · skip
        refine zRs_let (fun v12 _ => ?_)
        refine zRs_let (fun s13 es13 => ?_)
        have gs13 : zRs R s13 := by rw [es13]; exact rf_X3_take g
        refine zRs_let (fun s14 es14 => ?_)
        have gs14 : zRs R s14 := by rw [es14]; exact rf_X3_unit_o6 gs13
        refine zRs_let (fun v15 _ => ?_)
        refine zRs_let (fun v16 _ => ?_)
        refine zRs_if (fun _ => ?_) (fun _ => ?_)
        · skip
          refine zRs_let (fun v22 _ => ?_)
          refine zRs_let (fun v23 _ => ?_)
          refine zRs_let (fun s24 es24 => ?_)
          have gs24 : zRs R s24 := by rw [es24]; exact rf_X9_addStep gs14
          refine zRs_let (fun v25 _ => ?_)
          exact ih _ _ gs24
        · skip
          refine zRs_let (fun v18 _ => ?_)
          refine zRs_let (fun v19 _ => ?_)
          refine zRs_let (fun s20 es20 => ?_)
          have gs20 : zRs R s20 := by rw [es20]; exact rf_X9_addStep gs14
          refine zRs_let (fun v21 _ => ?_)
          exact ih _ _ gs20
set_option maxRecDepth 100000 in
theorem rf_X3_product_o6 {R : Nat → Nat → Option Nat} {σ0 : zS} {a0 : Nat} {p1 : Int32}  (g : zRs R σ0) : zRs R (F_X3_product_o6 a0 p1 σ0) := by
  unfold F_X3_product_o6
  refine zRs_let (fun s1 es1 => ?_)
  have gs1 : zRs R s1 := by rw [es1]; exact rf_X3_unit_o6 g
  refine zRs_let (fun v2 _ => ?_)
  exact rf_X3_product_o6_7  _ _ _ gs1
set_option maxRecDepth 100000 in
theorem rf_X3_sum_o6_7 {R : Nat → Nat → Option Nat} {a0 : Nat} {p1 : Int32}  : ∀ (n : Nat) (x3 : Int32) (τ4 : zS), zRs R τ4 → zRs R (F_X3_sum_o6_7 a0 p1 n x3 τ4) := by
  intro n
  induction n with
  | zero => intro x3 τ4 g; exact g
  | succ n ih =>
    intro x3 τ4 g
    rw [F_X3_sum_o6_7]
    refine zRs_let (fun v5 _ => ?_)
    refine zRs_if (fun _ => ?_) (fun _ => ?_)
    · skip
      exact g
    · skip
      refine zRs_let (fun v7 _ => ?_)
      refine zRs_let (fun v8 _ => ?_)
      refine zRs_let (fun v9 _ => ?_)
      refine zRs_let (fun v10 _ => ?_)
      refine zRs_if (fun _ => ?_) (fun _ => ?_)
      · skip
        exact g
      · skip
        refine zRs_let (fun v12 _ => ?_)
        refine zRs_let (fun s13 es13 => ?_)
        have gs13 : zRs R s13 := by rw [es13]; exact rf_X3_take g
        refine zRs_let (fun s14 es14 => ?_)
        have gs14 : zRs R s14 := by rw [es14]; exact rf_X3_product_o6 gs13
        refine zRs_let (fun v15 _ => ?_)
        refine zRs_let (fun v16 _ => ?_)
        refine zRs_if (fun _ => ?_) (fun _ => ?_)
        · skip
          refine zRs_let (fun v22 _ => ?_)
          refine zRs_let (fun v23 _ => ?_)
          refine zRs_let (fun s24 es24 => ?_)
          have gs24 : zRs R s24 := by rw [es24]; exact rf_X9_addStep gs14
          refine zRs_let (fun v25 _ => ?_)
          exact ih _ _ gs24
        · skip
          refine zRs_let (fun v18 _ => ?_)
          refine zRs_let (fun v19 _ => ?_)
          refine zRs_let (fun s20 es20 => ?_)
          have gs20 : zRs R s20 := by rw [es20]; exact rf_X9_addStep gs14
          refine zRs_let (fun v21 _ => ?_)
          exact ih _ _ gs20
set_option maxRecDepth 100000 in
theorem rf_X3_sum_o6 {R : Nat → Nat → Option Nat} {σ0 : zS} {a0 : Nat} {p1 : Int32}  (g : zRs R σ0) : zRs R (F_X3_sum_o6 a0 p1 σ0) := by
  unfold F_X3_sum_o6
  refine zRs_let (fun s1 es1 => ?_)
  have gs1 : zRs R s1 := by rw [es1]; exact rf_X3_product_o6 g
  refine zRs_let (fun v2 _ => ?_)
  exact rf_X3_sum_o6_7  _ _ _ gs1
set_option maxRecDepth 100000 in
theorem rf_X3_unit_o5 {R : Nat → Nat → Option Nat} {σ0 : zS} {a0 : Nat} {p1 : Int32}  (g : zRs R σ0) : zRs R (F_X3_unit_o5 a0 p1 σ0) := by
  unfold F_X3_unit_o5
  refine zRs_let (fun v1 _ => ?_)
  refine zRs_let (fun v2 _ => ?_)
  refine zRs_if (fun _ => ?_) (fun _ => ?_)
  · skip
    refine zRs_let (fun v47 _ => ?_)
    refine zRs_let (fun v48 _ => ?_)
    refine zRs_let (fun v49 _ => ?_)
    refine zRs_let (fun v50 _ => ?_)
    refine zRs_let (fun s51 es51 => ?_)
    have gs51 : zRs R s51 := by rw [es51]; exact rf_X9_addStep g
    refine zRs_let (fun v52 _ => ?_)
    refine zRs_let (fun s53 es53 => ?_)
    have gs53 : zRs R s53 := by rw [es53]; exact rf_X3_take gs51
    exact gs53
  · skip
    refine zRs_let (fun v4 _ => ?_)
    refine zRs_let (fun v5 _ => ?_)
    refine zRs_if (fun _ => ?_) (fun _ => ?_)
    · skip
      refine zRs_let (fun v8 _ => ?_)
      refine zRs_let (fun v9 _ => ?_)
      refine zRs_if (fun _ => ?_) (fun _ => ?_)
      · skip
        exact g
      · skip
        refine zRs_let (fun v11 _ => ?_)
        refine zRs_let (fun v12 _ => ?_)
        refine zRs_if (fun _ => ?_) (fun _ => ?_)
        · skip
          exact g
        · skip
          refine zRs_let (fun v14 _ => ?_)
          refine zRs_let (fun s15 es15 => ?_)
          have gs15 : zRs R s15 := by rw [es15]; exact rf_X3_fail g
          exact gs15
    · skip
      refine zRs_let (fun v16 _ => ?_)
      refine zRs_let (fun v17 _ => ?_)
      refine zRs_if (fun _ => ?_) (fun _ => ?_)
      · skip
        refine zRs_let (fun v39 _ => ?_)
        refine zRs_let (fun v40 _ => ?_)
        refine zRs_let (fun v41 _ => ?_)
        refine zRs_let (fun v42 _ => ?_)
        refine zRs_let (fun v43 _ => ?_)
        refine zRs_let (fun s44 es44 => ?_)
        have gs44 : zRs R s44 := by rw [es44]; exact rf_X9_addStep g
        refine zRs_let (fun v45 _ => ?_)
        refine zRs_let (fun s46 es46 => ?_)
        have gs46 : zRs R s46 := by rw [es46]; exact rf_X3_take gs44
        exact gs46
      · skip
        refine zRs_let (fun v20 _ => ?_)
        refine zRs_let (fun v21 _ => ?_)
        refine zRs_if (fun _ => ?_) (fun _ => ?_)
        · skip
          refine zRs_let (fun v30 _ => ?_)
          refine zRs_if (fun _ => ?_) (fun _ => ?_)
          · skip
            refine zRs_let (fun v32 _ => ?_)
            refine zRs_let (fun s33 es33 => ?_)
            have gs33 : zRs R s33 := by rw [es33]; exact rf_X3_take g
            refine zRs_let (fun v34 _ => ?_)
            refine zRs_let (fun v35 _ => ?_)
            refine zRs_let (fun s36 es36 => ?_)
            have gs36 : zRs R s36 := by rw [es36]; exact rf_X3_sum_o6 gs33
            refine zRs_let (fun v37 _ => ?_)
            refine zRs_let (fun s38 es38 => ?_)
            have gs38 : zRs R s38 := by rw [es38]; exact rf_X3_take gs36
            exact gs38
          · skip
            exact g
        · skip
          refine zRs_let (fun v23 _ => ?_)
          refine zRs_let (fun v24 _ => ?_)
          refine zRs_if (fun _ => ?_) (fun _ => ?_)
          · skip
            refine zRs_let (fun v28 _ => ?_)
            refine zRs_let (fun s29 es29 => ?_)
            have gs29 : zRs R s29 := by rw [es29]; exact rf_X3_fail g
            exact gs29
          · skip
            refine zRs_let (fun v26 _ => ?_)
            refine zRs_let (fun s27 es27 => ?_)
            have gs27 : zRs R s27 := by rw [es27]; exact rf_X3_fail g
            exact gs27
set_option maxRecDepth 100000 in
theorem rf_X3_product_o5_7 {R : Nat → Nat → Option Nat} {a0 : Nat} {p1 : Int32}  : ∀ (n : Nat) (x3 : Int32) (τ4 : zS), zRs R τ4 → zRs R (F_X3_product_o5_7 a0 p1 n x3 τ4) := by
  intro n
  induction n with
  | zero => intro x3 τ4 g; exact g
  | succ n ih =>
    intro x3 τ4 g
    rw [F_X3_product_o5_7]
    refine zRs_let (fun v5 _ => ?_)
    refine zRs_if (fun _ => ?_) (fun _ => ?_)
    · skip
      exact g
    · skip
      refine zRs_let (fun v7 _ => ?_)
      refine zRs_let (fun v8 _ => ?_)
      refine zRs_let (fun v9 _ => ?_)
      refine zRs_let (fun v10 _ => ?_)
      refine zRs_if (fun _ => ?_) (fun _ => ?_)
      · skip
        exact g
      · skip
        refine zRs_let (fun v12 _ => ?_)
        refine zRs_let (fun s13 es13 => ?_)
        have gs13 : zRs R s13 := by rw [es13]; exact rf_X3_take g
        refine zRs_let (fun s14 es14 => ?_)
        have gs14 : zRs R s14 := by rw [es14]; exact rf_X3_unit_o5 gs13
        refine zRs_let (fun v15 _ => ?_)
        refine zRs_let (fun v16 _ => ?_)
        refine zRs_if (fun _ => ?_) (fun _ => ?_)
        · skip
          refine zRs_let (fun v22 _ => ?_)
          refine zRs_let (fun v23 _ => ?_)
          refine zRs_let (fun s24 es24 => ?_)
          have gs24 : zRs R s24 := by rw [es24]; exact rf_X9_addStep gs14
          refine zRs_let (fun v25 _ => ?_)
          exact ih _ _ gs24
        · skip
          refine zRs_let (fun v18 _ => ?_)
          refine zRs_let (fun v19 _ => ?_)
          refine zRs_let (fun s20 es20 => ?_)
          have gs20 : zRs R s20 := by rw [es20]; exact rf_X9_addStep gs14
          refine zRs_let (fun v21 _ => ?_)
          exact ih _ _ gs20
set_option maxRecDepth 100000 in
theorem rf_X3_product_o5 {R : Nat → Nat → Option Nat} {σ0 : zS} {a0 : Nat} {p1 : Int32}  (g : zRs R σ0) : zRs R (F_X3_product_o5 a0 p1 σ0) := by
  unfold F_X3_product_o5
  refine zRs_let (fun s1 es1 => ?_)
  have gs1 : zRs R s1 := by rw [es1]; exact rf_X3_unit_o5 g
  refine zRs_let (fun v2 _ => ?_)
  exact rf_X3_product_o5_7  _ _ _ gs1
set_option maxRecDepth 100000 in
theorem rf_X3_sum_o5_7 {R : Nat → Nat → Option Nat} {a0 : Nat} {p1 : Int32}  : ∀ (n : Nat) (x3 : Int32) (τ4 : zS), zRs R τ4 → zRs R (F_X3_sum_o5_7 a0 p1 n x3 τ4) := by
  intro n
  induction n with
  | zero => intro x3 τ4 g; exact g
  | succ n ih =>
    intro x3 τ4 g
    rw [F_X3_sum_o5_7]
    refine zRs_let (fun v5 _ => ?_)
    refine zRs_if (fun _ => ?_) (fun _ => ?_)
    · skip
      exact g
    · skip
      refine zRs_let (fun v7 _ => ?_)
      refine zRs_let (fun v8 _ => ?_)
      refine zRs_let (fun v9 _ => ?_)
      refine zRs_let (fun v10 _ => ?_)
      refine zRs_if (fun _ => ?_) (fun _ => ?_)
      · skip
        exact g
      · skip
        refine zRs_let (fun v12 _ => ?_)
        refine zRs_let (fun s13 es13 => ?_)
        have gs13 : zRs R s13 := by rw [es13]; exact rf_X3_take g
        refine zRs_let (fun s14 es14 => ?_)
        have gs14 : zRs R s14 := by rw [es14]; exact rf_X3_product_o5 gs13
        refine zRs_let (fun v15 _ => ?_)
        refine zRs_let (fun v16 _ => ?_)
        refine zRs_if (fun _ => ?_) (fun _ => ?_)
        · skip
          refine zRs_let (fun v22 _ => ?_)
          refine zRs_let (fun v23 _ => ?_)
          refine zRs_let (fun s24 es24 => ?_)
          have gs24 : zRs R s24 := by rw [es24]; exact rf_X9_addStep gs14
          refine zRs_let (fun v25 _ => ?_)
          exact ih _ _ gs24
        · skip
          refine zRs_let (fun v18 _ => ?_)
          refine zRs_let (fun v19 _ => ?_)
          refine zRs_let (fun s20 es20 => ?_)
          have gs20 : zRs R s20 := by rw [es20]; exact rf_X9_addStep gs14
          refine zRs_let (fun v21 _ => ?_)
          exact ih _ _ gs20
set_option maxRecDepth 100000 in
theorem rf_X3_sum_o5 {R : Nat → Nat → Option Nat} {σ0 : zS} {a0 : Nat} {p1 : Int32}  (g : zRs R σ0) : zRs R (F_X3_sum_o5 a0 p1 σ0) := by
  unfold F_X3_sum_o5
  refine zRs_let (fun s1 es1 => ?_)
  have gs1 : zRs R s1 := by rw [es1]; exact rf_X3_product_o5 g
  refine zRs_let (fun v2 _ => ?_)
  exact rf_X3_sum_o5_7  _ _ _ gs1
set_option maxRecDepth 100000 in
theorem rf_X3_unit_o4 {R : Nat → Nat → Option Nat} {σ0 : zS} {a0 : Nat} {p1 : Int32}  (g : zRs R σ0) : zRs R (F_X3_unit_o4 a0 p1 σ0) := by
  unfold F_X3_unit_o4
  refine zRs_let (fun v1 _ => ?_)
  refine zRs_let (fun v2 _ => ?_)
  refine zRs_if (fun _ => ?_) (fun _ => ?_)
  · skip
    refine zRs_let (fun v47 _ => ?_)
    refine zRs_let (fun v48 _ => ?_)
    refine zRs_let (fun v49 _ => ?_)
    refine zRs_let (fun v50 _ => ?_)
    refine zRs_let (fun s51 es51 => ?_)
    have gs51 : zRs R s51 := by rw [es51]; exact rf_X9_addStep g
    refine zRs_let (fun v52 _ => ?_)
    refine zRs_let (fun s53 es53 => ?_)
    have gs53 : zRs R s53 := by rw [es53]; exact rf_X3_take gs51
    exact gs53
  · skip
    refine zRs_let (fun v4 _ => ?_)
    refine zRs_let (fun v5 _ => ?_)
    refine zRs_if (fun _ => ?_) (fun _ => ?_)
    · skip
      refine zRs_let (fun v8 _ => ?_)
      refine zRs_let (fun v9 _ => ?_)
      refine zRs_if (fun _ => ?_) (fun _ => ?_)
      · skip
        exact g
      · skip
        refine zRs_let (fun v11 _ => ?_)
        refine zRs_let (fun v12 _ => ?_)
        refine zRs_if (fun _ => ?_) (fun _ => ?_)
        · skip
          exact g
        · skip
          refine zRs_let (fun v14 _ => ?_)
          refine zRs_let (fun s15 es15 => ?_)
          have gs15 : zRs R s15 := by rw [es15]; exact rf_X3_fail g
          exact gs15
    · skip
      refine zRs_let (fun v16 _ => ?_)
      refine zRs_let (fun v17 _ => ?_)
      refine zRs_if (fun _ => ?_) (fun _ => ?_)
      · skip
        refine zRs_let (fun v39 _ => ?_)
        refine zRs_let (fun v40 _ => ?_)
        refine zRs_let (fun v41 _ => ?_)
        refine zRs_let (fun v42 _ => ?_)
        refine zRs_let (fun v43 _ => ?_)
        refine zRs_let (fun s44 es44 => ?_)
        have gs44 : zRs R s44 := by rw [es44]; exact rf_X9_addStep g
        refine zRs_let (fun v45 _ => ?_)
        refine zRs_let (fun s46 es46 => ?_)
        have gs46 : zRs R s46 := by rw [es46]; exact rf_X3_take gs44
        exact gs46
      · skip
        refine zRs_let (fun v20 _ => ?_)
        refine zRs_let (fun v21 _ => ?_)
        refine zRs_if (fun _ => ?_) (fun _ => ?_)
        · skip
          refine zRs_let (fun v30 _ => ?_)
          refine zRs_if (fun _ => ?_) (fun _ => ?_)
          · skip
            refine zRs_let (fun v32 _ => ?_)
            refine zRs_let (fun s33 es33 => ?_)
            have gs33 : zRs R s33 := by rw [es33]; exact rf_X3_take g
            refine zRs_let (fun v34 _ => ?_)
            refine zRs_let (fun v35 _ => ?_)
            refine zRs_let (fun s36 es36 => ?_)
            have gs36 : zRs R s36 := by rw [es36]; exact rf_X3_sum_o5 gs33
            refine zRs_let (fun v37 _ => ?_)
            refine zRs_let (fun s38 es38 => ?_)
            have gs38 : zRs R s38 := by rw [es38]; exact rf_X3_take gs36
            exact gs38
          · skip
            exact g
        · skip
          refine zRs_let (fun v23 _ => ?_)
          refine zRs_let (fun v24 _ => ?_)
          refine zRs_if (fun _ => ?_) (fun _ => ?_)
          · skip
            refine zRs_let (fun v28 _ => ?_)
            refine zRs_let (fun s29 es29 => ?_)
            have gs29 : zRs R s29 := by rw [es29]; exact rf_X3_fail g
            exact gs29
          · skip
            refine zRs_let (fun v26 _ => ?_)
            refine zRs_let (fun s27 es27 => ?_)
            have gs27 : zRs R s27 := by rw [es27]; exact rf_X3_fail g
            exact gs27
set_option maxRecDepth 100000 in
theorem rf_X3_product_o4_7 {R : Nat → Nat → Option Nat} {a0 : Nat} {p1 : Int32}  : ∀ (n : Nat) (x3 : Int32) (τ4 : zS), zRs R τ4 → zRs R (F_X3_product_o4_7 a0 p1 n x3 τ4) := by
  intro n
  induction n with
  | zero => intro x3 τ4 g; exact g
  | succ n ih =>
    intro x3 τ4 g
    rw [F_X3_product_o4_7]
    refine zRs_let (fun v5 _ => ?_)
    refine zRs_if (fun _ => ?_) (fun _ => ?_)
    · skip
      exact g
    · skip
      refine zRs_let (fun v7 _ => ?_)
      refine zRs_let (fun v8 _ => ?_)
      refine zRs_let (fun v9 _ => ?_)
      refine zRs_let (fun v10 _ => ?_)
      refine zRs_if (fun _ => ?_) (fun _ => ?_)
      · skip
        exact g
      · skip
        refine zRs_let (fun v12 _ => ?_)
        refine zRs_let (fun s13 es13 => ?_)
        have gs13 : zRs R s13 := by rw [es13]; exact rf_X3_take g
        refine zRs_let (fun s14 es14 => ?_)
        have gs14 : zRs R s14 := by rw [es14]; exact rf_X3_unit_o4 gs13
        refine zRs_let (fun v15 _ => ?_)
        refine zRs_let (fun v16 _ => ?_)
        refine zRs_if (fun _ => ?_) (fun _ => ?_)
        · skip
          refine zRs_let (fun v22 _ => ?_)
          refine zRs_let (fun v23 _ => ?_)
          refine zRs_let (fun s24 es24 => ?_)
          have gs24 : zRs R s24 := by rw [es24]; exact rf_X9_addStep gs14
          refine zRs_let (fun v25 _ => ?_)
          exact ih _ _ gs24
        · skip
          refine zRs_let (fun v18 _ => ?_)
          refine zRs_let (fun v19 _ => ?_)
          refine zRs_let (fun s20 es20 => ?_)
          have gs20 : zRs R s20 := by rw [es20]; exact rf_X9_addStep gs14
          refine zRs_let (fun v21 _ => ?_)
          exact ih _ _ gs20
set_option maxRecDepth 100000 in
theorem rf_X3_product_o4 {R : Nat → Nat → Option Nat} {σ0 : zS} {a0 : Nat} {p1 : Int32}  (g : zRs R σ0) : zRs R (F_X3_product_o4 a0 p1 σ0) := by
  unfold F_X3_product_o4
  refine zRs_let (fun s1 es1 => ?_)
  have gs1 : zRs R s1 := by rw [es1]; exact rf_X3_unit_o4 g
  refine zRs_let (fun v2 _ => ?_)
  exact rf_X3_product_o4_7  _ _ _ gs1
set_option maxRecDepth 100000 in
theorem rf_X3_sum_o4_7 {R : Nat → Nat → Option Nat} {a0 : Nat} {p1 : Int32}  : ∀ (n : Nat) (x3 : Int32) (τ4 : zS), zRs R τ4 → zRs R (F_X3_sum_o4_7 a0 p1 n x3 τ4) := by
  intro n
  induction n with
  | zero => intro x3 τ4 g; exact g
  | succ n ih =>
    intro x3 τ4 g
    rw [F_X3_sum_o4_7]
    refine zRs_let (fun v5 _ => ?_)
    refine zRs_if (fun _ => ?_) (fun _ => ?_)
    · skip
      exact g
    · skip
      refine zRs_let (fun v7 _ => ?_)
      refine zRs_let (fun v8 _ => ?_)
      refine zRs_let (fun v9 _ => ?_)
      refine zRs_let (fun v10 _ => ?_)
      refine zRs_if (fun _ => ?_) (fun _ => ?_)
      · skip
        exact g
      · skip
        refine zRs_let (fun v12 _ => ?_)
        refine zRs_let (fun s13 es13 => ?_)
        have gs13 : zRs R s13 := by rw [es13]; exact rf_X3_take g
        refine zRs_let (fun s14 es14 => ?_)
        have gs14 : zRs R s14 := by rw [es14]; exact rf_X3_product_o4 gs13
        refine zRs_let (fun v15 _ => ?_)
        refine zRs_let (fun v16 _ => ?_)
        refine zRs_if (fun _ => ?_) (fun _ => ?_)
        · skip
          refine zRs_let (fun v22 _ => ?_)
          refine zRs_let (fun v23 _ => ?_)
          refine zRs_let (fun s24 es24 => ?_)
          have gs24 : zRs R s24 := by rw [es24]; exact rf_X9_addStep gs14
          refine zRs_let (fun v25 _ => ?_)
          exact ih _ _ gs24
        · skip
          refine zRs_let (fun v18 _ => ?_)
          refine zRs_let (fun v19 _ => ?_)
          refine zRs_let (fun s20 es20 => ?_)
          have gs20 : zRs R s20 := by rw [es20]; exact rf_X9_addStep gs14
          refine zRs_let (fun v21 _ => ?_)
          exact ih _ _ gs20
set_option maxRecDepth 100000 in
theorem rf_X3_sum_o4 {R : Nat → Nat → Option Nat} {σ0 : zS} {a0 : Nat} {p1 : Int32}  (g : zRs R σ0) : zRs R (F_X3_sum_o4 a0 p1 σ0) := by
  unfold F_X3_sum_o4
  refine zRs_let (fun s1 es1 => ?_)
  have gs1 : zRs R s1 := by rw [es1]; exact rf_X3_product_o4 g
  refine zRs_let (fun v2 _ => ?_)
  exact rf_X3_sum_o4_7  _ _ _ gs1
set_option maxRecDepth 100000 in
theorem rf_X3_unit_o3 {R : Nat → Nat → Option Nat} {σ0 : zS} {a0 : Nat} {p1 : Int32}  (g : zRs R σ0) : zRs R (F_X3_unit_o3 a0 p1 σ0) := by
  unfold F_X3_unit_o3
  refine zRs_let (fun v1 _ => ?_)
  refine zRs_let (fun v2 _ => ?_)
  refine zRs_if (fun _ => ?_) (fun _ => ?_)
  · skip
    refine zRs_let (fun v47 _ => ?_)
    refine zRs_let (fun v48 _ => ?_)
    refine zRs_let (fun v49 _ => ?_)
    refine zRs_let (fun v50 _ => ?_)
    refine zRs_let (fun s51 es51 => ?_)
    have gs51 : zRs R s51 := by rw [es51]; exact rf_X9_addStep g
    refine zRs_let (fun v52 _ => ?_)
    refine zRs_let (fun s53 es53 => ?_)
    have gs53 : zRs R s53 := by rw [es53]; exact rf_X3_take gs51
    exact gs53
  · skip
    refine zRs_let (fun v4 _ => ?_)
    refine zRs_let (fun v5 _ => ?_)
    refine zRs_if (fun _ => ?_) (fun _ => ?_)
    · skip
      refine zRs_let (fun v8 _ => ?_)
      refine zRs_let (fun v9 _ => ?_)
      refine zRs_if (fun _ => ?_) (fun _ => ?_)
      · skip
        exact g
      · skip
        refine zRs_let (fun v11 _ => ?_)
        refine zRs_let (fun v12 _ => ?_)
        refine zRs_if (fun _ => ?_) (fun _ => ?_)
        · skip
          exact g
        · skip
          refine zRs_let (fun v14 _ => ?_)
          refine zRs_let (fun s15 es15 => ?_)
          have gs15 : zRs R s15 := by rw [es15]; exact rf_X3_fail g
          exact gs15
    · skip
      refine zRs_let (fun v16 _ => ?_)
      refine zRs_let (fun v17 _ => ?_)
      refine zRs_if (fun _ => ?_) (fun _ => ?_)
      · skip
        refine zRs_let (fun v39 _ => ?_)
        refine zRs_let (fun v40 _ => ?_)
        refine zRs_let (fun v41 _ => ?_)
        refine zRs_let (fun v42 _ => ?_)
        refine zRs_let (fun v43 _ => ?_)
        refine zRs_let (fun s44 es44 => ?_)
        have gs44 : zRs R s44 := by rw [es44]; exact rf_X9_addStep g
        refine zRs_let (fun v45 _ => ?_)
        refine zRs_let (fun s46 es46 => ?_)
        have gs46 : zRs R s46 := by rw [es46]; exact rf_X3_take gs44
        exact gs46
      · skip
        refine zRs_let (fun v20 _ => ?_)
        refine zRs_let (fun v21 _ => ?_)
        refine zRs_if (fun _ => ?_) (fun _ => ?_)
        · skip
          refine zRs_let (fun v30 _ => ?_)
          refine zRs_if (fun _ => ?_) (fun _ => ?_)
          · skip
            refine zRs_let (fun v32 _ => ?_)
            refine zRs_let (fun s33 es33 => ?_)
            have gs33 : zRs R s33 := by rw [es33]; exact rf_X3_take g
            refine zRs_let (fun v34 _ => ?_)
            refine zRs_let (fun v35 _ => ?_)
            refine zRs_let (fun s36 es36 => ?_)
            have gs36 : zRs R s36 := by rw [es36]; exact rf_X3_sum_o4 gs33
            refine zRs_let (fun v37 _ => ?_)
            refine zRs_let (fun s38 es38 => ?_)
            have gs38 : zRs R s38 := by rw [es38]; exact rf_X3_take gs36
            exact gs38
          · skip
            exact g
        · skip
          refine zRs_let (fun v23 _ => ?_)
          refine zRs_let (fun v24 _ => ?_)
          refine zRs_if (fun _ => ?_) (fun _ => ?_)
          · skip
            refine zRs_let (fun v28 _ => ?_)
            refine zRs_let (fun s29 es29 => ?_)
            have gs29 : zRs R s29 := by rw [es29]; exact rf_X3_fail g
            exact gs29
          · skip
            refine zRs_let (fun v26 _ => ?_)
            refine zRs_let (fun s27 es27 => ?_)
            have gs27 : zRs R s27 := by rw [es27]; exact rf_X3_fail g
            exact gs27
set_option maxRecDepth 100000 in
theorem rf_X3_product_o3_7 {R : Nat → Nat → Option Nat} {a0 : Nat} {p1 : Int32}  : ∀ (n : Nat) (x3 : Int32) (τ4 : zS), zRs R τ4 → zRs R (F_X3_product_o3_7 a0 p1 n x3 τ4) := by
  intro n
  induction n with
  | zero => intro x3 τ4 g; exact g
  | succ n ih =>
    intro x3 τ4 g
    rw [F_X3_product_o3_7]
    refine zRs_let (fun v5 _ => ?_)
    refine zRs_if (fun _ => ?_) (fun _ => ?_)
    · skip
      exact g
    · skip
      refine zRs_let (fun v7 _ => ?_)
      refine zRs_let (fun v8 _ => ?_)
      refine zRs_let (fun v9 _ => ?_)
      refine zRs_let (fun v10 _ => ?_)
      refine zRs_if (fun _ => ?_) (fun _ => ?_)
      · skip
        exact g
      · skip
        refine zRs_let (fun v12 _ => ?_)
        refine zRs_let (fun s13 es13 => ?_)
        have gs13 : zRs R s13 := by rw [es13]; exact rf_X3_take g
        refine zRs_let (fun s14 es14 => ?_)
        have gs14 : zRs R s14 := by rw [es14]; exact rf_X3_unit_o3 gs13
        refine zRs_let (fun v15 _ => ?_)
        refine zRs_let (fun v16 _ => ?_)
        refine zRs_if (fun _ => ?_) (fun _ => ?_)
        · skip
          refine zRs_let (fun v22 _ => ?_)
          refine zRs_let (fun v23 _ => ?_)
          refine zRs_let (fun s24 es24 => ?_)
          have gs24 : zRs R s24 := by rw [es24]; exact rf_X9_addStep gs14
          refine zRs_let (fun v25 _ => ?_)
          exact ih _ _ gs24
        · skip
          refine zRs_let (fun v18 _ => ?_)
          refine zRs_let (fun v19 _ => ?_)
          refine zRs_let (fun s20 es20 => ?_)
          have gs20 : zRs R s20 := by rw [es20]; exact rf_X9_addStep gs14
          refine zRs_let (fun v21 _ => ?_)
          exact ih _ _ gs20
set_option maxRecDepth 100000 in
theorem rf_X3_product_o3 {R : Nat → Nat → Option Nat} {σ0 : zS} {a0 : Nat} {p1 : Int32}  (g : zRs R σ0) : zRs R (F_X3_product_o3 a0 p1 σ0) := by
  unfold F_X3_product_o3
  refine zRs_let (fun s1 es1 => ?_)
  have gs1 : zRs R s1 := by rw [es1]; exact rf_X3_unit_o3 g
  refine zRs_let (fun v2 _ => ?_)
  exact rf_X3_product_o3_7  _ _ _ gs1
set_option maxRecDepth 100000 in
theorem rf_X3_sum_o3_7 {R : Nat → Nat → Option Nat} {a0 : Nat} {p1 : Int32}  : ∀ (n : Nat) (x3 : Int32) (τ4 : zS), zRs R τ4 → zRs R (F_X3_sum_o3_7 a0 p1 n x3 τ4) := by
  intro n
  induction n with
  | zero => intro x3 τ4 g; exact g
  | succ n ih =>
    intro x3 τ4 g
    rw [F_X3_sum_o3_7]
    refine zRs_let (fun v5 _ => ?_)
    refine zRs_if (fun _ => ?_) (fun _ => ?_)
    · skip
      exact g
    · skip
      refine zRs_let (fun v7 _ => ?_)
      refine zRs_let (fun v8 _ => ?_)
      refine zRs_let (fun v9 _ => ?_)
      refine zRs_let (fun v10 _ => ?_)
      refine zRs_if (fun _ => ?_) (fun _ => ?_)
      · skip
        exact g
      · skip
        refine zRs_let (fun v12 _ => ?_)
        refine zRs_let (fun s13 es13 => ?_)
        have gs13 : zRs R s13 := by rw [es13]; exact rf_X3_take g
        refine zRs_let (fun s14 es14 => ?_)
        have gs14 : zRs R s14 := by rw [es14]; exact rf_X3_product_o3 gs13
        refine zRs_let (fun v15 _ => ?_)
        refine zRs_let (fun v16 _ => ?_)
        refine zRs_if (fun _ => ?_) (fun _ => ?_)
        · skip
          refine zRs_let (fun v22 _ => ?_)
          refine zRs_let (fun v23 _ => ?_)
          refine zRs_let (fun s24 es24 => ?_)
          have gs24 : zRs R s24 := by rw [es24]; exact rf_X9_addStep gs14
          refine zRs_let (fun v25 _ => ?_)
          exact ih _ _ gs24
        · skip
          refine zRs_let (fun v18 _ => ?_)
          refine zRs_let (fun v19 _ => ?_)
          refine zRs_let (fun s20 es20 => ?_)
          have gs20 : zRs R s20 := by rw [es20]; exact rf_X9_addStep gs14
          refine zRs_let (fun v21 _ => ?_)
          exact ih _ _ gs20
set_option maxRecDepth 100000 in
theorem rf_X3_sum_o3 {R : Nat → Nat → Option Nat} {σ0 : zS} {a0 : Nat} {p1 : Int32}  (g : zRs R σ0) : zRs R (F_X3_sum_o3 a0 p1 σ0) := by
  unfold F_X3_sum_o3
  refine zRs_let (fun s1 es1 => ?_)
  have gs1 : zRs R s1 := by rw [es1]; exact rf_X3_product_o3 g
  refine zRs_let (fun v2 _ => ?_)
  exact rf_X3_sum_o3_7  _ _ _ gs1
set_option maxRecDepth 100000 in
theorem rf_X3_unit_o2 {R : Nat → Nat → Option Nat} {σ0 : zS} {a0 : Nat} {p1 : Int32}  (g : zRs R σ0) : zRs R (F_X3_unit_o2 a0 p1 σ0) := by
  unfold F_X3_unit_o2
  refine zRs_let (fun v1 _ => ?_)
  refine zRs_let (fun v2 _ => ?_)
  refine zRs_if (fun _ => ?_) (fun _ => ?_)
  · skip
    refine zRs_let (fun v47 _ => ?_)
    refine zRs_let (fun v48 _ => ?_)
    refine zRs_let (fun v49 _ => ?_)
    refine zRs_let (fun v50 _ => ?_)
    refine zRs_let (fun s51 es51 => ?_)
    have gs51 : zRs R s51 := by rw [es51]; exact rf_X9_addStep g
    refine zRs_let (fun v52 _ => ?_)
    refine zRs_let (fun s53 es53 => ?_)
    have gs53 : zRs R s53 := by rw [es53]; exact rf_X3_take gs51
    exact gs53
  · skip
    refine zRs_let (fun v4 _ => ?_)
    refine zRs_let (fun v5 _ => ?_)
    refine zRs_if (fun _ => ?_) (fun _ => ?_)
    · skip
      refine zRs_let (fun v8 _ => ?_)
      refine zRs_let (fun v9 _ => ?_)
      refine zRs_if (fun _ => ?_) (fun _ => ?_)
      · skip
        exact g
      · skip
        refine zRs_let (fun v11 _ => ?_)
        refine zRs_let (fun v12 _ => ?_)
        refine zRs_if (fun _ => ?_) (fun _ => ?_)
        · skip
          exact g
        · skip
          refine zRs_let (fun v14 _ => ?_)
          refine zRs_let (fun s15 es15 => ?_)
          have gs15 : zRs R s15 := by rw [es15]; exact rf_X3_fail g
          exact gs15
    · skip
      refine zRs_let (fun v16 _ => ?_)
      refine zRs_let (fun v17 _ => ?_)
      refine zRs_if (fun _ => ?_) (fun _ => ?_)
      · skip
        refine zRs_let (fun v39 _ => ?_)
        refine zRs_let (fun v40 _ => ?_)
        refine zRs_let (fun v41 _ => ?_)
        refine zRs_let (fun v42 _ => ?_)
        refine zRs_let (fun v43 _ => ?_)
        refine zRs_let (fun s44 es44 => ?_)
        have gs44 : zRs R s44 := by rw [es44]; exact rf_X9_addStep g
        refine zRs_let (fun v45 _ => ?_)
        refine zRs_let (fun s46 es46 => ?_)
        have gs46 : zRs R s46 := by rw [es46]; exact rf_X3_take gs44
        exact gs46
      · skip
        refine zRs_let (fun v20 _ => ?_)
        refine zRs_let (fun v21 _ => ?_)
        refine zRs_if (fun _ => ?_) (fun _ => ?_)
        · skip
          refine zRs_let (fun v30 _ => ?_)
          refine zRs_if (fun _ => ?_) (fun _ => ?_)
          · skip
            refine zRs_let (fun v32 _ => ?_)
            refine zRs_let (fun s33 es33 => ?_)
            have gs33 : zRs R s33 := by rw [es33]; exact rf_X3_take g
            refine zRs_let (fun v34 _ => ?_)
            refine zRs_let (fun v35 _ => ?_)
            refine zRs_let (fun s36 es36 => ?_)
            have gs36 : zRs R s36 := by rw [es36]; exact rf_X3_sum_o3 gs33
            refine zRs_let (fun v37 _ => ?_)
            refine zRs_let (fun s38 es38 => ?_)
            have gs38 : zRs R s38 := by rw [es38]; exact rf_X3_take gs36
            exact gs38
          · skip
            exact g
        · skip
          refine zRs_let (fun v23 _ => ?_)
          refine zRs_let (fun v24 _ => ?_)
          refine zRs_if (fun _ => ?_) (fun _ => ?_)
          · skip
            refine zRs_let (fun v28 _ => ?_)
            refine zRs_let (fun s29 es29 => ?_)
            have gs29 : zRs R s29 := by rw [es29]; exact rf_X3_fail g
            exact gs29
          · skip
            refine zRs_let (fun v26 _ => ?_)
            refine zRs_let (fun s27 es27 => ?_)
            have gs27 : zRs R s27 := by rw [es27]; exact rf_X3_fail g
            exact gs27
set_option maxRecDepth 100000 in
theorem rf_X3_product_o2_7 {R : Nat → Nat → Option Nat} {a0 : Nat} {p1 : Int32}  : ∀ (n : Nat) (x3 : Int32) (τ4 : zS), zRs R τ4 → zRs R (F_X3_product_o2_7 a0 p1 n x3 τ4) := by
  intro n
  induction n with
  | zero => intro x3 τ4 g; exact g
  | succ n ih =>
    intro x3 τ4 g
    rw [F_X3_product_o2_7]
    refine zRs_let (fun v5 _ => ?_)
    refine zRs_if (fun _ => ?_) (fun _ => ?_)
    · skip
      exact g
    · skip
      refine zRs_let (fun v7 _ => ?_)
      refine zRs_let (fun v8 _ => ?_)
      refine zRs_let (fun v9 _ => ?_)
      refine zRs_let (fun v10 _ => ?_)
      refine zRs_if (fun _ => ?_) (fun _ => ?_)
      · skip
        exact g
      · skip
        refine zRs_let (fun v12 _ => ?_)
        refine zRs_let (fun s13 es13 => ?_)
        have gs13 : zRs R s13 := by rw [es13]; exact rf_X3_take g
        refine zRs_let (fun s14 es14 => ?_)
        have gs14 : zRs R s14 := by rw [es14]; exact rf_X3_unit_o2 gs13
        refine zRs_let (fun v15 _ => ?_)
        refine zRs_let (fun v16 _ => ?_)
        refine zRs_if (fun _ => ?_) (fun _ => ?_)
        · skip
          refine zRs_let (fun v22 _ => ?_)
          refine zRs_let (fun v23 _ => ?_)
          refine zRs_let (fun s24 es24 => ?_)
          have gs24 : zRs R s24 := by rw [es24]; exact rf_X9_addStep gs14
          refine zRs_let (fun v25 _ => ?_)
          exact ih _ _ gs24
        · skip
          refine zRs_let (fun v18 _ => ?_)
          refine zRs_let (fun v19 _ => ?_)
          refine zRs_let (fun s20 es20 => ?_)
          have gs20 : zRs R s20 := by rw [es20]; exact rf_X9_addStep gs14
          refine zRs_let (fun v21 _ => ?_)
          exact ih _ _ gs20
set_option maxRecDepth 100000 in
theorem rf_X3_product_o2 {R : Nat → Nat → Option Nat} {σ0 : zS} {a0 : Nat} {p1 : Int32}  (g : zRs R σ0) : zRs R (F_X3_product_o2 a0 p1 σ0) := by
  unfold F_X3_product_o2
  refine zRs_let (fun s1 es1 => ?_)
  have gs1 : zRs R s1 := by rw [es1]; exact rf_X3_unit_o2 g
  refine zRs_let (fun v2 _ => ?_)
  exact rf_X3_product_o2_7  _ _ _ gs1
set_option maxRecDepth 100000 in
theorem rf_X3_sum_o2_7 {R : Nat → Nat → Option Nat} {a0 : Nat} {p1 : Int32}  : ∀ (n : Nat) (x3 : Int32) (τ4 : zS), zRs R τ4 → zRs R (F_X3_sum_o2_7 a0 p1 n x3 τ4) := by
  intro n
  induction n with
  | zero => intro x3 τ4 g; exact g
  | succ n ih =>
    intro x3 τ4 g
    rw [F_X3_sum_o2_7]
    refine zRs_let (fun v5 _ => ?_)
    refine zRs_if (fun _ => ?_) (fun _ => ?_)
    · skip
      exact g
    · skip
      refine zRs_let (fun v7 _ => ?_)
      refine zRs_let (fun v8 _ => ?_)
      refine zRs_let (fun v9 _ => ?_)
      refine zRs_let (fun v10 _ => ?_)
      refine zRs_if (fun _ => ?_) (fun _ => ?_)
      · skip
        exact g
      · skip
        refine zRs_let (fun v12 _ => ?_)
        refine zRs_let (fun s13 es13 => ?_)
        have gs13 : zRs R s13 := by rw [es13]; exact rf_X3_take g
        refine zRs_let (fun s14 es14 => ?_)
        have gs14 : zRs R s14 := by rw [es14]; exact rf_X3_product_o2 gs13
        refine zRs_let (fun v15 _ => ?_)
        refine zRs_let (fun v16 _ => ?_)
        refine zRs_if (fun _ => ?_) (fun _ => ?_)
        · skip
          refine zRs_let (fun v22 _ => ?_)
          refine zRs_let (fun v23 _ => ?_)
          refine zRs_let (fun s24 es24 => ?_)
          have gs24 : zRs R s24 := by rw [es24]; exact rf_X9_addStep gs14
          refine zRs_let (fun v25 _ => ?_)
          exact ih _ _ gs24
        · skip
          refine zRs_let (fun v18 _ => ?_)
          refine zRs_let (fun v19 _ => ?_)
          refine zRs_let (fun s20 es20 => ?_)
          have gs20 : zRs R s20 := by rw [es20]; exact rf_X9_addStep gs14
          refine zRs_let (fun v21 _ => ?_)
          exact ih _ _ gs20
set_option maxRecDepth 100000 in
theorem rf_X3_sum_o2 {R : Nat → Nat → Option Nat} {σ0 : zS} {a0 : Nat} {p1 : Int32}  (g : zRs R σ0) : zRs R (F_X3_sum_o2 a0 p1 σ0) := by
  unfold F_X3_sum_o2
  refine zRs_let (fun s1 es1 => ?_)
  have gs1 : zRs R s1 := by rw [es1]; exact rf_X3_product_o2 g
  refine zRs_let (fun v2 _ => ?_)
  exact rf_X3_sum_o2_7  _ _ _ gs1
set_option maxRecDepth 100000 in
theorem rf_X3_unit_o1 {R : Nat → Nat → Option Nat} {σ0 : zS} {a0 : Nat} {p1 : Int32}  (g : zRs R σ0) : zRs R (F_X3_unit_o1 a0 p1 σ0) := by
  unfold F_X3_unit_o1
  refine zRs_let (fun v1 _ => ?_)
  refine zRs_let (fun v2 _ => ?_)
  refine zRs_if (fun _ => ?_) (fun _ => ?_)
  · skip
    refine zRs_let (fun v47 _ => ?_)
    refine zRs_let (fun v48 _ => ?_)
    refine zRs_let (fun v49 _ => ?_)
    refine zRs_let (fun v50 _ => ?_)
    refine zRs_let (fun s51 es51 => ?_)
    have gs51 : zRs R s51 := by rw [es51]; exact rf_X9_addStep g
    refine zRs_let (fun v52 _ => ?_)
    refine zRs_let (fun s53 es53 => ?_)
    have gs53 : zRs R s53 := by rw [es53]; exact rf_X3_take gs51
    exact gs53
  · skip
    refine zRs_let (fun v4 _ => ?_)
    refine zRs_let (fun v5 _ => ?_)
    refine zRs_if (fun _ => ?_) (fun _ => ?_)
    · skip
      refine zRs_let (fun v8 _ => ?_)
      refine zRs_let (fun v9 _ => ?_)
      refine zRs_if (fun _ => ?_) (fun _ => ?_)
      · skip
        exact g
      · skip
        refine zRs_let (fun v11 _ => ?_)
        refine zRs_let (fun v12 _ => ?_)
        refine zRs_if (fun _ => ?_) (fun _ => ?_)
        · skip
          exact g
        · skip
          refine zRs_let (fun v14 _ => ?_)
          refine zRs_let (fun s15 es15 => ?_)
          have gs15 : zRs R s15 := by rw [es15]; exact rf_X3_fail g
          exact gs15
    · skip
      refine zRs_let (fun v16 _ => ?_)
      refine zRs_let (fun v17 _ => ?_)
      refine zRs_if (fun _ => ?_) (fun _ => ?_)
      · skip
        refine zRs_let (fun v39 _ => ?_)
        refine zRs_let (fun v40 _ => ?_)
        refine zRs_let (fun v41 _ => ?_)
        refine zRs_let (fun v42 _ => ?_)
        refine zRs_let (fun v43 _ => ?_)
        refine zRs_let (fun s44 es44 => ?_)
        have gs44 : zRs R s44 := by rw [es44]; exact rf_X9_addStep g
        refine zRs_let (fun v45 _ => ?_)
        refine zRs_let (fun s46 es46 => ?_)
        have gs46 : zRs R s46 := by rw [es46]; exact rf_X3_take gs44
        exact gs46
      · skip
        refine zRs_let (fun v20 _ => ?_)
        refine zRs_let (fun v21 _ => ?_)
        refine zRs_if (fun _ => ?_) (fun _ => ?_)
        · skip
          refine zRs_let (fun v30 _ => ?_)
          refine zRs_if (fun _ => ?_) (fun _ => ?_)
          · skip
            refine zRs_let (fun v32 _ => ?_)
            refine zRs_let (fun s33 es33 => ?_)
            have gs33 : zRs R s33 := by rw [es33]; exact rf_X3_take g
            refine zRs_let (fun v34 _ => ?_)
            refine zRs_let (fun v35 _ => ?_)
            refine zRs_let (fun s36 es36 => ?_)
            have gs36 : zRs R s36 := by rw [es36]; exact rf_X3_sum_o2 gs33
            refine zRs_let (fun v37 _ => ?_)
            refine zRs_let (fun s38 es38 => ?_)
            have gs38 : zRs R s38 := by rw [es38]; exact rf_X3_take gs36
            exact gs38
          · skip
            exact g
        · skip
          refine zRs_let (fun v23 _ => ?_)
          refine zRs_let (fun v24 _ => ?_)
          refine zRs_if (fun _ => ?_) (fun _ => ?_)
          · skip
            refine zRs_let (fun v28 _ => ?_)
            refine zRs_let (fun s29 es29 => ?_)
            have gs29 : zRs R s29 := by rw [es29]; exact rf_X3_fail g
            exact gs29
          · skip
            refine zRs_let (fun v26 _ => ?_)
            refine zRs_let (fun s27 es27 => ?_)
            have gs27 : zRs R s27 := by rw [es27]; exact rf_X3_fail g
            exact gs27
set_option maxRecDepth 100000 in
theorem rf_X3_product_o1_7 {R : Nat → Nat → Option Nat} {a0 : Nat} {p1 : Int32}  : ∀ (n : Nat) (x3 : Int32) (τ4 : zS), zRs R τ4 → zRs R (F_X3_product_o1_7 a0 p1 n x3 τ4) := by
  intro n
  induction n with
  | zero => intro x3 τ4 g; exact g
  | succ n ih =>
    intro x3 τ4 g
    rw [F_X3_product_o1_7]
    refine zRs_let (fun v5 _ => ?_)
    refine zRs_if (fun _ => ?_) (fun _ => ?_)
    · skip
      exact g
    · skip
      refine zRs_let (fun v7 _ => ?_)
      refine zRs_let (fun v8 _ => ?_)
      refine zRs_let (fun v9 _ => ?_)
      refine zRs_let (fun v10 _ => ?_)
      refine zRs_if (fun _ => ?_) (fun _ => ?_)
      · skip
        exact g
      · skip
        refine zRs_let (fun v12 _ => ?_)
        refine zRs_let (fun s13 es13 => ?_)
        have gs13 : zRs R s13 := by rw [es13]; exact rf_X3_take g
        refine zRs_let (fun s14 es14 => ?_)
        have gs14 : zRs R s14 := by rw [es14]; exact rf_X3_unit_o1 gs13
        refine zRs_let (fun v15 _ => ?_)
        refine zRs_let (fun v16 _ => ?_)
        refine zRs_if (fun _ => ?_) (fun _ => ?_)
        · skip
          refine zRs_let (fun v22 _ => ?_)
          refine zRs_let (fun v23 _ => ?_)
          refine zRs_let (fun s24 es24 => ?_)
          have gs24 : zRs R s24 := by rw [es24]; exact rf_X9_addStep gs14
          refine zRs_let (fun v25 _ => ?_)
          exact ih _ _ gs24
        · skip
          refine zRs_let (fun v18 _ => ?_)
          refine zRs_let (fun v19 _ => ?_)
          refine zRs_let (fun s20 es20 => ?_)
          have gs20 : zRs R s20 := by rw [es20]; exact rf_X9_addStep gs14
          refine zRs_let (fun v21 _ => ?_)
          exact ih _ _ gs20
set_option maxRecDepth 100000 in
theorem rf_X3_product_o1 {R : Nat → Nat → Option Nat} {σ0 : zS} {a0 : Nat} {p1 : Int32}  (g : zRs R σ0) : zRs R (F_X3_product_o1 a0 p1 σ0) := by
  unfold F_X3_product_o1
  refine zRs_let (fun s1 es1 => ?_)
  have gs1 : zRs R s1 := by rw [es1]; exact rf_X3_unit_o1 g
  refine zRs_let (fun v2 _ => ?_)
  exact rf_X3_product_o1_7  _ _ _ gs1
set_option maxRecDepth 100000 in
theorem rf_X3_sum_o1_7 {R : Nat → Nat → Option Nat} {a0 : Nat} {p1 : Int32}  : ∀ (n : Nat) (x3 : Int32) (τ4 : zS), zRs R τ4 → zRs R (F_X3_sum_o1_7 a0 p1 n x3 τ4) := by
  intro n
  induction n with
  | zero => intro x3 τ4 g; exact g
  | succ n ih =>
    intro x3 τ4 g
    rw [F_X3_sum_o1_7]
    refine zRs_let (fun v5 _ => ?_)
    refine zRs_if (fun _ => ?_) (fun _ => ?_)
    · skip
      exact g
    · skip
      refine zRs_let (fun v7 _ => ?_)
      refine zRs_let (fun v8 _ => ?_)
      refine zRs_let (fun v9 _ => ?_)
      refine zRs_let (fun v10 _ => ?_)
      refine zRs_if (fun _ => ?_) (fun _ => ?_)
      · skip
        exact g
      · skip
        refine zRs_let (fun v12 _ => ?_)
        refine zRs_let (fun s13 es13 => ?_)
        have gs13 : zRs R s13 := by rw [es13]; exact rf_X3_take g
        refine zRs_let (fun s14 es14 => ?_)
        have gs14 : zRs R s14 := by rw [es14]; exact rf_X3_product_o1 gs13
        refine zRs_let (fun v15 _ => ?_)
        refine zRs_let (fun v16 _ => ?_)
        refine zRs_if (fun _ => ?_) (fun _ => ?_)
        · skip
          refine zRs_let (fun v22 _ => ?_)
          refine zRs_let (fun v23 _ => ?_)
          refine zRs_let (fun s24 es24 => ?_)
          have gs24 : zRs R s24 := by rw [es24]; exact rf_X9_addStep gs14
          refine zRs_let (fun v25 _ => ?_)
          exact ih _ _ gs24
        · skip
          refine zRs_let (fun v18 _ => ?_)
          refine zRs_let (fun v19 _ => ?_)
          refine zRs_let (fun s20 es20 => ?_)
          have gs20 : zRs R s20 := by rw [es20]; exact rf_X9_addStep gs14
          refine zRs_let (fun v21 _ => ?_)
          exact ih _ _ gs20
set_option maxRecDepth 100000 in
theorem rf_X3_sum_o1 {R : Nat → Nat → Option Nat} {σ0 : zS} {a0 : Nat} {p1 : Int32}  (g : zRs R σ0) : zRs R (F_X3_sum_o1 a0 p1 σ0) := by
  unfold F_X3_sum_o1
  refine zRs_let (fun s1 es1 => ?_)
  have gs1 : zRs R s1 := by rw [es1]; exact rf_X3_product_o1 g
  refine zRs_let (fun v2 _ => ?_)
  exact rf_X3_sum_o1_7  _ _ _ gs1
set_option maxRecDepth 100000 in
theorem rf_X3_unit_o0 {R : Nat → Nat → Option Nat} {σ0 : zS} {a0 : Nat} {p1 : Int32}  (g : zRs R σ0) : zRs R (F_X3_unit_o0 a0 p1 σ0) := by
  unfold F_X3_unit_o0
  refine zRs_let (fun v1 _ => ?_)
  refine zRs_let (fun v2 _ => ?_)
  refine zRs_if (fun _ => ?_) (fun _ => ?_)
  · skip
    refine zRs_let (fun v47 _ => ?_)
    refine zRs_let (fun v48 _ => ?_)
    refine zRs_let (fun v49 _ => ?_)
    refine zRs_let (fun v50 _ => ?_)
    refine zRs_let (fun s51 es51 => ?_)
    have gs51 : zRs R s51 := by rw [es51]; exact rf_X9_addStep g
    refine zRs_let (fun v52 _ => ?_)
    refine zRs_let (fun s53 es53 => ?_)
    have gs53 : zRs R s53 := by rw [es53]; exact rf_X3_take gs51
    exact gs53
  · skip
    refine zRs_let (fun v4 _ => ?_)
    refine zRs_let (fun v5 _ => ?_)
    refine zRs_if (fun _ => ?_) (fun _ => ?_)
    · skip
      refine zRs_let (fun v8 _ => ?_)
      refine zRs_let (fun v9 _ => ?_)
      refine zRs_if (fun _ => ?_) (fun _ => ?_)
      · skip
        exact g
      · skip
        refine zRs_let (fun v11 _ => ?_)
        refine zRs_let (fun v12 _ => ?_)
        refine zRs_if (fun _ => ?_) (fun _ => ?_)
        · skip
          exact g
        · skip
          refine zRs_let (fun v14 _ => ?_)
          refine zRs_let (fun s15 es15 => ?_)
          have gs15 : zRs R s15 := by rw [es15]; exact rf_X3_fail g
          exact gs15
    · skip
      refine zRs_let (fun v16 _ => ?_)
      refine zRs_let (fun v17 _ => ?_)
      refine zRs_if (fun _ => ?_) (fun _ => ?_)
      · skip
        refine zRs_let (fun v39 _ => ?_)
        refine zRs_let (fun v40 _ => ?_)
        refine zRs_let (fun v41 _ => ?_)
        refine zRs_let (fun v42 _ => ?_)
        refine zRs_let (fun v43 _ => ?_)
        refine zRs_let (fun s44 es44 => ?_)
        have gs44 : zRs R s44 := by rw [es44]; exact rf_X9_addStep g
        refine zRs_let (fun v45 _ => ?_)
        refine zRs_let (fun s46 es46 => ?_)
        have gs46 : zRs R s46 := by rw [es46]; exact rf_X3_take gs44
        exact gs46
      · skip
        refine zRs_let (fun v20 _ => ?_)
        refine zRs_let (fun v21 _ => ?_)
        refine zRs_if (fun _ => ?_) (fun _ => ?_)
        · skip
          refine zRs_let (fun v30 _ => ?_)
          refine zRs_if (fun _ => ?_) (fun _ => ?_)
          · skip
            refine zRs_let (fun v32 _ => ?_)
            refine zRs_let (fun s33 es33 => ?_)
            have gs33 : zRs R s33 := by rw [es33]; exact rf_X3_take g
            refine zRs_let (fun v34 _ => ?_)
            refine zRs_let (fun v35 _ => ?_)
            refine zRs_let (fun s36 es36 => ?_)
            have gs36 : zRs R s36 := by rw [es36]; exact rf_X3_sum_o1 gs33
            refine zRs_let (fun v37 _ => ?_)
            refine zRs_let (fun s38 es38 => ?_)
            have gs38 : zRs R s38 := by rw [es38]; exact rf_X3_take gs36
            exact gs38
          · skip
            exact g
        · skip
          refine zRs_let (fun v23 _ => ?_)
          refine zRs_let (fun v24 _ => ?_)
          refine zRs_if (fun _ => ?_) (fun _ => ?_)
          · skip
            refine zRs_let (fun v28 _ => ?_)
            refine zRs_let (fun s29 es29 => ?_)
            have gs29 : zRs R s29 := by rw [es29]; exact rf_X3_fail g
            exact gs29
          · skip
            refine zRs_let (fun v26 _ => ?_)
            refine zRs_let (fun s27 es27 => ?_)
            have gs27 : zRs R s27 := by rw [es27]; exact rf_X3_fail g
            exact gs27
set_option maxRecDepth 100000 in
theorem rf_X3_product_o0_7 {R : Nat → Nat → Option Nat} {a0 : Nat} {p1 : Int32}  : ∀ (n : Nat) (x3 : Int32) (τ4 : zS), zRs R τ4 → zRs R (F_X3_product_o0_7 a0 p1 n x3 τ4) := by
  intro n
  induction n with
  | zero => intro x3 τ4 g; exact g
  | succ n ih =>
    intro x3 τ4 g
    rw [F_X3_product_o0_7]
    refine zRs_let (fun v5 _ => ?_)
    refine zRs_if (fun _ => ?_) (fun _ => ?_)
    · skip
      exact g
    · skip
      refine zRs_let (fun v7 _ => ?_)
      refine zRs_let (fun v8 _ => ?_)
      refine zRs_let (fun v9 _ => ?_)
      refine zRs_let (fun v10 _ => ?_)
      refine zRs_if (fun _ => ?_) (fun _ => ?_)
      · skip
        exact g
      · skip
        refine zRs_let (fun v12 _ => ?_)
        refine zRs_let (fun s13 es13 => ?_)
        have gs13 : zRs R s13 := by rw [es13]; exact rf_X3_take g
        refine zRs_let (fun s14 es14 => ?_)
        have gs14 : zRs R s14 := by rw [es14]; exact rf_X3_unit_o0 gs13
        refine zRs_let (fun v15 _ => ?_)
        refine zRs_let (fun v16 _ => ?_)
        refine zRs_if (fun _ => ?_) (fun _ => ?_)
        · skip
          refine zRs_let (fun v22 _ => ?_)
          refine zRs_let (fun v23 _ => ?_)
          refine zRs_let (fun s24 es24 => ?_)
          have gs24 : zRs R s24 := by rw [es24]; exact rf_X9_addStep gs14
          refine zRs_let (fun v25 _ => ?_)
          exact ih _ _ gs24
        · skip
          refine zRs_let (fun v18 _ => ?_)
          refine zRs_let (fun v19 _ => ?_)
          refine zRs_let (fun s20 es20 => ?_)
          have gs20 : zRs R s20 := by rw [es20]; exact rf_X9_addStep gs14
          refine zRs_let (fun v21 _ => ?_)
          exact ih _ _ gs20
set_option maxRecDepth 100000 in
theorem rf_X3_product_o0 {R : Nat → Nat → Option Nat} {σ0 : zS} {a0 : Nat} {p1 : Int32}  (g : zRs R σ0) : zRs R (F_X3_product_o0 a0 p1 σ0) := by
  unfold F_X3_product_o0
  refine zRs_let (fun s1 es1 => ?_)
  have gs1 : zRs R s1 := by rw [es1]; exact rf_X3_unit_o0 g
  refine zRs_let (fun v2 _ => ?_)
  exact rf_X3_product_o0_7  _ _ _ gs1
set_option maxRecDepth 100000 in
theorem rf_X3_sum_o0_7 {R : Nat → Nat → Option Nat} {a0 : Nat} {p1 : Int32}  : ∀ (n : Nat) (x3 : Int32) (τ4 : zS), zRs R τ4 → zRs R (F_X3_sum_o0_7 a0 p1 n x3 τ4) := by
  intro n
  induction n with
  | zero => intro x3 τ4 g; exact g
  | succ n ih =>
    intro x3 τ4 g
    rw [F_X3_sum_o0_7]
    refine zRs_let (fun v5 _ => ?_)
    refine zRs_if (fun _ => ?_) (fun _ => ?_)
    · skip
      exact g
    · skip
      refine zRs_let (fun v7 _ => ?_)
      refine zRs_let (fun v8 _ => ?_)
      refine zRs_let (fun v9 _ => ?_)
      refine zRs_let (fun v10 _ => ?_)
      refine zRs_if (fun _ => ?_) (fun _ => ?_)
      · skip
        exact g
      · skip
        refine zRs_let (fun v12 _ => ?_)
        refine zRs_let (fun s13 es13 => ?_)
        have gs13 : zRs R s13 := by rw [es13]; exact rf_X3_take g
        refine zRs_let (fun s14 es14 => ?_)
        have gs14 : zRs R s14 := by rw [es14]; exact rf_X3_product_o0 gs13
        refine zRs_let (fun v15 _ => ?_)
        refine zRs_let (fun v16 _ => ?_)
        refine zRs_if (fun _ => ?_) (fun _ => ?_)
        · skip
          refine zRs_let (fun v22 _ => ?_)
          refine zRs_let (fun v23 _ => ?_)
          refine zRs_let (fun s24 es24 => ?_)
          have gs24 : zRs R s24 := by rw [es24]; exact rf_X9_addStep gs14
          refine zRs_let (fun v25 _ => ?_)
          exact ih _ _ gs24
        · skip
          refine zRs_let (fun v18 _ => ?_)
          refine zRs_let (fun v19 _ => ?_)
          refine zRs_let (fun s20 es20 => ?_)
          have gs20 : zRs R s20 := by rw [es20]; exact rf_X9_addStep gs14
          refine zRs_let (fun v21 _ => ?_)
          exact ih _ _ gs20
set_option maxRecDepth 100000 in
theorem rf_X3_sum_o0 {R : Nat → Nat → Option Nat} {σ0 : zS} {a0 : Nat} {p1 : Int32}  (g : zRs R σ0) : zRs R (F_X3_sum_o0 a0 p1 σ0) := by
  unfold F_X3_sum_o0
  refine zRs_let (fun s1 es1 => ?_)
  have gs1 : zRs R s1 := by rw [es1]; exact rf_X3_product_o0 g
  refine zRs_let (fun v2 _ => ?_)
  exact rf_X3_sum_o0_7  _ _ _ gs1
set_option maxRecDepth 100000 in
theorem rf_X9_setValue {R : Nat → Nat → Option Nat} {σ0 : zS} {a0 : Nat} {p1 : Int32} {p2 : Int32}  (g : zRs R σ0) : zRs R (F_X9_setValue a0 p1 p2 σ0) := by
  unfold F_X9_setValue
  refine zRs_if (fun _ => ?_) (fun _ => ?_)
  · skip
    exact g
  · skip
    refine zRs_let (fun v2 _ => ?_)
    refine zRs_if (fun _ => ?_) (fun _ => ?_)
    · skip
      refine zRs_let (fun v5 _ => ?_)
      refine zRs_let (fun s6 es6 => ?_)
      have gs6 : zRs R s6 := by rw [es6]; exact g
      exact gs6
    · skip
      exact g
set_option maxRecDepth 100000 in
theorem rf_X3_law_23 {R : Nat → Nat → Option Nat} {v7 : Int32} {a0 : Nat} {p1 : Int32}  : ∀ (n : Nat) (x9 : Int32) (τ10 : zS), zRs R τ10 → zRs R (F_X3_law_23 v7 a0 p1 n x9 τ10) := by
  intro n
  induction n with
  | zero => intro x9 τ10 g; exact g
  | succ n ih =>
    intro x9 τ10 g
    rw [F_X3_law_23]
    refine zRs_let (fun v11 _ => ?_)
    refine zRs_if (fun _ => ?_) (fun _ => ?_)
    · skip
      refine zRs_let (fun v13 _ => ?_)
      refine zRs_let (fun s14 es14 => ?_)
      have gs14 : zRs R s14 := by rw [es14]; exact rf_X3_sum_o0 g
      refine zRs_let (fun v15 _ => ?_)
      refine zRs_let (fun v16 _ => ?_)
      refine zRs_let (fun v17 _ => ?_)
      refine zRs_let (fun s18 es18 => ?_)
      have gs18 : zRs R s18 := by rw [es18]; exact rf_X9_addStep gs14
      refine zRs_let (fun v19 _ => ?_)
      refine zRs_let (fun v20 _ => ?_)
      refine zRs_let (fun s21 es21 => ?_)
      have gs21 : zRs R s21 := by rw [es21]; exact gs18
      exact gs21
    · skip
      refine zRs_let (fun v22 _ => ?_)
      refine zRs_let (fun v23 _ => ?_)
      refine zRs_if (fun _ => ?_) (fun _ => ?_)
      · skip
        refine zRs_let (fun v34 _ => ?_)
        refine zRs_if (fun _ => ?_) (fun _ => ?_)
        · skip
          refine zRs_let (fun v65 _ => ?_)
          refine zRs_let (fun s66 es66 => ?_)
          have gs66 : zRs R s66 := by rw [es66]; exact rf_X3_fail g
          refine zRs_let (fun v67 _ => ?_)
          refine zRs_let (fun s68 es68 => ?_)
          have gs68 : zRs R s68 := by rw [es68]; exact rf_X3_take gs66
          refine zRs_let (fun v69 _ => ?_)
          refine zRs_let (fun s70 es70 => ?_)
          have gs70 : zRs R s70 := by rw [es70]; exact rf_X3_sum_o0 gs68
          refine zRs_let (fun v71 _ => ?_)
          refine zRs_let (fun s72 es72 => ?_)
          have gs72 : zRs R s72 := by rw [es72]; exact rf_X3_take gs70
          refine zRs_let (fun v73 _ => ?_)
          refine zRs_let (fun s74 es74 => ?_)
          have gs74 : zRs R s74 := by rw [es74]; exact rf_X3_sum_o0 gs72
          refine zRs_let (fun v75 _ => ?_)
          refine zRs_let (fun s76 es76 => ?_)
          have gs76 : zRs R s76 := by rw [es76]; exact rf_X3_take gs74
          refine zRs_let (fun v77 _ => ?_)
          refine zRs_let (fun v78 _ => ?_)
          refine zRs_let (fun v79 _ => ?_)
          refine zRs_let (fun v80 _ => ?_)
          refine zRs_let (fun v81 _ => ?_)
          refine zRs_let (fun s82 es82 => ?_)
          have gs82 : zRs R s82 := by rw [es82]; exact rf_X9_addStep gs76
          refine zRs_let (fun v83 _ => ?_)
          refine zRs_let (fun s84 es84 => ?_)
          have gs84 : zRs R s84 := by rw [es84]; exact rf_X3_sum_o0 gs82
          refine zRs_let (fun v85 _ => ?_)
          refine zRs_let (fun s86 es86 => ?_)
          have gs86 : zRs R s86 := by rw [es86]; exact rf_X3_take gs84
          refine zRs_let (fun v87 _ => ?_)
          refine zRs_let (fun v88 _ => ?_)
          refine zRs_let (fun v89 _ => ?_)
          refine zRs_let (fun s90 es90 => ?_)
          have gs90 : zRs R s90 := by rw [es90]; exact rf_X9_addStep gs86
          refine zRs_let (fun v91 _ => ?_)
          refine zRs_let (fun v92 _ => ?_)
          refine zRs_let (fun v93 _ => ?_)
          refine zRs_let (fun s94 es94 => ?_)
          have gs94 : zRs R s94 := by rw [es94]; exact rf_X9_setValue gs90
          refine zRs_let (fun v95 _ => ?_)
          exact ih _ _ gs94
        · skip
          refine zRs_let (fun v36 _ => ?_)
          refine zRs_let (fun s37 es37 => ?_)
          have gs37 : zRs R s37 := by rw [es37]; exact rf_X3_take g
          refine zRs_let (fun v38 _ => ?_)
          refine zRs_let (fun s39 es39 => ?_)
          have gs39 : zRs R s39 := by rw [es39]; exact rf_X3_sum_o0 gs37
          refine zRs_let (fun v40 _ => ?_)
          refine zRs_let (fun s41 es41 => ?_)
          have gs41 : zRs R s41 := by rw [es41]; exact rf_X3_take gs39
          refine zRs_let (fun v42 _ => ?_)
          refine zRs_let (fun s43 es43 => ?_)
          have gs43 : zRs R s43 := by rw [es43]; exact rf_X3_sum_o0 gs41
          refine zRs_let (fun v44 _ => ?_)
          refine zRs_let (fun s45 es45 => ?_)
          have gs45 : zRs R s45 := by rw [es45]; exact rf_X3_take gs43
          refine zRs_let (fun v46 _ => ?_)
          refine zRs_let (fun v47 _ => ?_)
          refine zRs_let (fun v48 _ => ?_)
          refine zRs_let (fun v49 _ => ?_)
          refine zRs_let (fun v50 _ => ?_)
          refine zRs_let (fun s51 es51 => ?_)
          have gs51 : zRs R s51 := by rw [es51]; exact rf_X9_addStep gs45
          refine zRs_let (fun v52 _ => ?_)
          refine zRs_let (fun s53 es53 => ?_)
          have gs53 : zRs R s53 := by rw [es53]; exact rf_X3_sum_o0 gs51
          refine zRs_let (fun v54 _ => ?_)
          refine zRs_let (fun s55 es55 => ?_)
          have gs55 : zRs R s55 := by rw [es55]; exact rf_X3_take gs53
          refine zRs_let (fun v56 _ => ?_)
          refine zRs_let (fun v57 _ => ?_)
          refine zRs_let (fun v58 _ => ?_)
          refine zRs_let (fun s59 es59 => ?_)
          have gs59 : zRs R s59 := by rw [es59]; exact rf_X9_addStep gs55
          refine zRs_let (fun v60 _ => ?_)
          refine zRs_let (fun v61 _ => ?_)
          refine zRs_let (fun v62 _ => ?_)
          refine zRs_let (fun s63 es63 => ?_)
          have gs63 : zRs R s63 := by rw [es63]; exact rf_X9_setValue gs59
          refine zRs_let (fun v64 _ => ?_)
          exact ih _ _ gs63
      · skip
        refine zRs_let (fun v25 _ => ?_)
        refine zRs_let (fun s26 es26 => ?_)
        have gs26 : zRs R s26 := by rw [es26]; exact rf_X3_sum_o0 g
        refine zRs_let (fun v27 _ => ?_)
        refine zRs_let (fun v28 _ => ?_)
        refine zRs_let (fun v29 _ => ?_)
        refine zRs_let (fun s30 es30 => ?_)
        have gs30 : zRs R s30 := by rw [es30]; exact rf_X9_addStep gs26
        refine zRs_let (fun v31 _ => ?_)
        refine zRs_let (fun v32 _ => ?_)
        refine zRs_let (fun s33 es33 => ?_)
        have gs33 : zRs R s33 := by rw [es33]; exact gs30
        exact gs33
set_option maxRecDepth 100000 in
theorem rf_X3_law {R : Nat → Nat → Option Nat} {σ0 : zS} {a0 : Nat} {p1 : Int32}  (g : zRs R σ0) : zRs R (F_X3_law a0 p1 σ0) := by
  unfold F_X3_law
  refine zRs_let (fun v1 _ => ?_)
  refine zRs_let (fun v2 _ => ?_)
  refine zRs_let (fun s3 es3 => ?_)
  have gs3 : zRs R s3 := by rw [es3]; exact rf_X3_take g
  refine zRs_let (fun v4 _ => ?_)
  refine zRs_let (fun s5 es5 => ?_)
  have gs5 : zRs R s5 := by rw [es5]; exact rf_X3_take gs3
  refine zRs_let (fun v6 _ => ?_)
  refine zRs_let (fun v7 _ => ?_)
  refine zRs_let (fun v8 _ => ?_)
  exact rf_X3_law_23  _ _ _ gs5
set_option maxRecDepth 100000 in
theorem rf_X3_telling {R : Nat → Nat → Option Nat} {σ0 : zS} {a0 : Nat}  (g : zRs R σ0) : zRs R (F_X3_telling a0 σ0) := by
  unfold F_X3_telling
  refine zRs_let (fun v1 _ => ?_)
  refine zRs_if (fun _ => ?_) (fun _ => ?_)
  · skip
    refine zRs_let (fun s69 es69 => ?_)
    have gs69 : zRs R s69 := by rw [es69]; exact rf_X3_mouth g
    refine zRs_let (fun v70 _ => ?_)
    refine zRs_let (fun s71 es71 => ?_)
    have gs71 : zRs R s71 := by rw [es71]; exact rf_X3_take gs69
    exact gs71
  · skip
    refine zRs_let (fun v3 _ => ?_)
    refine zRs_let (fun v4 _ => ?_)
    refine zRs_if (fun _ => ?_) (fun _ => ?_)
    · skip
      refine zRs_let (fun s66 es66 => ?_)
      have gs66 : zRs R s66 := by rw [es66]; exact rf_X3_newPlace g
      refine zRs_let (fun v67 _ => ?_)
      refine zRs_let (fun s68 es68 => ?_)
      have gs68 : zRs R s68 := by rw [es68]; exact rf_X3_take gs66
      exact gs68
    · skip
      refine zRs_let (fun v6 _ => ?_)
      refine zRs_let (fun v7 _ => ?_)
      refine zRs_let (fun v8 _ => ?_)
      refine zRs_let (fun v9 _ => ?_)
      refine zRs_if (fun _ => ?_) (fun _ => ?_)
      · skip
        refine zRs_let (fun v11 _ => ?_)
        refine zRs_let (fun v12 _ => ?_)
        refine zRs_if (fun _ => ?_) (fun _ => ?_)
        · skip
          refine zRs_let (fun v44 _ => ?_)
          refine zRs_let (fun s45 es45 => ?_)
          have gs45 : zRs R s45 := by rw [es45]; exact rf_X3_take g
          refine zRs_let (fun v46 _ => ?_)
          refine zRs_let (fun v47 _ => ?_)
          refine zRs_let (fun v48 _ => ?_)
          refine zRs_let2 (fun v49 s50 es50 => ?_)
          have gs50 : zRs R s50 := zRp.of (rf_X3_number gs45) es50
          refine zRs_let (fun s51 es51 => ?_)
          have gs51 : zRs R s51 := by rw [es51]; exact gs50
          refine zRs_let (fun v52 _ => ?_)
          refine zRs_let (fun v53 _ => ?_)
          refine zRs_let (fun v54 _ => ?_)
          refine zRs_let2 (fun v55 s56 es56 => ?_)
          have gs56 : zRs R s56 := zRp.of (rf_X3_number gs51) es56
          refine zRs_let (fun s57 es57 => ?_)
          have gs57 : zRs R s57 := by rw [es57]; exact gs56
          refine zRs_let (fun v58 _ => ?_)
          refine zRs_let (fun s59 es59 => ?_)
          have gs59 : zRs R s59 := by rw [es59]; exact rf_X3_take gs57
          exact gs59
        · skip
          refine zRs_let (fun v14 _ => ?_)
          refine zRs_let (fun v15 _ => ?_)
          refine zRs_if (fun _ => ?_) (fun _ => ?_)
          · skip
            refine zRs_let (fun v34 _ => ?_)
            refine zRs_let (fun s35 es35 => ?_)
            have gs35 : zRs R s35 := by rw [es35]; exact rf_X3_take g
            refine zRs_let (fun v36 _ => ?_)
            refine zRs_let (fun v37 _ => ?_)
            refine zRs_let (fun v38 _ => ?_)
            refine zRs_let2 (fun v39 s40 es40 => ?_)
            have gs40 : zRs R s40 := zRp.of (rf_X3_number gs35) es40
            refine zRs_let (fun s41 es41 => ?_)
            have gs41 : zRs R s41 := by rw [es41]; exact gs40
            refine zRs_let (fun v42 _ => ?_)
            refine zRs_let (fun s43 es43 => ?_)
            have gs43 : zRs R s43 := by rw [es43]; exact rf_X3_take gs41
            exact gs43
          · skip
            refine zRs_let (fun v17 _ => ?_)
            refine zRs_let (fun v18 _ => ?_)
            refine zRs_if (fun _ => ?_) (fun _ => ?_)
            · skip
              refine zRs_let (fun v24 _ => ?_)
              refine zRs_let (fun s25 es25 => ?_)
              have gs25 : zRs R s25 := by rw [es25]; exact rf_X3_take g
              refine zRs_let (fun v26 _ => ?_)
              refine zRs_let (fun v27 _ => ?_)
              refine zRs_let (fun v28 _ => ?_)
              refine zRs_let2 (fun v29 s30 es30 => ?_)
              have gs30 : zRs R s30 := zRp.of (rf_X3_number gs25) es30
              refine zRs_let (fun s31 es31 => ?_)
              have gs31 : zRs R s31 := by rw [es31]; exact gs30
              refine zRs_let (fun v32 _ => ?_)
              refine zRs_let (fun s33 es33 => ?_)
              have gs33 : zRs R s33 := by rw [es33]; exact rf_X3_take gs31
              exact gs33
            · skip
              refine zRs_let (fun v20 _ => ?_)
              refine zRs_let (fun s21 es21 => ?_)
              have gs21 : zRs R s21 := by rw [es21]; exact rf_X3_fail g
              refine zRs_let (fun v22 _ => ?_)
              refine zRs_let (fun s23 es23 => ?_)
              have gs23 : zRs R s23 := by rw [es23]; exact rf_X3_take gs21
              exact gs23
      · skip
        refine zRs_let (fun v60 _ => ?_)
        refine zRs_let (fun v61 _ => ?_)
        refine zRs_let (fun v62 _ => ?_)
        refine zRs_let (fun s63 es63 => ?_)
        have gs63 : zRs R s63 := by rw [es63]; exact rf_X3_law g
        refine zRs_let (fun v64 _ => ?_)
        refine zRs_let (fun s65 es65 => ?_)
        have gs65 : zRs R s65 := by rw [es65]; exact rf_X3_take gs63
        exact gs65
set_option maxRecDepth 100000 in
theorem rf_X3_parse_59 {R : Nat → Nat → Option Nat} {a0 : Nat} {p1 : Nat} {p2 : Int32} {p3 : Nat}  : ∀ (n : Nat) (x25 : Int32) (τ26 : zS), zRs R τ26 → zRp R (F_X3_parse_59 a0 p1 p2 p3 n x25 τ26) := by
  intro n
  induction n with
  | zero => intro x25 τ26 g; exact g
  | succ n ih =>
    intro x25 τ26 g
    rw [F_X3_parse_59]
    refine zRp_let (fun v27 _ => ?_)
    refine zRp_if (fun _ => ?_) (fun _ => ?_)
    · skip
      refine zRp_let (fun v29 _ => ?_)
      refine zRp_if (fun _ => ?_) (fun _ => ?_)
      · skip
        refine zRp_let (fun v44 _ => ?_)
        refine zRp_let (fun s45 es45 => ?_)
        have gs45 : zRs R s45 := by rw [es45]; exact g
        refine zRp_let (fun v48 _ => ?_)
        refine zRp_let (fun s49 es49 => ?_)
        have gs49 : zRs R s49 := by rw [es49]; exact gs45
        refine zRp_let (fun v51 _ => ?_)
        refine zRp_let (fun v52 _ => ?_)
        refine zRp_if (fun _ => ?_) (fun _ => ?_)
        · skip
          refine zRp_let (fun v54 _ => ?_)
          refine zRp_let (fun s55 es55 => ?_)
          have gs55 : zRs R s55 := by rw [es55]; exact gs49
          refine zRp_let (fun v57 _ => ?_)
          exact gs55
        · skip
          refine zRp_let (fun v58 _ => ?_)
          refine zRp_let (fun v59 _ => ?_)
          refine zRp_let (fun v60 _ => ?_)
          refine zRp_let (fun s61 es61 => ?_)
          have gs61 : zRs R s61 := by rw [es61]; exact gs49
          refine zRp_let (fun v63 _ => ?_)
          exact gs61
      · skip
        refine zRp_let (fun v31 _ => ?_)
        refine zRp_let (fun v32 _ => ?_)
        refine zRp_if (fun _ => ?_) (fun _ => ?_)
        · skip
          refine zRp_let (fun v34 _ => ?_)
          refine zRp_let (fun s35 es35 => ?_)
          have gs35 : zRs R s35 := by rw [es35]; exact g
          refine zRp_let (fun v37 _ => ?_)
          exact gs35
        · skip
          refine zRp_let (fun v38 _ => ?_)
          refine zRp_let (fun v39 _ => ?_)
          refine zRp_let (fun v40 _ => ?_)
          refine zRp_let (fun s41 es41 => ?_)
          have gs41 : zRs R s41 := by rw [es41]; exact g
          refine zRp_let (fun v43 _ => ?_)
          exact gs41
    · skip
      refine zRp_let (fun v64 _ => ?_)
      refine zRp_if (fun _ => ?_) (fun _ => ?_)
      · skip
        refine zRp_let (fun v101 _ => ?_)
        refine zRp_let (fun v102 _ => ?_)
        refine zRp_if (fun _ => ?_) (fun _ => ?_)
        · skip
          refine zRp_let (fun v104 _ => ?_)
          refine zRp_if (fun _ => ?_) (fun _ => ?_)
          · skip
            refine zRp_let (fun v106 _ => ?_)
            refine zRp_let (fun s107 es107 => ?_)
            have gs107 : zRs R s107 := by rw [es107]; exact g
            refine zRp_let (fun v110 _ => ?_)
            refine zRp_let (fun s111 es111 => ?_)
            have gs111 : zRs R s111 := by rw [es111]; exact gs107
            refine zRp_let (fun v113 _ => ?_)
            refine zRp_let (fun v114 _ => ?_)
            refine zRp_if (fun _ => ?_) (fun _ => ?_)
            · skip
              refine zRp_let (fun v116 _ => ?_)
              refine zRp_let (fun s117 es117 => ?_)
              have gs117 : zRs R s117 := by rw [es117]; exact gs111
              refine zRp_let (fun v119 _ => ?_)
              exact gs117
            · skip
              refine zRp_let (fun v120 _ => ?_)
              refine zRp_let (fun v121 _ => ?_)
              refine zRp_let (fun v122 _ => ?_)
              refine zRp_let (fun s123 es123 => ?_)
              have gs123 : zRs R s123 := by rw [es123]; exact gs111
              refine zRp_let (fun v125 _ => ?_)
              exact gs123
          · skip
            exact g
        · skip
          refine zRp_let (fun s126 es126 => ?_)
          have gs126 : zRs R s126 := by rw [es126]; exact rf_X3_telling g
          refine zRp_let (fun v127 _ => ?_)
          exact ih _ _ gs126
      · skip
        refine zRp_let (fun v66 _ => ?_)
        refine zRp_if (fun _ => ?_) (fun _ => ?_)
        · skip
          refine zRp_let (fun v81 _ => ?_)
          refine zRp_let (fun s82 es82 => ?_)
          have gs82 : zRs R s82 := by rw [es82]; exact g
          refine zRp_let (fun v85 _ => ?_)
          refine zRp_let (fun s86 es86 => ?_)
          have gs86 : zRs R s86 := by rw [es86]; exact gs82
          refine zRp_let (fun v88 _ => ?_)
          refine zRp_let (fun v89 _ => ?_)
          refine zRp_if (fun _ => ?_) (fun _ => ?_)
          · skip
            refine zRp_let (fun v91 _ => ?_)
            refine zRp_let (fun s92 es92 => ?_)
            have gs92 : zRs R s92 := by rw [es92]; exact gs86
            refine zRp_let (fun v94 _ => ?_)
            exact gs92
          · skip
            refine zRp_let (fun v95 _ => ?_)
            refine zRp_let (fun v96 _ => ?_)
            refine zRp_let (fun v97 _ => ?_)
            refine zRp_let (fun s98 es98 => ?_)
            have gs98 : zRs R s98 := by rw [es98]; exact gs86
            refine zRp_let (fun v100 _ => ?_)
            exact gs98
        · skip
          refine zRp_let (fun v68 _ => ?_)
          refine zRp_let (fun v69 _ => ?_)
          refine zRp_if (fun _ => ?_) (fun _ => ?_)
          · skip
            refine zRp_let (fun v71 _ => ?_)
            refine zRp_let (fun s72 es72 => ?_)
            have gs72 : zRs R s72 := by rw [es72]; exact g
            refine zRp_let (fun v74 _ => ?_)
            exact gs72
          · skip
            refine zRp_let (fun v75 _ => ?_)
            refine zRp_let (fun v76 _ => ?_)
            refine zRp_let (fun v77 _ => ?_)
            refine zRp_let (fun s78 es78 => ?_)
            have gs78 : zRs R s78 := by rw [es78]; exact g
            refine zRp_let (fun v80 _ => ?_)
            exact gs78
end
-- 35a.pure1
section
/-! WHAT IS ALIKE ON BOTH SIDES: the tape's bytes, the tables of words -/
def zSIM (κ : Int) (L1 : List Nat) (kd1 : Nat → Nat) (L2 : List Nat) (kd2 : Nat → Nat) (σ1 σ2 : zS) : Prop :=
  (∀ a b, zT L1 kd1 a 39 → zT L2 kd2 b 101 → ∀ j : Nat, (j : Int) < κ → σ1.1 a j = σ2.1 b j) ∧ (∀ a, zT L1 kd1 a 40 → ∀ j, j < 22 → σ1.2.1 a j = zw32 j) ∧ (∀ b, zT L2 kd2 b 109 → ∀ j, j < 22 → σ2.2.1 b j = zw27 j)
section ZSIM
variable {κ k : Int} {L1 : List Nat} {kd1 : Nat → Nat} {L2 : List Nat} {kd2 : Nat → Nat} {σ1 σ2 τ1 τ2 : zS} {Wk Wr Wf Wa : List Nat} {m0 x0 : Nat}
theorem zSIM.le (h0 : k ≤ κ) (h : zSIM κ L1 kd1 L2 kd2 σ1 σ2) : zSIM k L1 kd1 L2 kd2 σ1 σ2 := ⟨fun a b ha hb j hj => h.1 a b ha hb j (Int.lt_of_lt_of_le hj h0), h.2⟩
theorem zSIM.c (h : zSIM κ L1 kd1 L2 kd2 σ1 σ2) (g : zSm Wk Wr L1 kd1 σ1 τ1) (h1 : Wk.contains 39 = false) (h2 : Wk.contains 40 = false) : zSIM κ L1 kd1 L2 kd2 τ1 σ2 := by
  have n1 : 39 ∉ Wk := fun q => by simp [q] at h1
  have n2 : 40 ∉ Wk := fun q => by simp [q] at h2
  refine ⟨fun a b ha hb j hj => ?_, fun a ha j hj => ?_, h.2.2⟩
  · rw [((g a ha.1).1 (by rw [ha.2]; exact n1)).1]
    exact h.1 a b ha hb j hj
  · rw [((g a ha.1).1 (by rw [ha.2]; exact n2)).2]
    exact h.2.1 a ha j hj
theorem zSIM.m (h : zSIM κ L1 kd1 L2 kd2 σ1 σ2) (g : zSame m0 Wf Wa L2 kd2 σ2 τ2) (h1 : Wa.contains 101 = false) (h2 : Wa.contains 109 = false) : zSIM κ L1 kd1 L2 kd2 σ1 τ2 := by
  have n1 : 101 ∉ Wa := fun q => by simp [q] at h1
  have n2 : 109 ∉ Wa := fun q => by simp [q] at h2
  refine ⟨fun a b ha hb j hj => ?_, h.2.1, fun b hb j hj => ?_⟩
  · rw [(g.1 b hb.1 (by rw [hb.2]; decide) (by rw [hb.2]; exact n1)).1]
    exact h.1 a b ha hb j hj
  · rw [(g.1 b hb.1 (by rw [hb.2]; decide) (by rw [hb.2]; exact n2)).2]
    exact h.2.2 b hb j hj
end ZSIM
/-! simplifying what the functions say -/
/-- one byte put behind the tape -/
def zbp (t fB fS : Nat) (v : Int32) (σ : zS) : zS := (zu (zu σ.1 ((σ.2.2 t fB).getD 0) (σ.1 t fS).toNatClampNeg v) t fS (zu σ.1 ((σ.2.2 t fB).getD 0) (σ.1 t fS).toNatClampNeg v t fS + 1), σ.2.1, σ.2.2)
def zTp (t b fB fS n : Nat) (σ : zS) : Prop := σ.2.2 t fB = some b ∧ b ≠ t ∧ (σ.1 t fS).toInt = n
theorem zbp_s {t b fB fS n : Nat} {v : Int32} {σ : zS} (h : zTp t b fB fS n σ) (h2 : n < 2000) : zTp t b fB fS (n + 1) (zbp t fB fS v σ) ∧ (zbp t fB fS v σ).1 b n = v ∧ ∀ j, j ≠ n → (zbp t fB fS v σ).1 b j = σ.1 b j := by
  obtain ⟨h0, hbt, hn⟩ := h
  have e0 : (σ.2.2 t fB).getD 0 = b := by rw [h0]; rfl
  have e1 : (σ.1 t fS).toNatClampNeg = n := by
    show (σ.1 t fS).toInt.toNat = n
    omega
  have e2 : (1 : Int32).toInt = 1 := by decide
  unfold zbp
  rw [e0, e1, zu_n σ.1 n v (show ¬ t = b from fun z => hbt z.symm)]
  refine ⟨⟨h0, hbt, ?_⟩, ?_, fun j hj => ?_⟩
  · show (zu (zu σ.1 b n v) t fS (σ.1 t fS + 1) t fS).toInt = _
    rw [zu_s, zb_add (by rw [hn, e2]; omega) (by rw [hn, e2]; omega), hn, e2]
    rfl
  · show zu (zu σ.1 b n v) t fS (σ.1 t fS + 1) b n = v
    rw [zu_n _ _ _ hbt, zu_s]
  · show zu (zu σ.1 b n v) t fS (σ.1 t fS + 1) b j = _
    rw [zu_n _ _ _ hbt, zu_j _ _ _ _ _ (fun q => hj q.symm)]
def zby (w : Int32) (s : Int32) : Int32 := vp_nar .byte ((w.toUInt32 >>> (s.toUInt32 &&& Int32.toUInt32 31)).toInt32).toInt8.toInt32
def zbz (w : Int32) (s : Int32) : Int32 := vp_nar .byte (w >>> (s &&& 31)).toInt8.toInt32
theorem zapp {t b n : Nat} {w : Int32} {σ : zS} (h : zTp t b 0 1 n σ) (h2 : n ≤ 1996) : F_X7_append t w σ = (zbp t 0 1 (zby w (24 + (-8) + (-8) + (-8) : Int32)) (zbp t 0 1 (zby w (24 + (-8) + (-8) : Int32)) (zbp t 0 1 (zby w (24 + (-8) : Int32)) (zbp t 0 1 (zby w (24 : Int32)) σ)))) := by
  obtain ⟨R, hR⟩ : ∃ R, R = F_X7_append t w σ := ⟨_, rfl⟩
  have E := hR
  have h0 : (σ.1 t 1).toInt < (2000 : Int32).toInt := by rw [h.2.2]; show ((n + 0 : Nat) : Int) < 2000; omega
  have s1 := zbp_s (v := zby w (24 : Int32)) h (by omega)
  have h1 : ((zbp t 0 1 (zby w (24 : Int32)) σ).1 t 1).toInt < (2000 : Int32).toInt := by rw [s1.1.2.2]; show ((n + 1 : Nat) : Int) < 2000; omega
  have s2 := zbp_s (v := zby w (24 + (-8) : Int32)) s1.1 (by omega)
  have h2 : ((zbp t 0 1 (zby w (24 + (-8) : Int32)) (zbp t 0 1 (zby w (24 : Int32)) σ)).1 t 1).toInt < (2000 : Int32).toInt := by rw [s2.1.2.2]; show ((n + 2 : Nat) : Int) < 2000; omega
  have s3 := zbp_s (v := zby w (24 + (-8) + (-8) : Int32)) s2.1 (by omega)
  have h3 : ((zbp t 0 1 (zby w (24 + (-8) + (-8) : Int32)) (zbp t 0 1 (zby w (24 + (-8) : Int32)) (zbp t 0 1 (zby w (24 : Int32)) σ))).1 t 1).toInt < (2000 : Int32).toInt := by rw [s3.1.2.2]; show ((n + 3 : Nat) : Int) < 2000; omega
  have s4 := zbp_s (v := zby w (24 + (-8) + (-8) + (-8) : Int32)) s3.1 (by omega)
  unfold F_X7_append at E
  replace E := zLet_s rfl E
  replace E := zIf_f (by decide) E
  replace E := zLet_s rfl E
  replace E := zLet_s rfl E
  replace E := zLet_s rfl E
  replace E := zIf_t (h0) E
  replace E := zLet_s rfl E
  replace E := zLet_s rfl E
  replace E := zLet_s rfl E
  replace E := zLet_s rfl E
  replace E := zLet_s rfl E
  replace E := zLet_s rfl E
  replace E := zLet_s rfl E
  replace E := zLet_s rfl E
  replace E := zLet_s (v := (zbp t 0 1 (zby w (24 : Int32)) σ)) rfl E
  replace E := zLet_s rfl E
  replace E := zIf_f (by decide) E
  replace E := zLet_s rfl E
  replace E := zLet_s rfl E
  replace E := zLet_s rfl E
  replace E := zIf_t (h1) E
  replace E := zLet_s rfl E
  replace E := zLet_s rfl E
  replace E := zLet_s rfl E
  replace E := zLet_s rfl E
  replace E := zLet_s rfl E
  replace E := zLet_s rfl E
  replace E := zLet_s rfl E
  replace E := zLet_s rfl E
  replace E := zLet_s (v := (zbp t 0 1 (zby w (24 + (-8) : Int32)) (zbp t 0 1 (zby w (24 : Int32)) σ))) rfl E
  replace E := zLet_s rfl E
  replace E := zIf_f (by decide) E
  replace E := zLet_s rfl E
  replace E := zLet_s rfl E
  replace E := zLet_s rfl E
  replace E := zIf_t (h2) E
  replace E := zLet_s rfl E
  replace E := zLet_s rfl E
  replace E := zLet_s rfl E
  replace E := zLet_s rfl E
  replace E := zLet_s rfl E
  replace E := zLet_s rfl E
  replace E := zLet_s rfl E
  replace E := zLet_s rfl E
  replace E := zLet_s (v := (zbp t 0 1 (zby w (24 + (-8) + (-8) : Int32)) (zbp t 0 1 (zby w (24 + (-8) : Int32)) (zbp t 0 1 (zby w (24 : Int32)) σ)))) rfl E
  replace E := zLet_s rfl E
  replace E := zIf_f (by decide) E
  replace E := zLet_s rfl E
  replace E := zLet_s rfl E
  replace E := zLet_s rfl E
  replace E := zIf_t (h3) E
  replace E := zLet_s rfl E
  replace E := zLet_s rfl E
  replace E := zLet_s rfl E
  replace E := zLet_s rfl E
  replace E := zLet_s rfl E
  replace E := zLet_s rfl E
  replace E := zLet_s rfl E
  replace E := zLet_s rfl E
  replace E := zLet_s (v := (zbp t 0 1 (zby w (24 + (-8) + (-8) + (-8) : Int32)) (zbp t 0 1 (zby w (24 + (-8) + (-8) : Int32)) (zbp t 0 1 (zby w (24 + (-8) : Int32)) (zbp t 0 1 (zby w (24 : Int32)) σ))))) rfl E
  replace E := zLet_s rfl E
  replace E := zIf_t (by decide) E
  exact hR.symm.trans E
theorem zput {t b n : Nat} {w : Int32} {σ : zS} (h : zTp t b 1 2 n σ) (h2 : n ≤ 1996) : F_X11_put t w σ = (zbp t 1 2 (zbz w (24 + (-8) + (-8) + (-8) : Int32)) (zbp t 1 2 (zbz w (24 + (-8) + (-8) : Int32)) (zbp t 1 2 (zbz w (24 + (-8) : Int32)) (zbp t 1 2 (zbz w (24 : Int32)) σ)))) := by
  obtain ⟨R, hR⟩ : ∃ R, R = F_X11_put t w σ := ⟨_, rfl⟩
  have E := hR
  unfold F_X11_put at E
  replace E := zLet_s rfl E
  replace E := zIf_f (by decide) E
  replace E := zLet_s rfl E
  replace E := zLet_s rfl E
  replace E := zLet_s rfl E
  replace E := zLet_s rfl E
  replace E := zLet_s rfl E
  replace E := zLet_s rfl E
  replace E := zLet_s rfl E
  replace E := zLet_s rfl E
  replace E := zLet_s (v := (zbp t 1 2 (zbz w (24 : Int32)) σ)) rfl E
  replace E := zLet_s rfl E
  replace E := zIf_f (by decide) E
  replace E := zLet_s rfl E
  replace E := zLet_s rfl E
  replace E := zLet_s rfl E
  replace E := zLet_s rfl E
  replace E := zLet_s rfl E
  replace E := zLet_s rfl E
  replace E := zLet_s rfl E
  replace E := zLet_s rfl E
  replace E := zLet_s (v := (zbp t 1 2 (zbz w (24 + (-8) : Int32)) (zbp t 1 2 (zbz w (24 : Int32)) σ))) rfl E
  replace E := zLet_s rfl E
  replace E := zIf_f (by decide) E
  replace E := zLet_s rfl E
  replace E := zLet_s rfl E
  replace E := zLet_s rfl E
  replace E := zLet_s rfl E
  replace E := zLet_s rfl E
  replace E := zLet_s rfl E
  replace E := zLet_s rfl E
  replace E := zLet_s rfl E
  replace E := zLet_s (v := (zbp t 1 2 (zbz w (24 + (-8) + (-8) : Int32)) (zbp t 1 2 (zbz w (24 + (-8) : Int32)) (zbp t 1 2 (zbz w (24 : Int32)) σ)))) rfl E
  replace E := zLet_s rfl E
  replace E := zIf_f (by decide) E
  replace E := zLet_s rfl E
  replace E := zLet_s rfl E
  replace E := zLet_s rfl E
  replace E := zLet_s rfl E
  replace E := zLet_s rfl E
  replace E := zLet_s rfl E
  replace E := zLet_s rfl E
  replace E := zLet_s rfl E
  replace E := zLet_s (v := (zbp t 1 2 (zbz w (24 + (-8) + (-8) + (-8) : Int32)) (zbp t 1 2 (zbz w (24 + (-8) + (-8) : Int32)) (zbp t 1 2 (zbz w (24 + (-8) : Int32)) (zbp t 1 2 (zbz w (24 : Int32)) σ))))) rfl E
  replace E := zLet_s rfl E
  replace E := zIf_t (by decide) E
  exact hR.symm.trans E
/-- four bytes more on both sides -/
theorem zsh (w : Int32) : zby w (24 : Int32) = zbz w (24 : Int32) ∧ zby w (24 + (-8) : Int32) = zbz w (24 + (-8) : Int32) ∧ zby w (24 + (-8) + (-8) : Int32) = zbz w (24 + (-8) + (-8) : Int32) ∧ zby w (24 + (-8) + (-8) + (-8) : Int32) = zbz w (24 + (-8) + (-8) + (-8) : Int32) := by
  have k1 : (24 : Int32) + (-8 : Int32) = 16 := by decide
  have k2 : (16 : Int32) + (-8 : Int32) = 8 := by decide
  have k3 : (8 : Int32) + (-8 : Int32) = 0 := by decide
  rw [k1, k2, k3]
  unfold zby zbz
  refine ⟨?_, ?_, ?_, ?_⟩
  all_goals congr 2
  all_goals apply Int8.toBitVec_inj.mp
  all_goals simp
  all_goals
    apply BitVec.eq_of_getLsbD_eq
    intro i hi
    have h1 : i < 32 := by omega
    have h2 : 24 + i < 32 := by omega
    have h3 : 16 + i < 32 := by omega
    have h4 : 8 + i < 32 := by omega
    have h5 : ¬ 32 ≤ i := by omega
    simp only [BitVec.getLsbD_signExtend, BitVec.getLsbD_ushiftRight, BitVec.getLsbD_sshiftRight, hi, h1, h2, h3, h4, h5, decide_true, decide_false, Bool.not_false, Bool.true_and, if_true]
end
-- 35b.pure2
section
/-! THE CUTTING OF A TEXT INTO TOKENS, the class' -/
abbrev zBl (c : Int) : Prop := c = 32 ∨ c = 9 ∨ c = 10 ∨ c = 13
abbrev zLt (c : Int) : Prop := 97 ≤ c ∧ c ≤ 122
abbrev zDg (c : Int) : Prop := 48 ≤ c ∧ c ≤ 57
/-- from a on all is so up to e, and no further -/
def zRun (p : Int → Prop) (b : Nat → Int32) (n a e : Nat) : Prop := a ≤ e ∧ (∀ j, a ≤ j → j < e → j < n ∧ p (b j).toInt) ∧ ¬ (e < n ∧ p (b e).toInt)
theorem zRun.uniq {p : Int → Prop} {b : Nat → Int32} {n a e e' : Nat} (h : zRun p b n a e) (g : zRun p b n a e') : e = e' := by
  rcases Nat.lt_trichotomy e e' with q | q | q
  · exact absurd (g.2.1 e h.1 q) h.2.2
  · exact q
  · exact absurd (h.2.1 e' g.1 q) g.2.2
theorem zp1 {x : Int32} {k : Nat} (h : x.toInt = k) (hk : k < 4000) : (x + (1 : Int32)).toInt = ((k + 1 : Nat) : Int) := by
  have e1 : (1 : Int32).toInt = 1 := by decide
  rw [zb_add (by rw [h, e1]; omega) (by rw [h, e1]; omega), h, e1]
  rfl
theorem zpb_loop {p1 : Nat} {p2 p3 : Int32} {σ : zS} {n a : Nat} (hn : p2.toInt = n) (hn2 : n ≤ 2000) : ∀ (N : Nat) (x : Int32) (k : Nat), x.toInt = k → a ≤ k → k ≤ 2000 → (∀ j, a ≤ j → j < k → j < n ∧ zBl (σ.1 p1 j).toInt) → n - k < N → ∃ e : Int32, F_X8_pastBlanks_2 p1 p2 p3 N x σ = (e, σ) ∧ 0 ≤ e.toInt ∧ e.toInt.toNat ≤ 2000 ∧ zRun zBl (σ.1 p1) n a e.toInt.toNat := by
  intro N
  induction N with
  | zero => intro x k _ _ _ _ h; exact absurd h (by omega)
  | succ N ih =>
    intro x k hx hak hk hb hm
    have hxk : x.toNatClampNeg = k := by rw [ztn, hx]; rfl
    have stop : Unit → ¬ (k < n ∧ zBl (σ.1 p1 k).toInt) → ∃ e : Int32, (x, σ) = (e, σ) ∧ 0 ≤ e.toInt ∧ e.toInt.toNat ≤ 2000 ∧ zRun zBl (σ.1 p1) n a e.toInt.toNat := fun _ q =>
      ⟨x, rfl, by omega, by omega, by rw [show x.toInt.toNat = k by omega]; exact ⟨hak, hb, q⟩⟩
    have go : Unit → k < n → zBl (σ.1 p1 k).toInt → ∃ e : Int32, F_X8_pastBlanks_2 p1 p2 p3 N (x + (1 : Int32)) σ = (e, σ) ∧ 0 ≤ e.toInt ∧ e.toInt.toNat ≤ 2000 ∧ zRun zBl (σ.1 p1) n a e.toInt.toNat := fun _ q1 q2 =>
      ih (x + (1 : Int32)) (k + 1) (zp1 hx (by omega)) (by omega) (by omega) (fun j h1 h2 => by
        by_cases hj : j = k
        · subst hj; exact ⟨q1, q2⟩
        · exact hb j h1 (by omega)) (by omega)
    rw [F_X8_pastBlanks_2]
    simp only [zlt, hxk]
    by_cases c0 : x.toInt < p2.toInt
    · rw [if_pos c0]
      have c1 : k < n := by omega
      by_cases d1 : (σ.1 p1 k).toInt = (32 : Int32).toInt
      · rw [if_pos d1]; exact go () c1 (Or.inl d1)
      rw [if_neg d1]
      by_cases d2 : (σ.1 p1 k).toInt = (9 : Int32).toInt
      · rw [if_pos d2]; exact go () c1 (Or.inr (Or.inl d2))
      rw [if_neg d2]
      by_cases d3 : (σ.1 p1 k).toInt = (10 : Int32).toInt
      · rw [if_pos d3]; exact go () c1 (Or.inr (Or.inr (Or.inl d3)))
      rw [if_neg d3]
      by_cases d4 : (σ.1 p1 k).toInt = (13 : Int32).toInt
      · rw [if_pos d4]; exact go () c1 (Or.inr (Or.inr (Or.inr d4)))
      rw [if_neg d4]
      exact stop () (fun q => by rcases q.2 with z | z | z | z; exact d1 z; exact d2 z; exact d3 z; exact d4 z)
    · rw [if_neg c0]
      exact stop () (fun q => by omega)
theorem zpb {p1 : Nat} {p2 p3 : Int32} {σ : zS} {n a : Nat} (hn : p2.toInt = n) (hn2 : n ≤ 2000) (ha : p3.toInt = a) (ha2 : a ≤ 2000) : ∃ e : Int32, F_X8_pastBlanks p1 p2 p3 σ = (e, σ) ∧ 0 ≤ e.toInt ∧ e.toInt.toNat ≤ 2000 ∧ zRun zBl (σ.1 p1) n a e.toInt.toNat :=
  zpb_loop hn hn2 10000 p3 a ha (Nat.le_refl _) ha2 (fun j h1 h2 => absurd h2 (by omega)) (by omega)
theorem zisL (c : Int32) : F_X8_isLetter c = if 97 ≤ c.toInt ∧ c.toInt ≤ 122 then 1 else 0 := by
  have e1 : (97 : Int32).toInt = 97 := by decide
  have e2 : (122 : Int32).toInt = 122 := by decide
  unfold F_X8_isLetter
  simp only [zlt, e1, e2]
  by_cases h1 : c.toInt < 97
  · rw [if_pos h1, if_neg (by omega)]
  · rw [if_neg h1]
    by_cases h2 : 122 < c.toInt
    · rw [if_pos h2, if_neg (by omega)]
    · rw [if_neg h2, if_pos (by omega)]
theorem zisD (c : Int32) : F_X8_isDigit c = if 48 ≤ c.toInt ∧ c.toInt ≤ 57 then 1 else 0 := by
  have e1 : (48 : Int32).toInt = 48 := by decide
  have e2 : (57 : Int32).toInt = 57 := by decide
  unfold F_X8_isDigit
  simp only [zlt, e1, e2]
  by_cases h1 : c.toInt < 48
  · rw [if_pos h1, if_neg (by omega)]
  · rw [if_neg h1]
    by_cases h2 : 57 < c.toInt
    · rw [if_pos h2, if_neg (by omega)]
    · rw [if_neg h2, if_pos (by omega)]
theorem zL1 {c : Int32} : ((F_X8_isLetter c).toInt = 0) = ¬ zLt c.toInt := by
  rw [zisL]
  unfold zLt
  split
  · next h => simp [h, show (1 : Int32).toInt = 1 from by decide]
  · next h => simp [h]
theorem zD1 {c : Int32} : ((F_X8_isDigit c).toInt = 0) = ¬ zDg c.toInt := by
  rw [zisD]
  unfold zDg
  split
  · next h => simp [h, show (1 : Int32).toInt = 1 from by decide]
  · next h => simp [h]
/-- a word's letters, 1 .. 26 -/
def zwd (b : Nat → Int32) (a : Nat) : Nat → List Int
  | 0 => []
  | k + 1 => zwd b a k ++ [(b (a + k)).toInt - 96]
theorem zvb_snoc (b : Int) (l : List Int) (c : Int) : zvb b (l ++ [c]) = zvb b l * b + c := by
  unfold zvb
  rw [List.foldl_append]
  rfl
theorem zwL {x : Int64} {c : Int32} {l : List Int} (hx : x = Int64.ofInt (zvb 32 l)) (hc : zLt c.toInt) : F_X8_withLetter x c = Int64.ofInt (zvb 32 (l ++ [c.toInt - 96])) := by
  have e1 : (97 : Int32).toInt = 97 := by decide
  have e2 : (1 : Int32).toInt = 1 := by decide
  have h1 : (c - (97 : Int32) + (1 : Int32)).toInt = c.toInt - 96 := by
    have h2 : (c - (97 : Int32)).toInt = c.toInt - 97 := by
      rw [zb_sub (by rw [e1]; have := hc.1; omega) (by rw [e1]; have := hc.2; omega), e1]
    rw [zb_add (by rw [h2, e2]; have := hc.1; omega) (by rw [h2, e2]; have := hc.2; omega), h2, e2]
    omega
  unfold F_X8_withLetter
  simp only [zlt]
  have h3 : (c - (97 : Int32) + (1 : Int32)).toInt64 = Int64.ofInt (c.toInt - 96) := by
    rw [← Int64.ofInt_toInt ((c - (97 : Int32) + (1 : Int32)).toInt64), Int32.toInt_toInt64, h1]
  rw [zvb_snoc, Int64.ofInt_add, Int64.ofInt_mul, ← hx, h3]
  rfl
theorem zcmp0 (x y : Int64) : ((lg_cmp x y).toInt = 0) = (x = y) := by
  unfold lg_cmp
  by_cases h1 : x > y
  · rw [if_pos h1]
    refine propext ⟨fun h => absurd h (by decide), fun h => ?_⟩
    subst h
    exact absurd h1 (by simp)
  · rw [if_neg h1]
    by_cases h2 : x = y
    · rw [if_pos h2]
      exact propext ⟨fun _ => h2, fun _ => by decide⟩
    · rw [if_neg h2]
      exact propext ⟨fun h => absurd h (by decide), fun h => absurd h h2⟩
/-- which word it is; 22: none -/
def zKw (W : Nat → Int64) (x : Int64) (v : Int) : Prop := (v = 22 ∧ ∀ i, i < 22 → W i ≠ x) ∨ ∃ i : Nat, i < 22 ∧ v = i ∧ W i = x
theorem zkO_loop {a0 w : Nat} {x : Int64} {σ : zS} (hw : σ.2.2 a0 0 = some w) : ∀ (N : Nat) (i q : Int32) (k : Nat), i.toInt = k → k ≤ 22 → ((q.toInt = 22 ∧ ∀ j, j < k → σ.2.1 w j ≠ x) ∨ ∃ j : Nat, j < k ∧ q.toInt = j ∧ σ.2.1 w j = x) → 22 - k < N → ∃ v : Int32, F_X8_kindOf_6 a0 x N i q σ = (v, σ) ∧ zKw (σ.2.1 w) x v.toInt := by
  intro N
  induction N with
  | zero => intro i q k _ _ _ h; exact absurd h (by omega)
  | succ N ih =>
    intro i q k hi hk hq hm
    have e22 : (22 : Int32).toInt = 22 := by decide
    have hik : i.toNatClampNeg = k := by rw [ztn, hi]; rfl
    have hwd : (σ.2.2 a0 0).getD 0 = w := by rw [hw]; rfl
    rw [F_X8_kindOf_6]
    simp only [zlt, e22, hwd, hik, zcmp0]
    by_cases c0 : i.toInt < 22
    · rw [if_pos c0]
      by_cases c1 : σ.2.1 w k = x
      · rw [if_pos c1]
        exact ih _ _ (k + 1) (zp1 hi (by omega)) (by omega) (Or.inr ⟨k, by omega, hi, c1⟩) (by omega)
      · rw [if_neg c1]
        refine ih _ _ (k + 1) (zp1 hi (by omega)) (by omega) ?_ (by omega)
        rcases hq with ⟨h1, h2⟩ | ⟨j, h1, h2, h3⟩
        · refine Or.inl ⟨h1, fun j hj => ?_⟩
          by_cases hjk : j = k
          · subst hjk; exact c1
          · exact h2 j (by omega)
        · exact Or.inr ⟨j, by omega, h2, h3⟩
    · rw [if_neg c0]
      have hk2 : k = 22 := by omega
      subst hk2
      refine ⟨q, rfl, ?_⟩
      rcases hq with ⟨h1, h2⟩ | ⟨j, h1, h2, h3⟩
      · exact Or.inl ⟨h1, h2⟩
      · exact Or.inr ⟨j, h1, h2, h3⟩
theorem zkO {a0 w : Nat} {x : Int64} {σ : zS} (hw : σ.2.2 a0 0 = some w) : ∃ v : Int32, F_X8_kindOf a0 x σ = (v, σ) ∧ zKw (σ.2.1 w) x v.toInt := by
  unfold F_X8_kindOf
  simp only [zlt]
  exact zkO_loop hw 10000 0 22 0 (by decide) (by omega) (Or.inl ⟨by decide, fun j hj => absurd hj (by omega)⟩) (by omega)
/-- the number of the letters from a to e, as the class keeps it -/
def zlv (b : Nat → Int32) (a e : Nat) : Int64 := if e - a ≤ 8 then Int64.ofInt (zvb 32 (zwd b a (e - a))) else Int64.ofNat 0
noncomputable def zaLf (a0 : Nat) (p3 x2 : Int32) (x3 : Int64) (σ : zS) : Int32 × zS :=
  if (8 : Int32).toInt < (x2 - p3).toInt then (x2, F_X8_add a0 (34 : Int32) x3 p3 σ) else (x2, F_X8_add a0 (F_X8_kindOf a0 x3 σ).1 x3 p3 (F_X8_kindOf a0 x3 σ).2)
theorem zaL_loop {a0 p1 : Nat} {p2 p3 : Int32} {σ : zS} {n a : Nat} (hn : p2.toInt = n) (hn2 : n ≤ 2000) (ha : p3.toInt = a) : ∀ (N : Nat) (x : Int32) (k : Nat), x.toInt = k → a ≤ k → k ≤ n → (∀ j, a ≤ j → j < k → j < n ∧ zLt (σ.1 p1 j).toInt) → n - k < N → ∃ (e : Nat) (ex : Int32), ex.toInt = e ∧ e ≤ n ∧ zRun zLt (σ.1 p1) n a e ∧ F_X8_addLetters_6 a0 p1 p2 p3 N x (zlv (σ.1 p1) a k) σ = zaLf a0 p3 ex (zlv (σ.1 p1) a e) σ := by
  intro N
  induction N with
  | zero => intro x k _ _ _ _ h; exact absurd h (by omega)
  | succ N ih =>
    intro x k hx hak hkn hb hm
    have hxk : x.toNatClampNeg = k := by rw [ztn, hx]; rfl
    have e8 : (8 : Int32).toInt = 8 := by decide
    have hd : (x - p3).toInt = ((k - a : Nat) : Int) := by rw [zb_sub (by omega) (by omega)]; omega
    have stop : Unit → ¬ (k < n ∧ zLt (σ.1 p1 k).toInt) → ∃ (e : Nat) (ex : Int32), ex.toInt = e ∧ e ≤ n ∧ zRun zLt (σ.1 p1) n a e ∧ zaLf a0 p3 x (zlv (σ.1 p1) a k) σ = zaLf a0 p3 ex (zlv (σ.1 p1) a e) σ := fun _ q => ⟨k, x, hx, hkn, ⟨hak, hb, q⟩, rfl⟩
    rw [F_X8_addLetters_6]
    simp only [zlt, zlt2, hxk, zL1]
    by_cases c0 : x.toInt < p2.toInt
    · rw [if_pos c0]
      by_cases c1 : zLt (σ.1 p1 k).toInt
      · rw [if_neg (fun z => z c1)]
        have nx := fun (_ : Unit) => ih (x + (1 : Int32)) (k + 1) (zp1 hx (by omega)) (by omega) (by omega) (fun j h1 h2 => by
          by_cases hj : j = k
          · subst hj; exact ⟨by omega, c1⟩
          · exact hb j h1 (by omega)) (by omega)
        by_cases c2 : (x - p3).toInt < (8 : Int32).toInt
        · rw [if_pos c2]
          have hl : F_X8_withLetter (zlv (σ.1 p1) a k) (σ.1 p1 k) = zlv (σ.1 p1) a (k + 1) := by
            unfold zlv
            rw [if_pos (by omega), if_pos (by omega), zwL rfl c1, show k + 1 - a = (k - a) + 1 by omega, zwd, show a + (k - a) = k by omega]
          rw [hl]
          exact nx ()
        · rw [if_neg c2]
          have hl : zlv (σ.1 p1) a (k + 1) = Int64.ofNat 0 := by
            unfold zlv
            rw [if_neg (by omega)]
          have nx2 := nx ()
          rw [hl] at nx2
          exact nx2
      · rw [if_pos c1]
        exact stop () (fun q => c1 q.2)
    · rw [if_neg c0]
      exact stop () (fun q => by omega)
theorem zaL {a0 p1 w : Nat} {p2 p3 : Int32} {σ : zS} {n a : Nat} (hn : p2.toInt = n) (hn2 : n ≤ 2000) (ha : p3.toInt = a) (han : a ≤ n) (hw : σ.2.2 a0 0 = some w) : ∃ (e : Nat) (ex K : Int32), ex.toInt = e ∧ e ≤ n ∧ zRun zLt (σ.1 p1) n a e ∧ ((8 < e - a ∧ K.toInt = 34) ∨ (e - a ≤ 8 ∧ zKw (σ.2.1 w) (zlv (σ.1 p1) a e) K.toInt)) ∧ F_X8_addLetters a0 p1 p2 p3 σ = (ex, F_X8_add a0 K (zlv (σ.1 p1) a e) p3 σ) := by
  obtain ⟨e, ex, h1, h2, h3, h4⟩ := zaL_loop (a0 := a0) (p1 := p1) (σ := σ) hn hn2 ha 10000 p3 a ha (Nat.le_refl _) han (fun j h1 h2 => absurd h2 (by omega)) (by omega)
  have h0 : zlv (σ.1 p1) a a = Int64.ofNat 0 := by
    unfold zlv
    rw [if_pos (by omega), Nat.sub_self]
    rfl
  rw [h0] at h4
  have h5 : F_X8_addLetters a0 p1 p2 p3 σ = zaLf a0 p3 ex (zlv (σ.1 p1) a e) σ := h4
  have e8 : (8 : Int32).toInt = 8 := by decide
  have hae := h3.1
  have hd : (ex - p3).toInt = ((e - a : Nat) : Int) := by rw [zb_sub (by omega) (by omega)]; omega
  unfold zaLf at h5
  by_cases c : 8 < e - a
  · rw [if_pos (by rw [e8, hd]; omega)] at h5
    exact ⟨e, ex, 34, h1, h2, h3, Or.inl ⟨c, by decide⟩, h5⟩
  · rw [if_neg (by rw [e8, hd]; omega)] at h5
    obtain ⟨v, hv, hk⟩ := zkO (x := zlv (σ.1 p1) a e) hw
    rw [hv] at h5
    exact ⟨e, ex, v, h1, h2, h3, Or.inr ⟨by omega, hk⟩, h5⟩
/-- the number of the digits from a on, k of them -/
def zdv (b : Nat → Int32) (a : Nat) : Nat → Int
  | 0 => 0
  | k + 1 => zdv b a k * 10 + ((b (a + k)).toInt - 48)
theorem zdv_b {b : Nat → Int32} {a : Nat} : ∀ k, k ≤ 4 → (∀ j, j < k → zDg (b (a + j)).toInt) → 0 ≤ zdv b a k ∧ zdv b a k ≤ 9999 ∧ (k = 0 → zdv b a k = 0) ∧ (k ≤ 1 → zdv b a k ≤ 9) ∧ (k ≤ 2 → zdv b a k ≤ 99) ∧ (k ≤ 3 → zdv b a k ≤ 999) := by
  intro k
  induction k with
  | zero => intro _ _; simp [zdv]
  | succ k ih =>
    intro hk hd
    have q := ih (by omega) (fun j hj => hd j (by omega))
    have h := hd k (by omega)
    unfold zDg at h
    have e : zdv b a (k + 1) = zdv b a k * 10 + ((b (a + k)).toInt - 48) := rfl
    rw [e]
    obtain ⟨q1, q2, q3, q4, q5, q6⟩ := q
    refine ⟨by omega, ?_, fun z => absurd z (by omega), fun z => ?_, fun z => ?_, fun z => ?_⟩
    · have := q6 (by omega); omega
    · have := q3 (by omega); omega
    · have := q4 (by omega); omega
    · have := q5 (by omega); omega
def zdl (b : Nat → Int32) (a e : Nat) : Int := if e - a ≤ 4 then zdv b a (e - a) else 0
noncomputable def zaDf (a0 : Nat) (p3 x2 x3 : Int32) (σ : zS) : Int32 × zS :=
  if (4 : Int32).toInt < (x2 - p3).toInt then (x2, F_X8_add a0 (34 : Int32) x3.toInt64 p3 σ) else (x2, F_X8_add a0 (23 : Int32) x3.toInt64 p3 σ)
theorem zaD_loop {a0 p1 : Nat} {p2 p3 : Int32} {σ : zS} {n a : Nat} (hn : p2.toInt = n) (hn2 : n ≤ 2000) (ha : p3.toInt = a) : ∀ (N : Nat) (x y : Int32) (k : Nat), x.toInt = k → a ≤ k → k ≤ n → (∀ j, a ≤ j → j < k → j < n ∧ zDg (σ.1 p1 j).toInt) → y.toInt = zdl (σ.1 p1) a k → n - k < N → ∃ (e : Nat) (ex ey : Int32), ex.toInt = e ∧ e ≤ n ∧ zRun zDg (σ.1 p1) n a e ∧ ey.toInt = zdl (σ.1 p1) a e ∧ F_X8_addDigits_6 a0 p1 p2 p3 N x y σ = zaDf a0 p3 ex ey σ := by
  intro N
  induction N with
  | zero => intro x y k _ _ _ _ _ h; exact absurd h (by omega)
  | succ N ih =>
    intro x y k hx hak hkn hb hy hm
    have hxk : x.toNatClampNeg = k := by rw [ztn, hx]; rfl
    have e4 : (4 : Int32).toInt = 4 := by decide
    have hd : (x - p3).toInt = ((k - a : Nat) : Int) := by rw [zb_sub (by omega) (by omega)]; omega
    have stop : Unit → ¬ (k < n ∧ zDg (σ.1 p1 k).toInt) → ∃ (e : Nat) (ex ey : Int32), ex.toInt = e ∧ e ≤ n ∧ zRun zDg (σ.1 p1) n a e ∧ ey.toInt = zdl (σ.1 p1) a e ∧ zaDf a0 p3 x y σ = zaDf a0 p3 ex ey σ := fun _ q => ⟨k, x, y, hx, hkn, ⟨hak, hb, q⟩, hy, rfl⟩
    rw [F_X8_addDigits_6]
    simp only [zlt, hxk, zD1]
    by_cases c0 : x.toInt < p2.toInt
    · rw [if_pos c0]
      by_cases c1 : zDg (σ.1 p1 k).toInt
      · rw [if_neg (fun z => z c1)]
        have nx := fun y2 hy2 => ih (x + (1 : Int32)) y2 (k + 1) (zp1 hx (by omega)) (by omega) (by omega) (fun j h1 h2 => by
          by_cases hj : j = k
          · subst hj; exact ⟨by omega, c1⟩
          · exact hb j h1 (by omega)) hy2 (by omega)
        by_cases c2 : (x - p3).toInt < (4 : Int32).toInt
        · rw [if_pos c2]
          refine nx _ ?_
          have q := zdv_b (b := σ.1 p1) (a := a) (k - a) (by omega) (fun j hj => (hb (a + j) (by omega) (by omega)).2)
          unfold zdl at hy ⊢
          rw [if_pos (by omega)] at hy
          rw [if_pos (by omega), show k + 1 - a = (k - a) + 1 by omega, zdv, show a + (k - a) = k by omega, ← hy]
          rw [← hy] at q
          unfold zDg at c1
          have e10 : (10 : Int32).toInt = 10 := by decide
          have e48 : (48 : Int32).toInt = 48 := by decide
          have m1 : (y * (10 : Int32)).toInt = y.toInt * 10 := by rw [Int32.toInt_mul, e10, Int.bmod_eq_of_le (by omega) (by omega)]
          have m2 : (σ.1 p1 k - (48 : Int32)).toInt = (σ.1 p1 k).toInt - 48 := by rw [zb_sub (by rw [e48]; omega) (by rw [e48]; omega), e48]
          rw [zb_add (by rw [m1, m2]; omega) (by rw [m1, m2]; omega), m1, m2]
        · rw [if_neg c2]
          refine nx _ ?_
          unfold zdl
          rw [if_neg (by omega)]
          decide
      · rw [if_pos c1]
        exact stop () (fun q => c1 q.2)
    · rw [if_neg c0]
      exact stop () (fun q => by omega)
theorem zaD {a0 p1 : Nat} {p2 p3 : Int32} {σ : zS} {n a : Nat} (hn : p2.toInt = n) (hn2 : n ≤ 2000) (ha : p3.toInt = a) (han : a ≤ n) : ∃ (e : Nat) (ex ey K : Int32), ex.toInt = e ∧ e ≤ n ∧ zRun zDg (σ.1 p1) n a e ∧ ((4 < e - a ∧ K.toInt = 34) ∨ (e - a ≤ 4 ∧ K.toInt = 23 ∧ ey.toInt = zdv (σ.1 p1) a (e - a))) ∧ F_X8_addDigits a0 p1 p2 p3 σ = (ex, F_X8_add a0 K ey.toInt64 p3 σ) := by
  obtain ⟨e, ex, ey, h1, h2, h3, h6, h4⟩ := zaD_loop (a0 := a0) (p1 := p1) (σ := σ) hn hn2 ha 10000 p3 0 a ha (Nat.le_refl _) han (fun j h1 h2 => absurd h2 (by omega)) (by unfold zdl; rw [if_pos (by omega), Nat.sub_self]; rfl) (by omega)
  have h5 : F_X8_addDigits a0 p1 p2 p3 σ = zaDf a0 p3 ex ey σ := h4
  have e4 : (4 : Int32).toInt = 4 := by decide
  have hae := h3.1
  have hd : (ex - p3).toInt = ((e - a : Nat) : Int) := by rw [zb_sub (by omega) (by omega)]; omega
  unfold zaDf at h5
  by_cases c : 4 < e - a
  · rw [if_pos (by rw [e4, hd]; omega)] at h5
    exact ⟨e, ex, ey, 34, h1, h2, h3, Or.inl ⟨c, by decide⟩, h5⟩
  · rw [if_neg (by rw [e4, hd]; omega)] at h5
    exact ⟨e, ex, ey, 23, h1, h2, h3, Or.inr ⟨by omega, by decide, by rw [h6]; unfold zdl; rw [if_pos (by omega)]⟩, h5⟩
end
-- 35c.pure3
section
/-! the class' tokens, one by one -/
def zsg (c : Int) : Int := if c = 59 then 24 else if c = 61 then 25 else if c = 43 then 26 else if c = 45 then 27 else if c = 42 then 28 else if c = 47 then 29 else if c = 60 then 30 else if c = 40 then 31 else if c = 41 then 32 else 34
def zCT (b : Nat → Int32) (n : Nat) (W : Nat → Int64) (a : Nat) (K : Int) (V : Int64) (Q : Int) (e : Nat) : Prop :=
  ∃ s, zRun zBl b n a s ∧ Q = s ∧ s ≤ n ∧ ((s = n ∧ K = 33 ∧ e = s) ∨ (s < n ∧ zLt (b s).toInt ∧ zRun zLt b n s e ∧ V = zlv b s e ∧ ((8 < e - s ∧ K = 34) ∨ (e - s ≤ 8 ∧ zKw W V K))) ∨ (s < n ∧ zDg (b s).toInt ∧ zRun zDg b n s e ∧ ((4 < e - s ∧ K = 34) ∨ (e - s ≤ 4 ∧ K = 23 ∧ ∃ y : Int32, V = y.toInt64 ∧ y.toInt = zdv b s (e - s)))) ∨ (s < n ∧ ¬ zLt (b s).toInt ∧ ¬ zDg (b s).toInt ∧ e = s + 1 ∧ K = zsg (b s).toInt))
/-- where the class' tokens lie: the row of kinds, of values, of places -/
def zAd (t k v q : Nat) (σ : zS) (n : Nat) (K : Int32) (V : Int64) (Q : Int32) : zS := (zu (zu (zu σ.1 k n K) q n Q) t 4 (σ.1 t 4 + 1), zu σ.2.1 v n V, σ.2.2)
def zTl (t w k v q : Nat) (σ : zS) : Prop := σ.2.2 t 0 = some w ∧ σ.2.2 t 1 = some k ∧ σ.2.2 t 2 = some v ∧ σ.2.2 t 3 = some q
theorem zadd {t w k v q n : Nat} {K : Int32} {V : Int64} {Q : Int32} {σ : zS} (hl : zTl t w k v q σ) (hk : k ≠ t) (hq : q ≠ t) (hn : (σ.1 t 4).toInt = n) (hn2 : n < 402) : F_X8_add t K V Q σ = zAd t k v q σ n K V Q := by
  obtain ⟨-, h1, h2, h3⟩ := hl
  have e1 : (σ.2.2 t 1).getD 0 = k := by rw [h1]; rfl
  have e2 : (σ.2.2 t 2).getD 0 = v := by rw [h2]; rfl
  have e3 : (σ.2.2 t 3).getD 0 = q := by rw [h3]; rfl
  have en : (σ.1 t 4).toNatClampNeg = n := by rw [ztn, hn]; rfl
  have e402 : (402 : Int32).toInt = 402 := by decide
  unfold F_X8_add zAd
  simp only [zlt, e1, e2, e3, e402]
  rw [if_pos (by omega)]
  have r1 : zu σ.1 k n K t 4 = σ.1 t 4 := by rw [zu_n _ _ _ (fun z => hk z.symm)]
  have r2 : zu (zu σ.1 k n K) q n Q t 4 = σ.1 t 4 := by rw [zu_n _ _ _ (fun z => hq z.symm), r1]
  simp only [en, r1, r2]
theorem zidx : ∀ c : Int32, 0 < c.toInt → c.toInt ≤ 127 → ((F_J0_indexOf_0f7a4 1 ((c.toUInt32 % 65536).toInt32)).toInt < 0 ∧ zsg c.toInt = 34) ∨ (0 ≤ (F_J0_indexOf_0f7a4 1 ((c.toUInt32 % 65536).toInt32)).toInt ∧ (F_J0_indexOf_0f7a4 1 ((c.toUInt32 % 65536).toInt32)).toInt ≤ 8 ∧ zsg c.toInt = 24 + (F_J0_indexOf_0f7a4 1 ((c.toUInt32 % 65536).toInt32)).toInt) := by
  intro c h0 h1
  have key : ∀ k : Fin 128, 0 < k.val → ((F_J0_indexOf_0f7a4 1 (((Int32.ofNat k.val).toUInt32 % 65536).toInt32)).toInt < 0 ∧ zsg (Int32.ofNat k.val).toInt = 34) ∨ (0 ≤ (F_J0_indexOf_0f7a4 1 (((Int32.ofNat k.val).toUInt32 % 65536).toInt32)).toInt ∧ (F_J0_indexOf_0f7a4 1 (((Int32.ofNat k.val).toUInt32 % 65536).toInt32)).toInt ≤ 8 ∧ zsg (Int32.ofNat k.val).toInt = 24 + (F_J0_indexOf_0f7a4 1 (((Int32.ofNat k.val).toUInt32 % 65536).toInt32)).toInt) := by decide +kernel
  have e : c = Int32.ofNat c.toInt.toNat := by
    apply Int32.toInt_inj.mp
    have := nI_toInt (n := c.toInt.toNat) (by omega)
    unfold nI at this
    rw [this]
    omega
  have q := key ⟨c.toInt.toNat, by omega⟩ (by show 0 < c.toInt.toNat; omega)
  rw [← e] at q
  exact q
/-- what follows behind a token -/
noncomputable def zSt (t p1 : Nat) (p2 : Int32) (N : Nat) (i e : Int32) (σ : zS) : zS :=
  if 0 < (σ.1 t 4).toInt then (if (σ.1 ((σ.2.2 t 1).getD 0) (σ.1 t 4 - (1 : Int32)).toNatClampNeg).toInt < (33 : Int32).toInt then F_X8_scan_13 t p1 p2 N (i + (1 : Int32)) 1 e σ else F_X8_scan_13 t p1 p2 N (i + (1 : Int32)) 0 e σ) else F_X8_scan_13 t p1 p2 N (i + (1 : Int32)) 0 e σ
theorem zsc_step {t p1 w k v q n a m : Nat} {p2 i go at_ : Int32} {σ : zS} {N : Nat} (hl : zTl t w k v q σ) (hk : k ≠ t) (hq : q ≠ t) (hn : p2.toInt = n) (hn2 : n ≤ 2000) (hi : i.toInt ≤ 400) (hgo : go.toInt ≠ 0) (ha : at_.toInt = a) (han : a ≤ n) (hm : (σ.1 t 4).toInt = m) (hm2 : m < 402) (hby : ∀ j, -128 ≤ (σ.1 p1 j).toInt ∧ (σ.1 p1 j).toInt ≤ 127) :
    ∃ (K : Int32) (V : Int64) (Q e : Int32) (en : Nat), e.toInt = en ∧ en ≤ n ∧ zCT (σ.1 p1) n (σ.2.1 w) a K.toInt V Q.toInt en ∧ (K.toInt < 33 → a < en) ∧ F_X8_scan_13 t p1 p2 (N + 1) i go at_ σ = zSt t p1 p2 N i e (zAd t k v q σ m K V Q) := by
  obtain ⟨x, hx, hx0, hx1, hr⟩ := zpb (p1 := p1) (σ := σ) hn hn2 ha (by omega)
  obtain ⟨s, hs⟩ : ∃ s : Nat, s = x.toInt.toNat := ⟨_, rfl⟩
  rw [← hs] at hr
  have hxs : x.toInt = s := by omega
  have hsn : s ≤ n := by
    rcases Nat.lt_or_ge n s with z | z
    · have := (hr.2.1 n (by omega) z).1; omega
    · exact z
  have has := hr.1
  have e400 : (400 : Int32).toInt = 400 := by decide
  have hxi : x.toNatClampNeg = s := by rw [ztn, hxs]; rfl
  rw [F_X8_scan_13]
  simp only [zlt, zlt2, hx, hxi, zL1, zD1]
  rw [if_neg (by rw [e400]; omega), if_neg hgo]
  by_cases c0 : x.toInt < p2.toInt
  · rw [if_pos c0, if_pos c0]
    have c1 : s < n := by omega
    by_cases c2 : zLt (σ.1 p1 s).toInt
    · rw [if_neg (fun z => z c2)]
      obtain ⟨e, ex, K, h1, h2, h3, h4, h5⟩ := zaL (a0 := t) (p1 := p1) (σ := σ) hn hn2 hxs hsn hl.1
      rw [h5, zadd hl hk hq hm hm2]
      have hse : s < e := by
        rcases Nat.lt_or_ge s e with z | z
        · exact z
        · have : e = s := Nat.le_antisymm z h3.1
          subst this
          exact absurd ⟨c1, c2⟩ h3.2.2
      exact ⟨K, _, x, ex, e, h1, h2, ⟨s, hr, hxs, hsn, Or.inr (Or.inl ⟨c1, c2, h3, rfl, h4⟩)⟩, fun _ => by omega, rfl⟩
    · rw [if_pos c2]
      by_cases c3 : zDg (σ.1 p1 s).toInt
      · rw [if_neg (fun z => z c3)]
        obtain ⟨e, ex, ey, K, h1, h2, h3, h4, h5⟩ := zaD (a0 := t) (p1 := p1) (σ := σ) hn hn2 hxs hsn
        rw [h5, zadd hl hk hq hm hm2]
        have hse : s < e := by
          rcases Nat.lt_or_ge s e with z | z
          · exact z
          · have : e = s := Nat.le_antisymm z h3.1
            subst this
            exact absurd ⟨c1, c3⟩ h3.2.2
        refine ⟨K, _, x, ex, e, h1, h2, ⟨s, hr, hxs, hsn, Or.inr (Or.inr (Or.inl ⟨c1, c3, h3, ?_⟩))⟩, fun _ => by omega, rfl⟩
        rcases h4 with ⟨z1, z2⟩ | ⟨z1, z2, z3⟩
        · exact Or.inl ⟨z1, z2⟩
        · exact Or.inr ⟨z1, z2, ey, rfl, z3⟩
      · rw [if_pos c3]
        have he := zp1 hxs (by omega)
        have mk : ∀ K : Int32, K.toInt = zsg (σ.1 p1 s).toInt → zCT (σ.1 p1) n (σ.2.1 w) a K.toInt (Int64.ofNat 0) x.toInt (s + 1) := fun K hK => ⟨s, hr, hxs, hsn, Or.inr (Or.inr (Or.inr ⟨c1, c2, c3, rfl, hK⟩))⟩
        by_cases c4 : 0 < (σ.1 p1 s).toInt
        · rw [if_pos c4]
          rcases zidx (σ.1 p1 s) c4 (hby s).2 with ⟨h1, h2⟩ | ⟨h1, h2, h3⟩
          · rw [if_pos h1, zadd hl hk hq hm hm2]
            exact ⟨34, _, x, _, s + 1, he, by omega, mk 34 (by rw [h2]; decide), fun _ => by omega, rfl⟩
          · rw [if_neg (by omega), zadd hl hk hq hm hm2]
            have e24 : (24 : Int32).toInt = 24 := by decide
            exact ⟨_, _, x, _, s + 1, he, by omega, mk _ (by rw [zb_add (by rw [e24]; omega) (by rw [e24]; omega), e24, h3]), fun _ => by omega, rfl⟩
        · rw [if_neg c4]
          have e1 : (-1 : Int32).toInt = -1 := by decide
          rw [if_pos (by rw [e1]; decide), zadd hl hk hq hm hm2]
          refine ⟨34, _, x, _, s + 1, he, by omega, mk 34 ?_, fun _ => by omega, rfl⟩
          unfold zsg
          rw [if_neg (by omega), if_neg (by omega), if_neg (by omega), if_neg (by omega), if_neg (by omega), if_neg (by omega), if_neg (by omega), if_neg (by omega), if_neg (by omega)]
          decide
  · rw [if_neg c0, if_neg c0, zadd hl hk hq hm hm2]
    exact ⟨33, _, p2, x, s, hxs, hsn, ⟨s, hr, by omega, hsn, Or.inl ⟨by omega, by decide, rfl⟩⟩, fun z => absurd z (by decide), rfl⟩
/-- the tokens that lie there: m of them -/
def zTk (b : Nat → Int32) (n : Nat) (W : Nat → Int64) (k v q : Nat) (σ : zS) (m : Nat) (E : Nat → Nat) : Prop :=
  E 0 = 0 ∧ (∀ j, j < m → zCT b n W (E j) (σ.1 k j).toInt (σ.2.1 v j) (σ.1 q j).toInt (E (j + 1)) ∧ E (j + 1) ≤ n ∧ ((σ.1 k j).toInt < 33 → E j < E (j + 1))) ∧ ∀ j, j + 1 < m → (σ.1 k j).toInt < 33
def zFs3 (t k v q : Nat) (σ σ' : zS) : Prop := σ'.2.2 = σ.2.2 ∧ (∀ a, a ≠ t → a ≠ k → a ≠ q → σ'.1 a = σ.1 a) ∧ (∀ a, a ≠ v → σ'.2.1 a = σ.2.1 a) ∧ ∀ j, j ≠ 4 → σ'.1 t j = σ.1 t j
theorem zFs3.rf {t k v q : Nat} {σ : zS} : zFs3 t k v q σ σ := ⟨rfl, fun _ _ _ _ => rfl, fun _ _ => rfl, fun _ _ => rfl⟩
theorem zFs3.tr {t k v q : Nat} {σ σ1 σ2 : zS} (h : zFs3 t k v q σ σ1) (g : zFs3 t k v q σ1 σ2) : zFs3 t k v q σ σ2 := ⟨g.1.trans h.1, fun a h1 h2 h3 => (g.2.1 a h1 h2 h3).trans (h.2.1 a h1 h2 h3), fun a h1 => (g.2.2.1 a h1).trans (h.2.2.1 a h1), fun j hj => (g.2.2.2 j hj).trans (h.2.2.2 j hj)⟩
theorem zAd_fr {t k v q n : Nat} {K : Int32} {V : Int64} {Q : Int32} {σ : zS} (hk : k ≠ t) (hq : q ≠ t) : zFs3 t k v q σ (zAd t k v q σ n K V Q) := by
  refine ⟨rfl, fun a h1 h2 h3 => ?_, fun a h1 => ?_, fun j hj => ?_⟩
  · show zu (zu (zu σ.1 k n K) q n Q) t 4 _ a = _
    rw [zu_n _ _ _ h1, zu_n _ _ _ h3, zu_n _ _ _ h2]
  · show zu σ.2.1 v n V a = _
    rw [zu_n _ _ _ h1]
  · show zu (zu (zu σ.1 k n K) q n Q) t 4 _ t j = _
    rw [zu_j _ _ _ _ _ (fun z => hj z.symm), zu_n _ _ _ (fun z => hq z.symm), zu_n _ _ _ (fun z => hk z.symm)]
theorem zAd_at {t k v q n : Nat} {K : Int32} {V : Int64} {Q : Int32} {σ : zS} (hk : k ≠ t) (hq : q ≠ t) (hkq : k ≠ q) (hn : (σ.1 t 4).toInt = n) (hn2 : n < 402) : ((zAd t k v q σ n K V Q).1 t 4).toInt = ((n + 1 : Nat) : Int) ∧ (∀ j, (zAd t k v q σ n K V Q).1 k j = if j = n then K else σ.1 k j) ∧ (∀ j, (zAd t k v q σ n K V Q).1 q j = if j = n then Q else σ.1 q j) ∧ ∀ j, (zAd t k v q σ n K V Q).2.1 v j = if j = n then V else σ.2.1 v j := by
  refine ⟨?_, fun j => ?_, fun j => ?_, fun j => ?_⟩
  · show (zu (zu (zu σ.1 k n K) q n Q) t 4 (σ.1 t 4 + 1) t 4).toInt = _
    rw [zu_s]
    exact zp1 hn (by omega)
  · show zu (zu (zu σ.1 k n K) q n Q) t 4 _ k j = _
    rw [zu_n _ _ _ hk, zu_n _ _ _ hkq, zu_a]
  · show zu (zu (zu σ.1 k n K) q n Q) t 4 _ q j = _
    rw [zu_n _ _ _ hq, zu_a, zu_n _ _ _ (fun z => hkq z.symm)]
  · show zu σ.2.1 v n V v j = _
    rw [zu_a]
theorem zsc_loop {t p1 w k v q n : Nat} {p2 : Int32} (hk : k ≠ t) (hq : q ≠ t) (hkq : k ≠ q) (hp : p1 ≠ t ∧ p1 ≠ k ∧ p1 ≠ q) (hwv : w ≠ v) (hn : p2.toInt = n) (hn2 : n ≤ 2000) : ∀ (N : Nat) (i go at_ : Int32) (σ : zS) (m a : Nat) (E : Nat → Nat), zTl t w k v q σ → (σ.1 t 4).toInt = m → i.toInt = m → m ≤ 401 → at_.toInt = a → a ≤ n → E m = a → zTk (σ.1 p1) n (σ.2.1 w) k v q σ m E → (∀ j, -128 ≤ (σ.1 p1 j).toInt ∧ (σ.1 p1 j).toInt ≤ 127) → (go.toInt ≠ 0 → m ≠ 0 → (σ.1 k (m - 1)).toInt < 33) → (go.toInt = 0 → 0 < m ∧ 33 ≤ (σ.1 k (m - 1)).toInt) → 401 - m < N →
    ∃ (m' : Nat) (E' : Nat → Nat), ((F_X8_scan_13 t p1 p2 N i go at_ σ).1 t 4).toInt = m' ∧ 0 < m' ∧ m' ≤ 401 ∧ zTk (σ.1 p1) n (σ.2.1 w) k v q (F_X8_scan_13 t p1 p2 N i go at_ σ) m' E' ∧ (m' = 401 ∨ 33 ≤ ((F_X8_scan_13 t p1 p2 N i go at_ σ).1 k (m' - 1)).toInt) ∧ zFs3 t k v q σ (F_X8_scan_13 t p1 p2 N i go at_ σ) := by
  intro N
  induction N with
  | zero => intro i go at_ σ m a E _ _ _ _ _ _ _ _ _ _ _ h; exact absurd h (by omega)
  | succ N ih =>
    intro i go at_ σ m a E hl hm hi hm4 ha han hE hT hby hg1 hg0 hf
    have e400 : (400 : Int32).toInt = 400 := by decide
    by_cases c0 : m = 401
    · have e : F_X8_scan_13 t p1 p2 (N + 1) i go at_ σ = σ := by
        rw [F_X8_scan_13]
        simp only [zlt, zlt2]
        rw [if_pos (by rw [e400]; omega)]
      rw [e]
      exact ⟨m, E, hm, by omega, hm4, hT, Or.inl c0, zFs3.rf⟩
    by_cases c1 : go.toInt = 0
    · have e : F_X8_scan_13 t p1 p2 (N + 1) i go at_ σ = σ := by
        rw [F_X8_scan_13]
        simp only [zlt, zlt2]
        rw [if_neg (by rw [e400]; omega), if_pos c1]
      rw [e]
      have h12 := hg0 c1
      exact ⟨m, E, hm, h12.1, hm4, hT, Or.inr h12.2, zFs3.rf⟩
    obtain ⟨K, V, Q, e, en, h1, h2, h3, h4, h5⟩ := zsc_step (i := i) (go := go) (at_ := at_) (N := N) hl hk hq hn hn2 (by omega) c1 ha han hm (by omega) hby
    rw [h5]
    obtain ⟨σ1, hσ1⟩ : ∃ s, s = zAd t k v q σ m K V Q := ⟨_, rfl⟩
    have fr := zAd_fr (n := m) (K := K) (V := V) (Q := Q) (σ := σ) (v := v) hk hq
    obtain ⟨q1, q2, q3, q4⟩ := zAd_at (v := v) (K := K) (V := V) (Q := Q) hk hq hkq hm (by omega)
    rw [← hσ1] at fr q1 q2 q3 q4 ⊢
    have hl1 : zTl t w k v q σ1 := by unfold zTl; rw [fr.1]; exact hl
    have hb1 : σ1.1 p1 = σ.1 p1 := fr.2.1 p1 hp.1 hp.2.1 hp.2.2
    have hw1 : σ1.2.1 w = σ.2.1 w := fr.2.2.1 w hwv
    have hT1 : zTk (σ1.1 p1) n (σ1.2.1 w) k v q σ1 (m + 1) (fun j => if j = m + 1 then en else E j) := by
      rw [hb1, hw1]
      refine ⟨by show (if 0 = m + 1 then en else E 0) = 0; rw [if_neg (by omega)]; exact hT.1, fun j hj => ?_, fun j hj => ?_⟩
      · rw [q2, q3, q4]
        by_cases hjm : j = m
        · subst hjm
          rw [if_pos rfl, if_pos rfl, if_pos rfl]
          simp only [if_pos, if_neg (show ¬ j = j + 1 by omega)]
          rw [hE]
          exact ⟨h3, h2, h4⟩
        · rw [if_neg hjm, if_neg hjm, if_neg hjm]
          simp only [if_neg (show ¬ j = m + 1 by omega), if_neg (show ¬ j + 1 = m + 1 by omega)]
          exact hT.2.1 j (by omega)
      · rw [q2]
        by_cases hjm : j = m
        · exact absurd hj (by omega)
        · rw [if_neg hjm]
          by_cases h9 : j + 1 = m
          · have hg := hg1 c1 (by omega)
            rw [show m - 1 = j by omega] at hg
            exact hg
          · exact hT.2.2 j (by omega)
    have ek : (σ1.2.2 t 1).getD 0 = k := by rw [hl1.2.1]; rfl
    have em : (σ1.1 t 4 - (1 : Int32)).toNatClampNeg = m := by
      have e1 : (1 : Int32).toInt = 1 := by decide
      rw [ztn, zb_sub (by rw [q1, e1]; omega) (by rw [q1, e1]; omega), q1, e1]
      omega
    have kk : σ1.1 k m = K := by rw [q2, if_pos rfl]
    have hby1 : ∀ j, -128 ≤ (σ1.1 p1 j).toInt ∧ (σ1.1 p1 j).toInt ≤ 127 := fun j => by rw [hb1]; exact hby j
    have nx := fun (g2 : Int32) g1 g0 => ih (i + (1 : Int32)) g2 e σ1 (m + 1) en _ hl1 q1 (zp1 hi (by omega)) (by omega) h1 h2 (by simp) hT1 hby1 g1 g0 (by omega)
    have e33 : (33 : Int32).toInt = 33 := by decide
    have fin : ∀ τ : zS, (∃ (m' : Nat) (E' : Nat → Nat), (τ.1 t 4).toInt = m' ∧ 0 < m' ∧ m' ≤ 401 ∧ zTk (σ1.1 p1) n (σ1.2.1 w) k v q τ m' E' ∧ (m' = 401 ∨ 33 ≤ (τ.1 k (m' - 1)).toInt) ∧ zFs3 t k v q σ1 τ) → ∃ (m' : Nat) (E' : Nat → Nat), (τ.1 t 4).toInt = m' ∧ 0 < m' ∧ m' ≤ 401 ∧ zTk (σ.1 p1) n (σ.2.1 w) k v q τ m' E' ∧ (m' = 401 ∨ 33 ≤ (τ.1 k (m' - 1)).toInt) ∧ zFs3 t k v q σ τ := fun τ ⟨m', E', z1, z2, z3, z4, z5, z6⟩ => ⟨m', E', z1, z2, z3, by rw [hb1, hw1] at z4; exact z4, z5, fr.tr z6⟩
    unfold zSt
    rw [if_pos (by rw [q1]; omega), ek, em, kk, e33]
    by_cases c2 : K.toInt < 33
    · rw [if_pos c2]
      refine fin _ (nx 1 (fun _ _ => ?_) (fun z => absurd z (by decide)))
      rw [show m + 1 - 1 = m by omega, kk]; exact c2
    · rw [if_neg c2]
      refine fin _ (nx 0 (fun z => absurd rfl z) (fun _ => ⟨by omega, by rw [show m + 1 - 1 = m by omega, kk]; omega⟩))
theorem zsc_e (t p1 : Nat) (p2 : Int32) (σ : zS) : ∃ N : Nat, 401 < N ∧ F_X8_scan t p1 p2 σ = F_X8_scan_13 t p1 p2 N 0 1 0 (zu σ.1 t 4 (0 : Int32), σ.2.1, σ.2.2) := by
  unfold F_X8_scan
  simp only [zlt]
  exact ⟨10000, by omega, rfl⟩
theorem zsc {t p1 w k v q n : Nat} {p2 : Int32} {σ : zS} (hk : k ≠ t) (hq : q ≠ t) (hkq : k ≠ q) (hp : p1 ≠ t ∧ p1 ≠ k ∧ p1 ≠ q) (hwv : w ≠ v) (hn : p2.toInt = n) (hn2 : n ≤ 2000) (hl : zTl t w k v q σ) (hby : ∀ j, -128 ≤ (σ.1 p1 j).toInt ∧ (σ.1 p1 j).toInt ≤ 127) :
    ∃ (m' : Nat) (E' : Nat → Nat), ((F_X8_scan t p1 p2 σ).1 t 4).toInt = m' ∧ 0 < m' ∧ m' ≤ 401 ∧ zTk (σ.1 p1) n (σ.2.1 w) k v q (F_X8_scan t p1 p2 σ) m' E' ∧ (m' = 401 ∨ 33 ≤ ((F_X8_scan t p1 p2 σ).1 k (m' - 1)).toInt) ∧ zFs3 t k v q σ (F_X8_scan t p1 p2 σ) := by
  obtain ⟨σ0, h0⟩ : ∃ s : zS, s = (zu σ.1 t 4 (0 : Int32), σ.2.1, σ.2.2) := ⟨_, rfl⟩
  have f0 : zFs3 t k v q σ σ0 := by
    rw [h0]
    exact ⟨rfl, fun a h1 _ _ => zu_n _ _ _ h1, fun _ _ => rfl, fun j hj => zu_j _ _ _ _ _ (fun z => hj z.symm)⟩
  obtain ⟨N, hN, e⟩ := zsc_e t p1 p2 σ
  rw [← h0] at e
  have hb0 : σ0.1 p1 = σ.1 p1 := f0.2.1 p1 hp.1 hp.2.1 hp.2.2
  have hw0 : σ0.2.1 w = σ.2.1 w := f0.2.2.1 w hwv
  obtain ⟨m', E', z1, z2, z3, z4, z5, z6⟩ := zsc_loop hk hq hkq hp hwv hn hn2 N 0 1 0 σ0 0 0 (fun _ => 0) (by unfold zTl; rw [f0.1]; exact hl) (by rw [h0]; show (zu σ.1 t 4 (0 : Int32) t 4).toInt = _; rw [zu_s]; decide) (by decide) (by omega) (by decide) (by omega) rfl ⟨rfl, fun j hj => absurd hj (by omega), fun j hj => absurd hj (by omega)⟩ (fun j => by rw [hb0]; exact hby j) (fun _ z => absurd rfl z) (fun z => absurd z (by decide)) (by omega)
  rw [e]
  exact ⟨m', E', z1, z2, z3, by rw [hb0, hw0] at z4; exact z4, z5, f0.tr z6⟩
end
-- 35d.pure4
section
/-! THE CUTTING OF A TEXT INTO TOKENS, the reference's -/
def zub (c : Int) : Int := if 0 ≤ c then c else c + 256
theorem zand255 : ∀ c : Int32, -128 ≤ c.toInt → c.toInt ≤ 127 → (c &&& (255 : Int32)).toInt = zub c.toInt := by
  intro c h0 h1
  have key : ∀ k : Fin 256, ((Int32.ofInt ((k.val : Int) - 128)) &&& (255 : Int32)).toInt = zub (Int32.ofInt ((k.val : Int) - 128)).toInt := by decide +kernel
  have e : c = Int32.ofInt (((c.toInt + 128).toNat : Int) - 128) := by
    rw [show ((c.toInt + 128).toNat : Int) - 128 = c.toInt by omega, Int32.ofInt_toInt]
  have q := key ⟨(c.toInt + 128).toNat, by omega⟩
  simp only at q
  rw [← e] at q
  exact q
theorem zL_ub {c : Int} (h0 : -128 ≤ c) : zLt (zub c) = zLt c := by
  unfold zLt zub
  split
  · rfl
  · exact propext ⟨fun h => by omega, fun h => by omega⟩
theorem zD_ub {c : Int} (h0 : -128 ≤ c) : zDg (zub c) = zDg c := by
  unfold zDg zub
  split
  · rfl
  · exact propext ⟨fun h => by omega, fun h => by omega⟩
theorem rL1 {c : Int32} : ((F_X11_isLetter c).toInt = 0) = ¬ zLt c.toInt := by
  have e1 : (97 : Int32).toInt = 97 := by decide
  have e2 : (122 : Int32).toInt = 122 := by decide
  have e3 : (1 : Int32).toInt = 1 := by decide
  unfold F_X11_isLetter zLt
  simp only [zlt, e1, e2]
  by_cases h1 : c.toInt < 97
  · rw [if_pos h1]
    exact propext ⟨fun _ h => by omega, fun _ => by decide⟩
  · rw [if_neg h1]
    by_cases h2 : 122 < c.toInt
    · rw [if_pos h2]
      exact propext ⟨fun _ h => by omega, fun _ => by decide⟩
    · rw [if_neg h2]
      exact propext ⟨fun h => absurd h (by decide), fun h => absurd (by omega) h⟩
theorem rD1 {c : Int32} : ((F_X11_isDigit c).toInt = 0) = ¬ zDg c.toInt := by
  have e1 : (48 : Int32).toInt = 48 := by decide
  have e2 : (57 : Int32).toInt = 57 := by decide
  unfold F_X11_isDigit zDg
  simp only [zlt, e1, e2]
  by_cases h1 : c.toInt < 48
  · rw [if_pos h1]
    exact propext ⟨fun _ h => by omega, fun _ => by decide⟩
  · rw [if_neg h1]
    by_cases h2 : 57 < c.toInt
    · rw [if_pos h2]
      exact propext ⟨fun _ h => by omega, fun _ => by decide⟩
    · rw [if_neg h2]
      exact propext ⟨fun h => absurd h (by decide), fun h => absurd (by omega) h⟩
/-- the text's bytes: n of them, at x -/
def zTx (a0 x n : Nat) (σ : zS) : Prop := σ.2.2 a0 3 = some x ∧ (σ.1 a0 4).toInt = n ∧ n ≤ 2000 ∧ ∀ j, -128 ≤ (σ.1 x j).toInt ∧ (σ.1 x j).toInt ≤ 127
theorem rby {a0 x n j : Nat} {σ : zS} {i : Int32} (h : zTx a0 x n σ) (hi : i.toInt = j) : (F_X11_byteAt a0 i σ).toInt = if j < n then zub (σ.1 x j).toInt else 0 := by
  obtain ⟨h1, h2, h3, h4⟩ := h
  have e1 : (σ.2.2 a0 3).getD 0 = x := by rw [h1]; rfl
  have e2 : i.toNatClampNeg = j := by rw [ztn, hi]; rfl
  unfold F_X11_byteAt
  simp only [zlt, e1, e2]
  by_cases c : j < n
  · rw [if_pos (by omega), if_pos c, zand255 _ (h4 j).1 (h4 j).2]
  · rw [if_neg (by omega), if_neg c]
    decide
theorem rbyL {a0 x n j : Nat} {σ : zS} {i : Int32} (h : zTx a0 x n σ) (hi : i.toInt = j) : zLt (F_X11_byteAt a0 i σ).toInt = (j < n ∧ zLt (σ.1 x j).toInt) := by
  rw [rby h hi]
  by_cases c : j < n
  · rw [if_pos c, zL_ub (h.2.2.2 j).1]
    exact propext ⟨fun q => ⟨c, q⟩, fun q => q.2⟩
  · rw [if_neg c]
    exact propext ⟨fun q => absurd q (by unfold zLt; omega), fun q => absurd q.1 c⟩
theorem rbyD {a0 x n j : Nat} {σ : zS} {i : Int32} (h : zTx a0 x n σ) (hi : i.toInt = j) : zDg (F_X11_byteAt a0 i σ).toInt = (j < n ∧ zDg (σ.1 x j).toInt) := by
  rw [rby h hi]
  by_cases c : j < n
  · rw [if_pos c, zD_ub (h.2.2.2 j).1]
    exact propext ⟨fun q => ⟨c, q⟩, fun q => q.2⟩
  · rw [if_neg c]
    exact propext ⟨fun q => absurd q (by unfold zDg; omega), fun q => absurd q.1 c⟩
theorem rap {x : Int64} {c : Int32} {l : List Int} (hx : x = Int64.ofInt (zvb 27 l)) (hc : zLt c.toInt) : F_X11_appends x c = Int64.ofInt (zvb 27 (l ++ [c.toInt - 96])) := by
  have e1 : (97 : Int32).toInt = 97 := by decide
  have e2 : (1 : Int32).toInt = 1 := by decide
  have h1 : (c - (97 : Int32) + (1 : Int32)).toInt = c.toInt - 96 := by
    have h2 : (c - (97 : Int32)).toInt = c.toInt - 97 := by
      rw [zb_sub (by rw [e1]; have := hc.1; omega) (by rw [e1]; have := hc.2; omega), e1]
    rw [zb_add (by rw [h2, e2]; have := hc.1; omega) (by rw [h2, e2]; have := hc.2; omega), h2, e2]
    omega
  have h3 : (c - (97 : Int32) + (1 : Int32)).toInt64 = Int64.ofInt (c.toInt - 96) := by
    rw [← Int64.ofInt_toInt ((c - (97 : Int32) + (1 : Int32)).toInt64), Int32.toInt_toInt64, h1]
  unfold F_X11_appends
  simp only [zlt]
  rw [if_neg (by have := hc.1; omega), zvb_snoc, Int64.ofInt_add, Int64.ofInt_mul, ← hx, h3, Int64.mul_comm]
  rfl
/-- the rows of the reference's tokens -/
def zRl (a0 k q v nm ky : Nat) (σ : zS) : Prop := σ.2.2 a0 5 = some k ∧ σ.2.2 a0 6 = some q ∧ σ.2.2 a0 7 = some v ∧ σ.2.2 a0 8 = some nm ∧ σ.2.2 a0 9 = some ky
def zAr (a0 k q v nm : Nat) (σ : zS) (m : Nat) (K Q V : Int32) (M : Int64) : zS := (zu (zu (zu (zu σ.1 k m K) q m Q) v m V) a0 10 (σ.1 a0 10 + 1), zu σ.2.1 nm m M, σ.2.2)
def zRd (a0 k q v nm : Nat) : Prop := k ≠ a0 ∧ q ≠ a0 ∧ v ≠ a0 ∧ k ≠ q ∧ k ≠ v ∧ q ≠ v
theorem rtok {a0 k q v nm ky m : Nat} {K Q V : Int32} {M : Int64} {σ : zS} (hl : zRl a0 k q v nm ky σ) (hd : zRd a0 k q v nm) (hm : (σ.1 a0 10).toInt = m) : F_X11_token a0 K Q V M σ = zAr a0 k q v nm σ m K Q V M := by
  obtain ⟨h1, h2, h3, h4, -⟩ := hl
  obtain ⟨d1, d2, d3, -, -, -⟩ := hd
  have e1 : (σ.2.2 a0 5).getD 0 = k := by rw [h1]; rfl
  have e2 : (σ.2.2 a0 6).getD 0 = q := by rw [h2]; rfl
  have e3 : (σ.2.2 a0 7).getD 0 = v := by rw [h3]; rfl
  have e4 : (σ.2.2 a0 8).getD 0 = nm := by rw [h4]; rfl
  have en : (σ.1 a0 10).toNatClampNeg = m := by rw [ztn, hm]; rfl
  have r1 : zu σ.1 k m K a0 10 = σ.1 a0 10 := by rw [zu_n _ _ _ (fun z => d1 z.symm)]
  have r2 : zu (zu σ.1 k m K) q m Q a0 10 = σ.1 a0 10 := by rw [zu_n _ _ _ (fun z => d2 z.symm), r1]
  have r3 : zu (zu (zu σ.1 k m K) q m Q) v m V a0 10 = σ.1 a0 10 := by rw [zu_n _ _ _ (fun z => d3 z.symm), r2]
  unfold F_X11_token zAr
  simp only [zlt, e1, e2, e3, e4, en, r1, r2, r3]
def zFq (a0 k q v nm : Nat) (σ σ' : zS) : Prop := σ'.2.2 = σ.2.2 ∧ (∀ a, a ≠ a0 → a ≠ k → a ≠ q → a ≠ v → σ'.1 a = σ.1 a) ∧ (∀ a, a ≠ nm → σ'.2.1 a = σ.2.1 a) ∧ ∀ j, j ≠ 10 → σ'.1 a0 j = σ.1 a0 j
theorem zFq.rf {a0 k q v nm : Nat} {σ : zS} : zFq a0 k q v nm σ σ := ⟨rfl, fun _ _ _ _ _ => rfl, fun _ _ => rfl, fun _ _ => rfl⟩
theorem zFq.tr {a0 k q v nm : Nat} {σ σ1 σ2 : zS} (h : zFq a0 k q v nm σ σ1) (g : zFq a0 k q v nm σ1 σ2) : zFq a0 k q v nm σ σ2 := ⟨g.1.trans h.1, fun a h1 h2 h3 h4 => (g.2.1 a h1 h2 h3 h4).trans (h.2.1 a h1 h2 h3 h4), fun a h1 => (g.2.2.1 a h1).trans (h.2.2.1 a h1), fun j hj => (g.2.2.2 j hj).trans (h.2.2.2 j hj)⟩
theorem zAr_fr {a0 k q v nm m : Nat} {K Q V : Int32} {M : Int64} {σ : zS} (hd : zRd a0 k q v nm) : zFq a0 k q v nm σ (zAr a0 k q v nm σ m K Q V M) := by
  obtain ⟨d1, d2, d3, -, -, -⟩ := hd
  refine ⟨rfl, fun a h1 h2 h3 h4 => ?_, fun a h1 => ?_, fun j hj => ?_⟩
  · show zu (zu (zu (zu σ.1 k m K) q m Q) v m V) a0 10 _ a = _
    rw [zu_n _ _ _ h1, zu_n _ _ _ h4, zu_n _ _ _ h3, zu_n _ _ _ h2]
  · show zu σ.2.1 nm m M a = _
    rw [zu_n _ _ _ h1]
  · show zu (zu (zu (zu σ.1 k m K) q m Q) v m V) a0 10 _ a0 j = _
    rw [zu_j _ _ _ _ _ (fun z => hj z.symm), zu_n _ _ _ (fun z => d3 z.symm), zu_n _ _ _ (fun z => d2 z.symm), zu_n _ _ _ (fun z => d1 z.symm)]
theorem zAr_at {a0 k q v nm m : Nat} {K Q V : Int32} {M : Int64} {σ : zS} (hd : zRd a0 k q v nm) (hm : (σ.1 a0 10).toInt = m) (hm2 : m < 402) : ((zAr a0 k q v nm σ m K Q V M).1 a0 10).toInt = ((m + 1 : Nat) : Int) ∧ (∀ j, (zAr a0 k q v nm σ m K Q V M).1 k j = if j = m then K else σ.1 k j) ∧ (∀ j, (zAr a0 k q v nm σ m K Q V M).1 q j = if j = m then Q else σ.1 q j) ∧ (∀ j, (zAr a0 k q v nm σ m K Q V M).1 v j = if j = m then V else σ.1 v j) ∧ ∀ j, (zAr a0 k q v nm σ m K Q V M).2.1 nm j = if j = m then M else σ.2.1 nm j := by
  obtain ⟨d1, d2, d3, d4, d5, d6⟩ := hd
  refine ⟨?_, fun j => ?_, fun j => ?_, fun j => ?_, fun j => ?_⟩
  · show (zu (zu (zu (zu σ.1 k m K) q m Q) v m V) a0 10 (σ.1 a0 10 + 1) a0 10).toInt = _
    rw [zu_s]
    exact zp1 hm (by omega)
  · show zu (zu (zu (zu σ.1 k m K) q m Q) v m V) a0 10 _ k j = _
    rw [zu_n _ _ _ d1, zu_n _ _ _ d5, zu_n _ _ _ d4, zu_a]
  · show zu (zu (zu (zu σ.1 k m K) q m Q) v m V) a0 10 _ q j = _
    rw [zu_n _ _ _ d2, zu_n _ _ _ d6, zu_a, zu_n _ _ _ (fun z => d4 z.symm)]
  · show zu (zu (zu (zu σ.1 k m K) q m Q) v m V) a0 10 _ v j = _
    rw [zu_n _ _ _ d3, zu_a, zu_n _ _ _ (fun z => d6 z.symm), zu_n _ _ _ (fun z => d5 z.symm)]
  · show zu σ.2.1 nm m M nm j = _
    rw [zu_a]
end
-- 35e.pure5
section
def zsr (c : Int) : Int := if c = 59 then 4 else if c = 61 then 5 else if c = 43 then 8 else if c = 45 then 9 else if c = 42 then 10 else if c = 47 then 15 else if c = 60 then 13 else if c = 40 then 6 else if c = 41 then 7 else 3
theorem rsign {a0 : Nat} {i c d : Int32} {σ : zS} : ∃ K : Int32, F_X11_sign a0 i c d σ = (1, F_X11_token a0 K i 0 (Int64.ofNat 0) σ) ∧ K.toInt = zsr c.toInt := by
  have e59 : (59 : Int32).toInt = 59 := by decide
  have e61 : (61 : Int32).toInt = 61 := by decide
  have e40 : (40 : Int32).toInt = 40 := by decide
  have e41 : (41 : Int32).toInt = 41 := by decide
  have e43 : (43 : Int32).toInt = 43 := by decide
  have e45 : (45 : Int32).toInt = 45 := by decide
  have e42 : (42 : Int32).toInt = 42 := by decide
  have e47 : (47 : Int32).toInt = 47 := by decide
  have e60 : (60 : Int32).toInt = 60 := by decide
  unfold F_X11_sign zsr
  simp only [zlt, e59, e61, e40, e41, e43, e45, e42, e47, e60]
  by_cases h59 : c.toInt = 59
  · rw [if_pos h59, if_pos h59, if_neg (by omega), if_neg (by omega), if_neg (by omega), if_neg (by omega), if_neg (by omega)]
    exact ⟨4, rfl, by decide⟩
  rw [if_neg h59, if_neg h59]
  by_cases h61 : c.toInt = 61
  · rw [if_pos h61, if_pos h61, if_neg (by omega), if_neg (by omega), if_neg (by omega), if_neg (by omega), if_neg (by omega)]
    exact ⟨5, rfl, by decide⟩
  rw [if_neg h61, if_neg h61]
  by_cases h40 : c.toInt = 40
  · rw [if_pos h40, if_neg (by omega), if_neg (by omega), if_neg (by omega), if_neg (by omega), if_neg (by omega)]
    exact ⟨6, rfl, by rw [if_neg (by omega), if_neg (by omega), if_neg (by omega), if_neg (by omega), if_neg (by omega), if_pos h40]; decide⟩
  rw [if_neg h40]
  by_cases h41 : c.toInt = 41
  · rw [if_pos h41, if_neg (by omega), if_neg (by omega), if_neg (by omega), if_neg (by omega), if_neg (by omega)]
    exact ⟨7, rfl, by rw [if_neg (by omega), if_neg (by omega), if_neg (by omega), if_neg (by omega), if_neg (by omega), if_neg (by omega), if_pos h41]; decide⟩
  rw [if_neg h41]
  by_cases h43 : c.toInt = 43
  · rw [if_pos h43, if_pos h43, if_neg (by omega), if_neg (by omega), if_neg (by omega), if_neg (by omega)]
    exact ⟨8, rfl, by decide⟩
  rw [if_neg h43, if_neg h43]
  by_cases h45 : c.toInt = 45
  · rw [if_pos h45, if_pos h45, if_neg (by omega), if_neg (by omega), if_neg (by omega)]
    exact ⟨9, rfl, by decide⟩
  rw [if_neg h45, if_neg h45]
  by_cases h42 : c.toInt = 42
  · rw [if_pos h42, if_pos h42, if_neg (by omega), if_neg (by omega)]
    exact ⟨10, rfl, by decide⟩
  rw [if_neg h42, if_neg h42]
  by_cases h47 : c.toInt = 47
  · rw [if_pos h47, if_pos h47, if_neg (by omega)]
    exact ⟨15, rfl, by decide⟩
  rw [if_neg h47, if_neg h47]
  by_cases h60 : c.toInt = 60
  · rw [if_pos h60, if_pos h60]
    exact ⟨13, rfl, by decide⟩
  rw [if_neg h60, if_neg h60, if_neg h40, if_neg h41]
  exact ⟨3, rfl, by decide⟩
def zKr (Y : Nat → Int64) (x : Int64) (K : Int) : Prop := (K = 1 ∧ ∀ i, i < 22 → Y i ≠ x) ∨ ∃ i : Nat, i < 22 ∧ K = 20 + (i : Int) ∧ Y i = x
theorem rk_loop {a0 y : Nat} {x75 : Int64} {x76 v12 x6 : Int32} {k7 : Int32 → zS → zS} {k77 : Int64 → Int32 → zS → zS} {τ : zS} (hy : τ.2.2 a0 9 = some y) : ∀ (N : Nat) (i q : Int32) (k : Nat), i.toInt = k → k ≤ 22 → ((q.toInt = 1 ∧ ∀ j, j < k → τ.2.1 y j ≠ x75) ∨ ∃ j : Nat, j < k ∧ q.toInt = 20 + (j : Int) ∧ τ.2.1 y j = x75) → 22 - k < N → ∃ K : Int32, F_X11_cut_146 x75 x76 v12 x6 a0 k7 k77 N i q τ = k7 (x6 + x76) (F_X11_token a0 K x6 0 x75 τ) ∧ zKr (τ.2.1 y) x75 K.toInt := by
  intro N
  induction N with
  | zero => intro i q k _ _ _ h; exact absurd h (by omega)
  | succ N ih =>
    intro i q k hi hk hq hm
    have e22 : (22 : Int32).toInt = 22 := by decide
    have e20 : (20 : Int32).toInt = 20 := by decide
    have hik : i.toNatClampNeg = k := by rw [ztn, hi]; rfl
    have hyd : (τ.2.2 a0 9).getD 0 = y := by rw [hy]; rfl
    rw [F_X11_cut_146]
    simp only [zlt, e22, hyd, hik, zcmp0]
    by_cases c0 : i.toInt < 22
    · rw [if_pos c0]
      by_cases c1 : τ.2.1 y k = x75
      · rw [if_pos c1]
        exact ih _ _ (k + 1) (zp1 hi (by omega)) (by omega) (Or.inr ⟨k, by omega, by rw [zb_add (by rw [e20]; omega) (by rw [e20]; omega), e20, hi], c1⟩) (by omega)
      · rw [if_neg c1]
        refine ih _ _ (k + 1) (zp1 hi (by omega)) (by omega) ?_ (by omega)
        rcases hq with ⟨h1, h2⟩ | ⟨j, h1, h2, h3⟩
        · refine Or.inl ⟨h1, fun j hj => ?_⟩
          by_cases hjk : j = k
          · subst hjk; exact c1
          · exact h2 j (by omega)
        · exact Or.inr ⟨j, by omega, h2, h3⟩
    · rw [if_neg c0]
      have hk2 : k = 22 := by omega
      subst hk2
      refine ⟨q, rfl, ?_⟩
      rcases hq with ⟨h1, h2⟩ | ⟨j, h1, h2, h3⟩
      · exact Or.inl ⟨h1, h2⟩
      · exact Or.inr ⟨j, h1, h2, h3⟩
theorem zad {x y : Int32} {a b : Nat} (hx : x.toInt = a) (hy : y.toInt = b) (h : a + b < 4000) : (x + y).toInt = ((a + b : Nat) : Int) := by
  rw [zb_add (by rw [hx, hy]; omega) (by rw [hx, hy]; omega), hx, hy]
  rfl
def zlr (b : Nat → Int32) (a c : Nat) : Int64 := Int64.ofInt (zvb 27 (zwd b a (min c 8)))
theorem rl_loop {a0 x y n i : Nat} {v12 x6 : Int32} {k7 : Int32 → zS → zS} {τ : zS} (hy : τ.2.2 a0 9 = some y) (ht : zTx a0 x n τ) (h6 : x6.toInt = i) : ∀ (N : Nat) (nm : Int64) (c : Int32) (k : Nat), c.toInt = k → i + k ≤ n → (∀ j, i ≤ j → j < i + k → j < n ∧ zLt (τ.1 x j).toInt) → nm = zlr (τ.1 x) i k → n - (i + k) < N → ∃ (e : Nat) (ex K : Int32) (M : Int64), ex.toInt = e ∧ e ≤ n ∧ zRun zLt (τ.1 x) n i e ∧ ((8 < e - i ∧ K.toInt = 3) ∨ (e - i ≤ 8 ∧ M = Int64.ofInt (zvb 27 (zwd (τ.1 x) i (e - i))) ∧ zKr (τ.2.1 y) M K.toInt)) ∧ F_X11_cut_85 v12 x6 a0 k7 N nm c τ = k7 ex (F_X11_token a0 K x6 0 M τ) := by
  have hn2 := ht.2.2.1
  intro N
  induction N with
  | zero => intro nm c k _ _ _ _ h; exact absurd h (by omega)
  | succ N ih =>
    intro nm c k hc hkn hb hnm hm
    have e8 : (8 : Int32).toInt = 8 := by decide
    have hs := zad h6 hc (by omega)
    rw [F_X11_cut_85]
    simp only [zlt, zlt2, rL1, rbyL ht hs, e8]
    by_cases c1 : i + k < n ∧ zLt (τ.1 x (i + k)).toInt
    · rw [if_neg (fun z => z c1)]
      have nx := fun nm2 h2 => ih nm2 (c + (1 : Int32)) (k + 1) (zp1 hc (by omega)) (by omega) (fun j h1 h2 => by
          by_cases hj : j = i + k
          · subst hj; exact c1
          · exact hb j h1 (by omega)) h2 (by omega)
      by_cases c2 : c.toInt < 8
      · rw [if_pos c2]
        refine nx _ ?_
        have hcl : zLt (F_X11_byteAt a0 (x6 + c) τ).toInt := by rw [rbyL ht hs]; exact c1
        have hcv : (F_X11_byteAt a0 (x6 + c) τ).toInt = (τ.1 x (i + k)).toInt := by
          rw [rby ht hs, if_pos c1.1]
          unfold zub
          rw [if_pos (by have := c1.2.1; omega)]
        unfold zlr at hnm ⊢
        rw [rap hnm hcl, hcv, show min (k + 1) 8 = min k 8 + 1 by omega, zwd, show min k 8 = k by omega]
      · rw [if_neg c2]
        refine nx _ ?_
        rw [hnm]
        unfold zlr
        rw [show min (k + 1) 8 = min k 8 by omega]
    · rw [if_pos c1]
      have hR : zRun zLt (τ.1 x) n i (i + k) := ⟨by omega, hb, c1⟩
      by_cases c2 : 8 < c.toInt
      · rw [if_pos c2, if_pos c2]
        exact ⟨i + k, x6 + c, 3, nm, hs, hkn, hR, Or.inl ⟨by omega, by decide⟩, rfl⟩
      · rw [if_neg c2, if_neg c2]
        obtain ⟨K, q1, q2⟩ := rk_loop (x75 := nm) (x76 := c) (v12 := v12) (x6 := x6) (k7 := k7) (k77 := F_X11_cut_85 v12 x6 a0 k7 N) hy 10000 0 1 0 (by decide) (by omega) (Or.inl ⟨by decide, fun j hj => absurd hj (by omega)⟩) (by omega)
        rw [q1]
        refine ⟨i + k, x6 + c, K, nm, hs, hkn, hR, Or.inr ⟨by omega, ?_, q2⟩, rfl⟩
        rw [hnm]
        unfold zlr
        rw [show min k 8 = i + k - i by omega]
theorem rd_loop {a0 x n i : Nat} {v12 x6 : Int32} {k7 : Int32 → zS → zS} {τ : zS} (ht : zTx a0 x n τ) (h6 : x6.toInt = i) : ∀ (N : Nat) (d c : Int32) (k : Nat), c.toInt = k → i + k ≤ n → (∀ j, i ≤ j → j < i + k → j < n ∧ zDg (τ.1 x j).toInt) → (k ≤ 4 → d.toInt = zdv (τ.1 x) i k) → n - (i + k) < N → ∃ (e : Nat) (ex K V : Int32), ex.toInt = e ∧ e ≤ n ∧ zRun zDg (τ.1 x) n i e ∧ ((4 < e - i ∧ K.toInt = 3) ∨ (e - i ≤ 4 ∧ K.toInt = 2 ∧ V.toInt = zdv (τ.1 x) i (e - i))) ∧ F_X11_cut_208 v12 x6 a0 k7 N d c τ = k7 ex (F_X11_token a0 K x6 V (Int64.ofNat 0) τ) := by
  have hn2 := ht.2.2.1
  intro N
  induction N with
  | zero => intro d c k _ _ _ _ h; exact absurd h (by omega)
  | succ N ih =>
    intro d c k hc hkn hb hd hm
    have e4 : (4 : Int32).toInt = 4 := by decide
    have e10 : (10 : Int32).toInt = 10 := by decide
    have e48 : (48 : Int32).toInt = 48 := by decide
    have hs := zad h6 hc (by omega)
    rw [F_X11_cut_208]
    simp only [zlt, zlt2, rD1, rbyD ht hs, e4]
    by_cases c1 : i + k < n ∧ zDg (τ.1 x (i + k)).toInt
    · rw [if_neg (fun z => z c1)]
      have nx := fun d2 h2 => ih d2 (c + (1 : Int32)) (k + 1) (zp1 hc (by omega)) (by omega) (fun j h1 h2 => by
          by_cases hj : j = i + k
          · subst hj; exact c1
          · exact hb j h1 (by omega)) h2 (by omega)
      by_cases c2 : c.toInt < 4
      · rw [if_pos c2]
        refine nx _ (fun _ => ?_)
        have hcv : (F_X11_byteAt a0 (x6 + c) τ).toInt = (τ.1 x (i + k)).toInt := by
          rw [rby ht hs, if_pos c1.1]
          unfold zub
          rw [if_pos (by have := c1.2.1; omega)]
        have q := zdv_b (b := τ.1 x) (a := i) k (by omega) (fun j hj => (hb (i + j) (by omega) (by omega)).2)
        have hd4 := hd (by omega)
        rw [← hd4] at q
        have q9 := q.2.2.2.2.2 (by omega)
        have cc := c1.2
        unfold zDg at cc
        have m1 : ((10 : Int32) * d).toInt = 10 * d.toInt := by rw [Int32.toInt_mul, e10, Int.bmod_eq_of_le (by omega) (by omega)]
        have m2 : ((10 : Int32) * d + F_X11_byteAt a0 (x6 + c) τ).toInt = 10 * d.toInt + (τ.1 x (i + k)).toInt := by rw [zb_add (by rw [m1, hcv]; omega) (by rw [m1, hcv]; omega), m1, hcv]
        rw [zb_sub (by rw [m2, e48]; omega) (by rw [m2, e48]; omega), m2, e48, zdv, ← hd4]
        omega
      · rw [if_neg c2]
        exact nx _ (fun z => absurd z (by omega))
    · rw [if_pos c1]
      have hR : zRun zDg (τ.1 x) n i (i + k) := ⟨by omega, hb, c1⟩
      by_cases c2 : 4 < c.toInt
      · rw [if_pos c2]
        exact ⟨i + k, x6 + c, 3, d, hs, hkn, hR, Or.inl ⟨by omega, by decide⟩, rfl⟩
      · rw [if_neg c2]
        refine ⟨i + k, x6 + c, 2, d, hs, hkn, hR, Or.inr ⟨by omega, by decide, ?_⟩, rfl⟩
        rw [show i + k - i = k by omega]
        exact hd (by omega)
/-- the reference's token that is looked for from a on -/
def zRT (b : Nat → Int32) (n : Nat) (Y : Nat → Int64) (a : Nat) (K Q V : Int) (M : Int64) (e : Nat) : Prop :=
  ∃ s, zRun zBl b n a s ∧ Q = s ∧ s ≤ n ∧ ((s = n ∧ K = 0) ∨ (s < n ∧ zLt (b s).toInt ∧ zRun zLt b n s e ∧ ((8 < e - s ∧ K = 3) ∨ (e - s ≤ 8 ∧ M = Int64.ofInt (zvb 27 (zwd b s (e - s))) ∧ zKr Y M K))) ∨ (s < n ∧ zDg (b s).toInt ∧ zRun zDg b n s e ∧ ((4 < e - s ∧ K = 3) ∨ (e - s ≤ 4 ∧ K = 2 ∧ V = zdv b s (e - s)))) ∨ (s < n ∧ ¬ zLt (b s).toInt ∧ ¬ zDg (b s).toInt ∧ e = s + 1 ∧ K = zsr (b s).toInt))
def zRq (b : Nat → Int32) (n : Nat) (Y : Nat → Int64) (k q v nm : Nat) (σ : zS) (m : Nat) (E : Nat → Nat) : Prop :=
  E 0 = 0 ∧ (∀ j, j < m → zRT b n Y (E j) (σ.1 k j).toInt (σ.1 q j).toInt (σ.1 v j).toInt (σ.2.1 nm j) (E (j + 1))) ∧ ∀ j, j + 1 < m → (σ.1 k j).toInt ≠ 0
theorem zblub {c : Int} (h0 : -128 ≤ c) (h1 : c ≤ 127) : (zub c = 9 ∨ zub c = 10 ∨ zub c = 13 ∨ zub c = 32) = zBl c := by
  unfold zub zBl
  split
  · exact propext ⟨fun h => by omega, fun h => by omega⟩
  · exact propext ⟨fun h => by omega, fun h => by omega⟩
theorem zsr_neg {c : Int} (h : ¬ 0 ≤ c) (h0 : -128 ≤ c) : zsr (c + 256) = zsr c := by
  unfold zsr
  rw [if_neg (by omega), if_neg (by omega), if_neg (by omega), if_neg (by omega), if_neg (by omega), if_neg (by omega), if_neg (by omega), if_neg (by omega), if_neg (by omega), if_neg (by omega), if_neg (by omega), if_neg (by omega), if_neg (by omega), if_neg (by omega), if_neg (by omega), if_neg (by omega), if_neg (by omega), if_neg (by omega)]
theorem zsr_ub {c : Int} (h0 : -128 ≤ c) : zsr (zub c) = zsr c := by
  by_cases h : 0 ≤ c
  · unfold zub; rw [if_pos h]
  · unfold zub; rw [if_neg h]; exact zsr_neg h h0
theorem rc_loop {a0 x y n k q v nm : Nat} (hd : zRd a0 k q v nm) (hx : x ≠ a0 ∧ x ≠ k ∧ x ≠ q ∧ x ≠ v) (hyn : y ≠ nm) : ∀ (N : Nat) (i : Int32) (τ : zS) (m a p : Nat) (E : Nat → Nat), zTx a0 x n τ → zRl a0 k q v nm y τ → (τ.1 a0 10).toInt = m → m ≤ 401 → i.toInt = p → a ≤ p → p ≤ n → E m = a → (∀ j, a ≤ j → j < p → j < n ∧ zBl (τ.1 x j).toInt) → zRq (τ.1 x) n (τ.2.1 y) k q v nm τ m E → (m ≠ 0 → (τ.1 k (m - 1)).toInt ≠ 0) → 4000 * (401 - m) + (2001 - p) < N →
    ∃ (m' : Nat) (E' : Nat → Nat), ((F_X11_cut_7 a0 N i τ).1 a0 10).toInt = m' ∧ m' ≤ 401 ∧ zRq (τ.1 x) n (τ.2.1 y) k q v nm (F_X11_cut_7 a0 N i τ) m' E' ∧ (m' = 401 ∨ (0 < m' ∧ ((F_X11_cut_7 a0 N i τ).1 k (m' - 1)).toInt = 0)) ∧ zFq a0 k q v nm τ (F_X11_cut_7 a0 N i τ) := by
  intro N
  induction N with
  | zero => intro i τ m a p E _ _ _ _ _ _ _ _ _ _ _ h; exact absurd h (by omega)
  | succ N ih =>
    intro i τ m a p E ht hl hm hm4 hi hap hpn hE hb hT hz hf
    have hn2 := ht.2.2.1
    have e400 : (400 : Int32).toInt = 400 := by decide
    have e9 : (9 : Int32).toInt = 9 := by decide
    have e10 : (10 : Int32).toInt = 10 := by decide
    have e13 : (13 : Int32).toInt = 13 := by decide
    have e32 : (32 : Int32).toInt = 32 := by decide
    by_cases c0 : m = 401
    · have e : F_X11_cut_7 a0 (N + 1) i τ = τ := by
        rw [F_X11_cut_7]
        simp only [zlt, zlt2]
        rw [if_pos (by rw [e400]; omega)]
      rw [e]
      exact ⟨m, E, hm, hm4, hT, Or.inl c0, zFq.rf⟩
    have hbt := rby ht hi
    have hsz := ht.2.1
    -- what a token brings
    have tok : ∀ (K Q V : Int32) (M : Int64) (e : Nat), e ≤ n → zRT (τ.1 x) n (τ.2.1 y) a K.toInt Q.toInt V.toInt M e → zRq (τ.1 x) n (τ.2.1 y) k q v nm (zAr a0 k q v nm τ m K Q V M) (m + 1) (fun j => if j = m + 1 then e else E j) := fun K Q V M e he hK => by
      obtain ⟨q1, q2, q3, q4, q5⟩ := zAr_at (K := K) (Q := Q) (V := V) (M := M) hd hm (by omega)
      refine ⟨by show (if 0 = m + 1 then e else E 0) = 0; rw [if_neg (by omega)]; exact hT.1, fun j hj => ?_, fun j hj => ?_⟩
      · rw [q2, q3, q4, q5]
        by_cases hjm : j = m
        · subst hjm
          rw [if_pos rfl, if_pos rfl, if_pos rfl, if_pos rfl]
          simp only [if_pos, if_neg (show ¬ j = j + 1 by omega)]
          rw [hE]
          exact hK
        · rw [if_neg hjm, if_neg hjm, if_neg hjm, if_neg hjm]
          simp only [if_neg (show ¬ j = m + 1 by omega), if_neg (show ¬ j + 1 = m + 1 by omega)]
          exact hT.2.1 j (by omega)
      · rw [q2]
        by_cases hjm : j = m
        · exact absurd hj (by omega)
        · rw [if_neg hjm]
          by_cases h9 : j + 1 = m
          · have hg := hz (by omega)
            rw [show m - 1 = j by omega] at hg
            exact hg
          · exact hT.2.2 j (by omega)
    have go : ∀ (K Q V : Int32) (M : Int64) (e : Nat) (ex : Int32), ex.toInt = e → p < e → e ≤ n → K.toInt ≠ 0 → zRT (τ.1 x) n (τ.2.1 y) a K.toInt Q.toInt V.toInt M e → ∃ (m' : Nat) (E' : Nat → Nat), ((F_X11_cut_7 a0 N ex (F_X11_token a0 K Q V M τ)).1 a0 10).toInt = m' ∧ m' ≤ 401 ∧ zRq (τ.1 x) n (τ.2.1 y) k q v nm (F_X11_cut_7 a0 N ex (F_X11_token a0 K Q V M τ)) m' E' ∧ (m' = 401 ∨ (0 < m' ∧ ((F_X11_cut_7 a0 N ex (F_X11_token a0 K Q V M τ)).1 k (m' - 1)).toInt = 0)) ∧ zFq a0 k q v nm τ (F_X11_cut_7 a0 N ex (F_X11_token a0 K Q V M τ)) := fun K Q V M e ex hex hpe hen hK0 hK => by
      rw [rtok hl hd hm]
      obtain ⟨τ1, h1⟩ : ∃ s, s = zAr a0 k q v nm τ m K Q V M := ⟨_, rfl⟩
      have fr := zAr_fr (m := m) (K := K) (Q := Q) (V := V) (M := M) (σ := τ) hd
      obtain ⟨q1, q2, q3, q4, q5⟩ := zAr_at (K := K) (Q := Q) (V := V) (M := M) hd hm (by omega)
      have tk := tok K Q V M e hen hK
      rw [← h1] at fr q1 q2 tk ⊢
      have hx1 : τ1.1 x = τ.1 x := fr.2.1 x hx.1 hx.2.1 hx.2.2.1 hx.2.2.2
      have hy1 : τ1.2.1 y = τ.2.1 y := fr.2.2.1 y hyn
      have ht1 : zTx a0 x n τ1 := ⟨by rw [fr.1]; exact ht.1, by rw [fr.2.2.2 4 (by decide)]; exact ht.2.1, ht.2.2.1, by rw [hx1]; exact ht.2.2.2⟩
      have hl1 : zRl a0 k q v nm y τ1 := by unfold zRl; rw [fr.1]; exact hl
      obtain ⟨m', E', z1, z2, z3, z4, z5⟩ := ih ex τ1 (m + 1) e e (fun j => if j = m + 1 then e else E j) ht1 hl1 q1 (by omega) hex (Nat.le_refl _) hen (if_pos rfl) (fun j z1 z2 => absurd z2 (by omega)) (by rw [hx1, hy1]; exact tk) (fun _ => by
        rw [show m + 1 - 1 = m by omega, q2, if_pos rfl]
        exact hK0) (by omega)
      exact ⟨m', E', z1, z2, by rw [hx1, hy1] at z3; exact z3, z4, fr.tr z5⟩
    rw [F_X11_cut_7]
    simp only [zlt, zlt2, e9, e10, e13, e32, rL1, rD1]
    rw [if_neg (by rw [e400]; omega)]
    by_cases c1 : p < n
    · rw [if_pos (by omega)]
      rw [if_pos c1] at hbt
      have hr := ht.2.2.2 p
      have blank : Unit → zBl (τ.1 x p).toInt → ∃ (m' : Nat) (E' : Nat → Nat), ((F_X11_cut_7 a0 N (i + (1 : Int32)) τ).1 a0 10).toInt = m' ∧ m' ≤ 401 ∧ zRq (τ.1 x) n (τ.2.1 y) k q v nm (F_X11_cut_7 a0 N (i + (1 : Int32)) τ) m' E' ∧ (m' = 401 ∨ (0 < m' ∧ ((F_X11_cut_7 a0 N (i + (1 : Int32)) τ).1 k (m' - 1)).toInt = 0)) ∧ zFq a0 k q v nm τ (F_X11_cut_7 a0 N (i + (1 : Int32)) τ) := fun _ z =>
        ih (i + (1 : Int32)) τ m a (p + 1) E ht hl hm hm4 (zp1 hi (by omega)) (by omega) (by omega) hE (fun j h1 h2 => by
          by_cases hj : j = p
          · subst hj; exact ⟨c1, z⟩
          · exact hb j h1 (by omega)) hT hz (by omega)
      have bl := zblub hr.1 hr.2
      rw [← hbt] at bl
      by_cases b1 : (F_X11_byteAt a0 i τ).toInt = 9
      · rw [if_pos b1]; exact blank () (by rw [← bl]; exact Or.inl b1)
      rw [if_neg b1]
      by_cases b2 : (F_X11_byteAt a0 i τ).toInt = 10
      · rw [if_pos b2]; exact blank () (by rw [← bl]; exact Or.inr (Or.inl b2))
      rw [if_neg b2]
      by_cases b3 : (F_X11_byteAt a0 i τ).toInt = 13
      · rw [if_pos b3]; exact blank () (by rw [← bl]; exact Or.inr (Or.inr (Or.inl b3)))
      rw [if_neg b3]
      by_cases b4 : (F_X11_byteAt a0 i τ).toInt = 32
      · rw [if_pos b4]; exact blank () (by rw [← bl]; exact Or.inr (Or.inr (Or.inr b4)))
      rw [if_neg b4]
      have nb : ¬ zBl (τ.1 x p).toInt := by rw [← bl]; omega
      have hR : zRun zBl (τ.1 x) n a p := ⟨hap, hb, fun z => nb z.2⟩
      have e0 : (0 : Int32).toInt = 0 := by decide
      have e1 : (1 : Int32).toInt = 1 := by decide
      by_cases b5 : zLt (F_X11_byteAt a0 i τ).toInt
      · rw [if_neg (fun z => z b5)]
        have b6 : p < n ∧ zLt (τ.1 x p).toInt := by rw [← rbyL ht hi]; exact b5
        obtain ⟨e, ex, K, M, h1, h2, h3, h4, h5⟩ := rl_loop (v12 := F_X11_byteAt a0 i τ) (k7 := F_X11_cut_7 a0 N) hl.2.2.2.2 ht hi 10000 (Int64.ofNat 0) 0 0 (by decide) (by omega) (fun j z1 z2 => absurd z2 (by omega)) (by unfold zlr; rfl) (by omega)
        rw [h5]
        have hpe : p < e := by
          rcases Nat.lt_or_ge p e with z | z
          · exact z
          · have : e = p := Nat.le_antisymm z h3.1
            subst this
            exact absurd b6 h3.2.2
        refine go K i 0 M e ex h1 hpe h2 ?_ ⟨p, hR, hi, hpn, Or.inr (Or.inl ⟨c1, b6.2, h3, h4⟩)⟩
        rcases h4 with ⟨-, z⟩ | ⟨-, -, z⟩
        · omega
        · rcases z with ⟨z, -⟩ | ⟨j, -, z, -⟩ <;> omega
      · rw [if_pos b5]
        by_cases b7 : zDg (F_X11_byteAt a0 i τ).toInt
        · rw [if_neg (fun z => z b7)]
          have b6 : p < n ∧ zDg (τ.1 x p).toInt := by rw [← rbyD ht hi]; exact b7
          obtain ⟨e, ex, K, V, h1, h2, h3, h4, h5⟩ := rd_loop (v12 := F_X11_byteAt a0 i τ) (k7 := F_X11_cut_7 a0 N) ht hi 10000 0 0 0 (by decide) (by omega) (fun j z1 z2 => absurd z2 (by omega)) (fun _ => by show (0 : Int32).toInt = 0; decide) (by omega)
          rw [h5]
          have hpe : p < e := by
            rcases Nat.lt_or_ge p e with z | z
            · exact z
            · have : e = p := Nat.le_antisymm z h3.1
              subst this
              exact absurd b6 h3.2.2
          refine go K i V _ e ex h1 hpe h2 (by omega) ⟨p, hR, hi, hpn, Or.inr (Or.inr (Or.inl ⟨c1, b6.2, h3, h4⟩))⟩
        · rw [if_pos b7]
          obtain ⟨K, s1, s2⟩ := rsign (a0 := a0) (i := i) (c := F_X11_byteAt a0 i τ) (d := F_X11_byteAt a0 (i + (1 : Int32)) τ) (σ := τ)
          rw [s1]
          have b8 : ¬ zLt (τ.1 x p).toInt := fun z => b5 (by rw [rbyL ht hi]; exact ⟨c1, z⟩)
          have b9 : ¬ zDg (τ.1 x p).toInt := fun z => b7 (by rw [rbyD ht hi]; exact ⟨c1, z⟩)
          rw [hbt, zsr_ub hr.1] at s2
          refine go K i 0 _ (p + 1) (i + (1 : Int32)) (zp1 hi (by omega)) (by omega) (by omega) ?_ ⟨p, hR, hi, hpn, Or.inr (Or.inr (Or.inr ⟨c1, b8, b9, rfl, s2⟩))⟩
          rw [s2]
          unfold zsr
          (repeat' split) <;> omega
    · rw [if_neg (by omega), rtok hl hd hm]
      have hpn2 : p = n := by omega
      have hR : zRun zBl (τ.1 x) n a p := ⟨hap, hb, fun z => by omega⟩
      obtain ⟨q1, q2, q3, q4, q5⟩ := zAr_at (K := 0) (Q := τ.1 a0 4) (V := 0) (M := Int64.ofNat 0) hd hm (by omega)
      refine ⟨m + 1, _, q1, by omega, tok 0 (τ.1 a0 4) 0 (Int64.ofNat 0) p hpn ⟨p, hR, by omega, hpn, Or.inl ⟨hpn2, by decide⟩⟩, Or.inr ⟨by omega, ?_⟩, zAr_fr hd⟩
      rw [show m + 1 - 1 = m by omega, q2, if_pos rfl]
      decide
end
-- 35f.pure6
section
/-! BOTH SIDES' TOKENS ARE ALIKE -/
def zvr (b : Int) : List Int → Int
  | [] => 0
  | c :: l => zvr b l * b + c
theorem zvb_rev (b : Int) (l : List Int) : zvb b l = zvr b l.reverse := by
  have key : ∀ m : List Int, zvb b m.reverse = zvr b m := fun m => by
    induction m with
    | nil => rfl
    | cons c m ih => rw [List.reverse_cons, zvb_snoc, ih]; rfl
  have := key l.reverse
  rw [List.reverse_reverse] at this
  exact this
def zlet (l : List Int) : Prop := ∀ c ∈ l, 1 ≤ c ∧ c ≤ 26
theorem zvr_nn27 : ∀ l, zlet l → 0 ≤ zvr 27 l
  | [], _ => by decide
  | c :: l, h => by
    have h1 := h c List.mem_cons_self
    have h2 := zvr_nn27 l (fun x hx => h x (List.mem_cons_of_mem _ hx))
    show 0 ≤ zvr 27 l * 27 + c
    omega
theorem zvr_nn32 : ∀ l, zlet l → 0 ≤ zvr 32 l
  | [], _ => by decide
  | c :: l, h => by
    have h1 := h c List.mem_cons_self
    have h2 := zvr_nn32 l (fun x hx => h x (List.mem_cons_of_mem _ hx))
    show 0 ≤ zvr 32 l * 32 + c
    omega
theorem zvr_i27 : ∀ l l', zlet l → zlet l' → zvr 27 l = zvr 27 l' → l = l'
  | [], [], _, _, _ => rfl
  | [], c :: l', _, h', e => by
    have h1 := h' c List.mem_cons_self
    have h2 := zvr_nn27 l' (fun x hx => h' x (List.mem_cons_of_mem _ hx))
    have e2 : (0 : Int) = zvr 27 l' * 27 + c := e
    omega
  | c :: l, [], h, _, e => by
    have h1 := h c List.mem_cons_self
    have h2 := zvr_nn27 l (fun x hx => h x (List.mem_cons_of_mem _ hx))
    have e2 : zvr 27 l * 27 + c = 0 := e
    omega
  | c :: l, c' :: l', h, h', e => by
    have h1 := h c List.mem_cons_self
    have h1' := h' c' List.mem_cons_self
    have e2 : zvr 27 l * 27 + c = zvr 27 l' * 27 + c' := e
    have e3 : c = c' := by omega
    have e4 : zvr 27 l = zvr 27 l' := by omega
    rw [e3, zvr_i27 l l' (fun x hx => h x (List.mem_cons_of_mem _ hx)) (fun x hx => h' x (List.mem_cons_of_mem _ hx)) e4]
theorem zvr_i32 : ∀ l l', zlet l → zlet l' → zvr 32 l = zvr 32 l' → l = l'
  | [], [], _, _, _ => rfl
  | [], c :: l', _, h', e => by
    have h1 := h' c List.mem_cons_self
    have h2 := zvr_nn32 l' (fun x hx => h' x (List.mem_cons_of_mem _ hx))
    have e2 : (0 : Int) = zvr 32 l' * 32 + c := e
    omega
  | c :: l, [], h, _, e => by
    have h1 := h c List.mem_cons_self
    have h2 := zvr_nn32 l (fun x hx => h x (List.mem_cons_of_mem _ hx))
    have e2 : zvr 32 l * 32 + c = 0 := e
    omega
  | c :: l, c' :: l', h, h', e => by
    have h1 := h c List.mem_cons_self
    have h1' := h' c' List.mem_cons_self
    have e2 : zvr 32 l * 32 + c = zvr 32 l' * 32 + c' := e
    have e3 : c = c' := by omega
    have e4 : zvr 32 l = zvr 32 l' := by omega
    rw [e3, zvr_i32 l l' (fun x hx => h x (List.mem_cons_of_mem _ hx)) (fun x hx => h' x (List.mem_cons_of_mem _ hx)) e4]
theorem zvr_b27 : ∀ l, zlet l → zvr 27 l < 27 ^ l.length
  | [], _ => by decide
  | c :: l, h => by
    have h1 := h c List.mem_cons_self
    have h2 := zvr_b27 l (fun x hx => h x (List.mem_cons_of_mem _ hx))
    show zvr 27 l * 27 + c < 27 ^ (l.length + 1)
    rw [Int.pow_succ]
    omega
theorem zvr_b32 : ∀ l, zlet l → zvr 32 l < 32 ^ l.length
  | [], _ => by decide
  | c :: l, h => by
    have h1 := h c List.mem_cons_self
    have h2 := zvr_b32 l (fun x hx => h x (List.mem_cons_of_mem _ hx))
    show zvr 32 l * 32 + c < 32 ^ (l.length + 1)
    rw [Int.pow_succ]
    omega
theorem zlet_rev {l : List Int} (h : zlet l) : zlet l.reverse := fun c hc => h c (List.mem_reverse.mp hc)
theorem zpw {b : Int} (hb : 1 ≤ b) : ∀ {n m : Nat}, n ≤ m → b ^ n ≤ b ^ m := fun {n m} h => by
  induction m with
  | zero => rw [show n = 0 by omega]; exact Int.le_refl _
  | succ m ih =>
    by_cases e : n = m + 1
    · subst e; exact Int.le_refl _
    · have q := ih (by omega)
      have p0 : 0 ≤ b ^ m := Int.pow_nonneg (by omega)
      rw [Int.pow_succ]
      have : b ^ m * 1 ≤ b ^ m * b := Int.mul_le_mul_of_nonneg_left hb p0
      omega
theorem zof27 {l : List Int} (h : zlet l) (hl : l.length ≤ 8) : (Int64.ofInt (zvb 27 l)).toInt = zvr 27 l.reverse := by
  rw [zvb_rev]
  have h1 := zvr_nn27 _ (zlet_rev h)
  have h2 := zvr_b27 _ (zlet_rev h)
  have h3 := zpw (b := 27) (by decide) (show l.reverse.length ≤ 8 by simpa using hl)
  have e8 : (27 : Int) ^ 8 = 282429536481 := by decide
  rw [e8] at h3
  exact Int64.toInt_ofInt_of_le (by omega) (by omega)
theorem zof32 {l : List Int} (h : zlet l) (hl : l.length ≤ 8) : (Int64.ofInt (zvb 32 l)).toInt = zvr 32 l.reverse := by
  rw [zvb_rev]
  have h1 := zvr_nn32 _ (zlet_rev h)
  have h2 := zvr_b32 _ (zlet_rev h)
  have h3 := zpw (b := 32) (by decide) (show l.reverse.length ≤ 8 by simpa using hl)
  have e8 : (32 : Int) ^ 8 = 1099511627776 := by decide
  rw [e8] at h3
  exact Int64.toInt_ofInt_of_le (by omega) (by omega)
/-- one word on both sides -/
def zNR (x y : Int64) : Prop := ∃ w : List Int, zlet w ∧ w.length ≤ 8 ∧ x = Int64.ofInt (zvb 32 w) ∧ y = Int64.ofInt (zvb 27 w)
theorem zNR.inj {x y x' y' : Int64} (h : zNR x y) (g : zNR x' y') : x = x' ↔ y = y' := by
  obtain ⟨w, h1, h2, rfl, rfl⟩ := h
  obtain ⟨w', g1, g2, rfl, rfl⟩ := g
  constructor
  · intro e
    have q := congrArg Int64.toInt e
    rw [zof32 h1 h2, zof32 g1 g2] at q
    have q2 := zvr_i32 _ _ (zlet_rev h1) (zlet_rev g1) q
    rw [List.reverse_inj.mp q2]
  · intro e
    have q := congrArg Int64.toInt e
    rw [zof27 h1 h2, zof27 g1 g2] at q
    have q2 := zvr_i27 _ _ (zlet_rev h1) (zlet_rev g1) q
    rw [List.reverse_inj.mp q2]
theorem zwd_len (b : Nat → Int32) (a : Nat) : ∀ k, (zwd b a k).length = k
  | 0 => rfl
  | k + 1 => by rw [zwd, List.length_append, zwd_len b a k]; rfl
theorem zwd_let {b : Nat → Int32} {a : Nat} : ∀ k, (∀ j, j < k → zLt (b (a + j)).toInt) → zlet (zwd b a k)
  | 0, _ => fun c hc => absurd hc List.not_mem_nil
  | k + 1, h => fun c hc => by
    rw [zwd] at hc
    rcases List.mem_append.mp hc with q | q
    · exact zwd_let k (fun j hj => h j (by omega)) c q
    · have e := List.mem_singleton.mp q
      have := h k (by omega)
      unfold zLt at this
      omega
theorem zNR_words : ∀ i, i < 22 → zNR (zw32 i) (zw27 i) := by
  intro i hi
  have key : ∀ j : Fin 22, (zwl.getD j.val []).length ≤ 8 ∧ (zwl.getD j.val []).all (fun c => decide (1 ≤ c ∧ c ≤ 26)) = true := by decide +kernel
  have q := key ⟨i, hi⟩
  exact ⟨zwl.getD i [], fun c hc => of_decide_eq_true (List.all_eq_true.mp q.2 c hc), q.1, rfl, rfl⟩
theorem zw27_inj : ∀ i j, i < 22 → j < 22 → zw27 i = zw27 j → i = j := by
  intro i j hi hj h
  have key : ∀ a b : Fin 22, zw27 a.val = zw27 b.val → a = b := by decide +kernel
  have q := key ⟨i, hi⟩ ⟨j, hj⟩ h
  exact congrArg Fin.val q
def zrho (k : Int) : Int := if k ≤ 21 then 20 + k else if k = 22 then 1 else if k = 23 then 2 else if k = 24 then 4 else if k = 25 then 5 else if k = 26 then 8 else if k = 27 then 9 else if k = 28 then 10 else if k = 29 then 15 else if k = 30 then 13 else if k = 31 then 6 else if k = 32 then 7 else if k = 33 then 0 else 3
theorem zrho_sg (c : Int) : zrho (zsg c) = zsr c := by
  unfold zsg zsr
  split
  · rfl
  split
  · rfl
  split
  · rfl
  split
  · rfl
  split
  · rfl
  split
  · rfl
  split
  · rfl
  split
  · rfl
  split
  · rfl
  rfl
theorem zsg_rng (c : Int) : 24 ≤ zsg c ∧ zsg c ≤ 34 := by
  unfold zsg
  split
  · decide
  split
  · decide
  split
  · decide
  split
  · decide
  split
  · decide
  split
  · decide
  split
  · decide
  split
  · decide
  split
  · decide
  decide
/-- a token on both sides -/
def zTR (K : Int) (V : Int64) (Q rk rq rv : Int) (M : Int64) : Prop := Q = rq ∧ rk = zrho K ∧ 0 ≤ K ∧ K ≤ 34 ∧ (K = 22 → zNR V M) ∧ (K = 23 → V.toInt32.toInt = rv)
theorem zone {b : Nat → Int32} {n a e e' : Nat} {W Y : Nat → Int64} {K Q rk rq rv : Int} {V M : Int64} (hW : ∀ i, i < 22 → W i = zw32 i) (hY : ∀ i, i < 22 → Y i = zw27 i) (h : zCT b n W a K V Q e) (g : zRT b n Y a rk rq rv M e') : zTR K V Q rk rq rv M ∧ (K < 33 → e = e') ∧ (K = 33 ↔ rk = 0) := by
  obtain ⟨s, h1, h2, h3, h4⟩ := h
  obtain ⟨s', g1, g2, g3, g4⟩ := g
  have es := h1.uniq g1
  subst es
  have hQ : Q = rq := by omega
  have ld : ∀ c : Int, zLt c → zDg c → False := fun c x y => by unfold zLt at x; unfold zDg at y; omega
  have simple : rk = zrho K → 0 ≤ K → K ≤ 34 → K ≠ 22 → K ≠ 23 → zTR K V Q rk rq rv M := fun q1 q2 q3 q4 q5 => ⟨hQ, q1, q2, q3, fun z => absurd z q4, fun z => absurd z q5⟩
  rcases h4 with ⟨c1, c2, -⟩ | ⟨c1, c2, c3, c4, c5⟩ | ⟨c1, c2, c3, c5⟩ | ⟨c1, c2, c3, c4, c5⟩
  · rcases g4 with ⟨d1, d2⟩ | ⟨d1, d2, d3, d4⟩ | ⟨d1, d2, d3, d4⟩ | ⟨d1, d2, d3, d4, d5⟩
    · refine ⟨simple (by rw [c2, d2]; decide) (by omega) (by omega) (by omega) (by omega), fun z => by omega, by omega⟩
    · omega
    · omega
    · omega
  · rcases g4 with ⟨d1, d2⟩ | ⟨d1, d2, d3, d4⟩ | ⟨d1, d2, d3, d4⟩ | ⟨d1, d2, d3, d4, d5⟩
    · omega
    · have ee := c3.uniq d3
      subst ee
      rcases c5 with ⟨c6, c7⟩ | ⟨c6, c7⟩
      · rcases d4 with ⟨d5, d6⟩ | ⟨d5, d6, d7⟩
        · exact ⟨simple (by rw [c7, d6]; decide) (by omega) (by omega) (by omega) (by omega), fun _ => rfl, by omega⟩
        · omega
      · rcases d4 with ⟨d5, d6⟩ | ⟨d5, d6, d7⟩
        · omega
        · have hse := c3.1
          have hlet : zlet (zwd b s (e - s)) := zwd_let _ (fun j hj => (c3.2.1 (s + j) (by omega) (by omega)).2)
          have hN : zNR V M := ⟨zwd b s (e - s), hlet, by rw [zwd_len]; exact c6, by rw [c4]; unfold zlv; rw [if_pos c6], d6⟩
          rcases c7 with ⟨x1, x2⟩ | ⟨i, x1, x2, x3⟩
          · rcases d7 with ⟨y1, y2⟩ | ⟨j, y1, y2, y3⟩
            · exact ⟨⟨hQ, by rw [x1, y1]; decide, by omega, by omega, fun _ => hN, fun z => by omega⟩, fun _ => rfl, by omega⟩
            · exfalso
              rw [hY j y1] at y3
              exact x2 j y1 (by rw [hW j y1]; exact ((zNR_words j y1).inj hN).mpr y3)
          · rcases d7 with ⟨y1, y2⟩ | ⟨j, y1, y2, y3⟩
            · exfalso
              rw [hW i x1] at x3
              exact y2 i x1 (by rw [hY i x1]; exact ((zNR_words i x1).inj hN).mp x3)
            · rw [hW i x1] at x3
              rw [hY j y1] at y3
              have e1 := ((zNR_words i x1).inj hN).mp x3
              have e2 := zw27_inj i j x1 y1 (e1.trans y3.symm)
              subst e2
              refine ⟨simple ?_ (by omega) (by omega) (by omega) (by omega), fun _ => rfl, by omega⟩
              rw [x2, y2]
              unfold zrho
              rw [if_pos (by omega)]
    · exact absurd d2 (fun z => ld _ c2 z)
    · exact absurd c2 d2
  · rcases g4 with ⟨d1, d2⟩ | ⟨d1, d2, d3, d4⟩ | ⟨d1, d2, d3, d4⟩ | ⟨d1, d2, d3, d4, d5⟩
    · omega
    · exact absurd c2 (fun z => ld _ d2 z)
    · have ee := c3.uniq d3
      subst ee
      rcases c5 with ⟨c6, c7⟩ | ⟨c6, c7, y, c8, c9⟩
      · rcases d4 with ⟨d5, d6⟩ | ⟨d5, d6, d7⟩
        · exact ⟨simple (by rw [c7, d6]; decide) (by omega) (by omega) (by omega) (by omega), fun _ => rfl, by omega⟩
        · omega
      · rcases d4 with ⟨d5, d6⟩ | ⟨d5, d6, d7⟩
        · omega
        · exact ⟨⟨hQ, by rw [c7, d6]; decide, by omega, by omega, fun z => by omega, fun _ => by rw [c8, Int32.toInt32_toInt64, c9, d7]⟩, fun _ => rfl, by omega⟩
    · exact absurd c2 d3
  · rcases g4 with ⟨d1, d2⟩ | ⟨d1, d2, d3, d4⟩ | ⟨d1, d2, d3, d4⟩ | ⟨d1, d2, d3, d4, d5⟩
    · omega
    · exact absurd d2 c2
    · exact absurd d2 c3
    · have r := zsg_rng (b s).toInt
      refine ⟨simple (by rw [c5, d5, zrho_sg]) (by omega) (by omega) (by omega) (by omega), fun _ => by omega, ?_⟩
      rw [c5, d5]
      constructor
      · intro z
        have := zrho_sg (b s).toInt
        rw [z] at this
        rw [← this]
        decide
      · intro z
        have e := zrho_sg (b s).toInt
        rw [z] at e
        unfold zrho at e
        rcases (show zsg (b s).toInt = 24 ∨ zsg (b s).toInt = 25 ∨ zsg (b s).toInt = 26 ∨ zsg (b s).toInt = 27 ∨ zsg (b s).toInt = 28 ∨ zsg (b s).toInt = 29 ∨ zsg (b s).toInt = 30 ∨ zsg (b s).toInt = 31 ∨ zsg (b s).toInt = 32 ∨ zsg (b s).toInt = 33 ∨ zsg (b s).toInt = 34 by omega) with q | q | q | q | q | q | q | q | q | q | q
        all_goals (rw [q] at e; first | exact q | exact absurd e (by decide))
/-- all tokens -/
theorem zall {b : Nat → Int32} {n m m' : Nat} {W Y : Nat → Int64} {k v q k' q' v' nm : Nat} {σ τ : zS} {E E' : Nat → Nat} (hW : ∀ i, i < 22 → W i = zw32 i) (hY : ∀ i, i < 22 → Y i = zw27 i) (h : zTk b n W k v q σ m E) (g : zRq b n Y k' q' v' nm τ m' E') (hm : m ≤ 401) (ge : m' = 401 ∨ (0 < m' ∧ (τ.1 k' (m' - 1)).toInt = 0)) (h0 : 0 < m) (g0 : 0 < m') :
    ∀ j, j < m → j < m' ∧ E j = E' j ∧ zTR (σ.1 k j).toInt (σ.2.1 v j) (σ.1 q j).toInt (τ.1 k' j).toInt (τ.1 q' j).toInt (τ.1 v' j).toInt (τ.2.1 nm j) := by
  intro j
  induction j with
  | zero =>
    intro hj
    have e0 : E 0 = E' 0 := h.1.trans g.1.symm
    have gq := g.2.1 0 g0
    rw [← e0] at gq
    exact ⟨g0, e0, (zone hW hY (h.2.1 0 hj).1 gq).1⟩
  | succ j ih =>
    intro hj
    obtain ⟨i1, i2, i3⟩ := ih (by omega)
    have gq := g.2.1 j i1
    rw [← i2] at gq
    have o := zone hW hY (h.2.1 j (by omega)).1 gq
    have hk := h.2.2 j hj
    have e1 := o.2.1 hk
    have lt : j + 1 < m' := by
      rcases ge with z | ⟨z1, z2⟩
      · omega
      · by_cases q : m' - 1 = j
        · rw [q] at z2
          have := o.2.2.mpr z2
          omega
        · omega
    have gq1 := g.2.1 (j + 1) lt
    rw [← e1] at gq1
    exact ⟨lt, e1, (zone hW hY (h.2.1 (j + 1) hj).1 gq1).1⟩
/-- places grow -/
theorem zmono {b : Nat → Int32} {n m : Nat} {W : Nat → Int64} {k v q : Nat} {σ : zS} {E : Nat → Nat} (h : zTk b n W k v q σ m E) : ∀ j, j + 1 < m → (σ.1 q j).toInt < (σ.1 q (j + 1)).toInt := by
  intro j hj
  obtain ⟨s, h1, h2, h3, h4⟩ := (h.2.1 j (by omega)).1
  obtain ⟨s', g1, g2, g3, -⟩ := (h.2.1 (j + 1) hj).1
  have hk := h.2.2 j hj
  have hs : s < E (j + 1) := by
    rcases h4 with ⟨c1, c2, -⟩ | ⟨c1, c2, c3, -, -⟩ | ⟨c1, c2, c3, -⟩ | ⟨c1, c2, c3, c4, -⟩
    · omega
    · rcases Nat.lt_or_ge s (E (j + 1)) with z | z
      · exact z
      · have e := Nat.le_antisymm z c3.1
        rw [e] at c3
        exact absurd ⟨c1, c2⟩ c3.2.2
    · rcases Nat.lt_or_ge s (E (j + 1)) with z | z
      · exact z
      · have e := Nat.le_antisymm z c3.1
        rw [e] at c3
        exact absurd ⟨c1, c2⟩ c3.2.2
    · omega
  have := g1.1
  omega
end
-- 35g.pure7
section
/-! READING A TEXT, told once for both sides: tokens (kinds; names on both sides; numbers; places), a state (fault, its place, token, late fault, its place, is the mouth told, places told, names) -/
theorem zne {α : Type} {x y : α} (h : x = y) : ¬ x ≠ y := fun z => z h
abbrev zTn : Type := (Nat → Int) × (Nat → Int64 × Int64) × (Nat → Int) × (Nat → Int)
abbrev zA : Type := Int × Int × Nat × Int × Int × Int × Int × (Nat → Int64 × Int64)
def aFail (T : zTn) (n : Int) (s : zA) : zA := if s.1 ≠ 0 then s else (n, T.2.2.2 s.2.2.1, s.2.2)
def aTake (T : zTn) (w : Int) (s : zA) : zA := if s.1 ≠ 0 then s else if T.1 s.2.2.1 ≠ w then aFail T 1 s else if 400 ≤ s.2.2.1 then aFail T 2 s else (s.1, s.2.1, s.2.2.1 + 1, s.2.2.2)
def aLate (T : zTn) (n : Int) (s : zA) : zA := if s.1 ≠ 0 then s else if s.2.2.2.1 ≠ 0 then s else (s.1, s.2.1, s.2.2.1, n, T.2.2.2 s.2.2.1, s.2.2.2.2.2)
def aFind (nm : Nat → Int64 × Int64) (pt : Int) (x : Int64) : Nat → Nat → Int
  | 0, _ => -1
  | n + 1, p => if (p : Int) ≤ pt ∧ p < 12 then (if (nm p).1 = x then p else aFind nm pt x n (p + 1)) else -1
def aNum (s : zA) (x : Int64) : Int := aFind s.2.2.2.2.2.2.2 s.2.2.2.2.2.2.1 x 20 (if s.2.2.2.2.2.1 = 0 then 1 else 0)
def aNew (T : zTn) (s : zA) : zA := aTake T 22 (if s.1 = 0 ∧ T.1 s.2.2.1 = 22 ∧ aNum s (T.2.1 s.2.2.1).1 ≠ -1 then aLate T 3 s else s)
def aKnown (T : zTn) (s : zA) : zA := aTake T 22 (if s.1 = 0 ∧ T.1 s.2.2.1 = 22 ∧ aNum s (T.2.1 s.2.2.1).1 = -1 then aLate T 4 s else s)
def aNumb (T : zTn) (lo hi : Int) (s : zA) : zA := aTake T 23 (if s.1 = 0 ∧ T.1 s.2.2.1 = 23 ∧ ¬ (lo ≤ T.2.2.1 s.2.2.1 ∧ T.2.2.1 s.2.2.1 ≤ hi) then aLate T 5 s else s)
def zTK (T : zTn) (m : Nat) : Prop := 0 < m ∧ m ≤ 401 ∧ ∀ j, j < m → T.1 j < 33 → j < 400 → j + 1 < m
/-- the text's own cells are apart from the parser's -/
def zTd (P tk kA qA tt : Nat) (R : Nat → Nat → Option Nat) : Prop := (tt ≠ P ∧ tt ≠ tk ∧ tt ≠ kA ∧ tt ≠ qA) ∧ ∀ j, (j = 2 ∨ j = 3 ∨ j = 4 ∨ j = 5 ∨ j = 6 ∨ j = 7 ∨ j = 9) → (R tt j).getD 0 ≠ P ∧ (R tt j).getD 0 ≠ tk ∧ (R tt j).getD 0 ≠ kA ∧ (R tt j).getD 0 ≠ qA
/-- what of the class' cells stays while a text is read -/
def zVs (P tk kA vA qA tt N m : Nat) (T : zTn) (σ : zS) : Prop :=
  (σ.2.2 P 0 = some tk ∧ σ.2.2 P 1 = some tt ∧ σ.2.2 tk 1 = some kA ∧ σ.2.2 tk 2 = some vA ∧ σ.2.2 tk 3 = some qA ∧ σ.2.2 tt 1 = some N) ∧ (σ.1 tk 4).toInt = m ∧ (∀ j, (σ.1 kA j).toInt = T.1 j ∧ σ.2.1 vA j = (T.2.1 j).1 ∧ (σ.2.1 vA j).toInt32.toInt = T.2.2.1 j ∧ (σ.1 qA j).toInt = T.2.2.2 j) ∧ zTd P tk kA qA tt σ.2.2
def zVr (P N m : Nat) (T : zTn) (σ : zS) (s : zA) : Prop :=
  s.2.2.1 < m ∧ (σ.1 P 2).toInt = s.2.2.1 ∧ (σ.1 P 3).toInt = T.1 s.2.2.1 ∧ σ.2.1 P 4 = (T.2.1 s.2.2.1).1 ∧ (σ.1 P 5).toInt = T.2.2.2 s.2.2.1 ∧ (σ.1 P 10).toInt = s.2.2.2.1 ∧ (σ.1 P 11).toInt = s.2.2.2.2.1 ∧ (σ.1 P 6).toInt = s.2.2.2.2.2.1 ∧ (σ.1 P 7).toInt = s.2.2.2.2.2.2.1 ∧ (0 ≤ s.2.2.2.2.2.2.1 ∧ s.2.2.2.2.2.2.1 ≤ 11) ∧ ∀ p : Nat, (p : Int) ≤ s.2.2.2.2.2.2.1 → (p ≠ 0 ∨ s.2.2.2.2.2.1 ≠ 0) → σ.2.1 N p = (s.2.2.2.2.2.2.2 p).1
def zV (P tk kA vA qA tt N m : Nat) (T : zTn) (σ : zS) (s : zA) : Prop :=
  zVs P tk kA vA qA tt N m T σ ∧ (σ.1 P 8).toInt = s.1 ∧ (s.1 ≠ 0 → (σ.1 P 9).toInt = s.2.1 ∧ (σ.1 P 3).toInt = 34) ∧ (s.1 = 0 → zVr P N m T σ s)
def zVd (P tk kA vA qA N : Nat) : Prop := tk ≠ P ∧ kA ≠ P ∧ qA ≠ P ∧ vA ≠ P ∧ N ≠ P ∧ N ≠ vA
section ZV
variable {P tk kA vA qA tt N m : Nat} {T : zTn} {σ σ' : zS} {s : zA}
theorem zVs.cg (h : zVs P tk kA vA qA tt N m T σ) (e0 : σ'.2.2 = σ.2.2) (e1 : σ'.1 tk = σ.1 tk) (e2 : σ'.1 kA = σ.1 kA) (e3 : σ'.1 qA = σ.1 qA) (e4 : σ'.2.1 vA = σ.2.1 vA) : zVs P tk kA vA qA tt N m T σ' := by
  unfold zVs
  rw [e0, e1, e2, e3, e4]
  exact h
theorem zV.cg (h : zV P tk kA vA qA tt N m T σ s) (e0 : σ'.2.2 = σ.2.2) (e1 : σ'.1 tk = σ.1 tk) (e2 : σ'.1 kA = σ.1 kA) (e3 : σ'.1 qA = σ.1 qA) (e4 : σ'.2.1 vA = σ.2.1 vA) (e5 : σ'.1 P = σ.1 P) (e6 : σ'.2.1 P = σ.2.1 P) (e7 : σ'.2.1 N = σ.2.1 N) : zV P tk kA vA qA tt N m T σ' s := by
  refine ⟨h.1.cg e0 e1 e2 e3 e4, ?_⟩
  unfold zVr
  rw [e5, e6, e7]
  exact h.2
/-- the parser's own row alone has changed -/
theorem zVs.row (hd : zVd P tk kA vA qA N) (h : zVs P tk kA vA qA tt N m T σ) (e0 : σ'.2.2 = σ.2.2) (e1 : ∀ a, a ≠ P → σ'.1 a = σ.1 a) (e2 : ∀ a, a ≠ P → σ'.2.1 a = σ.2.1 a) : zVs P tk kA vA qA tt N m T σ' := h.cg e0 (e1 _ hd.1) (e1 _ hd.2.1) (e1 _ hd.2.2.1) (e2 _ hd.2.2.2.1)
theorem vFail (hd : zVd P tk kA vA qA N) (h : zV P tk kA vA qA tt N m T σ s) (n : Int32) (hn : n.toInt ≠ 0) : zV P tk kA vA qA tt N m T (F_X3_fail P n σ) (aFail T n.toInt s) := by
  unfold F_X3_fail aFail
  simp only [zlt]
  by_cases c : s.1 = 0
  · rw [if_pos (h.2.1.trans c), if_neg (zne c)]
    have r := h.2.2.2 c
    have e5 : zu σ.1 P 8 n P 5 = σ.1 P 5 := zu_j _ _ _ _ _ (by decide)
    rw [e5]
    refine ⟨h.1.row hd rfl (fun a ha => ?_) (fun a ha => rfl), ?_, fun _ => ⟨?_, ?_⟩, fun z => absurd z hn⟩
    · show zu (zu (zu σ.1 P 8 n) P 9 _) P 3 _ a = _
      rw [zu_n _ _ _ ha, zu_n _ _ _ ha, zu_n _ _ _ ha]
    · show (zu (zu (zu σ.1 P 8 n) P 9 _) P 3 _ P 8).toInt = _
      rw [zu_j _ _ _ _ _ (by decide), zu_j _ _ _ _ _ (by decide), zu_s]
    · show (zu (zu (zu σ.1 P 8 n) P 9 _) P 3 _ P 9).toInt = _
      rw [zu_j _ _ _ _ _ (by decide), zu_s]
      exact r.2.2.2.2.1
    · show (zu (zu (zu σ.1 P 8 n) P 9 _) P 3 _ P 3).toInt = _
      rw [zu_s]
      decide
  · rw [if_neg (fun z => c (h.2.1.symm.trans z)), if_pos c]
    exact h
theorem vLate (hd : zVd P tk kA vA qA N) (h : zV P tk kA vA qA tt N m T σ s) (hs : s.1 = 0) (n : Int32) : zV P tk kA vA qA tt N m T (F_X3_failLate P n σ) (aLate T n.toInt s) := by
  have r := h.2.2.2 hs
  obtain ⟨r1, r2, r3, r4, r5, r6, r7, r8, r9, r10, r11⟩ := r
  unfold F_X3_failLate aLate
  simp only [zlt]
  rw [if_neg (zne hs)]
  by_cases c : s.2.2.2.1 = 0
  · rw [if_pos (r6.trans c), if_neg (zne c)]
    have e5 : zu σ.1 P 10 n P 5 = σ.1 P 5 := zu_j _ _ _ _ _ (by decide)
    rw [e5]
    have g : ∀ j, j ≠ 10 → j ≠ 11 → zu (zu σ.1 P 10 n) P 11 (σ.1 P 5) P j = σ.1 P j := fun j h1 h2 => by rw [zu_j _ _ _ _ _ (fun z => h2 z.symm), zu_j _ _ _ _ _ (fun z => h1 z.symm)]
    refine ⟨h.1.row hd rfl (fun a ha => ?_) (fun a ha => rfl), ?_, fun z => absurd hs z, fun _ => ⟨r1, ?_, ?_, r4, ?_, ?_, ?_, ?_, ?_, r10, r11⟩⟩
    · show zu (zu σ.1 P 10 n) P 11 _ a = _
      rw [zu_n _ _ _ ha, zu_n _ _ _ ha]
    · show (zu (zu σ.1 P 10 n) P 11 _ P 8).toInt = _
      rw [g 8 (by decide) (by decide)]; exact h.2.1
    · show (zu (zu σ.1 P 10 n) P 11 _ P 2).toInt = _
      rw [g 2 (by decide) (by decide)]; exact r2
    · show (zu (zu σ.1 P 10 n) P 11 _ P 3).toInt = _
      rw [g 3 (by decide) (by decide)]; exact r3
    · show (zu (zu σ.1 P 10 n) P 11 _ P 5).toInt = _
      rw [g 5 (by decide) (by decide)]; exact r5
    · show (zu (zu σ.1 P 10 n) P 11 _ P 10).toInt = _
      rw [zu_j _ _ _ _ _ (by decide), zu_s]
    · show (zu (zu σ.1 P 10 n) P 11 _ P 11).toInt = _
      rw [zu_s]; exact r5
    · show (zu (zu σ.1 P 10 n) P 11 _ P 6).toInt = _
      rw [g 6 (by decide) (by decide)]; exact r8
    · show (zu (zu σ.1 P 10 n) P 11 _ P 7).toInt = _
      rw [g 7 (by decide) (by decide)]; exact r9
  · rw [if_neg (fun z => c (r6.symm.trans z)), if_pos c]
    exact h
/-- on to a token that is there -/
theorem vGo (hd : zVd P tk kA vA qA N) (h : zV P tk kA vA qA tt N m T σ s) (hs : s.1 = 0) (i : Int32) (k : Nat) (hi : i.toInt = k) (hk : k < m) : zV P tk kA vA qA tt N m T (F_X3_goTo P i σ) (s.1, s.2.1, k, s.2.2.2) := by
  have r := h.2.2.2 hs
  obtain ⟨r1, r2, r3, r4, r5, r6, r7, r8, r9, r10, r11⟩ := r
  obtain ⟨⟨l0, l1, l2, l3, l4, l5⟩, hm, ht, -⟩ := id h.1
  obtain ⟨d1, d2, d3, d4, d5, d6⟩ := hd
  have g0 : (σ.2.2 P 0).getD 0 = tk := by rw [l0]; rfl
  have g1 : (σ.2.2 tk 1).getD 0 = kA := by rw [l2]; rfl
  have g2 : (σ.2.2 tk 2).getD 0 = vA := by rw [l3]; rfl
  have g3 : (σ.2.2 tk 3).getD 0 = qA := by rw [l4]; rfl
  have en : i.toNatClampNeg = k := by rw [ztn, hi]; rfl
  have c1 : ¬ (1 : Int32).toInt = 0 := by decide
  unfold F_X3_goTo
  simp only [zlt, g0, g1, g2, g3, en]
  rw [if_neg (by omega), if_pos (by omega), if_neg c1, if_neg c1, if_neg c1]
  have k1 : zu σ.1 P 2 i kA k = σ.1 kA k := by rw [zu_n _ _ _ d2]
  have k2 : ∀ x, zu (zu σ.1 P 2 i) P 3 x qA k = σ.1 qA k := fun x => by rw [zu_n _ _ _ d3, zu_n _ _ _ d3]
  simp only [k1]
  have k3 : zu σ.2.1 P 4 (σ.2.1 vA k) = zu σ.2.1 P 4 (σ.2.1 vA k) := rfl
  simp only [k2]
  obtain ⟨t1, t2, -, t3⟩ := ht k
  have g : ∀ j, j ≠ 2 → j ≠ 3 → j ≠ 5 → zu (zu (zu σ.1 P 2 i) P 3 (σ.1 kA k)) P 5 (σ.1 qA k) P j = σ.1 P j := fun j h1 h2 h3 => by rw [zu_j _ _ _ _ _ (fun z => h3 z.symm), zu_j _ _ _ _ _ (fun z => h2 z.symm), zu_j _ _ _ _ _ (fun z => h1 z.symm)]
  refine ⟨h.1.row ⟨d1, d2, d3, d4, d5, d6⟩ rfl (fun a ha => ?_) (fun a ha => ?_), ?_, fun z => absurd hs z, fun _ => ⟨hk, ?_, ?_, ?_, ?_, ?_, ?_, ?_, ?_, r10, fun p h1 h2 => ?_⟩⟩
  · show zu (zu (zu σ.1 P 2 i) P 3 _) P 5 _ a = _
    rw [zu_n _ _ _ ha, zu_n _ _ _ ha, zu_n _ _ _ ha]
  · show zu σ.2.1 P 4 _ a = _
    rw [zu_n _ _ _ ha]
  · show (zu (zu (zu σ.1 P 2 i) P 3 _) P 5 _ P 8).toInt = _
    rw [g 8 (by decide) (by decide) (by decide)]; exact h.2.1
  · show (zu (zu (zu σ.1 P 2 i) P 3 _) P 5 _ P 2).toInt = _
    rw [zu_j _ _ _ _ _ (by decide), zu_j _ _ _ _ _ (by decide), zu_s]; exact hi
  · show (zu (zu (zu σ.1 P 2 i) P 3 _) P 5 _ P 3).toInt = _
    rw [zu_j _ _ _ _ _ (by decide), zu_s]; exact t1
  · show zu σ.2.1 P 4 _ P 4 = _
    rw [zu_s]; exact t2
  · show (zu (zu (zu σ.1 P 2 i) P 3 _) P 5 _ P 5).toInt = _
    rw [zu_s]; exact t3
  · show (zu (zu (zu σ.1 P 2 i) P 3 _) P 5 _ P 10).toInt = _
    rw [g 10 (by decide) (by decide) (by decide)]; exact r6
  · show (zu (zu (zu σ.1 P 2 i) P 3 _) P 5 _ P 11).toInt = _
    rw [g 11 (by decide) (by decide) (by decide)]; exact r7
  · show (zu (zu (zu σ.1 P 2 i) P 3 _) P 5 _ P 6).toInt = _
    rw [g 6 (by decide) (by decide) (by decide)]; exact r8
  · show (zu (zu (zu σ.1 P 2 i) P 3 _) P 5 _ P 7).toInt = _
    rw [g 7 (by decide) (by decide) (by decide)]; exact r9
  · show zu σ.2.1 P 4 _ N p = _
    rw [zu_n _ _ _ d5]; exact r11 p h1 h2
theorem vTake (hd : zVd P tk kA vA qA N) (hT : zTK T m) (h : zV P tk kA vA qA tt N m T σ s) (w : Int32) (hw : w.toInt < 33) : zV P tk kA vA qA tt N m T (F_X3_take P w σ) (aTake T w.toInt s) := by
  have e1 : (1 : Int32).toInt = 1 := by decide
  have e2 : (2 : Int32).toInt = 2 := by decide
  have e400 : (400 : Int32).toInt = 400 := by decide
  unfold F_X3_take aTake
  simp only [zlt]
  by_cases c : s.1 = 0
  · rw [if_neg (zne c)]
    obtain ⟨r1, r2, r3, -⟩ := h.2.2.2 c
    by_cases c1 : T.1 s.2.2.1 = w.toInt
    · rw [if_pos (r3.trans c1), if_neg (zne c1)]
      by_cases c2 : s.2.2.1 < 400
      · rw [if_pos (by omega), if_neg (by omega)]
        exact vGo hd h c _ (s.2.2.1 + 1) (zp1 r2 (by omega)) (hT.2.2 _ r1 (by omega) c2)
      · rw [if_neg (by omega), if_pos (by omega)]
        exact vFail hd h 2 (by decide)
    · rw [if_neg (fun z => c1 (r3.symm.trans z)), if_pos c1]
      exact vFail hd h 1 (by decide)
  · rw [if_pos c, if_neg (by rw [(h.2.2.1 c).2]; omega)]
    have q := vFail hd h 1 (by decide)
    unfold aFail at q
    rw [if_pos c] at q
    exact q
end ZV
theorem aTake_f {T : zTn} {s : zA} {w : Int} (c : s.1 ≠ 0) : aTake T w s = s := if_pos c
theorem aFail_f {T : zTn} {s : zA} {n : Int} (c : s.1 ≠ 0) : aFail T n s = s := if_pos c
theorem aTake_z {T : zTn} {s : zA} {w : Int} (h : (aTake T w s).1 = 0) : s.1 = 0 := Classical.byContradiction (fun c => by rw [aTake_f c] at h; exact c h)
theorem aFail_1 {T : zTn} {n : Int} {s : zA} (hn : n ≠ 0) : (aFail T n s).1 ≠ 0 := by
  unfold aFail
  split
  · next h => exact h
  · exact hn
/-- a token more: on by one, or a fault -/
theorem aTake_i {T : zTn} {w : Int} {s : zA} (h : (aTake T w s).1 = 0) : s.1 = 0 ∧ T.1 s.2.2.1 = w ∧ (aTake T w s).2.2.1 = s.2.2.1 + 1 ∧ (aTake T w s).2.2.2 = s.2.2.2 := by
  have h0 := aTake_z h
  unfold aTake at h ⊢
  rw [if_neg (zne h0)] at h ⊢
  by_cases c1 : T.1 s.2.2.1 = w
  · rw [if_neg (zne c1)] at h ⊢
    by_cases c2 : 400 ≤ s.2.2.1
    · rw [if_pos c2] at h
      exact absurd h (aFail_1 (by decide))
    · rw [if_neg c2] at h ⊢
      exact ⟨h0, c1, rfl, rfl⟩
  · rw [if_pos c1] at h
    exact absurd h (aFail_1 (by decide))
end
-- 35h.pure8
section
section ZV2
variable {P tk kA vA qA tt N m : Nat} {T : zTn} {σ σ' : zS} {s : zA}
/-- the text's cells alone have changed -/
theorem zV.told (h : zV P tk kA vA qA tt N m T σ s) (e0 : σ'.2.2 = σ.2.2) (e2 : σ'.2.1 = σ.2.1) (e1 : ∀ a, a ≠ tt → (∀ j, (j = 2 ∨ j = 3 ∨ j = 4 ∨ j = 5 ∨ j = 6 ∨ j = 7 ∨ j = 9) → a ≠ (σ.2.2 tt j).getD 0) → σ'.1 a = σ.1 a) : zV P tk kA vA qA tt N m T σ' s := by
  obtain ⟨⟨d1, d2, d3, d4⟩, d5⟩ := h.1.2.2.2
  exact h.cg e0 (e1 _ (fun z => d2 z.symm) (fun j hj z => (d5 j hj).2.1 z.symm)) (e1 _ (fun z => d3 z.symm) (fun j hj z => (d5 j hj).2.2.1 z.symm)) (e1 _ (fun z => d4 z.symm) (fun j hj z => (d5 j hj).2.2.2 z.symm)) (by rw [e2]) (e1 _ (fun z => d1 z.symm) (fun j hj z => (d5 j hj).1 z.symm)) (by rw [e2]) (by rw [e2])
theorem vStep (h : zV P tk kA vA qA tt N m T σ s) (a b : Int32) : zV P tk kA vA qA tt N m T (F_X9_addStep tt a b σ) s := by
  unfold F_X9_addStep
  simp only [zlt]
  by_cases c : (σ.1 tt 8).toInt < (420 : Int32).toInt
  · rw [if_pos c]
    refine h.told rfl rfl (fun x h1 h2 => ?_)
    show zu (zu (zu σ.1 _ _ _) _ _ _) tt 8 _ x = _
    rw [zu_n _ _ _ h1, zu_n _ _ _ (h2 7 (by omega)), zu_n _ _ _ (h2 6 (by omega))]
  · rw [if_neg c]
    exact h
theorem vSetV (h : zV P tk kA vA qA tt N m T σ s) (a b : Int32) : zV P tk kA vA qA tt N m T (F_X9_setValue tt a b σ) s := by
  unfold F_X9_setValue
  simp only [zlt]
  by_cases c : a.toInt < 0
  · rw [if_pos c]; exact h
  rw [if_neg c]
  by_cases c2 : a.toInt < (σ.1 tt 8).toInt
  · rw [if_pos c2]
    refine h.told rfl rfl (fun x h1 h2 => ?_)
    show zu σ.1 _ _ _ x = _
    rw [zu_n _ _ _ (h2 7 (by omega))]
  · rw [if_neg c2]
    exact h
theorem vSetP (h : zV P tk kA vA qA tt N m T σ s) (a b c d e : Int32) : zV P tk kA vA qA tt N m T (F_X9_setPlace tt a b c d e σ) s := by
  unfold F_X9_setPlace
  simp only [zlt]
  by_cases c1 : a.toInt < 0
  · rw [if_pos c1]; exact h
  rw [if_neg c1]
  by_cases c2 : a.toInt < (12 : Int32).toInt
  · rw [if_pos c2]
    refine h.told rfl rfl (fun x h1 h2 => ?_)
    show zu (zu (zu (zu σ.1 _ _ _) _ _ _) _ _ _) _ _ _ x = _
    rw [zu_n _ _ _ (h2 5 (by omega)), zu_n _ _ _ (h2 4 (by omega)), zu_n _ _ _ (h2 3 (by omega)), zu_n _ _ _ (h2 2 (by omega))]
  · rw [if_neg c2]
    exact h
theorem vPutT (h : zV P tk kA vA qA tt N m T σ s) (j : Nat) (v : Int32) : zV P tk kA vA qA tt N m T (zu σ.1 tt j v, σ.2.1, σ.2.2) s :=
  h.told rfl rfl (fun x h1 _ => zu_n _ _ _ h1)
theorem vPutS (h : zV P tk kA vA qA tt N m T σ s) (j : Nat) (v : Int32) : zV P tk kA vA qA tt N m T (zu σ.1 ((σ.2.2 tt 9).getD 0) j v, σ.2.1, σ.2.2) s :=
  h.told rfl rfl (fun x _ h2 => zu_n _ _ _ (h2 9 (by omega)))
theorem vtt (h : zV P tk kA vA qA tt N m T σ s) : (σ.2.2 P 1).getD 0 = tt := by rw [h.1.1.2.1]; rfl
theorem vnn (h : zV P tk kA vA qA tt N m T σ s) : (σ.2.2 tt 1).getD 0 = N := by rw [h.1.1.2.2.2.2.2]; rfl
/-- the loop that looks for a name, whichever way it was come to -/
theorem vFind (h : zV P tk kA vA qA tt N m T σ s) (hs : s.1 = 0) (x : Int64) (G : Nat → Int32 → zS → Int32 × zS)
    (hG : ∀ (n : Nat) (p : Int32) (τ : zS), G (n + 1) p τ = if (τ.1 P 7).toInt < p.toInt then (-1, τ) else if p.toInt < (12 : Int32).toInt then (if (lg_cmp (τ.2.1 ((τ.2.2 ((τ.2.2 P 1).getD 0) 1).getD 0) p.toNatClampNeg) x).toInt = 0 then (p, τ) else G n (p + (1 : Int32)) τ) else (0, τ)) :
    ∀ (n : Nat) (p : Int32) (k : Nat), p.toInt = k → k ≤ 12 → (k ≠ 0 ∨ s.2.2.2.2.2.1 ≠ 0) → 12 - k < n → ∃ v : Int32, G n p σ = (v, σ) ∧ v.toInt = aFind s.2.2.2.2.2.2.2 s.2.2.2.2.2.2.1 x n k := by
  have r := h.2.2.2 hs
  obtain ⟨r1, r2, r3, r4, r5, r6, r7, r8, r9, r10, r11⟩ := r
  intro n
  induction n with
  | zero => intro p k _ _ _ hm; exact absurd hm (by omega)
  | succ n ih =>
    intro p k hp hk h0 hm
    have e12 : (12 : Int32).toInt = 12 := by decide
    have pk : p.toNatClampNeg = k := by rw [ztn, hp]; rfl
    rw [hG, vtt h, vnn h, pk, r9, e12]
    simp only [zcmp0]
    unfold aFind
    by_cases c : s.2.2.2.2.2.2.1 < (k : Int)
    · rw [if_pos (by omega), if_neg (by omega)]
      exact ⟨-1, rfl, by decide⟩
    · have kl : k < 12 := by omega
      rw [if_neg (by omega), if_pos (by omega), r11 k (by omega) h0, if_pos (show (k : Int) ≤ s.2.2.2.2.2.2.1 ∧ k < 12 from ⟨by omega, kl⟩)]
      by_cases c2 : (s.2.2.2.2.2.2.2 k).1 = x
      · rw [if_pos c2, if_pos c2]
        exact ⟨p, rfl, hp⟩
      · rw [if_neg c2, if_neg c2]
        exact ih _ (k + 1) (zp1 hp (by omega)) (by omega) (by omega) (by omega)
theorem aFind_ge {nm : Nat → Int64 × Int64} {pt : Int} {x : Int64} : ∀ (n n' p : Nat), 12 - p < n → 12 - p < n' → aFind nm pt x n p = aFind nm pt x n' p := by
  intro n
  induction n with
  | zero => intro n' p h; exact absurd h (by omega)
  | succ n ih =>
    intro n' p h h'
    obtain ⟨q, rfl⟩ : ∃ q, n' = q + 1 := ⟨n' - 1, by omega⟩
    unfold aFind
    by_cases c : (p : Int) ≤ pt ∧ p < 12
    · rw [if_pos c, if_pos c, ih q (p + 1) (by omega) (by omega)]
    · rw [if_neg c, if_neg c]
theorem vPN (h : zV P tk kA vA qA tt N m T σ s) (hs : s.1 = 0) (x : Int64) : ∃ v : Int32, F_X3_placeNamed P x σ = (v, σ) ∧ v.toInt = aNum s x := by
  have r8 := (h.2.2.2 hs).2.2.2.2.2.2.2.1
  unfold F_X3_placeNamed aNum
  simp only [zlt]
  by_cases c : s.2.2.2.2.2.1 = 0
  · rw [if_pos (r8.trans c), if_pos c]
    obtain ⟨v, h1, h2⟩ := vFind h hs x (F_X3_placeNamed_13 P x) (fun n p τ => by rw [F_X3_placeNamed_13]; rfl) 10000 1 1 (by decide) (by omega) (by omega) (by omega)
    exact ⟨v, h1, h2.trans (aFind_ge _ _ _ (by omega) (by omega))⟩
  · rw [if_neg (fun z => c (r8.symm.trans z)), if_neg c]
    obtain ⟨v, h1, h2⟩ := vFind h hs x (F_X3_placeNamed_13_1 P x) (fun n p τ => by rw [F_X3_placeNamed_13_1]; rfl) 10000 0 0 (by decide) (by omega) (Or.inr c) (by omega)
    exact ⟨v, h1, h2.trans (aFind_ge _ _ _ (by omega) (by omega))⟩
/-- a faulty state stays -/
theorem aNew_f (c : s.1 ≠ 0) : aNew T s = s := by unfold aNew; rw [if_neg (fun z => c z.1), aTake_f c]
theorem aKnown_f (c : s.1 ≠ 0) : aKnown T s = s := by unfold aKnown; rw [if_neg (fun z => c z.1), aTake_f c]
theorem aNumb_f {lo hi : Int} (c : s.1 ≠ 0) : aNumb T lo hi s = s := by unfold aNumb; rw [if_neg (fun z => c z.1), aTake_f c]
theorem vNew (hd : zVd P tk kA vA qA N) (hT : zTK T m) (h : zV P tk kA vA qA tt N m T σ s) : ∃ x : Int64, ∃ σ' : zS, F_X3_newName P σ = (x, σ') ∧ zV P tk kA vA qA tt N m T σ' (aNew T s) ∧ (s.1 = 0 → x = (T.2.1 s.2.2.1).1) := by
  have e22 : (22 : Int32).toInt = 22 := by decide
  have em : (-1 : Int32).toInt = -1 := by decide
  unfold F_X3_newName
  simp only [zlt, zlt2, e22, em]
  by_cases c : s.1 = 0
  · obtain ⟨r1, r2, r3, r4, -⟩ := h.2.2.2 c
    by_cases c1 : T.1 s.2.2.1 = 22
    · rw [if_pos (r3.trans c1)]
      obtain ⟨v, p1, p2⟩ := vPN h c (σ.2.1 P 4)
      rw [p1]
      rw [r4] at p2
      unfold aNew
      by_cases c2 : aNum s (T.2.1 s.2.2.1).1 = -1
      · rw [if_pos (p2.trans c2), if_neg (fun z => z.2.2 c2)]
        exact ⟨_, _, rfl, vTake hd hT h 22 (by decide), fun _ => r4⟩
      · rw [if_neg (fun z => c2 (p2.symm.trans z)), if_pos ⟨c, c1, c2⟩]
        exact ⟨_, _, rfl, vTake hd hT (vLate hd h c 3) 22 (by decide), fun _ => r4⟩
    · rw [if_neg (fun z => c1 (r3.symm.trans z))]
      unfold aNew
      rw [if_neg (fun z => c1 z.2.1)]
      exact ⟨_, _, rfl, vTake hd hT h 22 (by decide), fun _ => r4⟩
  · rw [if_neg (by rw [(h.2.2.1 c).2]; decide)]
    unfold aNew
    rw [if_neg (fun z => c z.1)]
    exact ⟨_, _, rfl, vTake hd hT h 22 (by decide), fun z => absurd z c⟩
theorem vPNf (h : zV P tk kA vA qA tt N m T σ s) (x : Int64) : ∃ v : Int32, F_X3_placeNamed P x σ = (v, σ) := by
  have G : ∀ (G : Nat → Int32 → zS → Int32 × zS), (∀ p τ, G 0 p τ = (0, τ)) → (∀ (n : Nat) (p : Int32) (τ : zS), G (n + 1) p τ = if (τ.1 P 7).toInt < p.toInt then (-1, τ) else if p.toInt < (12 : Int32).toInt then (if (lg_cmp (τ.2.1 ((τ.2.2 ((τ.2.2 P 1).getD 0) 1).getD 0) p.toNatClampNeg) x).toInt = 0 then (p, τ) else G n (p + (1 : Int32)) τ) else (0, τ)) → ∀ (n : Nat) (p : Int32), ∃ v : Int32, G n p σ = (v, σ) := by
    intro G h0 h1 n
    induction n with
    | zero => intro p; exact ⟨0, h0 p σ⟩
    | succ n ih =>
      intro p
      rw [h1]
      split
      · exact ⟨_, rfl⟩
      · split
        · split
          · exact ⟨_, rfl⟩
          · exact ih _
        · exact ⟨_, rfl⟩
  unfold F_X3_placeNamed
  simp only [zlt]
  split
  · exact G (F_X3_placeNamed_13 P x) (fun p τ => by rw [F_X3_placeNamed_13]) (fun n p τ => by rw [F_X3_placeNamed_13]; rfl) _ _
  · exact G (F_X3_placeNamed_13_1 P x) (fun p τ => by rw [F_X3_placeNamed_13_1]) (fun n p τ => by rw [F_X3_placeNamed_13_1]; rfl) _ _
theorem vKnown (hd : zVd P tk kA vA qA N) (hT : zTK T m) (h : zV P tk kA vA qA tt N m T σ s) : ∃ x : Int32, ∃ σ' : zS, F_X3_knownName P σ = (x, σ') ∧ zV P tk kA vA qA tt N m T σ' (aKnown T s) := by
  have e22 : (22 : Int32).toInt = 22 := by decide
  have em : (-1 : Int32).toInt = -1 := by decide
  obtain ⟨v, p1⟩ := vPNf h (σ.2.1 P 4)
  unfold F_X3_knownName
  simp only [zlt, zlt2, e22, em, p1]
  by_cases c : s.1 = 0
  · obtain ⟨r1, r2, r3, r4, -⟩ := h.2.2.2 c
    obtain ⟨v', p1', p2⟩ := vPN h c (σ.2.1 P 4)
    rw [p1] at p1'
    have ev : v = v' := congrArg Prod.fst p1'
    rw [← ev, r4] at p2
    by_cases c1 : T.1 s.2.2.1 = 22
    · rw [if_pos (r3.trans c1)]
      unfold aKnown
      by_cases c2 : aNum s (T.2.1 s.2.2.1).1 = -1
      · rw [if_pos (p2.trans c2), if_pos (show s.1 = 0 ∧ T.1 s.2.2.1 = 22 ∧ aNum s (T.2.1 s.2.2.1).1 = -1 from ⟨c, c1, c2⟩)]
        exact ⟨_, _, rfl, vTake hd hT (vLate hd h c 4) 22 (by decide)⟩
      · rw [if_neg (fun z => c2 (p2.symm.trans z)), if_neg (show ¬ (s.1 = 0 ∧ T.1 s.2.2.1 = 22 ∧ aNum s (T.2.1 s.2.2.1).1 = -1) from fun z => c2 z.2.2)]
        exact ⟨_, _, rfl, vTake hd hT h 22 (by decide)⟩
    · rw [if_neg (fun z => c1 (r3.symm.trans z))]
      unfold aKnown
      rw [if_neg (show ¬ (s.1 = 0 ∧ T.1 s.2.2.1 = 22 ∧ aNum s (T.2.1 s.2.2.1).1 = -1) from fun z => c1 z.2.1)]
      exact ⟨_, _, rfl, vTake hd hT h 22 (by decide)⟩
  · rw [if_neg (by rw [(h.2.2.1 c).2]; decide)]
    unfold aKnown
    rw [if_neg (show ¬ (s.1 = 0 ∧ T.1 s.2.2.1 = 22 ∧ aNum s (T.2.1 s.2.2.1).1 = -1) from fun z => c z.1)]
    exact ⟨_, _, rfl, vTake hd hT h 22 (by decide)⟩
theorem zwi (x a b : Int32) : ((F_X10_isWithin x a b).toInt = 0) = ¬ (a.toInt ≤ x.toInt ∧ x.toInt ≤ b.toInt) := by
  unfold F_X10_isWithin
  simp only [zlt]
  by_cases h1 : x.toInt < a.toInt
  · rw [if_pos h1]
    exact propext ⟨fun _ h => by omega, fun _ => by decide⟩
  · rw [if_neg h1]
    by_cases h2 : b.toInt < x.toInt
    · rw [if_pos h2]
      exact propext ⟨fun _ h => by omega, fun _ => by decide⟩
    · rw [if_neg h2]
      exact propext ⟨fun h => absurd h (by decide), fun h => absurd (by omega) h⟩
theorem vNumb (hd : zVd P tk kA vA qA N) (hT : zTK T m) (h : zV P tk kA vA qA tt N m T σ s) (lo hi : Int32) : ∃ x : Int32, ∃ σ' : zS, F_X3_number P lo hi σ = (x, σ') ∧ zV P tk kA vA qA tt N m T σ' (aNumb T lo.toInt hi.toInt s) := by
  have e23 : (23 : Int32).toInt = 23 := by decide
  unfold F_X3_number
  simp only [zlt, zlt2, e23, zwi]
  by_cases c : s.1 = 0
  · obtain ⟨r1, r2, r3, r4, -⟩ := h.2.2.2 c
    by_cases c1 : T.1 s.2.2.1 = 23
    · rw [if_pos (r3.trans c1)]
      have q := (h.1.2.2.1 s.2.2.1)
      have e : (σ.2.1 P 4).toInt32.toInt = T.2.2.1 s.2.2.1 := by rw [r4, ← q.2.1, q.2.2.1]
      rw [e]
      unfold aNumb
      by_cases c2 : lo.toInt ≤ T.2.2.1 s.2.2.1 ∧ T.2.2.1 s.2.2.1 ≤ hi.toInt
      · rw [if_neg (fun z => z c2), if_neg (fun z => z.2.2 c2)]
        exact ⟨_, _, rfl, vTake hd hT h 23 (by decide)⟩
      · rw [if_pos c2, if_pos ⟨c, c1, c2⟩]
        exact ⟨_, _, rfl, vTake hd hT (vLate hd h c 5) 23 (by decide)⟩
    · rw [if_neg (fun z => c1 (r3.symm.trans z))]
      unfold aNumb
      rw [if_neg (fun z => c1 z.2.1)]
      exact ⟨_, _, rfl, vTake hd hT h 23 (by decide)⟩
  · rw [if_neg (by rw [(h.2.2.1 c).2]; decide)]
    unfold aNumb
    rw [if_neg (fun z => c z.1)]
    exact ⟨_, _, rfl, vTake hd hT h 23 (by decide)⟩
/-- the mouth, a place -/
def aSetM (s : zA) (x : Int64 × Int64) : zA := (s.1, s.2.1, s.2.2.1, s.2.2.2.1, s.2.2.2.2.1, 1, s.2.2.2.2.2.2.1, fun p => if p = 0 then x else s.2.2.2.2.2.2.2 p)
def aSetP (s : zA) (x : Int64 × Int64) : zA := (s.1, s.2.1, s.2.2.1, s.2.2.2.1, s.2.2.2.2.1, s.2.2.2.2.2.1, s.2.2.2.2.2.2.1 + 1, fun p => if (p : Int) = s.2.2.2.2.2.2.1 + 1 then x else s.2.2.2.2.2.2.2 p)
def aMouth (T : zTn) (s : zA) : zA :=
  if (aNew T (aTake T 0 (if s.2.2.2.2.2.1 ≠ 0 then aFail T 2 s else s))).1 = 0 then aSetM (aNew T (aTake T 0 (if s.2.2.2.2.2.1 ≠ 0 then aFail T 2 s else s))) (T.2.1 (aTake T 0 (if s.2.2.2.2.2.1 ≠ 0 then aFail T 2 s else s)).2.2.1) else aNew T (aTake T 0 (if s.2.2.2.2.2.1 ≠ 0 then aFail T 2 s else s))
def aPlace1 (T : zTn) (s : zA) : zA := aTake T 1 (if 11 ≤ s.2.2.2.2.2.2.1 then aFail T 2 s else s)
def aPlace2 (T : zTn) (s : zA) : zA := aNumb T 0 99 (aNumb T 0 99 (aNumb T 1 99 (aKnown T (aNew T s))))
def aPlace (T : zTn) (s : zA) : zA := if (aPlace2 T (aPlace1 T s)).1 = 0 ∧ (aPlace2 T (aPlace1 T s)).2.2.2.2.2.2.1 < 11 then aSetP (aPlace2 T (aPlace1 T s)) (T.2.1 (aPlace1 T s).2.2.1) else aPlace2 T (aPlace1 T s)
/-- what a token more leaves as it was -/
theorem aNew_z (h : (aNew T s).1 = 0) : s.1 = 0 := Classical.byContradiction (fun c => by rw [aNew_f c] at h; exact c h)
theorem vMouth (hd : zVd P tk kA vA qA N) (hT : zTK T m) (h : zV P tk kA vA qA tt N m T σ s) (hs : s.1 = 0) : zV P tk kA vA qA tt N m T (F_X3_mouth P σ) (aMouth T s) := by
  have r8 := (h.2.2.2 hs).2.2.2.2.2.2.2.1
  have fin : ∀ (σ1 : zS) (s1 : zA), zV P tk kA vA qA tt N m T σ1 s1 → zV P tk kA vA qA tt N m T (if ((F_X3_newName P σ1).2.1 P 8).toInt = 0 then F_X9_setPlace tt 0 0 0 0 0 (zu (F_X3_newName P σ1).2.1 P 6 1, zu (F_X3_newName P σ1).2.2.1 N 0 (F_X3_newName P σ1).1, (F_X3_newName P σ1).2.2.2) else (F_X3_newName P σ1).2) (if (aNew T s1).1 = 0 then aSetM (aNew T s1) (T.2.1 s1.2.2.1) else aNew T s1) := fun σ1 s1 h1 => by
    obtain ⟨x, σ2, q1, q2, q3⟩ := vNew hd hT h1
    rw [q1]
    show zV P tk kA vA qA tt N m T (if (σ2.1 P 8).toInt = 0 then F_X9_setPlace tt 0 0 0 0 0 (zu σ2.1 P 6 1, zu σ2.2.1 N 0 x, σ2.2.2) else σ2) _
    rw [q2.2.1]
    by_cases c : (aNew T s1).1 = 0
    · rw [if_pos c, if_pos c]
      refine vSetP ?_ 0 0 0 0 0
      have r := q2.2.2.2 c
      obtain ⟨r1, r2, r3, r4, r5, r6, r7, r8, r9, r10, r11⟩ := r
      obtain ⟨d1, d2, d3, d4, d5, d6⟩ := hd
      have hx := q3 (aNew_z c)
      have g : ∀ j, j ≠ 6 → zu σ2.1 P 6 (1 : Int32) P j = σ2.1 P j := fun j hj => zu_j _ _ _ _ _ (fun z => hj z.symm)
      refine ⟨q2.1.cg rfl (zu_n _ _ _ d1) (zu_n _ _ _ d2) (zu_n _ _ _ d3) (zu_n _ _ _ (fun z => d6 z.symm)), ?_, fun z => absurd c z, fun _ => ⟨r1, ?_, ?_, ?_, ?_, ?_, ?_, ?_, ?_, r10, fun p z1 z2 => ?_⟩⟩
      · show (zu σ2.1 P 6 (1 : Int32) P 8).toInt = _
        rw [g 8 (by decide)]; exact q2.2.1
      · show (zu σ2.1 P 6 (1 : Int32) P 2).toInt = _
        rw [g 2 (by decide)]; exact r2
      · show (zu σ2.1 P 6 (1 : Int32) P 3).toInt = _
        rw [g 3 (by decide)]; exact r3
      · show zu σ2.2.1 N 0 x P 4 = _
        rw [zu_n _ _ _ (fun z => d5 z.symm)]; exact r4
      · show (zu σ2.1 P 6 (1 : Int32) P 5).toInt = _
        rw [g 5 (by decide)]; exact r5
      · show (zu σ2.1 P 6 (1 : Int32) P 10).toInt = _
        rw [g 10 (by decide)]; exact r6
      · show (zu σ2.1 P 6 (1 : Int32) P 11).toInt = _
        rw [g 11 (by decide)]; exact r7
      · show (zu σ2.1 P 6 (1 : Int32) P 6).toInt = _
        rw [zu_s]; show (1 : Int32).toInt = 1; decide
      · show (zu σ2.1 P 6 (1 : Int32) P 7).toInt = _
        rw [g 7 (by decide)]; exact r9
      · show zu σ2.2.1 N 0 x N p = (if p = 0 then _ else _ : Int64 × Int64).1
        rw [zu_a]
        by_cases hp : p = 0
        · subst hp
          simp [hx]
        · rw [if_neg hp]
          exact (if_neg hp).trans (r11 p z1 (Or.inl hp))
    · rw [if_neg c, if_neg c]
      exact q2
  unfold F_X3_mouth aMouth
  simp only [zlt, zlt2]
  have e0 : (0 : Int32).toNatClampNeg = 0 := by decide
  by_cases c : s.2.2.2.2.2.1 = 0
  · rw [if_pos (r8.trans c)]
    simp only [if_neg (show ¬ s.2.2.2.2.2.1 ≠ 0 from fun z => z c)]
    have h1 := vTake hd hT h 0 (by decide)
    have q := fin _ _ h1
    obtain ⟨x, σ2, q1, q2, q3⟩ := vNew hd hT h1
    have t0 := vtt q2
    have n0 := vnn q2
    rw [q1] at q ⊢
    simp only [t0, n0, e0]
    exact q
  · rw [if_neg (fun z => c (r8.symm.trans z))]
    simp only [if_pos (show s.2.2.2.2.2.1 ≠ 0 from c)]
    have h1 := vTake hd hT (vFail hd h 2 (by decide)) 0 (by decide)
    have q := fin _ _ h1
    obtain ⟨x, σ2, q1, q2, q3⟩ := vNew hd hT h1
    have t0 := vtt q2
    have n0 := vnn q2
    rw [q1] at q ⊢
    simp only [t0, n0, e0]
    exact q
theorem aNew_i (h : (aNew T s).1 = 0) : s.1 = 0 ∧ T.1 s.2.2.1 = 22 ∧ (aNew T s).2.2.1 = s.2.2.1 + 1 ∧ (aNew T s).2.2.2.2.2 = s.2.2.2.2.2 := by
  have h0 := aNew_z h
  unfold aNew at h ⊢
  by_cases c : s.1 = 0 ∧ T.1 s.2.2.1 = 22 ∧ aNum s (T.2.1 s.2.2.1).1 ≠ -1
  · rw [if_pos c] at h ⊢
    have q := aTake_i h
    have e : (aLate T 3 s).2.2.1 = s.2.2.1 ∧ (aLate T 3 s).2.2.2.2.2 = s.2.2.2.2.2 := by
      unfold aLate
      split
      · exact ⟨rfl, rfl⟩
      · split <;> exact ⟨rfl, rfl⟩
    exact ⟨h0, c.2.1, by rw [q.2.2.1, e.1], by rw [q.2.2.2, e.2]⟩
  · rw [if_neg c] at h ⊢
    have q := aTake_i h
    exact ⟨h0, q.2.1, q.2.2.1, by rw [q.2.2.2]⟩
end ZV2
end
