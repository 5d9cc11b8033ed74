/-! REFERENCES THAT STAY, but for places 5 and 6 (what the river looks at) -/
def zRz (R : Nat → Nat → Option Nat) (s : zS) : Prop := ∀ a j, j ≠ 5 → j ≠ 6 → s.2.2 a j = R a j
def zRy {α : Type} (R : Nat → Nat → Option Nat) (r : α × zS) : Prop := zRz R r.2
section ZRZ
variable {R : Nat → Nat → Option Nat} {s : zS} {α β : Type}
theorem zRz.rf : zRz s.2.2 s := fun _ _ _ _ => rfl
theorem zRz.w5 {r : Nat} {v : Option Nat} (h : zRz R s) : zRz R (s.1, s.2.1, zu s.2.2 r 5 v) := fun a j h5 h6 => by
  show zu s.2.2 r 5 v a j = _
  unfold zu
  by_cases e : a = r
  · rw [if_pos e, if_neg h5]; exact h a j h5 h6
  · rw [if_neg e]; exact h a j h5 h6
theorem zRz.w6 {r : Nat} {v : Option Nat} (h : zRz R s) : zRz R (s.1, s.2.1, zu s.2.2 r 6 v) := fun a j h5 h6 => by
  show zu s.2.2 r 6 v a j = _
  unfold zu
  by_cases e : a = r
  · rw [if_pos e, if_neg h6]; exact h a j h5 h6
  · rw [if_neg e]; exact h a j h5 h6
theorem zRy.of {r : α × zS} {v : α} (h : zRy R r) (e : (v, s) = r) : zRz R s := by rw [show s = r.2 from congrArg Prod.snd e]; exact h
theorem zRz_let {x : α} {f : α → zS} (h : ∀ v, v = x → zRz R (f v)) : zRz R (zLet x f) := h x rfl
theorem zRz_let2 {x : α × β} {f : α → β → zS} (h : ∀ v s, (v, s) = x → zRz R (f v s)) : zRz R (zLet2 x f) := h x.1 x.2 rfl
theorem zRy_let {x : α} {f : α → β × zS} (h : ∀ v, v = x → zRy R (f v)) : zRy R (zLet x f) := h x rfl
theorem zRy_let2 {γ : Type} {x : α × γ} {f : α → γ → β × zS} (h : ∀ v s, (v, s) = x → zRy R (f v s)) : zRy R (zLet2 x f) := h x.1 x.2 rfl
theorem zRz_if {c : Prop} {i : Decidable c} {x y : zS} (h : c → zRz R x) (g : ¬ c → zRz R y) : zRz R (@ite _ c i x y) := by
  by_cases e : c
  · rw [if_pos e]; exact h e
  · rw [if_neg e]; exact g e
theorem zRy_if {c : Prop} {i : Decidable c} {x y : α × zS} (h : c → zRy R x) (g : ¬ c → zRy R y) : zRy R (@ite _ c i x y) := by
  by_cases e : c
  · rw [if_pos e]; exact h e
  · rw [if_neg e]; exact g e
end ZRZ
set_option maxRecDepth 100000 in
theorem rz_X10_isPlace {R : Nat → Nat → Option Nat} {σ0 : zS} {a0 : Nat} {p1 : Int32}  (g : zRz R σ0) : zRy R (F_X10_isPlace a0 p1 σ0) := by
  unfold F_X10_isPlace
  refine zRy_let (fun v1 _ => ?_)
  refine zRy_let (fun v2 _ => ?_)
  refine zRy_let (fun v3 _ => ?_)
  refine zRy_let (fun v4 _ => ?_)
  refine zRy_let (fun v5 _ => ?_)
  refine zRy_let (fun v6 _ => ?_)
  exact g
set_option maxRecDepth 100000 in
theorem rz_X6_form_81_1 {R : Nat → Nat → Option Nat} {v95 : Int32} {x89 : Int32} {a0 : Nat} {p1 : Nat} {p2 : Nat} {kLp91 : Int32 → Int32 → zS → zS} (ckLp91 : ∀ (y0 : Int32) (y1 : Int32) (s : zS), zRz R s → zRz R (kLp91 y0 y1 s)) : ∀ (n : Nat) (x97 : Int32) (x98 : Int32) (τ99 : zS), zRz R τ99 → zRz R (F_X6_form_81_1 v95 x89 a0 p1 p2 kLp91 n x97 x98 τ99) := by
  intro n
  induction n with
  | zero => intro x97 x98 τ99 g; exact g
  | succ n ih =>
    intro x97 x98 τ99 g
    rw [F_X6_form_81_1]
    refine zRz_let (fun v100 _ => ?_)
    refine zRz_if (fun _ => ?_) (fun _ => ?_)
    · skip
      refine zRz_let (fun v103 _ => ?_)
      refine zRz_if (fun _ => ?_) (fun _ => ?_)
      · skip
        refine zRz_let (fun v106 _ => ?_)
        refine zRz_let (fun v107 _ => ?_)
        refine zRz_if (fun _ => ?_) (fun _ => ?_)
        · skip
          refine zRz_let (fun v110 _ => ?_)
          refine zRz_let (fun v111 _ => ?_)
          refine zRz_let (fun v112 _ => ?_)
          refine zRz_let (fun v113 _ => ?_)
          refine zRz_let (fun v114 _ => ?_)
          refine zRz_let (fun v115 _ => ?_)
          refine zRz_let (fun s116 es116 => ?_)
          have gs116 : zRz R s116 := by rw [es116]; exact g
          refine zRz_let (fun v118 _ => ?_)
          refine zRz_let (fun v119 _ => ?_)
          refine zRz_let (fun v120 _ => ?_)
          refine zRz_let (fun v121 _ => ?_)
          refine zRz_let (fun v122 _ => ?_)
          refine zRz_let (fun s123 es123 => ?_)
          have gs123 : zRz R s123 := by rw [es123]; exact gs116
          refine zRz_let (fun v125 _ => ?_)
          refine zRz_let (fun s126 es126 => ?_)
          have gs126 : zRz R s126 := by rw [es126]; exact gs123
          refine zRz_let (fun v128 _ => ?_)
          refine zRz_let (fun v129 _ => ?_)
          exact ih _ _ _ gs126
        · skip
          refine zRz_let (fun v109 _ => ?_)
          exact ih _ _ _ g
      · skip
        refine zRz_let (fun v105 _ => ?_)
        exact ckLp91 _ _ _ g
    · skip
      refine zRz_let (fun v102 _ => ?_)
      exact ckLp91 _ _ _ g
set_option maxRecDepth 100000 in
theorem rz_X6_countAbove_15 {R : Nat → Nat → Option Nat} {a0 : Nat} {p1 : Nat}  : ∀ (n : Nat) (x7 : Int32) (τ8 : zS), zRz R τ8 → zRz R (F_X6_countAbove_15 a0 p1 n x7 τ8) := by
  intro n
  induction n with
  | zero => intro x7 τ8 g; exact g
  | succ n ih =>
    intro x7 τ8 g
    rw [F_X6_countAbove_15]
    refine zRz_if (fun _ => ?_) (fun _ => ?_)
    · skip
      refine zRz_let (fun v10 _ => ?_)
      refine zRz_let (fun v11 _ => ?_)
      refine zRz_let (fun v12 _ => ?_)
      refine zRz_let (fun v13 _ => ?_)
      refine zRz_let (fun v14 _ => ?_)
      refine zRz_let (fun v15 _ => ?_)
      refine zRz_let (fun v16 _ => ?_)
      refine zRz_let (fun v17 _ => ?_)
      refine zRz_let (fun v18 _ => ?_)
      refine zRz_let (fun v19 _ => ?_)
      refine zRz_let (fun v20 _ => ?_)
      refine zRz_let (fun s21 es21 => ?_)
      have gs21 : zRz R s21 := by rw [es21]; exact g
      refine zRz_let (fun v22 _ => ?_)
      exact ih _ _ gs21
    · skip
      exact g
set_option maxRecDepth 100000 in
theorem rz_X6_countAbove {R : Nat → Nat → Option Nat} {σ0 : zS} {a0 : Nat} {p1 : Nat}  (g : zRz R σ0) : zRz R (F_X6_countAbove a0 p1 σ0) := by
  unfold F_X6_countAbove
  refine zRz_let (fun v1 _ => ?_)
  refine zRz_let (fun v2 _ => ?_)
  refine zRz_let (fun s3 es3 => ?_)
  have gs3 : zRz R s3 := by rw [es3]; exact g
  refine zRz_let (fun v4 _ => ?_)
  refine zRz_let (fun v5 _ => ?_)
  refine zRz_let (fun v6 _ => ?_)
  exact rz_X6_countAbove_15  _ _ _ gs3
set_option maxRecDepth 100000 in
theorem rz_X6_form_63_1 {R : Nat → Nat → Option Nat} {a0 : Nat} {p1 : Nat} {p2 : Nat}  : ∀ (n : Nat) (x89 : Int32) (x90 : Int32) (τ91 : zS), zRz R τ91 → zRz R (F_X6_form_63_1 a0 p1 p2 n x89 x90 τ91) := by
  intro n
  induction n with
  | zero => intro x89 x90 τ91 g; exact g
  | succ n ih =>
    intro x89 x90 τ91 g
    rw [F_X6_form_63_1]
    refine zRz_if (fun _ => ?_) (fun _ => ?_)
    · skip
      refine zRz_let (fun v94 _ => ?_)
      refine zRz_let (fun v95 _ => ?_)
      refine zRz_let (fun v96 _ => ?_)
      exact rz_X6_form_81_1 ih _ _ _ _ g
    · skip
      refine zRz_let (fun s93 es93 => ?_)
      have gs93 : zRz R s93 := by rw [es93]; exact rz_X6_countAbove g
      exact gs93
set_option maxRecDepth 100000 in
theorem rz_X6_form_81 {R : Nat → Nat → Option Nat} {v36 : Int32} {x30 : Int32} {a0 : Nat} {p1 : Nat} {p2 : Nat} {kLp32 : Int32 → Int32 → zS → zS} (ckLp32 : ∀ (y0 : Int32) (y1 : Int32) (s : zS), zRz R s → zRz R (kLp32 y0 y1 s)) : ∀ (n : Nat) (x38 : Int32) (x39 : Int32) (τ40 : zS), zRz R τ40 → zRz R (F_X6_form_81 v36 x30 a0 p1 p2 kLp32 n x38 x39 τ40) := by
  intro n
  induction n with
  | zero => intro x38 x39 τ40 g; exact g
  | succ n ih =>
    intro x38 x39 τ40 g
    rw [F_X6_form_81]
    refine zRz_let (fun v41 _ => ?_)
    refine zRz_if (fun _ => ?_) (fun _ => ?_)
    · skip
      refine zRz_let (fun v44 _ => ?_)
      refine zRz_if (fun _ => ?_) (fun _ => ?_)
      · skip
        refine zRz_let (fun v47 _ => ?_)
        refine zRz_let (fun v48 _ => ?_)
        refine zRz_if (fun _ => ?_) (fun _ => ?_)
        · skip
          refine zRz_let (fun v51 _ => ?_)
          refine zRz_let (fun v52 _ => ?_)
          refine zRz_let (fun v53 _ => ?_)
          refine zRz_let (fun v54 _ => ?_)
          refine zRz_let (fun v55 _ => ?_)
          refine zRz_let (fun v56 _ => ?_)
          refine zRz_let (fun s57 es57 => ?_)
          have gs57 : zRz R s57 := by rw [es57]; exact g
          refine zRz_let (fun v59 _ => ?_)
          refine zRz_let (fun v60 _ => ?_)
          refine zRz_let (fun v61 _ => ?_)
          refine zRz_let (fun v62 _ => ?_)
          refine zRz_let (fun v63 _ => ?_)
          refine zRz_let (fun s64 es64 => ?_)
          have gs64 : zRz R s64 := by rw [es64]; exact gs57
          refine zRz_let (fun v66 _ => ?_)
          refine zRz_let (fun s67 es67 => ?_)
          have gs67 : zRz R s67 := by rw [es67]; exact gs64
          refine zRz_let (fun v69 _ => ?_)
          refine zRz_let (fun v70 _ => ?_)
          exact ih _ _ _ gs67
        · skip
          refine zRz_let (fun v50 _ => ?_)
          exact ih _ _ _ g
      · skip
        refine zRz_let (fun v46 _ => ?_)
        exact ckLp32 _ _ _ g
    · skip
      refine zRz_let (fun v43 _ => ?_)
      exact ckLp32 _ _ _ g
set_option maxRecDepth 100000 in
theorem rz_X6_form_63 {R : Nat → Nat → Option Nat} {a0 : Nat} {p1 : Nat} {p2 : Nat}  : ∀ (n : Nat) (x30 : Int32) (x31 : Int32) (τ32 : zS), zRz R τ32 → zRz R (F_X6_form_63 a0 p1 p2 n x30 x31 τ32) := by
  intro n
  induction n with
  | zero => intro x30 x31 τ32 g; exact g
  | succ n ih =>
    intro x30 x31 τ32 g
    rw [F_X6_form_63]
    refine zRz_if (fun _ => ?_) (fun _ => ?_)
    · skip
      refine zRz_let (fun v35 _ => ?_)
      refine zRz_let (fun v36 _ => ?_)
      refine zRz_let (fun v37 _ => ?_)
      exact rz_X6_form_81 ih _ _ _ _ g
    · skip
      refine zRz_let (fun s34 es34 => ?_)
      have gs34 : zRz R s34 := by rw [es34]; exact rz_X6_countAbove g
      exact gs34
set_option maxRecDepth 100000 in
theorem rz_X6_form {R : Nat → Nat → Option Nat} {σ0 : zS} {a0 : Nat} {p1 : Nat} {p2 : Nat}  (g : zRz R σ0) : zRz R (F_X6_form a0 p1 p2 σ0) := by
  unfold F_X6_form
  refine zRz_let (fun v1 _ => ?_)
  refine zRz_let (fun s2 es2 => ?_)
  have gs2 : zRz R s2 := by rw [es2]; exact g
  refine zRz_let (fun v4 _ => ?_)
  refine zRz_let (fun v5 _ => ?_)
  refine zRz_let (fun v6 _ => ?_)
  refine zRz_let (fun v7 _ => ?_)
  refine zRz_let (fun v8 _ => ?_)
  refine zRz_let (fun s9 es9 => ?_)
  have gs9 : zRz R s9 := by rw [es9]; exact gs2
  refine zRz_let (fun v10 _ => ?_)
  refine zRz_if (fun _ => ?_) (fun _ => ?_)
  · skip
    refine zRz_let (fun v71 _ => ?_)
    refine zRz_let (fun v72 _ => ?_)
    refine zRz_let (fun v73 _ => ?_)
    refine zRz_let (fun v74 _ => ?_)
    refine zRz_let (fun s75 es75 => ?_)
    have gs75 : zRz R s75 := by rw [es75]; exact gs9
    refine zRz_let (fun v77 _ => ?_)
    refine zRz_let (fun v78 _ => ?_)
    refine zRz_let (fun v79 _ => ?_)
    refine zRz_let (fun s80 es80 => ?_)
    have gs80 : zRz R s80 := by rw [es80]; exact gs75
    refine zRz_let (fun v82 _ => ?_)
    refine zRz_let (fun v83 _ => ?_)
    refine zRz_let (fun v84 _ => ?_)
    refine zRz_let (fun v85 _ => ?_)
    refine zRz_let (fun s86 es86 => ?_)
    have gs86 : zRz R s86 := by rw [es86]; exact gs80
    refine zRz_let (fun v88 _ => ?_)
    exact rz_X6_form_63_1  _ _ _ _ gs86
  · skip
    refine zRz_let (fun v12 _ => ?_)
    refine zRz_let (fun v13 _ => ?_)
    refine zRz_let (fun v14 _ => ?_)
    refine zRz_let (fun v15 _ => ?_)
    refine zRz_let (fun s16 es16 => ?_)
    have gs16 : zRz R s16 := by rw [es16]; exact gs9
    refine zRz_let (fun v18 _ => ?_)
    refine zRz_let (fun v19 _ => ?_)
    refine zRz_let (fun v20 _ => ?_)
    refine zRz_let (fun s21 es21 => ?_)
    have gs21 : zRz R s21 := by rw [es21]; exact gs16
    refine zRz_let (fun v23 _ => ?_)
    refine zRz_let (fun v24 _ => ?_)
    refine zRz_let (fun v25 _ => ?_)
    refine zRz_let (fun v26 _ => ?_)
    refine zRz_let (fun s27 es27 => ?_)
    have gs27 : zRz R s27 := by rw [es27]; exact gs21
    refine zRz_let (fun v29 _ => ?_)
    exact rz_X6_form_63  _ _ _ _ gs27
set_option maxRecDepth 100000 in
theorem rz_X5_form {R : Nat → Nat → Option Nat} {σ0 : zS} {a0 : Nat} {p1 : Nat} {p2 : Nat}  (g : zRz R σ0) : zRz R (F_X5_form a0 p1 p2 σ0) := by
  unfold F_X5_form
  refine zRz_let (fun s1 es1 => ?_)
  have gs1 : zRz R s1 := by rw [es1]; exact zRz.w5 g
  refine zRz_let (fun s2 es2 => ?_)
  have gs2 : zRz R s2 := by rw [es2]; exact zRz.w6 gs1
  refine zRz_let (fun v3 _ => ?_)
  refine zRz_let (fun s4 es4 => ?_)
  have gs4 : zRz R s4 := by rw [es4]; exact rz_X6_form gs2
  exact gs4
set_option maxRecDepth 100000 in
theorem rz_X1_moon {R : Nat → Nat → Option Nat} {σ0 : zS} {a0 : Nat}  (g : zRz R σ0) : zRy R (F_X1_moon a0 σ0) := by
  unfold F_X1_moon
  refine zRy_let (fun v1 _ => ?_)
  refine zRy_let (fun v2 _ => ?_)
  refine zRy_let (fun v3 _ => ?_)
  exact g
set_option maxRecDepth 100000 in
theorem rz_X0_answer_13 {R : Nat → Nat → Option Nat} {a0 : Nat} {p1 : Nat} {p2 : Int32}  : ∀ (n : Nat) (x5 : Int32) (x6 : Int32) (x7 : Int32) (τ8 : zS), zRz R τ8 → zRy R (F_X0_answer_13 a0 p1 p2 n x5 x6 x7 τ8) := by
  intro n
  induction n with
  | zero => intro x5 x6 x7 τ8 g; exact g
  | succ n ih =>
    intro x5 x6 x7 τ8 g
    rw [F_X0_answer_13]
    refine zRy_let (fun v9 _ => ?_)
    refine zRy_if (fun _ => ?_) (fun _ => ?_)
    · skip
      refine zRy_if (fun _ => ?_) (fun _ => ?_)
      · skip
        refine zRy_let (fun v13 _ => ?_)
        exact g
      · skip
        refine zRy_let (fun v14 _ => ?_)
        refine zRy_if (fun _ => ?_) (fun _ => ?_)
        · skip
          refine zRy_let (fun v18 _ => ?_)
          refine zRy_let (fun v19 _ => ?_)
          refine zRy_let (fun v20 _ => ?_)
          refine zRy_let (fun v21 _ => ?_)
          refine zRy_let (fun v22 _ => ?_)
          refine zRy_let (fun v23 _ => ?_)
          refine zRy_if (fun _ => ?_) (fun _ => ?_)
          · skip
            refine zRy_if (fun _ => ?_) (fun _ => ?_)
            · skip
              refine zRy_let (fun v109 _ => ?_)
              refine zRy_let (fun v110 _ => ?_)
              refine zRy_let (fun v111 _ => ?_)
              refine zRy_let (fun v112 _ => ?_)
              exact g
            · skip
              refine zRy_let (fun v108 _ => ?_)
              exact g
          · skip
            refine zRy_if (fun _ => ?_) (fun _ => ?_)
            · skip
              refine zRy_let (fun v26 _ => ?_)
              refine zRy_if (fun _ => ?_) (fun _ => ?_)
              · skip
                refine zRy_if (fun _ => ?_) (fun _ => ?_)
                · skip
                  refine zRy_let (fun v30 _ => ?_)
                  exact g
                · skip
                  refine zRy_let (fun v31 _ => ?_)
                  refine zRy_if (fun _ => ?_) (fun _ => ?_)
                  · skip
                    exact g
                  · skip
                    refine zRy_let (fun v33 _ => ?_)
                    refine zRy_if (fun _ => ?_) (fun _ => ?_)
                    · skip
                      refine zRy_let (fun s35 es35 => ?_)
                      have gs35 : zRz R s35 := by rw [es35]; exact g
                      refine zRy_let (fun v36 _ => ?_)
                      refine zRy_let (fun v37 _ => ?_)
                      exact ih _ _ _ _ gs35
                    · skip
                      exact g
              · skip
                refine zRy_let (fun v28 _ => ?_)
                exact g
            · skip
              refine zRy_let (fun v38 _ => ?_)
              refine zRy_if (fun _ => ?_) (fun _ => ?_)
              · skip
                refine zRy_let (fun v89 _ => ?_)
                refine zRy_if (fun _ => ?_) (fun _ => ?_)
                · skip
                  refine zRy_if (fun _ => ?_) (fun _ => ?_)
                  · skip
                    refine zRy_let (fun v93 _ => ?_)
                    exact g
                  · skip
                    refine zRy_let (fun v94 _ => ?_)
                    refine zRy_if (fun _ => ?_) (fun _ => ?_)
                    · skip
                      refine zRy_let (fun v96 _ => ?_)
                      refine zRy_if (fun _ => ?_) (fun _ => ?_)
                      · skip
                        refine zRy_let (fun v99 _ => ?_)
                        refine zRy_if (fun _ => ?_) (fun _ => ?_)
                        · skip
                          exact g
                        · skip
                          refine zRy_let (fun v101 _ => ?_)
                          refine zRy_let (fun v102 _ => ?_)
                          refine zRy_let (fun s103 es103 => ?_)
                          have gs103 : zRz R s103 := by rw [es103]; exact g
                          refine zRy_let (fun v104 _ => ?_)
                          refine zRy_let (fun v105 _ => ?_)
                          exact ih _ _ _ _ gs103
                      · skip
                        refine zRy_let (fun v106 _ => ?_)
                        exact g
                    · skip
                      exact g
                · skip
                  refine zRy_let (fun v91 _ => ?_)
                  exact g
              · skip
                refine zRy_let (fun v40 _ => ?_)
                refine zRy_if (fun _ => ?_) (fun _ => ?_)
                · skip
                  refine zRy_let (fun v88 _ => ?_)
                  exact g
                · skip
                  refine zRy_let (fun v42 _ => ?_)
                  refine zRy_let (fun v43 _ => ?_)
                  refine zRy_let (fun v44 _ => ?_)
                  refine zRy_let (fun v45 _ => ?_)
                  refine zRy_let (fun v46 _ => ?_)
                  refine zRy_let (fun v47 _ => ?_)
                  refine zRy_let (fun v48 _ => ?_)
                  refine zRy_if (fun _ => ?_) (fun _ => ?_)
                  · skip
                    refine zRy_let (fun v50 _ => ?_)
                    refine zRy_let (fun v51 _ => ?_)
                    refine zRy_let (fun v52 _ => ?_)
                    refine zRy_let (fun v53 _ => ?_)
                    refine zRy_let (fun s54 es54 => ?_)
                    have gs54 : zRz R s54 := by rw [es54]; exact g
                    refine zRy_let (fun v55 _ => ?_)
                    exact ih _ _ _ _ gs54
                  · skip
                    refine zRy_if (fun _ => ?_) (fun _ => ?_)
                    · skip
                      refine zRy_let (fun v57 _ => ?_)
                      refine zRy_let (fun v58 _ => ?_)
                      refine zRy_let (fun v59 _ => ?_)
                      refine zRy_let (fun v60 _ => ?_)
                      refine zRy_let (fun s61 es61 => ?_)
                      have gs61 : zRz R s61 := by rw [es61]; exact g
                      refine zRy_let (fun v62 _ => ?_)
                      exact ih _ _ _ _ gs61
                    · skip
                      refine zRy_if (fun _ => ?_) (fun _ => ?_)
                      · skip
                        refine zRy_let (fun v64 _ => ?_)
                        refine zRy_let (fun v65 _ => ?_)
                        refine zRy_let (fun v66 _ => ?_)
                        refine zRy_let (fun v67 _ => ?_)
                        refine zRy_let (fun s68 es68 => ?_)
                        have gs68 : zRz R s68 := by rw [es68]; exact g
                        refine zRy_let (fun v69 _ => ?_)
                        exact ih _ _ _ _ gs68
                      · skip
                        refine zRy_if (fun _ => ?_) (fun _ => ?_)
                        · skip
                          refine zRy_if (fun _ => ?_) (fun _ => ?_)
                          · skip
                            refine zRy_let (fun v78 _ => ?_)
                            exact g
                          · skip
                            refine zRy_let (fun v72 _ => ?_)
                            refine zRy_let (fun v73 _ => ?_)
                            refine zRy_let (fun v74 _ => ?_)
                            refine zRy_let (fun v75 _ => ?_)
                            refine zRy_let (fun s76 es76 => ?_)
                            have gs76 : zRz R s76 := by rw [es76]; exact g
                            refine zRy_let (fun v77 _ => ?_)
                            exact ih _ _ _ _ gs76
                        · skip
                          refine zRy_let (fun v79 _ => ?_)
                          refine zRy_if (fun _ => ?_) (fun _ => ?_)
                          · skip
                            refine zRy_let (fun v83 _ => ?_)
                            exact ih _ _ _ _ g
                          · skip
                            refine zRy_if (fun _ => ?_) (fun _ => ?_)
                            · skip
                              refine zRy_let (fun v87 _ => ?_)
                              exact ih _ _ _ _ g
                            · skip
                              refine zRy_let (fun v86 _ => ?_)
                              exact ih _ _ _ _ g
        · skip
          refine zRy_let (fun v17 _ => ?_)
          exact g
    · skip
      refine zRy_let (fun v11 _ => ?_)
      exact g
set_option maxRecDepth 100000 in
theorem rz_X0_answer {R : Nat → Nat → Option Nat} {σ0 : zS} {a0 : Nat} {p1 : Nat} {p2 : Int32}  (g : zRz R σ0) : zRy R (F_X0_answer a0 p1 p2 σ0) := by
  unfold F_X0_answer
  refine zRy_let (fun v1 _ => ?_)
  refine zRy_let (fun v2 _ => ?_)
  refine zRy_let (fun v3 _ => ?_)
  refine zRy_let (fun v4 _ => ?_)
  exact rz_X0_answer_13  _ _ _ _ _ g
set_option maxRecDepth 100000 in
theorem rz_X5_tells {R : Nat → Nat → Option Nat} {σ0 : zS} {a0 : Nat} {p1 : Int32} {p2 : Int32} {p3 : Int32}  (g : zRz R σ0) : zRy R (F_X5_tells a0 p1 p2 p3 σ0) := by
  unfold F_X5_tells
  refine zRy_let (fun v1 _ => ?_)
  refine zRy_let (fun v2 _ => ?_)
  refine zRy_let (fun v3 _ => ?_)
  refine zRy_let (fun v4 _ => ?_)
  refine zRy_let (fun v5 _ => ?_)
  refine zRy_let (fun v6 _ => ?_)
  refine zRy_let (fun s7 es7 => ?_)
  have gs7 : zRz R s7 := by rw [es7]; exact g
  refine zRy_let (fun v8 _ => ?_)
  refine zRy_let (fun v9 _ => ?_)
  refine zRy_let (fun v10 _ => ?_)
  refine zRy_let (fun v11 _ => ?_)
  refine zRy_let (fun s12 es12 => ?_)
  have gs12 : zRz R s12 := by rw [es12]; exact gs7
  refine zRy_let (fun v13 _ => ?_)
  refine zRy_let (fun v14 _ => ?_)
  refine zRy_let (fun v15 _ => ?_)
  refine zRy_let (fun v16 _ => ?_)
  refine zRy_let (fun s17 es17 => ?_)
  have gs17 : zRz R s17 := by rw [es17]; exact gs12
  refine zRy_let (fun v18 _ => ?_)
  refine zRy_let (fun v19 _ => ?_)
  refine zRy_let2 (fun v20 s21 es21 => ?_)
  have gs21 : zRz R s21 := zRy.of (rz_X1_moon gs17) es21
  refine zRy_let (fun s22 es22 => ?_)
  have gs22 : zRz R s22 := by rw [es22]; exact gs21
  refine zRy_let (fun v23 _ => ?_)
  refine zRy_let (fun s24 es24 => ?_)
  have gs24 : zRz R s24 := by rw [es24]; exact gs22
  refine zRy_let (fun v25 _ => ?_)
  refine zRy_let (fun v26 _ => ?_)
  refine zRy_let (fun v27 _ => ?_)
  refine zRy_let (fun v28 _ => ?_)
  refine zRy_let (fun s29 es29 => ?_)
  have gs29 : zRz R s29 := by rw [es29]; exact gs24
  refine zRy_let (fun v30 _ => ?_)
  refine zRy_let (fun v31 _ => ?_)
  refine zRy_let (fun v32 _ => ?_)
  refine zRy_let (fun v33 _ => ?_)
  refine zRy_let (fun s34 es34 => ?_)
  have gs34 : zRz R s34 := by rw [es34]; exact gs29
  refine zRy_let (fun v35 _ => ?_)
  refine zRy_let (fun s36 es36 => ?_)
  have gs36 : zRz R s36 := by rw [es36]; exact gs34
  refine zRy_let (fun v37 _ => ?_)
  refine zRy_let (fun v38 _ => ?_)
  refine zRy_let (fun v39 _ => ?_)
  refine zRy_let (fun v40 _ => ?_)
  refine zRy_let (fun s41 es41 => ?_)
  have gs41 : zRz R s41 := by rw [es41]; exact gs36
  refine zRy_let (fun v42 _ => ?_)
  refine zRy_let (fun v43 _ => ?_)
  refine zRy_let2 (fun v44 s45 es45 => ?_)
  have gs45 : zRz R s45 := zRy.of (rz_X0_answer gs41) es45
  exact gs45
set_option maxRecDepth 100000 in
theorem rz_X5_rainDown_2 {R : Nat → Nat → Option Nat} {a0 : Nat} {p1 : Int32}  : ∀ (n : Nat) (x2 : Int32) (τ3 : zS), zRz R τ3 → zRz R (F_X5_rainDown_2 a0 p1 n x2 τ3) := by
  intro n
  induction n with
  | zero => intro x2 τ3 g; exact g
  | succ n ih =>
    intro x2 τ3 g
    rw [F_X5_rainDown_2]
    refine zRz_let (fun v4 _ => ?_)
    refine zRz_let (fun v5 _ => ?_)
    refine zRz_if (fun _ => ?_) (fun _ => ?_)
    · skip
      refine zRz_let (fun v7 _ => ?_)
      refine zRz_let (fun v8 _ => ?_)
      refine zRz_let (fun v9 _ => ?_)
      refine zRz_let2 (fun v10 s11 es11 => ?_)
      have gs11 : zRz R s11 := zRy.of (rz_X5_tells g) es11
      refine zRz_let (fun v12 _ => ?_)
      refine zRz_let (fun v13 _ => ?_)
      refine zRz_let (fun v14 _ => ?_)
      refine zRz_let (fun v15 _ => ?_)
      refine zRz_let (fun s16 es16 => ?_)
      have gs16 : zRz R s16 := by rw [es16]; exact gs11
      refine zRz_let (fun v17 _ => ?_)
      exact ih _ _ gs16
    · skip
      exact g
set_option maxRecDepth 100000 in
theorem rz_X5_rainDown {R : Nat → Nat → Option Nat} {σ0 : zS} {a0 : Nat} {p1 : Int32}  (g : zRz R σ0) : zRz R (F_X5_rainDown a0 p1 σ0) := by
  unfold F_X5_rainDown
  refine zRz_let (fun v1 _ => ?_)
  exact rz_X5_rainDown_2  _ _ _ g
set_option maxRecDepth 100000 in
theorem rz_X5_dried {R : Nat → Nat → Option Nat} {σ0 : zS} {a0 : Nat} {p1 : Int32}  (g : zRz R σ0) : zRy R (F_X5_dried a0 p1 σ0) := by
  unfold F_X5_dried
  refine zRy_let (fun v1 _ => ?_)
  refine zRy_let (fun v2 _ => ?_)
  refine zRy_let (fun v3 _ => ?_)
  refine zRy_let2 (fun v4 s5 es5 => ?_)
  have gs5 : zRz R s5 := zRy.of (rz_X5_tells g) es5
  refine zRy_let (fun v6 _ => ?_)
  refine zRy_let (fun v7 _ => ?_)
  refine zRy_let (fun v8 _ => ?_)
  refine zRy_let (fun v9 _ => ?_)
  exact gs5
set_option maxRecDepth 100000 in
theorem rz_X5_run_25 {R : Nat → Nat → Option Nat} {a0 : Nat} {p1 : Int32}  : ∀ (n : Nat) (x11 : Int32) (τ12 : zS), zRz R τ12 → zRz R (F_X5_run_25 a0 p1 n x11 τ12) := by
  intro n
  induction n with
  | zero => intro x11 τ12 g; exact g
  | succ n ih =>
    intro x11 τ12 g
    rw [F_X5_run_25]
    refine zRz_if (fun _ => ?_) (fun _ => ?_)
    · skip
      refine zRz_let (fun v14 _ => ?_)
      refine zRz_let (fun v15 _ => ?_)
      refine zRz_let (fun v16 _ => ?_)
      refine zRz_let (fun v17 _ => ?_)
      refine zRz_if (fun _ => ?_) (fun _ => ?_)
      · skip
        refine zRz_let (fun v20 _ => ?_)
        refine zRz_let (fun v21 _ => ?_)
        refine zRz_let (fun v22 _ => ?_)
        refine zRz_let (fun v23 _ => ?_)
        refine zRz_let (fun v24 _ => ?_)
        refine zRz_let (fun v25 _ => ?_)
        refine zRz_let (fun v26 _ => ?_)
        refine zRz_let2 (fun v27 s28 es28 => ?_)
        have gs28 : zRz R s28 := zRy.of (rz_X5_dried g) es28
        refine zRz_let (fun v29 _ => ?_)
        refine zRz_let (fun v30 _ => ?_)
        refine zRz_let (fun s31 es31 => ?_)
        have gs31 : zRz R s31 := by rw [es31]; exact gs28
        refine zRz_let (fun v32 _ => ?_)
        exact ih _ _ gs31
      · skip
        refine zRz_let (fun v19 _ => ?_)
        exact ih _ _ g
    · skip
      exact g
set_option maxRecDepth 100000 in
theorem rz_X5_run {R : Nat → Nat → Option Nat} {σ0 : zS} {a0 : Nat} {p1 : Int32}  (g : zRz R σ0) : zRz R (F_X5_run a0 p1 σ0) := by
  unfold F_X5_run
  refine zRz_let (fun v1 _ => ?_)
  refine zRz_let (fun v2 _ => ?_)
  refine zRz_let (fun v3 _ => ?_)
  refine zRz_let (fun v4 _ => ?_)
  refine zRz_let (fun v5 _ => ?_)
  refine zRz_let (fun s6 es6 => ?_)
  have gs6 : zRz R s6 := by rw [es6]; exact g
  refine zRz_let (fun v7 _ => ?_)
  refine zRz_let (fun v8 _ => ?_)
  refine zRz_let (fun v9 _ => ?_)
  refine zRz_let (fun v10 _ => ?_)
  exact rz_X5_run_25  _ _ _ gs6
set_option maxRecDepth 100000 in
theorem rz_X5_fall {R : Nat → Nat → Option Nat} {σ0 : zS} {a0 : Nat} {p1 : Int32}  (g : zRz R σ0) : zRz R (F_X5_fall a0 p1 σ0) := by
  unfold F_X5_fall
  refine zRz_let (fun s1 es1 => ?_)
  have gs1 : zRz R s1 := by rw [es1]; exact rz_X5_rainDown g
  refine zRz_let (fun v2 _ => ?_)
  refine zRz_let (fun v3 _ => ?_)
  refine zRz_let (fun s4 es4 => ?_)
  have gs4 : zRz R s4 := by rw [es4]; exact rz_X5_run gs1
  exact gs4
set_option maxRecDepth 100000 in
theorem rz_X5_look {R : Nat → Nat → Option Nat} {σ0 : zS} {a0 : Nat} {p1 : Nat} {p2 : Nat}  (g : zRz R σ0) : zRz R (F_X5_look a0 p1 p2 σ0) := by
  unfold F_X5_look
  refine zRz_let (fun s1 es1 => ?_)
  have gs1 : zRz R s1 := by rw [es1]; exact rz_X5_form g
  refine zRz_let (fun v2 _ => ?_)
  refine zRz_let (fun s3 es3 => ?_)
  have gs3 : zRz R s3 := by rw [es3]; exact rz_X5_fall gs1
  exact gs3
set_option maxRecDepth 100000 in
theorem rz_X10_look {R : Nat → Nat → Option Nat} {σ0 : zS} {a0 : Nat}  (g : zRz R σ0) : zRz R (F_X10_look a0 σ0) := by
  unfold F_X10_look
  refine zRz_let (fun v1 _ => ?_)
  refine zRz_let (fun v2 _ => ?_)
  refine zRz_let (fun v3 _ => ?_)
  refine zRz_let (fun s4 es4 => ?_)
  have gs4 : zRz R s4 := by rw [es4]; exact rz_X5_look g
  exact gs4
set_option maxRecDepth 100000 in
theorem rz_X6_isSource {R : Nat → Nat → Option Nat} {σ0 : zS} {a0 : Nat} {p1 : Int32}  (g : zRz R σ0) : zRy R (F_X6_isSource a0 p1 σ0) := by
  unfold F_X6_isSource
  refine zRy_if (fun _ => ?_) (fun _ => ?_)
  · skip
    refine zRy_let (fun v3 _ => ?_)
    refine zRy_if (fun _ => ?_) (fun _ => ?_)
    · skip
      refine zRy_let (fun v7 _ => ?_)
      refine zRy_let (fun v8 _ => ?_)
      refine zRy_if (fun _ => ?_) (fun _ => ?_)
      · skip
        refine zRy_let (fun v11 _ => ?_)
        exact g
      · skip
        refine zRy_let (fun v10 _ => ?_)
        exact g
    · skip
      refine zRy_let (fun v6 _ => ?_)
      exact g
  · skip
    refine zRy_let (fun v2 _ => ?_)
    exact g
set_option maxRecDepth 100000 in
theorem rz_X10_spot {R : Nat → Nat → Option Nat} {σ0 : zS} {a0 : Nat} {p1 : Int32} {p2 : Int32}  (g : zRz R σ0) : zRy R (F_X10_spot a0 p1 p2 σ0) := by
  unfold F_X10_spot
  refine zRy_let2 (fun v1 s2 es2 => ?_)
  have gs2 : zRz R s2 := zRy.of (rz_X10_isPlace g) es2
  refine zRy_if (fun _ => ?_) (fun _ => ?_)
  · skip
    refine zRy_let (fun v4 _ => ?_)
    exact gs2
  · skip
    refine zRy_if (fun _ => ?_) (fun _ => ?_)
    · skip
      refine zRy_let (fun v6 _ => ?_)
      exact gs2
    · skip
      refine zRy_let (fun v7 _ => ?_)
      refine zRy_if (fun _ => ?_) (fun _ => ?_)
      · skip
        refine zRy_let (fun v70 _ => ?_)
        exact gs2
      · skip
        refine zRy_let (fun s10 es10 => ?_)
        have gs10 : zRz R s10 := by rw [es10]; exact rz_X10_look gs2
        refine zRy_if (fun _ => ?_) (fun _ => ?_)
        · skip
          refine zRy_if (fun _ => ?_) (fun _ => ?_)
          · skip
            refine zRy_let (fun v16 _ => ?_)
            exact gs10
          · skip
            refine zRy_let (fun v13 _ => ?_)
            refine zRy_let (fun v14 _ => ?_)
            refine zRy_let (fun v15 _ => ?_)
            exact gs10
        · skip
          refine zRy_if (fun _ => ?_) (fun _ => ?_)
          · skip
            refine zRy_let (fun v18 _ => ?_)
            refine zRy_let (fun v19 _ => ?_)
            refine zRy_let (fun v20 _ => ?_)
            exact gs10
          · skip
            refine zRy_if (fun _ => ?_) (fun _ => ?_)
            · skip
              refine zRy_let (fun v22 _ => ?_)
              refine zRy_let (fun v23 _ => ?_)
              refine zRy_let (fun v24 _ => ?_)
              exact gs10
            · skip
              refine zRy_if (fun _ => ?_) (fun _ => ?_)
              · skip
                refine zRy_let (fun v26 _ => ?_)
                refine zRy_let (fun v27 _ => ?_)
                refine zRy_let (fun v28 _ => ?_)
                exact gs10
              · skip
                refine zRy_if (fun _ => ?_) (fun _ => ?_)
                · skip
                  refine zRy_let (fun v30 _ => ?_)
                  refine zRy_let (fun v31 _ => ?_)
                  refine zRy_let (fun v32 _ => ?_)
                  refine zRy_if (fun _ => ?_) (fun _ => ?_)
                  · skip
                    refine zRy_let (fun v34 _ => ?_)
                    exact gs10
                  · skip
                    refine zRy_let (fun v35 _ => ?_)
                    exact gs10
                · skip
                  refine zRy_if (fun _ => ?_) (fun _ => ?_)
                  · skip
                    refine zRy_let (fun v37 _ => ?_)
                    refine zRy_let (fun v38 _ => ?_)
                    refine zRy_let (fun v39 _ => ?_)
                    exact gs10
                  · skip
                    refine zRy_if (fun _ => ?_) (fun _ => ?_)
                    · skip
                      refine zRy_let (fun v41 _ => ?_)
                      refine zRy_let (fun v42 _ => ?_)
                      refine zRy_let (fun v43 _ => ?_)
                      exact gs10
                    · skip
                      refine zRy_if (fun _ => ?_) (fun _ => ?_)
                      · skip
                        refine zRy_let (fun v45 _ => ?_)
                        refine zRy_let (fun v46 _ => ?_)
                        refine zRy_let (fun v47 _ => ?_)
                        exact gs10
                      · skip
                        refine zRy_if (fun _ => ?_) (fun _ => ?_)
                        · skip
                          refine zRy_let (fun v49 _ => ?_)
                          refine zRy_let2 (fun v50 s51 es51 => ?_)
                          have gs51 : zRz R s51 := zRy.of (rz_X6_isSource gs10) es51
                          refine zRy_if (fun _ => ?_) (fun _ => ?_)
                          · skip
                            refine zRy_let (fun v53 _ => ?_)
                            exact gs51
                          · skip
                            refine zRy_let (fun v54 _ => ?_)
                            exact gs51
                        · skip
                          refine zRy_if (fun _ => ?_) (fun _ => ?_)
                          · skip
                            refine zRy_let (fun v56 _ => ?_)
                            refine zRy_let (fun v57 _ => ?_)
                            refine zRy_let (fun v58 _ => ?_)
                            exact gs10
                          · skip
                            refine zRy_if (fun _ => ?_) (fun _ => ?_)
                            · skip
                              refine zRy_let (fun v60 _ => ?_)
                              refine zRy_let (fun v61 _ => ?_)
                              refine zRy_let (fun v62 _ => ?_)
                              exact gs10
                            · skip
                              refine zRy_if (fun _ => ?_) (fun _ => ?_)
                              · skip
                                refine zRy_let (fun v64 _ => ?_)
                                refine zRy_let (fun v65 _ => ?_)
                                refine zRy_let (fun v66 _ => ?_)
                                exact gs10
                              · skip
                                refine zRy_let (fun v67 _ => ?_)
                                refine zRy_let2 (fun v68 s69 es69 => ?_)
                                have gs69 : zRz R s69 := zRy.of (rz_X5_dried gs10) es69
                                exact gs69
set_option maxRecDepth 100000 in
theorem rz_X10_isLaw {R : Nat → Nat → Option Nat} {σ0 : zS} {a0 : Nat} {p1 : Int32}  (g : zRz R σ0) : zRy R (F_X10_isLaw a0 p1 σ0) := by
  unfold F_X10_isLaw
  refine zRy_let (fun v1 _ => ?_)
  refine zRy_let (fun v2 _ => ?_)
  refine zRy_let (fun v3 _ => ?_)
  exact g
set_option maxRecDepth 100000 in
theorem rz_X10_isContest {R : Nat → Nat → Option Nat} {σ0 : zS} {a0 : Nat} {p1 : Int32} {p2 : Int32}  (g : zRz R σ0) : zRy R (F_X10_isContest a0 p1 p2 σ0) := by
  unfold F_X10_isContest
  refine zRy_let (fun v1 _ => ?_)
  refine zRy_let (fun v2 _ => ?_)
  refine zRy_let (fun v3 _ => ?_)
  refine zRy_let (fun s4 es4 => ?_)
  have gs4 : zRz R s4 := by rw [es4]; exact rz_X5_look g
  refine zRy_let2 (fun v5 s6 es6 => ?_)
  have gs6 : zRz R s6 := zRy.of (rz_X10_isLaw gs4) es6
  refine zRy_if (fun _ => ?_) (fun _ => ?_)
  · skip
    refine zRy_let (fun v8 _ => ?_)
    exact gs6
  · skip
    refine zRy_let (fun v9 _ => ?_)
    refine zRy_let2 (fun v10 s11 es11 => ?_)
    have gs11 : zRz R s11 := zRy.of (rz_X6_isSource gs6) es11
    refine zRy_if (fun _ => ?_) (fun _ => ?_)
    · skip
      refine zRy_let (fun v13 _ => ?_)
      exact gs11
    · skip
      refine zRy_let (fun v14 _ => ?_)
      exact gs11
set_option maxRecDepth 100000 in
theorem rz_X5_claimOf {R : Nat → Nat → Option Nat} {σ0 : zS} {a0 : Nat} {p1 : Int32} {p2 : Int32}  (g : zRz R σ0) : zRy R (F_X5_claimOf a0 p1 p2 σ0) := by
  unfold F_X5_claimOf
  refine zRy_let (fun v1 _ => ?_)
  refine zRy_let (fun v2 _ => ?_)
  refine zRy_let (fun v3 _ => ?_)
  refine zRy_let (fun v4 _ => ?_)
  refine zRy_let2 (fun v5 s6 es6 => ?_)
  have gs6 : zRz R s6 := zRy.of (rz_X5_tells g) es6
  refine zRy_let (fun v7 _ => ?_)
  refine zRy_let (fun v8 _ => ?_)
  refine zRy_let (fun v9 _ => ?_)
  exact gs6
set_option maxRecDepth 100000 in
theorem rz_X10_claim {R : Nat → Nat → Option Nat} {σ0 : zS} {a0 : Nat} {p1 : Int32} {p2 : Int32}  (g : zRz R σ0) : zRy R (F_X10_claim a0 p1 p2 σ0) := by
  unfold F_X10_claim
  refine zRy_let2 (fun v1 s2 es2 => ?_)
  have gs2 : zRz R s2 := zRy.of (rz_X10_isContest g) es2
  refine zRy_if (fun _ => ?_) (fun _ => ?_)
  · skip
    refine zRy_let (fun v4 _ => ?_)
    exact gs2
  · skip
    refine zRy_let (fun v5 _ => ?_)
    refine zRy_let2 (fun v6 s7 es7 => ?_)
    have gs7 : zRz R s7 := zRy.of (rz_X5_claimOf gs2) es7
    exact gs7
set_option maxRecDepth 100000 in
theorem rz_X5_weigh_2 {R : Nat → Nat → Option Nat} {a0 : Nat} {p1 : Int32}  : ∀ (n : Nat) (x2 : Int32) (τ3 : zS), zRz R τ3 → zRz R (F_X5_weigh_2 a0 p1 n x2 τ3) := by
  intro n
  induction n with
  | zero => intro x2 τ3 g; exact g
  | succ n ih =>
    intro x2 τ3 g
    rw [F_X5_weigh_2]
    refine zRz_let (fun v4 _ => ?_)
    refine zRz_let (fun v5 _ => ?_)
    refine zRz_if (fun _ => ?_) (fun _ => ?_)
    · skip
      refine zRz_let (fun v7 _ => ?_)
      refine zRz_let (fun v8 _ => ?_)
      refine zRz_let2 (fun v9 s10 es10 => ?_)
      have gs10 : zRz R s10 := zRy.of (rz_X6_isSource g) es10
      refine zRz_if (fun _ => ?_) (fun _ => ?_)
      · skip
        refine zRz_let (fun v12 _ => ?_)
        refine zRz_let (fun s13 es13 => ?_)
        have gs13 : zRz R s13 := by rw [es13]; exact gs10
        refine zRz_let (fun v14 _ => ?_)
        exact ih _ _ gs13
      · skip
        refine zRz_let2 (fun v15 s16 es16 => ?_)
        have gs16 : zRz R s16 := zRy.of (rz_X5_claimOf gs10) es16
        refine zRz_let (fun s17 es17 => ?_)
        have gs17 : zRz R s17 := by rw [es17]; exact gs16
        refine zRz_let (fun v18 _ => ?_)
        exact ih _ _ gs17
    · skip
      exact g
set_option maxRecDepth 100000 in
theorem rz_X5_weigh {R : Nat → Nat → Option Nat} {σ0 : zS} {a0 : Nat} {p1 : Int32}  (g : zRz R σ0) : zRz R (F_X5_weigh a0 p1 σ0) := by
  unfold F_X5_weigh
  refine zRz_let (fun v1 _ => ?_)
  exact rz_X5_weigh_2  _ _ _ g
set_option maxRecDepth 100000 in
theorem rz_X5_greatestClaim_5 {R : Nat → Nat → Option Nat} {a0 : Nat} {p1 : Int32}  : ∀ (n : Nat) (x3 : Int32) (x4 : Int32) (τ5 : zS), zRz R τ5 → zRy R (F_X5_greatestClaim_5 a0 p1 n x3 x4 τ5) := by
  intro n
  induction n with
  | zero => intro x3 x4 τ5 g; exact g
  | succ n ih =>
    intro x3 x4 τ5 g
    rw [F_X5_greatestClaim_5]
    refine zRy_let (fun v6 _ => ?_)
    refine zRy_let (fun v7 _ => ?_)
    refine zRy_if (fun _ => ?_) (fun _ => ?_)
    · skip
      refine zRy_if (fun _ => ?_) (fun _ => ?_)
      · skip
        refine zRy_let (fun v10 _ => ?_)
        exact ih _ _ _ g
      · skip
        refine zRy_let (fun v11 _ => ?_)
        refine zRy_let2 (fun v12 s13 es13 => ?_)
        have gs13 : zRz R s13 := zRy.of (rz_X6_isSource g) es13
        refine zRy_if (fun _ => ?_) (fun _ => ?_)
        · skip
          refine zRy_let (fun v15 _ => ?_)
          exact ih _ _ _ gs13
        · skip
          refine zRy_if (fun _ => ?_) (fun _ => ?_)
          · skip
            refine zRy_let (fun v17 _ => ?_)
            exact ih _ _ _ gs13
          · skip
            refine zRy_let (fun v18 _ => ?_)
            refine zRy_let (fun v19 _ => ?_)
            refine zRy_let (fun v20 _ => ?_)
            refine zRy_let (fun v21 _ => ?_)
            refine zRy_if (fun _ => ?_) (fun _ => ?_)
            · skip
              refine zRy_let (fun v26 _ => ?_)
              exact ih _ _ _ gs13
            · skip
              refine zRy_let (fun v25 _ => ?_)
              exact ih _ _ _ gs13
    · skip
      exact g
set_option maxRecDepth 100000 in
theorem rz_X5_greatestClaim {R : Nat → Nat → Option Nat} {σ0 : zS} {a0 : Nat} {p1 : Int32}  (g : zRz R σ0) : zRy R (F_X5_greatestClaim a0 p1 σ0) := by
  unfold F_X5_greatestClaim
  refine zRy_let (fun v1 _ => ?_)
  refine zRy_let (fun v2 _ => ?_)
  exact rz_X5_greatestClaim_5  _ _ _ _ g
set_option maxRecDepth 100000 in
theorem rz_X5_winnerBy {R : Nat → Nat → Option Nat} {σ0 : zS} {a0 : Nat} {p1 : Int32}  (g : zRz R σ0) : zRy R (F_X5_winnerBy a0 p1 σ0) := by
  unfold F_X5_winnerBy
  refine zRy_let (fun s1 es1 => ?_)
  have gs1 : zRz R s1 := by rw [es1]; exact rz_X5_weigh g
  refine zRy_let (fun v2 _ => ?_)
  refine zRy_let2 (fun v3 s4 es4 => ?_)
  have gs4 : zRz R s4 := zRy.of (rz_X5_greatestClaim gs1) es4
  exact gs4
set_option maxRecDepth 100000 in
theorem rz_X10_winner {R : Nat → Nat → Option Nat} {σ0 : zS} {a0 : Nat} {p1 : Int32}  (g : zRz R σ0) : zRy R (F_X10_winner a0 p1 σ0) := by
  unfold F_X10_winner
  refine zRy_let2 (fun v1 s2 es2 => ?_)
  have gs2 : zRz R s2 := zRy.of (rz_X10_isLaw g) es2
  refine zRy_if (fun _ => ?_) (fun _ => ?_)
  · skip
    refine zRy_let (fun v8 _ => ?_)
    exact gs2
  · skip
    refine zRy_let (fun s4 es4 => ?_)
    have gs4 : zRz R s4 := by rw [es4]; exact rz_X10_look gs2
    refine zRy_let (fun v5 _ => ?_)
    refine zRy_let2 (fun v6 s7 es7 => ?_)
    have gs7 : zRz R s7 := zRy.of (rz_X5_winnerBy gs4) es7
    exact gs7
set_option maxRecDepth 100000 in
theorem rz_X10_behind {R : Nat → Nat → Option Nat} {σ0 : zS} {a0 : Nat} {p1 : Int32} {p2 : Int32}  (g : zRz R σ0) : zRy R (F_X10_behind a0 p1 p2 σ0) := by
  unfold F_X10_behind
  refine zRy_let2 (fun v1 s2 es2 => ?_)
  have gs2 : zRz R s2 := zRy.of (rz_X10_isContest g) es2
  refine zRy_if (fun _ => ?_) (fun _ => ?_)
  · skip
    refine zRy_let (fun v16 _ => ?_)
    exact gs2
  · skip
    refine zRy_let (fun v4 _ => ?_)
    refine zRy_let2 (fun v5 s6 es6 => ?_)
    have gs6 : zRz R s6 := zRy.of (rz_X5_winnerBy gs2) es6
    refine zRy_if (fun _ => ?_) (fun _ => ?_)
    · skip
      refine zRy_let (fun v15 _ => ?_)
      exact gs6
    · skip
      refine zRy_let (fun v8 _ => ?_)
      refine zRy_let (fun v9 _ => ?_)
      refine zRy_let (fun v10 _ => ?_)
      refine zRy_let (fun v11 _ => ?_)
      refine zRy_let (fun v12 _ => ?_)
      refine zRy_let (fun v13 _ => ?_)
      refine zRy_let (fun v14 _ => ?_)
      exact gs6
set_option maxRecDepth 100000 in
theorem rz_X10_margin {R : Nat → Nat → Option Nat} {σ0 : zS} {a0 : Nat} {p1 : Int32}  (g : zRz R σ0) : zRy R (F_X10_margin a0 p1 σ0) := by
  unfold F_X10_margin
  refine zRy_let2 (fun v1 s2 es2 => ?_)
  have gs2 : zRz R s2 := zRy.of (rz_X10_isLaw g) es2
  refine zRy_if (fun _ => ?_) (fun _ => ?_)
  · skip
    refine zRy_let (fun v25 _ => ?_)
    exact gs2
  · skip
    refine zRy_let (fun s4 es4 => ?_)
    have gs4 : zRz R s4 := by rw [es4]; exact rz_X10_look gs2
    refine zRy_let (fun v5 _ => ?_)
    refine zRy_let (fun s6 es6 => ?_)
    have gs6 : zRz R s6 := by rw [es6]; exact rz_X5_weigh gs4
    refine zRy_let (fun v7 _ => ?_)
    refine zRy_let (fun v8 _ => ?_)
    refine zRy_let2 (fun v9 s10 es10 => ?_)
    have gs10 : zRz R s10 := zRy.of (rz_X5_greatestClaim gs6) es10
    refine zRy_let (fun v11 _ => ?_)
    refine zRy_let2 (fun v12 s13 es13 => ?_)
    have gs13 : zRz R s13 := zRy.of (rz_X5_greatestClaim gs10) es13
    refine zRy_if (fun _ => ?_) (fun _ => ?_)
    · skip
      refine zRy_let (fun v15 _ => ?_)
      exact gs13
    · skip
      refine zRy_if (fun _ => ?_) (fun _ => ?_)
      · skip
        refine zRy_let (fun v24 _ => ?_)
        exact gs13
      · skip
        refine zRy_let (fun v17 _ => ?_)
        refine zRy_let (fun v18 _ => ?_)
        refine zRy_let (fun v19 _ => ?_)
        refine zRy_let (fun v20 _ => ?_)
        refine zRy_let (fun v21 _ => ?_)
        refine zRy_let (fun v22 _ => ?_)
        refine zRy_let (fun v23 _ => ?_)
        exact gs13
set_option maxRecDepth 100000 in
theorem rz_X10_richest_15 {R : Nat → Nat → Option Nat} {a0 : Nat} {p1 : Int32}  : ∀ (n : Nat) (x7 : Int32) (x8 : Int32) (τ9 : zS), zRz R τ9 → zRy R (F_X10_richest_15 a0 p1 n x7 x8 τ9) := by
  intro n
  induction n with
  | zero => intro x7 x8 τ9 g; exact g
  | succ n ih =>
    intro x7 x8 τ9 g
    rw [F_X10_richest_15]
    refine zRy_let (fun v10 _ => ?_)
    refine zRy_let (fun v11 _ => ?_)
    refine zRy_if (fun _ => ?_) (fun _ => ?_)
    · skip
      refine zRy_let (fun v22 _ => ?_)
      refine zRy_let (fun v23 _ => ?_)
      refine zRy_let (fun v24 _ => ?_)
      refine zRy_let (fun v25 _ => ?_)
      refine zRy_let (fun v26 _ => ?_)
      refine zRy_let (fun v27 _ => ?_)
      refine zRy_if (fun _ => ?_) (fun _ => ?_)
      · skip
        refine zRy_let (fun v32 _ => ?_)
        exact ih _ _ _ g
      · skip
        refine zRy_let (fun v31 _ => ?_)
        exact ih _ _ _ g
    · skip
      refine zRy_let (fun v13 _ => ?_)
      refine zRy_let (fun v14 _ => ?_)
      refine zRy_let (fun v15 _ => ?_)
      refine zRy_if (fun _ => ?_) (fun _ => ?_)
      · skip
        refine zRy_let (fun v21 _ => ?_)
        exact g
      · skip
        refine zRy_if (fun _ => ?_) (fun _ => ?_)
        · skip
          exact g
        · skip
          refine zRy_let (fun v18 _ => ?_)
          refine zRy_let (fun v19 _ => ?_)
          refine zRy_let (fun v20 _ => ?_)
          exact g
set_option maxRecDepth 100000 in
theorem rz_X10_richest {R : Nat → Nat → Option Nat} {σ0 : zS} {a0 : Nat} {p1 : Int32}  (g : zRz R σ0) : zRy R (F_X10_richest a0 p1 σ0) := by
  unfold F_X10_richest
  refine zRy_let (fun v1 _ => ?_)
  refine zRy_let (fun v2 _ => ?_)
  refine zRy_let (fun v3 _ => ?_)
  refine zRy_if (fun _ => ?_) (fun _ => ?_)
  · skip
    refine zRy_let (fun v33 _ => ?_)
    exact g
  · skip
    refine zRy_let (fun v5 _ => ?_)
    refine zRy_let (fun v6 _ => ?_)
    exact rz_X10_richest_15  _ _ _ _ g
set_option maxRecDepth 100000 in
theorem rz_X5_rankOf_4 {R : Nat → Nat → Option Nat} {a0 : Nat} {p1 : Int32}  : ∀ (n : Nat) (x3 : Int32) (x4 : Int32) (τ5 : zS), zRz R τ5 → zRy R (F_X5_rankOf_4 a0 p1 n x3 x4 τ5) := by
  intro n
  induction n with
  | zero => intro x3 x4 τ5 g; exact g
  | succ n ih =>
    intro x3 x4 τ5 g
    rw [F_X5_rankOf_4]
    refine zRy_let (fun v6 _ => ?_)
    refine zRy_let (fun v7 _ => ?_)
    refine zRy_if (fun _ => ?_) (fun _ => ?_)
    · skip
      refine zRy_let (fun v9 _ => ?_)
      refine zRy_let (fun v10 _ => ?_)
      refine zRy_let (fun v11 _ => ?_)
      refine zRy_let (fun v12 _ => ?_)
      refine zRy_if (fun _ => ?_) (fun _ => ?_)
      · skip
        refine zRy_let (fun v16 _ => ?_)
        refine zRy_let (fun v17 _ => ?_)
        exact ih _ _ _ g
      · skip
        refine zRy_let (fun v18 _ => ?_)
        refine zRy_let (fun v19 _ => ?_)
        refine zRy_let (fun v20 _ => ?_)
        refine zRy_let (fun v21 _ => ?_)
        refine zRy_if (fun _ => ?_) (fun _ => ?_)
        · skip
          refine zRy_if (fun _ => ?_) (fun _ => ?_)
          · skip
            refine zRy_let (fun v26 _ => ?_)
            refine zRy_let (fun v27 _ => ?_)
            exact ih _ _ _ g
          · skip
            refine zRy_let (fun v25 _ => ?_)
            exact ih _ _ _ g
        · skip
          refine zRy_let (fun v23 _ => ?_)
          exact ih _ _ _ g
    · skip
      exact g
set_option maxRecDepth 100000 in
theorem rz_X5_rankOf {R : Nat → Nat → Option Nat} {σ0 : zS} {a0 : Nat} {p1 : Int32}  (g : zRz R σ0) : zRy R (F_X5_rankOf a0 p1 σ0) := by
  unfold F_X5_rankOf
  refine zRy_let (fun v1 _ => ?_)
  refine zRy_let (fun v2 _ => ?_)
  exact rz_X5_rankOf_4  _ _ _ _ g
set_option maxRecDepth 100000 in
theorem rz_X10_rank {R : Nat → Nat → Option Nat} {σ0 : zS} {a0 : Nat} {p1 : Int32} {p2 : Int32}  (g : zRz R σ0) : zRy R (F_X10_rank a0 p1 p2 σ0) := by
  unfold F_X10_rank
  refine zRy_let2 (fun v1 s2 es2 => ?_)
  have gs2 : zRz R s2 := zRy.of (rz_X10_isContest g) es2
  refine zRy_if (fun _ => ?_) (fun _ => ?_)
  · skip
    refine zRy_let (fun v9 _ => ?_)
    exact gs2
  · skip
    refine zRy_let (fun v4 _ => ?_)
    refine zRy_let (fun s5 es5 => ?_)
    have gs5 : zRz R s5 := by rw [es5]; exact rz_X5_weigh gs2
    refine zRy_let (fun v6 _ => ?_)
    refine zRy_let2 (fun v7 s8 es8 => ?_)
    have gs8 : zRz R s8 := zRy.of (rz_X5_rankOf gs5) es8
    exact gs8
set_option maxRecDepth 100000 in
theorem rz_X6_sources_4 {R : Nat → Nat → Option Nat} {a0 : Nat}  : ∀ (n : Nat) (x3 : Int32) (x4 : Int32) (τ5 : zS), zRz R τ5 → zRy R (F_X6_sources_4 a0 n x3 x4 τ5) := by
  intro n
  induction n with
  | zero => intro x3 x4 τ5 g; exact g
  | succ n ih =>
    intro x3 x4 τ5 g
    rw [F_X6_sources_4]
    refine zRy_let (fun v6 _ => ?_)
    refine zRy_if (fun _ => ?_) (fun _ => ?_)
    · skip
      refine zRy_let (fun v8 _ => ?_)
      refine zRy_let (fun v9 _ => ?_)
      refine zRy_if (fun _ => ?_) (fun _ => ?_)
      · skip
        refine zRy_let (fun v12 _ => ?_)
        refine zRy_let (fun v13 _ => ?_)
        refine zRy_let (fun v14 _ => ?_)
        exact ih _ _ _ g
      · skip
        refine zRy_let (fun v11 _ => ?_)
        exact ih _ _ _ g
    · skip
      exact g
set_option maxRecDepth 100000 in
theorem rz_X6_sources {R : Nat → Nat → Option Nat} {σ0 : zS} {a0 : Nat}  (g : zRz R σ0) : zRy R (F_X6_sources a0 σ0) := by
  unfold F_X6_sources
  refine zRy_let (fun v1 _ => ?_)
  refine zRy_let (fun v2 _ => ?_)
  exact rz_X6_sources_4  _ _ _ _ g
set_option maxRecDepth 100000 in
theorem rz_X10_castVotes_17 {R : Nat → Nat → Option Nat} {x2 : Int32} {a0 : Nat} {kLp3 : Int32 → zS → zS} (ckLp3 : ∀ (y0 : Int32) (s : zS), zRz R s → zRz R (kLp3 y0 s)) : ∀ (n : Nat) (x9 : Int32) (τ10 : zS), zRz R τ10 → zRz R (F_X10_castVotes_17 x2 a0 kLp3 n x9 τ10) := by
  intro n
  induction n with
  | zero => intro x9 τ10 g; exact g
  | succ n ih =>
    intro x9 τ10 g
    rw [F_X10_castVotes_17]
    refine zRz_let (fun v11 _ => ?_)
    refine zRz_let (fun v12 _ => ?_)
    refine zRz_if (fun _ => ?_) (fun _ => ?_)
    · skip
      refine zRz_let (fun v15 _ => ?_)
      refine zRz_let (fun v16 _ => ?_)
      refine zRz_let2 (fun v17 s18 es18 => ?_)
      have gs18 : zRz R s18 := zRy.of (rz_X5_rankOf g) es18
      refine zRz_let (fun v19 _ => ?_)
      refine zRz_let (fun v20 _ => ?_)
      refine zRz_let (fun v21 _ => ?_)
      refine zRz_if (fun _ => ?_) (fun _ => ?_)
      · skip
        refine zRz_let (fun s28 es28 => ?_)
        have gs28 : zRz R s28 := by rw [es28]; exact gs18
        refine zRz_let (fun v29 _ => ?_)
        exact ih _ _ gs28
      · skip
        refine zRz_let (fun v23 _ => ?_)
        refine zRz_let (fun v24 _ => ?_)
        refine zRz_let (fun v25 _ => ?_)
        refine zRz_let (fun s26 es26 => ?_)
        have gs26 : zRz R s26 := by rw [es26]; exact gs18
        refine zRz_let (fun v27 _ => ?_)
        exact ih _ _ gs26
    · skip
      refine zRz_let (fun v14 _ => ?_)
      exact ckLp3 _ _ g
set_option maxRecDepth 100000 in
theorem rz_X10_castVotes_2 {R : Nat → Nat → Option Nat} {a0 : Nat}  : ∀ (n : Nat) (x2 : Int32) (τ3 : zS), zRz R τ3 → zRz R (F_X10_castVotes_2 a0 n x2 τ3) := by
  intro n
  induction n with
  | zero => intro x2 τ3 g; exact g
  | succ n ih =>
    intro x2 τ3 g
    rw [F_X10_castVotes_2]
    refine zRz_let (fun v4 _ => ?_)
    refine zRz_if (fun _ => ?_) (fun _ => ?_)
    · skip
      refine zRz_let (fun v6 _ => ?_)
      refine zRz_let (fun s7 es7 => ?_)
      have gs7 : zRz R s7 := by rw [es7]; exact rz_X5_weigh g
      refine zRz_let (fun v8 _ => ?_)
      exact rz_X10_castVotes_17 ih _ _ _ gs7
    · skip
      exact g
set_option maxRecDepth 100000 in
theorem rz_X10_castVotes {R : Nat → Nat → Option Nat} {σ0 : zS} {a0 : Nat}  (g : zRz R σ0) : zRz R (F_X10_castVotes a0 σ0) := by
  unfold F_X10_castVotes
  refine zRz_let (fun v1 _ => ?_)
  exact rz_X10_castVotes_2  _ _ _ g
set_option maxRecDepth 100000 in
theorem rz_X10_votesFor_4 {R : Nat → Nat → Option Nat} {a0 : Nat} {p1 : Int32}  : ∀ (n : Nat) (x3 : Int32) (x4 : Int32) (τ5 : zS), zRz R τ5 → zRy R (F_X10_votesFor_4 a0 p1 n x3 x4 τ5) := by
  intro n
  induction n with
  | zero => intro x3 x4 τ5 g; exact g
  | succ n ih =>
    intro x3 x4 τ5 g
    rw [F_X10_votesFor_4]
    refine zRy_let (fun v6 _ => ?_)
    refine zRy_let (fun v7 _ => ?_)
    refine zRy_if (fun _ => ?_) (fun _ => ?_)
    · skip
      refine zRy_let (fun v9 _ => ?_)
      refine zRy_let2 (fun v10 s11 es11 => ?_)
      have gs11 : zRz R s11 := zRy.of (rz_X6_isSource g) es11
      refine zRy_if (fun _ => ?_) (fun _ => ?_)
      · skip
        refine zRy_let (fun v13 _ => ?_)
        exact ih _ _ _ gs11
      · skip
        refine zRy_let (fun v14 _ => ?_)
        refine zRy_let (fun v15 _ => ?_)
        refine zRy_let (fun v16 _ => ?_)
        refine zRy_let (fun v17 _ => ?_)
        refine zRy_if (fun _ => ?_) (fun _ => ?_)
        · skip
          refine zRy_let (fun v20 _ => ?_)
          refine zRy_let (fun v21 _ => ?_)
          exact ih _ _ _ gs11
        · skip
          refine zRy_let (fun v19 _ => ?_)
          exact ih _ _ _ gs11
    · skip
      exact g
set_option maxRecDepth 100000 in
theorem rz_X10_votesFor {R : Nat → Nat → Option Nat} {σ0 : zS} {a0 : Nat} {p1 : Int32}  (g : zRz R σ0) : zRy R (F_X10_votesFor a0 p1 σ0) := by
  unfold F_X10_votesFor
  refine zRy_let (fun v1 _ => ?_)
  refine zRy_let (fun v2 _ => ?_)
  exact rz_X10_votesFor_4  _ _ _ _ g
set_option maxRecDepth 100000 in
theorem rz_X10_vote_36 {R : Nat → Nat → Option Nat} {a0 : Nat} {p1 : Int32}  : ∀ (n : Nat) (x13 : Int32) (x14 : Int32) (τ15 : zS), zRz R τ15 → zRy R (F_X10_vote_36 a0 p1 n x13 x14 τ15) := by
  intro n
  induction n with
  | zero => intro x13 x14 τ15 g; exact g
  | succ n ih =>
    intro x13 x14 τ15 g
    rw [F_X10_vote_36]
    refine zRy_let (fun v16 _ => ?_)
    refine zRy_if (fun _ => ?_) (fun _ => ?_)
    · skip
      refine zRy_let2 (fun v21 s22 es22 => ?_)
      have gs22 : zRz R s22 := zRy.of (rz_X10_votesFor g) es22
      refine zRy_let2 (fun v23 s24 es24 => ?_)
      have gs24 : zRz R s24 := zRy.of (rz_X10_votesFor gs22) es24
      refine zRy_if (fun _ => ?_) (fun _ => ?_)
      · skip
        refine zRy_let (fun v29 _ => ?_)
        exact ih _ _ _ gs24
      · skip
        refine zRy_let (fun v28 _ => ?_)
        exact ih _ _ _ gs24
    · skip
      refine zRy_if (fun _ => ?_) (fun _ => ?_)
      · skip
        exact g
      · skip
        refine zRy_let2 (fun v19 s20 es20 => ?_)
        have gs20 : zRz R s20 := zRy.of (rz_X10_votesFor g) es20
        exact gs20
set_option maxRecDepth 100000 in
theorem rz_X10_vote {R : Nat → Nat → Option Nat} {σ0 : zS} {a0 : Nat} {p1 : Int32}  (g : zRz R σ0) : zRy R (F_X10_vote a0 p1 σ0) := by
  unfold F_X10_vote
  refine zRy_let (fun v1 _ => ?_)
  refine zRy_let (fun v2 _ => ?_)
  refine zRy_let (fun v3 _ => ?_)
  refine zRy_if (fun _ => ?_) (fun _ => ?_)
  · skip
    refine zRy_let (fun v31 _ => ?_)
    exact g
  · skip
    refine zRy_let (fun s5 es5 => ?_)
    have gs5 : zRz R s5 := by rw [es5]; exact rz_X10_look g
    refine zRy_let (fun v6 _ => ?_)
    refine zRy_let2 (fun v7 s8 es8 => ?_)
    have gs8 : zRz R s8 := zRy.of (rz_X6_sources gs5) es8
    refine zRy_if (fun _ => ?_) (fun _ => ?_)
    · skip
      refine zRy_let (fun v30 _ => ?_)
      exact gs8
    · skip
      refine zRy_let (fun s10 es10 => ?_)
      have gs10 : zRz R s10 := by rw [es10]; exact rz_X10_castVotes gs8
      refine zRy_let (fun v11 _ => ?_)
      refine zRy_let (fun v12 _ => ?_)
      exact rz_X10_vote_36  _ _ _ _ gs10
set_option maxRecDepth 100000 in
theorem rz_X10_hasMouth {R : Nat → Nat → Option Nat} {σ0 : zS} {a0 : Nat}  (g : zRz R σ0) : zRy R (F_X10_hasMouth a0 σ0) := by
  unfold F_X10_hasMouth
  refine zRy_let (fun v1 _ => ?_)
  refine zRy_let (fun v2 _ => ?_)
  refine zRy_if (fun _ => ?_) (fun _ => ?_)
  · skip
    refine zRy_let (fun v5 _ => ?_)
    exact g
  · skip
    refine zRy_let (fun v4 _ => ?_)
    exact g
set_option maxRecDepth 100000 in
theorem rz_X10_mouthFlow {R : Nat → Nat → Option Nat} {σ0 : zS} {a0 : Nat}  (g : zRz R σ0) : zRy R (F_X10_mouthFlow a0 σ0) := by
  unfold F_X10_mouthFlow
  refine zRy_let2 (fun v1 s2 es2 => ?_)
  have gs2 : zRz R s2 := zRy.of (rz_X10_hasMouth g) es2
  refine zRy_if (fun _ => ?_) (fun _ => ?_)
  · skip
    refine zRy_let (fun v4 _ => ?_)
    exact gs2
  · skip
    refine zRy_let (fun v5 _ => ?_)
    refine zRy_let (fun v6 _ => ?_)
    refine zRy_let (fun v7 _ => ?_)
    refine zRy_let (fun v8 _ => ?_)
    exact gs2
set_option maxRecDepth 100000 in
theorem rz_X10_fewestDams_33 {R : Nat → Nat → Option Nat} {v13 : Int32} {a0 : Nat} {p1 : Int32}  : ∀ (n : Nat) (x16 : Int32) (x17 : Int32) (τ18 : zS), zRz R τ18 → zRy R (F_X10_fewestDams_33 v13 a0 p1 n x16 x17 τ18) := by
  intro n
  induction n with
  | zero => intro x16 x17 τ18 g; exact g
  | succ n ih =>
    intro x16 x17 τ18 g
    rw [F_X10_fewestDams_33]
    refine zRy_if (fun _ => ?_) (fun _ => ?_)
    · skip
      exact g
    · skip
      refine zRy_let (fun v21 _ => ?_)
      refine zRy_let (fun v22 _ => ?_)
      refine zRy_let (fun v23 _ => ?_)
      refine zRy_if (fun _ => ?_) (fun _ => ?_)
      · skip
        refine zRy_let (fun v26 _ => ?_)
        refine zRy_let (fun v27 _ => ?_)
        refine zRy_if (fun _ => ?_) (fun _ => ?_)
        · skip
          refine zRy_let (fun v30 _ => ?_)
          exact ih _ _ _ g
        · skip
          refine zRy_let (fun v31 _ => ?_)
          refine zRy_if (fun _ => ?_) (fun _ => ?_)
          · skip
            refine zRy_let (fun v33 _ => ?_)
            exact ih _ _ _ g
          · skip
            refine zRy_let (fun v34 _ => ?_)
            refine zRy_let (fun v35 _ => ?_)
            refine zRy_let (fun v36 _ => ?_)
            refine zRy_let (fun v37 _ => ?_)
            refine zRy_let (fun s38 es38 => ?_)
            have gs38 : zRz R s38 := by rw [es38]; exact rz_X5_run g
            refine zRy_let2 (fun v39 s40 es40 => ?_)
            have gs40 : zRz R s40 := zRy.of (rz_X10_mouthFlow gs38) es40
            refine zRy_if (fun _ => ?_) (fun _ => ?_)
            · skip
              refine zRy_let (fun v44 _ => ?_)
              exact ih _ _ _ gs40
            · skip
              refine zRy_let (fun v45 _ => ?_)
              exact ih _ _ _ gs40
      · skip
        refine zRy_let (fun v25 _ => ?_)
        exact ih _ _ _ g
set_option maxRecDepth 100000 in
theorem rz_X10_fewestDams {R : Nat → Nat → Option Nat} {σ0 : zS} {a0 : Nat} {p1 : Int32}  (g : zRz R σ0) : zRy R (F_X10_fewestDams a0 p1 σ0) := by
  unfold F_X10_fewestDams
  refine zRy_let (fun v1 _ => ?_)
  refine zRy_let (fun v2 _ => ?_)
  refine zRy_let (fun v3 _ => ?_)
  refine zRy_let (fun v4 _ => ?_)
  refine zRy_let (fun v5 _ => ?_)
  refine zRy_let (fun v6 _ => ?_)
  refine zRy_let (fun v7 _ => ?_)
  refine zRy_let (fun v8 _ => ?_)
  refine zRy_let (fun v9 _ => ?_)
  refine zRy_let (fun v10 _ => ?_)
  refine zRy_let (fun v11 _ => ?_)
  refine zRy_let (fun v12 _ => ?_)
  refine zRy_let (fun v13 _ => ?_)
  refine zRy_let (fun v14 _ => ?_)
  refine zRy_let (fun v15 _ => ?_)
  exact rz_X10_fewestDams_33  _ _ _ _ g
set_option maxRecDepth 100000 in
theorem rz_X10_dams {R : Nat → Nat → Option Nat} {σ0 : zS} {a0 : Nat} {p1 : Int32} {p2 : Int32}  (g : zRz R σ0) : zRy R (F_X10_dams a0 p1 p2 σ0) := by
  unfold F_X10_dams
  refine zRy_let2 (fun v1 s2 es2 => ?_)
  have gs2 : zRz R s2 := zRy.of (rz_X10_hasMouth g) es2
  refine zRy_if (fun _ => ?_) (fun _ => ?_)
  · skip
    refine zRy_let (fun v4 _ => ?_)
    exact gs2
  · skip
    refine zRy_let (fun v5 _ => ?_)
    refine zRy_let (fun v6 _ => ?_)
    refine zRy_let (fun v7 _ => ?_)
    refine zRy_if (fun _ => ?_) (fun _ => ?_)
    · skip
      refine zRy_let (fun v9 _ => ?_)
      exact gs2
    · skip
      refine zRy_let (fun v10 _ => ?_)
      refine zRy_let (fun v11 _ => ?_)
      refine zRy_let (fun v12 _ => ?_)
      refine zRy_if (fun _ => ?_) (fun _ => ?_)
      · skip
        refine zRy_let (fun v24 _ => ?_)
        exact gs2
      · skip
        refine zRy_let (fun s14 es14 => ?_)
        have gs14 : zRz R s14 := by rw [es14]; exact rz_X10_look gs2
        refine zRy_let2 (fun v15 s16 es16 => ?_)
        have gs16 : zRz R s16 := zRy.of (rz_X10_fewestDams gs14) es16
        refine zRy_let (fun v17 _ => ?_)
        refine zRy_if (fun _ => ?_) (fun _ => ?_)
        · skip
          refine zRy_let (fun v23 _ => ?_)
          exact gs16
        · skip
          refine zRy_let (fun v19 _ => ?_)
          refine zRy_if (fun _ => ?_) (fun _ => ?_)
          · skip
            refine zRy_let (fun v22 _ => ?_)
            exact gs16
          · skip
            refine zRy_let (fun v21 _ => ?_)
            exact gs16
set_option maxRecDepth 100000 in
theorem rz_X10_lossOf {R : Nat → Nat → Option Nat} {σ0 : zS} {a0 : Nat} {p1 : Int32}  (g : zRz R σ0) : zRy R (F_X10_lossOf a0 p1 σ0) := by
  unfold F_X10_lossOf
  refine zRy_let2 (fun v1 s2 es2 => ?_)
  have gs2 : zRz R s2 := zRy.of (rz_X10_mouthFlow g) es2
  refine zRy_let (fun v3 _ => ?_)
  refine zRy_let (fun v4 _ => ?_)
  refine zRy_let (fun v5 _ => ?_)
  refine zRy_let (fun v6 _ => ?_)
  refine zRy_let (fun v7 _ => ?_)
  refine zRy_let (fun s8 es8 => ?_)
  have gs8 : zRz R s8 := by rw [es8]; exact rz_X5_run gs2
  refine zRy_let2 (fun v9 s10 es10 => ?_)
  have gs10 : zRz R s10 := zRy.of (rz_X10_mouthFlow gs8) es10
  refine zRy_let (fun v11 _ => ?_)
  exact gs10
set_option maxRecDepth 100000 in
theorem rz_X10_loss {R : Nat → Nat → Option Nat} {σ0 : zS} {a0 : Nat} {p1 : Int32}  (g : zRz R σ0) : zRy R (F_X10_loss a0 p1 σ0) := by
  unfold F_X10_loss
  refine zRy_if (fun _ => ?_) (fun _ => ?_)
  · skip
    refine zRy_let (fun v2 _ => ?_)
    exact g
  · skip
    refine zRy_let2 (fun v3 s4 es4 => ?_)
    have gs4 : zRz R s4 := zRy.of (rz_X10_isPlace g) es4
    refine zRy_if (fun _ => ?_) (fun _ => ?_)
    · skip
      refine zRy_let (fun v9 _ => ?_)
      exact gs4
    · skip
      refine zRy_let (fun s6 es6 => ?_)
      have gs6 : zRz R s6 := by rw [es6]; exact rz_X10_look gs4
      refine zRy_let2 (fun v7 s8 es8 => ?_)
      have gs8 : zRz R s8 := zRy.of (rz_X10_lossOf gs6) es8
      exact gs8
set_option maxRecDepth 100000 in
theorem rz_X10_greatestInto_4 {R : Nat → Nat → Option Nat} {a0 : Nat} {p1 : Int32}  : ∀ (n : Nat) (x3 : Int32) (x4 : Int32) (τ5 : zS), zRz R τ5 → zRy R (F_X10_greatestInto_4 a0 p1 n x3 x4 τ5) := by
  intro n
  induction n with
  | zero => intro x3 x4 τ5 g; exact g
  | succ n ih =>
    intro x3 x4 τ5 g
    rw [F_X10_greatestInto_4]
    refine zRy_let (fun v6 _ => ?_)
    refine zRy_let (fun v7 _ => ?_)
    refine zRy_if (fun _ => ?_) (fun _ => ?_)
    · skip
      refine zRy_let (fun v9 _ => ?_)
      refine zRy_let (fun v10 _ => ?_)
      refine zRy_let (fun v11 _ => ?_)
      refine zRy_if (fun _ => ?_) (fun _ => ?_)
      · skip
        refine zRy_let (fun v14 _ => ?_)
        refine zRy_if (fun _ => ?_) (fun _ => ?_)
        · skip
          refine zRy_let (fun v16 _ => ?_)
          exact ih _ _ _ g
        · skip
          refine zRy_let (fun v17 _ => ?_)
          refine zRy_let (fun v18 _ => ?_)
          refine zRy_let (fun v19 _ => ?_)
          refine zRy_let (fun v20 _ => ?_)
          refine zRy_let (fun v21 _ => ?_)
          refine zRy_let (fun v22 _ => ?_)
          refine zRy_if (fun _ => ?_) (fun _ => ?_)
          · skip
            refine zRy_let (fun v27 _ => ?_)
            exact ih _ _ _ g
          · skip
            refine zRy_let (fun v26 _ => ?_)
            exact ih _ _ _ g
      · skip
        refine zRy_let (fun v13 _ => ?_)
        exact ih _ _ _ g
    · skip
      exact g
set_option maxRecDepth 100000 in
theorem rz_X10_greatestInto {R : Nat → Nat → Option Nat} {σ0 : zS} {a0 : Nat} {p1 : Int32}  (g : zRz R σ0) : zRy R (F_X10_greatestInto a0 p1 σ0) := by
  unfold F_X10_greatestInto
  refine zRy_let (fun v1 _ => ?_)
  refine zRy_let (fun v2 _ => ?_)
  exact rz_X10_greatestInto_4  _ _ _ _ g
set_option maxRecDepth 100000 in
theorem rz_X10_main_21 {R : Nat → Nat → Option Nat} {a0 : Nat} {p1 : Int32}  : ∀ (n : Nat) (x9 : Int32) (x10 : Int32) (τ11 : zS), zRz R τ11 → zRy R (F_X10_main_21 a0 p1 n x9 x10 τ11) := by
  intro n
  induction n with
  | zero => intro x9 x10 τ11 g; exact g
  | succ n ih =>
    intro x9 x10 τ11 g
    rw [F_X10_main_21]
    refine zRy_if (fun _ => ?_) (fun _ => ?_)
    · skip
      refine zRy_let (fun v15 _ => ?_)
      refine zRy_if (fun _ => ?_) (fun _ => ?_)
      · skip
        exact g
      · skip
        refine zRy_let2 (fun v17 s18 es18 => ?_)
        have gs18 : zRz R s18 := zRy.of (rz_X10_greatestInto g) es18
        refine zRy_let (fun v19 _ => ?_)
        exact ih _ _ _ gs18
    · skip
      exact g
set_option maxRecDepth 100000 in
theorem rz_X10_main {R : Nat → Nat → Option Nat} {σ0 : zS} {a0 : Nat} {p1 : Int32}  (g : zRz R σ0) : zRy R (F_X10_main a0 p1 σ0) := by
  unfold F_X10_main
  refine zRy_let2 (fun v1 s2 es2 => ?_)
  have gs2 : zRz R s2 := zRy.of (rz_X10_hasMouth g) es2
  refine zRy_if (fun _ => ?_) (fun _ => ?_)
  · skip
    refine zRy_let (fun v4 _ => ?_)
    exact gs2
  · skip
    refine zRy_if (fun _ => ?_) (fun _ => ?_)
    · skip
      refine zRy_let (fun v20 _ => ?_)
      exact gs2
    · skip
      refine zRy_let (fun s6 es6 => ?_)
      have gs6 : zRz R s6 := by rw [es6]; exact rz_X10_look gs2
      refine zRy_let (fun v7 _ => ?_)
      refine zRy_let (fun v8 _ => ?_)
      exact rz_X10_main_21  _ _ _ _ gs6
set_option maxRecDepth 100000 in
theorem rz_X10_damFor_13 {R : Nat → Nat → Option Nat} {a0 : Nat} {p1 : Int32} {p2 : Int32}  : ∀ (n : Nat) (x5 : Int32) (τ6 : zS), zRz R τ6 → zRy R (F_X10_damFor_13 a0 p1 p2 n x5 τ6) := by
  intro n
  induction n with
  | zero => intro x5 τ6 g; exact g
  | succ n ih =>
    intro x5 τ6 g
    rw [F_X10_damFor_13]
    refine zRy_let (fun v7 _ => ?_)
    refine zRy_let (fun v8 _ => ?_)
    refine zRy_if (fun _ => ?_) (fun _ => ?_)
    · skip
      refine zRy_let (fun v11 _ => ?_)
      refine zRy_let (fun v12 _ => ?_)
      refine zRy_let (fun v13 _ => ?_)
      refine zRy_if (fun _ => ?_) (fun _ => ?_)
      · skip
        refine zRy_let (fun v16 _ => ?_)
        refine zRy_let (fun v17 _ => ?_)
        refine zRy_let (fun v18 _ => ?_)
        refine zRy_let (fun v19 _ => ?_)
        refine zRy_let (fun v20 _ => ?_)
        refine zRy_let (fun s21 es21 => ?_)
        have gs21 : zRz R s21 := by rw [es21]; exact rz_X5_run g
        refine zRy_let (fun v22 _ => ?_)
        refine zRy_let2 (fun v23 s24 es24 => ?_)
        have gs24 : zRz R s24 := zRy.of (rz_X5_winnerBy gs21) es24
        refine zRy_if (fun _ => ?_) (fun _ => ?_)
        · skip
          exact gs24
        · skip
          refine zRy_let (fun v26 _ => ?_)
          exact ih _ _ gs24
      · skip
        refine zRy_let (fun v15 _ => ?_)
        exact ih _ _ g
    · skip
      refine zRy_let (fun v10 _ => ?_)
      exact g
set_option maxRecDepth 100000 in
theorem rz_X10_damFor {R : Nat → Nat → Option Nat} {σ0 : zS} {a0 : Nat} {p1 : Int32} {p2 : Int32}  (g : zRz R σ0) : zRy R (F_X10_damFor a0 p1 p2 σ0) := by
  unfold F_X10_damFor
  refine zRy_let2 (fun v1 s2 es2 => ?_)
  have gs2 : zRz R s2 := zRy.of (rz_X10_isContest g) es2
  refine zRy_if (fun _ => ?_) (fun _ => ?_)
  · skip
    refine zRy_let (fun v27 _ => ?_)
    exact gs2
  · skip
    refine zRy_let (fun v4 _ => ?_)
    exact rz_X10_damFor_13  _ _ _ gs2
set_option maxRecDepth 100000 in
theorem rz_X6_deepest_4 {R : Nat → Nat → Option Nat} {a0 : Nat}  : ∀ (n : Nat) (x3 : Int32) (x4 : Int32) (τ5 : zS), zRz R τ5 → zRy R (F_X6_deepest_4 a0 n x3 x4 τ5) := by
  intro n
  induction n with
  | zero => intro x3 x4 τ5 g; exact g
  | succ n ih =>
    intro x3 x4 τ5 g
    rw [F_X6_deepest_4]
    refine zRy_let (fun v6 _ => ?_)
    refine zRy_if (fun _ => ?_) (fun _ => ?_)
    · skip
      refine zRy_let (fun v8 _ => ?_)
      refine zRy_let (fun v9 _ => ?_)
      refine zRy_let (fun v10 _ => ?_)
      refine zRy_let (fun v11 _ => ?_)
      refine zRy_let (fun v12 _ => ?_)
      exact ih _ _ _ g
    · skip
      exact g
set_option maxRecDepth 100000 in
theorem rz_X6_deepest {R : Nat → Nat → Option Nat} {σ0 : zS} {a0 : Nat}  (g : zRz R σ0) : zRy R (F_X6_deepest a0 σ0) := by
  unfold F_X6_deepest
  refine zRy_let (fun v1 _ => ?_)
  refine zRy_let (fun v2 _ => ?_)
  exact rz_X6_deepest_4  _ _ _ _ g
set_option maxRecDepth 100000 in
theorem rz_X10_depth {R : Nat → Nat → Option Nat} {σ0 : zS} {a0 : Nat}  (g : zRz R σ0) : zRy R (F_X10_depth a0 σ0) := by
  unfold F_X10_depth
  refine zRy_let (fun s1 es1 => ?_)
  have gs1 : zRz R s1 := by rw [es1]; exact rz_X10_look g
  refine zRy_let (fun v2 _ => ?_)
  refine zRy_let2 (fun v3 s4 es4 => ?_)
  have gs4 : zRz R s4 := zRy.of (rz_X6_deepest gs1) es4
  exact gs4
set_option maxRecDepth 100000 in
theorem rz_X6_orderOf_20 {R : Nat → Nat → Option Nat} {x4 : Int32} {a0 : Nat} {p1 : Nat} {p2 : Int32} {kLp5 : Int32 → zS → Int32 × zS} (ckLp5 : ∀ (y0 : Int32) (s : zS), zRz R s → zRy R (kLp5 y0 s)) : ∀ (n : Nat) (x12 : Int32) (x13 : Int32) (x14 : Int32) (τ15 : zS), zRz R τ15 → zRy R (F_X6_orderOf_20 x4 a0 p1 p2 kLp5 n x12 x13 x14 τ15) := by
  intro n
  induction n with
  | zero => intro x12 x13 x14 τ15 g; exact g
  | succ n ih =>
    intro x12 x13 x14 τ15 g
    rw [F_X6_orderOf_20]
    refine zRy_let (fun v16 _ => ?_)
    refine zRy_if (fun _ => ?_) (fun _ => ?_)
    · skip
      refine zRy_let (fun v31 _ => ?_)
      refine zRy_let (fun v32 _ => ?_)
      refine zRy_let (fun v33 _ => ?_)
      refine zRy_let (fun v34 _ => ?_)
      refine zRy_if (fun _ => ?_) (fun _ => ?_)
      · skip
        refine zRy_let (fun v37 _ => ?_)
        refine zRy_let (fun v38 _ => ?_)
        refine zRy_if (fun _ => ?_) (fun _ => ?_)
        · skip
          refine zRy_let (fun v42 _ => ?_)
          exact ih _ _ _ _ g
        · skip
          refine zRy_let (fun v43 _ => ?_)
          refine zRy_let (fun v44 _ => ?_)
          refine zRy_if (fun _ => ?_) (fun _ => ?_)
          · skip
            refine zRy_let (fun v50 _ => ?_)
            refine zRy_let (fun v51 _ => ?_)
            refine zRy_let (fun v52 _ => ?_)
            refine zRy_let (fun v53 _ => ?_)
            refine zRy_let (fun v54 _ => ?_)
            exact ih _ _ _ _ g
          · skip
            refine zRy_let (fun v46 _ => ?_)
            refine zRy_let (fun v47 _ => ?_)
            refine zRy_let (fun v48 _ => ?_)
            refine zRy_let (fun v49 _ => ?_)
            exact ih _ _ _ _ g
      · skip
        refine zRy_let (fun v36 _ => ?_)
        exact ih _ _ _ _ g
    · skip
      refine zRy_let (fun v18 _ => ?_)
      refine zRy_let (fun v19 _ => ?_)
      refine zRy_let (fun v20 _ => ?_)
      refine zRy_let (fun v21 _ => ?_)
      refine zRy_if (fun _ => ?_) (fun _ => ?_)
      · skip
        refine zRy_let (fun s28 es28 => ?_)
        have gs28 : zRz R s28 := by rw [es28]; exact g
        refine zRy_let (fun v30 _ => ?_)
        exact ckLp5 _ _ gs28
      · skip
        refine zRy_let (fun v23 _ => ?_)
        refine zRy_let (fun v24 _ => ?_)
        refine zRy_let (fun s25 es25 => ?_)
        have gs25 : zRz R s25 := by rw [es25]; exact g
        refine zRy_let (fun v27 _ => ?_)
        exact ckLp5 _ _ gs25
set_option maxRecDepth 100000 in
theorem rz_X6_orderOf_7 {R : Nat → Nat → Option Nat} {a0 : Nat} {p1 : Nat} {p2 : Int32}  : ∀ (n : Nat) (x4 : Int32) (τ5 : zS), zRz R τ5 → zRy R (F_X6_orderOf_7 a0 p1 p2 n x4 τ5) := by
  intro n
  induction n with
  | zero => intro x4 τ5 g; exact g
  | succ n ih =>
    intro x4 τ5 g
    rw [F_X6_orderOf_7]
    refine zRy_if (fun _ => ?_) (fun _ => ?_)
    · skip
      refine zRy_let (fun v7 _ => ?_)
      refine zRy_let (fun v8 _ => ?_)
      exact g
    · skip
      refine zRy_let (fun v9 _ => ?_)
      refine zRy_let (fun v10 _ => ?_)
      refine zRy_let (fun v11 _ => ?_)
      exact rz_X6_orderOf_20 ih _ _ _ _ _ g
set_option maxRecDepth 100000 in
theorem rz_X6_orderOf {R : Nat → Nat → Option Nat} {σ0 : zS} {a0 : Nat} {p1 : Nat} {p2 : Int32}  (g : zRz R σ0) : zRy R (F_X6_orderOf a0 p1 p2 σ0) := by
  unfold F_X6_orderOf
  refine zRy_let (fun v1 _ => ?_)
  refine zRy_let (fun v2 _ => ?_)
  refine zRy_let (fun v3 _ => ?_)
  exact rz_X6_orderOf_7  _ _ _ g
set_option maxRecDepth 100000 in
theorem rz_X10_order {R : Nat → Nat → Option Nat} {σ0 : zS} {a0 : Nat} {p1 : Int32}  (g : zRz R σ0) : zRy R (F_X10_order a0 p1 σ0) := by
  unfold F_X10_order
  refine zRy_let2 (fun v1 s2 es2 => ?_)
  have gs2 : zRz R s2 := zRy.of (rz_X10_isPlace g) es2
  refine zRy_if (fun _ => ?_) (fun _ => ?_)
  · skip
    refine zRy_let (fun v9 _ => ?_)
    exact gs2
  · skip
    refine zRy_let (fun s4 es4 => ?_)
    have gs4 : zRz R s4 := by rw [es4]; exact rz_X10_look gs2
    refine zRy_let (fun v5 _ => ?_)
    refine zRy_let (fun v6 _ => ?_)
    refine zRy_let2 (fun v7 s8 es8 => ?_)
    have gs8 : zRz R s8 := zRy.of (rz_X6_orderOf gs4) es8
    exact gs8
set_option maxRecDepth 100000 in
theorem rz_X6_comingBy_4 {R : Nat → Nat → Option Nat} {a0 : Nat} {p1 : Int32}  : ∀ (n : Nat) (x3 : Int32) (x4 : Int32) (τ5 : zS), zRz R τ5 → zRy R (F_X6_comingBy_4 a0 p1 n x3 x4 τ5) := by
  intro n
  induction n with
  | zero => intro x3 x4 τ5 g; exact g
  | succ n ih =>
    intro x3 x4 τ5 g
    rw [F_X6_comingBy_4]
    refine zRy_let (fun v6 _ => ?_)
    refine zRy_if (fun _ => ?_) (fun _ => ?_)
    · skip
      refine zRy_let (fun v8 _ => ?_)
      refine zRy_let (fun v9 _ => ?_)
      refine zRy_let (fun v10 _ => ?_)
      refine zRy_if (fun _ => ?_) (fun _ => ?_)
      · skip
        refine zRy_let (fun v12 _ => ?_)
        exact ih _ _ _ g
      · skip
        refine zRy_let (fun v13 _ => ?_)
        refine zRy_let (fun v14 _ => ?_)
        refine zRy_let (fun v15 _ => ?_)
        exact ih _ _ _ g
    · skip
      exact g
set_option maxRecDepth 100000 in
theorem rz_X6_comingBy {R : Nat → Nat → Option Nat} {σ0 : zS} {a0 : Nat} {p1 : Int32}  (g : zRz R σ0) : zRy R (F_X6_comingBy a0 p1 σ0) := by
  unfold F_X6_comingBy
  refine zRy_let (fun v1 _ => ?_)
  refine zRy_let (fun v2 _ => ?_)
  exact rz_X6_comingBy_4  _ _ _ _ g
set_option maxRecDepth 100000 in
theorem rz_X5_rainsOf_4 {R : Nat → Nat → Option Nat} {a0 : Nat} {p1 : Int32}  : ∀ (n : Nat) (x3 : Int32) (x4 : Int32) (τ5 : zS), zRz R τ5 → zRy R (F_X5_rainsOf_4 a0 p1 n x3 x4 τ5) := by
  intro n
  induction n with
  | zero => intro x3 x4 τ5 g; exact g
  | succ n ih =>
    intro x3 x4 τ5 g
    rw [F_X5_rainsOf_4]
    refine zRy_let (fun v6 _ => ?_)
    refine zRy_let (fun v7 _ => ?_)
    refine zRy_if (fun _ => ?_) (fun _ => ?_)
    · skip
      refine zRy_let (fun v9 _ => ?_)
      refine zRy_if (fun _ => ?_) (fun _ => ?_)
      · skip
        refine zRy_let (fun v11 _ => ?_)
        exact ih _ _ _ g
      · skip
        refine zRy_let (fun v12 _ => ?_)
        refine zRy_let (fun v13 _ => ?_)
        refine zRy_let (fun v14 _ => ?_)
        refine zRy_let (fun v15 _ => ?_)
        exact ih _ _ _ g
    · skip
      exact g
set_option maxRecDepth 100000 in
theorem rz_X5_rainsOf {R : Nat → Nat → Option Nat} {σ0 : zS} {a0 : Nat} {p1 : Int32}  (g : zRz R σ0) : zRy R (F_X5_rainsOf a0 p1 σ0) := by
  unfold F_X5_rainsOf
  refine zRy_let (fun v1 _ => ?_)
  refine zRy_let (fun v2 _ => ?_)
  exact rz_X5_rainsOf_4  _ _ _ _ g
set_option maxRecDepth 100000 in
theorem rz_X10_basin {R : Nat → Nat → Option Nat} {σ0 : zS} {a0 : Nat} {p1 : Int32} {p2 : Int32}  (g : zRz R σ0) : zRy R (F_X10_basin a0 p1 p2 σ0) := by
  unfold F_X10_basin
  refine zRy_let2 (fun v1 s2 es2 => ?_)
  have gs2 : zRz R s2 := zRy.of (rz_X10_isPlace g) es2
  refine zRy_if (fun _ => ?_) (fun _ => ?_)
  · skip
    refine zRy_let (fun v4 _ => ?_)
    exact gs2
  · skip
    refine zRy_let (fun v5 _ => ?_)
    refine zRy_let (fun v6 _ => ?_)
    refine zRy_let (fun v7 _ => ?_)
    refine zRy_if (fun _ => ?_) (fun _ => ?_)
    · skip
      refine zRy_let (fun v17 _ => ?_)
      exact gs2
    · skip
      refine zRy_let (fun s9 es9 => ?_)
      have gs9 : zRz R s9 := by rw [es9]; exact rz_X10_look gs2
      refine zRy_let (fun v10 _ => ?_)
      refine zRy_let2 (fun v11 s12 es12 => ?_)
      have gs12 : zRz R s12 := zRy.of (rz_X6_comingBy gs9) es12
      refine zRy_if (fun _ => ?_) (fun _ => ?_)
      · skip
        exact gs12
      · skip
        refine zRy_let (fun v14 _ => ?_)
        refine zRy_let2 (fun v15 s16 es16 => ?_)
        have gs16 : zRz R s16 := zRy.of (rz_X5_rainsOf gs12) es16
        exact gs16
set_option maxRecDepth 100000 in
theorem rz_X10_part {R : Nat → Nat → Option Nat} {σ0 : zS} {a0 : Nat} {p1 : Int32}  (g : zRz R σ0) : zRy R (F_X10_part a0 p1 σ0) := by
  unfold F_X10_part
  refine zRy_if (fun _ => ?_) (fun _ => ?_)
  · skip
    refine zRy_let (fun v2 _ => ?_)
    exact g
  · skip
    refine zRy_let2 (fun v3 s4 es4 => ?_)
    have gs4 : zRz R s4 := zRy.of (rz_X10_isPlace g) es4
    refine zRy_if (fun _ => ?_) (fun _ => ?_)
    · skip
      refine zRy_let (fun v16 _ => ?_)
      exact gs4
    · skip
      refine zRy_let (fun s6 es6 => ?_)
      have gs6 : zRz R s6 := by rw [es6]; exact rz_X10_look gs4
      refine zRy_let2 (fun v7 s8 es8 => ?_)
      have gs8 : zRz R s8 := zRy.of (rz_X10_mouthFlow gs6) es8
      refine zRy_if (fun _ => ?_) (fun _ => ?_)
      · skip
        refine zRy_let (fun v15 _ => ?_)
        exact gs8
      · skip
        refine zRy_let2 (fun v10 s11 es11 => ?_)
        have gs11 : zRz R s11 := zRy.of (rz_X10_lossOf gs8) es11
        refine zRy_let (fun v12 _ => ?_)
        refine zRy_let (fun v13 _ => ?_)
        refine zRy_let (fun v14 _ => ?_)
        exact gs11
set_option maxRecDepth 100000 in
theorem rz_X6_tourOf_59 {R : Nat → Nat → Option Nat} {x5 : Int32} {x6 : Int32} {a0 : Nat} {p1 : Int32} {kLp7 : Int32 → Int32 → Int32 → zS → Int32 × zS} (ckLp7 : ∀ (y0 : Int32) (y1 : Int32) (y2 : Int32) (s : zS), zRz R s → zRy R (kLp7 y0 y1 y2 s)) : ∀ (n : Nat) (x12 : Int32) (x13 : Int32) (τ14 : zS), zRz R τ14 → zRy R (F_X6_tourOf_59 x5 x6 a0 p1 kLp7 n x12 x13 τ14) := by
  intro n
  induction n with
  | zero => intro x12 x13 τ14 g; exact g
  | succ n ih =>
    intro x12 x13 τ14 g
    rw [F_X6_tourOf_59]
    refine zRy_let (fun v15 _ => ?_)
    refine zRy_if (fun _ => ?_) (fun _ => ?_)
    · skip
      refine zRy_let (fun v20 _ => ?_)
      refine zRy_if (fun _ => ?_) (fun _ => ?_)
      · skip
        refine zRy_let (fun v22 _ => ?_)
        exact ih _ _ _ g
      · skip
        refine zRy_let (fun v23 _ => ?_)
        refine zRy_let (fun v24 _ => ?_)
        refine zRy_let (fun v25 _ => ?_)
        refine zRy_let (fun v26 _ => ?_)
        exact ih _ _ _ g
    · skip
      refine zRy_let (fun v17 _ => ?_)
      refine zRy_let (fun v18 _ => ?_)
      refine zRy_let (fun v19 _ => ?_)
      exact g
set_option maxRecDepth 100000 in
theorem rz_X6_tourOf_7 {R : Nat → Nat → Option Nat} {a0 : Nat} {p1 : Int32}  : ∀ (n : Nat) (x4 : Int32) (x5 : Int32) (x6 : Int32) (τ7 : zS), zRz R τ7 → zRy R (F_X6_tourOf_7 a0 p1 n x4 x5 x6 τ7) := by
  intro n
  induction n with
  | zero => intro x4 x5 x6 τ7 g; exact g
  | succ n ih =>
    intro x4 x5 x6 τ7 g
    rw [F_X6_tourOf_7]
    refine zRy_let (fun v8 _ => ?_)
    refine zRy_if (fun _ => ?_) (fun _ => ?_)
    · skip
      refine zRy_let (fun v27 _ => ?_)
      refine zRy_if (fun _ => ?_) (fun _ => ?_)
      · skip
        refine zRy_let (fun v29 _ => ?_)
        exact ih _ _ _ _ g
      · skip
        refine zRy_let (fun v30 _ => ?_)
        refine zRy_let (fun v31 _ => ?_)
        refine zRy_let (fun v32 _ => ?_)
        refine zRy_let (fun v33 _ => ?_)
        refine zRy_let (fun v34 _ => ?_)
        refine zRy_let (fun v35 _ => ?_)
        refine zRy_let (fun v36 _ => ?_)
        exact ih _ _ _ _ g
    · skip
      refine zRy_let (fun v10 _ => ?_)
      refine zRy_let (fun v11 _ => ?_)
      exact rz_X6_tourOf_59 ih _ _ _ _ g
set_option maxRecDepth 100000 in
theorem rz_X6_tourOf {R : Nat → Nat → Option Nat} {σ0 : zS} {a0 : Nat} {p1 : Int32}  (g : zRz R σ0) : zRy R (F_X6_tourOf a0 p1 σ0) := by
  unfold F_X6_tourOf
  refine zRy_let (fun v1 _ => ?_)
  refine zRy_let (fun v2 _ => ?_)
  refine zRy_let (fun v3 _ => ?_)
  exact rz_X6_tourOf_7  _ _ _ _ _ g
set_option maxRecDepth 100000 in
theorem rz_X10_tour {R : Nat → Nat → Option Nat} {σ0 : zS} {a0 : Nat}  (g : zRz R σ0) : zRy R (F_X10_tour a0 σ0) := by
  unfold F_X10_tour
  refine zRy_let (fun s1 es1 => ?_)
  have gs1 : zRz R s1 := by rw [es1]; exact rz_X10_look g
  refine zRy_let (fun v2 _ => ?_)
  refine zRy_let (fun v3 _ => ?_)
  refine zRy_let2 (fun v4 s5 es5 => ?_)
  have gs5 : zRz R s5 := zRy.of (rz_X6_sources gs1) es5
  refine zRy_let2 (fun v6 s7 es7 => ?_)
  have gs7 : zRz R s7 := zRy.of (rz_X6_tourOf gs5) es7
  exact gs7
set_option maxRecDepth 100000 in
theorem rz_X10_parted_23 {R : Nat → Nat → Option Nat} {v3 : Int32} {a0 : Nat}  : ∀ (n : Nat) (x9 : Int32) (x10 : Int32) (τ11 : zS), zRz R τ11 → zRy R (F_X10_parted_23 v3 a0 n x9 x10 τ11) := by
  intro n
  induction n with
  | zero => intro x9 x10 τ11 g; exact g
  | succ n ih =>
    intro x9 x10 τ11 g
    rw [F_X10_parted_23]
    refine zRy_if (fun _ => ?_) (fun _ => ?_)
    · skip
      refine zRy_let (fun v15 _ => ?_)
      refine zRy_if (fun _ => ?_) (fun _ => ?_)
      · skip
        refine zRy_let (fun v18 _ => ?_)
        refine zRy_let2 (fun v19 s20 es20 => ?_)
        have gs20 : zRz R s20 := zRy.of (rz_X6_tourOf g) es20
        refine zRy_let (fun v21 _ => ?_)
        refine zRy_let (fun v22 _ => ?_)
        refine zRy_let (fun v23 _ => ?_)
        refine zRy_let (fun v24 _ => ?_)
        refine zRy_let2 (fun v25 s26 es26 => ?_)
        have gs26 : zRz R s26 := zRy.of (rz_X6_tourOf gs20) es26
        refine zRy_let (fun v27 _ => ?_)
        refine zRy_let (fun v28 _ => ?_)
        refine zRy_let (fun v29 _ => ?_)
        exact ih _ _ _ gs26
      · skip
        refine zRy_let (fun v17 _ => ?_)
        exact ih _ _ _ g
    · skip
      exact g
set_option maxRecDepth 100000 in
theorem rz_X10_parted {R : Nat → Nat → Option Nat} {σ0 : zS} {a0 : Nat}  (g : zRz R σ0) : zRy R (F_X10_parted a0 σ0) := by
  unfold F_X10_parted
  refine zRy_let (fun s1 es1 => ?_)
  have gs1 : zRz R s1 := by rw [es1]; exact rz_X10_look g
  refine zRy_let (fun v2 _ => ?_)
  refine zRy_let2 (fun v3 s4 es4 => ?_)
  have gs4 : zRz R s4 := zRy.of (rz_X6_sources gs1) es4
  refine zRy_let (fun v5 _ => ?_)
  refine zRy_let2 (fun v6 s7 es7 => ?_)
  have gs7 : zRz R s7 := zRy.of (rz_X6_tourOf gs4) es7
  refine zRy_let (fun v8 _ => ?_)
  exact rz_X10_parted_23  _ _ _ _ gs7
set_option maxRecDepth 100000 in
theorem rz_X6_meeting_20 {R : Nat → Nat → Option Nat} {v5 : Int32} {a0 : Nat} {p1 : Int32} {p2 : Int32}  : ∀ (n : Nat) (x8 : Int32) (x9 : Int32) (τ10 : zS), zRz R τ10 → zRy R (F_X6_meeting_20 v5 a0 p1 p2 n x8 x9 τ10) := by
  intro n
  induction n with
  | zero => intro x8 x9 τ10 g; exact g
  | succ n ih =>
    intro x8 x9 τ10 g
    rw [F_X6_meeting_20]
    refine zRy_let (fun v11 _ => ?_)
    refine zRy_if (fun _ => ?_) (fun _ => ?_)
    · skip
      refine zRy_let (fun v13 _ => ?_)
      refine zRy_if (fun _ => ?_) (fun _ => ?_)
      · skip
        refine zRy_let (fun v15 _ => ?_)
        exact ih _ _ _ g
      · skip
        refine zRy_let (fun v16 _ => ?_)
        refine zRy_let (fun v17 _ => ?_)
        refine zRy_let (fun v18 _ => ?_)
        refine zRy_let (fun v19 _ => ?_)
        refine zRy_if (fun _ => ?_) (fun _ => ?_)
        · skip
          refine zRy_let (fun v24 _ => ?_)
          exact ih _ _ _ g
        · skip
          refine zRy_let (fun v23 _ => ?_)
          exact ih _ _ _ g
    · skip
      exact g
set_option maxRecDepth 100000 in
theorem rz_X6_meeting {R : Nat → Nat → Option Nat} {σ0 : zS} {a0 : Nat} {p1 : Int32} {p2 : Int32}  (g : zRz R σ0) : zRy R (F_X6_meeting a0 p1 p2 σ0) := by
  unfold F_X6_meeting
  refine zRy_let (fun v1 _ => ?_)
  refine zRy_let (fun v2 _ => ?_)
  refine zRy_let (fun v3 _ => ?_)
  refine zRy_let (fun v4 _ => ?_)
  refine zRy_let (fun v5 _ => ?_)
  refine zRy_let (fun v6 _ => ?_)
  refine zRy_let (fun v7 _ => ?_)
  exact rz_X6_meeting_20  _ _ _ _ g
set_option maxRecDepth 100000 in
theorem rz_X10_meet {R : Nat → Nat → Option Nat} {σ0 : zS} {a0 : Nat} {p1 : Int32} {p2 : Int32} {p3 : Int32}  (g : zRz R σ0) : zRy R (F_X10_meet a0 p1 p2 p3 σ0) := by
  unfold F_X10_meet
  refine zRy_let2 (fun v1 s2 es2 => ?_)
  have gs2 : zRz R s2 := zRy.of (rz_X10_isPlace g) es2
  refine zRy_if (fun _ => ?_) (fun _ => ?_)
  · skip
    refine zRy_let (fun v4 _ => ?_)
    exact gs2
  · skip
    refine zRy_let2 (fun v5 s6 es6 => ?_)
    have gs6 : zRz R s6 := zRy.of (rz_X10_isPlace gs2) es6
    refine zRy_if (fun _ => ?_) (fun _ => ?_)
    · skip
      refine zRy_let (fun v8 _ => ?_)
      exact gs6
    · skip
      refine zRy_let (fun v9 _ => ?_)
      refine zRy_let (fun v10 _ => ?_)
      refine zRy_let (fun v11 _ => ?_)
      refine zRy_if (fun _ => ?_) (fun _ => ?_)
      · skip
        refine zRy_let (fun v31 _ => ?_)
        exact gs6
      · skip
        refine zRy_let (fun s13 es13 => ?_)
        have gs13 : zRz R s13 := by rw [es13]; exact rz_X10_look gs6
        refine zRy_let (fun v14 _ => ?_)
        refine zRy_let2 (fun v15 s16 es16 => ?_)
        have gs16 : zRz R s16 := zRy.of (rz_X6_meeting gs13) es16
        refine zRy_if (fun _ => ?_) (fun _ => ?_)
        · skip
          exact gs16
        · skip
          refine zRy_let (fun v18 _ => ?_)
          refine zRy_let (fun v19 _ => ?_)
          refine zRy_let (fun v20 _ => ?_)
          refine zRy_let (fun v21 _ => ?_)
          refine zRy_let (fun v22 _ => ?_)
          refine zRy_let (fun v23 _ => ?_)
          refine zRy_let (fun v24 _ => ?_)
          refine zRy_let (fun v25 _ => ?_)
          refine zRy_let (fun v26 _ => ?_)
          refine zRy_let (fun v27 _ => ?_)
          refine zRy_let (fun v28 _ => ?_)
          refine zRy_let (fun v29 _ => ?_)
          refine zRy_let (fun v30 _ => ?_)
          exact gs16
set_option maxRecDepth 100000 in
theorem rz_X2_isSo_6 {R : Nat → Nat → Option Nat} {a0 : Nat} {p1 : Nat} {p2 : Int32} {p3 : Int32}  : ∀ (n : Nat) (x3 : Int32) (x4 : Int32) (τ5 : zS), zRz R τ5 → zRy R (F_X2_isSo_6 a0 p1 p2 p3 n x3 x4 τ5) := by
  intro n
  induction n with
  | zero => intro x3 x4 τ5 g; exact g
  | succ n ih =>
    intro x3 x4 τ5 g
    rw [F_X2_isSo_6]
    refine zRy_if (fun _ => ?_) (fun _ => ?_)
    · skip
      refine zRy_let (fun v8 _ => ?_)
      refine zRy_if (fun _ => ?_) (fun _ => ?_)
      · skip
        refine zRy_let (fun v10 _ => ?_)
        refine zRy_let (fun v11 _ => ?_)
        refine zRy_let (fun v12 _ => ?_)
        refine zRy_let (fun v13 _ => ?_)
        refine zRy_let (fun v14 _ => ?_)
        refine zRy_let (fun v15 _ => ?_)
        refine zRy_let (fun v16 _ => ?_)
        refine zRy_let (fun v17 _ => ?_)
        refine zRy_let (fun v18 _ => ?_)
        refine zRy_let (fun v19 _ => ?_)
        refine zRy_let (fun v20 _ => ?_)
        refine zRy_let (fun v21 _ => ?_)
        refine zRy_if (fun _ => ?_) (fun _ => ?_)
        · skip
          refine zRy_let (fun v23 _ => ?_)
          refine zRy_if (fun _ => ?_) (fun _ => ?_)
          · skip
            refine zRy_let (fun v25 _ => ?_)
            refine zRy_let (fun v26 _ => ?_)
            exact ih _ _ _ g
          · skip
            refine zRy_let (fun v27 _ => ?_)
            refine zRy_let (fun v28 _ => ?_)
            refine zRy_if (fun _ => ?_) (fun _ => ?_)
            · skip
              refine zRy_let (fun v32 _ => ?_)
              refine zRy_let (fun v33 _ => ?_)
              exact ih _ _ _ g
            · skip
              refine zRy_let (fun v30 _ => ?_)
              refine zRy_let (fun v31 _ => ?_)
              exact ih _ _ _ g
        · skip
          refine zRy_let (fun v34 _ => ?_)
          refine zRy_let (fun v35 _ => ?_)
          refine zRy_let (fun v36 _ => ?_)
          refine zRy_let (fun v37 _ => ?_)
          refine zRy_let (fun v38 _ => ?_)
          refine zRy_if (fun _ => ?_) (fun _ => ?_)
          · skip
            refine zRy_let (fun v40 _ => ?_)
            refine zRy_if (fun _ => ?_) (fun _ => ?_)
            · skip
              refine zRy_let (fun v42 _ => ?_)
              refine zRy_let (fun v43 _ => ?_)
              exact ih _ _ _ g
            · skip
              refine zRy_let (fun v44 _ => ?_)
              refine zRy_let (fun v45 _ => ?_)
              refine zRy_if (fun _ => ?_) (fun _ => ?_)
              · skip
                refine zRy_let (fun v49 _ => ?_)
                refine zRy_let (fun v50 _ => ?_)
                exact ih _ _ _ g
              · skip
                refine zRy_let (fun v47 _ => ?_)
                refine zRy_let (fun v48 _ => ?_)
                exact ih _ _ _ g
          · skip
            refine zRy_let (fun v51 _ => ?_)
            refine zRy_if (fun _ => ?_) (fun _ => ?_)
            · skip
              refine zRy_let (fun v53 _ => ?_)
              refine zRy_let (fun v54 _ => ?_)
              exact ih _ _ _ g
            · skip
              refine zRy_let (fun v55 _ => ?_)
              refine zRy_let (fun v56 _ => ?_)
              refine zRy_if (fun _ => ?_) (fun _ => ?_)
              · skip
                refine zRy_let (fun v60 _ => ?_)
                refine zRy_let (fun v61 _ => ?_)
                exact ih _ _ _ g
              · skip
                refine zRy_let (fun v58 _ => ?_)
                refine zRy_let (fun v59 _ => ?_)
                exact ih _ _ _ g
      · skip
        exact g
    · skip
      exact g
set_option maxRecDepth 100000 in
theorem rz_X2_isSo {R : Nat → Nat → Option Nat} {σ0 : zS} {a0 : Nat} {p1 : Nat} {p2 : Int32} {p3 : Int32}  (g : zRz R σ0) : zRy R (F_X2_isSo a0 p1 p2 p3 σ0) := by
  unfold F_X2_isSo
  refine zRy_let (fun v1 _ => ?_)
  refine zRy_let (fun v2 _ => ?_)
  exact rz_X2_isSo_6  _ _ _ _ g
set_option maxRecDepth 100000 in
theorem rz_X2_left_5 {R : Nat → Nat → Option Nat} {a0 : Nat} {p1 : Nat} {p2 : Int32}  : ∀ (n : Nat) (x3 : Int32) (x4 : Int32) (τ5 : zS), zRz R τ5 → zRy R (F_X2_left_5 a0 p1 p2 n x3 x4 τ5) := by
  intro n
  induction n with
  | zero => intro x3 x4 τ5 g; exact g
  | succ n ih =>
    intro x3 x4 τ5 g
    rw [F_X2_left_5]
    refine zRy_let (fun v6 _ => ?_)
    refine zRy_if (fun _ => ?_) (fun _ => ?_)
    · skip
      refine zRy_let2 (fun v8 s9 es9 => ?_)
      have gs9 : zRz R s9 := zRy.of (rz_X6_isSource g) es9
      refine zRy_if (fun _ => ?_) (fun _ => ?_)
      · skip
        refine zRy_let (fun v11 _ => ?_)
        exact ih _ _ _ gs9
      · skip
        refine zRy_let2 (fun v12 s13 es13 => ?_)
        have gs13 : zRz R s13 := zRy.of (rz_X2_isSo gs9) es13
        refine zRy_if (fun _ => ?_) (fun _ => ?_)
        · skip
          refine zRy_let (fun v15 _ => ?_)
          exact ih _ _ _ gs13
        · skip
          refine zRy_let (fun v16 _ => ?_)
          refine zRy_let (fun v17 _ => ?_)
          refine zRy_let (fun v18 _ => ?_)
          exact ih _ _ _ gs13
    · skip
      exact g
set_option maxRecDepth 100000 in
theorem rz_X2_left {R : Nat → Nat → Option Nat} {σ0 : zS} {a0 : Nat} {p1 : Nat} {p2 : Int32}  (g : zRz R σ0) : zRy R (F_X2_left a0 p1 p2 σ0) := by
  unfold F_X2_left
  refine zRy_let (fun v1 _ => ?_)
  refine zRy_let (fun v2 _ => ?_)
  exact rz_X2_left_5  _ _ _ _ g
set_option maxRecDepth 100000 in
theorem rz_X10_dyed {R : Nat → Nat → Option Nat} {σ0 : zS} {a0 : Nat} {p1 : Int32} {p2 : Int32}  (g : zRz R σ0) : zRy R (F_X10_dyed a0 p1 p2 σ0) := by
  unfold F_X10_dyed
  refine zRy_let (fun v1 _ => ?_)
  refine zRy_let (fun v2 _ => ?_)
  refine zRy_let (fun v3 _ => ?_)
  refine zRy_let (fun v4 _ => ?_)
  refine zRy_if (fun _ => ?_) (fun _ => ?_)
  · skip
    refine zRy_let (fun v6 _ => ?_)
    exact g
  · skip
    refine zRy_let (fun v7 _ => ?_)
    refine zRy_let (fun v8 _ => ?_)
    refine zRy_let (fun v9 _ => ?_)
    refine zRy_if (fun _ => ?_) (fun _ => ?_)
    · skip
      refine zRy_let (fun v18 _ => ?_)
      exact g
    · skip
      refine zRy_let (fun s11 es11 => ?_)
      have gs11 : zRz R s11 := by rw [es11]; exact rz_X10_look g
      refine zRy_let (fun v12 _ => ?_)
      refine zRy_let (fun v13 _ => ?_)
      refine zRy_let2 (fun v14 s15 es15 => ?_)
      have gs15 : zRz R s15 := zRy.of (rz_X2_left gs11) es15
      refine zRy_if (fun _ => ?_) (fun _ => ?_)
      · skip
        refine zRy_let (fun v17 _ => ?_)
        exact gs15
      · skip
        exact gs15
set_option maxRecDepth 100000 in
theorem rz_X10_leftAtWorst {R : Nat → Nat → Option Nat} {σ0 : zS} {a0 : Nat} {p1 : Int32} {p2 : Int32}  (g : zRz R σ0) : zRy R (F_X10_leftAtWorst a0 p1 p2 σ0) := by
  unfold F_X10_leftAtWorst
  refine zRy_let (fun v1 _ => ?_)
  refine zRy_let2 (fun v2 s3 es3 => ?_)
  have gs3 : zRz R s3 := zRy.of (rz_X6_comingBy g) es3
  refine zRy_let (fun v4 _ => ?_)
  refine zRy_let (fun v5 _ => ?_)
  refine zRy_let (fun v6 _ => ?_)
  refine zRy_let (fun v7 _ => ?_)
  refine zRy_let (fun v8 _ => ?_)
  refine zRy_let (fun v9 _ => ?_)
  refine zRy_let (fun v10 _ => ?_)
  exact gs3
set_option maxRecDepth 100000 in
theorem rz_X10_watch_46 {R : Nat → Nat → Option Nat} {v9 : Int32} {a0 : Nat} {p1 : Int32}  : ∀ (n : Nat) (x14 : Int32) (x15 : Int32) (τ16 : zS), zRz R τ16 → zRy R (F_X10_watch_46 v9 a0 p1 n x14 x15 τ16) := by
  intro n
  induction n with
  | zero => intro x14 x15 τ16 g; exact g
  | succ n ih =>
    intro x14 x15 τ16 g
    rw [F_X10_watch_46]
    refine zRy_let (fun v17 _ => ?_)
    refine zRy_let (fun v18 _ => ?_)
    refine zRy_if (fun _ => ?_) (fun _ => ?_)
    · skip
      refine zRy_let2 (fun v20 s21 es21 => ?_)
      have gs21 : zRz R s21 := zRy.of (rz_X10_leftAtWorst g) es21
      refine zRy_let2 (fun v22 s23 es23 => ?_)
      have gs23 : zRz R s23 := zRy.of (rz_X10_leftAtWorst gs21) es23
      refine zRy_if (fun _ => ?_) (fun _ => ?_)
      · skip
        refine zRy_let (fun v28 _ => ?_)
        exact ih _ _ _ gs23
      · skip
        refine zRy_let (fun v27 _ => ?_)
        exact ih _ _ _ gs23
    · skip
      exact g
set_option maxRecDepth 100000 in
theorem rz_X10_watch {R : Nat → Nat → Option Nat} {σ0 : zS} {a0 : Nat} {p1 : Int32}  (g : zRz R σ0) : zRy R (F_X10_watch a0 p1 σ0) := by
  unfold F_X10_watch
  refine zRy_let (fun v1 _ => ?_)
  refine zRy_let (fun v2 _ => ?_)
  refine zRy_let (fun v3 _ => ?_)
  refine zRy_let (fun v4 _ => ?_)
  refine zRy_if (fun _ => ?_) (fun _ => ?_)
  · skip
    refine zRy_let (fun v30 _ => ?_)
    exact g
  · skip
    refine zRy_let (fun s6 es6 => ?_)
    have gs6 : zRz R s6 := by rw [es6]; exact rz_X10_look g
    refine zRy_let (fun v7 _ => ?_)
    refine zRy_let (fun v8 _ => ?_)
    refine zRy_let2 (fun v9 s10 es10 => ?_)
    have gs10 : zRz R s10 := zRy.of (rz_X2_left gs6) es10
    refine zRy_if (fun _ => ?_) (fun _ => ?_)
    · skip
      refine zRy_let (fun v29 _ => ?_)
      exact gs10
    · skip
      refine zRy_let (fun v12 _ => ?_)
      refine zRy_let (fun v13 _ => ?_)
      exact rz_X10_watch_46  _ _ _ _ gs10
set_option maxRecDepth 100000 in
theorem rz_X10_sumOf_4 {R : Nat → Nat → Option Nat} {a0 : Nat} {p1 : Nat}  : ∀ (n : Nat) (x3 : Int32) (x4 : Int32) (τ5 : zS), zRz R τ5 → zRy R (F_X10_sumOf_4 a0 p1 n x3 x4 τ5) := by
  intro n
  induction n with
  | zero => intro x3 x4 τ5 g; exact g
  | succ n ih =>
    intro x3 x4 τ5 g
    rw [F_X10_sumOf_4]
    refine zRy_let (fun v6 _ => ?_)
    refine zRy_let (fun v7 _ => ?_)
    refine zRy_if (fun _ => ?_) (fun _ => ?_)
    · skip
      refine zRy_let (fun v9 _ => ?_)
      refine zRy_let (fun v10 _ => ?_)
      refine zRy_let (fun v11 _ => ?_)
      exact ih _ _ _ g
    · skip
      exact g
set_option maxRecDepth 100000 in
theorem rz_X10_sumOf {R : Nat → Nat → Option Nat} {σ0 : zS} {a0 : Nat} {p1 : Nat}  (g : zRz R σ0) : zRy R (F_X10_sumOf a0 p1 σ0) := by
  unfold F_X10_sumOf
  refine zRy_let (fun v1 _ => ?_)
  refine zRy_let (fun v2 _ => ?_)
  exact rz_X10_sumOf_4  _ _ _ _ g
set_option maxRecDepth 100000 in
theorem rz_X9_isStorm {R : Nat → Nat → Option Nat} {σ0 : zS} {a0 : Nat} {p1 : Int32} {p2 : Int32}  (g : zRz R σ0) : zRy R (F_X9_isStorm a0 p1 p2 σ0) := by
  unfold F_X9_isStorm
  refine zRy_let (fun v1 _ => ?_)
  refine zRy_let (fun v2 _ => ?_)
  refine zRy_let (fun v3 _ => ?_)
  refine zRy_let (fun v4 _ => ?_)
  refine zRy_let (fun v5 _ => ?_)
  refine zRy_if (fun _ => ?_) (fun _ => ?_)
  · skip
    refine zRy_let (fun v10 _ => ?_)
    exact g
  · skip
    refine zRy_let (fun v9 _ => ?_)
    exact g
set_option maxRecDepth 100000 in
theorem rz_X10_turnedPlaces_4 {R : Nat → Nat → Option Nat} {a0 : Nat}  : ∀ (n : Nat) (x3 : Int32) (x4 : Int32) (τ5 : zS), zRz R τ5 → zRy R (F_X10_turnedPlaces_4 a0 n x3 x4 τ5) := by
  intro n
  induction n with
  | zero => intro x3 x4 τ5 g; exact g
  | succ n ih =>
    intro x3 x4 τ5 g
    rw [F_X10_turnedPlaces_4]
    refine zRy_let (fun v6 _ => ?_)
    refine zRy_let (fun v7 _ => ?_)
    refine zRy_if (fun _ => ?_) (fun _ => ?_)
    · skip
      refine zRy_let (fun v9 _ => ?_)
      refine zRy_let (fun v10 _ => ?_)
      refine zRy_let (fun v11 _ => ?_)
      refine zRy_let (fun v12 _ => ?_)
      refine zRy_let (fun v13 _ => ?_)
      refine zRy_let (fun v14 _ => ?_)
      refine zRy_if (fun _ => ?_) (fun _ => ?_)
      · skip
        refine zRy_let (fun v16 _ => ?_)
        exact ih _ _ _ g
      · skip
        refine zRy_let (fun v17 _ => ?_)
        refine zRy_let (fun v18 _ => ?_)
        refine zRy_let (fun v19 _ => ?_)
        exact ih _ _ _ g
    · skip
      exact g
set_option maxRecDepth 100000 in
theorem rz_X10_turnedPlaces {R : Nat → Nat → Option Nat} {σ0 : zS} {a0 : Nat}  (g : zRz R σ0) : zRy R (F_X10_turnedPlaces a0 σ0) := by
  unfold F_X10_turnedPlaces
  refine zRy_let (fun v1 _ => ?_)
  refine zRy_let (fun v2 _ => ?_)
  exact rz_X10_turnedPlaces_4  _ _ _ _ g
set_option maxRecDepth 100000 in
theorem rz_X6_greatestFar_4 {R : Nat → Nat → Option Nat} {a0 : Nat}  : ∀ (n : Nat) (x3 : Int32) (x4 : Int32) (τ5 : zS), zRz R τ5 → zRy R (F_X6_greatestFar_4 a0 n x3 x4 τ5) := by
  intro n
  induction n with
  | zero => intro x3 x4 τ5 g; exact g
  | succ n ih =>
    intro x3 x4 τ5 g
    rw [F_X6_greatestFar_4]
    refine zRy_let (fun v6 _ => ?_)
    refine zRy_if (fun _ => ?_) (fun _ => ?_)
    · skip
      refine zRy_let (fun v8 _ => ?_)
      refine zRy_let (fun v9 _ => ?_)
      refine zRy_let (fun v10 _ => ?_)
      refine zRy_let (fun v11 _ => ?_)
      exact ih _ _ _ g
    · skip
      exact g
set_option maxRecDepth 100000 in
theorem rz_X6_greatestFar {R : Nat → Nat → Option Nat} {σ0 : zS} {a0 : Nat}  (g : zRz R σ0) : zRy R (F_X6_greatestFar a0 σ0) := by
  unfold F_X6_greatestFar
  refine zRy_let (fun v1 _ => ?_)
  refine zRy_let (fun v2 _ => ?_)
  exact rz_X6_greatestFar_4  _ _ _ _ g
set_option maxRecDepth 100000 in
theorem rz_X10_count {R : Nat → Nat → Option Nat} {σ0 : zS} {a0 : Nat} {p1 : Int32}  (g : zRz R σ0) : zRy R (F_X10_count a0 p1 σ0) := by
  unfold F_X10_count
  refine zRy_let (fun s1 es1 => ?_)
  have gs1 : zRz R s1 := by rw [es1]; exact rz_X10_look g
  refine zRy_if (fun _ => ?_) (fun _ => ?_)
  · skip
    refine zRy_let (fun v3 _ => ?_)
    refine zRy_let (fun v4 _ => ?_)
    exact gs1
  · skip
    refine zRy_if (fun _ => ?_) (fun _ => ?_)
    · skip
      refine zRy_let (fun v6 _ => ?_)
      refine zRy_let (fun v7 _ => ?_)
      exact gs1
    · skip
      refine zRy_if (fun _ => ?_) (fun _ => ?_)
      · skip
        refine zRy_let (fun v9 _ => ?_)
        refine zRy_let2 (fun v10 s11 es11 => ?_)
        have gs11 : zRz R s11 := zRy.of (rz_X1_moon gs1) es11
        exact gs11
      · skip
        refine zRy_if (fun _ => ?_) (fun _ => ?_)
        · skip
          refine zRy_let (fun v13 _ => ?_)
          refine zRy_let (fun v14 _ => ?_)
          exact gs1
        · skip
          refine zRy_if (fun _ => ?_) (fun _ => ?_)
          · skip
            refine zRy_let (fun v16 _ => ?_)
            refine zRy_let2 (fun v17 s18 es18 => ?_)
            have gs18 : zRz R s18 := zRy.of (rz_X6_sources gs1) es18
            exact gs18
          · skip
            refine zRy_if (fun _ => ?_) (fun _ => ?_)
            · skip
              refine zRy_let (fun v20 _ => ?_)
              refine zRy_let (fun v21 _ => ?_)
              exact gs1
            · skip
              refine zRy_if (fun _ => ?_) (fun _ => ?_)
              · skip
                refine zRy_let2 (fun v23 s24 es24 => ?_)
                have gs24 : zRz R s24 := zRy.of (rz_X10_mouthFlow gs1) es24
                exact gs24
              · skip
                refine zRy_if (fun _ => ?_) (fun _ => ?_)
                · skip
                  refine zRy_let (fun v26 _ => ?_)
                  refine zRy_let (fun v27 _ => ?_)
                  refine zRy_let2 (fun v28 s29 es29 => ?_)
                  have gs29 : zRz R s29 := zRy.of (rz_X10_sumOf gs1) es29
                  exact gs29
                · skip
                  refine zRy_if (fun _ => ?_) (fun _ => ?_)
                  · skip
                    refine zRy_let (fun v31 _ => ?_)
                    refine zRy_let (fun v32 _ => ?_)
                    exact gs1
                  · skip
                    refine zRy_if (fun _ => ?_) (fun _ => ?_)
                    · skip
                      refine zRy_let (fun v34 _ => ?_)
                      refine zRy_let (fun v35 _ => ?_)
                      exact gs1
                    · skip
                      refine zRy_if (fun _ => ?_) (fun _ => ?_)
                      · skip
                        refine zRy_let (fun v37 _ => ?_)
                        refine zRy_let (fun v38 _ => ?_)
                        exact gs1
                      · skip
                        refine zRy_if (fun _ => ?_) (fun _ => ?_)
                        · skip
                          refine zRy_let (fun v40 _ => ?_)
                          refine zRy_let (fun v41 _ => ?_)
                          exact gs1
                        · skip
                          refine zRy_if (fun _ => ?_) (fun _ => ?_)
                          · skip
                            refine zRy_let (fun v43 _ => ?_)
                            refine zRy_let (fun v44 _ => ?_)
                            refine zRy_let (fun v45 _ => ?_)
                            refine zRy_let (fun v46 _ => ?_)
                            refine zRy_let (fun v47 _ => ?_)
                            refine zRy_let2 (fun v48 s49 es49 => ?_)
                            have gs49 : zRz R s49 := zRy.of (rz_X9_isStorm gs1) es49
                            refine zRy_if (fun _ => ?_) (fun _ => ?_)
                            · skip
                              refine zRy_let (fun v51 _ => ?_)
                              exact gs49
                            · skip
                              refine zRy_let (fun v52 _ => ?_)
                              exact gs49
                          · skip
                            refine zRy_if (fun _ => ?_) (fun _ => ?_)
                            · skip
                              refine zRy_let (fun v54 _ => ?_)
                              refine zRy_let (fun v55 _ => ?_)
                              refine zRy_let2 (fun v56 s57 es57 => ?_)
                              have gs57 : zRz R s57 := zRy.of (rz_X10_sumOf gs1) es57
                              exact gs57
                            · skip
                              refine zRy_if (fun _ => ?_) (fun _ => ?_)
                              · skip
                                refine zRy_let2 (fun v59 s60 es60 => ?_)
                                have gs60 : zRz R s60 := zRy.of (rz_X10_turnedPlaces gs1) es60
                                exact gs60
                              · skip
                                refine zRy_if (fun _ => ?_) (fun _ => ?_)
                                · skip
                                  refine zRy_let (fun v62 _ => ?_)
                                  refine zRy_let (fun v63 _ => ?_)
                                  refine zRy_let2 (fun v64 s65 es65 => ?_)
                                  have gs65 : zRz R s65 := zRy.of (rz_X10_sumOf gs1) es65
                                  exact gs65
                                · skip
                                  refine zRy_if (fun _ => ?_) (fun _ => ?_)
                                  · skip
                                    refine zRy_let (fun v67 _ => ?_)
                                    refine zRy_let2 (fun v68 s69 es69 => ?_)
                                    have gs69 : zRz R s69 := zRy.of (rz_X6_greatestFar gs1) es69
                                    exact gs69
                                  · skip
                                    refine zRy_let (fun v70 _ => ?_)
                                    exact gs1
set_option maxRecDepth 100000 in
theorem rz_X1_copy {R : Nat → Nat → Option Nat} {σ0 : zS} {a0 : Nat} {p1 : Nat}  (g : zRz R σ0) : zRz R (F_X1_copy a0 p1 σ0) := by
  unfold F_X1_copy
  refine zRz_let (fun v1 _ => ?_)
  refine zRz_let (fun v2 _ => ?_)
  refine zRz_let (fun v3 _ => ?_)
  refine zRz_let (fun v4 _ => ?_)
  refine zRz_let (fun v5 _ => ?_)
  refine zRz_let (fun s6 es6 => ?_)
  have gs6 : zRz R s6 := by rw [es6]; exact g
  refine zRz_let (fun v7 _ => ?_)
  refine zRz_let (fun v8 _ => ?_)
  refine zRz_let (fun v9 _ => ?_)
  refine zRz_let (fun v10 _ => ?_)
  refine zRz_let (fun v11 _ => ?_)
  refine zRz_let (fun s12 es12 => ?_)
  have gs12 : zRz R s12 := by rw [es12]; exact gs6
  refine zRz_let (fun v13 _ => ?_)
  refine zRz_let (fun v14 _ => ?_)
  refine zRz_let (fun v15 _ => ?_)
  refine zRz_let (fun v16 _ => ?_)
  refine zRz_let (fun v17 _ => ?_)
  refine zRz_let (fun s18 es18 => ?_)
  have gs18 : zRz R s18 := by rw [es18]; exact gs12
  refine zRz_let (fun v19 _ => ?_)
  refine zRz_let (fun s20 es20 => ?_)
  have gs20 : zRz R s20 := by rw [es20]; exact gs18
  refine zRz_let (fun v21 _ => ?_)
  refine zRz_let (fun s22 es22 => ?_)
  have gs22 : zRz R s22 := by rw [es22]; exact gs20
  refine zRz_let (fun v23 _ => ?_)
  refine zRz_let (fun s24 es24 => ?_)
  have gs24 : zRz R s24 := by rw [es24]; exact gs22
  exact gs24
set_option maxRecDepth 100000 in
theorem rz_X4_push {R : Nat → Nat → Option Nat} {σ0 : zS} {a0 : Nat} {p1 : Nat}  (g : zRz R σ0) : zRz R (F_X4_push a0 p1 σ0) := by
  unfold F_X4_push
  refine zRz_let (fun v1 _ => ?_)
  refine zRz_let (fun v2 _ => ?_)
  refine zRz_let (fun v3 _ => ?_)
  refine zRz_let (fun s4 es4 => ?_)
  have gs4 : zRz R s4 := by rw [es4]; exact rz_X1_copy g
  refine zRz_let (fun v5 _ => ?_)
  refine zRz_let (fun v6 _ => ?_)
  refine zRz_let (fun v7 _ => ?_)
  refine zRz_let (fun v8 _ => ?_)
  refine zRz_let (fun v9 _ => ?_)
  refine zRz_let (fun s10 es10 => ?_)
  have gs10 : zRz R s10 := by rw [es10]; exact gs4
  refine zRz_let (fun v13 _ => ?_)
  refine zRz_let (fun v14 _ => ?_)
  refine zRz_let (fun v15 _ => ?_)
  refine zRz_let (fun v16 _ => ?_)
  refine zRz_let (fun v17 _ => ?_)
  refine zRz_let (fun s18 es18 => ?_)
  have gs18 : zRz R s18 := by rw [es18]; exact gs10
  exact gs18
set_option maxRecDepth 100000 in
theorem rz_X1_pay {R : Nat → Nat → Option Nat} {σ0 : zS} {a0 : Nat} {p1 : Int32} {p2 : Int32}  (g : zRz R σ0) : zRz R (F_X1_pay a0 p1 p2 σ0) := by
  unfold F_X1_pay
  refine zRz_let (fun v1 _ => ?_)
  refine zRz_let (fun v2 _ => ?_)
  refine zRz_let (fun v3 _ => ?_)
  refine zRz_let (fun s4 es4 => ?_)
  have gs4 : zRz R s4 := by rw [es4]; exact g
  refine zRz_let (fun v5 _ => ?_)
  refine zRz_let (fun v6 _ => ?_)
  refine zRz_let (fun v7 _ => ?_)
  refine zRz_let (fun v8 _ => ?_)
  refine zRz_let (fun v9 _ => ?_)
  refine zRz_let (fun v10 _ => ?_)
  refine zRz_let (fun v11 _ => ?_)
  refine zRz_let (fun s12 es12 => ?_)
  have gs12 : zRz R s12 := by rw [es12]; exact gs4
  exact gs12
set_option maxRecDepth 100000 in
theorem rz_X5_endMonth {R : Nat → Nat → Option Nat} {σ0 : zS} {a0 : Nat}  (g : zRz R σ0) : zRz R (F_X5_endMonth a0 σ0) := by
  unfold F_X5_endMonth
  refine zRz_let (fun v1 _ => ?_)
  refine zRz_let (fun v2 _ => ?_)
  refine zRz_let2 (fun v3 s4 es4 => ?_)
  have gs4 : zRz R s4 := zRy.of (rz_X5_winnerBy g) es4
  refine zRz_if (fun _ => ?_) (fun _ => ?_)
  · skip
    refine zRz_let (fun v11 _ => ?_)
    refine zRz_let (fun v12 _ => ?_)
    refine zRz_let (fun v13 _ => ?_)
    refine zRz_let (fun s14 es14 => ?_)
    have gs14 : zRz R s14 := by rw [es14]; exact rz_X1_pay gs4
    refine zRz_let (fun v15 _ => ?_)
    refine zRz_let (fun v16 _ => ?_)
    refine zRz_let (fun v17 _ => ?_)
    refine zRz_let (fun v18 _ => ?_)
    refine zRz_let (fun s19 es19 => ?_)
    have gs19 : zRz R s19 := by rw [es19]; exact gs14
    exact gs19
  · skip
    refine zRz_let (fun v6 _ => ?_)
    refine zRz_let (fun v7 _ => ?_)
    refine zRz_let (fun v8 _ => ?_)
    refine zRz_let (fun v9 _ => ?_)
    refine zRz_let (fun s10 es10 => ?_)
    have gs10 : zRz R s10 := by rw [es10]; exact gs4
    exact gs10
set_option maxRecDepth 100000 in
theorem rz_X5_goThrough_9 {R : Nat → Nat → Option Nat} {a0 : Nat} {p1 : Nat} {p2 : Nat} {p3 : Int32} {p4 : Int32}  : ∀ (n : Nat) (x3 : Int32) (τ4 : zS), zRz R τ4 → zRz R (F_X5_goThrough_9 a0 p1 p2 p3 p4 n x3 τ4) := by
  intro n
  induction n with
  | zero => intro x3 τ4 g; exact g
  | succ n ih =>
    intro x3 τ4 g
    rw [F_X5_goThrough_9]
    refine zRz_if (fun _ => ?_) (fun _ => ?_)
    · skip
      refine zRz_let (fun v7 _ => ?_)
      refine zRz_let2 (fun v8 s9 es9 => ?_)
      have gs9 : zRz R s9 := zRy.of (rz_X9_isStorm g) es9
      refine zRz_if (fun _ => ?_) (fun _ => ?_)
      · skip
        refine zRz_let (fun v11 _ => ?_)
        refine zRz_let (fun s12 es12 => ?_)
        have gs12 : zRz R s12 := by rw [es12]; exact rz_X5_fall gs9
        refine zRz_let (fun s13 es13 => ?_)
        have gs13 : zRz R s13 := by rw [es13]; exact rz_X5_endMonth gs12
        refine zRz_let (fun v14 _ => ?_)
        exact ih _ _ gs13
      · skip
        refine zRz_let (fun v15 _ => ?_)
        refine zRz_let (fun s16 es16 => ?_)
        have gs16 : zRz R s16 := by rw [es16]; exact rz_X5_fall gs9
        refine zRz_let (fun s17 es17 => ?_)
        have gs17 : zRz R s17 := by rw [es17]; exact rz_X5_endMonth gs16
        refine zRz_let (fun v18 _ => ?_)
        exact ih _ _ gs17
    · skip
      exact g
set_option maxRecDepth 100000 in
theorem rz_X5_goThrough {R : Nat → Nat → Option Nat} {σ0 : zS} {a0 : Nat} {p1 : Nat} {p2 : Nat} {p3 : Int32} {p4 : Int32}  (g : zRz R σ0) : zRz R (F_X5_goThrough a0 p1 p2 p3 p4 σ0) := by
  unfold F_X5_goThrough
  refine zRz_let (fun s1 es1 => ?_)
  have gs1 : zRz R s1 := by rw [es1]; exact rz_X5_form g
  refine zRz_let (fun v2 _ => ?_)
  exact rz_X5_goThrough_9  _ _ _ gs1
set_option maxRecDepth 100000 in
theorem rz_X10_months {R : Nat → Nat → Option Nat} {σ0 : zS} {a0 : Nat} {p1 : Int32}  (g : zRz R σ0) : zRy R (F_X10_months a0 p1 σ0) := by
  unfold F_X10_months
  refine zRy_let (fun v1 _ => ?_)
  refine zRy_let (fun v2 _ => ?_)
  refine zRy_let (fun v3 _ => ?_)
  refine zRy_if (fun _ => ?_) (fun _ => ?_)
  · skip
    refine zRy_let (fun v19 _ => ?_)
    exact g
  · skip
    refine zRy_if (fun _ => ?_) (fun _ => ?_)
    · skip
      refine zRy_let (fun v8 _ => ?_)
      refine zRy_let (fun v9 _ => ?_)
      refine zRy_let (fun s10 es10 => ?_)
      have gs10 : zRz R s10 := by rw [es10]; exact rz_X4_push g
      refine zRy_let (fun v11 _ => ?_)
      refine zRy_let (fun v12 _ => ?_)
      refine zRy_let (fun v13 _ => ?_)
      refine zRy_let (fun v14 _ => ?_)
      refine zRy_let (fun v15 _ => ?_)
      refine zRy_let (fun s16 es16 => ?_)
      have gs16 : zRz R s16 := by rw [es16]; exact rz_X5_goThrough gs10
      refine zRy_let (fun v17 _ => ?_)
      refine zRy_let (fun v18 _ => ?_)
      exact gs16
    · skip
      refine zRy_let (fun v6 _ => ?_)
      refine zRy_let (fun v7 _ => ?_)
      exact g
set_option maxRecDepth 100000 in
theorem rz_X10_tryFromNow {R : Nat → Nat → Option Nat} {σ0 : zS} {a0 : Nat}  (g : zRz R σ0) : zRz R (F_X10_tryFromNow a0 σ0) := by
  unfold F_X10_tryFromNow
  refine zRz_let (fun v1 _ => ?_)
  refine zRz_let (fun v2 _ => ?_)
  refine zRz_let (fun s3 es3 => ?_)
  have gs3 : zRz R s3 := by rw [es3]; exact rz_X1_copy g
  refine zRz_let (fun v4 _ => ?_)
  refine zRz_let (fun v5 _ => ?_)
  refine zRz_let (fun v6 _ => ?_)
  refine zRz_let (fun s7 es7 => ?_)
  have gs7 : zRz R s7 := by rw [es7]; exact rz_X5_look gs3
  exact gs7
set_option maxRecDepth 100000 in
theorem rz_X5_goOn {R : Nat → Nat → Option Nat} {σ0 : zS} {a0 : Nat}  (g : zRz R σ0) : zRz R (F_X5_goOn a0 σ0) := by
  unfold F_X5_goOn
  refine zRz_let (fun s1 es1 => ?_)
  have gs1 : zRz R s1 := by rw [es1]; exact rz_X5_endMonth g
  refine zRz_let (fun v2 _ => ?_)
  refine zRz_let (fun s3 es3 => ?_)
  have gs3 : zRz R s3 := by rw [es3]; exact rz_X5_fall gs1
  exact gs3
set_option maxRecDepth 100000 in
theorem rz_X10_agree_20 {R : Nat → Nat → Option Nat} {a0 : Nat} {p1 : Int32}  : ∀ (n : Nat) (x8 : Int32) (x9 : Int32) (τ10 : zS), zRz R τ10 → zRy R (F_X10_agree_20 a0 p1 n x8 x9 τ10) := by
  intro n
  induction n with
  | zero => intro x8 x9 τ10 g; exact g
  | succ n ih =>
    intro x8 x9 τ10 g
    rw [F_X10_agree_20]
    refine zRy_if (fun _ => ?_) (fun _ => ?_)
    · skip
      refine zRy_let (fun v14 _ => ?_)
      refine zRy_let (fun v15 _ => ?_)
      refine zRy_let2 (fun v16 s17 es17 => ?_)
      have gs17 : zRz R s17 := zRy.of (rz_X5_winnerBy g) es17
      refine zRy_if (fun _ => ?_) (fun _ => ?_)
      · skip
        refine zRy_let (fun v22 _ => ?_)
        refine zRy_let (fun v23 _ => ?_)
        refine zRy_let2 (fun v24 s25 es25 => ?_)
        have gs25 : zRz R s25 := zRy.of (rz_X5_winnerBy gs17) es25
        refine zRy_if (fun _ => ?_) (fun _ => ?_)
        · skip
          refine zRy_let (fun v30 _ => ?_)
          refine zRy_let (fun v31 _ => ?_)
          refine zRy_let2 (fun v32 s33 es33 => ?_)
          have gs33 : zRz R s33 := zRy.of (rz_X5_winnerBy gs25) es33
          refine zRy_if (fun _ => ?_) (fun _ => ?_)
          · skip
            refine zRy_let (fun v38 _ => ?_)
            refine zRy_let (fun v39 _ => ?_)
            refine zRy_let (fun s40 es40 => ?_)
            have gs40 : zRz R s40 := by rw [es40]; exact rz_X5_goOn gs33
            refine zRy_let (fun v41 _ => ?_)
            exact ih _ _ _ gs40
          · skip
            refine zRy_let (fun v35 _ => ?_)
            refine zRy_let (fun s36 es36 => ?_)
            have gs36 : zRz R s36 := by rw [es36]; exact rz_X5_goOn gs33
            refine zRy_let (fun v37 _ => ?_)
            exact ih _ _ _ gs36
        · skip
          refine zRy_let (fun v27 _ => ?_)
          refine zRy_let (fun s28 es28 => ?_)
          have gs28 : zRz R s28 := by rw [es28]; exact rz_X5_goOn gs25
          refine zRy_let (fun v29 _ => ?_)
          exact ih _ _ _ gs28
      · skip
        refine zRy_let (fun v19 _ => ?_)
        refine zRy_let (fun s20 es20 => ?_)
        have gs20 : zRz R s20 := by rw [es20]; exact rz_X5_goOn gs17
        refine zRy_let (fun v21 _ => ?_)
        exact ih _ _ _ gs20
    · skip
      exact g
set_option maxRecDepth 100000 in
theorem rz_X10_agree {R : Nat → Nat → Option Nat} {σ0 : zS} {a0 : Nat} {p1 : Int32}  (g : zRz R σ0) : zRy R (F_X10_agree a0 p1 σ0) := by
  unfold F_X10_agree
  refine zRy_let (fun v1 _ => ?_)
  refine zRy_let (fun v2 _ => ?_)
  refine zRy_let (fun v3 _ => ?_)
  refine zRy_if (fun _ => ?_) (fun _ => ?_)
  · skip
    refine zRy_let (fun v42 _ => ?_)
    exact g
  · skip
    refine zRy_let (fun v5 _ => ?_)
    refine zRy_let (fun s6 es6 => ?_)
    have gs6 : zRz R s6 := by rw [es6]; exact rz_X10_tryFromNow g
    refine zRy_let (fun v7 _ => ?_)
    exact rz_X10_agree_20  _ _ _ _ gs6
set_option maxRecDepth 100000 in
theorem rz_X10_driest_43 {R : Nat → Nat → Option Nat} {a0 : Nat} {p1 : Int32} {p2 : Int32}  : ∀ (n : Nat) (x19 : Int32) (x20 : Int32) (x21 : Int32) (τ22 : zS), zRz R τ22 → zRy R (F_X10_driest_43 a0 p1 p2 n x19 x20 x21 τ22) := by
  intro n
  induction n with
  | zero => intro x19 x20 x21 τ22 g; exact g
  | succ n ih =>
    intro x19 x20 x21 τ22 g
    rw [F_X10_driest_43]
    refine zRy_if (fun _ => ?_) (fun _ => ?_)
    · skip
      refine zRy_let (fun v27 _ => ?_)
      refine zRy_let (fun s28 es28 => ?_)
      have gs28 : zRz R s28 := by rw [es28]; exact rz_X5_goOn g
      refine zRy_let2 (fun v29 s30 es30 => ?_)
      have gs30 : zRz R s30 := zRy.of (rz_X10_mouthFlow gs28) es30
      refine zRy_if (fun _ => ?_) (fun _ => ?_)
      · skip
        refine zRy_let2 (fun v35 s36 es36 => ?_)
        have gs36 : zRz R s36 := zRy.of (rz_X10_mouthFlow gs30) es36
        refine zRy_let (fun v37 _ => ?_)
        exact ih _ _ _ _ gs36
      · skip
        refine zRy_let (fun v34 _ => ?_)
        exact ih _ _ _ _ gs30
    · skip
      refine zRy_if (fun _ => ?_) (fun _ => ?_)
      · skip
        exact g
      · skip
        exact g
set_option maxRecDepth 100000 in
theorem rz_X10_driest {R : Nat → Nat → Option Nat} {σ0 : zS} {a0 : Nat} {p1 : Int32} {p2 : Int32}  (g : zRz R σ0) : zRy R (F_X10_driest a0 p1 p2 σ0) := by
  unfold F_X10_driest
  refine zRy_let2 (fun v1 s2 es2 => ?_)
  have gs2 : zRz R s2 := zRy.of (rz_X10_hasMouth g) es2
  refine zRy_if (fun _ => ?_) (fun _ => ?_)
  · skip
    refine zRy_let (fun v4 _ => ?_)
    exact gs2
  · skip
    refine zRy_let (fun v5 _ => ?_)
    refine zRy_let (fun v6 _ => ?_)
    refine zRy_let (fun v7 _ => ?_)
    refine zRy_if (fun _ => ?_) (fun _ => ?_)
    · skip
      refine zRy_let (fun v9 _ => ?_)
      exact gs2
    · skip
      refine zRy_let (fun v10 _ => ?_)
      refine zRy_let (fun v11 _ => ?_)
      refine zRy_let (fun v12 _ => ?_)
      refine zRy_if (fun _ => ?_) (fun _ => ?_)
      · skip
        refine zRy_let (fun v38 _ => ?_)
        exact gs2
      · skip
        refine zRy_let (fun v14 _ => ?_)
        refine zRy_let (fun s15 es15 => ?_)
        have gs15 : zRz R s15 := by rw [es15]; exact rz_X10_tryFromNow gs2
        refine zRy_let2 (fun v16 s17 es17 => ?_)
        have gs17 : zRz R s17 := zRy.of (rz_X10_mouthFlow gs15) es17
        refine zRy_let (fun v18 _ => ?_)
        exact rz_X10_driest_43  _ _ _ _ _ gs17
set_option maxRecDepth 100000 in
theorem rz_X1_comesBy_5 {R : Nat → Nat → Option Nat} {a0 : Nat} {p1 : Int32} {p2 : Int32}  : ∀ (n : Nat) (x2 : Int32) (x3 : Int32) (τ4 : zS), zRz R τ4 → zRy R (F_X1_comesBy_5 a0 p1 p2 n x2 x3 τ4) := by
  intro n
  induction n with
  | zero => intro x2 x3 τ4 g; exact g
  | succ n ih =>
    intro x2 x3 τ4 g
    rw [F_X1_comesBy_5]
    refine zRy_let (fun v5 _ => ?_)
    refine zRy_if (fun _ => ?_) (fun _ => ?_)
    · skip
      refine zRy_if (fun _ => ?_) (fun _ => ?_)
      · skip
        refine zRy_if (fun _ => ?_) (fun _ => ?_)
        · skip
          refine zRy_let (fun v13 _ => ?_)
          exact g
        · skip
          refine zRy_let (fun v12 _ => ?_)
          exact g
      · skip
        refine zRy_if (fun _ => ?_) (fun _ => ?_)
        · skip
          refine zRy_if (fun _ => ?_) (fun _ => ?_)
          · skip
            refine zRy_let (fun v17 _ => ?_)
            exact g
          · skip
            refine zRy_let (fun v16 _ => ?_)
            exact g
        · skip
          refine zRy_let (fun v18 _ => ?_)
          refine zRy_let (fun v19 _ => ?_)
          refine zRy_let (fun v20 _ => ?_)
          exact ih _ _ _ g
    · skip
      refine zRy_if (fun _ => ?_) (fun _ => ?_)
      · skip
        refine zRy_let (fun v9 _ => ?_)
        exact g
      · skip
        refine zRy_let (fun v8 _ => ?_)
        exact g
set_option maxRecDepth 100000 in
theorem rz_X1_comesBy {R : Nat → Nat → Option Nat} {σ0 : zS} {a0 : Nat} {p1 : Int32} {p2 : Int32}  (g : zRz R σ0) : zRy R (F_X1_comesBy a0 p1 p2 σ0) := by
  unfold F_X1_comesBy
  refine zRy_let (fun v1 _ => ?_)
  exact rz_X1_comesBy_5  _ _ _ _ g
set_option maxRecDepth 100000 in
theorem rz_X10_isTurn {R : Nat → Nat → Option Nat} {σ0 : zS} {a0 : Nat} {p1 : Int32} {p2 : Int32}  (g : zRz R σ0) : zRy R (F_X10_isTurn a0 p1 p2 σ0) := by
  unfold F_X10_isTurn
  refine zRy_if (fun _ => ?_) (fun _ => ?_)
  · skip
    refine zRy_let (fun v2 _ => ?_)
    exact g
  · skip
    refine zRy_let2 (fun v3 s4 es4 => ?_)
    have gs4 : zRz R s4 := zRy.of (rz_X10_isPlace g) es4
    refine zRy_if (fun _ => ?_) (fun _ => ?_)
    · skip
      refine zRy_let (fun v6 _ => ?_)
      exact gs4
    · skip
      refine zRy_let2 (fun v7 s8 es8 => ?_)
      have gs8 : zRz R s8 := zRy.of (rz_X10_isPlace gs4) es8
      refine zRy_if (fun _ => ?_) (fun _ => ?_)
      · skip
        refine zRy_let (fun v10 _ => ?_)
        exact gs8
      · skip
        refine zRy_let (fun v11 _ => ?_)
        refine zRy_let (fun v12 _ => ?_)
        refine zRy_let (fun v13 _ => ?_)
        refine zRy_if (fun _ => ?_) (fun _ => ?_)
        · skip
          refine zRy_let (fun v15 _ => ?_)
          exact gs8
        · skip
          refine zRy_let (fun v16 _ => ?_)
          refine zRy_let2 (fun v17 s18 es18 => ?_)
          have gs18 : zRz R s18 := zRy.of (rz_X1_comesBy gs8) es18
          refine zRy_if (fun _ => ?_) (fun _ => ?_)
          · skip
            refine zRy_let (fun v21 _ => ?_)
            exact gs18
          · skip
            refine zRy_let (fun v20 _ => ?_)
            exact gs18
set_option maxRecDepth 100000 in
theorem rz_X10_winsTurned {R : Nat → Nat → Option Nat} {σ0 : zS} {a0 : Nat} {p1 : Int32} {p2 : Int32} {p3 : Int32} {p4 : Int32}  (g : zRz R σ0) : zRy R (F_X10_winsTurned a0 p1 p2 p3 p4 σ0) := by
  unfold F_X10_winsTurned
  refine zRy_let (fun v1 _ => ?_)
  refine zRy_let (fun v2 _ => ?_)
  refine zRy_let (fun s3 es3 => ?_)
  have gs3 : zRz R s3 := by rw [es3]; exact rz_X1_copy g
  refine zRy_let (fun v4 _ => ?_)
  refine zRy_let (fun v5 _ => ?_)
  refine zRy_let (fun s6 es6 => ?_)
  have gs6 : zRz R s6 := by rw [es6]; exact gs3
  refine zRy_let (fun v7 _ => ?_)
  refine zRy_let (fun v8 _ => ?_)
  refine zRy_let (fun v9 _ => ?_)
  refine zRy_let (fun s10 es10 => ?_)
  have gs10 : zRz R s10 := by rw [es10]; exact rz_X5_look gs6
  refine zRy_let (fun v11 _ => ?_)
  refine zRy_let2 (fun v12 s13 es13 => ?_)
  have gs13 : zRz R s13 := zRy.of (rz_X5_winnerBy gs10) es13
  refine zRy_if (fun _ => ?_) (fun _ => ?_)
  · skip
    refine zRy_let (fun v16 _ => ?_)
    exact gs13
  · skip
    refine zRy_let (fun v15 _ => ?_)
    exact gs13
set_option maxRecDepth 100000 in
theorem rz_X10_turnFor_27 {R : Nat → Nat → Option Nat} {x5 : Int32} {a0 : Nat} {p1 : Int32} {p2 : Int32} {kLp6 : Int32 → zS → Int32 × zS} (ckLp6 : ∀ (y0 : Int32) (s : zS), zRz R s → zRy R (kLp6 y0 s)) : ∀ (n : Nat) (x12 : Int32) (τ13 : zS), zRz R τ13 → zRy R (F_X10_turnFor_27 x5 a0 p1 p2 kLp6 n x12 τ13) := by
  intro n
  induction n with
  | zero => intro x12 τ13 g; exact g
  | succ n ih =>
    intro x12 τ13 g
    rw [F_X10_turnFor_27]
    refine zRy_let (fun v14 _ => ?_)
    refine zRy_let (fun v15 _ => ?_)
    refine zRy_if (fun _ => ?_) (fun _ => ?_)
    · skip
      refine zRy_if (fun _ => ?_) (fun _ => ?_)
      · skip
        refine zRy_let (fun v19 _ => ?_)
        exact ih _ _ g
      · skip
        refine zRy_let2 (fun v20 s21 es21 => ?_)
        have gs21 : zRz R s21 := zRy.of (rz_X10_isTurn g) es21
        refine zRy_if (fun _ => ?_) (fun _ => ?_)
        · skip
          refine zRy_let (fun v23 _ => ?_)
          exact ih _ _ gs21
        · skip
          refine zRy_let2 (fun v24 s25 es25 => ?_)
          have gs25 : zRz R s25 := zRy.of (rz_X10_winsTurned gs21) es25
          refine zRy_if (fun _ => ?_) (fun _ => ?_)
          · skip
            refine zRy_let (fun v27 _ => ?_)
            exact ih _ _ gs25
          · skip
            refine zRy_let (fun v28 _ => ?_)
            refine zRy_let (fun v29 _ => ?_)
            refine zRy_let (fun v30 _ => ?_)
            exact gs25
    · skip
      refine zRy_let (fun v17 _ => ?_)
      exact ckLp6 _ _ g
set_option maxRecDepth 100000 in
theorem rz_X10_turnFor_13 {R : Nat → Nat → Option Nat} {a0 : Nat} {p1 : Int32} {p2 : Int32}  : ∀ (n : Nat) (x5 : Int32) (τ6 : zS), zRz R τ6 → zRy R (F_X10_turnFor_13 a0 p1 p2 n x5 τ6) := by
  intro n
  induction n with
  | zero => intro x5 τ6 g; exact g
  | succ n ih =>
    intro x5 τ6 g
    rw [F_X10_turnFor_13]
    refine zRy_let (fun v7 _ => ?_)
    refine zRy_let (fun v8 _ => ?_)
    refine zRy_if (fun _ => ?_) (fun _ => ?_)
    · skip
      refine zRy_let (fun v11 _ => ?_)
      exact rz_X10_turnFor_27 ih _ _ _ g
    · skip
      refine zRy_let (fun v10 _ => ?_)
      exact g
set_option maxRecDepth 100000 in
theorem rz_X10_turnFor {R : Nat → Nat → Option Nat} {σ0 : zS} {a0 : Nat} {p1 : Int32} {p2 : Int32}  (g : zRz R σ0) : zRy R (F_X10_turnFor a0 p1 p2 σ0) := by
  unfold F_X10_turnFor
  refine zRy_let2 (fun v1 s2 es2 => ?_)
  have gs2 : zRz R s2 := zRy.of (rz_X10_isContest g) es2
  refine zRy_if (fun _ => ?_) (fun _ => ?_)
  · skip
    refine zRy_let (fun v31 _ => ?_)
    exact gs2
  · skip
    refine zRy_let (fun v4 _ => ?_)
    exact rz_X10_turnFor_13  _ _ _ gs2
set_option maxRecDepth 100000 in
theorem rz_X10_tallied_4 {R : Nat → Nat → Option Nat} {a0 : Nat}  : ∀ (n : Nat) (x3 : Int32) (x4 : Int32) (τ5 : zS), zRz R τ5 → zRy R (F_X10_tallied_4 a0 n x3 x4 τ5) := by
  intro n
  induction n with
  | zero => intro x3 x4 τ5 g; exact g
  | succ n ih =>
    intro x3 x4 τ5 g
    rw [F_X10_tallied_4]
    refine zRy_let (fun v6 _ => ?_)
    refine zRy_let (fun v7 _ => ?_)
    refine zRy_if (fun _ => ?_) (fun _ => ?_)
    · skip
      refine zRy_let (fun v9 _ => ?_)
      refine zRy_let (fun v10 _ => ?_)
      refine zRy_if (fun _ => ?_) (fun _ => ?_)
      · skip
        refine zRy_let (fun v13 _ => ?_)
        refine zRy_let (fun v14 _ => ?_)
        exact ih _ _ _ g
      · skip
        refine zRy_let (fun v12 _ => ?_)
        exact ih _ _ _ g
    · skip
      exact g
set_option maxRecDepth 100000 in
theorem rz_X10_tallied {R : Nat → Nat → Option Nat} {σ0 : zS} {a0 : Nat}  (g : zRz R σ0) : zRy R (F_X10_tallied a0 σ0) := by
  unfold F_X10_tallied
  refine zRy_let (fun v1 _ => ?_)
  refine zRy_let (fun v2 _ => ?_)
  exact rz_X10_tallied_4  _ _ _ _ g
set_option maxRecDepth 100000 in
theorem rz_X10_mostTallied_5 {R : Nat → Nat → Option Nat} {a0 : Nat}  : ∀ (n : Nat) (x3 : Int32) (x4 : Int32) (τ5 : zS), zRz R τ5 → zRy R (F_X10_mostTallied_5 a0 n x3 x4 τ5) := by
  intro n
  induction n with
  | zero => intro x3 x4 τ5 g; exact g
  | succ n ih =>
    intro x3 x4 τ5 g
    rw [F_X10_mostTallied_5]
    refine zRy_let (fun v6 _ => ?_)
    refine zRy_let (fun v7 _ => ?_)
    refine zRy_if (fun _ => ?_) (fun _ => ?_)
    · skip
      refine zRy_let (fun v9 _ => ?_)
      refine zRy_let (fun v10 _ => ?_)
      refine zRy_if (fun _ => ?_) (fun _ => ?_)
      · skip
        refine zRy_let (fun v19 _ => ?_)
        refine zRy_if (fun _ => ?_) (fun _ => ?_)
        · skip
          refine zRy_let (fun v23 _ => ?_)
          exact ih _ _ _ g
        · skip
          refine zRy_let (fun v22 _ => ?_)
          exact ih _ _ _ g
      · skip
        refine zRy_let (fun v12 _ => ?_)
        refine zRy_let (fun v13 _ => ?_)
        refine zRy_if (fun _ => ?_) (fun _ => ?_)
        · skip
          refine zRy_let (fun v18 _ => ?_)
          exact ih _ _ _ g
        · skip
          refine zRy_let (fun v17 _ => ?_)
          exact ih _ _ _ g
    · skip
      exact g
set_option maxRecDepth 100000 in
theorem rz_X10_mostTallied {R : Nat → Nat → Option Nat} {σ0 : zS} {a0 : Nat}  (g : zRz R σ0) : zRy R (F_X10_mostTallied a0 σ0) := by
  unfold F_X10_mostTallied
  refine zRy_let (fun v1 _ => ?_)
  refine zRy_let (fun v2 _ => ?_)
  exact rz_X10_mostTallied_5  _ _ _ _ g
set_option maxRecDepth 100000 in
theorem rz_X10_reign_44 {R : Nat → Nat → Option Nat} {a0 : Nat} {p1 : Int32} {p2 : Int32} {p3 : Int32}  : ∀ (n : Nat) (x19 : Int32) (τ20 : zS), zRz R τ20 → zRy R (F_X10_reign_44 a0 p1 p2 p3 n x19 τ20) := by
  intro n
  induction n with
  | zero => intro x19 τ20 g; exact g
  | succ n ih =>
    intro x19 τ20 g
    rw [F_X10_reign_44]
    refine zRy_if (fun _ => ?_) (fun _ => ?_)
    · skip
      refine zRy_let (fun v29 _ => ?_)
      refine zRy_let2 (fun v30 s31 es31 => ?_)
      have gs31 : zRz R s31 := zRy.of (rz_X5_winnerBy g) es31
      refine zRy_if (fun _ => ?_) (fun _ => ?_)
      · skip
        refine zRy_let (fun v36 _ => ?_)
        refine zRy_let (fun v37 _ => ?_)
        refine zRy_let (fun v38 _ => ?_)
        refine zRy_let (fun v39 _ => ?_)
        refine zRy_let (fun s40 es40 => ?_)
        have gs40 : zRz R s40 := by rw [es40]; exact gs31
        refine zRy_let (fun v41 _ => ?_)
        refine zRy_let (fun s42 es42 => ?_)
        have gs42 : zRz R s42 := by rw [es42]; exact rz_X5_goOn gs40
        refine zRy_let (fun v43 _ => ?_)
        exact ih _ _ gs42
      · skip
        refine zRy_let (fun v33 _ => ?_)
        refine zRy_let (fun s34 es34 => ?_)
        have gs34 : zRz R s34 := by rw [es34]; exact rz_X5_goOn gs31
        refine zRy_let (fun v35 _ => ?_)
        exact ih _ _ gs34
    · skip
      refine zRy_if (fun _ => ?_) (fun _ => ?_)
      · skip
        refine zRy_let2 (fun v27 s28 es28 => ?_)
        have gs28 : zRz R s28 := zRy.of (rz_X10_tallied g) es28
        exact gs28
      · skip
        refine zRy_let2 (fun v25 s26 es26 => ?_)
        have gs26 : zRz R s26 := zRy.of (rz_X10_mostTallied g) es26
        exact gs26
set_option maxRecDepth 100000 in
theorem rz_X10_reign {R : Nat → Nat → Option Nat} {σ0 : zS} {a0 : Nat} {p1 : Int32} {p2 : Int32} {p3 : Int32}  (g : zRz R σ0) : zRy R (F_X10_reign a0 p1 p2 p3 σ0) := by
  unfold F_X10_reign
  refine zRy_let2 (fun v1 s2 es2 => ?_)
  have gs2 : zRz R s2 := zRy.of (rz_X10_isLaw g) es2
  refine zRy_if (fun _ => ?_) (fun _ => ?_)
  · skip
    refine zRy_let (fun v4 _ => ?_)
    exact gs2
  · skip
    refine zRy_let (fun v5 _ => ?_)
    refine zRy_let (fun v6 _ => ?_)
    refine zRy_let (fun v7 _ => ?_)
    refine zRy_if (fun _ => ?_) (fun _ => ?_)
    · skip
      refine zRy_let (fun v9 _ => ?_)
      exact gs2
    · skip
      refine zRy_let (fun v10 _ => ?_)
      refine zRy_let (fun v11 _ => ?_)
      refine zRy_let (fun v12 _ => ?_)
      refine zRy_if (fun _ => ?_) (fun _ => ?_)
      · skip
        refine zRy_let (fun v44 _ => ?_)
        exact gs2
      · skip
        refine zRy_let (fun v14 _ => ?_)
        refine zRy_let (fun v15 _ => ?_)
        refine zRy_let (fun s16 es16 => ?_)
        have gs16 : zRz R s16 := by rw [es16]; exact gs2
        refine zRy_let (fun s17 es17 => ?_)
        have gs17 : zRz R s17 := by rw [es17]; exact rz_X10_tryFromNow gs16
        refine zRy_let (fun v18 _ => ?_)
        exact rz_X10_reign_44  _ _ _ gs17
set_option maxRecDepth 100000 in
theorem rz_X10_when_23 {R : Nat → Nat → Option Nat} {a0 : Nat} {p1 : Int32}  : ∀ (n : Nat) (x8 : Int32) (τ9 : zS), zRz R τ9 → zRy R (F_X10_when_23 a0 p1 n x8 τ9) := by
  intro n
  induction n with
  | zero => intro x8 τ9 g; exact g
  | succ n ih =>
    intro x8 τ9 g
    rw [F_X10_when_23]
    refine zRy_let (fun v10 _ => ?_)
    refine zRy_if (fun _ => ?_) (fun _ => ?_)
    · skip
      refine zRy_let (fun v12 _ => ?_)
      exact g
    · skip
      refine zRy_let (fun v13 _ => ?_)
      refine zRy_let (fun s14 es14 => ?_)
      have gs14 : zRz R s14 := by rw [es14]; exact rz_X5_goOn g
      refine zRy_let (fun v15 _ => ?_)
      refine zRy_let (fun v16 _ => ?_)
      refine zRy_let (fun v17 _ => ?_)
      refine zRy_let (fun v18 _ => ?_)
      refine zRy_let (fun v19 _ => ?_)
      refine zRy_let (fun v20 _ => ?_)
      refine zRy_if (fun _ => ?_) (fun _ => ?_)
      · skip
        exact gs14
      · skip
        refine zRy_let (fun v24 _ => ?_)
        exact ih _ _ gs14
set_option maxRecDepth 100000 in
theorem rz_X10_when {R : Nat → Nat → Option Nat} {σ0 : zS} {a0 : Nat} {p1 : Int32}  (g : zRz R σ0) : zRy R (F_X10_when a0 p1 σ0) := by
  unfold F_X10_when
  refine zRy_let (fun s1 es1 => ?_)
  have gs1 : zRz R s1 := by rw [es1]; exact rz_X10_look g
  refine zRy_let (fun v2 _ => ?_)
  refine zRy_let2 (fun v3 s4 es4 => ?_)
  have gs4 : zRz R s4 := zRy.of (rz_X6_isSource gs1) es4
  refine zRy_if (fun _ => ?_) (fun _ => ?_)
  · skip
    refine zRy_let (fun v25 _ => ?_)
    exact gs4
  · skip
    refine zRy_let (fun s6 es6 => ?_)
    have gs6 : zRz R s6 := by rw [es6]; exact rz_X10_tryFromNow gs4
    refine zRy_let (fun v7 _ => ?_)
    exact rz_X10_when_23  _ _ _ gs6
set_option maxRecDepth 100000 in
theorem rz_X10_then {R : Nat → Nat → Option Nat} {σ0 : zS} {a0 : Nat} {p1 : Int32} {p2 : Int32} {p3 : Int32}  (g : zRz R σ0) : zRy R (F_X10_then a0 p1 p2 p3 σ0) := by
  unfold F_X10_then
  refine zRy_let (fun s1 es1 => ?_)
  have gs1 : zRz R s1 := by rw [es1]; exact rz_X10_look g
  refine zRy_let (fun v2 _ => ?_)
  refine zRy_let2 (fun v3 s4 es4 => ?_)
  have gs4 : zRz R s4 := zRy.of (rz_X6_isSource gs1) es4
  refine zRy_if (fun _ => ?_) (fun _ => ?_)
  · skip
    refine zRy_let (fun v6 _ => ?_)
    exact gs4
  · skip
    refine zRy_let (fun v7 _ => ?_)
    refine zRy_let (fun v8 _ => ?_)
    refine zRy_let (fun v9 _ => ?_)
    refine zRy_if (fun _ => ?_) (fun _ => ?_)
    · skip
      refine zRy_let (fun v11 _ => ?_)
      exact gs4
    · skip
      refine zRy_let (fun v12 _ => ?_)
      refine zRy_let (fun v13 _ => ?_)
      refine zRy_let (fun v14 _ => ?_)
      refine zRy_if (fun _ => ?_) (fun _ => ?_)
      · skip
        refine zRy_let (fun v32 _ => ?_)
        exact gs4
      · skip
        refine zRy_let (fun v16 _ => ?_)
        refine zRy_let (fun v17 _ => ?_)
        refine zRy_let (fun s18 es18 => ?_)
        have gs18 : zRz R s18 := by rw [es18]; exact rz_X1_copy gs4
        refine zRy_let (fun v19 _ => ?_)
        refine zRy_let (fun v20 _ => ?_)
        refine zRy_let (fun v21 _ => ?_)
        refine zRy_let (fun v22 _ => ?_)
        refine zRy_let (fun v23 _ => ?_)
        refine zRy_let (fun s24 es24 => ?_)
        have gs24 : zRz R s24 := by rw [es24]; exact rz_X5_goThrough gs18
        refine zRy_if (fun _ => ?_) (fun _ => ?_)
        · skip
          refine zRy_let (fun v29 _ => ?_)
          refine zRy_let (fun v30 _ => ?_)
          refine zRy_let (fun v31 _ => ?_)
          exact gs24
        · skip
          refine zRy_let (fun v26 _ => ?_)
          refine zRy_let (fun v27 _ => ?_)
          refine zRy_let (fun v28 _ => ?_)
          exact gs24
set_option maxRecDepth 100000 in
theorem rz_X10_flowIn {R : Nat → Nat → Option Nat} {σ0 : zS} {a0 : Nat} {p1 : Int32}  (g : zRz R σ0) : zRy R (F_X10_flowIn a0 p1 σ0) := by
  unfold F_X10_flowIn
  refine zRy_let2 (fun v1 s2 es2 => ?_)
  have gs2 : zRz R s2 := zRy.of (rz_X10_hasMouth g) es2
  refine zRy_if (fun _ => ?_) (fun _ => ?_)
  · skip
    refine zRy_let (fun v4 _ => ?_)
    exact gs2
  · skip
    refine zRy_let (fun v5 _ => ?_)
    refine zRy_let (fun v6 _ => ?_)
    refine zRy_let (fun v7 _ => ?_)
    refine zRy_if (fun _ => ?_) (fun _ => ?_)
    · skip
      refine zRy_let (fun v24 _ => ?_)
      exact gs2
    · skip
      refine zRy_let (fun v9 _ => ?_)
      refine zRy_let (fun v10 _ => ?_)
      refine zRy_let (fun s11 es11 => ?_)
      have gs11 : zRz R s11 := by rw [es11]; exact rz_X1_copy gs2
      refine zRy_let (fun v12 _ => ?_)
      refine zRy_let (fun v13 _ => ?_)
      refine zRy_let (fun v14 _ => ?_)
      refine zRy_let (fun v15 _ => ?_)
      refine zRy_let (fun v16 _ => ?_)
      refine zRy_let (fun s17 es17 => ?_)
      have gs17 : zRz R s17 := by rw [es17]; exact rz_X5_goThrough gs11
      refine zRy_let (fun v18 _ => ?_)
      refine zRy_let (fun v19 _ => ?_)
      refine zRy_let (fun v20 _ => ?_)
      refine zRy_let (fun s21 es21 => ?_)
      have gs21 : zRz R s21 := by rw [es21]; exact rz_X5_look gs17
      refine zRy_let2 (fun v22 s23 es23 => ?_)
      have gs23 : zRz R s23 := zRy.of (rz_X10_mouthFlow gs21) es23
      exact gs23
set_option maxRecDepth 100000 in
theorem rz_X10_hasWonMost_4 {R : Nat → Nat → Option Nat} {a0 : Nat} {p1 : Int32}  : ∀ (n : Nat) (x3 : Int32) (x4 : Int32) (τ5 : zS), zRz R τ5 → zRy R (F_X10_hasWonMost_4 a0 p1 n x3 x4 τ5) := by
  intro n
  induction n with
  | zero => intro x3 x4 τ5 g; exact g
  | succ n ih =>
    intro x3 x4 τ5 g
    rw [F_X10_hasWonMost_4]
    refine zRy_let (fun v6 _ => ?_)
    refine zRy_let (fun v7 _ => ?_)
    refine zRy_if (fun _ => ?_) (fun _ => ?_)
    · skip
      refine zRy_if (fun _ => ?_) (fun _ => ?_)
      · skip
        refine zRy_let (fun v10 _ => ?_)
        exact ih _ _ _ g
      · skip
        refine zRy_let (fun v11 _ => ?_)
        refine zRy_let2 (fun v12 s13 es13 => ?_)
        have gs13 : zRz R s13 := zRy.of (rz_X6_isSource g) es13
        refine zRy_if (fun _ => ?_) (fun _ => ?_)
        · skip
          refine zRy_let (fun v15 _ => ?_)
          exact ih _ _ _ gs13
        · skip
          refine zRy_let (fun v16 _ => ?_)
          refine zRy_let (fun v17 _ => ?_)
          refine zRy_let (fun v18 _ => ?_)
          refine zRy_let (fun v19 _ => ?_)
          refine zRy_let (fun v20 _ => ?_)
          refine zRy_let (fun v21 _ => ?_)
          refine zRy_if (fun _ => ?_) (fun _ => ?_)
          · skip
            refine zRy_let (fun v25 _ => ?_)
            exact ih _ _ _ gs13
          · skip
            refine zRy_let (fun v26 _ => ?_)
            refine zRy_let (fun v27 _ => ?_)
            exact ih _ _ _ gs13
    · skip
      exact g
set_option maxRecDepth 100000 in
theorem rz_X10_hasWonMost {R : Nat → Nat → Option Nat} {σ0 : zS} {a0 : Nat} {p1 : Int32}  (g : zRz R σ0) : zRy R (F_X10_hasWonMost a0 p1 σ0) := by
  unfold F_X10_hasWonMost
  refine zRy_let (fun v1 _ => ?_)
  refine zRy_let (fun v2 _ => ?_)
  exact rz_X10_hasWonMost_4  _ _ _ _ g
set_option maxRecDepth 100000 in
theorem rz_X10_year_43 {R : Nat → Nat → Option Nat} {a0 : Nat} {p1 : Int32} {p2 : Int32} {p3 : Int32}  : ∀ (n : Nat) (x18 : Int32) (x19 : Int32) (τ20 : zS), zRz R τ20 → zRy R (F_X10_year_43 a0 p1 p2 p3 n x18 x19 τ20) := by
  intro n
  induction n with
  | zero => intro x18 x19 τ20 g; exact g
  | succ n ih =>
    intro x18 x19 τ20 g
    rw [F_X10_year_43]
    refine zRy_if (fun _ => ?_) (fun _ => ?_)
    · skip
      refine zRy_let (fun v24 _ => ?_)
      refine zRy_let (fun v25 _ => ?_)
      refine zRy_let (fun s26 es26 => ?_)
      have gs26 : zRz R s26 := by rw [es26]; exact rz_X1_copy g
      refine zRy_let (fun v27 _ => ?_)
      refine zRy_let (fun v28 _ => ?_)
      refine zRy_let (fun v29 _ => ?_)
      refine zRy_let (fun v30 _ => ?_)
      refine zRy_let (fun v31 _ => ?_)
      refine zRy_let (fun v32 _ => ?_)
      refine zRy_let (fun s33 es33 => ?_)
      have gs33 : zRz R s33 := by rw [es33]; exact rz_X5_goThrough gs26
      refine zRy_let2 (fun v34 s35 es35 => ?_)
      have gs35 : zRz R s35 := zRy.of (rz_X10_hasWonMost gs33) es35
      refine zRy_if (fun _ => ?_) (fun _ => ?_)
      · skip
        refine zRy_let (fun v37 _ => ?_)
        exact ih _ _ _ gs35
      · skip
        refine zRy_let (fun v38 _ => ?_)
        refine zRy_let (fun v39 _ => ?_)
        exact ih _ _ _ gs35
    · skip
      exact g
set_option maxRecDepth 100000 in
theorem rz_X10_year {R : Nat → Nat → Option Nat} {σ0 : zS} {a0 : Nat} {p1 : Int32} {p2 : Int32} {p3 : Int32}  (g : zRz R σ0) : zRy R (F_X10_year a0 p1 p2 p3 σ0) := by
  unfold F_X10_year
  refine zRy_let (fun s1 es1 => ?_)
  have gs1 : zRz R s1 := by rw [es1]; exact rz_X10_look g
  refine zRy_let (fun v2 _ => ?_)
  refine zRy_let2 (fun v3 s4 es4 => ?_)
  have gs4 : zRz R s4 := zRy.of (rz_X6_isSource gs1) es4
  refine zRy_if (fun _ => ?_) (fun _ => ?_)
  · skip
    refine zRy_let (fun v6 _ => ?_)
    exact gs4
  · skip
    refine zRy_let (fun v7 _ => ?_)
    refine zRy_let (fun v8 _ => ?_)
    refine zRy_let (fun v9 _ => ?_)
    refine zRy_if (fun _ => ?_) (fun _ => ?_)
    · skip
      refine zRy_let (fun v11 _ => ?_)
      exact gs4
    · skip
      refine zRy_let (fun v12 _ => ?_)
      refine zRy_let (fun v13 _ => ?_)
      refine zRy_let (fun v14 _ => ?_)
      refine zRy_if (fun _ => ?_) (fun _ => ?_)
      · skip
        refine zRy_let (fun v40 _ => ?_)
        exact gs4
      · skip
        refine zRy_let (fun v16 _ => ?_)
        refine zRy_let (fun v17 _ => ?_)
        exact rz_X10_year_43  _ _ _ _ gs4
