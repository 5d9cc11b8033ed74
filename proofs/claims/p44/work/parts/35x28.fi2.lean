set_option maxRecDepth 100000 in
theorem fi_X11_fail {A : Nat → Nat → Prop} {σ σ0 : zS} {a0 : Nat} {p1 : Int32}  (g : zFi A σ σ0) (h0 : A a0 13) (h1 : A a0 14) : zFi A σ (F_X11_fail a0 p1 σ0) := by
  unfold F_X11_fail
  refine zFi_let (fun v1 _ => ?_)
  refine zFi_if (fun _ => ?_) (fun _ => ?_)
  · skip
    exact g
  · skip
    refine zFi_let (fun s4 es4 => ?_)
    have gs4 : zFi A σ s4 := by rw [es4]; exact g.w h0
    refine zFi_let (fun v7 ev7 => ?_)
    rw [gs4.rf] at ev7
    subst ev7
    refine zFi_let (fun v8 _ => ?_)
    refine zFi_let (fun v9 _ => ?_)
    refine zFi_let (fun s10 es10 => ?_)
    have gs10 : zFi A σ s10 := by rw [es10]; exact gs4.w h1
    exact gs10
set_option maxRecDepth 100000 in
theorem fi_X11_goesOn {A : Nat → Nat → Prop} {σ σ0 : zS} {a0 : Nat}  (g : zFi A σ σ0) (h0 : A a0 13) (h1 : A a0 14) (h2 : A a0 11) : zFi A σ (F_X11_goesOn a0 σ0) := by
  unfold F_X11_goesOn
  refine zFi_let (fun v1 _ => ?_)
  refine zFi_let (fun v2 _ => ?_)
  refine zFi_if (fun _ => ?_) (fun _ => ?_)
  · skip
    refine zFi_let (fun v10 _ => ?_)
    refine zFi_let (fun t11 et11 => ?_)
    have gt11 : zFi A σ t11 := by rw [et11]; exact fi_X11_fail g h0 h1
    exact gt11
  · skip
    refine zFi_let (fun v4 _ => ?_)
    refine zFi_let (fun v5 _ => ?_)
    refine zFi_let (fun v6 _ => ?_)
    refine zFi_let (fun s7 es7 => ?_)
    have gs7 : zFi A σ s7 := by rw [es7]; exact g.w h2
    exact gs7
set_option maxRecDepth 100000 in
theorem fi_X11_must {A : Nat → Nat → Prop} {σ σ0 : zS} {a0 : Nat} {p1 : Int32}  (g : zFi A σ σ0) (h0 : A a0 13) (h1 : A a0 14) (h2 : A a0 11) : zFi A σ (F_X11_must a0 p1 σ0) := by
  unfold F_X11_must
  refine zFi_let (fun v2 _ => ?_)
  refine zFi_if (fun _ => ?_) (fun _ => ?_)
  · skip
    refine zFi_let (fun v4 _ => ?_)
    refine zFi_let (fun t5 et5 => ?_)
    have gt5 : zFi A σ t5 := by rw [et5]; exact fi_X11_fail g h0 h1
    exact gt5
  · skip
    refine zFi_let (fun t7 et7 => ?_)
    have gt7 : zFi A σ t7 := by rw [et7]; exact fi_X11_goesOn g h0 h1 h2
    exact gt7
set_option maxRecDepth 100000 in
theorem fi_X11_wrong {A : Nat → Nat → Prop} {σ σ0 : zS} {a0 : Nat} {p1 : Int32} {p2 : Int32}  (g : zFi A σ σ0) (h0 : A a0 15) (h1 : A a0 16) : zFi A σ (F_X11_wrong a0 p1 p2 σ0) := by
  unfold F_X11_wrong
  refine zFi_let (fun v1 ev1 => ?_)
  rw [g.rf] at ev1
  subst ev1
  refine zFi_let (fun v2 _ => ?_)
  refine zFi_let (fun v3 _ => ?_)
  refine zFi_if (fun _ => ?_) (fun _ => ?_)
  · skip
    exact g
  · skip
    refine zFi_let (fun v5 _ => ?_)
    refine zFi_if (fun _ => ?_) (fun _ => ?_)
    · skip
      refine zFi_let (fun s7 es7 => ?_)
      have gs7 : zFi A σ s7 := by rw [es7]; exact g.w h0
      refine zFi_let (fun s11 es11 => ?_)
      have gs11 : zFi A σ s11 := by rw [es11]; exact gs7.w h1
      exact gs11
    · skip
      refine zFi_let (fun v16 _ => ?_)
      refine zFi_if (fun _ => ?_) (fun _ => ?_)
      · skip
        exact g
      · skip
        refine zFi_let (fun v20 _ => ?_)
        refine zFi_if (fun _ => ?_) (fun _ => ?_)
        · skip
          refine zFi_let (fun v32 _ => ?_)
          refine zFi_if (fun _ => ?_) (fun _ => ?_)
          · skip
            refine zFi_let (fun s36 es36 => ?_)
            have gs36 : zFi A σ s36 := by rw [es36]; exact g.w h0
            refine zFi_let (fun s41 es41 => ?_)
            have gs41 : zFi A σ s41 := by rw [es41]; exact gs36.w h1
            exact gs41
          · skip
            exact g
        · skip
          refine zFi_let (fun s22 es22 => ?_)
          have gs22 : zFi A σ s22 := by rw [es22]; exact g.w h0
          refine zFi_let (fun s27 es27 => ?_)
          have gs27 : zFi A σ s27 := by rw [es27]; exact gs22.w h1
          exact gs27
set_option maxRecDepth 100000 in
theorem fi_X11_named {A : Nat → Nat → Prop} {σ σ0 : zS} {a0 : Nat}  (g : zFi A σ σ0) (h0 : A a0 13) (h1 : A a0 14) (h2 : A a0 11) (h3 : A a0 15) (h4 : A a0 16) : zFj A σ (F_X11_named a0 σ0) := by
  unfold F_X11_named
  refine zFj_let (fun v1 _ => ?_)
  refine zFj_let (fun v2 _ => ?_)
  refine zFj_let (fun t3 et3 => ?_)
  have gt3 : zFi A σ t3 := by rw [et3]; exact fi_X11_must g h0 h1 h2
  refine zFj_let (fun v5 _ => ?_)
  refine zFj_if (fun _ => ?_) (fun _ => ?_)
  · skip
    refine zFj_let (fun v8 _ => ?_)
    refine zFj_if (fun _ => ?_) (fun _ => ?_)
    · skip
      exact gt3
    · skip
      refine zFj_let (fun v10 _ => ?_)
      refine zFj_let (fun t11 et11 => ?_)
      have gt11 : zFi A σ t11 := by rw [et11]; exact fi_X11_wrong gt3 h3 h4
      exact gt11
  · skip
    exact gt3
set_option maxRecDepth 100000 in
theorem fi_X11_bounded {A : Nat → Nat → Prop} {σ σ0 : zS} {a0 : Nat} {p1 : Int32} {p2 : Int32}  (g : zFi A σ σ0) (h0 : A a0 13) (h1 : A a0 14) (h2 : A a0 15) (h3 : A a0 16) (h4 : A a0 11) : zFj A σ (F_X11_bounded a0 p1 p2 σ0) := by
  unfold F_X11_bounded
  refine zFj_let (fun v1 _ => ?_)
  refine zFj_if (fun _ => ?_) (fun _ => ?_)
  · skip
    refine zFj_let (fun v3 _ => ?_)
    refine zFj_let (fun t4 et4 => ?_)
    have gt4 : zFi A σ t4 := by rw [et4]; exact fi_X11_fail g h0 h1
    exact gt4
  · skip
    refine zFj_let (fun v6 _ => ?_)
    refine zFj_let (fun v8 _ => ?_)
    refine zFj_if (fun _ => ?_) (fun _ => ?_)
    · skip
      refine zFj_let (fun v37 _ => ?_)
      refine zFj_let (fun t38 et38 => ?_)
      have gt38 : zFi A σ t38 := by rw [et38]; exact fi_X11_fail g h0 h1
      exact gt38
    · skip
      refine zFj_let (fun v10 ev10 => ?_)
      rw [g.rf] at ev10
      subst ev10
      refine zFj_let (fun v11 _ => ?_)
      refine zFj_let (fun v12 _ => ?_)
      refine zFj_if (fun _ => ?_) (fun _ => ?_)
      · skip
        refine zFj_let (fun v16 _ => ?_)
        refine zFj_let (fun v17 _ => ?_)
        refine zFj_let (fun t18 et18 => ?_)
        have gt18 : zFi A σ t18 := by rw [et18]; exact fi_X11_wrong g h2 h3
        refine zFj_let (fun t22 et22 => ?_)
        have gt22 : zFi A σ t22 := by rw [et22]; exact fi_X11_goesOn gt18 h0 h1 h4
        exact gt22
      · skip
        refine zFj_if (fun _ => ?_) (fun _ => ?_)
        · skip
          refine zFj_let (fun v29 _ => ?_)
          refine zFj_let (fun v30 _ => ?_)
          refine zFj_let (fun t31 et31 => ?_)
          have gt31 : zFi A σ t31 := by rw [et31]; exact fi_X11_wrong g h2 h3
          refine zFj_let (fun t35 et35 => ?_)
          have gt35 : zFi A σ t35 := by rw [et35]; exact fi_X11_goesOn gt31 h0 h1 h4
          exact gt35
        · skip
          refine zFj_let (fun t27 et27 => ?_)
          have gt27 : zFi A σ t27 := by rw [et27]; exact fi_X11_goesOn g h0 h1 h4
          exact gt27
set_option maxRecDepth 100000 in
theorem fi_X11_emit {A : Nat → Nat → Prop} {σ σ0 : zS} {a0 : Nat} {p1 : Int32} {p2 : Int32}  (g : zFi A σ σ0) (h0 : ∀ j, A ((σ.2.2 a0 39).getD 0) j) (h1 : ∀ j, A ((σ.2.2 a0 40).getD 0) j) (h2 : A a0 38) : zFi A σ (F_X11_emit a0 p1 p2 σ0) := by
  unfold F_X11_emit
  refine zFi_let (fun v1 ev1 => ?_)
  rw [g.rf] at ev1
  subst ev1
  refine zFi_let (fun v2 _ => ?_)
  refine zFi_let (fun s3 es3 => ?_)
  have gs3 : zFi A σ s3 := by rw [es3]; exact g.w (h0 _)
  refine zFi_let (fun v6 ev6 => ?_)
  rw [gs3.rf] at ev6
  subst ev6
  refine zFi_let (fun v7 _ => ?_)
  refine zFi_let (fun s8 es8 => ?_)
  have gs8 : zFi A σ s8 := by rw [es8]; exact gs3.w (h1 _)
  refine zFi_let (fun v11 _ => ?_)
  refine zFi_let (fun v12 _ => ?_)
  refine zFi_let (fun v13 _ => ?_)
  refine zFi_let (fun s14 es14 => ?_)
  have gs14 : zFi A σ s14 := by rw [es14]; exact gs8.w h2
  exact gs14
set_option maxRecDepth 100000 in
theorem fi_X11_unit {A : Nat → Nat → Prop} {σ σ0 : zS} {a0 : Nat}  (g : zFi A σ σ0) (h0 : A a0 13) (h1 : A a0 14) (h2 : ∀ j, A ((σ.2.2 a0 39).getD 0) j) (h3 : ∀ j, A ((σ.2.2 a0 40).getD 0) j) (h4 : A a0 38) (h5 : A a0 11) : zFi A σ (F_X11_unit a0 σ0) := by
  unfold F_X11_unit
  refine zFi_let (fun v1 _ => ?_)
  refine zFi_let (fun v3 _ => ?_)
  refine zFi_if (fun _ => ?_) (fun _ => ?_)
  · skip
    refine zFi_let (fun v5 _ => ?_)
    refine zFi_if (fun _ => ?_) (fun _ => ?_)
    · skip
      refine zFi_let (fun v10 ev10 => ?_)
      rw [g.rf] at ev10
      subst ev10
      refine zFi_let (fun v11 _ => ?_)
      refine zFi_let (fun v12 _ => ?_)
      refine zFi_let (fun v13 _ => ?_)
      refine zFi_if (fun _ => ?_) (fun _ => ?_)
      · skip
        refine zFi_let (fun v16 _ => ?_)
        refine zFi_let (fun t17 et17 => ?_)
        have gt17 : zFi A σ t17 := by rw [et17]; exact fi_X11_fail g h0 h1
        exact gt17
      · skip
        refine zFi_let (fun v20 ev20 => ?_)
        rw [g.rf] at ev20
        subst ev20
        refine zFi_let (fun v21 _ => ?_)
        refine zFi_let (fun v22 _ => ?_)
        refine zFi_let (fun v23 _ => ?_)
        refine zFi_if (fun _ => ?_) (fun _ => ?_)
        · skip
          refine zFi_let (fun v26 _ => ?_)
          refine zFi_let (fun t27 et27 => ?_)
          have gt27 : zFi A σ t27 := by rw [et27]; exact fi_X11_fail g h0 h1
          exact gt27
        · skip
          refine zFi_let (fun v30 _ => ?_)
          refine zFi_let (fun v31 ev31 => ?_)
          rw [g.rf] at ev31
          subst ev31
          refine zFi_let (fun v32 _ => ?_)
          refine zFi_let (fun v33 _ => ?_)
          refine zFi_let (fun v34 _ => ?_)
          refine zFi_let (fun v35 _ => ?_)
          refine zFi_let (fun t36 et36 => ?_)
          have gt36 : zFi A σ t36 := by rw [et36]; exact fi_X11_emit g h2 h3 h4
          refine zFi_let (fun t40 et40 => ?_)
          have gt40 : zFi A σ t40 := by rw [et40]; exact fi_X11_goesOn gt36 h0 h1 h5
          exact gt40
    · skip
      refine zFi_let (fun v7 _ => ?_)
      refine zFi_let (fun t8 et8 => ?_)
      have gt8 : zFi A σ t8 := by rw [et8]; exact fi_X11_fail g h0 h1
      exact gt8
  · skip
    refine zFi_let (fun v42 _ => ?_)
    refine zFi_let (fun v43 ev43 => ?_)
    rw [g.rf] at ev43
    subst ev43
    refine zFi_let (fun v44 _ => ?_)
    refine zFi_let (fun v45 _ => ?_)
    refine zFi_let (fun t46 et46 => ?_)
    have gt46 : zFi A σ t46 := by rw [et46]; exact fi_X11_emit g h2 h3 h4
    refine zFi_let (fun t49 et49 => ?_)
    have gt49 : zFi A σ t49 := by rw [et49]; exact fi_X11_goesOn gt46 h0 h1 h5
    exact gt49
set_option maxRecDepth 100000 in
theorem fi_X11_comesOut_0 {A : Nat → Nat → Prop} {σ : zS} {a0 : Nat} {p1 : Int32}  (h0 : A a0 44) (h1 : ∀ j, A ((σ.2.2 a0 39).getD 0) j) (h2 : ∀ j, A ((σ.2.2 a0 40).getD 0) j) (h3 : A a0 38) : ∀ (n : Nat) (τ1 : zS), zFi A σ τ1 → zFi A σ (F_X11_comesOut_0 a0 p1 n  τ1) := by
  intro n
  induction n with
  | zero => intro  τ1 g; exact g
  | succ n ih =>
    intro  τ1 g
    rw [F_X11_comesOut_0]
    refine zFi_let (fun v2 _ => ?_)
    refine zFi_if (fun _ => ?_) (fun _ => ?_)
    · skip
      refine zFi_let (fun v4 ev4 => ?_)
      rw [g.rf] at ev4
      subst ev4
      refine zFi_let (fun v5 _ => ?_)
      refine zFi_let (fun v6 _ => ?_)
      refine zFi_let (fun v7 _ => ?_)
      refine zFi_let (fun v8 _ => ?_)
      refine zFi_let (fun v9 _ => ?_)
      refine zFi_if (fun _ => ?_) (fun _ => ?_)
      · skip
        exact g
      · skip
        refine zFi_if (fun _ => ?_) (fun _ => ?_)
        · skip
          refine zFi_let (fun v12 _ => ?_)
          refine zFi_let (fun v13 _ => ?_)
          refine zFi_let (fun v14 _ => ?_)
          refine zFi_let (fun s15 es15 => ?_)
          have gs15 : zFi A σ s15 := by rw [es15]; exact g.w h0
          refine zFi_let (fun v18 _ => ?_)
          refine zFi_if (fun _ => ?_) (fun _ => ?_)
          · skip
            refine zFi_let (fun v39 _ => ?_)
            refine zFi_let (fun v40 _ => ?_)
            refine zFi_let (fun t41 et41 => ?_)
            have gt41 : zFi A σ t41 := by rw [et41]; exact fi_X11_emit gs15 h1 h2 h3
            exact ih _ gt41
          · skip
            refine zFi_let (fun v20 _ => ?_)
            refine zFi_if (fun _ => ?_) (fun _ => ?_)
            · skip
              refine zFi_let (fun v34 _ => ?_)
              refine zFi_let (fun v35 _ => ?_)
              refine zFi_let (fun t36 et36 => ?_)
              have gt36 : zFi A σ t36 := by rw [et36]; exact fi_X11_emit gs15 h1 h2 h3
              exact ih _ gt36
            · skip
              refine zFi_let (fun v22 _ => ?_)
              refine zFi_if (fun _ => ?_) (fun _ => ?_)
              · skip
                refine zFi_let (fun v29 _ => ?_)
                refine zFi_let (fun v30 _ => ?_)
                refine zFi_let (fun t31 et31 => ?_)
                have gt31 : zFi A σ t31 := by rw [et31]; exact fi_X11_emit gs15 h1 h2 h3
                exact ih _ gt31
              · skip
                refine zFi_let (fun v24 _ => ?_)
                refine zFi_let (fun v25 _ => ?_)
                refine zFi_let (fun t26 et26 => ?_)
                have gt26 : zFi A σ t26 := by rw [et26]; exact fi_X11_emit gs15 h1 h2 h3
                exact ih _ gt26
        · skip
          refine zFi_let (fun v44 _ => ?_)
          refine zFi_if (fun _ => ?_) (fun _ => ?_)
          · skip
            exact g
          · skip
            refine zFi_let (fun v46 _ => ?_)
            refine zFi_if (fun _ => ?_) (fun _ => ?_)
            · skip
              exact g
            · skip
              refine zFi_let (fun v48 _ => ?_)
              refine zFi_let (fun v49 _ => ?_)
              refine zFi_let (fun v50 _ => ?_)
              refine zFi_let (fun s51 es51 => ?_)
              have gs51 : zFi A σ s51 := by rw [es51]; exact g.w h0
              refine zFi_let (fun v54 _ => ?_)
              refine zFi_if (fun _ => ?_) (fun _ => ?_)
              · skip
                refine zFi_let (fun v75 _ => ?_)
                refine zFi_let (fun v76 _ => ?_)
                refine zFi_let (fun t77 et77 => ?_)
                have gt77 : zFi A σ t77 := by rw [et77]; exact fi_X11_emit gs51 h1 h2 h3
                exact ih _ gt77
              · skip
                refine zFi_let (fun v56 _ => ?_)
                refine zFi_if (fun _ => ?_) (fun _ => ?_)
                · skip
                  refine zFi_let (fun v70 _ => ?_)
                  refine zFi_let (fun v71 _ => ?_)
                  refine zFi_let (fun t72 et72 => ?_)
                  have gt72 : zFi A σ t72 := by rw [et72]; exact fi_X11_emit gs51 h1 h2 h3
                  exact ih _ gt72
                · skip
                  refine zFi_let (fun v58 _ => ?_)
                  refine zFi_if (fun _ => ?_) (fun _ => ?_)
                  · skip
                    refine zFi_let (fun v65 _ => ?_)
                    refine zFi_let (fun v66 _ => ?_)
                    refine zFi_let (fun t67 et67 => ?_)
                    have gt67 : zFi A σ t67 := by rw [et67]; exact fi_X11_emit gs51 h1 h2 h3
                    exact ih _ gt67
                  · skip
                    refine zFi_let (fun v60 _ => ?_)
                    refine zFi_let (fun v61 _ => ?_)
                    refine zFi_let (fun t62 et62 => ?_)
                    have gt62 : zFi A σ t62 := by rw [et62]; exact fi_X11_emit gs51 h1 h2 h3
                    exact ih _ gt62
    · skip
      exact g
set_option maxRecDepth 100000 in
theorem fi_X11_comesOut {A : Nat → Nat → Prop} {σ σ0 : zS} {a0 : Nat} {p1 : Int32}  (g : zFi A σ σ0) (h0 : A a0 44) (h1 : ∀ j, A ((σ.2.2 a0 39).getD 0) j) (h2 : ∀ j, A ((σ.2.2 a0 40).getD 0) j) (h3 : A a0 38) : zFi A σ (F_X11_comesOut a0 p1 σ0) := by
  unfold F_X11_comesOut
  exact fi_X11_comesOut_0  h0 h1 h2 h3 _ _ g
set_option maxRecDepth 100000 in
theorem fi_X11_expression_96 {A : Nat → Nat → Prop} {σ : zS} {x7 : Int32} {v5 : Int32} {a0 : Nat} {kLp8 : Int32 → zS → zS} {kLp12 : zS → zS} (ckLp8 : ∀ (y0 : Int32) (s : zS), zFi A σ s → zFi A σ (kLp8 y0 s)) (ckLp12 : ∀ (s : zS), zFi A σ s → zFi A σ (kLp12  s)) (h0 : A a0 13) (h1 : A a0 14) (h2 : A a0 44) (h3 : ∀ j, A ((σ.2.2 a0 39).getD 0) j) (h4 : ∀ j, A ((σ.2.2 a0 40).getD 0) j) (h5 : A a0 38) (h6 : ∀ j, A ((σ.2.2 a0 43).getD 0) j) (h7 : A a0 11) (h8 : A a0 12) : ∀ (n : Nat) (τ21 : zS), zFi A σ τ21 → zFi A σ (F_X11_expression_96 x7 v5 a0 kLp8 kLp12 n  τ21) := by
  intro n
  induction n with
  | zero => intro  τ21 g; exact g
  | succ n ih =>
    intro  τ21 g
    rw [F_X11_expression_96]
    refine zFi_let (fun v22 _ => ?_)
    refine zFi_let (fun v24 _ => ?_)
    refine zFi_if (fun _ => ?_) (fun _ => ?_)
    · skip
      refine zFi_let (fun v26 _ => ?_)
      refine zFi_let (fun v28 _ => ?_)
      refine zFi_if (fun _ => ?_) (fun _ => ?_)
      · skip
        refine zFi_let (fun v106 _ => ?_)
        refine zFi_let (fun v108 _ => ?_)
        refine zFi_if (fun _ => ?_) (fun _ => ?_)
        · skip
          refine zFi_let (fun v186 _ => ?_)
          refine zFi_let (fun v188 _ => ?_)
          refine zFi_if (fun _ => ?_) (fun _ => ?_)
          · skip
            refine zFi_let (fun v266 _ => ?_)
            refine zFi_let (fun v268 _ => ?_)
            refine zFi_if (fun _ => ?_) (fun _ => ?_)
            · skip
              refine zFi_let (fun v270 _ => ?_)
              refine zFi_if (fun _ => ?_) (fun _ => ?_)
              · skip
                refine zFi_let (fun v272 _ => ?_)
                refine zFi_if (fun _ => ?_) (fun _ => ?_)
                · skip
                  refine zFi_let (fun v278 _ => ?_)
                  refine zFi_let (fun t279 et279 => ?_)
                  have gt279 : zFi A σ t279 := by rw [et279]; exact fi_X11_fail g h0 h1
                  refine zFi_let (fun v282 _ => ?_)
                  refine zFi_let (fun t283 et283 => ?_)
                  have gt283 : zFi A σ t283 := by rw [et283]; exact fi_X11_comesOut gt279 h2 h3 h4 h5
                  exact gt283
                · skip
                  refine zFi_let (fun v274 _ => ?_)
                  refine zFi_let (fun t275 et275 => ?_)
                  have gt275 : zFi A σ t275 := by rw [et275]; exact fi_X11_comesOut g h2 h3 h4 h5
                  exact gt275
              · skip
                exact g
            · skip
              refine zFi_let (fun v286 _ => ?_)
              refine zFi_if (fun _ => ?_) (fun _ => ?_)
              · skip
                exact g
              · skip
                refine zFi_let (fun v288 _ => ?_)
                refine zFi_let (fun v290 _ => ?_)
                refine zFi_if (fun _ => ?_) (fun _ => ?_)
                · skip
                  refine zFi_let (fun v314 _ => ?_)
                  refine zFi_let (fun v316 _ => ?_)
                  refine zFi_if (fun _ => ?_) (fun _ => ?_)
                  · skip
                    refine zFi_let (fun v318 _ => ?_)
                    refine zFi_let (fun t319 et319 => ?_)
                    have gt319 : zFi A σ t319 := by rw [et319]; exact fi_X11_comesOut g h2 h3 h4 h5
                    refine zFi_let (fun v321 ev321 => ?_)
                    rw [gt319.rf] at ev321
                    subst ev321
                    refine zFi_let (fun v322 _ => ?_)
                    refine zFi_let (fun v323 ev323 => ?_)
                    rw [gt319.rf] at ev323
                    subst ev323
                    refine zFi_let (fun v324 _ => ?_)
                    refine zFi_let (fun v325 _ => ?_)
                    refine zFi_let (fun s326 es326 => ?_)
                    have gs326 : zFi A σ s326 := by rw [es326]; exact gt319.w (h6 _)
                    refine zFi_let (fun v330 _ => ?_)
                    refine zFi_let (fun v331 _ => ?_)
                    refine zFi_let (fun v332 _ => ?_)
                    refine zFi_let (fun s333 es333 => ?_)
                    have gs333 : zFi A σ s333 := by rw [es333]; exact gs326.w h2
                    refine zFi_let (fun t337 et337 => ?_)
                    have gt337 : zFi A σ t337 := by rw [et337]; exact fi_X11_goesOn gs333 h0 h1 h7
                    exact ckLp8 _ _ gt337
                  · skip
                    refine zFi_let (fun v340 _ => ?_)
                    refine zFi_let (fun t341 et341 => ?_)
                    have gt341 : zFi A σ t341 := by rw [et341]; exact fi_X11_comesOut g h2 h3 h4 h5
                    refine zFi_let (fun v343 ev343 => ?_)
                    rw [gt341.rf] at ev343
                    subst ev343
                    refine zFi_let (fun v344 _ => ?_)
                    refine zFi_let (fun v345 ev345 => ?_)
                    rw [gt341.rf] at ev345
                    subst ev345
                    refine zFi_let (fun v346 _ => ?_)
                    refine zFi_let (fun v347 _ => ?_)
                    refine zFi_let (fun s348 es348 => ?_)
                    have gs348 : zFi A σ s348 := by rw [es348]; exact gt341.w (h6 _)
                    refine zFi_let (fun v352 _ => ?_)
                    refine zFi_let (fun v353 _ => ?_)
                    refine zFi_let (fun v354 _ => ?_)
                    refine zFi_let (fun s355 es355 => ?_)
                    have gs355 : zFi A σ s355 := by rw [es355]; exact gs348.w h2
                    refine zFi_let (fun t359 et359 => ?_)
                    have gt359 : zFi A σ t359 := by rw [et359]; exact fi_X11_goesOn gs355 h0 h1 h7
                    exact ckLp8 _ _ gt359
                · skip
                  refine zFi_let (fun v292 _ => ?_)
                  refine zFi_let (fun t293 et293 => ?_)
                  have gt293 : zFi A σ t293 := by rw [et293]; exact fi_X11_comesOut g h2 h3 h4 h5
                  refine zFi_let (fun v295 ev295 => ?_)
                  rw [gt293.rf] at ev295
                  subst ev295
                  refine zFi_let (fun v296 _ => ?_)
                  refine zFi_let (fun v297 ev297 => ?_)
                  rw [gt293.rf] at ev297
                  subst ev297
                  refine zFi_let (fun v298 _ => ?_)
                  refine zFi_let (fun v299 _ => ?_)
                  refine zFi_let (fun s300 es300 => ?_)
                  have gs300 : zFi A σ s300 := by rw [es300]; exact gt293.w (h6 _)
                  refine zFi_let (fun v304 _ => ?_)
                  refine zFi_let (fun v305 _ => ?_)
                  refine zFi_let (fun v306 _ => ?_)
                  refine zFi_let (fun s307 es307 => ?_)
                  have gs307 : zFi A σ s307 := by rw [es307]; exact gs300.w h2
                  refine zFi_let (fun t311 et311 => ?_)
                  have gt311 : zFi A σ t311 := by rw [et311]; exact fi_X11_goesOn gs307 h0 h1 h7
                  exact ckLp8 _ _ gt311
          · skip
            refine zFi_let (fun v190 _ => ?_)
            refine zFi_if (fun _ => ?_) (fun _ => ?_)
            · skip
              exact g
            · skip
              refine zFi_let (fun v192 _ => ?_)
              refine zFi_let (fun v194 _ => ?_)
              refine zFi_if (fun _ => ?_) (fun _ => ?_)
              · skip
                refine zFi_let (fun v218 _ => ?_)
                refine zFi_let (fun v220 _ => ?_)
                refine zFi_if (fun _ => ?_) (fun _ => ?_)
                · skip
                  refine zFi_let (fun v222 _ => ?_)
                  refine zFi_let (fun t223 et223 => ?_)
                  have gt223 : zFi A σ t223 := by rw [et223]; exact fi_X11_comesOut g h2 h3 h4 h5
                  refine zFi_let (fun v225 ev225 => ?_)
                  rw [gt223.rf] at ev225
                  subst ev225
                  refine zFi_let (fun v226 _ => ?_)
                  refine zFi_let (fun v227 ev227 => ?_)
                  rw [gt223.rf] at ev227
                  subst ev227
                  refine zFi_let (fun v228 _ => ?_)
                  refine zFi_let (fun v229 _ => ?_)
                  refine zFi_let (fun s230 es230 => ?_)
                  have gs230 : zFi A σ s230 := by rw [es230]; exact gt223.w (h6 _)
                  refine zFi_let (fun v234 _ => ?_)
                  refine zFi_let (fun v235 _ => ?_)
                  refine zFi_let (fun v236 _ => ?_)
                  refine zFi_let (fun s237 es237 => ?_)
                  have gs237 : zFi A σ s237 := by rw [es237]; exact gs230.w h2
                  refine zFi_let (fun t241 et241 => ?_)
                  have gt241 : zFi A σ t241 := by rw [et241]; exact fi_X11_goesOn gs237 h0 h1 h7
                  exact ckLp8 _ _ gt241
                · skip
                  refine zFi_let (fun v244 _ => ?_)
                  refine zFi_let (fun t245 et245 => ?_)
                  have gt245 : zFi A σ t245 := by rw [et245]; exact fi_X11_comesOut g h2 h3 h4 h5
                  refine zFi_let (fun v247 ev247 => ?_)
                  rw [gt245.rf] at ev247
                  subst ev247
                  refine zFi_let (fun v248 _ => ?_)
                  refine zFi_let (fun v249 ev249 => ?_)
                  rw [gt245.rf] at ev249
                  subst ev249
                  refine zFi_let (fun v250 _ => ?_)
                  refine zFi_let (fun v251 _ => ?_)
                  refine zFi_let (fun s252 es252 => ?_)
                  have gs252 : zFi A σ s252 := by rw [es252]; exact gt245.w (h6 _)
                  refine zFi_let (fun v256 _ => ?_)
                  refine zFi_let (fun v257 _ => ?_)
                  refine zFi_let (fun v258 _ => ?_)
                  refine zFi_let (fun s259 es259 => ?_)
                  have gs259 : zFi A σ s259 := by rw [es259]; exact gs252.w h2
                  refine zFi_let (fun t263 et263 => ?_)
                  have gt263 : zFi A σ t263 := by rw [et263]; exact fi_X11_goesOn gs259 h0 h1 h7
                  exact ckLp8 _ _ gt263
              · skip
                refine zFi_let (fun v196 _ => ?_)
                refine zFi_let (fun t197 et197 => ?_)
                have gt197 : zFi A σ t197 := by rw [et197]; exact fi_X11_comesOut g h2 h3 h4 h5
                refine zFi_let (fun v199 ev199 => ?_)
                rw [gt197.rf] at ev199
                subst ev199
                refine zFi_let (fun v200 _ => ?_)
                refine zFi_let (fun v201 ev201 => ?_)
                rw [gt197.rf] at ev201
                subst ev201
                refine zFi_let (fun v202 _ => ?_)
                refine zFi_let (fun v203 _ => ?_)
                refine zFi_let (fun s204 es204 => ?_)
                have gs204 : zFi A σ s204 := by rw [es204]; exact gt197.w (h6 _)
                refine zFi_let (fun v208 _ => ?_)
                refine zFi_let (fun v209 _ => ?_)
                refine zFi_let (fun v210 _ => ?_)
                refine zFi_let (fun s211 es211 => ?_)
                have gs211 : zFi A σ s211 := by rw [es211]; exact gs204.w h2
                refine zFi_let (fun t215 et215 => ?_)
                have gt215 : zFi A σ t215 := by rw [et215]; exact fi_X11_goesOn gs211 h0 h1 h7
                exact ckLp8 _ _ gt215
        · skip
          refine zFi_let (fun v110 _ => ?_)
          refine zFi_if (fun _ => ?_) (fun _ => ?_)
          · skip
            exact g
          · skip
            refine zFi_let (fun v112 _ => ?_)
            refine zFi_let (fun v114 _ => ?_)
            refine zFi_if (fun _ => ?_) (fun _ => ?_)
            · skip
              refine zFi_let (fun v138 _ => ?_)
              refine zFi_let (fun v140 _ => ?_)
              refine zFi_if (fun _ => ?_) (fun _ => ?_)
              · skip
                refine zFi_let (fun v142 _ => ?_)
                refine zFi_let (fun t143 et143 => ?_)
                have gt143 : zFi A σ t143 := by rw [et143]; exact fi_X11_comesOut g h2 h3 h4 h5
                refine zFi_let (fun v145 ev145 => ?_)
                rw [gt143.rf] at ev145
                subst ev145
                refine zFi_let (fun v146 _ => ?_)
                refine zFi_let (fun v147 ev147 => ?_)
                rw [gt143.rf] at ev147
                subst ev147
                refine zFi_let (fun v148 _ => ?_)
                refine zFi_let (fun v149 _ => ?_)
                refine zFi_let (fun s150 es150 => ?_)
                have gs150 : zFi A σ s150 := by rw [es150]; exact gt143.w (h6 _)
                refine zFi_let (fun v154 _ => ?_)
                refine zFi_let (fun v155 _ => ?_)
                refine zFi_let (fun v156 _ => ?_)
                refine zFi_let (fun s157 es157 => ?_)
                have gs157 : zFi A σ s157 := by rw [es157]; exact gs150.w h2
                refine zFi_let (fun t161 et161 => ?_)
                have gt161 : zFi A σ t161 := by rw [et161]; exact fi_X11_goesOn gs157 h0 h1 h7
                exact ckLp8 _ _ gt161
              · skip
                refine zFi_let (fun v164 _ => ?_)
                refine zFi_let (fun t165 et165 => ?_)
                have gt165 : zFi A σ t165 := by rw [et165]; exact fi_X11_comesOut g h2 h3 h4 h5
                refine zFi_let (fun v167 ev167 => ?_)
                rw [gt165.rf] at ev167
                subst ev167
                refine zFi_let (fun v168 _ => ?_)
                refine zFi_let (fun v169 ev169 => ?_)
                rw [gt165.rf] at ev169
                subst ev169
                refine zFi_let (fun v170 _ => ?_)
                refine zFi_let (fun v171 _ => ?_)
                refine zFi_let (fun s172 es172 => ?_)
                have gs172 : zFi A σ s172 := by rw [es172]; exact gt165.w (h6 _)
                refine zFi_let (fun v176 _ => ?_)
                refine zFi_let (fun v177 _ => ?_)
                refine zFi_let (fun v178 _ => ?_)
                refine zFi_let (fun s179 es179 => ?_)
                have gs179 : zFi A σ s179 := by rw [es179]; exact gs172.w h2
                refine zFi_let (fun t183 et183 => ?_)
                have gt183 : zFi A σ t183 := by rw [et183]; exact fi_X11_goesOn gs179 h0 h1 h7
                exact ckLp8 _ _ gt183
            · skip
              refine zFi_let (fun v116 _ => ?_)
              refine zFi_let (fun t117 et117 => ?_)
              have gt117 : zFi A σ t117 := by rw [et117]; exact fi_X11_comesOut g h2 h3 h4 h5
              refine zFi_let (fun v119 ev119 => ?_)
              rw [gt117.rf] at ev119
              subst ev119
              refine zFi_let (fun v120 _ => ?_)
              refine zFi_let (fun v121 ev121 => ?_)
              rw [gt117.rf] at ev121
              subst ev121
              refine zFi_let (fun v122 _ => ?_)
              refine zFi_let (fun v123 _ => ?_)
              refine zFi_let (fun s124 es124 => ?_)
              have gs124 : zFi A σ s124 := by rw [es124]; exact gt117.w (h6 _)
              refine zFi_let (fun v128 _ => ?_)
              refine zFi_let (fun v129 _ => ?_)
              refine zFi_let (fun v130 _ => ?_)
              refine zFi_let (fun s131 es131 => ?_)
              have gs131 : zFi A σ s131 := by rw [es131]; exact gs124.w h2
              refine zFi_let (fun t135 et135 => ?_)
              have gt135 : zFi A σ t135 := by rw [et135]; exact fi_X11_goesOn gs131 h0 h1 h7
              exact ckLp8 _ _ gt135
      · skip
        refine zFi_let (fun v30 _ => ?_)
        refine zFi_if (fun _ => ?_) (fun _ => ?_)
        · skip
          exact g
        · skip
          refine zFi_let (fun v32 _ => ?_)
          refine zFi_let (fun v34 _ => ?_)
          refine zFi_if (fun _ => ?_) (fun _ => ?_)
          · skip
            refine zFi_let (fun v58 _ => ?_)
            refine zFi_let (fun v60 _ => ?_)
            refine zFi_if (fun _ => ?_) (fun _ => ?_)
            · skip
              refine zFi_let (fun v62 _ => ?_)
              refine zFi_let (fun t63 et63 => ?_)
              have gt63 : zFi A σ t63 := by rw [et63]; exact fi_X11_comesOut g h2 h3 h4 h5
              refine zFi_let (fun v65 ev65 => ?_)
              rw [gt63.rf] at ev65
              subst ev65
              refine zFi_let (fun v66 _ => ?_)
              refine zFi_let (fun v67 ev67 => ?_)
              rw [gt63.rf] at ev67
              subst ev67
              refine zFi_let (fun v68 _ => ?_)
              refine zFi_let (fun v69 _ => ?_)
              refine zFi_let (fun s70 es70 => ?_)
              have gs70 : zFi A σ s70 := by rw [es70]; exact gt63.w (h6 _)
              refine zFi_let (fun v74 _ => ?_)
              refine zFi_let (fun v75 _ => ?_)
              refine zFi_let (fun v76 _ => ?_)
              refine zFi_let (fun s77 es77 => ?_)
              have gs77 : zFi A σ s77 := by rw [es77]; exact gs70.w h2
              refine zFi_let (fun t81 et81 => ?_)
              have gt81 : zFi A σ t81 := by rw [et81]; exact fi_X11_goesOn gs77 h0 h1 h7
              exact ckLp8 _ _ gt81
            · skip
              refine zFi_let (fun v84 _ => ?_)
              refine zFi_let (fun t85 et85 => ?_)
              have gt85 : zFi A σ t85 := by rw [et85]; exact fi_X11_comesOut g h2 h3 h4 h5
              refine zFi_let (fun v87 ev87 => ?_)
              rw [gt85.rf] at ev87
              subst ev87
              refine zFi_let (fun v88 _ => ?_)
              refine zFi_let (fun v89 ev89 => ?_)
              rw [gt85.rf] at ev89
              subst ev89
              refine zFi_let (fun v90 _ => ?_)
              refine zFi_let (fun v91 _ => ?_)
              refine zFi_let (fun s92 es92 => ?_)
              have gs92 : zFi A σ s92 := by rw [es92]; exact gt85.w (h6 _)
              refine zFi_let (fun v96 _ => ?_)
              refine zFi_let (fun v97 _ => ?_)
              refine zFi_let (fun v98 _ => ?_)
              refine zFi_let (fun s99 es99 => ?_)
              have gs99 : zFi A σ s99 := by rw [es99]; exact gs92.w h2
              refine zFi_let (fun t103 et103 => ?_)
              have gt103 : zFi A σ t103 := by rw [et103]; exact fi_X11_goesOn gs99 h0 h1 h7
              exact ckLp8 _ _ gt103
          · skip
            refine zFi_let (fun v36 _ => ?_)
            refine zFi_let (fun t37 et37 => ?_)
            have gt37 : zFi A σ t37 := by rw [et37]; exact fi_X11_comesOut g h2 h3 h4 h5
            refine zFi_let (fun v39 ev39 => ?_)
            rw [gt37.rf] at ev39
            subst ev39
            refine zFi_let (fun v40 _ => ?_)
            refine zFi_let (fun v41 ev41 => ?_)
            rw [gt37.rf] at ev41
            subst ev41
            refine zFi_let (fun v42 _ => ?_)
            refine zFi_let (fun v43 _ => ?_)
            refine zFi_let (fun s44 es44 => ?_)
            have gs44 : zFi A σ s44 := by rw [es44]; exact gt37.w (h6 _)
            refine zFi_let (fun v48 _ => ?_)
            refine zFi_let (fun v49 _ => ?_)
            refine zFi_let (fun v50 _ => ?_)
            refine zFi_let (fun s51 es51 => ?_)
            have gs51 : zFi A σ s51 := by rw [es51]; exact gs44.w h2
            refine zFi_let (fun t55 et55 => ?_)
            have gt55 : zFi A σ t55 := by rw [et55]; exact fi_X11_goesOn gs51 h0 h1 h7
            exact ckLp8 _ _ gt55
    · skip
      refine zFi_let (fun v362 _ => ?_)
      refine zFi_if (fun _ => ?_) (fun _ => ?_)
      · skip
        refine zFi_let (fun v748 _ => ?_)
        refine zFi_let (fun t749 et749 => ?_)
        have gt749 : zFi A σ t749 := by rw [et749]; exact fi_X11_comesOut g h2 h3 h4 h5
        refine zFi_let (fun v752 _ => ?_)
        refine zFi_let (fun v753 _ => ?_)
        refine zFi_let (fun v754 _ => ?_)
        refine zFi_let (fun s755 es755 => ?_)
        have gs755 : zFi A σ s755 := by rw [es755]; exact gt749.w h2
        refine zFi_let (fun v759 _ => ?_)
        refine zFi_let (fun v760 _ => ?_)
        refine zFi_let (fun v761 _ => ?_)
        refine zFi_let (fun s762 es762 => ?_)
        have gs762 : zFi A σ s762 := by rw [es762]; exact gs755.w h8
        refine zFi_let (fun t766 et766 => ?_)
        have gt766 : zFi A σ t766 := by rw [et766]; exact fi_X11_goesOn gs762 h0 h1 h7
        exact ih _ gt766
      · skip
        refine zFi_let (fun v364 _ => ?_)
        refine zFi_let (fun v366 _ => ?_)
        refine zFi_if (fun _ => ?_) (fun _ => ?_)
        · skip
          refine zFi_let (fun v456 _ => ?_)
          refine zFi_let (fun v458 _ => ?_)
          refine zFi_if (fun _ => ?_) (fun _ => ?_)
          · skip
            refine zFi_let (fun v548 _ => ?_)
            refine zFi_let (fun v550 _ => ?_)
            refine zFi_if (fun _ => ?_) (fun _ => ?_)
            · skip
              refine zFi_let (fun v640 _ => ?_)
              refine zFi_let (fun v642 _ => ?_)
              refine zFi_if (fun _ => ?_) (fun _ => ?_)
              · skip
                refine zFi_let (fun v644 _ => ?_)
                refine zFi_if (fun _ => ?_) (fun _ => ?_)
                · skip
                  refine zFi_let (fun v646 _ => ?_)
                  refine zFi_if (fun _ => ?_) (fun _ => ?_)
                  · skip
                    refine zFi_let (fun v652 _ => ?_)
                    refine zFi_let (fun t653 et653 => ?_)
                    have gt653 : zFi A σ t653 := by rw [et653]; exact fi_X11_fail g h0 h1
                    refine zFi_let (fun v656 _ => ?_)
                    refine zFi_let (fun t657 et657 => ?_)
                    have gt657 : zFi A σ t657 := by rw [et657]; exact fi_X11_comesOut gt653 h2 h3 h4 h5
                    exact gt657
                  · skip
                    refine zFi_let (fun v648 _ => ?_)
                    refine zFi_let (fun t649 et649 => ?_)
                    have gt649 : zFi A σ t649 := by rw [et649]; exact fi_X11_comesOut g h2 h3 h4 h5
                    exact gt649
                · skip
                  exact g
              · skip
                refine zFi_let (fun v660 _ => ?_)
                refine zFi_if (fun _ => ?_) (fun _ => ?_)
                · skip
                  exact g
                · skip
                  refine zFi_let (fun v662 _ => ?_)
                  refine zFi_let (fun v664 _ => ?_)
                  refine zFi_if (fun _ => ?_) (fun _ => ?_)
                  · skip
                    refine zFi_let (fun v692 _ => ?_)
                    refine zFi_let (fun v694 _ => ?_)
                    refine zFi_if (fun _ => ?_) (fun _ => ?_)
                    · skip
                      refine zFi_let (fun v696 _ => ?_)
                      refine zFi_let (fun t697 et697 => ?_)
                      have gt697 : zFi A σ t697 := by rw [et697]; exact fi_X11_comesOut g h2 h3 h4 h5
                      refine zFi_let (fun v700 ev700 => ?_)
                      rw [gt697.rf] at ev700
                      subst ev700
                      refine zFi_let (fun v701 _ => ?_)
                      refine zFi_let (fun v702 ev702 => ?_)
                      rw [gt697.rf] at ev702
                      subst ev702
                      refine zFi_let (fun v703 _ => ?_)
                      refine zFi_let (fun v704 _ => ?_)
                      refine zFi_let (fun s705 es705 => ?_)
                      have gs705 : zFi A σ s705 := by rw [es705]; exact gt697.w (h6 _)
                      refine zFi_let (fun v710 _ => ?_)
                      refine zFi_let (fun v711 _ => ?_)
                      refine zFi_let (fun v712 _ => ?_)
                      refine zFi_let (fun s713 es713 => ?_)
                      have gs713 : zFi A σ s713 := by rw [es713]; exact gs705.w h2
                      refine zFi_let (fun t718 et718 => ?_)
                      have gt718 : zFi A σ t718 := by rw [et718]; exact fi_X11_goesOn gs713 h0 h1 h7
                      exact ckLp8 _ _ gt718
                    · skip
                      refine zFi_let (fun v722 _ => ?_)
                      refine zFi_let (fun t723 et723 => ?_)
                      have gt723 : zFi A σ t723 := by rw [et723]; exact fi_X11_comesOut g h2 h3 h4 h5
                      refine zFi_let (fun v726 ev726 => ?_)
                      rw [gt723.rf] at ev726
                      subst ev726
                      refine zFi_let (fun v727 _ => ?_)
                      refine zFi_let (fun v728 ev728 => ?_)
                      rw [gt723.rf] at ev728
                      subst ev728
                      refine zFi_let (fun v729 _ => ?_)
                      refine zFi_let (fun v730 _ => ?_)
                      refine zFi_let (fun s731 es731 => ?_)
                      have gs731 : zFi A σ s731 := by rw [es731]; exact gt723.w (h6 _)
                      refine zFi_let (fun v736 _ => ?_)
                      refine zFi_let (fun v737 _ => ?_)
                      refine zFi_let (fun v738 _ => ?_)
                      refine zFi_let (fun s739 es739 => ?_)
                      have gs739 : zFi A σ s739 := by rw [es739]; exact gs731.w h2
                      refine zFi_let (fun t744 et744 => ?_)
                      have gt744 : zFi A σ t744 := by rw [et744]; exact fi_X11_goesOn gs739 h0 h1 h7
                      exact ckLp8 _ _ gt744
                  · skip
                    refine zFi_let (fun v666 _ => ?_)
                    refine zFi_let (fun t667 et667 => ?_)
                    have gt667 : zFi A σ t667 := by rw [et667]; exact fi_X11_comesOut g h2 h3 h4 h5
                    refine zFi_let (fun v670 ev670 => ?_)
                    rw [gt667.rf] at ev670
                    subst ev670
                    refine zFi_let (fun v671 _ => ?_)
                    refine zFi_let (fun v672 ev672 => ?_)
                    rw [gt667.rf] at ev672
                    subst ev672
                    refine zFi_let (fun v673 _ => ?_)
                    refine zFi_let (fun v674 _ => ?_)
                    refine zFi_let (fun s675 es675 => ?_)
                    have gs675 : zFi A σ s675 := by rw [es675]; exact gt667.w (h6 _)
                    refine zFi_let (fun v680 _ => ?_)
                    refine zFi_let (fun v681 _ => ?_)
                    refine zFi_let (fun v682 _ => ?_)
                    refine zFi_let (fun s683 es683 => ?_)
                    have gs683 : zFi A σ s683 := by rw [es683]; exact gs675.w h2
                    refine zFi_let (fun t688 et688 => ?_)
                    have gt688 : zFi A σ t688 := by rw [et688]; exact fi_X11_goesOn gs683 h0 h1 h7
                    exact ckLp8 _ _ gt688
            · skip
              refine zFi_let (fun v552 _ => ?_)
              refine zFi_if (fun _ => ?_) (fun _ => ?_)
              · skip
                exact g
              · skip
                refine zFi_let (fun v554 _ => ?_)
                refine zFi_let (fun v556 _ => ?_)
                refine zFi_if (fun _ => ?_) (fun _ => ?_)
                · skip
                  refine zFi_let (fun v584 _ => ?_)
                  refine zFi_let (fun v586 _ => ?_)
                  refine zFi_if (fun _ => ?_) (fun _ => ?_)
                  · skip
                    refine zFi_let (fun v588 _ => ?_)
                    refine zFi_let (fun t589 et589 => ?_)
                    have gt589 : zFi A σ t589 := by rw [et589]; exact fi_X11_comesOut g h2 h3 h4 h5
                    refine zFi_let (fun v592 ev592 => ?_)
                    rw [gt589.rf] at ev592
                    subst ev592
                    refine zFi_let (fun v593 _ => ?_)
                    refine zFi_let (fun v594 ev594 => ?_)
                    rw [gt589.rf] at ev594
                    subst ev594
                    refine zFi_let (fun v595 _ => ?_)
                    refine zFi_let (fun v596 _ => ?_)
                    refine zFi_let (fun s597 es597 => ?_)
                    have gs597 : zFi A σ s597 := by rw [es597]; exact gt589.w (h6 _)
                    refine zFi_let (fun v602 _ => ?_)
                    refine zFi_let (fun v603 _ => ?_)
                    refine zFi_let (fun v604 _ => ?_)
                    refine zFi_let (fun s605 es605 => ?_)
                    have gs605 : zFi A σ s605 := by rw [es605]; exact gs597.w h2
                    refine zFi_let (fun t610 et610 => ?_)
                    have gt610 : zFi A σ t610 := by rw [et610]; exact fi_X11_goesOn gs605 h0 h1 h7
                    exact ckLp8 _ _ gt610
                  · skip
                    refine zFi_let (fun v614 _ => ?_)
                    refine zFi_let (fun t615 et615 => ?_)
                    have gt615 : zFi A σ t615 := by rw [et615]; exact fi_X11_comesOut g h2 h3 h4 h5
                    refine zFi_let (fun v618 ev618 => ?_)
                    rw [gt615.rf] at ev618
                    subst ev618
                    refine zFi_let (fun v619 _ => ?_)
                    refine zFi_let (fun v620 ev620 => ?_)
                    rw [gt615.rf] at ev620
                    subst ev620
                    refine zFi_let (fun v621 _ => ?_)
                    refine zFi_let (fun v622 _ => ?_)
                    refine zFi_let (fun s623 es623 => ?_)
                    have gs623 : zFi A σ s623 := by rw [es623]; exact gt615.w (h6 _)
                    refine zFi_let (fun v628 _ => ?_)
                    refine zFi_let (fun v629 _ => ?_)
                    refine zFi_let (fun v630 _ => ?_)
                    refine zFi_let (fun s631 es631 => ?_)
                    have gs631 : zFi A σ s631 := by rw [es631]; exact gs623.w h2
                    refine zFi_let (fun t636 et636 => ?_)
                    have gt636 : zFi A σ t636 := by rw [et636]; exact fi_X11_goesOn gs631 h0 h1 h7
                    exact ckLp8 _ _ gt636
                · skip
                  refine zFi_let (fun v558 _ => ?_)
                  refine zFi_let (fun t559 et559 => ?_)
                  have gt559 : zFi A σ t559 := by rw [et559]; exact fi_X11_comesOut g h2 h3 h4 h5
                  refine zFi_let (fun v562 ev562 => ?_)
                  rw [gt559.rf] at ev562
                  subst ev562
                  refine zFi_let (fun v563 _ => ?_)
                  refine zFi_let (fun v564 ev564 => ?_)
                  rw [gt559.rf] at ev564
                  subst ev564
                  refine zFi_let (fun v565 _ => ?_)
                  refine zFi_let (fun v566 _ => ?_)
                  refine zFi_let (fun s567 es567 => ?_)
                  have gs567 : zFi A σ s567 := by rw [es567]; exact gt559.w (h6 _)
                  refine zFi_let (fun v572 _ => ?_)
                  refine zFi_let (fun v573 _ => ?_)
                  refine zFi_let (fun v574 _ => ?_)
                  refine zFi_let (fun s575 es575 => ?_)
                  have gs575 : zFi A σ s575 := by rw [es575]; exact gs567.w h2
                  refine zFi_let (fun t580 et580 => ?_)
                  have gt580 : zFi A σ t580 := by rw [et580]; exact fi_X11_goesOn gs575 h0 h1 h7
                  exact ckLp8 _ _ gt580
          · skip
            refine zFi_let (fun v460 _ => ?_)
            refine zFi_if (fun _ => ?_) (fun _ => ?_)
            · skip
              exact g
            · skip
              refine zFi_let (fun v462 _ => ?_)
              refine zFi_let (fun v464 _ => ?_)
              refine zFi_if (fun _ => ?_) (fun _ => ?_)
              · skip
                refine zFi_let (fun v492 _ => ?_)
                refine zFi_let (fun v494 _ => ?_)
                refine zFi_if (fun _ => ?_) (fun _ => ?_)
                · skip
                  refine zFi_let (fun v496 _ => ?_)
                  refine zFi_let (fun t497 et497 => ?_)
                  have gt497 : zFi A σ t497 := by rw [et497]; exact fi_X11_comesOut g h2 h3 h4 h5
                  refine zFi_let (fun v500 ev500 => ?_)
                  rw [gt497.rf] at ev500
                  subst ev500
                  refine zFi_let (fun v501 _ => ?_)
                  refine zFi_let (fun v502 ev502 => ?_)
                  rw [gt497.rf] at ev502
                  subst ev502
                  refine zFi_let (fun v503 _ => ?_)
                  refine zFi_let (fun v504 _ => ?_)
                  refine zFi_let (fun s505 es505 => ?_)
                  have gs505 : zFi A σ s505 := by rw [es505]; exact gt497.w (h6 _)
                  refine zFi_let (fun v510 _ => ?_)
                  refine zFi_let (fun v511 _ => ?_)
                  refine zFi_let (fun v512 _ => ?_)
                  refine zFi_let (fun s513 es513 => ?_)
                  have gs513 : zFi A σ s513 := by rw [es513]; exact gs505.w h2
                  refine zFi_let (fun t518 et518 => ?_)
                  have gt518 : zFi A σ t518 := by rw [et518]; exact fi_X11_goesOn gs513 h0 h1 h7
                  exact ckLp8 _ _ gt518
                · skip
                  refine zFi_let (fun v522 _ => ?_)
                  refine zFi_let (fun t523 et523 => ?_)
                  have gt523 : zFi A σ t523 := by rw [et523]; exact fi_X11_comesOut g h2 h3 h4 h5
                  refine zFi_let (fun v526 ev526 => ?_)
                  rw [gt523.rf] at ev526
                  subst ev526
                  refine zFi_let (fun v527 _ => ?_)
                  refine zFi_let (fun v528 ev528 => ?_)
                  rw [gt523.rf] at ev528
                  subst ev528
                  refine zFi_let (fun v529 _ => ?_)
                  refine zFi_let (fun v530 _ => ?_)
                  refine zFi_let (fun s531 es531 => ?_)
                  have gs531 : zFi A σ s531 := by rw [es531]; exact gt523.w (h6 _)
                  refine zFi_let (fun v536 _ => ?_)
                  refine zFi_let (fun v537 _ => ?_)
                  refine zFi_let (fun v538 _ => ?_)
                  refine zFi_let (fun s539 es539 => ?_)
                  have gs539 : zFi A σ s539 := by rw [es539]; exact gs531.w h2
                  refine zFi_let (fun t544 et544 => ?_)
                  have gt544 : zFi A σ t544 := by rw [et544]; exact fi_X11_goesOn gs539 h0 h1 h7
                  exact ckLp8 _ _ gt544
              · skip
                refine zFi_let (fun v466 _ => ?_)
                refine zFi_let (fun t467 et467 => ?_)
                have gt467 : zFi A σ t467 := by rw [et467]; exact fi_X11_comesOut g h2 h3 h4 h5
                refine zFi_let (fun v470 ev470 => ?_)
                rw [gt467.rf] at ev470
                subst ev470
                refine zFi_let (fun v471 _ => ?_)
                refine zFi_let (fun v472 ev472 => ?_)
                rw [gt467.rf] at ev472
                subst ev472
                refine zFi_let (fun v473 _ => ?_)
                refine zFi_let (fun v474 _ => ?_)
                refine zFi_let (fun s475 es475 => ?_)
                have gs475 : zFi A σ s475 := by rw [es475]; exact gt467.w (h6 _)
                refine zFi_let (fun v480 _ => ?_)
                refine zFi_let (fun v481 _ => ?_)
                refine zFi_let (fun v482 _ => ?_)
                refine zFi_let (fun s483 es483 => ?_)
                have gs483 : zFi A σ s483 := by rw [es483]; exact gs475.w h2
                refine zFi_let (fun t488 et488 => ?_)
                have gt488 : zFi A σ t488 := by rw [et488]; exact fi_X11_goesOn gs483 h0 h1 h7
                exact ckLp8 _ _ gt488
        · skip
          refine zFi_let (fun v368 _ => ?_)
          refine zFi_if (fun _ => ?_) (fun _ => ?_)
          · skip
            exact g
          · skip
            refine zFi_let (fun v370 _ => ?_)
            refine zFi_let (fun v372 _ => ?_)
            refine zFi_if (fun _ => ?_) (fun _ => ?_)
            · skip
              refine zFi_let (fun v400 _ => ?_)
              refine zFi_let (fun v402 _ => ?_)
              refine zFi_if (fun _ => ?_) (fun _ => ?_)
              · skip
                refine zFi_let (fun v404 _ => ?_)
                refine zFi_let (fun t405 et405 => ?_)
                have gt405 : zFi A σ t405 := by rw [et405]; exact fi_X11_comesOut g h2 h3 h4 h5
                refine zFi_let (fun v408 ev408 => ?_)
                rw [gt405.rf] at ev408
                subst ev408
                refine zFi_let (fun v409 _ => ?_)
                refine zFi_let (fun v410 ev410 => ?_)
                rw [gt405.rf] at ev410
                subst ev410
                refine zFi_let (fun v411 _ => ?_)
                refine zFi_let (fun v412 _ => ?_)
                refine zFi_let (fun s413 es413 => ?_)
                have gs413 : zFi A σ s413 := by rw [es413]; exact gt405.w (h6 _)
                refine zFi_let (fun v418 _ => ?_)
                refine zFi_let (fun v419 _ => ?_)
                refine zFi_let (fun v420 _ => ?_)
                refine zFi_let (fun s421 es421 => ?_)
                have gs421 : zFi A σ s421 := by rw [es421]; exact gs413.w h2
                refine zFi_let (fun t426 et426 => ?_)
                have gt426 : zFi A σ t426 := by rw [et426]; exact fi_X11_goesOn gs421 h0 h1 h7
                exact ckLp8 _ _ gt426
              · skip
                refine zFi_let (fun v430 _ => ?_)
                refine zFi_let (fun t431 et431 => ?_)
                have gt431 : zFi A σ t431 := by rw [et431]; exact fi_X11_comesOut g h2 h3 h4 h5
                refine zFi_let (fun v434 ev434 => ?_)
                rw [gt431.rf] at ev434
                subst ev434
                refine zFi_let (fun v435 _ => ?_)
                refine zFi_let (fun v436 ev436 => ?_)
                rw [gt431.rf] at ev436
                subst ev436
                refine zFi_let (fun v437 _ => ?_)
                refine zFi_let (fun v438 _ => ?_)
                refine zFi_let (fun s439 es439 => ?_)
                have gs439 : zFi A σ s439 := by rw [es439]; exact gt431.w (h6 _)
                refine zFi_let (fun v444 _ => ?_)
                refine zFi_let (fun v445 _ => ?_)
                refine zFi_let (fun v446 _ => ?_)
                refine zFi_let (fun s447 es447 => ?_)
                have gs447 : zFi A σ s447 := by rw [es447]; exact gs439.w h2
                refine zFi_let (fun t452 et452 => ?_)
                have gt452 : zFi A σ t452 := by rw [et452]; exact fi_X11_goesOn gs447 h0 h1 h7
                exact ckLp8 _ _ gt452
            · skip
              refine zFi_let (fun v374 _ => ?_)
              refine zFi_let (fun t375 et375 => ?_)
              have gt375 : zFi A σ t375 := by rw [et375]; exact fi_X11_comesOut g h2 h3 h4 h5
              refine zFi_let (fun v378 ev378 => ?_)
              rw [gt375.rf] at ev378
              subst ev378
              refine zFi_let (fun v379 _ => ?_)
              refine zFi_let (fun v380 ev380 => ?_)
              rw [gt375.rf] at ev380
              subst ev380
              refine zFi_let (fun v381 _ => ?_)
              refine zFi_let (fun v382 _ => ?_)
              refine zFi_let (fun s383 es383 => ?_)
              have gs383 : zFi A σ s383 := by rw [es383]; exact gt375.w (h6 _)
              refine zFi_let (fun v388 _ => ?_)
              refine zFi_let (fun v389 _ => ?_)
              refine zFi_let (fun v390 _ => ?_)
              refine zFi_let (fun s391 es391 => ?_)
              have gs391 : zFi A σ s391 := by rw [es391]; exact gs383.w h2
              refine zFi_let (fun t396 et396 => ?_)
              have gt396 : zFi A σ t396 := by rw [et396]; exact fi_X11_goesOn gs391 h0 h1 h7
              exact ckLp8 _ _ gt396
set_option maxRecDepth 100000 in
theorem fi_X11_expression_23 {A : Nat → Nat → Prop} {σ : zS} {x7 : Int32} {v5 : Int32} {a0 : Nat} {kLp8 : Int32 → zS → zS} (ckLp8 : ∀ (y0 : Int32) (s : zS), zFi A σ s → zFi A σ (kLp8 y0 s)) (h0 : A a0 13) (h1 : A a0 14) (h2 : ∀ j, A ((σ.2.2 a0 39).getD 0) j) (h3 : ∀ j, A ((σ.2.2 a0 40).getD 0) j) (h4 : A a0 38) (h5 : A a0 11) (h6 : A a0 44) (h7 : ∀ j, A ((σ.2.2 a0 43).getD 0) j) (h8 : A a0 12) : ∀ (n : Nat) (τ12 : zS), zFi A σ τ12 → zFi A σ (F_X11_expression_23 x7 v5 a0 kLp8 n  τ12) := by
  intro n
  induction n with
  | zero => intro  τ12 g; exact g
  | succ n ih =>
    intro  τ12 g
    rw [F_X11_expression_23]
    refine zFi_let (fun v13 _ => ?_)
    refine zFi_let (fun v15 _ => ?_)
    refine zFi_if (fun _ => ?_) (fun _ => ?_)
    · skip
      refine zFi_let (fun t17 et17 => ?_)
      have gt17 : zFi A σ t17 := by rw [et17]; exact fi_X11_unit g h0 h1 h2 h3 h4 h5
      refine zFi_let (fun v19 _ => ?_)
      refine zFi_if (fun _ => ?_) (fun _ => ?_)
      · skip
        exact gt17
      · skip
        exact fi_X11_expression_96 ckLp8 ih h0 h1 h6 h2 h3 h4 h7 h5 h8 _ _ gt17
    · skip
      refine zFi_let (fun v770 _ => ?_)
      refine zFi_let (fun v771 _ => ?_)
      refine zFi_if (fun _ => ?_) (fun _ => ?_)
      · skip
        refine zFi_let (fun v796 _ => ?_)
        refine zFi_let (fun t797 et797 => ?_)
        have gt797 : zFi A σ t797 := by rw [et797]; exact fi_X11_fail g h0 h1
        refine zFi_let (fun v800 _ => ?_)
        refine zFi_let (fun v801 _ => ?_)
        refine zFi_let (fun v802 _ => ?_)
        refine zFi_let (fun s803 es803 => ?_)
        have gs803 : zFi A σ s803 := by rw [es803]; exact gt797.w h8
        refine zFi_let (fun t806 et806 => ?_)
        have gt806 : zFi A σ t806 := by rw [et806]; exact fi_X11_goesOn gs803 h0 h1 h5
        refine zFi_let (fun v809 ev809 => ?_)
        rw [gt806.rf] at ev809
        subst ev809
        refine zFi_let (fun v810 _ => ?_)
        refine zFi_let (fun v811 _ => ?_)
        refine zFi_let (fun s812 es812 => ?_)
        have gs812 : zFi A σ s812 := by rw [es812]; exact gt806.w (h7 _)
        refine zFi_let (fun v816 _ => ?_)
        refine zFi_let (fun v817 _ => ?_)
        refine zFi_let (fun v818 _ => ?_)
        refine zFi_let (fun s819 es819 => ?_)
        have gs819 : zFi A σ s819 := by rw [es819]; exact gs812.w h6
        exact ih _ gs819
      · skip
        refine zFi_let (fun v773 _ => ?_)
        refine zFi_let (fun v774 _ => ?_)
        refine zFi_let (fun v775 _ => ?_)
        refine zFi_let (fun s776 es776 => ?_)
        have gs776 : zFi A σ s776 := by rw [es776]; exact g.w h8
        refine zFi_let (fun t779 et779 => ?_)
        have gt779 : zFi A σ t779 := by rw [et779]; exact fi_X11_goesOn gs776 h0 h1 h5
        refine zFi_let (fun v782 ev782 => ?_)
        rw [gt779.rf] at ev782
        subst ev782
        refine zFi_let (fun v783 _ => ?_)
        refine zFi_let (fun v784 _ => ?_)
        refine zFi_let (fun s785 es785 => ?_)
        have gs785 : zFi A σ s785 := by rw [es785]; exact gt779.w (h7 _)
        refine zFi_let (fun v789 _ => ?_)
        refine zFi_let (fun v790 _ => ?_)
        refine zFi_let (fun v791 _ => ?_)
        refine zFi_let (fun s792 es792 => ?_)
        have gs792 : zFi A σ s792 := by rw [es792]; exact gs785.w h6
        exact ih _ gs792
set_option maxRecDepth 100000 in
theorem fi_X11_expression_12 {A : Nat → Nat → Prop} {σ : zS} {v5 : Int32} {a0 : Nat}  (h0 : A a0 13) (h1 : A a0 14) (h2 : ∀ j, A ((σ.2.2 a0 39).getD 0) j) (h3 : ∀ j, A ((σ.2.2 a0 40).getD 0) j) (h4 : A a0 38) (h5 : A a0 11) (h6 : A a0 44) (h7 : ∀ j, A ((σ.2.2 a0 43).getD 0) j) (h8 : A a0 12) : ∀ (n : Nat) (x7 : Int32) (τ8 : zS), zFi A σ τ8 → zFi A σ (F_X11_expression_12 v5 a0 n x7 τ8) := by
  intro n
  induction n with
  | zero => intro x7 τ8 g; exact g
  | succ n ih =>
    intro x7 τ8 g
    rw [F_X11_expression_12]
    refine zFi_if (fun _ => ?_) (fun _ => ?_)
    · skip
      exact g
    · skip
      refine zFi_let (fun v10 _ => ?_)
      refine zFi_if (fun _ => ?_) (fun _ => ?_)
      · skip
        exact fi_X11_expression_23 ih h0 h1 h2 h3 h4 h5 h6 h7 h8 _ _ g
      · skip
        exact g
set_option maxRecDepth 100000 in
theorem fi_X11_expression {A : Nat → Nat → Prop} {σ σ0 : zS} {a0 : Nat}  (g : zFi A σ σ0) (h0 : A a0 44) (h1 : A a0 13) (h2 : A a0 14) (h3 : ∀ j, A ((σ.2.2 a0 39).getD 0) j) (h4 : ∀ j, A ((σ.2.2 a0 40).getD 0) j) (h5 : A a0 38) (h6 : A a0 11) (h7 : ∀ j, A ((σ.2.2 a0 43).getD 0) j) (h8 : A a0 12) : zFi A σ (F_X11_expression a0 σ0) := by
  unfold F_X11_expression
  refine zFi_let (fun v1 _ => ?_)
  refine zFi_let (fun s2 es2 => ?_)
  have gs2 : zFi A σ s2 := by rw [es2]; exact g.w h0
  refine zFi_let (fun v5 _ => ?_)
  refine zFi_let (fun v6 _ => ?_)
  exact fi_X11_expression_12  h1 h2 h3 h4 h5 h6 h0 h7 h8 _ _ _ gs2
set_option maxRecDepth 100000 in
theorem fi_X11_term {A : Nat → Nat → Prop} {σ σ0 : zS} {a0 : Nat}  (g : zFi A σ σ0) (h0 : ∀ j, A ((σ.2.2 a0 36).getD 0) j) (h1 : A a0 44) (h2 : A a0 13) (h3 : A a0 14) (h4 : ∀ j, A ((σ.2.2 a0 39).getD 0) j) (h5 : ∀ j, A ((σ.2.2 a0 40).getD 0) j) (h6 : A a0 38) (h7 : A a0 11) (h8 : ∀ j, A ((σ.2.2 a0 43).getD 0) j) (h9 : A a0 12) (h10 : ∀ j, A ((σ.2.2 a0 37).getD 0) j) (h11 : A a0 32) : zFi A σ (F_X11_term a0 σ0) := by
  unfold F_X11_term
  refine zFi_let (fun v1 ev1 => ?_)
  rw [g.rf] at ev1
  subst ev1
  refine zFi_let (fun v2 _ => ?_)
  refine zFi_let (fun v3 _ => ?_)
  refine zFi_let (fun s4 es4 => ?_)
  have gs4 : zFi A σ s4 := by rw [es4]; exact g.w (h0 _)
  refine zFi_let (fun v8 _ => ?_)
  refine zFi_if (fun _ => ?_) (fun _ => ?_)
  · skip
    refine zFi_let (fun t26 et26 => ?_)
    have gt26 : zFi A σ t26 := by rw [et26]; exact fi_X11_expression gs4 h1 h2 h3 h4 h5 h6 h7 h8 h9
    refine zFi_let (fun v29 ev29 => ?_)
    rw [gt26.rf] at ev29
    subst ev29
    refine zFi_let (fun v30 _ => ?_)
    refine zFi_let (fun v31 _ => ?_)
    refine zFi_let (fun s32 es32 => ?_)
    have gs32 : zFi A σ s32 := by rw [es32]; exact gt26.w (h10 _)
    refine zFi_let (fun v36 _ => ?_)
    refine zFi_let (fun v37 _ => ?_)
    refine zFi_let (fun v38 _ => ?_)
    refine zFi_let (fun s39 es39 => ?_)
    have gs39 : zFi A σ s39 := by rw [es39]; exact gs32.w h11
    exact gs39
  · skip
    refine zFi_let (fun v10 ev10 => ?_)
    rw [gs4.rf] at ev10
    subst ev10
    refine zFi_let (fun v11 _ => ?_)
    refine zFi_let (fun v12 _ => ?_)
    refine zFi_let (fun s13 es13 => ?_)
    have gs13 : zFi A σ s13 := by rw [es13]; exact gs4.w (h10 _)
    refine zFi_let (fun v18 _ => ?_)
    refine zFi_let (fun v19 _ => ?_)
    refine zFi_let (fun v20 _ => ?_)
    refine zFi_let (fun s21 es21 => ?_)
    have gs21 : zFi A σ s21 := by rw [es21]; exact gs13.w h11
    exact gs21
set_option maxRecDepth 100000 in
theorem fi_X11_tellLaw_12 {A : Nat → Nat → Prop} {σ : zS} {v4 : Int32} {a0 : Nat} {p1 : Int32}  (h0 : ∀ j, A ((σ.2.2 a0 33).getD 0) j) (h1 : ∀ j, A ((σ.2.2 a0 36).getD 0) j) (h2 : A a0 44) (h3 : A a0 13) (h4 : A a0 14) (h5 : ∀ j, A ((σ.2.2 a0 39).getD 0) j) (h6 : ∀ j, A ((σ.2.2 a0 40).getD 0) j) (h7 : A a0 38) (h8 : A a0 11) (h9 : ∀ j, A ((σ.2.2 a0 43).getD 0) j) (h10 : A a0 12) (h11 : ∀ j, A ((σ.2.2 a0 37).getD 0) j) (h12 : A a0 32) (h13 : ∀ j, A ((σ.2.2 a0 30).getD 0) j) (h14 : ∀ j, A ((σ.2.2 a0 31).getD 0) j) (h15 : ∀ j, A ((σ.2.2 a0 34).getD 0) j) (h16 : ∀ j, A ((σ.2.2 a0 35).getD 0) j) : ∀ (n : Nat) (x6 : Int32) (τ7 : zS), zFi A σ τ7 → zFi A σ (F_X11_tellLaw_12 v4 a0 p1 n x6 τ7) := by
  intro n
  induction n with
  | zero => intro x6 τ7 g; exact g
  | succ n ih =>
    intro x6 τ7 g
    rw [F_X11_tellLaw_12]
    refine zFi_let (fun v8 _ => ?_)
    refine zFi_if (fun _ => ?_) (fun _ => ?_)
    · skip
      refine zFi_let (fun v24 _ => ?_)
      refine zFi_let (fun v26 _ => ?_)
      refine zFi_if (fun _ => ?_) (fun _ => ?_)
      · skip
        refine zFi_let (fun v28 ev28 => ?_)
        rw [g.rf] at ev28
        subst ev28
        refine zFi_let (fun v29 _ => ?_)
        refine zFi_let (fun v30 _ => ?_)
        refine zFi_let (fun s31 es31 => ?_)
        have gs31 : zFi A σ s31 := by rw [es31]; exact g.w (h0 _)
        refine zFi_let (fun t35 et35 => ?_)
        have gt35 : zFi A σ t35 := by rw [et35]; exact fi_X11_term gs31 h1 h2 h3 h4 h5 h6 h7 h8 h9 h10 h11 h12
        refine zFi_let (fun v37 _ => ?_)
        refine zFi_let (fun t38 et38 => ?_)
        have gt38 : zFi A σ t38 := by rw [et38]; exact fi_X11_must gt35 h3 h4 h8
        refine zFi_let (fun v40 _ => ?_)
        refine zFi_if (fun _ => ?_) (fun _ => ?_)
        · skip
          exact gt38
        · skip
          refine zFi_let (fun v42 ev42 => ?_)
          rw [gt38.rf] at ev42
          subst ev42
          refine zFi_let (fun v43 _ => ?_)
          refine zFi_let (fun v44 _ => ?_)
          refine zFi_let (fun v45 _ => ?_)
          refine zFi_let (fun v46 _ => ?_)
          refine zFi_let (fun s47 es47 => ?_)
          have gs47 : zFi A σ s47 := by rw [es47]; exact gt38.w (h13 _)
          refine zFi_let (fun v51 ev51 => ?_)
          rw [gs47.rf] at ev51
          subst ev51
          refine zFi_let (fun v52 _ => ?_)
          refine zFi_let (fun v53 _ => ?_)
          refine zFi_let (fun v54 _ => ?_)
          refine zFi_let (fun v55 _ => ?_)
          refine zFi_let (fun v56 _ => ?_)
          refine zFi_let (fun s57 es57 => ?_)
          have gs57 : zFi A σ s57 := by rw [es57]; exact gs47.w (h14 _)
          exact gs57
      · skip
        refine zFi_let (fun v62 _ => ?_)
        refine zFi_if (fun _ => ?_) (fun _ => ?_)
        · skip
          refine zFi_let (fun v120 _ => ?_)
          refine zFi_let (fun t121 et121 => ?_)
          have gt121 : zFi A σ t121 := by rw [et121]; exact fi_X11_fail g h3 h4
          refine zFi_let (fun v123 _ => ?_)
          refine zFi_if (fun _ => ?_) (fun _ => ?_)
          · skip
            exact gt121
          · skip
            exact gt121
        · skip
          refine zFi_let (fun v64 _ => ?_)
          refine zFi_if (fun _ => ?_) (fun _ => ?_)
          · skip
            exact g
          · skip
            refine zFi_let (fun v66 _ => ?_)
            refine zFi_let (fun t67 et67 => ?_)
            have gt67 : zFi A σ t67 := by rw [et67]; exact fi_X11_goesOn g h3 h4 h8
            refine zFi_let (fun v69 ev69 => ?_)
            rw [gt67.rf] at ev69
            subst ev69
            refine zFi_let (fun v70 _ => ?_)
            refine zFi_let (fun v71 _ => ?_)
            refine zFi_let (fun s72 es72 => ?_)
            have gs72 : zFi A σ s72 := by rw [es72]; exact gt67.w (h0 _)
            refine zFi_let (fun v75 ev75 => ?_)
            rw [gs72.rf] at ev75
            subst ev75
            refine zFi_let (fun v76 _ => ?_)
            refine zFi_let (fun v77 _ => ?_)
            refine zFi_let (fun s78 es78 => ?_)
            have gs78 : zFi A σ s78 := by rw [es78]; exact gs72.w (h15 _)
            refine zFi_let (fun t82 et82 => ?_)
            have gt82 : zFi A σ t82 := by rw [et82]; exact fi_X11_expression gs78 h2 h3 h4 h5 h6 h7 h8 h9 h10
            refine zFi_let (fun v85 _ => ?_)
            refine zFi_let (fun t86 et86 => ?_)
            have gt86 : zFi A σ t86 := by rw [et86]; exact fi_X11_must gt82 h3 h4 h8
            refine zFi_let (fun v89 ev89 => ?_)
            rw [gt86.rf] at ev89
            subst ev89
            refine zFi_let (fun v90 _ => ?_)
            refine zFi_let (fun v91 _ => ?_)
            refine zFi_let (fun s92 es92 => ?_)
            have gs92 : zFi A σ s92 := by rw [es92]; exact gt86.w (h16 _)
            refine zFi_let (fun v96 _ => ?_)
            refine zFi_if (fun _ => ?_) (fun _ => ?_)
            · skip
              refine zFi_let (fun t108 et108 => ?_)
              have gt108 : zFi A σ t108 := by rw [et108]; exact fi_X11_expression gs92 h2 h3 h4 h5 h6 h7 h8 h9 h10
              refine zFi_let (fun v111 _ => ?_)
              refine zFi_let (fun t112 et112 => ?_)
              have gt112 : zFi A σ t112 := by rw [et112]; exact fi_X11_must gt108 h3 h4 h8
              refine zFi_let (fun t115 et115 => ?_)
              have gt115 : zFi A σ t115 := by rw [et115]; exact fi_X11_term gt112 h1 h2 h3 h4 h5 h6 h7 h8 h9 h10 h11 h12
              refine zFi_let (fun v117 _ => ?_)
              refine zFi_let (fun t118 et118 => ?_)
              have gt118 : zFi A σ t118 := by rw [et118]; exact fi_X11_must gt115 h3 h4 h8
              exact ih _ _ gt118
            · skip
              refine zFi_let (fun v98 _ => ?_)
              refine zFi_let (fun t99 et99 => ?_)
              have gt99 : zFi A σ t99 := by rw [et99]; exact fi_X11_must gs92 h3 h4 h8
              refine zFi_let (fun t103 et103 => ?_)
              have gt103 : zFi A σ t103 := by rw [et103]; exact fi_X11_term gt99 h1 h2 h3 h4 h5 h6 h7 h8 h9 h10 h11 h12
              refine zFi_let (fun v105 _ => ?_)
              refine zFi_let (fun t106 et106 => ?_)
              have gt106 : zFi A σ t106 := by rw [et106]; exact fi_X11_must gt103 h3 h4 h8
              exact ih _ _ gt106
    · skip
      refine zFi_let (fun v10 ev10 => ?_)
      rw [g.rf] at ev10
      subst ev10
      refine zFi_let (fun v11 _ => ?_)
      refine zFi_let (fun v12 _ => ?_)
      refine zFi_let (fun s13 es13 => ?_)
      have gs13 : zFi A σ s13 := by rw [es13]; exact g.w (h0 _)
      refine zFi_let (fun t17 et17 => ?_)
      have gt17 : zFi A σ t17 := by rw [et17]; exact fi_X11_term gs13 h1 h2 h3 h4 h5 h6 h7 h8 h9 h10 h11 h12
      refine zFi_let (fun v19 _ => ?_)
      refine zFi_let (fun t20 et20 => ?_)
      have gt20 : zFi A σ t20 := by rw [et20]; exact fi_X11_must gt17 h3 h4 h8
      refine zFi_let (fun v22 _ => ?_)
      refine zFi_if (fun _ => ?_) (fun _ => ?_)
      · skip
        exact gt20
      · skip
        exact gt20
set_option maxRecDepth 100000 in
theorem fi_X11_tellLaw {A : Nat → Nat → Prop} {σ σ0 : zS} {a0 : Nat} {p1 : Int32}  (g : zFi A σ σ0) (h0 : A a0 13) (h1 : A a0 14) (h2 : A a0 11) (h3 : ∀ j, A ((σ.2.2 a0 33).getD 0) j) (h4 : ∀ j, A ((σ.2.2 a0 36).getD 0) j) (h5 : A a0 44) (h6 : ∀ j, A ((σ.2.2 a0 39).getD 0) j) (h7 : ∀ j, A ((σ.2.2 a0 40).getD 0) j) (h8 : A a0 38) (h9 : ∀ j, A ((σ.2.2 a0 43).getD 0) j) (h10 : A a0 12) (h11 : ∀ j, A ((σ.2.2 a0 37).getD 0) j) (h12 : A a0 32) (h13 : ∀ j, A ((σ.2.2 a0 30).getD 0) j) (h14 : ∀ j, A ((σ.2.2 a0 31).getD 0) j) (h15 : ∀ j, A ((σ.2.2 a0 34).getD 0) j) (h16 : ∀ j, A ((σ.2.2 a0 35).getD 0) j) : zFi A σ (F_X11_tellLaw a0 p1 σ0) := by
  unfold F_X11_tellLaw
  refine zFi_let (fun v1 _ => ?_)
  refine zFi_let (fun t2 et2 => ?_)
  have gt2 : zFi A σ t2 := by rw [et2]; exact fi_X11_must g h0 h1 h2
  refine zFi_let (fun v4 _ => ?_)
  refine zFi_let (fun v5 _ => ?_)
  exact fi_X11_tellLaw_12  h3 h4 h5 h0 h1 h6 h7 h8 h2 h9 h10 h11 h12 h13 h14 h15 h16 _ _ _ gt2
