set_option maxRecDepth 100000 in
theorem fr_X11_fail {A : Nat → Nat → Prop} {σ σ0 : zS} {a0 : Nat} {p1 : Int32}  (g : zFr A σ σ0) (h0 : A a0 13) (h1 : A a0 14) : zFr A σ (F_X11_fail a0 p1 σ0) := by
  unfold F_X11_fail
  refine zFr_let (fun v1 _ => ?_)
  refine zFr_if (fun _ => ?_) (fun _ => ?_)
  · skip
    exact g
  · skip
    refine zFr_let (fun s4 es4 => ?_)
    have gs4 : zFr A σ s4 := by rw [es4]; exact g.w h0
    refine zFr_let (fun v7 ev7 => ?_)
    rw [gs4.rf] at ev7
    subst ev7
    refine zFr_let (fun v8 _ => ?_)
    refine zFr_let (fun v9 _ => ?_)
    refine zFr_let (fun s10 es10 => ?_)
    have gs10 : zFr A σ s10 := by rw [es10]; exact gs4.w h1
    exact gs10
set_option maxRecDepth 100000 in
theorem fr_X11_goesOn {A : Nat → Nat → Prop} {σ σ0 : zS} {a0 : Nat}  (g : zFr A σ σ0) (h0 : A a0 13) (h1 : A a0 14) (h2 : A a0 11) : zFr A σ (F_X11_goesOn a0 σ0) := by
  unfold F_X11_goesOn
  refine zFr_let (fun v1 _ => ?_)
  refine zFr_let (fun v2 _ => ?_)
  refine zFr_if (fun _ => ?_) (fun _ => ?_)
  · skip
    refine zFr_let (fun v10 _ => ?_)
    refine zFr_let (fun t11 et11 => ?_)
    have gt11 : zFr A σ t11 := by rw [et11]; exact fr_X11_fail g h0 h1
    exact gt11
  · skip
    refine zFr_let (fun v4 _ => ?_)
    refine zFr_let (fun v5 _ => ?_)
    refine zFr_let (fun v6 _ => ?_)
    refine zFr_let (fun s7 es7 => ?_)
    have gs7 : zFr A σ s7 := by rw [es7]; exact g.w h2
    exact gs7
set_option maxRecDepth 100000 in
theorem fr_X11_must {A : Nat → Nat → Prop} {σ σ0 : zS} {a0 : Nat} {p1 : Int32}  (g : zFr A σ σ0) (h0 : A a0 13) (h1 : A a0 14) (h2 : A a0 11) : zFr A σ (F_X11_must a0 p1 σ0) := by
  unfold F_X11_must
  refine zFr_let (fun v2 _ => ?_)
  refine zFr_if (fun _ => ?_) (fun _ => ?_)
  · skip
    refine zFr_let (fun v4 _ => ?_)
    refine zFr_let (fun t5 et5 => ?_)
    have gt5 : zFr A σ t5 := by rw [et5]; exact fr_X11_fail g h0 h1
    exact gt5
  · skip
    refine zFr_let (fun t7 et7 => ?_)
    have gt7 : zFr A σ t7 := by rw [et7]; exact fr_X11_goesOn g h0 h1 h2
    exact gt7
set_option maxRecDepth 100000 in
theorem fr_X11_wrong {A : Nat → Nat → Prop} {σ σ0 : zS} {a0 : Nat} {p1 : Int32} {p2 : Int32}  (g : zFr A σ σ0) (h0 : A a0 15) (h1 : A a0 16) : zFr A σ (F_X11_wrong a0 p1 p2 σ0) := by
  unfold F_X11_wrong
  refine zFr_let (fun v1 ev1 => ?_)
  rw [g.rf] at ev1
  subst ev1
  refine zFr_let (fun v2 _ => ?_)
  refine zFr_let (fun v3 _ => ?_)
  refine zFr_if (fun _ => ?_) (fun _ => ?_)
  · skip
    exact g
  · skip
    refine zFr_let (fun v5 _ => ?_)
    refine zFr_if (fun _ => ?_) (fun _ => ?_)
    · skip
      refine zFr_let (fun s7 es7 => ?_)
      have gs7 : zFr A σ s7 := by rw [es7]; exact g.w h0
      refine zFr_let (fun s11 es11 => ?_)
      have gs11 : zFr A σ s11 := by rw [es11]; exact gs7.w h1
      exact gs11
    · skip
      refine zFr_let (fun v16 _ => ?_)
      refine zFr_if (fun _ => ?_) (fun _ => ?_)
      · skip
        exact g
      · skip
        refine zFr_let (fun v20 _ => ?_)
        refine zFr_if (fun _ => ?_) (fun _ => ?_)
        · skip
          refine zFr_let (fun v32 _ => ?_)
          refine zFr_if (fun _ => ?_) (fun _ => ?_)
          · skip
            refine zFr_let (fun s36 es36 => ?_)
            have gs36 : zFr A σ s36 := by rw [es36]; exact g.w h0
            refine zFr_let (fun s41 es41 => ?_)
            have gs41 : zFr A σ s41 := by rw [es41]; exact gs36.w h1
            exact gs41
          · skip
            exact g
        · skip
          refine zFr_let (fun s22 es22 => ?_)
          have gs22 : zFr A σ s22 := by rw [es22]; exact g.w h0
          refine zFr_let (fun s27 es27 => ?_)
          have gs27 : zFr A σ s27 := by rw [es27]; exact gs22.w h1
          exact gs27
set_option maxRecDepth 100000 in
theorem fr_X11_keepsRow_2 {A : Nat → Nat → Prop} {σ : zS} {a0 : Nat}  (h0 : ∀ j, A ((σ.2.2 a0 48).getD 0) j) : ∀ (n : Nat) (x2 : Int32) (τ3 : zS), zFr A σ τ3 → zFr A σ (F_X11_keepsRow_2 a0 n x2 τ3) := by
  intro n
  induction n with
  | zero => intro x2 τ3 g; exact g
  | succ n ih =>
    intro x2 τ3 g
    rw [F_X11_keepsRow_2]
    refine zFr_let (fun v4 _ => ?_)
    refine zFr_if (fun _ => ?_) (fun _ => ?_)
    · skip
      refine zFr_let (fun v6 ev6 => ?_)
      rw [g.rf] at ev6
      subst ev6
      refine zFr_let (fun v7 ev7 => ?_)
      rw [g.rf] at ev7
      subst ev7
      refine zFr_let (fun v8 _ => ?_)
      refine zFr_let (fun s9 es9 => ?_)
      have gs9 : zFr A σ s9 := by rw [es9]; exact g.w (h0 _)
      refine zFr_let (fun v11 _ => ?_)
      exact ih _ _ gs9
    · skip
      exact g
set_option maxRecDepth 100000 in
theorem fr_X11_keepsRow {A : Nat → Nat → Prop} {σ σ0 : zS} {a0 : Nat}  (g : zFr A σ σ0) (h0 : ∀ j, A ((σ.2.2 a0 48).getD 0) j) : zFr A σ (F_X11_keepsRow a0 σ0) := by
  unfold F_X11_keepsRow
  refine zFr_let (fun v1 _ => ?_)
  exact fr_X11_keepsRow_2  h0 _ _ _ g
set_option maxRecDepth 100000 in
theorem fr_X11_put {A : Nat → Nat → Prop} {σ σ0 : zS} {a0 : Nat} {p1 : Int32}  (g : zFr A σ σ0) (h0 : ∀ j, A ((σ.2.2 a0 1).getD 0) j) (h1 : A a0 2) : zFr A σ (F_X11_put a0 p1 σ0) := by
  unfold F_X11_put
  refine zFr_let (fun v1 _ => ?_)
  refine zFr_if (fun _ => ?_) (fun _ => ?_)
  · skip
    exact g
  · skip
    refine zFr_let (fun v3 ev3 => ?_)
    rw [g.rf] at ev3
    subst ev3
    refine zFr_let (fun v4 _ => ?_)
    refine zFr_let (fun v5 _ => ?_)
    refine zFr_let (fun v6 _ => ?_)
    refine zFr_let (fun s7 es7 => ?_)
    have gs7 : zFr A σ s7 := by rw [es7]; exact g.w (h0 _)
    refine zFr_let (fun v10 _ => ?_)
    refine zFr_let (fun v11 _ => ?_)
    refine zFr_let (fun v12 _ => ?_)
    refine zFr_let (fun s13 es13 => ?_)
    have gs13 : zFr A σ s13 := by rw [es13]; exact gs7.w h1
    refine zFr_let (fun v16 _ => ?_)
    refine zFr_if (fun _ => ?_) (fun _ => ?_)
    · skip
      exact gs13
    · skip
      refine zFr_let (fun v18 ev18 => ?_)
      rw [gs13.rf] at ev18
      subst ev18
      refine zFr_let (fun v19 _ => ?_)
      refine zFr_let (fun v20 _ => ?_)
      refine zFr_let (fun v21 _ => ?_)
      refine zFr_let (fun s22 es22 => ?_)
      have gs22 : zFr A σ s22 := by rw [es22]; exact gs13.w (h0 _)
      refine zFr_let (fun v25 _ => ?_)
      refine zFr_let (fun v26 _ => ?_)
      refine zFr_let (fun v27 _ => ?_)
      refine zFr_let (fun s28 es28 => ?_)
      have gs28 : zFr A σ s28 := by rw [es28]; exact gs22.w h1
      refine zFr_let (fun v31 _ => ?_)
      refine zFr_if (fun _ => ?_) (fun _ => ?_)
      · skip
        exact gs28
      · skip
        refine zFr_let (fun v33 ev33 => ?_)
        rw [gs28.rf] at ev33
        subst ev33
        refine zFr_let (fun v34 _ => ?_)
        refine zFr_let (fun v35 _ => ?_)
        refine zFr_let (fun v36 _ => ?_)
        refine zFr_let (fun s37 es37 => ?_)
        have gs37 : zFr A σ s37 := by rw [es37]; exact gs28.w (h0 _)
        refine zFr_let (fun v40 _ => ?_)
        refine zFr_let (fun v41 _ => ?_)
        refine zFr_let (fun v42 _ => ?_)
        refine zFr_let (fun s43 es43 => ?_)
        have gs43 : zFr A σ s43 := by rw [es43]; exact gs37.w h1
        refine zFr_let (fun v46 _ => ?_)
        refine zFr_if (fun _ => ?_) (fun _ => ?_)
        · skip
          exact gs43
        · skip
          refine zFr_let (fun v48 ev48 => ?_)
          rw [gs43.rf] at ev48
          subst ev48
          refine zFr_let (fun v49 _ => ?_)
          refine zFr_let (fun v50 _ => ?_)
          refine zFr_let (fun v51 _ => ?_)
          refine zFr_let (fun s52 es52 => ?_)
          have gs52 : zFr A σ s52 := by rw [es52]; exact gs43.w (h0 _)
          refine zFr_let (fun v55 _ => ?_)
          refine zFr_let (fun v56 _ => ?_)
          refine zFr_let (fun v57 _ => ?_)
          refine zFr_let (fun s58 es58 => ?_)
          have gs58 : zFr A σ s58 := by rw [es58]; exact gs52.w h1
          refine zFr_let (fun v61 _ => ?_)
          refine zFr_if (fun _ => ?_) (fun _ => ?_)
          · skip
            exact gs58
          · skip
            exact gs58
set_option maxRecDepth 100000 in
theorem fr_X11_plain_37 {A : Nat → Nat → Prop} {σ : zS} {a0 : Nat} {p1 : Int32}  (h0 : ∀ j, A ((σ.2.2 a0 30).getD 0) j) (h1 : ∀ j, A ((σ.2.2 a0 31).getD 0) j) : ∀ (n : Nat) (x22 : Int32) (τ23 : zS), zFr A σ τ23 → zFr A σ (F_X11_plain_37 a0 p1 n x22 τ23) := by
  intro n
  induction n with
  | zero => intro x22 τ23 g; exact g
  | succ n ih =>
    intro x22 τ23 g
    rw [F_X11_plain_37]
    refine zFr_let (fun v24 _ => ?_)
    refine zFr_if (fun _ => ?_) (fun _ => ?_)
    · skip
      refine zFr_let (fun v26 ev26 => ?_)
      rw [g.rf] at ev26
      subst ev26
      refine zFr_let (fun v27 _ => ?_)
      refine zFr_let (fun v28 _ => ?_)
      refine zFr_let (fun v29 _ => ?_)
      refine zFr_let (fun v30 _ => ?_)
      refine zFr_let (fun s31 es31 => ?_)
      have gs31 : zFr A σ s31 := by rw [es31]; exact g.w (h0 _)
      refine zFr_let (fun v33 ev33 => ?_)
      rw [gs31.rf] at ev33
      subst ev33
      refine zFr_let (fun v34 _ => ?_)
      refine zFr_let (fun v35 _ => ?_)
      refine zFr_let (fun v36 _ => ?_)
      refine zFr_let (fun v37 _ => ?_)
      refine zFr_let (fun s38 es38 => ?_)
      have gs38 : zFr A σ s38 := by rw [es38]; exact gs31.w (h1 _)
      refine zFr_let (fun v40 _ => ?_)
      exact ih _ _ gs38
    · skip
      exact g
set_option maxRecDepth 100000 in
theorem fr_X11_plain {A : Nat → Nat → Prop} {σ σ0 : zS} {a0 : Nat} {p1 : Int32}  (g : zFr A σ σ0) (h0 : ∀ j, A ((σ.2.2 a0 21).getD 0) j) (h1 : ∀ j, A ((σ.2.2 a0 26).getD 0) j) (h2 : ∀ j, A ((σ.2.2 a0 27).getD 0) j) (h3 : ∀ j, A ((σ.2.2 a0 28).getD 0) j) (h4 : ∀ j, A ((σ.2.2 a0 29).getD 0) j) (h5 : ∀ j, A ((σ.2.2 a0 30).getD 0) j) (h6 : ∀ j, A ((σ.2.2 a0 31).getD 0) j) : zFr A σ (F_X11_plain a0 p1 σ0) := by
  unfold F_X11_plain
  refine zFr_let (fun v1 ev1 => ?_)
  rw [g.rf] at ev1
  subst ev1
  refine zFr_let (fun v2 _ => ?_)
  refine zFr_let (fun s3 es3 => ?_)
  have gs3 : zFr A σ s3 := by rw [es3]; exact g.w (h0 _)
  refine zFr_let (fun v5 ev5 => ?_)
  rw [gs3.rf] at ev5
  subst ev5
  refine zFr_let (fun v6 _ => ?_)
  refine zFr_let (fun s7 es7 => ?_)
  have gs7 : zFr A σ s7 := by rw [es7]; exact gs3.w (h1 _)
  refine zFr_let (fun v9 ev9 => ?_)
  rw [gs7.rf] at ev9
  subst ev9
  refine zFr_let (fun v10 _ => ?_)
  refine zFr_let (fun s11 es11 => ?_)
  have gs11 : zFr A σ s11 := by rw [es11]; exact gs7.w (h2 _)
  refine zFr_let (fun v13 ev13 => ?_)
  rw [gs11.rf] at ev13
  subst ev13
  refine zFr_let (fun v14 _ => ?_)
  refine zFr_let (fun s15 es15 => ?_)
  have gs15 : zFr A σ s15 := by rw [es15]; exact gs11.w (h3 _)
  refine zFr_let (fun v17 ev17 => ?_)
  rw [gs15.rf] at ev17
  subst ev17
  refine zFr_let (fun v18 _ => ?_)
  refine zFr_let (fun s19 es19 => ?_)
  have gs19 : zFr A σ s19 := by rw [es19]; exact gs15.w (h4 _)
  refine zFr_let (fun v21 _ => ?_)
  exact fr_X11_plain_37  h5 h6 _ _ _ gs19
set_option maxRecDepth 100000 in
theorem fr_X11_looks {A : Nat → Nat → Prop} {σ σ0 : zS} {a0 : Nat} {p1 : Int32} {p2 : Int32}  (g : zFr A σ σ0) (h0 : ∀ j, A ((σ.2.2 a0 45).getD 0) j) : zFr A σ (F_X11_looks a0 p1 p2 σ0) := by
  unfold F_X11_looks
  refine zFr_let (fun v1 ev1 => ?_)
  rw [g.rf] at ev1
  subst ev1
  refine zFr_let (fun v2 _ => ?_)
  refine zFr_let (fun v3 ev3 => ?_)
  rw [g.rf] at ev3
  subst ev3
  refine zFr_let (fun v4 _ => ?_)
  refine zFr_let (fun v5 _ => ?_)
  refine zFr_let (fun v6 _ => ?_)
  refine zFr_let (fun v7 _ => ?_)
  refine zFr_let (fun v8 _ => ?_)
  refine zFr_let (fun s9 es9 => ?_)
  have gs9 : zFr A σ s9 := by rw [es9]; exact g.w (h0 _)
  refine zFr_let (fun v12 ev12 => ?_)
  rw [gs9.rf] at ev12
  subst ev12
  refine zFr_let (fun v13 _ => ?_)
  refine zFr_let (fun v14 ev14 => ?_)
  rw [gs9.rf] at ev14
  subst ev14
  refine zFr_let (fun v15 _ => ?_)
  refine zFr_let (fun s16 es16 => ?_)
  have gs16 : zFr A σ s16 := by rw [es16]; exact gs9.w (h0 _)
  refine zFr_let (fun v19 ev19 => ?_)
  rw [gs16.rf] at ev19
  subst ev19
  refine zFr_let (fun v20 _ => ?_)
  refine zFr_let (fun v21 ev21 => ?_)
  rw [gs16.rf] at ev21
  subst ev21
  refine zFr_let (fun v22 _ => ?_)
  refine zFr_let (fun v23 _ => ?_)
  refine zFr_let (fun v24 _ => ?_)
  refine zFr_let (fun v25 _ => ?_)
  refine zFr_let (fun v26 _ => ?_)
  refine zFr_let (fun s27 es27 => ?_)
  have gs27 : zFr A σ s27 := by rw [es27]; exact gs16.w (h0 _)
  refine zFr_let (fun v30 ev30 => ?_)
  rw [gs27.rf] at ev30
  subst ev30
  refine zFr_let (fun v31 _ => ?_)
  refine zFr_let (fun v32 ev32 => ?_)
  rw [gs27.rf] at ev32
  subst ev32
  refine zFr_let (fun v33 _ => ?_)
  refine zFr_let (fun v34 _ => ?_)
  refine zFr_let (fun v35 _ => ?_)
  refine zFr_let (fun v36 _ => ?_)
  refine zFr_let (fun s37 es37 => ?_)
  have gs37 : zFr A σ s37 := by rw [es37]; exact gs27.w (h0 _)
  refine zFr_let (fun v40 ev40 => ?_)
  rw [gs37.rf] at ev40
  subst ev40
  refine zFr_let (fun v41 _ => ?_)
  refine zFr_let (fun s42 es42 => ?_)
  have gs42 : zFr A σ s42 := by rw [es42]; exact gs37.w (h0 _)
  refine zFr_let (fun v45 ev45 => ?_)
  rw [gs42.rf] at ev45
  subst ev45
  refine zFr_let (fun v46 _ => ?_)
  refine zFr_let (fun v47 ev47 => ?_)
  rw [gs42.rf] at ev47
  subst ev47
  refine zFr_let (fun v48 _ => ?_)
  refine zFr_let (fun v49 _ => ?_)
  refine zFr_let (fun v50 _ => ?_)
  refine zFr_let (fun v51 _ => ?_)
  refine zFr_let (fun v52 _ => ?_)
  refine zFr_let (fun s53 es53 => ?_)
  have gs53 : zFr A σ s53 := by rw [es53]; exact gs42.w (h0 _)
  refine zFr_let (fun v56 ev56 => ?_)
  rw [gs53.rf] at ev56
  subst ev56
  refine zFr_let (fun v57 _ => ?_)
  refine zFr_let (fun v58 ev58 => ?_)
  rw [gs53.rf] at ev58
  subst ev58
  refine zFr_let (fun v59 _ => ?_)
  refine zFr_let (fun v60 _ => ?_)
  refine zFr_let (fun v61 _ => ?_)
  refine zFr_let (fun s62 es62 => ?_)
  have gs62 : zFr A σ s62 := by rw [es62]; exact gs53.w (h0 _)
  refine zFr_let (fun v65 ev65 => ?_)
  rw [gs62.rf] at ev65
  subst ev65
  refine zFr_let (fun v66 _ => ?_)
  refine zFr_let (fun s67 es67 => ?_)
  have gs67 : zFr A σ s67 := by rw [es67]; exact gs62.w (h0 _)
  refine zFr_let (fun v70 ev70 => ?_)
  rw [gs67.rf] at ev70
  subst ev70
  refine zFr_let (fun v71 _ => ?_)
  refine zFr_let (fun v72 ev72 => ?_)
  rw [gs67.rf] at ev72
  subst ev72
  refine zFr_let (fun v73 _ => ?_)
  refine zFr_let (fun v74 _ => ?_)
  refine zFr_let (fun v75 _ => ?_)
  refine zFr_let (fun v76 _ => ?_)
  refine zFr_let (fun s77 es77 => ?_)
  have gs77 : zFr A σ s77 := by rw [es77]; exact gs67.w (h0 _)
  exact gs77
set_option maxRecDepth 100000 in
theorem fr_X11_termOf_5 {A : Nat → Nat → Prop} {σ : zS} {a0 : Nat} {p1 : Int32} {p2 : Int32}  (h0 : ∀ j, A ((σ.2.2 a0 46).getD 0) j) (h1 : A a0 47) : ∀ (n : Nat) (x2 : Int32) (x3 : Int32) (τ4 : zS), zFr A σ τ4 → zFp A σ (F_X11_termOf_5 a0 p1 p2 n x2 x3 τ4) := by
  intro n
  induction n with
  | zero => intro x2 x3 τ4 g; exact g
  | succ n ih =>
    intro x2 x3 τ4 g
    rw [F_X11_termOf_5]
    refine zFp_if (fun _ => ?_) (fun _ => ?_)
    · skip
      refine zFp_let (fun v9 ev9 => ?_)
      rw [g.rf] at ev9
      subst ev9
      refine zFp_let (fun v10 _ => ?_)
      refine zFp_let (fun v11 _ => ?_)
      refine zFp_if (fun _ => ?_) (fun _ => ?_)
      · skip
        refine zFp_let (fun v67 ev67 => ?_)
        rw [g.rf] at ev67
        subst ev67
        refine zFp_if (fun _ => ?_) (fun _ => ?_)
        · skip
          refine zFp_let (fun v77 ev77 => ?_)
          rw [g.rf] at ev77
          subst ev77
          refine zFp_let (fun v78 _ => ?_)
          refine zFp_let (fun s79 es79 => ?_)
          have gs79 : zFr A σ s79 := by rw [es79]; exact g.w (h0 _)
          refine zFp_let (fun v81 _ => ?_)
          refine zFp_let (fun v82 _ => ?_)
          exact ih _ _ _ gs79
        · skip
          refine zFp_let (fun v69 ev69 => ?_)
          rw [g.rf] at ev69
          subst ev69
          refine zFp_let (fun v70 ev70 => ?_)
          rw [g.rf] at ev70
          subst ev70
          refine zFp_let (fun v71 _ => ?_)
          refine zFp_let (fun v72 _ => ?_)
          refine zFp_let (fun s73 es73 => ?_)
          have gs73 : zFr A σ s73 := by rw [es73]; exact g.w (h0 _)
          refine zFp_let (fun v75 _ => ?_)
          refine zFp_let (fun v76 _ => ?_)
          exact ih _ _ _ gs73
      · skip
        refine zFp_let (fun v14 _ => ?_)
        refine zFp_let (fun v15 ev15 => ?_)
        rw [g.rf] at ev15
        subst ev15
        refine zFp_let (fun v16 _ => ?_)
        refine zFp_let (fun v17 _ => ?_)
        refine zFp_let (fun v18 _ => ?_)
        refine zFp_let (fun v19 ev19 => ?_)
        rw [g.rf] at ev19
        subst ev19
        refine zFp_let (fun v20 _ => ?_)
        refine zFp_let (fun v21 _ => ?_)
        refine zFp_if (fun _ => ?_) (fun _ => ?_)
        · skip
          refine zFp_if (fun _ => ?_) (fun _ => ?_)
          · skip
            refine zFp_let (fun v62 _ => ?_)
            refine zFp_let (fun s63 es63 => ?_)
            have gs63 : zFr A σ s63 := by rw [es63]; exact g.w h1
            refine zFp_let (fun v66 _ => ?_)
            exact gs63
          · skip
            refine zFp_let (fun v49 ev49 => ?_)
            rw [g.rf] at ev49
            subst ev49
            refine zFp_let (fun v50 _ => ?_)
            refine zFp_let (fun v51 _ => ?_)
            refine zFp_let (fun v52 _ => ?_)
            refine zFp_if (fun _ => ?_) (fun _ => ?_)
            · skip
              exact g
            · skip
              refine zFp_let (fun v54 _ => ?_)
              refine zFp_if (fun _ => ?_) (fun _ => ?_)
              · skip
                exact g
              · skip
                refine zFp_let (fun v56 _ => ?_)
                refine zFp_if (fun _ => ?_) (fun _ => ?_)
                · skip
                  exact g
                · skip
                  refine zFp_let (fun v58 _ => ?_)
                  refine zFp_let (fun s59 es59 => ?_)
                  have gs59 : zFr A σ s59 := by rw [es59]; exact g.w (h0 _)
                  refine zFp_let (fun v61 _ => ?_)
                  exact ih _ _ _ gs59
        · skip
          refine zFp_let (fun v23 ev23 => ?_)
          rw [g.rf] at ev23
          subst ev23
          refine zFp_let (fun v24 _ => ?_)
          refine zFp_let (fun v25 _ => ?_)
          refine zFp_let (fun v26 _ => ?_)
          refine zFp_if (fun _ => ?_) (fun _ => ?_)
          · skip
            refine zFp_let (fun v44 _ => ?_)
            refine zFp_let (fun s45 es45 => ?_)
            have gs45 : zFr A σ s45 := by rw [es45]; exact g.w (h0 _)
            refine zFp_let (fun v47 _ => ?_)
            exact ih _ _ _ gs45
          · skip
            refine zFp_let (fun v28 _ => ?_)
            refine zFp_if (fun _ => ?_) (fun _ => ?_)
            · skip
              refine zFp_let (fun v40 _ => ?_)
              refine zFp_let (fun s41 es41 => ?_)
              have gs41 : zFr A σ s41 := by rw [es41]; exact g.w (h0 _)
              refine zFp_let (fun v43 _ => ?_)
              exact ih _ _ _ gs41
            · skip
              refine zFp_let (fun v30 _ => ?_)
              refine zFp_if (fun _ => ?_) (fun _ => ?_)
              · skip
                refine zFp_let (fun v36 _ => ?_)
                refine zFp_let (fun s37 es37 => ?_)
                have gs37 : zFr A σ s37 := by rw [es37]; exact g.w (h0 _)
                refine zFp_let (fun v39 _ => ?_)
                exact ih _ _ _ gs37
              · skip
                refine zFp_let (fun v32 _ => ?_)
                refine zFp_let (fun s33 es33 => ?_)
                have gs33 : zFr A σ s33 := by rw [es33]; exact g.w (h0 _)
                refine zFp_let (fun v35 _ => ?_)
                exact ih _ _ _ gs33
    · skip
      refine zFp_let (fun v6 ev6 => ?_)
      rw [g.rf] at ev6
      subst ev6
      refine zFp_let (fun v7 _ => ?_)
      refine zFp_let (fun v8 _ => ?_)
      exact g
set_option maxRecDepth 100000 in
theorem fr_X11_termOf {A : Nat → Nat → Prop} {σ σ0 : zS} {a0 : Nat} {p1 : Int32} {p2 : Int32}  (g : zFr A σ σ0) (h0 : ∀ j, A ((σ.2.2 a0 46).getD 0) j) (h1 : A a0 47) : zFp A σ (F_X11_termOf a0 p1 p2 σ0) := by
  unfold F_X11_termOf
  refine zFp_let (fun v1 _ => ?_)
  exact fr_X11_termOf_5  h0 h1 _ _ _ _ g
set_option maxRecDepth 100000 in
theorem fr_X11_lawTells_39 {A : Nat → Nat → Prop} {σ : zS} {v4 : Int32} {a0 : Nat} {p1 : Int32} {p2 : Int32}  (h0 : ∀ j, A ((σ.2.2 a0 46).getD 0) j) (h1 : A a0 47) : ∀ (n : Nat) (x17 : Int32) (τ18 : zS), zFr A σ τ18 → zFp A σ (F_X11_lawTells_39 v4 a0 p1 p2 n x17 τ18) := by
  intro n
  induction n with
  | zero => intro x17 τ18 g; exact g
  | succ n ih =>
    intro x17 τ18 g
    rw [F_X11_lawTells_39]
    refine zFp_let (fun v19 ev19 => ?_)
    rw [g.rf] at ev19
    subst ev19
    refine zFp_let (fun v20 _ => ?_)
    refine zFp_if (fun _ => ?_) (fun _ => ?_)
    · skip
      refine zFp_let (fun v25 ev25 => ?_)
      rw [g.rf] at ev25
      subst ev25
      refine zFp_let (fun v26 _ => ?_)
      refine zFp_if (fun _ => ?_) (fun _ => ?_)
      · skip
        refine zFp_let (fun v28 ev28 => ?_)
        rw [g.rf] at ev28
        subst ev28
        refine zFp_let (fun v29 _ => ?_)
        refine zFp_let (fun v30 ev30 => ?_)
        rw [g.rf] at ev30
        subst ev30
        refine zFp_let (fun v31 _ => ?_)
        refine zFp_let2 (fun v33 t32 et32 => ?_)
        have gt32 : zFr A σ t32 := (fr_X11_termOf g h0 h1).of et32
        refine zFp_let (fun v35 _ => ?_)
        refine zFp_if (fun _ => ?_) (fun _ => ?_)
        · skip
          exact gt32
        · skip
          refine zFp_let (fun v37 _ => ?_)
          exact gt32
      · skip
        refine zFp_let (fun v38 ev38 => ?_)
        rw [g.rf] at ev38
        subst ev38
        refine zFp_let (fun v39 _ => ?_)
        refine zFp_let (fun v40 ev40 => ?_)
        rw [g.rf] at ev40
        subst ev40
        refine zFp_let (fun v41 _ => ?_)
        refine zFp_let2 (fun v43 t42 et42 => ?_)
        have gt42 : zFr A σ t42 := (fr_X11_termOf g h0 h1).of et42
        refine zFp_let (fun v45 ev45 => ?_)
        rw [gt42.rf] at ev45
        subst ev45
        refine zFp_let (fun v46 _ => ?_)
        refine zFp_let (fun v47 ev47 => ?_)
        rw [gt42.rf] at ev47
        subst ev47
        refine zFp_let (fun v48 _ => ?_)
        refine zFp_let2 (fun v50 t49 et49 => ?_)
        have gt49 : zFr A σ t49 := (fr_X11_termOf gt42 h0 h1).of et49
        refine zFp_let (fun v52 _ => ?_)
        refine zFp_if (fun _ => ?_) (fun _ => ?_)
        · skip
          refine zFp_if (fun _ => ?_) (fun _ => ?_)
          · skip
            refine zFp_let (fun v57 ev57 => ?_)
            rw [gt49.rf] at ev57
            subst ev57
            refine zFp_let (fun v58 _ => ?_)
            refine zFp_let (fun v59 ev59 => ?_)
            rw [gt49.rf] at ev59
            subst ev59
            refine zFp_let (fun v60 _ => ?_)
            refine zFp_let2 (fun v62 t61 et61 => ?_)
            have gt61 : zFr A σ t61 := (fr_X11_termOf gt49 h0 h1).of et61
            refine zFp_let (fun v64 _ => ?_)
            refine zFp_if (fun _ => ?_) (fun _ => ?_)
            · skip
              exact gt61
            · skip
              refine zFp_let (fun v66 _ => ?_)
              exact gt61
          · skip
            refine zFp_let (fun v67 _ => ?_)
            exact ih _ _ gt49
        · skip
          refine zFp_let (fun v68 _ => ?_)
          exact gt49
    · skip
      refine zFp_let (fun v24 _ => ?_)
      exact g
set_option maxRecDepth 100000 in
theorem fr_X11_lawTells {A : Nat → Nat → Prop} {σ σ0 : zS} {a0 : Nat} {p1 : Int32} {p2 : Int32}  (g : zFr A σ σ0) (h0 : A a0 47) (h1 : ∀ j, A ((σ.2.2 a0 46).getD 0) j) : zFp A σ (F_X11_lawTells a0 p1 p2 σ0) := by
  unfold F_X11_lawTells
  refine zFp_let (fun v1 _ => ?_)
  refine zFp_let (fun v2 _ => ?_)
  refine zFp_let (fun v3 _ => ?_)
  refine zFp_let (fun v4 _ => ?_)
  refine zFp_let (fun v5 ev5 => ?_)
  rw [g.rf] at ev5
  subst ev5
  refine zFp_let (fun v6 _ => ?_)
  refine zFp_let (fun v7 ev7 => ?_)
  rw [g.rf] at ev7
  subst ev7
  refine zFp_let (fun v8 _ => ?_)
  refine zFp_if (fun _ => ?_) (fun _ => ?_)
  · skip
    exact g
  · skip
    refine zFp_let (fun v10 _ => ?_)
    refine zFp_let (fun s11 es11 => ?_)
    have gs11 : zFr A σ s11 := by rw [es11]; exact g.w h0
    refine zFp_let (fun v15 ev15 => ?_)
    rw [gs11.rf] at ev15
    subst ev15
    refine zFp_let (fun v16 _ => ?_)
    exact fr_X11_lawTells_39  h1 h0 _ _ _ gs11
set_option maxRecDepth 100000 in
theorem fr_X11_rainsAt {A : Nat → Nat → Prop} {σ σ0 : zS} {a0 : Nat} {p1 : Int32}  (g : zFr A σ σ0) (h0 : ∀ j, A ((σ.2.2 a0 45).getD 0) j) (h1 : A a0 47) (h2 : ∀ j, A ((σ.2.2 a0 46).getD 0) j) : zFp A σ (F_X11_rainsAt a0 p1 σ0) := by
  unfold F_X11_rainsAt
  refine zFp_let (fun v1 _ => ?_)
  refine zFp_let (fun t2 et2 => ?_)
  have gt2 : zFr A σ t2 := by rw [et2]; exact fr_X11_looks g h0
  refine zFp_let (fun v4 _ => ?_)
  refine zFp_let (fun v5 ev5 => ?_)
  rw [gt2.rf] at ev5
  subst ev5
  refine zFp_let (fun v6 _ => ?_)
  refine zFp_let (fun v7 _ => ?_)
  refine zFp_let2 (fun v9 t8 et8 => ?_)
  have gt8 : zFr A σ t8 := (fr_X11_lawTells gt2 h1 h2).of et8
  refine zFp_let (fun v11 _ => ?_)
  refine zFp_let (fun v12 _ => ?_)
  refine zFp_let (fun v13 _ => ?_)
  exact gt8
set_option maxRecDepth 100000 in
theorem fr_X11_driesAt {A : Nat → Nat → Prop} {σ σ0 : zS} {a0 : Nat} {p1 : Int32}  (g : zFr A σ σ0) (h0 : ∀ j, A ((σ.2.2 a0 45).getD 0) j) (h1 : A a0 47) (h2 : ∀ j, A ((σ.2.2 a0 46).getD 0) j) : zFp A σ (F_X11_driesAt a0 p1 σ0) := by
  unfold F_X11_driesAt
  refine zFp_let (fun v1 ev1 => ?_)
  rw [g.rf] at ev1
  subst ev1
  refine zFp_let (fun v2 _ => ?_)
  refine zFp_let (fun t3 et3 => ?_)
  have gt3 : zFr A σ t3 := by rw [et3]; exact fr_X11_looks g h0
  refine zFp_let (fun v5 _ => ?_)
  refine zFp_let (fun v6 _ => ?_)
  refine zFp_let2 (fun v8 t7 et7 => ?_)
  have gt7 : zFr A σ t7 := (fr_X11_lawTells gt3 h1 h2).of et7
  refine zFp_let (fun v10 _ => ?_)
  refine zFp_let (fun v11 ev11 => ?_)
  rw [gt7.rf] at ev11
  subst ev11
  refine zFp_let (fun v12 _ => ?_)
  refine zFp_let (fun v13 _ => ?_)
  exact gt7
set_option maxRecDepth 100000 in
theorem fr_X11_claimOf {A : Nat → Nat → Prop} {σ σ0 : zS} {a0 : Nat} {p1 : Int32} {p2 : Int32}  (g : zFr A σ σ0) (h0 : ∀ j, A ((σ.2.2 a0 45).getD 0) j) (h1 : A a0 47) (h2 : ∀ j, A ((σ.2.2 a0 46).getD 0) j) : zFp A σ (F_X11_claimOf a0 p1 p2 σ0) := by
  unfold F_X11_claimOf
  refine zFp_let (fun v1 ev1 => ?_)
  rw [g.rf] at ev1
  subst ev1
  refine zFp_let (fun v2 _ => ?_)
  refine zFp_let (fun t3 et3 => ?_)
  have gt3 : zFr A σ t3 := by rw [et3]; exact fr_X11_looks g h0
  refine zFp_if (fun _ => ?_) (fun _ => ?_)
  · skip
    refine zFp_let (fun v30 ev30 => ?_)
    rw [gt3.rf] at ev30
    subst ev30
    refine zFp_let (fun v31 _ => ?_)
    refine zFp_let (fun v32 _ => ?_)
    refine zFp_let (fun v33 _ => ?_)
    refine zFp_let (fun v34 _ => ?_)
    refine zFp_let2 (fun v36 t35 et35 => ?_)
    have gt35 : zFr A σ t35 := (fr_X11_lawTells gt3 h1 h2).of et35
    refine zFp_let (fun v38 _ => ?_)
    refine zFp_let (fun v39 _ => ?_)
    refine zFp_let (fun v40 _ => ?_)
    exact gt35
  · skip
    refine zFp_let (fun v6 _ => ?_)
    refine zFp_if (fun _ => ?_) (fun _ => ?_)
    · skip
      refine zFp_let (fun v19 ev19 => ?_)
      rw [gt3.rf] at ev19
      subst ev19
      refine zFp_let (fun v20 _ => ?_)
      refine zFp_let (fun v21 _ => ?_)
      refine zFp_let (fun v22 _ => ?_)
      refine zFp_let (fun v23 _ => ?_)
      refine zFp_let2 (fun v25 t24 et24 => ?_)
      have gt24 : zFr A σ t24 := (fr_X11_lawTells gt3 h1 h2).of et24
      refine zFp_let (fun v27 _ => ?_)
      refine zFp_let (fun v28 _ => ?_)
      refine zFp_let (fun v29 _ => ?_)
      exact gt24
    · skip
      refine zFp_let (fun v8 ev8 => ?_)
      rw [gt3.rf] at ev8
      subst ev8
      refine zFp_let (fun v9 _ => ?_)
      refine zFp_let (fun v10 _ => ?_)
      refine zFp_let (fun v11 _ => ?_)
      refine zFp_let (fun v12 _ => ?_)
      refine zFp_let2 (fun v14 t13 et13 => ?_)
      have gt13 : zFr A σ t13 := (fr_X11_lawTells gt3 h1 h2).of et13
      refine zFp_let (fun v16 _ => ?_)
      refine zFp_let (fun v17 _ => ?_)
      refine zFp_let (fun v18 _ => ?_)
      exact gt13
set_option maxRecDepth 100000 in
theorem fr_X11_winnerBy_8 {A : Nat → Nat → Prop} {σ : zS} {a0 : Nat} {p1 : Int32}  (h0 : ∀ j, A ((σ.2.2 a0 45).getD 0) j) (h1 : A a0 47) (h2 : ∀ j, A ((σ.2.2 a0 46).getD 0) j) : ∀ (n : Nat) (x4 : Int32) (x5 : Int32) (x6 : Int32) (τ7 : zS), zFr A σ τ7 → zFp A σ (F_X11_winnerBy_8 a0 p1 n x4 x5 x6 τ7) := by
  intro n
  induction n with
  | zero => intro x4 x5 x6 τ7 g; exact g
  | succ n ih =>
    intro x4 x5 x6 τ7 g
    rw [F_X11_winnerBy_8]
    refine zFp_let (fun v9 _ => ?_)
    refine zFp_if (fun _ => ?_) (fun _ => ?_)
    · skip
      refine zFp_let (fun v12 _ => ?_)
      refine zFp_if (fun _ => ?_) (fun _ => ?_)
      · skip
        refine zFp_let (fun v24 _ => ?_)
        exact ih _ _ _ _ g
      · skip
        refine zFp_let2 (fun v15 t14 et14 => ?_)
        have gt14 : zFr A σ t14 := (fr_X11_claimOf g h0 h1 h2).of et14
        refine zFp_if (fun _ => ?_) (fun _ => ?_)
        · skip
          refine zFp_let (fun v18 _ => ?_)
          exact ih _ _ _ _ gt14
        · skip
          refine zFp_if (fun _ => ?_) (fun _ => ?_)
          · skip
            refine zFp_let (fun v22 _ => ?_)
            exact ih _ _ _ _ gt14
          · skip
            refine zFp_let (fun v23 _ => ?_)
            exact ih _ _ _ _ gt14
    · skip
      exact g
set_option maxRecDepth 100000 in
theorem fr_X11_winnerBy {A : Nat → Nat → Prop} {σ σ0 : zS} {a0 : Nat} {p1 : Int32}  (g : zFr A σ σ0) (h0 : ∀ j, A ((σ.2.2 a0 45).getD 0) j) (h1 : A a0 47) (h2 : ∀ j, A ((σ.2.2 a0 46).getD 0) j) : zFp A σ (F_X11_winnerBy a0 p1 σ0) := by
  unfold F_X11_winnerBy
  refine zFp_let (fun v1 _ => ?_)
  refine zFp_let (fun v2 _ => ?_)
  refine zFp_let (fun v3 _ => ?_)
  exact fr_X11_winnerBy_8  h0 h1 h2 _ _ _ _ _ g
set_option maxRecDepth 100000 in
theorem fr_X11_fillsWays_61 {A : Nat → Nat → Prop} {σ : zS} {x8 : Int32} {a0 : Nat} {kLp3 : Int32 → zS → zS} {kLp9 : Int32 → zS → zS} (ckLp3 : ∀ (y0 : Int32) (s : zS), zFr A σ s → zFr A σ (kLp3 y0 s)) (ckLp9 : ∀ (y0 : Int32) (s : zS), zFr A σ s → zFr A σ (kLp9 y0 s)) (h0 : ∀ j, A ((σ.2.2 a0 52).getD 0) j) (h1 : ∀ j, A ((σ.2.2 a0 53).getD 0) j) (h2 : ∀ j, A ((σ.2.2 a0 54).getD 0) j) : ∀ (n : Nat) (x28 : Int32) (τ29 : zS), zFr A σ τ29 → zFr A σ (F_X11_fillsWays_61 x8 a0 kLp3 kLp9 n x28 τ29) := by
  intro n
  induction n with
  | zero => intro x28 τ29 g; exact g
  | succ n ih =>
    intro x28 τ29 g
    rw [F_X11_fillsWays_61]
    refine zFr_if (fun _ => ?_) (fun _ => ?_)
    · skip
      refine zFr_let (fun v32 ev32 => ?_)
      rw [g.rf] at ev32
      subst ev32
      refine zFr_let (fun v33 _ => ?_)
      refine zFr_let (fun v34 ev34 => ?_)
      rw [g.rf] at ev34
      subst ev34
      refine zFr_let (fun v35 _ => ?_)
      refine zFr_let (fun v36 _ => ?_)
      refine zFr_let (fun v37 _ => ?_)
      refine zFr_let (fun v38 _ => ?_)
      refine zFr_let (fun v39 _ => ?_)
      refine zFr_let (fun v40 _ => ?_)
      refine zFr_let (fun s41 es41 => ?_)
      have gs41 : zFr A σ s41 := by rw [es41]; exact g.w (h0 _)
      refine zFr_let (fun v44 ev44 => ?_)
      rw [gs41.rf] at ev44
      subst ev44
      refine zFr_let (fun v45 _ => ?_)
      refine zFr_let (fun v46 _ => ?_)
      refine zFr_let (fun v47 _ => ?_)
      refine zFr_let (fun s48 es48 => ?_)
      have gs48 : zFr A σ s48 := by rw [es48]; exact gs41.w (h1 _)
      refine zFr_let (fun v51 ev51 => ?_)
      rw [gs48.rf] at ev51
      subst ev51
      refine zFr_let (fun v52 _ => ?_)
      refine zFr_let (fun v53 ev53 => ?_)
      rw [gs48.rf] at ev53
      subst ev53
      refine zFr_let (fun v54 _ => ?_)
      refine zFr_let (fun v55 _ => ?_)
      refine zFr_let (fun v56 _ => ?_)
      refine zFr_let (fun v57 _ => ?_)
      refine zFr_let (fun s58 es58 => ?_)
      have gs58 : zFr A σ s58 := by rw [es58]; exact gs48.w (h2 _)
      exact ih _ _ gs58
    · skip
      refine zFr_let (fun v31 _ => ?_)
      exact ckLp9 _ _ g
set_option maxRecDepth 100000 in
theorem fr_X11_fillsWays_25 {A : Nat → Nat → Prop} {σ : zS} {a0 : Nat} {kLp3 : Int32 → zS → zS} (ckLp3 : ∀ (y0 : Int32) (s : zS), zFr A σ s → zFr A σ (kLp3 y0 s)) (h0 : ∀ j, A ((σ.2.2 a0 52).getD 0) j) (h1 : ∀ j, A ((σ.2.2 a0 53).getD 0) j) (h2 : ∀ j, A ((σ.2.2 a0 54).getD 0) j) : ∀ (n : Nat) (x8 : Int32) (τ9 : zS), zFr A σ τ9 → zFr A σ (F_X11_fillsWays_25 a0 kLp3 n x8 τ9) := by
  intro n
  induction n with
  | zero => intro x8 τ9 g; exact g
  | succ n ih =>
    intro x8 τ9 g
    rw [F_X11_fillsWays_25]
    refine zFr_let (fun v11 _ => ?_)
    refine zFr_if (fun _ => ?_) (fun _ => ?_)
    · skip
      refine zFr_let (fun v13 ev13 => ?_)
      rw [g.rf] at ev13
      subst ev13
      refine zFr_let (fun v14 _ => ?_)
      refine zFr_let (fun s15 es15 => ?_)
      have gs15 : zFr A σ s15 := by rw [es15]; exact g.w (h0 _)
      refine zFr_let (fun v17 ev17 => ?_)
      rw [gs15.rf] at ev17
      subst ev17
      refine zFr_let (fun v18 _ => ?_)
      refine zFr_let (fun s19 es19 => ?_)
      have gs19 : zFr A σ s19 := by rw [es19]; exact gs15.w (h1 _)
      refine zFr_let (fun v21 ev21 => ?_)
      rw [gs19.rf] at ev21
      subst ev21
      refine zFr_let (fun v22 _ => ?_)
      refine zFr_let (fun v23 _ => ?_)
      refine zFr_let (fun v24 _ => ?_)
      refine zFr_let (fun v25 _ => ?_)
      refine zFr_let (fun s26 es26 => ?_)
      have gs26 : zFr A σ s26 := by rw [es26]; exact gs19.w (h2 _)
      exact fr_X11_fillsWays_61 ckLp3 ih h0 h1 h2 _ _ _ gs26
    · skip
      exact g
set_option maxRecDepth 100000 in
theorem fr_X11_fillsWays_2 {A : Nat → Nat → Prop} {σ : zS} {a0 : Nat}  (h0 : ∀ j, A ((σ.2.2 a0 54).getD 0) j) (h1 : ∀ j, A ((σ.2.2 a0 52).getD 0) j) (h2 : ∀ j, A ((σ.2.2 a0 53).getD 0) j) : ∀ (n : Nat) (x2 : Int32) (τ3 : zS), zFr A σ τ3 → zFr A σ (F_X11_fillsWays_2 a0 n x2 τ3) := by
  intro n
  induction n with
  | zero => intro x2 τ3 g; exact g
  | succ n ih =>
    intro x2 τ3 g
    rw [F_X11_fillsWays_2]
    refine zFr_let (fun v5 _ => ?_)
    refine zFr_if (fun _ => ?_) (fun _ => ?_)
    · skip
      refine zFr_let (fun v61 ev61 => ?_)
      rw [g.rf] at ev61
      subst ev61
      refine zFr_let (fun v62 _ => ?_)
      refine zFr_let (fun s63 es63 => ?_)
      have gs63 : zFr A σ s63 := by rw [es63]; exact g.w (h0 _)
      refine zFr_let (fun v65 _ => ?_)
      exact ih _ _ gs63
    · skip
      refine zFr_let (fun v7 _ => ?_)
      exact fr_X11_fillsWays_25 ih h1 h2 h0 _ _ _ g
set_option maxRecDepth 100000 in
theorem fr_X11_fillsWays {A : Nat → Nat → Prop} {σ σ0 : zS} {a0 : Nat}  (g : zFr A σ σ0) (h0 : ∀ j, A ((σ.2.2 a0 54).getD 0) j) (h1 : ∀ j, A ((σ.2.2 a0 52).getD 0) j) (h2 : ∀ j, A ((σ.2.2 a0 53).getD 0) j) : zFr A σ (F_X11_fillsWays a0 σ0) := by
  unfold F_X11_fillsWays
  refine zFr_let (fun v1 _ => ?_)
  exact fr_X11_fillsWays_2  h0 h1 h2 _ _ _ g
set_option maxRecDepth 100000 in
theorem fr_X11_fillsFlows_38 {A : Nat → Nat → Prop} {σ : zS} {x8 : Int32} {a0 : Nat} {p1 : Int32} {kLp3 : Int32 → zS → zS} {kLp9 : Int32 → zS → zS} (ckLp3 : ∀ (y0 : Int32) (s : zS), zFr A σ s → zFr A σ (kLp3 y0 s)) (ckLp9 : ∀ (y0 : Int32) (s : zS), zFr A σ s → zFr A σ (kLp9 y0 s)) (h0 : ∀ j, A ((σ.2.2 a0 45).getD 0) j) (h1 : A a0 47) (h2 : ∀ j, A ((σ.2.2 a0 46).getD 0) j) (h3 : ∀ j, A ((σ.2.2 a0 55).getD 0) j) : ∀ (n : Nat) (x12 : Int32) (τ13 : zS), zFr A σ τ13 → zFr A σ (F_X11_fillsFlows_38 x8 a0 p1 kLp3 kLp9 n x12 τ13) := by
  intro n
  induction n with
  | zero => intro x12 τ13 g; exact g
  | succ n ih =>
    intro x12 τ13 g
    rw [F_X11_fillsFlows_38]
    refine zFr_let (fun v15 _ => ?_)
    refine zFr_if (fun _ => ?_) (fun _ => ?_)
    · skip
      refine zFr_let (fun v18 ev18 => ?_)
      rw [g.rf] at ev18
      subst ev18
      refine zFr_let (fun v19 _ => ?_)
      refine zFr_if (fun _ => ?_) (fun _ => ?_)
      · skip
        refine zFr_let (fun v22 ev22 => ?_)
        rw [g.rf] at ev22
        subst ev22
        refine zFr_let (fun v23 _ => ?_)
        refine zFr_let (fun v24 _ => ?_)
        refine zFr_let (fun v25 _ => ?_)
        refine zFr_let (fun v26 _ => ?_)
        refine zFr_if (fun _ => ?_) (fun _ => ?_)
        · skip
          refine zFr_let (fun v42 _ => ?_)
          exact ih _ _ g
        · skip
          refine zFr_let (fun v28 ev28 => ?_)
          rw [g.rf] at ev28
          subst ev28
          refine zFr_let (fun v29 _ => ?_)
          refine zFr_let2 (fun v31 t30 et30 => ?_)
          have gt30 : zFr A σ t30 := (fr_X11_driesAt g h0 h1 h2).of et30
          refine zFr_let (fun v33 _ => ?_)
          refine zFr_let (fun v34 ev34 => ?_)
          rw [gt30.rf] at ev34
          subst ev34
          refine zFr_let (fun v35 ev35 => ?_)
          rw [gt30.rf] at ev35
          subst ev35
          refine zFr_let (fun v36 _ => ?_)
          refine zFr_let (fun v37 _ => ?_)
          refine zFr_let (fun v38 _ => ?_)
          refine zFr_let (fun s39 es39 => ?_)
          have gs39 : zFr A σ s39 := by rw [es39]; exact gt30.w (h3 _)
          refine zFr_let (fun v41 _ => ?_)
          exact ih _ _ gs39
      · skip
        refine zFr_let (fun v21 _ => ?_)
        exact ih _ _ g
    · skip
      refine zFr_let (fun v17 _ => ?_)
      exact ckLp9 _ _ g
set_option maxRecDepth 100000 in
theorem fr_X11_fillsFlows_32 {A : Nat → Nat → Prop} {σ : zS} {a0 : Nat} {p1 : Int32} {kLp3 : Int32 → zS → zS} (ckLp3 : ∀ (y0 : Int32) (s : zS), zFr A σ s → zFr A σ (kLp3 y0 s)) (h0 : ∀ j, A ((σ.2.2 a0 45).getD 0) j) (h1 : A a0 47) (h2 : ∀ j, A ((σ.2.2 a0 46).getD 0) j) (h3 : ∀ j, A ((σ.2.2 a0 55).getD 0) j) : ∀ (n : Nat) (x8 : Int32) (τ9 : zS), zFr A σ τ9 → zFr A σ (F_X11_fillsFlows_32 a0 p1 kLp3 n x8 τ9) := by
  intro n
  induction n with
  | zero => intro x8 τ9 g; exact g
  | succ n ih =>
    intro x8 τ9 g
    rw [F_X11_fillsFlows_32]
    refine zFr_if (fun _ => ?_) (fun _ => ?_)
    · skip
      refine zFr_let (fun v11 _ => ?_)
      exact fr_X11_fillsFlows_38 ckLp3 ih h0 h1 h2 h3 _ _ _ g
    · skip
      exact g
set_option maxRecDepth 100000 in
theorem fr_X11_fillsFlows_2 {A : Nat → Nat → Prop} {σ : zS} {a0 : Nat} {p1 : Int32}  (h0 : ∀ j, A ((σ.2.2 a0 45).getD 0) j) (h1 : A a0 47) (h2 : ∀ j, A ((σ.2.2 a0 46).getD 0) j) (h3 : ∀ j, A ((σ.2.2 a0 55).getD 0) j) : ∀ (n : Nat) (x2 : Int32) (τ3 : zS), zFr A σ τ3 → zFr A σ (F_X11_fillsFlows_2 a0 p1 n x2 τ3) := by
  intro n
  induction n with
  | zero => intro x2 τ3 g; exact g
  | succ n ih =>
    intro x2 τ3 g
    rw [F_X11_fillsFlows_2]
    refine zFr_let (fun v5 _ => ?_)
    refine zFr_if (fun _ => ?_) (fun _ => ?_)
    · skip
      refine zFr_let (fun v43 ev43 => ?_)
      rw [g.rf] at ev43
      subst ev43
      refine zFr_let2 (fun v45 t44 et44 => ?_)
      have gt44 : zFr A σ t44 := (fr_X11_rainsAt g h0 h1 h2).of et44
      refine zFr_let (fun v48 _ => ?_)
      refine zFr_let (fun s49 es49 => ?_)
      have gs49 : zFr A σ s49 := by rw [es49]; exact gt44.w (h3 _)
      refine zFr_let (fun v51 _ => ?_)
      exact ih _ _ gs49
    · skip
      refine zFr_let (fun v7 _ => ?_)
      exact fr_X11_fillsFlows_32 ih h0 h1 h2 h3 _ _ _ g
set_option maxRecDepth 100000 in
theorem fr_X11_fillsFlows {A : Nat → Nat → Prop} {σ σ0 : zS} {a0 : Nat} {p1 : Int32}  (g : zFr A σ σ0) (h0 : ∀ j, A ((σ.2.2 a0 45).getD 0) j) (h1 : A a0 47) (h2 : ∀ j, A ((σ.2.2 a0 46).getD 0) j) (h3 : ∀ j, A ((σ.2.2 a0 55).getD 0) j) : zFr A σ (F_X11_fillsFlows a0 p1 σ0) := by
  unfold F_X11_fillsFlows
  refine zFr_let (fun v1 _ => ?_)
  exact fr_X11_fillsFlows_2  h0 h1 h2 h3 _ _ _ g
set_option maxRecDepth 100000 in
theorem fr_X11_copies_2 {A : Nat → Nat → Prop} {σ : zS} {a0 : Nat}  (h0 : ∀ j, A ((σ.2.2 a0 49).getD 0) j) (h1 : A a0 50) (h2 : A a0 51) (h3 : ∀ j, A ((σ.2.2 a0 54).getD 0) j) (h4 : ∀ j, A ((σ.2.2 a0 52).getD 0) j) (h5 : ∀ j, A ((σ.2.2 a0 53).getD 0) j) (h6 : ∀ j, A ((σ.2.2 a0 45).getD 0) j) (h7 : A a0 47) (h8 : ∀ j, A ((σ.2.2 a0 46).getD 0) j) (h9 : ∀ j, A ((σ.2.2 a0 55).getD 0) j) : ∀ (n : Nat) (x2 : Int32) (τ3 : zS), zFr A σ τ3 → zFr A σ (F_X11_copies_2 a0 n x2 τ3) := by
  intro n
  induction n with
  | zero => intro x2 τ3 g; exact g
  | succ n ih =>
    intro x2 τ3 g
    rw [F_X11_copies_2]
    refine zFr_let (fun v4 _ => ?_)
    refine zFr_if (fun _ => ?_) (fun _ => ?_)
    · skip
      refine zFr_let (fun v30 ev30 => ?_)
      rw [g.rf] at ev30
      subst ev30
      refine zFr_let (fun v31 ev31 => ?_)
      rw [g.rf] at ev31
      subst ev31
      refine zFr_let (fun v32 _ => ?_)
      refine zFr_let (fun s33 es33 => ?_)
      have gs33 : zFr A σ s33 := by rw [es33]; exact g.w (h0 _)
      refine zFr_let (fun v35 _ => ?_)
      exact ih _ _ gs33
    · skip
      refine zFr_let (fun v6 ev6 => ?_)
      rw [g.rf] at ev6
      subst ev6
      refine zFr_let (fun v7 _ => ?_)
      refine zFr_let (fun v8 _ => ?_)
      refine zFr_let (fun s9 es9 => ?_)
      have gs9 : zFr A σ s9 := by rw [es9]; exact g.w h1
      refine zFr_let (fun v13 _ => ?_)
      refine zFr_let (fun s14 es14 => ?_)
      have gs14 : zFr A σ s14 := by rw [es14]; exact gs9.w h2
      refine zFr_let (fun t19 et19 => ?_)
      have gt19 : zFr A σ t19 := by rw [et19]; exact fr_X11_fillsWays gs14 h3 h4 h5
      refine zFr_let (fun v24 _ => ?_)
      refine zFr_let (fun t25 et25 => ?_)
      have gt25 : zFr A σ t25 := by rw [et25]; exact fr_X11_fillsFlows gt19 h6 h7 h8 h9
      exact gt25
set_option maxRecDepth 100000 in
theorem fr_X11_copies {A : Nat → Nat → Prop} {σ σ0 : zS} {a0 : Nat}  (g : zFr A σ σ0) (h0 : ∀ j, A ((σ.2.2 a0 49).getD 0) j) (h1 : A a0 50) (h2 : A a0 51) (h3 : ∀ j, A ((σ.2.2 a0 54).getD 0) j) (h4 : ∀ j, A ((σ.2.2 a0 52).getD 0) j) (h5 : ∀ j, A ((σ.2.2 a0 53).getD 0) j) (h6 : ∀ j, A ((σ.2.2 a0 45).getD 0) j) (h7 : A a0 47) (h8 : ∀ j, A ((σ.2.2 a0 46).getD 0) j) (h9 : ∀ j, A ((σ.2.2 a0 55).getD 0) j) : zFr A σ (F_X11_copies a0 σ0) := by
  unfold F_X11_copies
  refine zFr_let (fun v1 _ => ?_)
  exact fr_X11_copies_2  h0 h1 h2 h3 h4 h5 h6 h7 h8 h9 _ _ _ g
set_option maxRecDepth 100000 in
theorem fr_X11_monthGoes {A : Nat → Nat → Prop} {σ σ0 : zS} {a0 : Nat}  (g : zFr A σ σ0) (h0 : ∀ j, A ((σ.2.2 a0 45).getD 0) j) (h1 : A a0 47) (h2 : ∀ j, A ((σ.2.2 a0 46).getD 0) j) (h3 : ∀ j, A ((σ.2.2 a0 55).getD 0) j) (h4 : A a0 56) (h5 : ∀ j, A ((σ.2.2 a0 49).getD 0) j) : zFr A σ (F_X11_monthGoes a0 σ0) := by
  unfold F_X11_monthGoes
  refine zFr_let (fun v1 _ => ?_)
  refine zFr_if (fun _ => ?_) (fun _ => ?_)
  · skip
    refine zFr_let (fun v83 _ => ?_)
    refine zFr_if (fun _ => ?_) (fun _ => ?_)
    · skip
      refine zFr_let (fun v85 _ => ?_)
      refine zFr_let (fun t86 et86 => ?_)
      have gt86 : zFr A σ t86 := by rw [et86]; exact fr_X11_fillsFlows g h0 h1 h2 h3
      refine zFr_let (fun v89 ev89 => ?_)
      rw [gt86.rf] at ev89
      subst ev89
      refine zFr_let (fun v90 _ => ?_)
      refine zFr_let (fun v91 _ => ?_)
      refine zFr_let2 (fun v93 t92 et92 => ?_)
      have gt92 : zFr A σ t92 := (fr_X11_winnerBy gt86 h0 h1 h2).of et92
      refine zFr_let (fun s96 es96 => ?_)
      have gs96 : zFr A σ s96 := by rw [es96]; exact gt92.w h4
      refine zFr_let (fun v100 _ => ?_)
      refine zFr_if (fun _ => ?_) (fun _ => ?_)
      · skip
        refine zFr_let (fun v102 ev102 => ?_)
        rw [gs96.rf] at ev102
        subst ev102
        refine zFr_let (fun v103 _ => ?_)
        refine zFr_let (fun v104 _ => ?_)
        refine zFr_let (fun v105 _ => ?_)
        refine zFr_let (fun v106 _ => ?_)
        refine zFr_let (fun s107 es107 => ?_)
        have gs107 : zFr A σ s107 := by rw [es107]; exact gs96.w (h5 _)
        refine zFr_let (fun v111 _ => ?_)
        refine zFr_let (fun t112 et112 => ?_)
        have gt112 : zFr A σ t112 := by rw [et112]; exact fr_X11_fillsFlows gs107 h0 h1 h2 h3
        exact gt112
      · skip
        refine zFr_let (fun v116 ev116 => ?_)
        rw [gs96.rf] at ev116
        subst ev116
        refine zFr_let (fun v117 _ => ?_)
        refine zFr_let (fun v118 _ => ?_)
        refine zFr_let (fun v119 _ => ?_)
        refine zFr_let (fun v120 ev120 => ?_)
        rw [gs96.rf] at ev120
        subst ev120
        refine zFr_let (fun v121 _ => ?_)
        refine zFr_let (fun v122 _ => ?_)
        refine zFr_let (fun v123 _ => ?_)
        refine zFr_let (fun v124 _ => ?_)
        refine zFr_let (fun v125 _ => ?_)
        refine zFr_let (fun v126 _ => ?_)
        refine zFr_let (fun v127 _ => ?_)
        refine zFr_let (fun v128 _ => ?_)
        refine zFr_let (fun v129 _ => ?_)
        refine zFr_let (fun s130 es130 => ?_)
        have gs130 : zFr A σ s130 := by rw [es130]; exact gs96.w (h5 _)
        refine zFr_let (fun v134 ev134 => ?_)
        rw [gs130.rf] at ev134
        subst ev134
        refine zFr_let (fun v135 _ => ?_)
        refine zFr_let (fun v136 _ => ?_)
        refine zFr_let (fun v137 _ => ?_)
        refine zFr_let (fun v138 _ => ?_)
        refine zFr_let (fun v139 ev139 => ?_)
        rw [gs130.rf] at ev139
        subst ev139
        refine zFr_let (fun v140 _ => ?_)
        refine zFr_let (fun v141 _ => ?_)
        refine zFr_let (fun v142 _ => ?_)
        refine zFr_let (fun s143 es143 => ?_)
        have gs143 : zFr A σ s143 := by rw [es143]; exact gs130.w (h5 _)
        refine zFr_let (fun v148 ev148 => ?_)
        rw [gs143.rf] at ev148
        subst ev148
        refine zFr_let (fun v149 _ => ?_)
        refine zFr_let (fun v150 _ => ?_)
        refine zFr_let (fun v151 _ => ?_)
        refine zFr_let (fun v152 _ => ?_)
        refine zFr_let (fun s153 es153 => ?_)
        have gs153 : zFr A σ s153 := by rw [es153]; exact gs143.w (h5 _)
        refine zFr_let (fun v158 _ => ?_)
        refine zFr_let (fun t159 et159 => ?_)
        have gt159 : zFr A σ t159 := by rw [et159]; exact fr_X11_fillsFlows gs153 h0 h1 h2 h3
        exact gt159
    · skip
      refine zFr_let (fun v164 ev164 => ?_)
      rw [g.rf] at ev164
      subst ev164
      refine zFr_let (fun v165 _ => ?_)
      refine zFr_let (fun v166 _ => ?_)
      refine zFr_let (fun t167 et167 => ?_)
      have gt167 : zFr A σ t167 := by rw [et167]; exact fr_X11_fillsFlows g h0 h1 h2 h3
      refine zFr_let (fun v171 ev171 => ?_)
      rw [gt167.rf] at ev171
      subst ev171
      refine zFr_let (fun v172 _ => ?_)
      refine zFr_let (fun v173 _ => ?_)
      refine zFr_let2 (fun v175 t174 et174 => ?_)
      have gt174 : zFr A σ t174 := (fr_X11_winnerBy gt167 h0 h1 h2).of et174
      refine zFr_let (fun s179 es179 => ?_)
      have gs179 : zFr A σ s179 := by rw [es179]; exact gt174.w h4
      refine zFr_let (fun v184 _ => ?_)
      refine zFr_if (fun _ => ?_) (fun _ => ?_)
      · skip
        refine zFr_let (fun v186 ev186 => ?_)
        rw [gs179.rf] at ev186
        subst ev186
        refine zFr_let (fun v187 _ => ?_)
        refine zFr_let (fun v188 _ => ?_)
        refine zFr_let (fun v189 _ => ?_)
        refine zFr_let (fun v190 _ => ?_)
        refine zFr_let (fun s191 es191 => ?_)
        have gs191 : zFr A σ s191 := by rw [es191]; exact gs179.w (h5 _)
        refine zFr_let (fun v196 _ => ?_)
        refine zFr_let (fun t197 et197 => ?_)
        have gt197 : zFr A σ t197 := by rw [et197]; exact fr_X11_fillsFlows gs191 h0 h1 h2 h3
        exact gt197
      · skip
        refine zFr_let (fun v202 ev202 => ?_)
        rw [gs179.rf] at ev202
        subst ev202
        refine zFr_let (fun v203 _ => ?_)
        refine zFr_let (fun v204 _ => ?_)
        refine zFr_let (fun v205 _ => ?_)
        refine zFr_let (fun v206 ev206 => ?_)
        rw [gs179.rf] at ev206
        subst ev206
        refine zFr_let (fun v207 _ => ?_)
        refine zFr_let (fun v208 _ => ?_)
        refine zFr_let (fun v209 _ => ?_)
        refine zFr_let (fun v210 _ => ?_)
        refine zFr_let (fun v211 _ => ?_)
        refine zFr_let (fun v212 _ => ?_)
        refine zFr_let (fun v213 _ => ?_)
        refine zFr_let (fun v214 _ => ?_)
        refine zFr_let (fun v215 _ => ?_)
        refine zFr_let (fun s216 es216 => ?_)
        have gs216 : zFr A σ s216 := by rw [es216]; exact gs179.w (h5 _)
        refine zFr_let (fun v221 ev221 => ?_)
        rw [gs216.rf] at ev221
        subst ev221
        refine zFr_let (fun v222 _ => ?_)
        refine zFr_let (fun v223 _ => ?_)
        refine zFr_let (fun v224 _ => ?_)
        refine zFr_let (fun v225 _ => ?_)
        refine zFr_let (fun v226 ev226 => ?_)
        rw [gs216.rf] at ev226
        subst ev226
        refine zFr_let (fun v227 _ => ?_)
        refine zFr_let (fun v228 _ => ?_)
        refine zFr_let (fun v229 _ => ?_)
        refine zFr_let (fun s230 es230 => ?_)
        have gs230 : zFr A σ s230 := by rw [es230]; exact gs216.w (h5 _)
        refine zFr_let (fun v235 ev235 => ?_)
        rw [gs230.rf] at ev235
        subst ev235
        refine zFr_let (fun v236 _ => ?_)
        refine zFr_let (fun v237 _ => ?_)
        refine zFr_let (fun v238 _ => ?_)
        refine zFr_let (fun v239 _ => ?_)
        refine zFr_let (fun s240 es240 => ?_)
        have gs240 : zFr A σ s240 := by rw [es240]; exact gs230.w (h5 _)
        refine zFr_let (fun v245 _ => ?_)
        refine zFr_let (fun t246 et246 => ?_)
        have gt246 : zFr A σ t246 := by rw [et246]; exact fr_X11_fillsFlows gs240 h0 h1 h2 h3
        exact gt246
  · skip
    refine zFr_let (fun v3 _ => ?_)
    refine zFr_let (fun t4 et4 => ?_)
    have gt4 : zFr A σ t4 := by rw [et4]; exact fr_X11_fillsFlows g h0 h1 h2 h3
    refine zFr_let (fun v7 ev7 => ?_)
    rw [gt4.rf] at ev7
    subst ev7
    refine zFr_let (fun v8 _ => ?_)
    refine zFr_let (fun v9 _ => ?_)
    refine zFr_let2 (fun v11 t10 et10 => ?_)
    have gt10 : zFr A σ t10 := (fr_X11_winnerBy gt4 h0 h1 h2).of et10
    refine zFr_let (fun s14 es14 => ?_)
    have gs14 : zFr A σ s14 := by rw [es14]; exact gt10.w h4
    refine zFr_let (fun v18 _ => ?_)
    refine zFr_if (fun _ => ?_) (fun _ => ?_)
    · skip
      refine zFr_let (fun v20 ev20 => ?_)
      rw [gs14.rf] at ev20
      subst ev20
      refine zFr_let (fun v21 _ => ?_)
      refine zFr_let (fun v22 _ => ?_)
      refine zFr_let (fun v23 _ => ?_)
      refine zFr_let (fun v24 _ => ?_)
      refine zFr_let (fun s25 es25 => ?_)
      have gs25 : zFr A σ s25 := by rw [es25]; exact gs14.w (h5 _)
      refine zFr_let (fun v29 _ => ?_)
      refine zFr_let (fun t30 et30 => ?_)
      have gt30 : zFr A σ t30 := by rw [et30]; exact fr_X11_fillsFlows gs25 h0 h1 h2 h3
      exact gt30
    · skip
      refine zFr_let (fun v34 ev34 => ?_)
      rw [gs14.rf] at ev34
      subst ev34
      refine zFr_let (fun v35 _ => ?_)
      refine zFr_let (fun v36 _ => ?_)
      refine zFr_let (fun v37 _ => ?_)
      refine zFr_let (fun v38 ev38 => ?_)
      rw [gs14.rf] at ev38
      subst ev38
      refine zFr_let (fun v39 _ => ?_)
      refine zFr_let (fun v40 _ => ?_)
      refine zFr_let (fun v41 _ => ?_)
      refine zFr_let (fun v42 _ => ?_)
      refine zFr_let (fun v43 _ => ?_)
      refine zFr_let (fun v44 _ => ?_)
      refine zFr_let (fun v45 _ => ?_)
      refine zFr_let (fun v46 _ => ?_)
      refine zFr_let (fun v47 _ => ?_)
      refine zFr_let (fun s48 es48 => ?_)
      have gs48 : zFr A σ s48 := by rw [es48]; exact gs14.w (h5 _)
      refine zFr_let (fun v52 ev52 => ?_)
      rw [gs48.rf] at ev52
      subst ev52
      refine zFr_let (fun v53 _ => ?_)
      refine zFr_let (fun v54 _ => ?_)
      refine zFr_let (fun v55 _ => ?_)
      refine zFr_let (fun v56 _ => ?_)
      refine zFr_let (fun v57 ev57 => ?_)
      rw [gs48.rf] at ev57
      subst ev57
      refine zFr_let (fun v58 _ => ?_)
      refine zFr_let (fun v59 _ => ?_)
      refine zFr_let (fun v60 _ => ?_)
      refine zFr_let (fun s61 es61 => ?_)
      have gs61 : zFr A σ s61 := by rw [es61]; exact gs48.w (h5 _)
      refine zFr_let (fun v66 ev66 => ?_)
      rw [gs61.rf] at ev66
      subst ev66
      refine zFr_let (fun v67 _ => ?_)
      refine zFr_let (fun v68 _ => ?_)
      refine zFr_let (fun v69 _ => ?_)
      refine zFr_let (fun v70 _ => ?_)
      refine zFr_let (fun s71 es71 => ?_)
      have gs71 : zFr A σ s71 := by rw [es71]; exact gs61.w (h5 _)
      refine zFr_let (fun v76 _ => ?_)
      refine zFr_let (fun t77 et77 => ?_)
      have gt77 : zFr A σ t77 := by rw [et77]; exact fr_X11_fillsFlows gs71 h0 h1 h2 h3
      exact gt77
set_option maxRecDepth 100000 in
theorem fr_X11_goes_2 {A : Nat → Nat → Prop} {σ : zS} {a0 : Nat} {p1 : Int32}  (h0 : ∀ j, A ((σ.2.2 a0 45).getD 0) j) (h1 : A a0 47) (h2 : ∀ j, A ((σ.2.2 a0 46).getD 0) j) (h3 : ∀ j, A ((σ.2.2 a0 55).getD 0) j) (h4 : A a0 56) (h5 : ∀ j, A ((σ.2.2 a0 49).getD 0) j) : ∀ (n : Nat) (x2 : Int32) (τ3 : zS), zFr A σ τ3 → zFr A σ (F_X11_goes_2 a0 p1 n x2 τ3) := by
  intro n
  induction n with
  | zero => intro x2 τ3 g; exact g
  | succ n ih =>
    intro x2 τ3 g
    rw [F_X11_goes_2]
    refine zFr_if (fun _ => ?_) (fun _ => ?_)
    · skip
      refine zFr_let (fun t7 et7 => ?_)
      have gt7 : zFr A σ t7 := by rw [et7]; exact fr_X11_monthGoes g h0 h1 h2 h3 h4 h5
      refine zFr_let (fun v9 _ => ?_)
      exact ih _ _ gt7
    · skip
      exact g
set_option maxRecDepth 100000 in
theorem fr_X11_goes {A : Nat → Nat → Prop} {σ σ0 : zS} {a0 : Nat} {p1 : Int32}  (g : zFr A σ σ0) (h0 : ∀ j, A ((σ.2.2 a0 45).getD 0) j) (h1 : A a0 47) (h2 : ∀ j, A ((σ.2.2 a0 46).getD 0) j) (h3 : ∀ j, A ((σ.2.2 a0 55).getD 0) j) (h4 : A a0 56) (h5 : ∀ j, A ((σ.2.2 a0 49).getD 0) j) : zFr A σ (F_X11_goes a0 p1 σ0) := by
  unfold F_X11_goes
  refine zFr_let (fun v1 _ => ?_)
  exact fr_X11_goes_2  h0 h1 h2 h3 h4 h5 _ _ _ g
set_option maxRecDepth 100000 in
theorem fr_X11_begins_23 {A : Nat → Nat → Prop} {σ : zS} {a0 : Nat} {kLp3 : Int32 → zS → zS} (ckLp3 : ∀ (y0 : Int32) (s : zS), zFr A σ s → zFr A σ (kLp3 y0 s)) (h0 : ∀ j, A ((σ.2.2 a0 49).getD 0) j) (h1 : A a0 50) (h2 : A a0 51) : ∀ (n : Nat) (x7 : Int32) (τ8 : zS), zFr A σ τ8 → zFr A σ (F_X11_begins_23 a0 kLp3 n x7 τ8) := by
  intro n
  induction n with
  | zero => intro x7 τ8 g; exact g
  | succ n ih =>
    intro x7 τ8 g
    rw [F_X11_begins_23]
    refine zFr_let (fun v10 _ => ?_)
    refine zFr_if (fun _ => ?_) (fun _ => ?_)
    · skip
      refine zFr_let (fun v25 ev25 => ?_)
      rw [g.rf] at ev25
      subst ev25
      refine zFr_let (fun v26 ev26 => ?_)
      rw [g.rf] at ev26
      subst ev26
      refine zFr_let (fun v27 _ => ?_)
      refine zFr_let (fun v28 _ => ?_)
      refine zFr_let (fun v29 _ => ?_)
      refine zFr_let (fun v30 _ => ?_)
      refine zFr_let (fun v31 _ => ?_)
      refine zFr_let (fun s32 es32 => ?_)
      have gs32 : zFr A σ s32 := by rw [es32]; exact g.w (h0 _)
      refine zFr_let (fun v35 _ => ?_)
      exact ih _ _ gs32
    · skip
      refine zFr_let (fun v12 ev12 => ?_)
      rw [g.rf] at ev12
      subst ev12
      refine zFr_let (fun v13 _ => ?_)
      refine zFr_let (fun v14 _ => ?_)
      refine zFr_let (fun s15 es15 => ?_)
      have gs15 : zFr A σ s15 := by rw [es15]; exact g.w h1
      refine zFr_let (fun v19 _ => ?_)
      refine zFr_let (fun s20 es20 => ?_)
      have gs20 : zFr A σ s20 := by rw [es20]; exact gs15.w h2
      exact gs20
set_option maxRecDepth 100000 in
theorem fr_X11_begins_2 {A : Nat → Nat → Prop} {σ : zS} {a0 : Nat}  (h0 : ∀ j, A ((σ.2.2 a0 49).getD 0) j) (h1 : A a0 50) (h2 : A a0 51) : ∀ (n : Nat) (x2 : Int32) (τ3 : zS), zFr A σ τ3 → zFr A σ (F_X11_begins_2 a0 n x2 τ3) := by
  intro n
  induction n with
  | zero => intro x2 τ3 g; exact g
  | succ n ih =>
    intro x2 τ3 g
    rw [F_X11_begins_2]
    refine zFr_let (fun v4 _ => ?_)
    refine zFr_if (fun _ => ?_) (fun _ => ?_)
    · skip
      refine zFr_let (fun v36 ev36 => ?_)
      rw [g.rf] at ev36
      subst ev36
      refine zFr_let (fun v37 _ => ?_)
      refine zFr_let (fun s38 es38 => ?_)
      have gs38 : zFr A σ s38 := by rw [es38]; exact g.w (h0 _)
      refine zFr_let (fun v40 _ => ?_)
      exact ih _ _ gs38
    · skip
      refine zFr_let (fun v6 _ => ?_)
      exact fr_X11_begins_23 ih h0 h1 h2 _ _ _ g
set_option maxRecDepth 100000 in
theorem fr_X11_begins {A : Nat → Nat → Prop} {σ σ0 : zS} {a0 : Nat}  (g : zFr A σ σ0) (h0 : ∀ j, A ((σ.2.2 a0 49).getD 0) j) (h1 : A a0 50) (h2 : A a0 51) : zFr A σ (F_X11_begins a0 σ0) := by
  unfold F_X11_begins
  refine zFr_let (fun v1 _ => ?_)
  exact fr_X11_begins_2  h0 h1 h2 _ _ _ g
set_option maxRecDepth 100000 in
theorem fr_X11_copiesStill {A : Nat → Nat → Prop} {σ σ0 : zS} {a0 : Nat}  (g : zFr A σ σ0) (h0 : ∀ j, A ((σ.2.2 a0 49).getD 0) j) (h1 : A a0 50) (h2 : A a0 51) (h3 : ∀ j, A ((σ.2.2 a0 54).getD 0) j) (h4 : ∀ j, A ((σ.2.2 a0 52).getD 0) j) (h5 : ∀ j, A ((σ.2.2 a0 53).getD 0) j) (h6 : ∀ j, A ((σ.2.2 a0 45).getD 0) j) (h7 : A a0 47) (h8 : ∀ j, A ((σ.2.2 a0 46).getD 0) j) (h9 : ∀ j, A ((σ.2.2 a0 55).getD 0) j) : zFr A σ (F_X11_copiesStill a0 σ0) := by
  unfold F_X11_copiesStill
  refine zFr_let (fun t1 et1 => ?_)
  have gt1 : zFr A σ t1 := by rw [et1]; exact fr_X11_copies g h0 h1 h2 h3 h4 h5 h6 h7 h8 h9
  refine zFr_let (fun v3 _ => ?_)
  refine zFr_let (fun s4 es4 => ?_)
  have gs4 : zFr A σ s4 := by rw [es4]; exact gt1.w h2
  exact gs4
set_option maxRecDepth 100000 in
theorem fr_X11_records_51 {A : Nat → Nat → Prop} {σ : zS} {a0 : Nat}  (h0 : ∀ j, A ((σ.2.2 a0 58).getD 0) j) (h1 : A a0 57) (h2 : ∀ j, A ((σ.2.2 a0 48).getD 0) j) : ∀ (n : Nat) (x5 : Int32) (τ6 : zS), zFr A σ τ6 → zFr A σ (F_X11_records_51 a0 n x5 τ6) := by
  intro n
  induction n with
  | zero => intro x5 τ6 g; exact g
  | succ n ih =>
    intro x5 τ6 g
    rw [F_X11_records_51]
    refine zFr_let (fun v7 _ => ?_)
    refine zFr_if (fun _ => ?_) (fun _ => ?_)
    · skip
      refine zFr_let (fun v18 ev18 => ?_)
      rw [g.rf] at ev18
      subst ev18
      refine zFr_let (fun v19 _ => ?_)
      refine zFr_let (fun v20 _ => ?_)
      refine zFr_let (fun v21 _ => ?_)
      refine zFr_let (fun v22 _ => ?_)
      refine zFr_let (fun v23 ev23 => ?_)
      rw [g.rf] at ev23
      subst ev23
      refine zFr_let (fun v24 _ => ?_)
      refine zFr_let (fun s25 es25 => ?_)
      have gs25 : zFr A σ s25 := by rw [es25]; exact g.w (h0 _)
      refine zFr_let (fun v28 _ => ?_)
      exact ih _ _ gs25
    · skip
      refine zFr_let (fun v9 _ => ?_)
      refine zFr_let (fun v10 _ => ?_)
      refine zFr_let (fun v11 _ => ?_)
      refine zFr_let (fun s12 es12 => ?_)
      have gs12 : zFr A σ s12 := by rw [es12]; exact g.w h1
      refine zFr_let (fun t15 et15 => ?_)
      have gt15 : zFr A σ t15 := by rw [et15]; exact fr_X11_keepsRow gs12 h2
      exact gt15
set_option maxRecDepth 100000 in
theorem fr_X11_records_51_1 {A : Nat → Nat → Prop} {σ : zS} {a0 : Nat} {kLp31 : Int32 → zS → zS} (ckLp31 : ∀ (y0 : Int32) (s : zS), zFr A σ s → zFr A σ (kLp31 y0 s)) (h0 : ∀ j, A ((σ.2.2 a0 58).getD 0) j) (h1 : A a0 57) (h2 : ∀ j, A ((σ.2.2 a0 48).getD 0) j) : ∀ (n : Nat) (x41 : Int32) (τ42 : zS), zFr A σ τ42 → zFr A σ (F_X11_records_51_1 a0 kLp31 n x41 τ42) := by
  intro n
  induction n with
  | zero => intro x41 τ42 g; exact g
  | succ n ih =>
    intro x41 τ42 g
    rw [F_X11_records_51_1]
    refine zFr_let (fun v43 _ => ?_)
    refine zFr_if (fun _ => ?_) (fun _ => ?_)
    · skip
      refine zFr_let (fun v54 ev54 => ?_)
      rw [g.rf] at ev54
      subst ev54
      refine zFr_let (fun v55 _ => ?_)
      refine zFr_let (fun v56 _ => ?_)
      refine zFr_let (fun v57 _ => ?_)
      refine zFr_let (fun v58 _ => ?_)
      refine zFr_let (fun v59 ev59 => ?_)
      rw [g.rf] at ev59
      subst ev59
      refine zFr_let (fun v60 _ => ?_)
      refine zFr_let (fun s61 es61 => ?_)
      have gs61 : zFr A σ s61 := by rw [es61]; exact g.w (h0 _)
      refine zFr_let (fun v64 _ => ?_)
      exact ih _ _ gs61
    · skip
      refine zFr_let (fun v45 _ => ?_)
      refine zFr_let (fun v46 _ => ?_)
      refine zFr_let (fun v47 _ => ?_)
      refine zFr_let (fun s48 es48 => ?_)
      have gs48 : zFr A σ s48 := by rw [es48]; exact g.w h1
      refine zFr_let (fun t51 et51 => ?_)
      have gt51 : zFr A σ t51 := by rw [et51]; exact fr_X11_keepsRow gs48 h2
      exact gt51
set_option maxRecDepth 100000 in
theorem fr_X11_records_11 {A : Nat → Nat → Prop} {σ : zS} {a0 : Nat}  (h0 : ∀ j, A ((σ.2.2 a0 58).getD 0) j) (h1 : A a0 57) (h2 : ∀ j, A ((σ.2.2 a0 48).getD 0) j) : ∀ (n : Nat) (x30 : Int32) (τ31 : zS), zFr A σ τ31 → zFr A σ (F_X11_records_11 a0 n x30 τ31) := by
  intro n
  induction n with
  | zero => intro x30 τ31 g; exact g
  | succ n ih =>
    intro x30 τ31 g
    rw [F_X11_records_11]
    refine zFr_let (fun v32 _ => ?_)
    refine zFr_if (fun _ => ?_) (fun _ => ?_)
    · skip
      refine zFr_let (fun v65 ev65 => ?_)
      rw [g.rf] at ev65
      subst ev65
      refine zFr_let (fun v66 ev66 => ?_)
      rw [g.rf] at ev66
      subst ev66
      refine zFr_let (fun v67 _ => ?_)
      refine zFr_let (fun v68 _ => ?_)
      refine zFr_let (fun v69 _ => ?_)
      refine zFr_let (fun s70 es70 => ?_)
      have gs70 : zFr A σ s70 := by rw [es70]; exact g.w (h0 _)
      refine zFr_let (fun v72 _ => ?_)
      exact ih _ _ gs70
    · skip
      refine zFr_let (fun v34 _ => ?_)
      refine zFr_let (fun v35 _ => ?_)
      refine zFr_let (fun v36 _ => ?_)
      refine zFr_let (fun s37 es37 => ?_)
      have gs37 : zFr A σ s37 := by rw [es37]; exact g.w h1
      refine zFr_let (fun v40 _ => ?_)
      exact fr_X11_records_51_1 ih h0 h1 h2 _ _ _ gs37
set_option maxRecDepth 100000 in
theorem fr_X11_records {A : Nat → Nat → Prop} {σ σ0 : zS} {a0 : Nat}  (g : zFr A σ σ0) (h0 : ∀ j, A ((σ.2.2 a0 58).getD 0) j) (h1 : A a0 57) (h2 : ∀ j, A ((σ.2.2 a0 48).getD 0) j) : zFr A σ (F_X11_records a0 σ0) := by
  unfold F_X11_records
  refine zFr_let (fun v1 _ => ?_)
  refine zFr_let (fun v2 _ => ?_)
  refine zFr_if (fun _ => ?_) (fun _ => ?_)
  · skip
    refine zFr_let (fun v29 _ => ?_)
    exact fr_X11_records_11  h0 h1 h2 _ _ _ g
  · skip
    refine zFr_let (fun v4 _ => ?_)
    exact fr_X11_records_51  h0 h1 h2 _ _ _ g
set_option maxRecDepth 100000 in
theorem fr_X11_does {A : Nat → Nat → Prop} {σ σ0 : zS} {a0 : Nat} {p1 : Int32} {p2 : Int32}  (g : zFr A σ σ0) (h0 : ∀ j, A ((σ.2.2 a0 49).getD 0) j) (h1 : A a0 50) (h2 : A a0 51) (h3 : ∀ j, A ((σ.2.2 a0 54).getD 0) j) (h4 : ∀ j, A ((σ.2.2 a0 52).getD 0) j) (h5 : ∀ j, A ((σ.2.2 a0 53).getD 0) j) (h6 : ∀ j, A ((σ.2.2 a0 45).getD 0) j) (h7 : A a0 47) (h8 : ∀ j, A ((σ.2.2 a0 46).getD 0) j) (h9 : ∀ j, A ((σ.2.2 a0 55).getD 0) j) (h10 : ∀ j, A ((σ.2.2 a0 58).getD 0) j) (h11 : A a0 57) (h12 : ∀ j, A ((σ.2.2 a0 48).getD 0) j) : zFr A σ (F_X11_does a0 p1 p2 σ0) := by
  unfold F_X11_does
  refine zFr_let (fun t1 et1 => ?_)
  have gt1 : zFr A σ t1 := by rw [et1]; exact fr_X11_copies g h0 h1 h2 h3 h4 h5 h6 h7 h8 h9
  refine zFr_let (fun v3 ev3 => ?_)
  rw [gt1.rf] at ev3
  subst ev3
  refine zFr_let (fun s4 es4 => ?_)
  have gs4 : zFr A σ s4 := by rw [es4]; exact gt1.w (h0 _)
  refine zFr_let (fun t6 et6 => ?_)
  have gt6 : zFr A σ t6 := by rw [et6]; exact fr_X11_records gs4 h10 h11 h12
  exact gt6
set_option maxRecDepth 100000 in
theorem fr_X11_spot {A : Nat → Nat → Prop} {σ σ0 : zS} {a0 : Nat} {p1 : Int32} {p2 : Int32}  (g : zFr A σ σ0) (h0 : ∀ j, A ((σ.2.2 a0 49).getD 0) j) (h1 : A a0 50) (h2 : A a0 51) (h3 : ∀ j, A ((σ.2.2 a0 54).getD 0) j) (h4 : ∀ j, A ((σ.2.2 a0 52).getD 0) j) (h5 : ∀ j, A ((σ.2.2 a0 53).getD 0) j) (h6 : ∀ j, A ((σ.2.2 a0 45).getD 0) j) (h7 : A a0 47) (h8 : ∀ j, A ((σ.2.2 a0 46).getD 0) j) (h9 : ∀ j, A ((σ.2.2 a0 55).getD 0) j) : zFp A σ (F_X11_spot a0 p1 p2 σ0) := by
  unfold F_X11_spot
  refine zFp_let (fun v2 _ => ?_)
  refine zFp_if (fun _ => ?_) (fun _ => ?_)
  · skip
    refine zFp_let (fun v72 _ => ?_)
    exact g
  · skip
    refine zFp_let (fun t4 et4 => ?_)
    have gt4 : zFr A σ t4 := by rw [et4]; exact fr_X11_copies g h0 h1 h2 h3 h4 h5 h6 h7 h8 h9
    refine zFp_if (fun _ => ?_) (fun _ => ?_)
    · skip
      refine zFp_let (fun v7 ev7 => ?_)
      rw [gt4.rf] at ev7
      subst ev7
      refine zFp_let (fun v8 _ => ?_)
      exact gt4
    · skip
      refine zFp_if (fun _ => ?_) (fun _ => ?_)
      · skip
        refine zFp_let (fun v10 ev10 => ?_)
        rw [gt4.rf] at ev10
        subst ev10
        refine zFp_let (fun v11 _ => ?_)
        refine zFp_let (fun v12 _ => ?_)
        refine zFp_let (fun v13 _ => ?_)
        refine zFp_let (fun v14 _ => ?_)
        refine zFp_let (fun v15 _ => ?_)
        exact gt4
      · skip
        refine zFp_if (fun _ => ?_) (fun _ => ?_)
        · skip
          refine zFp_let (fun v17 ev17 => ?_)
          rw [gt4.rf] at ev17
          subst ev17
          refine zFp_let (fun v18 _ => ?_)
          refine zFp_let (fun v19 _ => ?_)
          refine zFp_let (fun v20 _ => ?_)
          refine zFp_let (fun v21 _ => ?_)
          refine zFp_let (fun v22 _ => ?_)
          exact gt4
        · skip
          refine zFp_if (fun _ => ?_) (fun _ => ?_)
          · skip
            refine zFp_let (fun v24 ev24 => ?_)
            rw [gt4.rf] at ev24
            subst ev24
            refine zFp_let (fun v25 _ => ?_)
            refine zFp_let (fun v26 _ => ?_)
            refine zFp_let (fun v27 _ => ?_)
            refine zFp_let (fun v28 _ => ?_)
            refine zFp_let (fun v29 _ => ?_)
            exact gt4
          · skip
            refine zFp_if (fun _ => ?_) (fun _ => ?_)
            · skip
              refine zFp_let (fun v31 ev31 => ?_)
              rw [gt4.rf] at ev31
              subst ev31
              refine zFp_let (fun v32 _ => ?_)
              refine zFp_let (fun v33 _ => ?_)
              refine zFp_let (fun v34 _ => ?_)
              exact gt4
            · skip
              refine zFp_if (fun _ => ?_) (fun _ => ?_)
              · skip
                refine zFp_let (fun v36 ev36 => ?_)
                rw [gt4.rf] at ev36
                subst ev36
                refine zFp_let (fun v37 _ => ?_)
                exact gt4
              · skip
                refine zFp_if (fun _ => ?_) (fun _ => ?_)
                · skip
                  refine zFp_let (fun v39 ev39 => ?_)
                  rw [gt4.rf] at ev39
                  subst ev39
                  refine zFp_let (fun v40 _ => ?_)
                  exact gt4
                · skip
                  refine zFp_if (fun _ => ?_) (fun _ => ?_)
                  · skip
                    refine zFp_let (fun v42 ev42 => ?_)
                    rw [gt4.rf] at ev42
                    subst ev42
                    refine zFp_let (fun v43 _ => ?_)
                    refine zFp_let (fun v44 _ => ?_)
                    refine zFp_let (fun v45 _ => ?_)
                    refine zFp_let (fun v46 _ => ?_)
                    exact gt4
                  · skip
                    refine zFp_if (fun _ => ?_) (fun _ => ?_)
                    · skip
                      refine zFp_let (fun v49 _ => ?_)
                      refine zFp_if (fun _ => ?_) (fun _ => ?_)
                      · skip
                        refine zFp_let (fun v51 _ => ?_)
                        exact gt4
                      · skip
                        refine zFp_let (fun v52 _ => ?_)
                        exact gt4
                    · skip
                      refine zFp_if (fun _ => ?_) (fun _ => ?_)
                      · skip
                        refine zFp_let (fun v54 ev54 => ?_)
                        rw [gt4.rf] at ev54
                        subst ev54
                        refine zFp_let (fun v55 _ => ?_)
                        refine zFp_let (fun v56 _ => ?_)
                        refine zFp_let (fun v57 _ => ?_)
                        exact gt4
                      · skip
                        refine zFp_if (fun _ => ?_) (fun _ => ?_)
                        · skip
                          refine zFp_let (fun v59 ev59 => ?_)
                          rw [gt4.rf] at ev59
                          subst ev59
                          refine zFp_let (fun v60 _ => ?_)
                          refine zFp_let (fun v61 _ => ?_)
                          refine zFp_let (fun v62 _ => ?_)
                          exact gt4
                        · skip
                          refine zFp_if (fun _ => ?_) (fun _ => ?_)
                          · skip
                            refine zFp_let2 (fun v65 t64 et64 => ?_)
                            have gt64 : zFr A σ t64 := (fr_X11_rainsAt gt4 h6 h7 h8).of et64
                            exact gt64
                          · skip
                            refine zFp_if (fun _ => ?_) (fun _ => ?_)
                            · skip
                              refine zFp_let2 (fun v69 t68 et68 => ?_)
                              have gt68 : zFr A σ t68 := (fr_X11_driesAt gt4 h6 h7 h8).of et68
                              exact gt68
                            · skip
                              refine zFp_let (fun v71 _ => ?_)
                              exact gt4
set_option maxRecDepth 100000 in
theorem fr_X11_isClaim {A : Nat → Nat → Prop} {σ σ0 : zS} {a0 : Nat} {p1 : Int32} {p2 : Int32}  (g : zFr A σ σ0) (h0 : ∀ j, A ((σ.2.2 a0 49).getD 0) j) (h1 : A a0 50) (h2 : A a0 51) (h3 : ∀ j, A ((σ.2.2 a0 54).getD 0) j) (h4 : ∀ j, A ((σ.2.2 a0 52).getD 0) j) (h5 : ∀ j, A ((σ.2.2 a0 53).getD 0) j) (h6 : ∀ j, A ((σ.2.2 a0 45).getD 0) j) (h7 : A a0 47) (h8 : ∀ j, A ((σ.2.2 a0 46).getD 0) j) (h9 : ∀ j, A ((σ.2.2 a0 55).getD 0) j) : zFp A σ (F_X11_isClaim a0 p1 p2 σ0) := by
  unfold F_X11_isClaim
  refine zFp_let (fun t1 et1 => ?_)
  have gt1 : zFr A σ t1 := by rw [et1]; exact fr_X11_copies g h0 h1 h2 h3 h4 h5 h6 h7 h8 h9
  refine zFp_let (fun v4 _ => ?_)
  refine zFp_if (fun _ => ?_) (fun _ => ?_)
  · skip
    refine zFp_let (fun v6 _ => ?_)
    exact gt1
  · skip
    refine zFp_let (fun v7 _ => ?_)
    refine zFp_if (fun _ => ?_) (fun _ => ?_)
    · skip
      refine zFp_let (fun v9 _ => ?_)
      exact gt1
    · skip
      refine zFp_let (fun v10 _ => ?_)
      exact gt1
set_option maxRecDepth 100000 in
theorem fr_X11_claim {A : Nat → Nat → Prop} {σ σ0 : zS} {a0 : Nat} {p1 : Int32} {p2 : Int32}  (g : zFr A σ σ0) (h0 : ∀ j, A ((σ.2.2 a0 49).getD 0) j) (h1 : A a0 50) (h2 : A a0 51) (h3 : ∀ j, A ((σ.2.2 a0 54).getD 0) j) (h4 : ∀ j, A ((σ.2.2 a0 52).getD 0) j) (h5 : ∀ j, A ((σ.2.2 a0 53).getD 0) j) (h6 : ∀ j, A ((σ.2.2 a0 45).getD 0) j) (h7 : A a0 47) (h8 : ∀ j, A ((σ.2.2 a0 46).getD 0) j) (h9 : ∀ j, A ((σ.2.2 a0 55).getD 0) j) : zFp A σ (F_X11_claim a0 p1 p2 σ0) := by
  unfold F_X11_claim
  refine zFp_let2 (fun v2 t1 et1 => ?_)
  have gt1 : zFr A σ t1 := (fr_X11_isClaim g h0 h1 h2 h3 h4 h5 h6 h7 h8 h9).of et1
  refine zFp_if (fun _ => ?_) (fun _ => ?_)
  · skip
    refine zFp_let (fun v5 _ => ?_)
    exact gt1
  · skip
    refine zFp_let2 (fun v7 t6 et6 => ?_)
    have gt6 : zFr A σ t6 := (fr_X11_claimOf gt1 h6 h7 h8).of et6
    exact gt6
set_option maxRecDepth 100000 in
theorem fr_X11_winner {A : Nat → Nat → Prop} {σ σ0 : zS} {a0 : Nat} {p1 : Int32}  (g : zFr A σ σ0) (h0 : ∀ j, A ((σ.2.2 a0 49).getD 0) j) (h1 : A a0 50) (h2 : A a0 51) (h3 : ∀ j, A ((σ.2.2 a0 54).getD 0) j) (h4 : ∀ j, A ((σ.2.2 a0 52).getD 0) j) (h5 : ∀ j, A ((σ.2.2 a0 53).getD 0) j) (h6 : ∀ j, A ((σ.2.2 a0 45).getD 0) j) (h7 : A a0 47) (h8 : ∀ j, A ((σ.2.2 a0 46).getD 0) j) (h9 : ∀ j, A ((σ.2.2 a0 55).getD 0) j) : zFp A σ (F_X11_winner a0 p1 σ0) := by
  unfold F_X11_winner
  refine zFp_let (fun v1 _ => ?_)
  refine zFp_if (fun _ => ?_) (fun _ => ?_)
  · skip
    refine zFp_let (fun v8 _ => ?_)
    exact g
  · skip
    refine zFp_let (fun t3 et3 => ?_)
    have gt3 : zFr A σ t3 := by rw [et3]; exact fr_X11_copies g h0 h1 h2 h3 h4 h5 h6 h7 h8 h9
    refine zFp_let2 (fun v6 t5 et5 => ?_)
    have gt5 : zFr A σ t5 := (fr_X11_winnerBy gt3 h6 h7 h8).of et5
    exact gt5
set_option maxRecDepth 100000 in
theorem fr_X11_turn {A : Nat → Nat → Prop} {σ σ0 : zS} {a0 : Nat} {p1 : Int32} {p2 : Int32}  (g : zFr A σ σ0) (h0 : ∀ j, A ((σ.2.2 a0 49).getD 0) j) (h1 : A a0 50) (h2 : A a0 51) (h3 : ∀ j, A ((σ.2.2 a0 54).getD 0) j) (h4 : ∀ j, A ((σ.2.2 a0 52).getD 0) j) (h5 : ∀ j, A ((σ.2.2 a0 53).getD 0) j) (h6 : ∀ j, A ((σ.2.2 a0 45).getD 0) j) (h7 : A a0 47) (h8 : ∀ j, A ((σ.2.2 a0 46).getD 0) j) (h9 : ∀ j, A ((σ.2.2 a0 55).getD 0) j) (h10 : ∀ j, A ((σ.2.2 a0 58).getD 0) j) (h11 : A a0 57) (h12 : ∀ j, A ((σ.2.2 a0 48).getD 0) j) : zFp A σ (F_X11_turn a0 p1 p2 σ0) := by
  unfold F_X11_turn
  refine zFp_let (fun t1 et1 => ?_)
  have gt1 : zFr A σ t1 := by rw [et1]; exact fr_X11_copies g h0 h1 h2 h3 h4 h5 h6 h7 h8 h9
  refine zFp_let (fun v4 _ => ?_)
  refine zFp_if (fun _ => ?_) (fun _ => ?_)
  · skip
    refine zFp_let (fun v9 _ => ?_)
    exact gt1
  · skip
    refine zFp_let (fun t6 et6 => ?_)
    have gt6 : zFr A σ t6 := by rw [et6]; exact fr_X11_does gt1 h0 h1 h2 h3 h4 h5 h6 h7 h8 h9 h10 h11 h12
    refine zFp_let (fun v8 _ => ?_)
    exact gt6
set_option maxRecDepth 100000 in
theorem fr_X11_dam {A : Nat → Nat → Prop} {σ σ0 : zS} {a0 : Nat} {p1 : Int32} {p2 : Int32}  (g : zFr A σ σ0) (h0 : ∀ j, A ((σ.2.2 a0 49).getD 0) j) (h1 : A a0 50) (h2 : A a0 51) (h3 : ∀ j, A ((σ.2.2 a0 54).getD 0) j) (h4 : ∀ j, A ((σ.2.2 a0 52).getD 0) j) (h5 : ∀ j, A ((σ.2.2 a0 53).getD 0) j) (h6 : ∀ j, A ((σ.2.2 a0 45).getD 0) j) (h7 : A a0 47) (h8 : ∀ j, A ((σ.2.2 a0 46).getD 0) j) (h9 : ∀ j, A ((σ.2.2 a0 55).getD 0) j) (h10 : ∀ j, A ((σ.2.2 a0 58).getD 0) j) (h11 : A a0 57) (h12 : ∀ j, A ((σ.2.2 a0 48).getD 0) j) : zFp A σ (F_X11_dam a0 p1 p2 σ0) := by
  unfold F_X11_dam
  refine zFp_let (fun v2 _ => ?_)
  refine zFp_if (fun _ => ?_) (fun _ => ?_)
  · skip
    refine zFp_let (fun v4 _ => ?_)
    exact g
  · skip
    refine zFp_let (fun v5 ev5 => ?_)
    rw [g.rf] at ev5
    subst ev5
    refine zFp_let (fun v6 _ => ?_)
    refine zFp_let (fun v7 _ => ?_)
    refine zFp_let (fun v8 _ => ?_)
    refine zFp_let (fun v9 _ => ?_)
    refine zFp_if (fun _ => ?_) (fun _ => ?_)
    · skip
      refine zFp_let (fun v25 _ => ?_)
      refine zFp_if (fun _ => ?_) (fun _ => ?_)
      · skip
        refine zFp_let (fun v38 _ => ?_)
        exact g
      · skip
        refine zFp_let (fun v27 _ => ?_)
        refine zFp_let (fun v28 _ => ?_)
        refine zFp_if (fun _ => ?_) (fun _ => ?_)
        · skip
          refine zFp_let (fun v30 _ => ?_)
          refine zFp_let (fun t31 et31 => ?_)
          have gt31 : zFr A σ t31 := by rw [et31]; exact fr_X11_does g h0 h1 h2 h3 h4 h5 h6 h7 h8 h9 h10 h11 h12
          refine zFp_let (fun v33 _ => ?_)
          exact gt31
        · skip
          refine zFp_let (fun v34 _ => ?_)
          refine zFp_let (fun t35 et35 => ?_)
          have gt35 : zFr A σ t35 := by rw [et35]; exact fr_X11_does g h0 h1 h2 h3 h4 h5 h6 h7 h8 h9 h10 h11 h12
          refine zFp_let (fun v37 _ => ?_)
          exact gt35
    · skip
      refine zFp_let (fun v11 _ => ?_)
      refine zFp_if (fun _ => ?_) (fun _ => ?_)
      · skip
        refine zFp_let (fun v24 _ => ?_)
        exact g
      · skip
        refine zFp_let (fun v13 _ => ?_)
        refine zFp_let (fun v14 _ => ?_)
        refine zFp_if (fun _ => ?_) (fun _ => ?_)
        · skip
          refine zFp_let (fun v16 _ => ?_)
          refine zFp_let (fun t17 et17 => ?_)
          have gt17 : zFr A σ t17 := by rw [et17]; exact fr_X11_does g h0 h1 h2 h3 h4 h5 h6 h7 h8 h9 h10 h11 h12
          refine zFp_let (fun v19 _ => ?_)
          exact gt17
        · skip
          refine zFp_let (fun v20 _ => ?_)
          refine zFp_let (fun t21 et21 => ?_)
          have gt21 : zFr A σ t21 := by rw [et21]; exact fr_X11_does g h0 h1 h2 h3 h4 h5 h6 h7 h8 h9 h10 h11 h12
          refine zFp_let (fun v23 _ => ?_)
          exact gt21
set_option maxRecDepth 100000 in
theorem fr_X11_rule {A : Nat → Nat → Prop} {σ σ0 : zS} {a0 : Nat} {p1 : Int32}  (g : zFr A σ σ0) (h0 : ∀ j, A ((σ.2.2 a0 49).getD 0) j) (h1 : A a0 50) (h2 : A a0 51) (h3 : ∀ j, A ((σ.2.2 a0 54).getD 0) j) (h4 : ∀ j, A ((σ.2.2 a0 52).getD 0) j) (h5 : ∀ j, A ((σ.2.2 a0 53).getD 0) j) (h6 : ∀ j, A ((σ.2.2 a0 45).getD 0) j) (h7 : A a0 47) (h8 : ∀ j, A ((σ.2.2 a0 46).getD 0) j) (h9 : ∀ j, A ((σ.2.2 a0 55).getD 0) j) (h10 : ∀ j, A ((σ.2.2 a0 58).getD 0) j) (h11 : A a0 57) (h12 : ∀ j, A ((σ.2.2 a0 48).getD 0) j) : zFp A σ (F_X11_rule a0 p1 σ0) := by
  unfold F_X11_rule
  refine zFp_let (fun v1 _ => ?_)
  refine zFp_if (fun _ => ?_) (fun _ => ?_)
  · skip
    refine zFp_let (fun v3 _ => ?_)
    exact g
  · skip
    refine zFp_let (fun v4 ev4 => ?_)
    rw [g.rf] at ev4
    subst ev4
    refine zFp_let (fun v5 _ => ?_)
    refine zFp_let (fun v6 _ => ?_)
    refine zFp_if (fun _ => ?_) (fun _ => ?_)
    · skip
      refine zFp_let (fun v12 _ => ?_)
      exact g
    · skip
      refine zFp_let (fun v8 _ => ?_)
      refine zFp_let (fun t9 et9 => ?_)
      have gt9 : zFr A σ t9 := by rw [et9]; exact fr_X11_does g h0 h1 h2 h3 h4 h5 h6 h7 h8 h9 h10 h11 h12
      refine zFp_let (fun v11 _ => ?_)
      exact gt9
set_option maxRecDepth 100000 in
theorem fr_X11_months {A : Nat → Nat → Prop} {σ σ0 : zS} {a0 : Nat} {p1 : Int32}  (g : zFr A σ σ0) (h0 : ∀ j, A ((σ.2.2 a0 49).getD 0) j) (h1 : A a0 50) (h2 : A a0 51) (h3 : ∀ j, A ((σ.2.2 a0 54).getD 0) j) (h4 : ∀ j, A ((σ.2.2 a0 52).getD 0) j) (h5 : ∀ j, A ((σ.2.2 a0 53).getD 0) j) (h6 : ∀ j, A ((σ.2.2 a0 45).getD 0) j) (h7 : A a0 47) (h8 : ∀ j, A ((σ.2.2 a0 46).getD 0) j) (h9 : ∀ j, A ((σ.2.2 a0 55).getD 0) j) (h10 : A a0 56) (h11 : ∀ j, A ((σ.2.2 a0 58).getD 0) j) (h12 : A a0 57) (h13 : ∀ j, A ((σ.2.2 a0 48).getD 0) j) : zFp A σ (F_X11_months a0 p1 σ0) := by
  unfold F_X11_months
  refine zFp_let (fun v1 _ => ?_)
  refine zFp_if (fun _ => ?_) (fun _ => ?_)
  · skip
    refine zFp_let (fun v16 _ => ?_)
    exact g
  · skip
    refine zFp_if (fun _ => ?_) (fun _ => ?_)
    · skip
      refine zFp_let (fun v13 ev13 => ?_)
      rw [g.rf] at ev13
      subst ev13
      refine zFp_let (fun v14 _ => ?_)
      refine zFp_let (fun v15 _ => ?_)
      exact g
    · skip
      refine zFp_let (fun t4 et4 => ?_)
      have gt4 : zFr A σ t4 := by rw [et4]; exact fr_X11_copies g h0 h1 h2 h3 h4 h5 h6 h7 h8 h9
      refine zFp_let (fun t6 et6 => ?_)
      have gt6 : zFr A σ t6 := by rw [et6]; exact fr_X11_goes gt4 h6 h7 h8 h9 h10 h0
      refine zFp_let (fun t8 et8 => ?_)
      have gt8 : zFr A σ t8 := by rw [et8]; exact fr_X11_records gt6 h11 h12 h13
      refine zFp_let (fun v10 ev10 => ?_)
      rw [gt8.rf] at ev10
      subst ev10
      refine zFp_let (fun v11 _ => ?_)
      refine zFp_let (fun v12 _ => ?_)
      exact gt8
set_option maxRecDepth 100000 in
theorem fr_X11_undo_21 {A : Nat → Nat → Prop} {σ : zS} {a0 : Nat}  (h0 : ∀ j, A ((σ.2.2 a0 48).getD 0) j) : ∀ (n : Nat) (x10 : Int32) (τ11 : zS), zFr A σ τ11 → zFp A σ (F_X11_undo_21 a0 n x10 τ11) := by
  intro n
  induction n with
  | zero => intro x10 τ11 g; exact g
  | succ n ih =>
    intro x10 τ11 g
    rw [F_X11_undo_21]
    refine zFp_let (fun v12 _ => ?_)
    refine zFp_if (fun _ => ?_) (fun _ => ?_)
    · skip
      refine zFp_let (fun v15 ev15 => ?_)
      rw [g.rf] at ev15
      subst ev15
      refine zFp_let (fun v16 ev16 => ?_)
      rw [g.rf] at ev16
      subst ev16
      refine zFp_let (fun v17 _ => ?_)
      refine zFp_let (fun v18 _ => ?_)
      refine zFp_let (fun v19 _ => ?_)
      refine zFp_let (fun v20 _ => ?_)
      refine zFp_let (fun v21 _ => ?_)
      refine zFp_let (fun s22 es22 => ?_)
      have gs22 : zFr A σ s22 := by rw [es22]; exact g.w (h0 _)
      refine zFp_let (fun v25 _ => ?_)
      exact ih _ _ gs22
    · skip
      refine zFp_let (fun v14 _ => ?_)
      exact g
set_option maxRecDepth 100000 in
theorem fr_X11_undo {A : Nat → Nat → Prop} {σ σ0 : zS} {a0 : Nat}  (g : zFr A σ σ0) (h0 : A a0 57) (h1 : ∀ j, A ((σ.2.2 a0 48).getD 0) j) : zFp A σ (F_X11_undo a0 σ0) := by
  unfold F_X11_undo
  refine zFp_let (fun v1 _ => ?_)
  refine zFp_if (fun _ => ?_) (fun _ => ?_)
  · skip
    refine zFp_let (fun v26 _ => ?_)
    exact g
  · skip
    refine zFp_let (fun v3 _ => ?_)
    refine zFp_let (fun v4 _ => ?_)
    refine zFp_let (fun v5 _ => ?_)
    refine zFp_let (fun s6 es6 => ?_)
    have gs6 : zFr A σ s6 := by rw [es6]; exact g.w h0
    refine zFp_let (fun v9 _ => ?_)
    exact fr_X11_undo_21  h1 _ _ _ gs6
set_option maxRecDepth 100000 in
theorem fr_X11_agree_17 {A : Nat → Nat → Prop} {σ : zS} {a0 : Nat} {p1 : Int32}  (h0 : ∀ j, A ((σ.2.2 a0 45).getD 0) j) (h1 : A a0 47) (h2 : ∀ j, A ((σ.2.2 a0 46).getD 0) j) (h3 : ∀ j, A ((σ.2.2 a0 55).getD 0) j) (h4 : A a0 56) (h5 : ∀ j, A ((σ.2.2 a0 49).getD 0) j) : ∀ (n : Nat) (x7 : Int32) (x8 : Int32) (τ9 : zS), zFr A σ τ9 → zFp A σ (F_X11_agree_17 a0 p1 n x7 x8 τ9) := by
  intro n
  induction n with
  | zero => intro x7 x8 τ9 g; exact g
  | succ n ih =>
    intro x7 x8 τ9 g
    rw [F_X11_agree_17]
    refine zFp_if (fun _ => ?_) (fun _ => ?_)
    · skip
      refine zFp_let (fun v13 _ => ?_)
      refine zFp_let2 (fun v15 t14 et14 => ?_)
      have gt14 : zFr A σ t14 := (fr_X11_winnerBy g h0 h1 h2).of et14
      refine zFp_if (fun _ => ?_) (fun _ => ?_)
      · skip
        refine zFp_let (fun t18 et18 => ?_)
        have gt18 : zFr A σ t18 := by rw [et18]; exact fr_X11_monthGoes gt14 h0 h1 h2 h3 h4 h5
        refine zFp_let (fun v20 _ => ?_)
        exact ih _ _ _ gt18
      · skip
        refine zFp_let (fun v21 _ => ?_)
        refine zFp_let2 (fun v23 t22 et22 => ?_)
        have gt22 : zFr A σ t22 := (fr_X11_winnerBy gt14 h0 h1 h2).of et22
        refine zFp_if (fun _ => ?_) (fun _ => ?_)
        · skip
          refine zFp_let (fun v29 _ => ?_)
          refine zFp_let2 (fun v31 t30 et30 => ?_)
          have gt30 : zFr A σ t30 := (fr_X11_winnerBy gt22 h0 h1 h2).of et30
          refine zFp_if (fun _ => ?_) (fun _ => ?_)
          · skip
            refine zFp_let (fun v37 _ => ?_)
            refine zFp_let (fun t38 et38 => ?_)
            have gt38 : zFr A σ t38 := by rw [et38]; exact fr_X11_monthGoes gt30 h0 h1 h2 h3 h4 h5
            refine zFp_let (fun v40 _ => ?_)
            exact ih _ _ _ gt38
          · skip
            refine zFp_let (fun t34 et34 => ?_)
            have gt34 : zFr A σ t34 := by rw [et34]; exact fr_X11_monthGoes gt30 h0 h1 h2 h3 h4 h5
            refine zFp_let (fun v36 _ => ?_)
            exact ih _ _ _ gt34
        · skip
          refine zFp_let (fun t26 et26 => ?_)
          have gt26 : zFr A σ t26 := by rw [et26]; exact fr_X11_monthGoes gt22 h0 h1 h2 h3 h4 h5
          refine zFp_let (fun v28 _ => ?_)
          exact ih _ _ _ gt26
    · skip
      exact g
set_option maxRecDepth 100000 in
theorem fr_X11_agree {A : Nat → Nat → Prop} {σ σ0 : zS} {a0 : Nat} {p1 : Int32}  (g : zFr A σ σ0) (h0 : ∀ j, A ((σ.2.2 a0 49).getD 0) j) (h1 : A a0 50) (h2 : A a0 51) (h3 : ∀ j, A ((σ.2.2 a0 54).getD 0) j) (h4 : ∀ j, A ((σ.2.2 a0 52).getD 0) j) (h5 : ∀ j, A ((σ.2.2 a0 53).getD 0) j) (h6 : ∀ j, A ((σ.2.2 a0 45).getD 0) j) (h7 : A a0 47) (h8 : ∀ j, A ((σ.2.2 a0 46).getD 0) j) (h9 : ∀ j, A ((σ.2.2 a0 55).getD 0) j) (h10 : A a0 56) : zFp A σ (F_X11_agree a0 p1 σ0) := by
  unfold F_X11_agree
  refine zFp_let (fun v1 _ => ?_)
  refine zFp_if (fun _ => ?_) (fun _ => ?_)
  · skip
    refine zFp_let (fun v41 _ => ?_)
    exact g
  · skip
    refine zFp_let (fun t3 et3 => ?_)
    have gt3 : zFr A σ t3 := by rw [et3]; exact fr_X11_copiesStill g h0 h1 h2 h3 h4 h5 h6 h7 h8 h9
    refine zFp_let (fun v5 _ => ?_)
    refine zFp_let (fun v6 _ => ?_)
    exact fr_X11_agree_17  h6 h7 h8 h9 h10 h0 _ _ _ _ gt3
set_option maxRecDepth 100000 in
theorem fr_X11_behind {A : Nat → Nat → Prop} {σ σ0 : zS} {a0 : Nat} {p1 : Int32} {p2 : Int32}  (g : zFr A σ σ0) (h0 : ∀ j, A ((σ.2.2 a0 49).getD 0) j) (h1 : A a0 50) (h2 : A a0 51) (h3 : ∀ j, A ((σ.2.2 a0 54).getD 0) j) (h4 : ∀ j, A ((σ.2.2 a0 52).getD 0) j) (h5 : ∀ j, A ((σ.2.2 a0 53).getD 0) j) (h6 : ∀ j, A ((σ.2.2 a0 45).getD 0) j) (h7 : A a0 47) (h8 : ∀ j, A ((σ.2.2 a0 46).getD 0) j) (h9 : ∀ j, A ((σ.2.2 a0 55).getD 0) j) : zFp A σ (F_X11_behind a0 p1 p2 σ0) := by
  unfold F_X11_behind
  refine zFp_let2 (fun v2 t1 et1 => ?_)
  have gt1 : zFr A σ t1 := (fr_X11_isClaim g h0 h1 h2 h3 h4 h5 h6 h7 h8 h9).of et1
  refine zFp_if (fun _ => ?_) (fun _ => ?_)
  · skip
    refine zFp_let (fun v15 _ => ?_)
    exact gt1
  · skip
    refine zFp_let2 (fun v6 t5 et5 => ?_)
    have gt5 : zFr A σ t5 := (fr_X11_winnerBy gt1 h6 h7 h8).of et5
    refine zFp_let2 (fun v9 t8 et8 => ?_)
    have gt8 : zFr A σ t8 := (fr_X11_claimOf gt5 h6 h7 h8).of et8
    refine zFp_let2 (fun v12 t11 et11 => ?_)
    have gt11 : zFr A σ t11 := (fr_X11_claimOf gt8 h6 h7 h8).of et11
    refine zFp_let (fun v14 _ => ?_)
    exact gt11
set_option maxRecDepth 100000 in
theorem fr_X11_margin_25 {A : Nat → Nat → Prop} {σ : zS} {v6 : Int32} {a0 : Nat} {p1 : Int32}  (h0 : ∀ j, A ((σ.2.2 a0 45).getD 0) j) (h1 : A a0 47) (h2 : ∀ j, A ((σ.2.2 a0 46).getD 0) j) : ∀ (n : Nat) (x10 : Int32) (x11 : Int32) (τ12 : zS), zFr A σ τ12 → zFp A σ (F_X11_margin_25 v6 a0 p1 n x10 x11 τ12) := by
  intro n
  induction n with
  | zero => intro x10 x11 τ12 g; exact g
  | succ n ih =>
    intro x10 x11 τ12 g
    rw [F_X11_margin_25]
    refine zFp_let (fun v14 _ => ?_)
    refine zFp_if (fun _ => ?_) (fun _ => ?_)
    · skip
      refine zFp_if (fun _ => ?_) (fun _ => ?_)
      · skip
        refine zFp_let (fun v23 _ => ?_)
        exact ih _ _ _ g
      · skip
        refine zFp_let (fun v25 _ => ?_)
        refine zFp_if (fun _ => ?_) (fun _ => ?_)
        · skip
          refine zFp_let (fun v27 _ => ?_)
          exact ih _ _ _ g
        · skip
          refine zFp_let2 (fun v29 t28 et28 => ?_)
          have gt28 : zFr A σ t28 := (fr_X11_claimOf g h0 h1 h2).of et28
          refine zFp_if (fun _ => ?_) (fun _ => ?_)
          · skip
            refine zFp_let2 (fun v36 t35 et35 => ?_)
            have gt35 : zFr A σ t35 := (fr_X11_claimOf gt28 h0 h1 h2).of et35
            refine zFp_let (fun v38 _ => ?_)
            exact ih _ _ _ gt35
          · skip
            refine zFp_let (fun v34 _ => ?_)
            exact ih _ _ _ gt28
    · skip
      refine zFp_if (fun _ => ?_) (fun _ => ?_)
      · skip
        refine zFp_let (fun v21 _ => ?_)
        exact g
      · skip
        refine zFp_let2 (fun v18 t17 et17 => ?_)
        have gt17 : zFr A σ t17 := (fr_X11_claimOf g h0 h1 h2).of et17
        refine zFp_let (fun v20 _ => ?_)
        exact gt17
set_option maxRecDepth 100000 in
theorem fr_X11_margin {A : Nat → Nat → Prop} {σ σ0 : zS} {a0 : Nat} {p1 : Int32}  (g : zFr A σ σ0) (h0 : ∀ j, A ((σ.2.2 a0 49).getD 0) j) (h1 : A a0 50) (h2 : A a0 51) (h3 : ∀ j, A ((σ.2.2 a0 54).getD 0) j) (h4 : ∀ j, A ((σ.2.2 a0 52).getD 0) j) (h5 : ∀ j, A ((σ.2.2 a0 53).getD 0) j) (h6 : ∀ j, A ((σ.2.2 a0 45).getD 0) j) (h7 : A a0 47) (h8 : ∀ j, A ((σ.2.2 a0 46).getD 0) j) (h9 : ∀ j, A ((σ.2.2 a0 55).getD 0) j) : zFp A σ (F_X11_margin a0 p1 σ0) := by
  unfold F_X11_margin
  refine zFp_let (fun v1 _ => ?_)
  refine zFp_if (fun _ => ?_) (fun _ => ?_)
  · skip
    refine zFp_let (fun v39 _ => ?_)
    exact g
  · skip
    refine zFp_let (fun t3 et3 => ?_)
    have gt3 : zFr A σ t3 := by rw [et3]; exact fr_X11_copies g h0 h1 h2 h3 h4 h5 h6 h7 h8 h9
    refine zFp_let2 (fun v6 t5 et5 => ?_)
    have gt5 : zFr A σ t5 := (fr_X11_winnerBy gt3 h6 h7 h8).of et5
    refine zFp_let (fun v8 _ => ?_)
    refine zFp_let (fun v9 _ => ?_)
    exact fr_X11_margin_25  h6 h7 h8 _ _ _ _ gt5
set_option maxRecDepth 100000 in
theorem fr_X11_rankOf_13 {A : Nat → Nat → Prop} {σ : zS} {v3 : Int32} {a0 : Nat} {p1 : Int32} {p2 : Int32}  (h0 : ∀ j, A ((σ.2.2 a0 45).getD 0) j) (h1 : A a0 47) (h2 : ∀ j, A ((σ.2.2 a0 46).getD 0) j) : ∀ (n : Nat) (x6 : Int32) (x7 : Int32) (τ8 : zS), zFr A σ τ8 → zFp A σ (F_X11_rankOf_13 v3 a0 p1 p2 n x6 x7 τ8) := by
  intro n
  induction n with
  | zero => intro x6 x7 τ8 g; exact g
  | succ n ih =>
    intro x6 x7 τ8 g
    rw [F_X11_rankOf_13]
    refine zFp_let (fun v10 _ => ?_)
    refine zFp_if (fun _ => ?_) (fun _ => ?_)
    · skip
      refine zFp_if (fun _ => ?_) (fun _ => ?_)
      · skip
        refine zFp_let (fun v13 _ => ?_)
        exact ih _ _ _ g
      · skip
        refine zFp_let (fun v15 _ => ?_)
        refine zFp_if (fun _ => ?_) (fun _ => ?_)
        · skip
          refine zFp_let (fun v31 _ => ?_)
          exact ih _ _ _ g
        · skip
          refine zFp_let2 (fun v18 t17 et17 => ?_)
          have gt17 : zFr A σ t17 := (fr_X11_claimOf g h0 h1 h2).of et17
          refine zFp_if (fun _ => ?_) (fun _ => ?_)
          · skip
            refine zFp_let (fun v23 _ => ?_)
            refine zFp_let (fun v24 _ => ?_)
            exact ih _ _ _ gt17
          · skip
            refine zFp_if (fun _ => ?_) (fun _ => ?_)
            · skip
              refine zFp_if (fun _ => ?_) (fun _ => ?_)
              · skip
                refine zFp_let (fun v29 _ => ?_)
                refine zFp_let (fun v30 _ => ?_)
                exact ih _ _ _ gt17
              · skip
                refine zFp_let (fun v28 _ => ?_)
                exact ih _ _ _ gt17
            · skip
              refine zFp_let (fun v26 _ => ?_)
              exact ih _ _ _ gt17
    · skip
      exact g
set_option maxRecDepth 100000 in
theorem fr_X11_rankOf {A : Nat → Nat → Prop} {σ σ0 : zS} {a0 : Nat} {p1 : Int32} {p2 : Int32}  (g : zFr A σ σ0) (h0 : ∀ j, A ((σ.2.2 a0 45).getD 0) j) (h1 : A a0 47) (h2 : ∀ j, A ((σ.2.2 a0 46).getD 0) j) : zFp A σ (F_X11_rankOf a0 p1 p2 σ0) := by
  unfold F_X11_rankOf
  refine zFp_let (fun v1 _ => ?_)
  refine zFp_let2 (fun v3 t2 et2 => ?_)
  have gt2 : zFr A σ t2 := (fr_X11_claimOf g h0 h1 h2).of et2
  refine zFp_let (fun v5 _ => ?_)
  exact fr_X11_rankOf_13  h0 h1 h2 _ _ _ _ gt2
set_option maxRecDepth 100000 in
theorem fr_X11_rank {A : Nat → Nat → Prop} {σ σ0 : zS} {a0 : Nat} {p1 : Int32} {p2 : Int32}  (g : zFr A σ σ0) (h0 : ∀ j, A ((σ.2.2 a0 49).getD 0) j) (h1 : A a0 50) (h2 : A a0 51) (h3 : ∀ j, A ((σ.2.2 a0 54).getD 0) j) (h4 : ∀ j, A ((σ.2.2 a0 52).getD 0) j) (h5 : ∀ j, A ((σ.2.2 a0 53).getD 0) j) (h6 : ∀ j, A ((σ.2.2 a0 45).getD 0) j) (h7 : A a0 47) (h8 : ∀ j, A ((σ.2.2 a0 46).getD 0) j) (h9 : ∀ j, A ((σ.2.2 a0 55).getD 0) j) : zFp A σ (F_X11_rank a0 p1 p2 σ0) := by
  unfold F_X11_rank
  refine zFp_let2 (fun v2 t1 et1 => ?_)
  have gt1 : zFr A σ t1 := (fr_X11_isClaim g h0 h1 h2 h3 h4 h5 h6 h7 h8 h9).of et1
  refine zFp_if (fun _ => ?_) (fun _ => ?_)
  · skip
    refine zFp_let (fun v5 _ => ?_)
    exact gt1
  · skip
    refine zFp_let2 (fun v7 t6 et6 => ?_)
    have gt6 : zFr A σ t6 := (fr_X11_rankOf gt1 h6 h7 h8).of et6
    exact gt6
set_option maxRecDepth 100000 in
theorem fr_X11_vote_122 {A : Nat → Nat → Prop} {σ : zS} {a0 : Nat} {p1 : Int32} {kLp12 : Int32 → zS → Int32 × zS} {kLp17 : Int32 → zS → Int32 × zS} (ckLp12 : ∀ (y0 : Int32) (s : zS), zFr A σ s → zFp A σ (kLp12 y0 s)) (ckLp17 : ∀ (y0 : Int32) (s : zS), zFr A σ s → zFp A σ (kLp17 y0 s))  : ∀ (n : Nat) (x23 : Int32) (x24 : Int32) (τ25 : zS), zFr A σ τ25 → zFp A σ (F_X11_vote_122 a0 p1 kLp12 kLp17 n x23 x24 τ25) := by
  intro n
  induction n with
  | zero => intro x23 x24 τ25 g; exact g
  | succ n ih =>
    intro x23 x24 τ25 g
    rw [F_X11_vote_122]
    refine zFp_let (fun v26 _ => ?_)
    refine zFp_if (fun _ => ?_) (fun _ => ?_)
    · skip
      refine zFp_let (fun v31 ev31 => ?_)
      rw [g.rf] at ev31
      subst ev31
      refine zFp_let (fun v32 _ => ?_)
      refine zFp_let (fun v33 ev33 => ?_)
      rw [g.rf] at ev33
      subst ev33
      refine zFp_let (fun v34 _ => ?_)
      refine zFp_if (fun _ => ?_) (fun _ => ?_)
      · skip
        refine zFp_let (fun v39 _ => ?_)
        exact ih _ _ _ g
      · skip
        refine zFp_let (fun v38 _ => ?_)
        exact ih _ _ _ g
    · skip
      refine zFp_if (fun _ => ?_) (fun _ => ?_)
      · skip
        exact g
      · skip
        refine zFp_let (fun v29 ev29 => ?_)
        rw [g.rf] at ev29
        subst ev29
        refine zFp_let (fun v30 _ => ?_)
        exact g
set_option maxRecDepth 100000 in
theorem fr_X11_vote_71 {A : Nat → Nat → Prop} {σ : zS} {x16 : Int32} {a0 : Nat} {p1 : Int32} {kLp12 : Int32 → zS → Int32 × zS} {kLp17 : Int32 → zS → Int32 × zS} (ckLp12 : ∀ (y0 : Int32) (s : zS), zFr A σ s → zFp A σ (kLp12 y0 s)) (ckLp17 : ∀ (y0 : Int32) (s : zS), zFr A σ s → zFp A σ (kLp17 y0 s)) (h0 : ∀ j, A ((σ.2.2 a0 45).getD 0) j) (h1 : A a0 47) (h2 : ∀ j, A ((σ.2.2 a0 46).getD 0) j) (h3 : ∀ j, A ((σ.2.2 a0 59).getD 0) j) : ∀ (n : Nat) (x45 : Int32) (x46 : Int32) (τ47 : zS), zFr A σ τ47 → zFp A σ (F_X11_vote_71 x16 a0 p1 kLp12 kLp17 n x45 x46 τ47) := by
  intro n
  induction n with
  | zero => intro x45 x46 τ47 g; exact g
  | succ n ih =>
    intro x45 x46 τ47 g
    rw [F_X11_vote_71]
    refine zFp_let (fun v48 _ => ?_)
    refine zFp_if (fun _ => ?_) (fun _ => ?_)
    · skip
      refine zFp_let2 (fun v58 t57 et57 => ?_)
      have gt57 : zFr A σ t57 := (fr_X11_rankOf g h0 h1 h2).of et57
      refine zFp_let2 (fun v61 t60 et60 => ?_)
      have gt60 : zFr A σ t60 := (fr_X11_rankOf gt57 h0 h1 h2).of et60
      refine zFp_if (fun _ => ?_) (fun _ => ?_)
      · skip
        refine zFp_let (fun v67 _ => ?_)
        exact ih _ _ _ gt60
      · skip
        refine zFp_let (fun v66 _ => ?_)
        exact ih _ _ _ gt60
    · skip
      refine zFp_let (fun v50 ev50 => ?_)
      rw [g.rf] at ev50
      subst ev50
      refine zFp_let (fun v51 _ => ?_)
      refine zFp_let (fun v52 _ => ?_)
      refine zFp_let (fun v53 _ => ?_)
      refine zFp_let (fun s54 es54 => ?_)
      have gs54 : zFr A σ s54 := by rw [es54]; exact g.w (h3 _)
      refine zFp_let (fun v56 _ => ?_)
      exact ckLp17 _ _ gs54
set_option maxRecDepth 100000 in
theorem fr_X11_vote_47 {A : Nat → Nat → Prop} {σ : zS} {a0 : Nat} {p1 : Int32} {kLp12 : Int32 → zS → Int32 × zS} (ckLp12 : ∀ (y0 : Int32) (s : zS), zFr A σ s → zFp A σ (kLp12 y0 s)) (h0 : ∀ j, A ((σ.2.2 a0 45).getD 0) j) (h1 : A a0 47) (h2 : ∀ j, A ((σ.2.2 a0 46).getD 0) j) (h3 : ∀ j, A ((σ.2.2 a0 59).getD 0) j) : ∀ (n : Nat) (x16 : Int32) (τ17 : zS), zFr A σ τ17 → zFp A σ (F_X11_vote_47 a0 p1 kLp12 n x16 τ17) := by
  intro n
  induction n with
  | zero => intro x16 τ17 g; exact g
  | succ n ih =>
    intro x16 τ17 g
    rw [F_X11_vote_47]
    refine zFp_let (fun v19 _ => ?_)
    refine zFp_if (fun _ => ?_) (fun _ => ?_)
    · skip
      refine zFp_let (fun v41 _ => ?_)
      refine zFp_if (fun _ => ?_) (fun _ => ?_)
      · skip
        refine zFp_let (fun v68 _ => ?_)
        exact ih _ _ g
      · skip
        refine zFp_let (fun v43 _ => ?_)
        refine zFp_let (fun v44 _ => ?_)
        exact fr_X11_vote_71 ckLp12 ih h0 h1 h2 h3 _ _ _ _ g
    · skip
      refine zFp_let (fun v21 _ => ?_)
      refine zFp_let (fun v22 _ => ?_)
      exact fr_X11_vote_122 ckLp12 ih  _ _ _ _ g
set_option maxRecDepth 100000 in
theorem fr_X11_vote_27 {A : Nat → Nat → Prop} {σ : zS} {a0 : Nat} {p1 : Int32}  (h0 : ∀ j, A ((σ.2.2 a0 59).getD 0) j) (h1 : ∀ j, A ((σ.2.2 a0 45).getD 0) j) (h2 : A a0 47) (h3 : ∀ j, A ((σ.2.2 a0 46).getD 0) j) : ∀ (n : Nat) (x11 : Int32) (τ12 : zS), zFr A σ τ12 → zFp A σ (F_X11_vote_27 a0 p1 n x11 τ12) := by
  intro n
  induction n with
  | zero => intro x11 τ12 g; exact g
  | succ n ih =>
    intro x11 τ12 g
    rw [F_X11_vote_27]
    refine zFp_let (fun v13 _ => ?_)
    refine zFp_if (fun _ => ?_) (fun _ => ?_)
    · skip
      refine zFp_let (fun v69 ev69 => ?_)
      rw [g.rf] at ev69
      subst ev69
      refine zFp_let (fun v70 _ => ?_)
      refine zFp_let (fun s71 es71 => ?_)
      have gs71 : zFr A σ s71 := by rw [es71]; exact g.w (h0 _)
      refine zFp_let (fun v73 _ => ?_)
      exact ih _ _ gs71
    · skip
      refine zFp_let (fun v15 _ => ?_)
      exact fr_X11_vote_47 ih h1 h2 h3 h0 _ _ _ g
set_option maxRecDepth 100000 in
theorem fr_X11_vote {A : Nat → Nat → Prop} {σ σ0 : zS} {a0 : Nat} {p1 : Int32}  (g : zFr A σ σ0) (h0 : ∀ j, A ((σ.2.2 a0 49).getD 0) j) (h1 : A a0 50) (h2 : A a0 51) (h3 : ∀ j, A ((σ.2.2 a0 54).getD 0) j) (h4 : ∀ j, A ((σ.2.2 a0 52).getD 0) j) (h5 : ∀ j, A ((σ.2.2 a0 53).getD 0) j) (h6 : ∀ j, A ((σ.2.2 a0 45).getD 0) j) (h7 : A a0 47) (h8 : ∀ j, A ((σ.2.2 a0 46).getD 0) j) (h9 : ∀ j, A ((σ.2.2 a0 55).getD 0) j) (h10 : ∀ j, A ((σ.2.2 a0 59).getD 0) j) : zFp A σ (F_X11_vote a0 p1 σ0) := by
  unfold F_X11_vote
  refine zFp_let (fun v1 _ => ?_)
  refine zFp_let (fun v2 _ => ?_)
  refine zFp_let (fun v3 _ => ?_)
  refine zFp_if (fun _ => ?_) (fun _ => ?_)
  · skip
    refine zFp_let (fun v75 _ => ?_)
    exact g
  · skip
    refine zFp_let (fun t5 et5 => ?_)
    have gt5 : zFr A σ t5 := by rw [et5]; exact fr_X11_copies g h0 h1 h2 h3 h4 h5 h6 h7 h8 h9
    refine zFp_let (fun v8 _ => ?_)
    refine zFp_if (fun _ => ?_) (fun _ => ?_)
    · skip
      refine zFp_let (fun v74 _ => ?_)
      exact gt5
    · skip
      refine zFp_let (fun v10 _ => ?_)
      exact fr_X11_vote_27  h10 h6 h7 h8 _ _ _ gt5
set_option maxRecDepth 100000 in
theorem fr_X11_damsAll_6 {A : Nat → Nat → Prop} {σ : zS} {a0 : Nat} {p1 : Int32}  (h0 : ∀ j, A ((σ.2.2 a0 49).getD 0) j) (h1 : ∀ j, A ((σ.2.2 a0 45).getD 0) j) (h2 : A a0 47) (h3 : ∀ j, A ((σ.2.2 a0 46).getD 0) j) (h4 : ∀ j, A ((σ.2.2 a0 55).getD 0) j) : ∀ (n : Nat) (x4 : Int32) (τ5 : zS), zFr A σ τ5 → zFr A σ (F_X11_damsAll_6 a0 p1 n x4 τ5) := by
  intro n
  induction n with
  | zero => intro x4 τ5 g; exact g
  | succ n ih =>
    intro x4 τ5 g
    rw [F_X11_damsAll_6]
    refine zFr_let (fun v7 _ => ?_)
    refine zFr_if (fun _ => ?_) (fun _ => ?_)
    · skip
      refine zFr_let (fun v12 _ => ?_)
      refine zFr_let (fun v13 _ => ?_)
      refine zFr_let (fun v14 _ => ?_)
      refine zFr_let (fun v15 _ => ?_)
      refine zFr_if (fun _ => ?_) (fun _ => ?_)
      · skip
        refine zFr_let (fun v18 ev18 => ?_)
        rw [g.rf] at ev18
        subst ev18
        refine zFr_let (fun v19 _ => ?_)
        refine zFr_let (fun v20 _ => ?_)
        refine zFr_let (fun v21 _ => ?_)
        refine zFr_let (fun s22 es22 => ?_)
        have gs22 : zFr A σ s22 := by rw [es22]; exact g.w (h0 _)
        refine zFr_let (fun v24 _ => ?_)
        exact ih _ _ gs22
      · skip
        refine zFr_let (fun v17 _ => ?_)
        exact ih _ _ g
    · skip
      refine zFr_let (fun v9 _ => ?_)
      refine zFr_let (fun t10 et10 => ?_)
      have gt10 : zFr A σ t10 := by rw [et10]; exact fr_X11_fillsFlows g h1 h2 h3 h4
      exact gt10
set_option maxRecDepth 100000 in
theorem fr_X11_damsAll {A : Nat → Nat → Prop} {σ σ0 : zS} {a0 : Nat} {p1 : Int32}  (g : zFr A σ σ0) (h0 : ∀ j, A ((σ.2.2 a0 49).getD 0) j) (h1 : A a0 50) (h2 : A a0 51) (h3 : ∀ j, A ((σ.2.2 a0 54).getD 0) j) (h4 : ∀ j, A ((σ.2.2 a0 52).getD 0) j) (h5 : ∀ j, A ((σ.2.2 a0 53).getD 0) j) (h6 : ∀ j, A ((σ.2.2 a0 45).getD 0) j) (h7 : A a0 47) (h8 : ∀ j, A ((σ.2.2 a0 46).getD 0) j) (h9 : ∀ j, A ((σ.2.2 a0 55).getD 0) j) : zFr A σ (F_X11_damsAll a0 p1 σ0) := by
  unfold F_X11_damsAll
  refine zFr_let (fun t1 et1 => ?_)
  have gt1 : zFr A σ t1 := by rw [et1]; exact fr_X11_copies g h0 h1 h2 h3 h4 h5 h6 h7 h8 h9
  refine zFr_let (fun v3 _ => ?_)
  exact fr_X11_damsAll_6  h0 h6 h7 h8 h9 _ _ _ gt1
set_option maxRecDepth 100000 in
theorem fr_X11_dams_40 {A : Nat → Nat → Prop} {σ : zS} {v15 : Int32} {a0 : Nat} {p1 : Int32} {p2 : Int32}  (h0 : ∀ j, A ((σ.2.2 a0 49).getD 0) j) (h1 : A a0 50) (h2 : A a0 51) (h3 : ∀ j, A ((σ.2.2 a0 54).getD 0) j) (h4 : ∀ j, A ((σ.2.2 a0 52).getD 0) j) (h5 : ∀ j, A ((σ.2.2 a0 53).getD 0) j) (h6 : ∀ j, A ((σ.2.2 a0 45).getD 0) j) (h7 : A a0 47) (h8 : ∀ j, A ((σ.2.2 a0 46).getD 0) j) (h9 : ∀ j, A ((σ.2.2 a0 55).getD 0) j) : ∀ (n : Nat) (x18 : Int32) (x19 : Int32) (τ20 : zS), zFr A σ τ20 → zFp A σ (F_X11_dams_40 v15 a0 p1 p2 n x18 x19 τ20) := by
  intro n
  induction n with
  | zero => intro x18 x19 τ20 g; exact g
  | succ n ih =>
    intro x18 x19 τ20 g
    rw [F_X11_dams_40]
    refine zFp_let (fun v21 _ => ?_)
    refine zFp_let (fun v23 _ => ?_)
    refine zFp_let (fun v24 _ => ?_)
    refine zFp_if (fun _ => ?_) (fun _ => ?_)
    · skip
      refine zFp_let (fun v33 _ => ?_)
      refine zFp_let (fun v34 _ => ?_)
      refine zFp_if (fun _ => ?_) (fun _ => ?_)
      · skip
        refine zFp_let (fun v37 _ => ?_)
        exact ih _ _ _ g
      · skip
        refine zFp_let (fun v38 _ => ?_)
        refine zFp_if (fun _ => ?_) (fun _ => ?_)
        · skip
          refine zFp_if (fun _ => ?_) (fun _ => ?_)
          · skip
            refine zFp_let (fun t41 et41 => ?_)
            have gt41 : zFr A σ t41 := by rw [et41]; exact fr_X11_damsAll g h0 h1 h2 h3 h4 h5 h6 h7 h8 h9
            refine zFp_let (fun v43 ev43 => ?_)
            rw [gt41.rf] at ev43
            subst ev43
            refine zFp_let (fun v44 _ => ?_)
            refine zFp_let (fun v45 _ => ?_)
            refine zFp_if (fun _ => ?_) (fun _ => ?_)
            · skip
              refine zFp_let (fun v49 _ => ?_)
              exact ih _ _ _ gt41
            · skip
              refine zFp_let (fun v50 _ => ?_)
              exact ih _ _ _ gt41
          · skip
            refine zFp_let (fun v51 _ => ?_)
            refine zFp_let (fun v52 _ => ?_)
            refine zFp_if (fun _ => ?_) (fun _ => ?_)
            · skip
              refine zFp_let (fun v56 _ => ?_)
              exact ih _ _ _ g
            · skip
              refine zFp_let (fun v57 _ => ?_)
              refine zFp_let (fun v58 _ => ?_)
              refine zFp_if (fun _ => ?_) (fun _ => ?_)
              · skip
                refine zFp_let (fun v70 _ => ?_)
                refine zFp_if (fun _ => ?_) (fun _ => ?_)
                · skip
                  refine zFp_let (fun v82 _ => ?_)
                  exact ih _ _ _ g
                · skip
                  refine zFp_let (fun t72 et72 => ?_)
                  have gt72 : zFr A σ t72 := by rw [et72]; exact fr_X11_damsAll g h0 h1 h2 h3 h4 h5 h6 h7 h8 h9
                  refine zFp_let (fun v74 ev74 => ?_)
                  rw [gt72.rf] at ev74
                  subst ev74
                  refine zFp_let (fun v75 _ => ?_)
                  refine zFp_let (fun v76 _ => ?_)
                  refine zFp_if (fun _ => ?_) (fun _ => ?_)
                  · skip
                    refine zFp_let (fun v80 _ => ?_)
                    exact ih _ _ _ gt72
                  · skip
                    refine zFp_let (fun v81 _ => ?_)
                    exact ih _ _ _ gt72
              · skip
                refine zFp_let (fun t60 et60 => ?_)
                have gt60 : zFr A σ t60 := by rw [et60]; exact fr_X11_damsAll g h0 h1 h2 h3 h4 h5 h6 h7 h8 h9
                refine zFp_let (fun v62 ev62 => ?_)
                rw [gt60.rf] at ev62
                subst ev62
                refine zFp_let (fun v63 _ => ?_)
                refine zFp_let (fun v64 _ => ?_)
                refine zFp_if (fun _ => ?_) (fun _ => ?_)
                · skip
                  refine zFp_let (fun v68 _ => ?_)
                  exact ih _ _ _ gt60
                · skip
                  refine zFp_let (fun v69 _ => ?_)
                  exact ih _ _ _ gt60
        · skip
          refine zFp_let (fun v83 _ => ?_)
          exact ih _ _ _ g
    · skip
      refine zFp_if (fun _ => ?_) (fun _ => ?_)
      · skip
        refine zFp_let (fun v32 _ => ?_)
        exact g
      · skip
        refine zFp_let (fun v28 _ => ?_)
        refine zFp_if (fun _ => ?_) (fun _ => ?_)
        · skip
          refine zFp_let (fun v31 _ => ?_)
          exact g
        · skip
          refine zFp_let (fun v30 _ => ?_)
          exact g
set_option maxRecDepth 100000 in
theorem fr_X11_dams {A : Nat → Nat → Prop} {σ σ0 : zS} {a0 : Nat} {p1 : Int32} {p2 : Int32}  (g : zFr A σ σ0) (h0 : ∀ j, A ((σ.2.2 a0 49).getD 0) j) (h1 : A a0 50) (h2 : A a0 51) (h3 : ∀ j, A ((σ.2.2 a0 54).getD 0) j) (h4 : ∀ j, A ((σ.2.2 a0 52).getD 0) j) (h5 : ∀ j, A ((σ.2.2 a0 53).getD 0) j) (h6 : ∀ j, A ((σ.2.2 a0 45).getD 0) j) (h7 : A a0 47) (h8 : ∀ j, A ((σ.2.2 a0 46).getD 0) j) (h9 : ∀ j, A ((σ.2.2 a0 55).getD 0) j) : zFp A σ (F_X11_dams a0 p1 p2 σ0) := by
  unfold F_X11_dams
  refine zFp_let (fun v1 _ => ?_)
  refine zFp_let (fun v2 _ => ?_)
  refine zFp_let (fun v3 _ => ?_)
  refine zFp_if (fun _ => ?_) (fun _ => ?_)
  · skip
    refine zFp_let (fun v5 _ => ?_)
    exact g
  · skip
    refine zFp_let (fun v6 _ => ?_)
    refine zFp_let (fun v7 _ => ?_)
    refine zFp_let (fun v8 _ => ?_)
    refine zFp_if (fun _ => ?_) (fun _ => ?_)
    · skip
      refine zFp_let (fun v10 _ => ?_)
      exact g
    · skip
      refine zFp_let (fun v12 _ => ?_)
      refine zFp_if (fun _ => ?_) (fun _ => ?_)
      · skip
        refine zFp_let (fun v84 _ => ?_)
        exact g
      · skip
        refine zFp_let (fun v15 _ => ?_)
        refine zFp_let (fun v16 _ => ?_)
        refine zFp_let (fun v17 _ => ?_)
        exact fr_X11_dams_40  h0 h1 h2 h3 h4 h5 h6 h7 h8 h9 _ _ _ _ g
set_option maxRecDepth 100000 in
theorem fr_X11_lossOf {A : Nat → Nat → Prop} {σ σ0 : zS} {a0 : Nat} {p1 : Int32}  (g : zFr A σ σ0) (h0 : ∀ j, A ((σ.2.2 a0 49).getD 0) j) (h1 : A a0 50) (h2 : A a0 51) (h3 : ∀ j, A ((σ.2.2 a0 54).getD 0) j) (h4 : ∀ j, A ((σ.2.2 a0 52).getD 0) j) (h5 : ∀ j, A ((σ.2.2 a0 53).getD 0) j) (h6 : ∀ j, A ((σ.2.2 a0 45).getD 0) j) (h7 : A a0 47) (h8 : ∀ j, A ((σ.2.2 a0 46).getD 0) j) (h9 : ∀ j, A ((σ.2.2 a0 55).getD 0) j) : zFp A σ (F_X11_lossOf a0 p1 σ0) := by
  unfold F_X11_lossOf
  refine zFp_let (fun t1 et1 => ?_)
  have gt1 : zFr A σ t1 := by rw [et1]; exact fr_X11_copies g h0 h1 h2 h3 h4 h5 h6 h7 h8 h9
  refine zFp_let (fun v3 ev3 => ?_)
  rw [gt1.rf] at ev3
  subst ev3
  refine zFp_let (fun v4 _ => ?_)
  refine zFp_let (fun v5 _ => ?_)
  refine zFp_let (fun v6 _ => ?_)
  refine zFp_let (fun v7 _ => ?_)
  refine zFp_let (fun t8 et8 => ?_)
  have gt8 : zFr A σ t8 := by rw [et8]; exact fr_X11_damsAll gt1 h0 h1 h2 h3 h4 h5 h6 h7 h8 h9
  refine zFp_let (fun v10 ev10 => ?_)
  rw [gt8.rf] at ev10
  subst ev10
  refine zFp_let (fun v11 _ => ?_)
  refine zFp_let (fun v12 _ => ?_)
  refine zFp_let (fun v13 _ => ?_)
  exact gt8
set_option maxRecDepth 100000 in
theorem fr_X11_loss {A : Nat → Nat → Prop} {σ σ0 : zS} {a0 : Nat} {p1 : Int32}  (g : zFr A σ σ0) (h0 : ∀ j, A ((σ.2.2 a0 49).getD 0) j) (h1 : A a0 50) (h2 : A a0 51) (h3 : ∀ j, A ((σ.2.2 a0 54).getD 0) j) (h4 : ∀ j, A ((σ.2.2 a0 52).getD 0) j) (h5 : ∀ j, A ((σ.2.2 a0 53).getD 0) j) (h6 : ∀ j, A ((σ.2.2 a0 45).getD 0) j) (h7 : A a0 47) (h8 : ∀ j, A ((σ.2.2 a0 46).getD 0) j) (h9 : ∀ j, A ((σ.2.2 a0 55).getD 0) j) : zFp A σ (F_X11_loss a0 p1 σ0) := by
  unfold F_X11_loss
  refine zFp_let (fun v2 _ => ?_)
  refine zFp_if (fun _ => ?_) (fun _ => ?_)
  · skip
    refine zFp_let (fun v4 _ => ?_)
    exact g
  · skip
    refine zFp_let2 (fun v6 t5 et5 => ?_)
    have gt5 : zFr A σ t5 := (fr_X11_lossOf g h0 h1 h2 h3 h4 h5 h6 h7 h8 h9).of et5
    exact gt5
set_option maxRecDepth 100000 in
theorem fr_X11_part {A : Nat → Nat → Prop} {σ σ0 : zS} {a0 : Nat} {p1 : Int32}  (g : zFr A σ σ0) (h0 : ∀ j, A ((σ.2.2 a0 49).getD 0) j) (h1 : A a0 50) (h2 : A a0 51) (h3 : ∀ j, A ((σ.2.2 a0 54).getD 0) j) (h4 : ∀ j, A ((σ.2.2 a0 52).getD 0) j) (h5 : ∀ j, A ((σ.2.2 a0 53).getD 0) j) (h6 : ∀ j, A ((σ.2.2 a0 45).getD 0) j) (h7 : A a0 47) (h8 : ∀ j, A ((σ.2.2 a0 46).getD 0) j) (h9 : ∀ j, A ((σ.2.2 a0 55).getD 0) j) : zFp A σ (F_X11_part a0 p1 σ0) := by
  unfold F_X11_part
  refine zFp_let (fun v2 _ => ?_)
  refine zFp_if (fun _ => ?_) (fun _ => ?_)
  · skip
    refine zFp_let (fun v20 _ => ?_)
    exact g
  · skip
    refine zFp_let2 (fun v5 t4 et4 => ?_)
    have gt4 : zFr A σ t4 := (fr_X11_lossOf g h0 h1 h2 h3 h4 h5 h6 h7 h8 h9).of et4
    refine zFp_let (fun t7 et7 => ?_)
    have gt7 : zFr A σ t7 := by rw [et7]; exact fr_X11_copies gt4 h0 h1 h2 h3 h4 h5 h6 h7 h8 h9
    refine zFp_let (fun v9 ev9 => ?_)
    rw [gt7.rf] at ev9
    subst ev9
    refine zFp_let (fun v10 _ => ?_)
    refine zFp_let (fun v11 _ => ?_)
    refine zFp_if (fun _ => ?_) (fun _ => ?_)
    · skip
      refine zFp_let (fun v19 _ => ?_)
      exact gt7
    · skip
      refine zFp_let (fun v13 _ => ?_)
      refine zFp_let (fun v14 _ => ?_)
      refine zFp_let (fun v15 ev15 => ?_)
      rw [gt7.rf] at ev15
      subst ev15
      refine zFp_let (fun v16 _ => ?_)
      refine zFp_let (fun v17 _ => ?_)
      refine zFp_let (fun v18 _ => ?_)
      exact gt7
set_option maxRecDepth 100000 in
theorem fr_X11_main_32 {A : Nat → Nat → Prop} {σ : zS} {x10 : Int32} {x11 : Int32} {a0 : Nat} {p1 : Int32} {kLp12 : Int32 → Int32 → zS → Int32 × zS} (ckLp12 : ∀ (y0 : Int32) (y1 : Int32) (s : zS), zFr A σ s → zFp A σ (kLp12 y0 y1 s))  : ∀ (n : Nat) (x18 : Int32) (x19 : Int32) (τ20 : zS), zFr A σ τ20 → zFp A σ (F_X11_main_32 x10 x11 a0 p1 kLp12 n x18 x19 τ20) := by
  intro n
  induction n with
  | zero => intro x18 x19 τ20 g; exact g
  | succ n ih =>
    intro x18 x19 τ20 g
    rw [F_X11_main_32]
    refine zFp_let (fun v22 _ => ?_)
    refine zFp_if (fun _ => ?_) (fun _ => ?_)
    · skip
      refine zFp_let (fun v27 ev27 => ?_)
      rw [g.rf] at ev27
      subst ev27
      refine zFp_let (fun v28 _ => ?_)
      refine zFp_if (fun _ => ?_) (fun _ => ?_)
      · skip
        refine zFp_if (fun _ => ?_) (fun _ => ?_)
        · skip
          refine zFp_let (fun v32 _ => ?_)
          exact ih _ _ _ g
        · skip
          refine zFp_let (fun v33 ev33 => ?_)
          rw [g.rf] at ev33
          subst ev33
          refine zFp_let (fun v34 _ => ?_)
          refine zFp_let (fun v35 ev35 => ?_)
          rw [g.rf] at ev35
          subst ev35
          refine zFp_let (fun v36 _ => ?_)
          refine zFp_if (fun _ => ?_) (fun _ => ?_)
          · skip
            refine zFp_let (fun v41 _ => ?_)
            exact ih _ _ _ g
          · skip
            refine zFp_let (fun v40 _ => ?_)
            exact ih _ _ _ g
      · skip
        refine zFp_let (fun v30 _ => ?_)
        exact ih _ _ _ g
    · skip
      refine zFp_if (fun _ => ?_) (fun _ => ?_)
      · skip
        refine zFp_let (fun v26 _ => ?_)
        exact g
      · skip
        refine zFp_let (fun v25 _ => ?_)
        exact ckLp12 _ _ _ g
set_option maxRecDepth 100000 in
theorem fr_X11_main_21 {A : Nat → Nat → Prop} {σ : zS} {a0 : Nat} {p1 : Int32}   : ∀ (n : Nat) (x10 : Int32) (x11 : Int32) (τ12 : zS), zFr A σ τ12 → zFp A σ (F_X11_main_21 a0 p1 n x10 x11 τ12) := by
  intro n
  induction n with
  | zero => intro x10 x11 τ12 g; exact g
  | succ n ih =>
    intro x10 x11 τ12 g
    rw [F_X11_main_21]
    refine zFp_if (fun _ => ?_) (fun _ => ?_)
    · skip
      refine zFp_let (fun v16 _ => ?_)
      refine zFp_let (fun v17 _ => ?_)
      exact fr_X11_main_32 ih  _ _ _ _ g
    · skip
      exact g
set_option maxRecDepth 100000 in
theorem fr_X11_main {A : Nat → Nat → Prop} {σ σ0 : zS} {a0 : Nat} {p1 : Int32}  (g : zFr A σ σ0) (h0 : ∀ j, A ((σ.2.2 a0 49).getD 0) j) (h1 : A a0 50) (h2 : A a0 51) (h3 : ∀ j, A ((σ.2.2 a0 54).getD 0) j) (h4 : ∀ j, A ((σ.2.2 a0 52).getD 0) j) (h5 : ∀ j, A ((σ.2.2 a0 53).getD 0) j) (h6 : ∀ j, A ((σ.2.2 a0 45).getD 0) j) (h7 : A a0 47) (h8 : ∀ j, A ((σ.2.2 a0 46).getD 0) j) (h9 : ∀ j, A ((σ.2.2 a0 55).getD 0) j) : zFp A σ (F_X11_main a0 p1 σ0) := by
  unfold F_X11_main
  refine zFp_if (fun _ => ?_) (fun _ => ?_)
  · skip
    refine zFp_let (fun v2 _ => ?_)
    exact g
  · skip
    refine zFp_let (fun v4 _ => ?_)
    refine zFp_if (fun _ => ?_) (fun _ => ?_)
    · skip
      refine zFp_let (fun v42 _ => ?_)
      exact g
    · skip
      refine zFp_let (fun t6 et6 => ?_)
      have gt6 : zFr A σ t6 := by rw [et6]; exact fr_X11_copies g h0 h1 h2 h3 h4 h5 h6 h7 h8 h9
      refine zFp_let (fun v8 _ => ?_)
      refine zFp_let (fun v9 _ => ?_)
      exact fr_X11_main_21   _ _ _ _ gt6
set_option maxRecDepth 100000 in
theorem fr_X11_driest_37 {A : Nat → Nat → Prop} {σ : zS} {a0 : Nat} {p1 : Int32} {p2 : Int32}  (h0 : ∀ j, A ((σ.2.2 a0 45).getD 0) j) (h1 : A a0 47) (h2 : ∀ j, A ((σ.2.2 a0 46).getD 0) j) (h3 : ∀ j, A ((σ.2.2 a0 55).getD 0) j) (h4 : A a0 56) (h5 : ∀ j, A ((σ.2.2 a0 49).getD 0) j) : ∀ (n : Nat) (x17 : Int32) (x18 : Int32) (x19 : Int32) (τ20 : zS), zFr A σ τ20 → zFp A σ (F_X11_driest_37 a0 p1 p2 n x17 x18 x19 τ20) := by
  intro n
  induction n with
  | zero => intro x17 x18 x19 τ20 g; exact g
  | succ n ih =>
    intro x17 x18 x19 τ20 g
    rw [F_X11_driest_37]
    refine zFp_if (fun _ => ?_) (fun _ => ?_)
    · skip
      refine zFp_if (fun _ => ?_) (fun _ => ?_)
      · skip
        refine zFp_let (fun v26 ev26 => ?_)
        rw [g.rf] at ev26
        subst ev26
        refine zFp_let (fun v27 _ => ?_)
        refine zFp_let (fun v28 _ => ?_)
        refine zFp_let (fun t29 et29 => ?_)
        have gt29 : zFr A σ t29 := by rw [et29]; exact fr_X11_monthGoes g h0 h1 h2 h3 h4 h5
        refine zFp_let (fun v31 _ => ?_)
        exact ih _ _ _ _ gt29
      · skip
        refine zFp_let (fun v32 ev32 => ?_)
        rw [g.rf] at ev32
        subst ev32
        refine zFp_let (fun v33 _ => ?_)
        refine zFp_let (fun v34 _ => ?_)
        refine zFp_if (fun _ => ?_) (fun _ => ?_)
        · skip
          refine zFp_let (fun v41 ev41 => ?_)
          rw [g.rf] at ev41
          subst ev41
          refine zFp_let (fun v42 _ => ?_)
          refine zFp_let (fun v43 _ => ?_)
          refine zFp_let (fun t44 et44 => ?_)
          have gt44 : zFr A σ t44 := by rw [et44]; exact fr_X11_monthGoes g h0 h1 h2 h3 h4 h5
          refine zFp_let (fun v46 _ => ?_)
          exact ih _ _ _ _ gt44
        · skip
          refine zFp_let (fun t38 et38 => ?_)
          have gt38 : zFr A σ t38 := by rw [et38]; exact fr_X11_monthGoes g h0 h1 h2 h3 h4 h5
          refine zFp_let (fun v40 _ => ?_)
          exact ih _ _ _ _ gt38
    · skip
      refine zFp_if (fun _ => ?_) (fun _ => ?_)
      · skip
        exact g
      · skip
        exact g
set_option maxRecDepth 100000 in
theorem fr_X11_driest {A : Nat → Nat → Prop} {σ σ0 : zS} {a0 : Nat} {p1 : Int32} {p2 : Int32}  (g : zFr A σ σ0) (h0 : ∀ j, A ((σ.2.2 a0 49).getD 0) j) (h1 : A a0 50) (h2 : A a0 51) (h3 : ∀ j, A ((σ.2.2 a0 54).getD 0) j) (h4 : ∀ j, A ((σ.2.2 a0 52).getD 0) j) (h5 : ∀ j, A ((σ.2.2 a0 53).getD 0) j) (h6 : ∀ j, A ((σ.2.2 a0 45).getD 0) j) (h7 : A a0 47) (h8 : ∀ j, A ((σ.2.2 a0 46).getD 0) j) (h9 : ∀ j, A ((σ.2.2 a0 55).getD 0) j) (h10 : A a0 56) : zFp A σ (F_X11_driest a0 p1 p2 σ0) := by
  unfold F_X11_driest
  refine zFp_let (fun v1 _ => ?_)
  refine zFp_if (fun _ => ?_) (fun _ => ?_)
  · skip
    refine zFp_let (fun v3 _ => ?_)
    exact g
  · skip
    refine zFp_let (fun v4 _ => ?_)
    refine zFp_let (fun v5 _ => ?_)
    refine zFp_let (fun v6 _ => ?_)
    refine zFp_if (fun _ => ?_) (fun _ => ?_)
    · skip
      refine zFp_let (fun v8 _ => ?_)
      exact g
    · skip
      refine zFp_let (fun v10 _ => ?_)
      refine zFp_if (fun _ => ?_) (fun _ => ?_)
      · skip
        refine zFp_let (fun v47 _ => ?_)
        exact g
      · skip
        refine zFp_let (fun t12 et12 => ?_)
        have gt12 : zFr A σ t12 := by rw [et12]; exact fr_X11_copiesStill g h0 h1 h2 h3 h4 h5 h6 h7 h8 h9
        refine zFp_let (fun v14 _ => ?_)
        refine zFp_let (fun v15 _ => ?_)
        refine zFp_let (fun v16 _ => ?_)
        exact fr_X11_driest_37  h6 h7 h8 h9 h10 h0 _ _ _ _ _ gt12
set_option maxRecDepth 100000 in
theorem fr_X11_winsTurned {A : Nat → Nat → Prop} {σ σ0 : zS} {a0 : Nat} {p1 : Int32} {p2 : Int32} {p3 : Int32} {p4 : Int32}  (g : zFr A σ σ0) (h0 : ∀ j, A ((σ.2.2 a0 49).getD 0) j) (h1 : A a0 50) (h2 : A a0 51) (h3 : ∀ j, A ((σ.2.2 a0 54).getD 0) j) (h4 : ∀ j, A ((σ.2.2 a0 52).getD 0) j) (h5 : ∀ j, A ((σ.2.2 a0 53).getD 0) j) (h6 : ∀ j, A ((σ.2.2 a0 45).getD 0) j) (h7 : A a0 47) (h8 : ∀ j, A ((σ.2.2 a0 46).getD 0) j) (h9 : ∀ j, A ((σ.2.2 a0 55).getD 0) j) : zFp A σ (F_X11_winsTurned a0 p1 p2 p3 p4 σ0) := by
  unfold F_X11_winsTurned
  refine zFp_let (fun t1 et1 => ?_)
  have gt1 : zFr A σ t1 := by rw [et1]; exact fr_X11_copies g h0 h1 h2 h3 h4 h5 h6 h7 h8 h9
  refine zFp_if (fun _ => ?_) (fun _ => ?_)
  · skip
    refine zFp_let (fun v4 _ => ?_)
    exact gt1
  · skip
    refine zFp_if (fun _ => ?_) (fun _ => ?_)
    · skip
      refine zFp_let (fun v6 _ => ?_)
      exact gt1
    · skip
      refine zFp_let (fun v8 _ => ?_)
      refine zFp_if (fun _ => ?_) (fun _ => ?_)
      · skip
        refine zFp_let (fun v24 _ => ?_)
        exact gt1
      · skip
        refine zFp_let (fun v10 ev10 => ?_)
        rw [gt1.rf] at ev10
        subst ev10
        refine zFp_let (fun s11 es11 => ?_)
        have gs11 : zFr A σ s11 := by rw [es11]; exact gt1.w (h0 _)
        refine zFp_let (fun t13 et13 => ?_)
        have gt13 : zFr A σ t13 := by rw [et13]; exact fr_X11_fillsWays gs11 h3 h4 h5
        refine zFp_let (fun v15 _ => ?_)
        refine zFp_let (fun t16 et16 => ?_)
        have gt16 : zFr A σ t16 := by rw [et16]; exact fr_X11_fillsFlows gt13 h6 h7 h8 h9
        refine zFp_let2 (fun v19 t18 et18 => ?_)
        have gt18 : zFr A σ t18 := (fr_X11_winnerBy gt16 h6 h7 h8).of et18
        refine zFp_if (fun _ => ?_) (fun _ => ?_)
        · skip
          refine zFp_let (fun v23 _ => ?_)
          exact gt18
        · skip
          refine zFp_let (fun v22 _ => ?_)
          exact gt18
set_option maxRecDepth 100000 in
theorem fr_X11_turnFor_24 {A : Nat → Nat → Prop} {σ : zS} {x6 : Int32} {a0 : Nat} {p1 : Int32} {p2 : Int32} {kLp7 : Int32 → zS → Int32 × zS} (ckLp7 : ∀ (y0 : Int32) (s : zS), zFr A σ s → zFp A σ (kLp7 y0 s)) (h0 : ∀ j, A ((σ.2.2 a0 49).getD 0) j) (h1 : A a0 50) (h2 : A a0 51) (h3 : ∀ j, A ((σ.2.2 a0 54).getD 0) j) (h4 : ∀ j, A ((σ.2.2 a0 52).getD 0) j) (h5 : ∀ j, A ((σ.2.2 a0 53).getD 0) j) (h6 : ∀ j, A ((σ.2.2 a0 45).getD 0) j) (h7 : A a0 47) (h8 : ∀ j, A ((σ.2.2 a0 46).getD 0) j) (h9 : ∀ j, A ((σ.2.2 a0 55).getD 0) j) : ∀ (n : Nat) (x13 : Int32) (τ14 : zS), zFr A σ τ14 → zFp A σ (F_X11_turnFor_24 x6 a0 p1 p2 kLp7 n x13 τ14) := by
  intro n
  induction n with
  | zero => intro x13 τ14 g; exact g
  | succ n ih =>
    intro x13 τ14 g
    rw [F_X11_turnFor_24]
    refine zFp_let (fun v16 _ => ?_)
    refine zFp_if (fun _ => ?_) (fun _ => ?_)
    · skip
      refine zFp_let2 (fun v20 t19 et19 => ?_)
      have gt19 : zFr A σ t19 := (fr_X11_winsTurned g h0 h1 h2 h3 h4 h5 h6 h7 h8 h9).of et19
      refine zFp_if (fun _ => ?_) (fun _ => ?_)
      · skip
        refine zFp_let (fun v23 _ => ?_)
        exact ih _ _ gt19
      · skip
        refine zFp_let (fun v24 _ => ?_)
        refine zFp_let (fun v25 _ => ?_)
        refine zFp_let (fun v26 _ => ?_)
        exact gt19
    · skip
      refine zFp_let (fun v18 _ => ?_)
      exact ckLp7 _ _ g
set_option maxRecDepth 100000 in
theorem fr_X11_turnFor_13 {A : Nat → Nat → Prop} {σ : zS} {a0 : Nat} {p1 : Int32} {p2 : Int32}  (h0 : ∀ j, A ((σ.2.2 a0 49).getD 0) j) (h1 : A a0 50) (h2 : A a0 51) (h3 : ∀ j, A ((σ.2.2 a0 54).getD 0) j) (h4 : ∀ j, A ((σ.2.2 a0 52).getD 0) j) (h5 : ∀ j, A ((σ.2.2 a0 53).getD 0) j) (h6 : ∀ j, A ((σ.2.2 a0 45).getD 0) j) (h7 : A a0 47) (h8 : ∀ j, A ((σ.2.2 a0 46).getD 0) j) (h9 : ∀ j, A ((σ.2.2 a0 55).getD 0) j) : ∀ (n : Nat) (x6 : Int32) (τ7 : zS), zFr A σ τ7 → zFp A σ (F_X11_turnFor_13 a0 p1 p2 n x6 τ7) := by
  intro n
  induction n with
  | zero => intro x6 τ7 g; exact g
  | succ n ih =>
    intro x6 τ7 g
    rw [F_X11_turnFor_13]
    refine zFp_let (fun v9 _ => ?_)
    refine zFp_if (fun _ => ?_) (fun _ => ?_)
    · skip
      refine zFp_let (fun v12 _ => ?_)
      exact fr_X11_turnFor_24 ih h0 h1 h2 h3 h4 h5 h6 h7 h8 h9 _ _ _ g
    · skip
      refine zFp_let (fun v11 _ => ?_)
      exact g
set_option maxRecDepth 100000 in
theorem fr_X11_turnFor {A : Nat → Nat → Prop} {σ σ0 : zS} {a0 : Nat} {p1 : Int32} {p2 : Int32}  (g : zFr A σ σ0) (h0 : ∀ j, A ((σ.2.2 a0 49).getD 0) j) (h1 : A a0 50) (h2 : A a0 51) (h3 : ∀ j, A ((σ.2.2 a0 54).getD 0) j) (h4 : ∀ j, A ((σ.2.2 a0 52).getD 0) j) (h5 : ∀ j, A ((σ.2.2 a0 53).getD 0) j) (h6 : ∀ j, A ((σ.2.2 a0 45).getD 0) j) (h7 : A a0 47) (h8 : ∀ j, A ((σ.2.2 a0 46).getD 0) j) (h9 : ∀ j, A ((σ.2.2 a0 55).getD 0) j) : zFp A σ (F_X11_turnFor a0 p1 p2 σ0) := by
  unfold F_X11_turnFor
  refine zFp_let2 (fun v2 t1 et1 => ?_)
  have gt1 : zFr A σ t1 := (fr_X11_isClaim g h0 h1 h2 h3 h4 h5 h6 h7 h8 h9).of et1
  refine zFp_if (fun _ => ?_) (fun _ => ?_)
  · skip
    refine zFp_let (fun v27 _ => ?_)
    exact gt1
  · skip
    refine zFp_let (fun v5 _ => ?_)
    exact fr_X11_turnFor_13  h0 h1 h2 h3 h4 h5 h6 h7 h8 h9 _ _ _ gt1
set_option maxRecDepth 100000 in
theorem fr_X11_damFor_13 {A : Nat → Nat → Prop} {σ : zS} {a0 : Nat} {p1 : Int32} {p2 : Int32}  (h0 : ∀ j, A ((σ.2.2 a0 49).getD 0) j) (h1 : A a0 50) (h2 : A a0 51) (h3 : ∀ j, A ((σ.2.2 a0 54).getD 0) j) (h4 : ∀ j, A ((σ.2.2 a0 52).getD 0) j) (h5 : ∀ j, A ((σ.2.2 a0 53).getD 0) j) (h6 : ∀ j, A ((σ.2.2 a0 45).getD 0) j) (h7 : A a0 47) (h8 : ∀ j, A ((σ.2.2 a0 46).getD 0) j) (h9 : ∀ j, A ((σ.2.2 a0 55).getD 0) j) : ∀ (n : Nat) (x6 : Int32) (τ7 : zS), zFr A σ τ7 → zFp A σ (F_X11_damFor_13 a0 p1 p2 n x6 τ7) := by
  intro n
  induction n with
  | zero => intro x6 τ7 g; exact g
  | succ n ih =>
    intro x6 τ7 g
    rw [F_X11_damFor_13]
    refine zFp_let (fun v9 _ => ?_)
    refine zFp_if (fun _ => ?_) (fun _ => ?_)
    · skip
      refine zFp_let (fun v12 ev12 => ?_)
      rw [g.rf] at ev12
      subst ev12
      refine zFp_let (fun v13 _ => ?_)
      refine zFp_let (fun v14 _ => ?_)
      refine zFp_let (fun v15 _ => ?_)
      refine zFp_let (fun v16 _ => ?_)
      refine zFp_if (fun _ => ?_) (fun _ => ?_)
      · skip
        refine zFp_let (fun v27 _ => ?_)
        exact ih _ _ g
      · skip
        refine zFp_let (fun v18 _ => ?_)
        refine zFp_let (fun v19 _ => ?_)
        refine zFp_let (fun t20 et20 => ?_)
        have gt20 : zFr A σ t20 := by rw [et20]; exact fr_X11_damsAll g h0 h1 h2 h3 h4 h5 h6 h7 h8 h9
        refine zFp_let2 (fun v23 t22 et22 => ?_)
        have gt22 : zFr A σ t22 := (fr_X11_winnerBy gt20 h6 h7 h8).of et22
        refine zFp_if (fun _ => ?_) (fun _ => ?_)
        · skip
          exact gt22
        · skip
          refine zFp_let (fun v26 _ => ?_)
          exact ih _ _ gt22
    · skip
      refine zFp_let (fun v11 _ => ?_)
      exact g
set_option maxRecDepth 100000 in
theorem fr_X11_damFor {A : Nat → Nat → Prop} {σ σ0 : zS} {a0 : Nat} {p1 : Int32} {p2 : Int32}  (g : zFr A σ σ0) (h0 : ∀ j, A ((σ.2.2 a0 49).getD 0) j) (h1 : A a0 50) (h2 : A a0 51) (h3 : ∀ j, A ((σ.2.2 a0 54).getD 0) j) (h4 : ∀ j, A ((σ.2.2 a0 52).getD 0) j) (h5 : ∀ j, A ((σ.2.2 a0 53).getD 0) j) (h6 : ∀ j, A ((σ.2.2 a0 45).getD 0) j) (h7 : A a0 47) (h8 : ∀ j, A ((σ.2.2 a0 46).getD 0) j) (h9 : ∀ j, A ((σ.2.2 a0 55).getD 0) j) : zFp A σ (F_X11_damFor a0 p1 p2 σ0) := by
  unfold F_X11_damFor
  refine zFp_let2 (fun v2 t1 et1 => ?_)
  have gt1 : zFr A σ t1 := (fr_X11_isClaim g h0 h1 h2 h3 h4 h5 h6 h7 h8 h9).of et1
  refine zFp_if (fun _ => ?_) (fun _ => ?_)
  · skip
    refine zFp_let (fun v28 _ => ?_)
    exact gt1
  · skip
    refine zFp_let (fun v5 _ => ?_)
    exact fr_X11_damFor_13  h0 h1 h2 h3 h4 h5 h6 h7 h8 h9 _ _ _ gt1
set_option maxRecDepth 100000 in
theorem fr_X11_depth_8 {A : Nat → Nat → Prop} {σ : zS} {a0 : Nat}   : ∀ (n : Nat) (x5 : Int32) (x6 : Int32) (τ7 : zS), zFr A σ τ7 → zFp A σ (F_X11_depth_8 a0 n x5 x6 τ7) := by
  intro n
  induction n with
  | zero => intro x5 x6 τ7 g; exact g
  | succ n ih =>
    intro x5 x6 τ7 g
    rw [F_X11_depth_8]
    refine zFp_let (fun v9 _ => ?_)
    refine zFp_if (fun _ => ?_) (fun _ => ?_)
    · skip
      refine zFp_let (fun v12 _ => ?_)
      refine zFp_if (fun _ => ?_) (fun _ => ?_)
      · skip
        refine zFp_let (fun v14 _ => ?_)
        exact ih _ _ _ g
      · skip
        refine zFp_let (fun v15 ev15 => ?_)
        rw [g.rf] at ev15
        subst ev15
        refine zFp_let (fun v16 _ => ?_)
        refine zFp_let (fun v17 _ => ?_)
        refine zFp_let (fun v18 _ => ?_)
        refine zFp_if (fun _ => ?_) (fun _ => ?_)
        · skip
          refine zFp_let (fun v23 ev23 => ?_)
          rw [g.rf] at ev23
          subst ev23
          refine zFp_let (fun v24 _ => ?_)
          refine zFp_let (fun v25 _ => ?_)
          refine zFp_let (fun v26 _ => ?_)
          refine zFp_let (fun v27 _ => ?_)
          exact ih _ _ _ g
        · skip
          refine zFp_let (fun v22 _ => ?_)
          exact ih _ _ _ g
    · skip
      exact g
set_option maxRecDepth 100000 in
theorem fr_X11_depth {A : Nat → Nat → Prop} {σ σ0 : zS} {a0 : Nat}  (g : zFr A σ σ0) (h0 : ∀ j, A ((σ.2.2 a0 49).getD 0) j) (h1 : A a0 50) (h2 : A a0 51) (h3 : ∀ j, A ((σ.2.2 a0 54).getD 0) j) (h4 : ∀ j, A ((σ.2.2 a0 52).getD 0) j) (h5 : ∀ j, A ((σ.2.2 a0 53).getD 0) j) (h6 : ∀ j, A ((σ.2.2 a0 45).getD 0) j) (h7 : A a0 47) (h8 : ∀ j, A ((σ.2.2 a0 46).getD 0) j) (h9 : ∀ j, A ((σ.2.2 a0 55).getD 0) j) : zFp A σ (F_X11_depth a0 σ0) := by
  unfold F_X11_depth
  refine zFp_let (fun t1 et1 => ?_)
  have gt1 : zFr A σ t1 := by rw [et1]; exact fr_X11_copies g h0 h1 h2 h3 h4 h5 h6 h7 h8 h9
  refine zFp_let (fun v3 _ => ?_)
  refine zFp_let (fun v4 _ => ?_)
  exact fr_X11_depth_8   _ _ _ _ gt1
set_option maxRecDepth 100000 in
theorem fr_X11_order_23 {A : Nat → Nat → Prop} {σ : zS} {x7 : Int32} {a0 : Nat} {p1 : Int32} {kLp8 : Int32 → zS → Int32 × zS} (ckLp8 : ∀ (y0 : Int32) (s : zS), zFr A σ s → zFp A σ (kLp8 y0 s)) (h0 : ∀ j, A ((σ.2.2 a0 60).getD 0) j) : ∀ (n : Nat) (x13 : Int32) (τ14 : zS), zFr A σ τ14 → zFp A σ (F_X11_order_23 x7 a0 p1 kLp8 n x13 τ14) := by
  intro n
  induction n with
  | zero => intro x13 τ14 g; exact g
  | succ n ih =>
    intro x13 τ14 g
    rw [F_X11_order_23]
    refine zFp_let (fun v16 _ => ?_)
    refine zFp_if (fun _ => ?_) (fun _ => ?_)
    · skip
      refine zFp_let (fun v19 ev19 => ?_)
      rw [g.rf] at ev19
      subst ev19
      refine zFp_let (fun v20 _ => ?_)
      refine zFp_if (fun _ => ?_) (fun _ => ?_)
      · skip
        refine zFp_let (fun v23 ev23 => ?_)
        rw [g.rf] at ev23
        subst ev23
        refine zFp_let (fun v25 _ => ?_)
        refine zFp_let (fun s26 es26 => ?_)
        have gs26 : zFr A σ s26 := by rw [es26]; exact g.w (h0 _)
        refine zFp_let (fun v28 _ => ?_)
        exact ih _ _ gs26
      · skip
        refine zFp_let (fun v22 _ => ?_)
        exact ih _ _ g
    · skip
      refine zFp_let (fun v18 _ => ?_)
      exact ckLp8 _ _ g
set_option maxRecDepth 100000 in
theorem fr_X11_order_17 {A : Nat → Nat → Prop} {σ : zS} {a0 : Nat} {p1 : Int32}  (h0 : ∀ j, A ((σ.2.2 a0 60).getD 0) j) : ∀ (n : Nat) (x7 : Int32) (τ8 : zS), zFr A σ τ8 → zFp A σ (F_X11_order_17 a0 p1 n x7 τ8) := by
  intro n
  induction n with
  | zero => intro x7 τ8 g; exact g
  | succ n ih =>
    intro x7 τ8 g
    rw [F_X11_order_17]
    refine zFp_if (fun _ => ?_) (fun _ => ?_)
    · skip
      refine zFp_let (fun v10 ev10 => ?_)
      rw [g.rf] at ev10
      subst ev10
      refine zFp_let (fun v11 _ => ?_)
      exact g
    · skip
      refine zFp_let (fun v12 _ => ?_)
      exact fr_X11_order_23 ih h0 _ _ _ g
set_option maxRecDepth 100000 in
theorem fr_X11_order {A : Nat → Nat → Prop} {σ σ0 : zS} {a0 : Nat} {p1 : Int32}  (g : zFr A σ σ0) (h0 : ∀ j, A ((σ.2.2 a0 49).getD 0) j) (h1 : A a0 50) (h2 : A a0 51) (h3 : ∀ j, A ((σ.2.2 a0 54).getD 0) j) (h4 : ∀ j, A ((σ.2.2 a0 52).getD 0) j) (h5 : ∀ j, A ((σ.2.2 a0 53).getD 0) j) (h6 : ∀ j, A ((σ.2.2 a0 45).getD 0) j) (h7 : A a0 47) (h8 : ∀ j, A ((σ.2.2 a0 46).getD 0) j) (h9 : ∀ j, A ((σ.2.2 a0 55).getD 0) j) (h10 : ∀ j, A ((σ.2.2 a0 60).getD 0) j) : zFp A σ (F_X11_order a0 p1 σ0) := by
  unfold F_X11_order
  refine zFp_let (fun v2 _ => ?_)
  refine zFp_if (fun _ => ?_) (fun _ => ?_)
  · skip
    refine zFp_let (fun v29 _ => ?_)
    exact g
  · skip
    refine zFp_let (fun t4 et4 => ?_)
    have gt4 : zFr A σ t4 := by rw [et4]; exact fr_X11_copies g h0 h1 h2 h3 h4 h5 h6 h7 h8 h9
    refine zFp_let (fun v6 _ => ?_)
    exact fr_X11_order_17  h10 _ _ _ gt4
set_option maxRecDepth 100000 in
theorem fr_X11_basin_39 {A : Nat → Nat → Prop} {σ : zS} {a0 : Nat} {p1 : Int32} {p2 : Int32}  (h0 : ∀ j, A ((σ.2.2 a0 45).getD 0) j) (h1 : A a0 47) (h2 : ∀ j, A ((σ.2.2 a0 46).getD 0) j) : ∀ (n : Nat) (x14 : Int32) (x15 : Int32) (τ16 : zS), zFr A σ τ16 → zFp A σ (F_X11_basin_39 a0 p1 p2 n x14 x15 τ16) := by
  intro n
  induction n with
  | zero => intro x14 x15 τ16 g; exact g
  | succ n ih =>
    intro x14 x15 τ16 g
    rw [F_X11_basin_39]
    refine zFp_let (fun v18 _ => ?_)
    refine zFp_if (fun _ => ?_) (fun _ => ?_)
    · skip
      refine zFp_let (fun v20 ev20 => ?_)
      rw [g.rf] at ev20
      subst ev20
      refine zFp_let (fun v21 _ => ?_)
      refine zFp_let (fun v22 _ => ?_)
      refine zFp_let (fun v23 _ => ?_)
      refine zFp_let (fun v24 _ => ?_)
      refine zFp_let (fun v25 _ => ?_)
      refine zFp_if (fun _ => ?_) (fun _ => ?_)
      · skip
        refine zFp_let2 (fun v29 t28 et28 => ?_)
        have gt28 : zFr A σ t28 := (fr_X11_rainsAt g h0 h1 h2).of et28
        refine zFp_let (fun v31 _ => ?_)
        refine zFp_let (fun v32 _ => ?_)
        exact ih _ _ _ gt28
      · skip
        refine zFp_let (fun v27 _ => ?_)
        exact ih _ _ _ g
    · skip
      exact g
set_option maxRecDepth 100000 in
theorem fr_X11_basin {A : Nat → Nat → Prop} {σ σ0 : zS} {a0 : Nat} {p1 : Int32} {p2 : Int32}  (g : zFr A σ σ0) (h0 : ∀ j, A ((σ.2.2 a0 49).getD 0) j) (h1 : A a0 50) (h2 : A a0 51) (h3 : ∀ j, A ((σ.2.2 a0 54).getD 0) j) (h4 : ∀ j, A ((σ.2.2 a0 52).getD 0) j) (h5 : ∀ j, A ((σ.2.2 a0 53).getD 0) j) (h6 : ∀ j, A ((σ.2.2 a0 45).getD 0) j) (h7 : A a0 47) (h8 : ∀ j, A ((σ.2.2 a0 46).getD 0) j) (h9 : ∀ j, A ((σ.2.2 a0 55).getD 0) j) : zFp A σ (F_X11_basin a0 p1 p2 σ0) := by
  unfold F_X11_basin
  refine zFp_let (fun v2 _ => ?_)
  refine zFp_if (fun _ => ?_) (fun _ => ?_)
  · skip
    refine zFp_let (fun v4 _ => ?_)
    exact g
  · skip
    refine zFp_let (fun v5 _ => ?_)
    refine zFp_let (fun v6 _ => ?_)
    refine zFp_let (fun v7 _ => ?_)
    refine zFp_if (fun _ => ?_) (fun _ => ?_)
    · skip
      refine zFp_let (fun v35 _ => ?_)
      exact g
    · skip
      refine zFp_let (fun t9 et9 => ?_)
      have gt9 : zFr A σ t9 := by rw [et9]; exact fr_X11_copies g h0 h1 h2 h3 h4 h5 h6 h7 h8 h9
      refine zFp_if (fun _ => ?_) (fun _ => ?_)
      · skip
        refine zFp_let (fun v33 ev33 => ?_)
        rw [gt9.rf] at ev33
        subst ev33
        refine zFp_let (fun v34 _ => ?_)
        exact gt9
      · skip
        refine zFp_let (fun v12 _ => ?_)
        refine zFp_let (fun v13 _ => ?_)
        exact fr_X11_basin_39  h6 h7 h8 _ _ _ _ gt9
set_option maxRecDepth 100000 in
theorem fr_X11_reign_105 {A : Nat → Nat → Prop} {σ : zS} {a0 : Nat} {p1 : Int32} {p2 : Int32} {p3 : Int32} {kLp15 : Int32 → zS → Int32 × zS} {kLp20 : Int32 → zS → Int32 × zS} (ckLp15 : ∀ (y0 : Int32) (s : zS), zFr A σ s → zFp A σ (kLp15 y0 s)) (ckLp20 : ∀ (y0 : Int32) (s : zS), zFr A σ s → zFp A σ (kLp20 y0 s))  : ∀ (n : Nat) (x27 : Int32) (x28 : Int32) (x29 : Int32) (τ30 : zS), zFr A σ τ30 → zFp A σ (F_X11_reign_105 a0 p1 p2 p3 kLp15 kLp20 n x27 x28 x29 τ30) := by
  intro n
  induction n with
  | zero => intro x27 x28 x29 τ30 g; exact g
  | succ n ih =>
    intro x27 x28 x29 τ30 g
    rw [F_X11_reign_105]
    refine zFp_let (fun v32 _ => ?_)
    refine zFp_if (fun _ => ?_) (fun _ => ?_)
    · skip
      refine zFp_let (fun v35 ev35 => ?_)
      rw [g.rf] at ev35
      subst ev35
      refine zFp_let (fun v36 _ => ?_)
      refine zFp_if (fun _ => ?_) (fun _ => ?_)
      · skip
        refine zFp_let (fun v50 _ => ?_)
        exact ih _ _ _ _ g
      · skip
        refine zFp_let (fun v38 _ => ?_)
        refine zFp_if (fun _ => ?_) (fun _ => ?_)
        · skip
          refine zFp_let (fun v40 _ => ?_)
          exact ih _ _ _ _ g
        · skip
          refine zFp_let (fun v41 ev41 => ?_)
          rw [g.rf] at ev41
          subst ev41
          refine zFp_let (fun v42 _ => ?_)
          refine zFp_let (fun v43 ev43 => ?_)
          rw [g.rf] at ev43
          subst ev43
          refine zFp_let (fun v44 _ => ?_)
          refine zFp_if (fun _ => ?_) (fun _ => ?_)
          · skip
            refine zFp_let (fun v49 _ => ?_)
            exact ih _ _ _ _ g
          · skip
            refine zFp_let (fun v48 _ => ?_)
            exact ih _ _ _ _ g
    · skip
      refine zFp_if (fun _ => ?_) (fun _ => ?_)
      · skip
        exact g
      · skip
        exact g
set_option maxRecDepth 100000 in
theorem fr_X11_reign_56 {A : Nat → Nat → Prop} {σ : zS} {a0 : Nat} {p1 : Int32} {p2 : Int32} {p3 : Int32} {kLp15 : Int32 → zS → Int32 × zS} (ckLp15 : ∀ (y0 : Int32) (s : zS), zFr A σ s → zFp A σ (kLp15 y0 s)) (h0 : ∀ j, A ((σ.2.2 a0 45).getD 0) j) (h1 : A a0 47) (h2 : ∀ j, A ((σ.2.2 a0 46).getD 0) j) (h3 : ∀ j, A ((σ.2.2 a0 55).getD 0) j) (h4 : A a0 56) (h5 : ∀ j, A ((σ.2.2 a0 49).getD 0) j) (h6 : ∀ j, A ((σ.2.2 a0 61).getD 0) j) : ∀ (n : Nat) (x19 : Int32) (τ20 : zS), zFr A σ τ20 → zFp A σ (F_X11_reign_56 a0 p1 p2 p3 kLp15 n x19 τ20) := by
  intro n
  induction n with
  | zero => intro x19 τ20 g; exact g
  | succ n ih =>
    intro x19 τ20 g
    rw [F_X11_reign_56]
    refine zFp_if (fun _ => ?_) (fun _ => ?_)
    · skip
      refine zFp_let2 (fun v52 t51 et51 => ?_)
      have gt51 : zFr A σ t51 := (fr_X11_winnerBy g h0 h1 h2).of et51
      refine zFp_if (fun _ => ?_) (fun _ => ?_)
      · skip
        refine zFp_let (fun t55 et55 => ?_)
        have gt55 : zFr A σ t55 := by rw [et55]; exact fr_X11_monthGoes gt51 h0 h1 h2 h3 h4 h5
        refine zFp_let (fun v57 _ => ?_)
        exact ih _ _ gt55
      · skip
        refine zFp_let (fun v58 ev58 => ?_)
        rw [gt51.rf] at ev58
        subst ev58
        refine zFp_let (fun v59 _ => ?_)
        refine zFp_let (fun v60 _ => ?_)
        refine zFp_let (fun v61 _ => ?_)
        refine zFp_let (fun s62 es62 => ?_)
        have gs62 : zFr A σ s62 := by rw [es62]; exact gt51.w (h6 _)
        refine zFp_let (fun t64 et64 => ?_)
        have gt64 : zFr A σ t64 := by rw [et64]; exact fr_X11_monthGoes gs62 h0 h1 h2 h3 h4 h5
        refine zFp_let (fun v66 _ => ?_)
        exact ih _ _ gt64
    · skip
      refine zFp_let (fun v24 _ => ?_)
      refine zFp_let (fun v25 _ => ?_)
      refine zFp_let (fun v26 _ => ?_)
      exact fr_X11_reign_105 ckLp15 ih  _ _ _ _ _ g
set_option maxRecDepth 100000 in
theorem fr_X11_reign_32 {A : Nat → Nat → Prop} {σ : zS} {a0 : Nat} {p1 : Int32} {p2 : Int32} {p3 : Int32}  (h0 : ∀ j, A ((σ.2.2 a0 61).getD 0) j) (h1 : ∀ j, A ((σ.2.2 a0 45).getD 0) j) (h2 : A a0 47) (h3 : ∀ j, A ((σ.2.2 a0 46).getD 0) j) (h4 : ∀ j, A ((σ.2.2 a0 55).getD 0) j) (h5 : A a0 56) (h6 : ∀ j, A ((σ.2.2 a0 49).getD 0) j) : ∀ (n : Nat) (x14 : Int32) (τ15 : zS), zFr A σ τ15 → zFp A σ (F_X11_reign_32 a0 p1 p2 p3 n x14 τ15) := by
  intro n
  induction n with
  | zero => intro x14 τ15 g; exact g
  | succ n ih =>
    intro x14 τ15 g
    rw [F_X11_reign_32]
    refine zFp_let (fun v16 _ => ?_)
    refine zFp_if (fun _ => ?_) (fun _ => ?_)
    · skip
      refine zFp_let (fun v67 ev67 => ?_)
      rw [g.rf] at ev67
      subst ev67
      refine zFp_let (fun v68 _ => ?_)
      refine zFp_let (fun s69 es69 => ?_)
      have gs69 : zFr A σ s69 := by rw [es69]; exact g.w (h0 _)
      refine zFp_let (fun v71 _ => ?_)
      exact ih _ _ gs69
    · skip
      refine zFp_let (fun v18 _ => ?_)
      exact fr_X11_reign_56 ih h1 h2 h3 h4 h5 h6 h0 _ _ _ g
set_option maxRecDepth 100000 in
theorem fr_X11_reign {A : Nat → Nat → Prop} {σ σ0 : zS} {a0 : Nat} {p1 : Int32} {p2 : Int32} {p3 : Int32}  (g : zFr A σ σ0) (h0 : ∀ j, A ((σ.2.2 a0 49).getD 0) j) (h1 : A a0 50) (h2 : A a0 51) (h3 : ∀ j, A ((σ.2.2 a0 54).getD 0) j) (h4 : ∀ j, A ((σ.2.2 a0 52).getD 0) j) (h5 : ∀ j, A ((σ.2.2 a0 53).getD 0) j) (h6 : ∀ j, A ((σ.2.2 a0 45).getD 0) j) (h7 : A a0 47) (h8 : ∀ j, A ((σ.2.2 a0 46).getD 0) j) (h9 : ∀ j, A ((σ.2.2 a0 55).getD 0) j) (h10 : ∀ j, A ((σ.2.2 a0 61).getD 0) j) (h11 : A a0 56) : zFp A σ (F_X11_reign a0 p1 p2 p3 σ0) := by
  unfold F_X11_reign
  refine zFp_let (fun v1 _ => ?_)
  refine zFp_if (fun _ => ?_) (fun _ => ?_)
  · skip
    refine zFp_let (fun v3 _ => ?_)
    exact g
  · skip
    refine zFp_let (fun v4 _ => ?_)
    refine zFp_if (fun _ => ?_) (fun _ => ?_)
    · skip
      refine zFp_let (fun v6 _ => ?_)
      exact g
    · skip
      refine zFp_let (fun v7 _ => ?_)
      refine zFp_let (fun v8 _ => ?_)
      refine zFp_let (fun v9 _ => ?_)
      refine zFp_if (fun _ => ?_) (fun _ => ?_)
      · skip
        refine zFp_let (fun v72 _ => ?_)
        exact g
      · skip
        refine zFp_let (fun t11 et11 => ?_)
        have gt11 : zFr A σ t11 := by rw [et11]; exact fr_X11_copiesStill g h0 h1 h2 h3 h4 h5 h6 h7 h8 h9
        refine zFp_let (fun v13 _ => ?_)
        exact fr_X11_reign_32  h10 h6 h7 h8 h9 h11 h0 _ _ _ gt11
set_option maxRecDepth 100000 in
theorem fr_X11_tour {A : Nat → Nat → Prop} {σ σ0 : zS} {a0 : Nat}  (g : zFr A σ σ0) (h0 : ∀ j, A ((σ.2.2 a0 49).getD 0) j) (h1 : A a0 50) (h2 : A a0 51) (h3 : ∀ j, A ((σ.2.2 a0 54).getD 0) j) (h4 : ∀ j, A ((σ.2.2 a0 52).getD 0) j) (h5 : ∀ j, A ((σ.2.2 a0 53).getD 0) j) (h6 : ∀ j, A ((σ.2.2 a0 45).getD 0) j) (h7 : A a0 47) (h8 : ∀ j, A ((σ.2.2 a0 46).getD 0) j) (h9 : ∀ j, A ((σ.2.2 a0 55).getD 0) j) : zFp A σ (F_X11_tour a0 σ0) := by
  unfold F_X11_tour
  refine zFp_let (fun t1 et1 => ?_)
  have gt1 : zFr A σ t1 := by rw [et1]; exact fr_X11_copies g h0 h1 h2 h3 h4 h5 h6 h7 h8 h9
  refine zFp_let (fun v4 _ => ?_)
  refine zFp_let (fun v6 _ => ?_)
  exact gt1
set_option maxRecDepth 100000 in
theorem fr_X11_parted_17 {A : Nat → Nat → Prop} {σ : zS} {v4 : Int32} {a0 : Nat}   : ∀ (n : Nat) (x8 : Int32) (x9 : Int32) (τ10 : zS), zFr A σ τ10 → zFp A σ (F_X11_parted_17 v4 a0 n x8 x9 τ10) := by
  intro n
  induction n with
  | zero => intro x8 x9 τ10 g; exact g
  | succ n ih =>
    intro x8 x9 τ10 g
    rw [F_X11_parted_17]
    refine zFp_if (fun _ => ?_) (fun _ => ?_)
    · skip
      exact g
    · skip
      refine zFp_let (fun v12 _ => ?_)
      refine zFp_let (fun v13 _ => ?_)
      refine zFp_let (fun v14 _ => ?_)
      refine zFp_if (fun _ => ?_) (fun _ => ?_)
      · skip
        refine zFp_let (fun v17 _ => ?_)
        refine zFp_let (fun v18 _ => ?_)
        refine zFp_let (fun v19 _ => ?_)
        refine zFp_let (fun v20 _ => ?_)
        refine zFp_let (fun v22 _ => ?_)
        refine zFp_if (fun _ => ?_) (fun _ => ?_)
        · skip
          refine zFp_if (fun _ => ?_) (fun _ => ?_)
          · skip
            refine zFp_let (fun v35 _ => ?_)
            exact ih _ _ _ g
          · skip
            refine zFp_let (fun v34 _ => ?_)
            exact ih _ _ _ g
        · skip
          refine zFp_if (fun _ => ?_) (fun _ => ?_)
          · skip
            refine zFp_let (fun v30 _ => ?_)
            exact ih _ _ _ g
          · skip
            refine zFp_let (fun v29 _ => ?_)
            exact ih _ _ _ g
      · skip
        refine zFp_let (fun v36 _ => ?_)
        exact ih _ _ _ g
set_option maxRecDepth 100000 in
theorem fr_X11_parted {A : Nat → Nat → Prop} {σ σ0 : zS} {a0 : Nat}  (g : zFr A σ σ0) (h0 : ∀ j, A ((σ.2.2 a0 49).getD 0) j) (h1 : A a0 50) (h2 : A a0 51) (h3 : ∀ j, A ((σ.2.2 a0 54).getD 0) j) (h4 : ∀ j, A ((σ.2.2 a0 52).getD 0) j) (h5 : ∀ j, A ((σ.2.2 a0 53).getD 0) j) (h6 : ∀ j, A ((σ.2.2 a0 45).getD 0) j) (h7 : A a0 47) (h8 : ∀ j, A ((σ.2.2 a0 46).getD 0) j) (h9 : ∀ j, A ((σ.2.2 a0 55).getD 0) j) : zFp A σ (F_X11_parted a0 σ0) := by
  unfold F_X11_parted
  refine zFp_let (fun t1 et1 => ?_)
  have gt1 : zFr A σ t1 := by rw [et1]; exact fr_X11_copies g h0 h1 h2 h3 h4 h5 h6 h7 h8 h9
  refine zFp_let (fun v4 _ => ?_)
  refine zFp_let (fun v6 _ => ?_)
  refine zFp_let (fun v7 _ => ?_)
  exact fr_X11_parted_17   _ _ _ _ gt1
set_option maxRecDepth 100000 in
theorem fr_X11_meet_34 {A : Nat → Nat → Prop} {σ : zS} {a0 : Nat} {p1 : Int32} {p2 : Int32} {p3 : Int32}   : ∀ (n : Nat) (x15 : Int32) (τ16 : zS), zFr A σ τ16 → zFp A σ (F_X11_meet_34 a0 p1 p2 p3 n x15 τ16) := by
  intro n
  induction n with
  | zero => intro x15 τ16 g; exact g
  | succ n ih =>
    intro x15 τ16 g
    rw [F_X11_meet_34]
    refine zFp_let (fun v17 ev17 => ?_)
    rw [g.rf] at ev17
    subst ev17
    refine zFp_let (fun v18 _ => ?_)
    refine zFp_let (fun v19 _ => ?_)
    refine zFp_let (fun v20 _ => ?_)
    refine zFp_let (fun v21 _ => ?_)
    refine zFp_if (fun _ => ?_) (fun _ => ?_)
    · skip
      refine zFp_let (fun v34 ev34 => ?_)
      rw [g.rf] at ev34
      subst ev34
      refine zFp_let (fun v35 _ => ?_)
      exact ih _ _ g
    · skip
      refine zFp_if (fun _ => ?_) (fun _ => ?_)
      · skip
        exact g
      · skip
        refine zFp_let (fun v24 ev24 => ?_)
        rw [g.rf] at ev24
        subst ev24
        refine zFp_let (fun v25 _ => ?_)
        refine zFp_let (fun v26 ev26 => ?_)
        rw [g.rf] at ev26
        subst ev26
        refine zFp_let (fun v27 _ => ?_)
        refine zFp_let (fun v28 _ => ?_)
        refine zFp_let (fun v29 _ => ?_)
        refine zFp_let (fun v30 ev30 => ?_)
        rw [g.rf] at ev30
        subst ev30
        refine zFp_let (fun v31 _ => ?_)
        refine zFp_let (fun v32 _ => ?_)
        refine zFp_let (fun v33 _ => ?_)
        exact g
set_option maxRecDepth 100000 in
theorem fr_X11_meet {A : Nat → Nat → Prop} {σ σ0 : zS} {a0 : Nat} {p1 : Int32} {p2 : Int32} {p3 : Int32}  (g : zFr A σ σ0) (h0 : ∀ j, A ((σ.2.2 a0 49).getD 0) j) (h1 : A a0 50) (h2 : A a0 51) (h3 : ∀ j, A ((σ.2.2 a0 54).getD 0) j) (h4 : ∀ j, A ((σ.2.2 a0 52).getD 0) j) (h5 : ∀ j, A ((σ.2.2 a0 53).getD 0) j) (h6 : ∀ j, A ((σ.2.2 a0 45).getD 0) j) (h7 : A a0 47) (h8 : ∀ j, A ((σ.2.2 a0 46).getD 0) j) (h9 : ∀ j, A ((σ.2.2 a0 55).getD 0) j) : zFp A σ (F_X11_meet a0 p1 p2 p3 σ0) := by
  unfold F_X11_meet
  refine zFp_let (fun v2 _ => ?_)
  refine zFp_if (fun _ => ?_) (fun _ => ?_)
  · skip
    refine zFp_let (fun v4 _ => ?_)
    exact g
  · skip
    refine zFp_let (fun v6 _ => ?_)
    refine zFp_if (fun _ => ?_) (fun _ => ?_)
    · skip
      refine zFp_let (fun v8 _ => ?_)
      exact g
    · skip
      refine zFp_let (fun v9 _ => ?_)
      refine zFp_let (fun v10 _ => ?_)
      refine zFp_let (fun v11 _ => ?_)
      refine zFp_if (fun _ => ?_) (fun _ => ?_)
      · skip
        refine zFp_let (fun v36 _ => ?_)
        exact g
      · skip
        refine zFp_let (fun t13 et13 => ?_)
        have gt13 : zFr A σ t13 := by rw [et13]; exact fr_X11_copies g h0 h1 h2 h3 h4 h5 h6 h7 h8 h9
        exact fr_X11_meet_34   _ _ _ gt13
set_option maxRecDepth 100000 in
theorem fr_X11_when_18 {A : Nat → Nat → Prop} {σ : zS} {a0 : Nat} {p1 : Int32}  (h0 : ∀ j, A ((σ.2.2 a0 45).getD 0) j) (h1 : A a0 47) (h2 : ∀ j, A ((σ.2.2 a0 46).getD 0) j) (h3 : ∀ j, A ((σ.2.2 a0 55).getD 0) j) (h4 : A a0 56) (h5 : ∀ j, A ((σ.2.2 a0 49).getD 0) j) : ∀ (n : Nat) (x11 : Int32) (τ12 : zS), zFr A σ τ12 → zFp A σ (F_X11_when_18 a0 p1 n x11 τ12) := by
  intro n
  induction n with
  | zero => intro x11 τ12 g; exact g
  | succ n ih =>
    intro x11 τ12 g
    rw [F_X11_when_18]
    refine zFp_let (fun v13 _ => ?_)
    refine zFp_if (fun _ => ?_) (fun _ => ?_)
    · skip
      refine zFp_let (fun v15 _ => ?_)
      exact g
    · skip
      refine zFp_let (fun t16 et16 => ?_)
      have gt16 : zFr A σ t16 := by rw [et16]; exact fr_X11_monthGoes g h0 h1 h2 h3 h4 h5
      refine zFp_let (fun v18 _ => ?_)
      refine zFp_if (fun _ => ?_) (fun _ => ?_)
      · skip
        exact gt16
      · skip
        refine zFp_let (fun v20 _ => ?_)
        exact ih _ _ gt16
set_option maxRecDepth 100000 in
theorem fr_X11_when {A : Nat → Nat → Prop} {σ σ0 : zS} {a0 : Nat} {p1 : Int32}  (g : zFr A σ σ0) (h0 : ∀ j, A ((σ.2.2 a0 49).getD 0) j) (h1 : A a0 50) (h2 : A a0 51) (h3 : ∀ j, A ((σ.2.2 a0 54).getD 0) j) (h4 : ∀ j, A ((σ.2.2 a0 52).getD 0) j) (h5 : ∀ j, A ((σ.2.2 a0 53).getD 0) j) (h6 : ∀ j, A ((σ.2.2 a0 45).getD 0) j) (h7 : A a0 47) (h8 : ∀ j, A ((σ.2.2 a0 46).getD 0) j) (h9 : ∀ j, A ((σ.2.2 a0 55).getD 0) j) (h10 : A a0 56) : zFp A σ (F_X11_when a0 p1 σ0) := by
  unfold F_X11_when
  refine zFp_let (fun v1 _ => ?_)
  refine zFp_let2 (fun v3 t2 et2 => ?_)
  have gt2 : zFr A σ t2 := (fr_X11_isClaim g h0 h1 h2 h3 h4 h5 h6 h7 h8 h9).of et2
  refine zFp_if (fun _ => ?_) (fun _ => ?_)
  · skip
    refine zFp_let (fun v21 _ => ?_)
    exact gt2
  · skip
    refine zFp_let (fun v6 _ => ?_)
    refine zFp_let (fun s7 es7 => ?_)
    have gs7 : zFr A σ s7 := by rw [es7]; exact gt2.w h2
    refine zFp_let (fun v10 _ => ?_)
    exact fr_X11_when_18  h6 h7 h8 h9 h10 h0 _ _ _ gs7
set_option maxRecDepth 100000 in
theorem fr_X11_then {A : Nat → Nat → Prop} {σ σ0 : zS} {a0 : Nat} {p1 : Int32} {p2 : Int32} {p3 : Int32}  (g : zFr A σ σ0) (h0 : ∀ j, A ((σ.2.2 a0 49).getD 0) j) (h1 : A a0 50) (h2 : A a0 51) (h3 : ∀ j, A ((σ.2.2 a0 54).getD 0) j) (h4 : ∀ j, A ((σ.2.2 a0 52).getD 0) j) (h5 : ∀ j, A ((σ.2.2 a0 53).getD 0) j) (h6 : ∀ j, A ((σ.2.2 a0 45).getD 0) j) (h7 : A a0 47) (h8 : ∀ j, A ((σ.2.2 a0 46).getD 0) j) (h9 : ∀ j, A ((σ.2.2 a0 55).getD 0) j) (h10 : A a0 56) : zFp A σ (F_X11_then a0 p1 p2 p3 σ0) := by
  unfold F_X11_then
  refine zFp_let (fun v1 _ => ?_)
  refine zFp_if (fun _ => ?_) (fun _ => ?_)
  · skip
    refine zFp_let (fun v3 _ => ?_)
    exact g
  · skip
    refine zFp_let (fun v4 _ => ?_)
    refine zFp_let (fun v5 _ => ?_)
    refine zFp_let (fun v6 _ => ?_)
    refine zFp_if (fun _ => ?_) (fun _ => ?_)
    · skip
      refine zFp_let (fun v8 _ => ?_)
      exact g
    · skip
      refine zFp_let (fun v9 _ => ?_)
      refine zFp_let2 (fun v11 t10 et10 => ?_)
      have gt10 : zFr A σ t10 := (fr_X11_isClaim g h0 h1 h2 h3 h4 h5 h6 h7 h8 h9).of et10
      refine zFp_if (fun _ => ?_) (fun _ => ?_)
      · skip
        refine zFp_let (fun v23 _ => ?_)
        exact gt10
      · skip
        refine zFp_let (fun t14 et14 => ?_)
        have gt14 : zFr A σ t14 := by rw [et14]; exact fr_X11_goes gt10 h6 h7 h8 h9 h10 h0
        refine zFp_let (fun v16 ev16 => ?_)
        rw [gt14.rf] at ev16
        subst ev16
        refine zFp_let (fun v17 _ => ?_)
        refine zFp_let (fun v18 _ => ?_)
        refine zFp_let (fun v19 _ => ?_)
        refine zFp_let (fun v20 _ => ?_)
        refine zFp_let (fun v21 _ => ?_)
        refine zFp_let (fun v22 _ => ?_)
        exact gt14
set_option maxRecDepth 100000 in
theorem fr_X11_flowIn {A : Nat → Nat → Prop} {σ σ0 : zS} {a0 : Nat} {p1 : Int32}  (g : zFr A σ σ0) (h0 : ∀ j, A ((σ.2.2 a0 49).getD 0) j) (h1 : A a0 50) (h2 : A a0 51) (h3 : ∀ j, A ((σ.2.2 a0 54).getD 0) j) (h4 : ∀ j, A ((σ.2.2 a0 52).getD 0) j) (h5 : ∀ j, A ((σ.2.2 a0 53).getD 0) j) (h6 : ∀ j, A ((σ.2.2 a0 45).getD 0) j) (h7 : A a0 47) (h8 : ∀ j, A ((σ.2.2 a0 46).getD 0) j) (h9 : ∀ j, A ((σ.2.2 a0 55).getD 0) j) (h10 : A a0 56) : zFp A σ (F_X11_flowIn a0 p1 σ0) := by
  unfold F_X11_flowIn
  refine zFp_let (fun v1 _ => ?_)
  refine zFp_if (fun _ => ?_) (fun _ => ?_)
  · skip
    refine zFp_let (fun v3 _ => ?_)
    exact g
  · skip
    refine zFp_let (fun v5 _ => ?_)
    refine zFp_if (fun _ => ?_) (fun _ => ?_)
    · skip
      refine zFp_let (fun v14 _ => ?_)
      exact g
    · skip
      refine zFp_let (fun t7 et7 => ?_)
      have gt7 : zFr A σ t7 := by rw [et7]; exact fr_X11_copies g h0 h1 h2 h3 h4 h5 h6 h7 h8 h9
      refine zFp_let (fun t9 et9 => ?_)
      have gt9 : zFr A σ t9 := by rw [et9]; exact fr_X11_goes gt7 h6 h7 h8 h9 h10 h0
      refine zFp_let (fun v11 ev11 => ?_)
      rw [gt9.rf] at ev11
      subst ev11
      refine zFp_let (fun v12 _ => ?_)
      refine zFp_let (fun v13 _ => ?_)
      exact gt9
set_option maxRecDepth 100000 in
theorem fr_X11_year_34 {A : Nat → Nat → Prop} {σ : zS} {a0 : Nat} {p1 : Int32} {p2 : Int32} {p3 : Int32}  (h0 : ∀ j, A ((σ.2.2 a0 49).getD 0) j) (h1 : A a0 50) (h2 : A a0 51) (h3 : ∀ j, A ((σ.2.2 a0 54).getD 0) j) (h4 : ∀ j, A ((σ.2.2 a0 52).getD 0) j) (h5 : ∀ j, A ((σ.2.2 a0 53).getD 0) j) (h6 : ∀ j, A ((σ.2.2 a0 45).getD 0) j) (h7 : A a0 47) (h8 : ∀ j, A ((σ.2.2 a0 46).getD 0) j) (h9 : ∀ j, A ((σ.2.2 a0 55).getD 0) j) (h10 : A a0 56) : ∀ (n : Nat) (x16 : Int32) (x17 : Int32) (τ18 : zS), zFr A σ τ18 → zFp A σ (F_X11_year_34 a0 p1 p2 p3 n x16 x17 τ18) := by
  intro n
  induction n with
  | zero => intro x16 x17 τ18 g; exact g
  | succ n ih =>
    intro x16 x17 τ18 g
    rw [F_X11_year_34]
    refine zFp_if (fun _ => ?_) (fun _ => ?_)
    · skip
      refine zFp_let (fun t22 et22 => ?_)
      have gt22 : zFr A σ t22 := by rw [et22]; exact fr_X11_copies g h0 h1 h2 h3 h4 h5 h6 h7 h8 h9
      refine zFp_let (fun v24 _ => ?_)
      refine zFp_let (fun v25 _ => ?_)
      refine zFp_let (fun s26 es26 => ?_)
      have gs26 : zFr A σ s26 := by rw [es26]; exact gt22.w h1
      refine zFp_let (fun t29 et29 => ?_)
      have gt29 : zFr A σ t29 := by rw [et29]; exact fr_X11_goes gs26 h6 h7 h8 h9 h10 h0
      refine zFp_let (fun v33 _ => ?_)
      refine zFp_if (fun _ => ?_) (fun _ => ?_)
      · skip
        refine zFp_let (fun v35 _ => ?_)
        exact ih _ _ _ gt29
      · skip
        refine zFp_let (fun v36 _ => ?_)
        refine zFp_let (fun v37 _ => ?_)
        exact ih _ _ _ gt29
    · skip
      exact g
set_option maxRecDepth 100000 in
theorem fr_X11_year {A : Nat → Nat → Prop} {σ σ0 : zS} {a0 : Nat} {p1 : Int32} {p2 : Int32} {p3 : Int32}  (g : zFr A σ σ0) (h0 : ∀ j, A ((σ.2.2 a0 49).getD 0) j) (h1 : A a0 50) (h2 : A a0 51) (h3 : ∀ j, A ((σ.2.2 a0 54).getD 0) j) (h4 : ∀ j, A ((σ.2.2 a0 52).getD 0) j) (h5 : ∀ j, A ((σ.2.2 a0 53).getD 0) j) (h6 : ∀ j, A ((σ.2.2 a0 45).getD 0) j) (h7 : A a0 47) (h8 : ∀ j, A ((σ.2.2 a0 46).getD 0) j) (h9 : ∀ j, A ((σ.2.2 a0 55).getD 0) j) (h10 : A a0 56) : zFp A σ (F_X11_year a0 p1 p2 p3 σ0) := by
  unfold F_X11_year
  refine zFp_let (fun v1 _ => ?_)
  refine zFp_if (fun _ => ?_) (fun _ => ?_)
  · skip
    refine zFp_let (fun v3 _ => ?_)
    exact g
  · skip
    refine zFp_let (fun v4 _ => ?_)
    refine zFp_let (fun v5 _ => ?_)
    refine zFp_let (fun v6 _ => ?_)
    refine zFp_if (fun _ => ?_) (fun _ => ?_)
    · skip
      refine zFp_let (fun v8 _ => ?_)
      exact g
    · skip
      refine zFp_let (fun v9 _ => ?_)
      refine zFp_let2 (fun v11 t10 et10 => ?_)
      have gt10 : zFr A σ t10 := (fr_X11_isClaim g h0 h1 h2 h3 h4 h5 h6 h7 h8 h9).of et10
      refine zFp_if (fun _ => ?_) (fun _ => ?_)
      · skip
        refine zFp_let (fun v38 _ => ?_)
        exact gt10
      · skip
        refine zFp_let (fun v14 _ => ?_)
        refine zFp_let (fun v15 _ => ?_)
        exact fr_X11_year_34  h0 h1 h2 h3 h4 h5 h6 h7 h8 h9 h10 _ _ _ _ gt10
set_option maxRecDepth 100000 in
theorem fr_X11_tell {A : Nat → Nat → Prop} {σ σ0 : zS} {a0 : Nat} {p1 : Int32} {p2 : Int32} {p3 : Int32} {p4 : Int32}  (g : zFr A σ σ0) (h0 : ∀ j, A ((σ.2.2 a0 63).getD 0) j) (h1 : ∀ j, A ((σ.2.2 a0 64).getD 0) j) (h2 : ∀ j, A ((σ.2.2 a0 65).getD 0) j) (h3 : ∀ j, A ((σ.2.2 a0 66).getD 0) j) (h4 : A a0 62) : zFp A σ (F_X11_tell a0 p1 p2 p3 p4 σ0) := by
  unfold F_X11_tell
  refine zFp_let (fun v1 _ => ?_)
  refine zFp_let (fun v2 _ => ?_)
  refine zFp_if (fun _ => ?_) (fun _ => ?_)
  · skip
    refine zFp_let (fun v4 _ => ?_)
    exact g
  · skip
    refine zFp_let (fun v6 _ => ?_)
    refine zFp_if (fun _ => ?_) (fun _ => ?_)
    · skip
      refine zFp_let (fun v8 _ => ?_)
      exact g
    · skip
      refine zFp_let (fun v9 _ => ?_)
      refine zFp_let (fun v10 _ => ?_)
      refine zFp_let (fun v11 _ => ?_)
      refine zFp_if (fun _ => ?_) (fun _ => ?_)
      · skip
        refine zFp_let (fun v13 _ => ?_)
        exact g
      · skip
        refine zFp_let (fun v14 _ => ?_)
        refine zFp_let (fun v15 _ => ?_)
        refine zFp_if (fun _ => ?_) (fun _ => ?_)
        · skip
          refine zFp_let (fun v46 _ => ?_)
          exact g
        · skip
          refine zFp_let (fun v17 ev17 => ?_)
          rw [g.rf] at ev17
          subst ev17
          refine zFp_let (fun v18 _ => ?_)
          refine zFp_let (fun s19 es19 => ?_)
          have gs19 : zFr A σ s19 := by rw [es19]; exact g.w (h0 _)
          refine zFp_let (fun v22 ev22 => ?_)
          rw [gs19.rf] at ev22
          subst ev22
          refine zFp_let (fun v23 _ => ?_)
          refine zFp_let (fun s24 es24 => ?_)
          have gs24 : zFr A σ s24 := by rw [es24]; exact gs19.w (h1 _)
          refine zFp_let (fun v27 ev27 => ?_)
          rw [gs24.rf] at ev27
          subst ev27
          refine zFp_let (fun v28 _ => ?_)
          refine zFp_let (fun s29 es29 => ?_)
          have gs29 : zFr A σ s29 := by rw [es29]; exact gs24.w (h2 _)
          refine zFp_let (fun v32 ev32 => ?_)
          rw [gs29.rf] at ev32
          subst ev32
          refine zFp_let (fun v33 _ => ?_)
          refine zFp_let (fun s34 es34 => ?_)
          have gs34 : zFr A σ s34 := by rw [es34]; exact gs29.w (h3 _)
          refine zFp_let (fun v37 _ => ?_)
          refine zFp_let (fun v38 _ => ?_)
          refine zFp_let (fun v39 _ => ?_)
          refine zFp_let (fun s40 es40 => ?_)
          have gs40 : zFr A σ s40 := by rw [es40]; exact gs34.w h4
          refine zFp_let (fun v43 _ => ?_)
          refine zFp_let (fun v44 _ => ?_)
          refine zFp_let (fun v45 _ => ?_)
          exact gs40
set_option maxRecDepth 100000 in
theorem fr_X11_dyedBits_26 {A : Nat → Nat → Prop} {σ : zS} {x5 : Int32} {x6 : Int32} {a0 : Nat} {p1 : Int32} {kLp7 : Int32 → Int32 → zS → Int32 × zS} (ckLp7 : ∀ (y0 : Int32) (y1 : Int32) (s : zS), zFr A σ s → zFp A σ (kLp7 y0 y1 s))  : ∀ (n : Nat) (x14 : Int32) (x15 : Int32) (τ16 : zS), zFr A σ τ16 → zFp A σ (F_X11_dyedBits_26 x5 x6 a0 p1 kLp7 n x14 x15 τ16) := by
  intro n
  induction n with
  | zero => intro x14 x15 τ16 g; exact g
  | succ n ih =>
    intro x14 x15 τ16 g
    rw [F_X11_dyedBits_26]
    refine zFp_if (fun _ => ?_) (fun _ => ?_)
    · skip
      refine zFp_if (fun _ => ?_) (fun _ => ?_)
      · skip
        refine zFp_if (fun _ => ?_) (fun _ => ?_)
        · skip
          refine zFp_let (fun v26 _ => ?_)
          exact ckLp7 _ _ _ g
        · skip
          exact g
      · skip
        refine zFp_let (fun v28 _ => ?_)
        refine zFp_let (fun v29 ev29 => ?_)
        rw [g.rf] at ev29
        subst ev29
        refine zFp_let (fun v30 _ => ?_)
        refine zFp_if (fun _ => ?_) (fun _ => ?_)
        · skip
          refine zFp_let (fun v34 _ => ?_)
          refine zFp_let (fun v35 _ => ?_)
          exact ih _ _ _ g
        · skip
          refine zFp_let (fun v32 _ => ?_)
          refine zFp_let (fun v33 _ => ?_)
          exact ih _ _ _ g
    · skip
      refine zFp_if (fun _ => ?_) (fun _ => ?_)
      · skip
        refine zFp_let (fun v19 _ => ?_)
        exact ckLp7 _ _ _ g
      · skip
        refine zFp_let (fun v20 _ => ?_)
        refine zFp_let (fun v21 _ => ?_)
        refine zFp_let (fun v22 _ => ?_)
        refine zFp_let (fun v23 _ => ?_)
        exact ckLp7 _ _ _ g
set_option maxRecDepth 100000 in
theorem fr_X11_dyedBits_8 {A : Nat → Nat → Prop} {σ : zS} {a0 : Nat} {p1 : Int32}   : ∀ (n : Nat) (x5 : Int32) (x6 : Int32) (τ7 : zS), zFr A σ τ7 → zFp A σ (F_X11_dyedBits_8 a0 p1 n x5 x6 τ7) := by
  intro n
  induction n with
  | zero => intro x5 x6 τ7 g; exact g
  | succ n ih =>
    intro x5 x6 τ7 g
    rw [F_X11_dyedBits_8]
    refine zFp_let (fun v9 _ => ?_)
    refine zFp_if (fun _ => ?_) (fun _ => ?_)
    · skip
      refine zFp_let (fun v12 _ => ?_)
      refine zFp_let (fun v13 _ => ?_)
      exact fr_X11_dyedBits_26 ih  _ _ _ _ g
    · skip
      exact g
set_option maxRecDepth 100000 in
theorem fr_X11_dyedBits {A : Nat → Nat → Prop} {σ σ0 : zS} {a0 : Nat} {p1 : Int32}  (g : zFr A σ σ0) (h0 : ∀ j, A ((σ.2.2 a0 49).getD 0) j) (h1 : A a0 50) (h2 : A a0 51) (h3 : ∀ j, A ((σ.2.2 a0 54).getD 0) j) (h4 : ∀ j, A ((σ.2.2 a0 52).getD 0) j) (h5 : ∀ j, A ((σ.2.2 a0 53).getD 0) j) (h6 : ∀ j, A ((σ.2.2 a0 45).getD 0) j) (h7 : A a0 47) (h8 : ∀ j, A ((σ.2.2 a0 46).getD 0) j) (h9 : ∀ j, A ((σ.2.2 a0 55).getD 0) j) : zFp A σ (F_X11_dyedBits a0 p1 σ0) := by
  unfold F_X11_dyedBits
  refine zFp_let (fun t1 et1 => ?_)
  have gt1 : zFr A σ t1 := by rw [et1]; exact fr_X11_copies g h0 h1 h2 h3 h4 h5 h6 h7 h8 h9
  refine zFp_let (fun v3 _ => ?_)
  refine zFp_let (fun v4 _ => ?_)
  exact fr_X11_dyedBits_8   _ _ _ _ gt1
set_option maxRecDepth 100000 in
theorem fr_X11_dyed {A : Nat → Nat → Prop} {σ σ0 : zS} {a0 : Nat} {p1 : Int32} {p2 : Int32}  (g : zFr A σ σ0) (h0 : ∀ j, A ((σ.2.2 a0 49).getD 0) j) (h1 : A a0 50) (h2 : A a0 51) (h3 : ∀ j, A ((σ.2.2 a0 54).getD 0) j) (h4 : ∀ j, A ((σ.2.2 a0 52).getD 0) j) (h5 : ∀ j, A ((σ.2.2 a0 53).getD 0) j) (h6 : ∀ j, A ((σ.2.2 a0 45).getD 0) j) (h7 : A a0 47) (h8 : ∀ j, A ((σ.2.2 a0 46).getD 0) j) (h9 : ∀ j, A ((σ.2.2 a0 55).getD 0) j) : zFp A σ (F_X11_dyed a0 p1 p2 σ0) := by
  unfold F_X11_dyed
  refine zFp_let (fun v1 _ => ?_)
  refine zFp_let (fun v2 _ => ?_)
  refine zFp_let (fun v3 _ => ?_)
  refine zFp_if (fun _ => ?_) (fun _ => ?_)
  · skip
    refine zFp_let (fun v5 _ => ?_)
    exact g
  · skip
    refine zFp_let (fun v6 _ => ?_)
    refine zFp_let (fun v7 _ => ?_)
    refine zFp_let (fun v8 _ => ?_)
    refine zFp_if (fun _ => ?_) (fun _ => ?_)
    · skip
      refine zFp_let (fun v16 _ => ?_)
      exact g
    · skip
      refine zFp_let2 (fun v11 t10 et10 => ?_)
      have gt10 : zFr A σ t10 := (fr_X11_dyedBits g h0 h1 h2 h3 h4 h5 h6 h7 h8 h9).of et10
      refine zFp_if (fun _ => ?_) (fun _ => ?_)
      · skip
        refine zFp_let (fun v15 _ => ?_)
        exact gt10
      · skip
        exact gt10
set_option maxRecDepth 100000 in
theorem fr_X11_watch_29 {A : Nat → Nat → Prop} {σ : zS} {v6 : Int32} {a0 : Nat} {p1 : Int32}   : ∀ (n : Nat) (x12 : Int32) (x13 : Int32) (x14 : Int32) (τ15 : zS), zFr A σ τ15 → zFp A σ (F_X11_watch_29 v6 a0 p1 n x12 x13 x14 τ15) := by
  intro n
  induction n with
  | zero => intro x12 x13 x14 τ15 g; exact g
  | succ n ih =>
    intro x12 x13 x14 τ15 g
    rw [F_X11_watch_29]
    refine zFp_let (fun v17 _ => ?_)
    refine zFp_if (fun _ => ?_) (fun _ => ?_)
    · skip
      refine zFp_if (fun _ => ?_) (fun _ => ?_)
      · skip
        exact g
      · skip
        refine zFp_let (fun v20 ev20 => ?_)
        rw [g.rf] at ev20
        subst ev20
        refine zFp_let (fun v21 _ => ?_)
        refine zFp_let (fun v22 _ => ?_)
        refine zFp_let (fun v23 _ => ?_)
        refine zFp_let (fun v24 _ => ?_)
        refine zFp_let (fun v25 _ => ?_)
        refine zFp_if (fun _ => ?_) (fun _ => ?_)
        · skip
          refine zFp_if (fun _ => ?_) (fun _ => ?_)
          · skip
            refine zFp_let (fun v39 _ => ?_)
            exact ih _ _ _ _ g
          · skip
            refine zFp_if (fun _ => ?_) (fun _ => ?_)
            · skip
              refine zFp_let (fun v43 _ => ?_)
              exact ih _ _ _ _ g
            · skip
              refine zFp_let (fun v44 _ => ?_)
              exact ih _ _ _ _ g
        · skip
          refine zFp_let (fun v29 _ => ?_)
          refine zFp_let (fun v30 _ => ?_)
          refine zFp_if (fun _ => ?_) (fun _ => ?_)
          · skip
            refine zFp_let (fun v32 _ => ?_)
            exact ih _ _ _ _ g
          · skip
            refine zFp_if (fun _ => ?_) (fun _ => ?_)
            · skip
              refine zFp_let (fun v36 _ => ?_)
              exact ih _ _ _ _ g
            · skip
              refine zFp_let (fun v37 _ => ?_)
              exact ih _ _ _ _ g
    · skip
      exact g
set_option maxRecDepth 100000 in
theorem fr_X11_watch {A : Nat → Nat → Prop} {σ σ0 : zS} {a0 : Nat} {p1 : Int32}  (g : zFr A σ σ0) (h0 : ∀ j, A ((σ.2.2 a0 49).getD 0) j) (h1 : A a0 50) (h2 : A a0 51) (h3 : ∀ j, A ((σ.2.2 a0 54).getD 0) j) (h4 : ∀ j, A ((σ.2.2 a0 52).getD 0) j) (h5 : ∀ j, A ((σ.2.2 a0 53).getD 0) j) (h6 : ∀ j, A ((σ.2.2 a0 45).getD 0) j) (h7 : A a0 47) (h8 : ∀ j, A ((σ.2.2 a0 46).getD 0) j) (h9 : ∀ j, A ((σ.2.2 a0 55).getD 0) j) : zFp A σ (F_X11_watch a0 p1 σ0) := by
  unfold F_X11_watch
  refine zFp_let (fun v1 _ => ?_)
  refine zFp_let (fun v2 _ => ?_)
  refine zFp_let (fun v3 _ => ?_)
  refine zFp_if (fun _ => ?_) (fun _ => ?_)
  · skip
    refine zFp_let (fun v45 _ => ?_)
    exact g
  · skip
    refine zFp_let2 (fun v6 t5 et5 => ?_)
    have gt5 : zFr A σ t5 := (fr_X11_dyedBits g h0 h1 h2 h3 h4 h5 h6 h7 h8 h9).of et5
    refine zFp_let (fun v9 _ => ?_)
    refine zFp_let (fun v10 _ => ?_)
    refine zFp_let (fun v11 _ => ?_)
    exact fr_X11_watch_29   _ _ _ _ _ gt5
set_option maxRecDepth 100000 in
theorem fr_X11_count_150 {A : Nat → Nat → Prop} {σ : zS} {a0 : Nat} {p1 : Int32}   : ∀ (n : Nat) (x37 : Int32) (x38 : Int32) (τ39 : zS), zFr A σ τ39 → zFp A σ (F_X11_count_150 a0 p1 n x37 x38 τ39) := by
  intro n
  induction n with
  | zero => intro x37 x38 τ39 g; exact g
  | succ n ih =>
    intro x37 x38 τ39 g
    rw [F_X11_count_150]
    refine zFp_let (fun v41 _ => ?_)
    refine zFp_if (fun _ => ?_) (fun _ => ?_)
    · skip
      refine zFp_let (fun v43 ev43 => ?_)
      rw [g.rf] at ev43
      subst ev43
      refine zFp_let (fun v44 _ => ?_)
      refine zFp_let (fun v45 _ => ?_)
      refine zFp_let (fun v46 _ => ?_)
      refine zFp_let (fun v47 _ => ?_)
      refine zFp_let (fun v48 _ => ?_)
      exact ih _ _ _ g
    · skip
      exact g
set_option maxRecDepth 100000 in
theorem fr_X11_count_253 {A : Nat → Nat → Prop} {σ : zS} {a0 : Nat} {p1 : Int32}   : ∀ (n : Nat) (x118 : Int32) (x119 : Int32) (τ120 : zS), zFr A σ τ120 → zFp A σ (F_X11_count_253 a0 p1 n x118 x119 τ120) := by
  intro n
  induction n with
  | zero => intro x118 x119 τ120 g; exact g
  | succ n ih =>
    intro x118 x119 τ120 g
    rw [F_X11_count_253]
    refine zFp_let (fun v122 _ => ?_)
    refine zFp_if (fun _ => ?_) (fun _ => ?_)
    · skip
      refine zFp_let (fun v124 ev124 => ?_)
      rw [g.rf] at ev124
      subst ev124
      refine zFp_let (fun v125 _ => ?_)
      refine zFp_let (fun v126 _ => ?_)
      refine zFp_let (fun v127 _ => ?_)
      refine zFp_let (fun v128 _ => ?_)
      refine zFp_let (fun v129 _ => ?_)
      refine zFp_let (fun v130 _ => ?_)
      refine zFp_let (fun v131 _ => ?_)
      exact ih _ _ _ g
    · skip
      exact g
set_option maxRecDepth 100000 in
theorem fr_X11_count_288 {A : Nat → Nat → Prop} {σ : zS} {a0 : Nat} {p1 : Int32}   : ∀ (n : Nat) (x134 : Int32) (x135 : Int32) (τ136 : zS), zFr A σ τ136 → zFp A σ (F_X11_count_288 a0 p1 n x134 x135 τ136) := by
  intro n
  induction n with
  | zero => intro x134 x135 τ136 g; exact g
  | succ n ih =>
    intro x134 x135 τ136 g
    rw [F_X11_count_288]
    refine zFp_let (fun v138 _ => ?_)
    refine zFp_if (fun _ => ?_) (fun _ => ?_)
    · skip
      refine zFp_let (fun v140 ev140 => ?_)
      rw [g.rf] at ev140
      subst ev140
      refine zFp_let (fun v141 _ => ?_)
      refine zFp_let (fun v142 ev142 => ?_)
      rw [g.rf] at ev142
      subst ev142
      refine zFp_let (fun v143 _ => ?_)
      refine zFp_let (fun v144 _ => ?_)
      refine zFp_let (fun v145 _ => ?_)
      refine zFp_let (fun v146 _ => ?_)
      refine zFp_let (fun v147 _ => ?_)
      refine zFp_if (fun _ => ?_) (fun _ => ?_)
      · skip
        refine zFp_let (fun v149 _ => ?_)
        exact ih _ _ _ g
      · skip
        refine zFp_let (fun v150 _ => ?_)
        refine zFp_let (fun v151 _ => ?_)
        refine zFp_let (fun v152 _ => ?_)
        refine zFp_let (fun v153 _ => ?_)
        exact ih _ _ _ g
    · skip
      exact g
set_option maxRecDepth 100000 in
theorem fr_X11_count_335 {A : Nat → Nat → Prop} {σ : zS} {a0 : Nat} {p1 : Int32}   : ∀ (n : Nat) (x156 : Int32) (x157 : Int32) (τ158 : zS), zFr A σ τ158 → zFp A σ (F_X11_count_335 a0 p1 n x156 x157 τ158) := by
  intro n
  induction n with
  | zero => intro x156 x157 τ158 g; exact g
  | succ n ih =>
    intro x156 x157 τ158 g
    rw [F_X11_count_335]
    refine zFp_let (fun v160 _ => ?_)
    refine zFp_if (fun _ => ?_) (fun _ => ?_)
    · skip
      refine zFp_let (fun v162 ev162 => ?_)
      rw [g.rf] at ev162
      subst ev162
      refine zFp_let (fun v163 _ => ?_)
      refine zFp_let (fun v164 _ => ?_)
      refine zFp_let (fun v165 _ => ?_)
      refine zFp_let (fun v166 _ => ?_)
      refine zFp_let (fun v167 _ => ?_)
      refine zFp_let (fun v168 _ => ?_)
      refine zFp_let (fun v169 _ => ?_)
      exact ih _ _ _ g
    · skip
      exact g
set_option maxRecDepth 100000 in
theorem fr_X11_count_370 {A : Nat → Nat → Prop} {σ : zS} {a0 : Nat} {p1 : Int32}   : ∀ (n : Nat) (x172 : Int32) (x173 : Int32) (τ174 : zS), zFr A σ τ174 → zFp A σ (F_X11_count_370 a0 p1 n x172 x173 τ174) := by
  intro n
  induction n with
  | zero => intro x172 x173 τ174 g; exact g
  | succ n ih =>
    intro x172 x173 τ174 g
    rw [F_X11_count_370]
    refine zFp_let (fun v176 _ => ?_)
    refine zFp_if (fun _ => ?_) (fun _ => ?_)
    · skip
      refine zFp_let (fun v178 ev178 => ?_)
      rw [g.rf] at ev178
      subst ev178
      refine zFp_let (fun v179 _ => ?_)
      refine zFp_if (fun _ => ?_) (fun _ => ?_)
      · skip
        refine zFp_let (fun v184 ev184 => ?_)
        rw [g.rf] at ev184
        subst ev184
        refine zFp_let (fun v185 _ => ?_)
        refine zFp_let (fun v186 _ => ?_)
        exact ih _ _ _ g
      · skip
        refine zFp_let (fun v183 _ => ?_)
        exact ih _ _ _ g
    · skip
      exact g
set_option maxRecDepth 100000 in
theorem fr_X11_count {A : Nat → Nat → Prop} {σ σ0 : zS} {a0 : Nat} {p1 : Int32}  (g : zFr A σ σ0) (h0 : ∀ j, A ((σ.2.2 a0 49).getD 0) j) (h1 : A a0 50) (h2 : A a0 51) (h3 : ∀ j, A ((σ.2.2 a0 54).getD 0) j) (h4 : ∀ j, A ((σ.2.2 a0 52).getD 0) j) (h5 : ∀ j, A ((σ.2.2 a0 53).getD 0) j) (h6 : ∀ j, A ((σ.2.2 a0 45).getD 0) j) (h7 : A a0 47) (h8 : ∀ j, A ((σ.2.2 a0 46).getD 0) j) (h9 : ∀ j, A ((σ.2.2 a0 55).getD 0) j) : zFp A σ (F_X11_count a0 p1 σ0) := by
  unfold F_X11_count
  refine zFp_let (fun t1 et1 => ?_)
  have gt1 : zFr A σ t1 := by rw [et1]; exact fr_X11_copies g h0 h1 h2 h3 h4 h5 h6 h7 h8 h9
  refine zFp_let (fun v3 _ => ?_)
  refine zFp_if (fun _ => ?_) (fun _ => ?_)
  · skip
    refine zFp_let (fun v6 _ => ?_)
    exact gt1
  · skip
    refine zFp_if (fun _ => ?_) (fun _ => ?_)
    · skip
      refine zFp_let (fun v8 ev8 => ?_)
      rw [gt1.rf] at ev8
      subst ev8
      refine zFp_let (fun v9 _ => ?_)
      refine zFp_let (fun v10 _ => ?_)
      exact gt1
    · skip
      refine zFp_if (fun _ => ?_) (fun _ => ?_)
      · skip
        refine zFp_let (fun v12 ev12 => ?_)
        rw [gt1.rf] at ev12
        subst ev12
        refine zFp_let (fun v13 _ => ?_)
        refine zFp_let (fun v14 _ => ?_)
        refine zFp_let (fun v15 _ => ?_)
        refine zFp_let (fun v16 _ => ?_)
        exact gt1
      · skip
        refine zFp_if (fun _ => ?_) (fun _ => ?_)
        · skip
          refine zFp_let (fun v18 ev18 => ?_)
          rw [gt1.rf] at ev18
          subst ev18
          refine zFp_let (fun v19 _ => ?_)
          refine zFp_let (fun v20 _ => ?_)
          exact gt1
        · skip
          refine zFp_if (fun _ => ?_) (fun _ => ?_)
          · skip
            refine zFp_let (fun v23 _ => ?_)
            exact gt1
          · skip
            refine zFp_if (fun _ => ?_) (fun _ => ?_)
            · skip
              refine zFp_let (fun v26 _ => ?_)
              exact gt1
            · skip
              refine zFp_if (fun _ => ?_) (fun _ => ?_)
              · skip
                refine zFp_let (fun v29 _ => ?_)
                refine zFp_if (fun _ => ?_) (fun _ => ?_)
                · skip
                  refine zFp_let (fun v34 _ => ?_)
                  exact gt1
                · skip
                  refine zFp_let (fun v31 ev31 => ?_)
                  rw [gt1.rf] at ev31
                  subst ev31
                  refine zFp_let (fun v32 _ => ?_)
                  refine zFp_let (fun v33 _ => ?_)
                  exact gt1
              · skip
                refine zFp_if (fun _ => ?_) (fun _ => ?_)
                · skip
                  refine zFp_let (fun v36 _ => ?_)
                  exact fr_X11_count_150   _ _ _ _ gt1
                · skip
                  refine zFp_if (fun _ => ?_) (fun _ => ?_)
                  · skip
                    refine zFp_let (fun v50 _ => ?_)
                    exact gt1
                  · skip
                    refine zFp_if (fun _ => ?_) (fun _ => ?_)
                    · skip
                      refine zFp_let (fun v52 _ => ?_)
                      exact gt1
                    · skip
                      refine zFp_if (fun _ => ?_) (fun _ => ?_)
                      · skip
                        refine zFp_let (fun v54 _ => ?_)
                        exact gt1
                      · skip
                        refine zFp_if (fun _ => ?_) (fun _ => ?_)
                        · skip
                          refine zFp_let (fun v56 ev56 => ?_)
                          rw [gt1.rf] at ev56
                          subst ev56
                          refine zFp_let (fun v57 _ => ?_)
                          refine zFp_let (fun v58 _ => ?_)
                          refine zFp_if (fun _ => ?_) (fun _ => ?_)
                          · skip
                            refine zFp_let (fun v60 _ => ?_)
                            refine zFp_let (fun v61 ev61 => ?_)
                            rw [gt1.rf] at ev61
                            subst ev61
                            refine zFp_let (fun v62 _ => ?_)
                            refine zFp_let (fun v63 _ => ?_)
                            refine zFp_if (fun _ => ?_) (fun _ => ?_)
                            · skip
                              refine zFp_let (fun v65 _ => ?_)
                              refine zFp_let (fun v66 _ => ?_)
                              refine zFp_let (fun v67 ev67 => ?_)
                              rw [gt1.rf] at ev67
                              subst ev67
                              refine zFp_let (fun v68 _ => ?_)
                              refine zFp_let (fun v69 _ => ?_)
                              refine zFp_if (fun _ => ?_) (fun _ => ?_)
                              · skip
                                refine zFp_let (fun v71 _ => ?_)
                                refine zFp_let (fun v72 _ => ?_)
                                exact gt1
                              · skip
                                refine zFp_let (fun v73 _ => ?_)
                                refine zFp_let (fun v74 _ => ?_)
                                exact gt1
                            · skip
                              refine zFp_let (fun v75 _ => ?_)
                              refine zFp_let (fun v76 _ => ?_)
                              refine zFp_let (fun v77 ev77 => ?_)
                              rw [gt1.rf] at ev77
                              subst ev77
                              refine zFp_let (fun v78 _ => ?_)
                              refine zFp_let (fun v79 _ => ?_)
                              refine zFp_if (fun _ => ?_) (fun _ => ?_)
                              · skip
                                refine zFp_let (fun v81 _ => ?_)
                                refine zFp_let (fun v82 _ => ?_)
                                exact gt1
                              · skip
                                refine zFp_let (fun v83 _ => ?_)
                                refine zFp_let (fun v84 _ => ?_)
                                exact gt1
                          · skip
                            refine zFp_let (fun v85 _ => ?_)
                            refine zFp_let (fun v86 ev86 => ?_)
                            rw [gt1.rf] at ev86
                            subst ev86
                            refine zFp_let (fun v87 _ => ?_)
                            refine zFp_let (fun v88 _ => ?_)
                            refine zFp_if (fun _ => ?_) (fun _ => ?_)
                            · skip
                              refine zFp_let (fun v90 _ => ?_)
                              refine zFp_let (fun v91 _ => ?_)
                              refine zFp_let (fun v92 ev92 => ?_)
                              rw [gt1.rf] at ev92
                              subst ev92
                              refine zFp_let (fun v93 _ => ?_)
                              refine zFp_let (fun v94 _ => ?_)
                              refine zFp_if (fun _ => ?_) (fun _ => ?_)
                              · skip
                                refine zFp_let (fun v96 _ => ?_)
                                refine zFp_let (fun v97 _ => ?_)
                                exact gt1
                              · skip
                                refine zFp_let (fun v98 _ => ?_)
                                refine zFp_let (fun v99 _ => ?_)
                                exact gt1
                            · skip
                              refine zFp_let (fun v100 _ => ?_)
                              refine zFp_let (fun v101 _ => ?_)
                              refine zFp_let (fun v102 ev102 => ?_)
                              rw [gt1.rf] at ev102
                              subst ev102
                              refine zFp_let (fun v103 _ => ?_)
                              refine zFp_let (fun v104 _ => ?_)
                              refine zFp_if (fun _ => ?_) (fun _ => ?_)
                              · skip
                                refine zFp_let (fun v106 _ => ?_)
                                refine zFp_let (fun v107 _ => ?_)
                                exact gt1
                              · skip
                                refine zFp_let (fun v108 _ => ?_)
                                refine zFp_let (fun v109 _ => ?_)
                                exact gt1
                        · skip
                          refine zFp_if (fun _ => ?_) (fun _ => ?_)
                          · skip
                            refine zFp_let (fun v112 _ => ?_)
                            refine zFp_if (fun _ => ?_) (fun _ => ?_)
                            · skip
                              refine zFp_let (fun v114 _ => ?_)
                              exact gt1
                            · skip
                              refine zFp_let (fun v115 _ => ?_)
                              exact gt1
                          · skip
                            refine zFp_if (fun _ => ?_) (fun _ => ?_)
                            · skip
                              refine zFp_let (fun v117 _ => ?_)
                              exact fr_X11_count_253   _ _ _ _ gt1
                            · skip
                              refine zFp_if (fun _ => ?_) (fun _ => ?_)
                              · skip
                                refine zFp_let (fun v133 _ => ?_)
                                exact fr_X11_count_288   _ _ _ _ gt1
                              · skip
                                refine zFp_if (fun _ => ?_) (fun _ => ?_)
                                · skip
                                  refine zFp_let (fun v155 _ => ?_)
                                  exact fr_X11_count_335   _ _ _ _ gt1
                                · skip
                                  refine zFp_if (fun _ => ?_) (fun _ => ?_)
                                  · skip
                                    refine zFp_let (fun v171 _ => ?_)
                                    exact fr_X11_count_370   _ _ _ _ gt1
                                  · skip
                                    refine zFp_let (fun v187 _ => ?_)
                                    exact gt1
set_option maxRecDepth 100000 in
theorem fr_X11_hold_20 {A : Nat → Nat → Prop} {σ : zS} {a0 : Nat} {p1 : Int32}  (h0 : ∀ j, A ((σ.2.2 a0 68).getD 0) j) : ∀ (n : Nat) (x10 : Int32) (τ11 : zS), zFr A σ τ11 → zFp A σ (F_X11_hold_20 a0 p1 n x10 τ11) := by
  intro n
  induction n with
  | zero => intro x10 τ11 g; exact g
  | succ n ih =>
    intro x10 τ11 g
    rw [F_X11_hold_20]
    refine zFp_let (fun v12 _ => ?_)
    refine zFp_if (fun _ => ?_) (fun _ => ?_)
    · skip
      refine zFp_let (fun v15 ev15 => ?_)
      rw [g.rf] at ev15
      subst ev15
      refine zFp_let (fun v16 _ => ?_)
      refine zFp_let (fun v17 _ => ?_)
      refine zFp_let (fun v18 _ => ?_)
      refine zFp_let (fun v19 ev19 => ?_)
      rw [g.rf] at ev19
      subst ev19
      refine zFp_let (fun v20 _ => ?_)
      refine zFp_let (fun s21 es21 => ?_)
      have gs21 : zFr A σ s21 := by rw [es21]; exact g.w (h0 _)
      refine zFp_let (fun v23 _ => ?_)
      exact ih _ _ gs21
    · skip
      refine zFp_let (fun v14 _ => ?_)
      exact g
set_option maxRecDepth 100000 in
theorem fr_X11_hold {A : Nat → Nat → Prop} {σ σ0 : zS} {a0 : Nat} {p1 : Int32}  (g : zFr A σ σ0) (h0 : ∀ j, A ((σ.2.2 a0 67).getD 0) j) (h1 : ∀ j, A ((σ.2.2 a0 68).getD 0) j) : zFp A σ (F_X11_hold a0 p1 σ0) := by
  unfold F_X11_hold
  refine zFp_let (fun v1 _ => ?_)
  refine zFp_let (fun v2 _ => ?_)
  refine zFp_let (fun v3 _ => ?_)
  refine zFp_if (fun _ => ?_) (fun _ => ?_)
  · skip
    refine zFp_let (fun v24 _ => ?_)
    exact g
  · skip
    refine zFp_let (fun v5 ev5 => ?_)
    rw [g.rf] at ev5
    subst ev5
    refine zFp_let (fun v6 _ => ?_)
    refine zFp_let (fun s7 es7 => ?_)
    have gs7 : zFr A σ s7 := by rw [es7]; exact g.w (h0 _)
    refine zFp_let (fun v9 _ => ?_)
    exact fr_X11_hold_20  h1 _ _ _ gs7
set_option maxRecDepth 100000 in
theorem fr_X11_restore_22 {A : Nat → Nat → Prop} {σ : zS} {a0 : Nat} {p1 : Int32}  (h0 : ∀ j, A ((σ.2.2 a0 48).getD 0) j) (h1 : A a0 57) : ∀ (n : Nat) (x10 : Int32) (τ11 : zS), zFr A σ τ11 → zFp A σ (F_X11_restore_22 a0 p1 n x10 τ11) := by
  intro n
  induction n with
  | zero => intro x10 τ11 g; exact g
  | succ n ih =>
    intro x10 τ11 g
    rw [F_X11_restore_22]
    refine zFp_let (fun v12 _ => ?_)
    refine zFp_if (fun _ => ?_) (fun _ => ?_)
    · skip
      refine zFp_let (fun v19 ev19 => ?_)
      rw [g.rf] at ev19
      subst ev19
      refine zFp_let (fun v20 ev20 => ?_)
      rw [g.rf] at ev20
      subst ev20
      refine zFp_let (fun v21 _ => ?_)
      refine zFp_let (fun v22 _ => ?_)
      refine zFp_let (fun v23 _ => ?_)
      refine zFp_let (fun v24 _ => ?_)
      refine zFp_let (fun s25 es25 => ?_)
      have gs25 : zFr A σ s25 := by rw [es25]; exact g.w (h0 _)
      refine zFp_let (fun v27 _ => ?_)
      exact ih _ _ gs25
    · skip
      refine zFp_let (fun v14 _ => ?_)
      refine zFp_let (fun s15 es15 => ?_)
      have gs15 : zFr A σ s15 := by rw [es15]; exact g.w h1
      refine zFp_let (fun v18 _ => ?_)
      exact gs15
set_option maxRecDepth 100000 in
theorem fr_X11_restore {A : Nat → Nat → Prop} {σ σ0 : zS} {a0 : Nat} {p1 : Int32}  (g : zFr A σ σ0) (h0 : ∀ j, A ((σ.2.2 a0 48).getD 0) j) (h1 : A a0 57) : zFp A σ (F_X11_restore a0 p1 σ0) := by
  unfold F_X11_restore
  refine zFp_let (fun v1 _ => ?_)
  refine zFp_let (fun v2 _ => ?_)
  refine zFp_let (fun v3 _ => ?_)
  refine zFp_if (fun _ => ?_) (fun _ => ?_)
  · skip
    refine zFp_let (fun v5 _ => ?_)
    exact g
  · skip
    refine zFp_let (fun v6 ev6 => ?_)
    rw [g.rf] at ev6
    subst ev6
    refine zFp_let (fun v7 _ => ?_)
    refine zFp_if (fun _ => ?_) (fun _ => ?_)
    · skip
      refine zFp_let (fun v28 _ => ?_)
      exact g
    · skip
      refine zFp_let (fun v9 _ => ?_)
      exact fr_X11_restore_22  h0 h1 _ _ _ g
set_option maxRecDepth 100000 in
theorem fr_X11_forget {A : Nat → Nat → Prop} {σ σ0 : zS} {a0 : Nat}  (g : zFr A σ σ0) (h0 : A a0 62) : zFp A σ (F_X11_forget a0 σ0) := by
  unfold F_X11_forget
  refine zFp_let (fun v1 _ => ?_)
  refine zFp_let (fun v2 _ => ?_)
  refine zFp_let (fun s3 es3 => ?_)
  have gs3 : zFr A σ s3 := by rw [es3]; exact g.w h0
  exact gs3
set_option maxRecDepth 100000 in
theorem fr_X11_feed {A : Nat → Nat → Prop} {σ σ0 : zS} {a0 : Nat} {p1 : Int32} {p2 : Int32} {p3 : Int32} {p4 : Int32} {p5 : Int32}  (g : zFr A σ σ0) (h0 : ∀ j, A ((σ.2.2 a0 1).getD 0) j) (h1 : A a0 2) : zFp A σ (F_X11_feed a0 p1 p2 p3 p4 p5 σ0) := by
  unfold F_X11_feed
  refine zFp_let (fun v1 _ => ?_)
  refine zFp_let (fun v2 _ => ?_)
  refine zFp_let (fun v3 _ => ?_)
  refine zFp_let (fun v4 _ => ?_)
  refine zFp_if (fun _ => ?_) (fun _ => ?_)
  · skip
    refine zFp_let (fun v17 _ => ?_)
    exact g
  · skip
    refine zFp_let (fun t6 et6 => ?_)
    have gt6 : zFr A σ t6 := by rw [et6]; exact fr_X11_put g h0 h1
    refine zFp_let (fun t8 et8 => ?_)
    have gt8 : zFr A σ t8 := by rw [et8]; exact fr_X11_put gt6 h0 h1
    refine zFp_let (fun t10 et10 => ?_)
    have gt10 : zFr A σ t10 := by rw [et10]; exact fr_X11_put gt8 h0 h1
    refine zFp_let (fun t12 et12 => ?_)
    have gt12 : zFr A σ t12 := by rw [et12]; exact fr_X11_put gt10 h0 h1
    refine zFp_let (fun t14 et14 => ?_)
    have gt14 : zFr A σ t14 := by rw [et14]; exact fr_X11_put gt12 h0 h1
    refine zFp_let (fun v16 _ => ?_)
    exact gt14
set_option maxRecDepth 100000 in
theorem fr_X11_back {A : Nat → Nat → Prop} {σ σ0 : zS} {a0 : Nat} {p1 : Int32}  (g : zFr A σ σ0) (h0 : A a0 2) : zFp A σ (F_X11_back a0 p1 σ0) := by
  unfold F_X11_back
  refine zFp_if (fun _ => ?_) (fun _ => ?_)
  · skip
    refine zFp_let (fun v2 _ => ?_)
    exact g
  · skip
    refine zFp_let (fun v3 _ => ?_)
    refine zFp_if (fun _ => ?_) (fun _ => ?_)
    · skip
      refine zFp_let (fun v12 _ => ?_)
      exact g
    · skip
      refine zFp_let (fun v6 _ => ?_)
      refine zFp_let (fun v7 _ => ?_)
      refine zFp_let (fun s8 es8 => ?_)
      have gs8 : zFr A σ s8 := by rw [es8]; exact g.w h0
      refine zFp_let (fun v11 _ => ?_)
      exact gs8
set_option maxRecDepth 100000 in
theorem fr_X11_named {A : Nat → Nat → Prop} {σ σ0 : zS} {a0 : Nat}  (g : zFr A σ σ0) (h0 : A a0 13) (h1 : A a0 14) (h2 : A a0 11) (h3 : A a0 15) (h4 : A a0 16) : zFp A σ (F_X11_named a0 σ0) := by
  unfold F_X11_named
  refine zFp_let (fun v1 _ => ?_)
  refine zFp_let (fun v2 _ => ?_)
  refine zFp_let (fun t3 et3 => ?_)
  have gt3 : zFr A σ t3 := by rw [et3]; exact fr_X11_must g h0 h1 h2
  refine zFp_let (fun v5 _ => ?_)
  refine zFp_if (fun _ => ?_) (fun _ => ?_)
  · skip
    refine zFp_let (fun v8 _ => ?_)
    refine zFp_if (fun _ => ?_) (fun _ => ?_)
    · skip
      exact gt3
    · skip
      refine zFp_let (fun v10 _ => ?_)
      refine zFp_let (fun t11 et11 => ?_)
      have gt11 : zFr A σ t11 := by rw [et11]; exact fr_X11_wrong gt3 h3 h4
      exact gt11
  · skip
    exact gt3
set_option maxRecDepth 100000 in
theorem fr_X11_bounded {A : Nat → Nat → Prop} {σ σ0 : zS} {a0 : Nat} {p1 : Int32} {p2 : Int32}  (g : zFr A σ σ0) (h0 : A a0 13) (h1 : A a0 14) (h2 : A a0 15) (h3 : A a0 16) (h4 : A a0 11) : zFp A σ (F_X11_bounded a0 p1 p2 σ0) := by
  unfold F_X11_bounded
  refine zFp_let (fun v1 _ => ?_)
  refine zFp_if (fun _ => ?_) (fun _ => ?_)
  · skip
    refine zFp_let (fun v3 _ => ?_)
    refine zFp_let (fun t4 et4 => ?_)
    have gt4 : zFr A σ t4 := by rw [et4]; exact fr_X11_fail g h0 h1
    exact gt4
  · skip
    refine zFp_let (fun v6 _ => ?_)
    refine zFp_let (fun v8 _ => ?_)
    refine zFp_if (fun _ => ?_) (fun _ => ?_)
    · skip
      refine zFp_let (fun v37 _ => ?_)
      refine zFp_let (fun t38 et38 => ?_)
      have gt38 : zFr A σ t38 := by rw [et38]; exact fr_X11_fail g h0 h1
      exact gt38
    · skip
      refine zFp_let (fun v10 ev10 => ?_)
      rw [g.rf] at ev10
      subst ev10
      refine zFp_let (fun v11 _ => ?_)
      refine zFp_let (fun v12 _ => ?_)
      refine zFp_if (fun _ => ?_) (fun _ => ?_)
      · skip
        refine zFp_let (fun v16 _ => ?_)
        refine zFp_let (fun v17 _ => ?_)
        refine zFp_let (fun t18 et18 => ?_)
        have gt18 : zFr A σ t18 := by rw [et18]; exact fr_X11_wrong g h2 h3
        refine zFp_let (fun t22 et22 => ?_)
        have gt22 : zFr A σ t22 := by rw [et22]; exact fr_X11_goesOn gt18 h0 h1 h4
        exact gt22
      · skip
        refine zFp_if (fun _ => ?_) (fun _ => ?_)
        · skip
          refine zFp_let (fun v29 _ => ?_)
          refine zFp_let (fun v30 _ => ?_)
          refine zFp_let (fun t31 et31 => ?_)
          have gt31 : zFr A σ t31 := by rw [et31]; exact fr_X11_wrong g h2 h3
          refine zFp_let (fun t35 et35 => ?_)
          have gt35 : zFr A σ t35 := by rw [et35]; exact fr_X11_goesOn gt31 h0 h1 h4
          exact gt35
        · skip
          refine zFp_let (fun t27 et27 => ?_)
          have gt27 : zFr A σ t27 := by rw [et27]; exact fr_X11_goesOn g h0 h1 h4
          exact gt27
set_option maxRecDepth 100000 in
theorem fr_X11_emit {A : Nat → Nat → Prop} {σ σ0 : zS} {a0 : Nat} {p1 : Int32} {p2 : Int32}  (g : zFr A σ σ0) (h0 : ∀ j, A ((σ.2.2 a0 39).getD 0) j) (h1 : ∀ j, A ((σ.2.2 a0 40).getD 0) j) (h2 : A a0 38) : zFr A σ (F_X11_emit a0 p1 p2 σ0) := by
  unfold F_X11_emit
  refine zFr_let (fun v1 ev1 => ?_)
  rw [g.rf] at ev1
  subst ev1
  refine zFr_let (fun v2 _ => ?_)
  refine zFr_let (fun s3 es3 => ?_)
  have gs3 : zFr A σ s3 := by rw [es3]; exact g.w (h0 _)
  refine zFr_let (fun v6 ev6 => ?_)
  rw [gs3.rf] at ev6
  subst ev6
  refine zFr_let (fun v7 _ => ?_)
  refine zFr_let (fun s8 es8 => ?_)
  have gs8 : zFr A σ s8 := by rw [es8]; exact gs3.w (h1 _)
  refine zFr_let (fun v11 _ => ?_)
  refine zFr_let (fun v12 _ => ?_)
  refine zFr_let (fun v13 _ => ?_)
  refine zFr_let (fun s14 es14 => ?_)
  have gs14 : zFr A σ s14 := by rw [es14]; exact gs8.w h2
  exact gs14
set_option maxRecDepth 100000 in
theorem fr_X11_comesOut_0 {A : Nat → Nat → Prop} {σ : zS} {a0 : Nat} {p1 : Int32}  (h0 : A a0 44) (h1 : ∀ j, A ((σ.2.2 a0 39).getD 0) j) (h2 : ∀ j, A ((σ.2.2 a0 40).getD 0) j) (h3 : A a0 38) : ∀ (n : Nat) (τ1 : zS), zFr A σ τ1 → zFr A σ (F_X11_comesOut_0 a0 p1 n  τ1) := by
  intro n
  induction n with
  | zero => intro  τ1 g; exact g
  | succ n ih =>
    intro  τ1 g
    rw [F_X11_comesOut_0]
    refine zFr_let (fun v2 _ => ?_)
    refine zFr_if (fun _ => ?_) (fun _ => ?_)
    · skip
      refine zFr_let (fun v4 ev4 => ?_)
      rw [g.rf] at ev4
      subst ev4
      refine zFr_let (fun v5 _ => ?_)
      refine zFr_let (fun v6 _ => ?_)
      refine zFr_let (fun v7 _ => ?_)
      refine zFr_let (fun v8 _ => ?_)
      refine zFr_let (fun v9 _ => ?_)
      refine zFr_if (fun _ => ?_) (fun _ => ?_)
      · skip
        exact g
      · skip
        refine zFr_if (fun _ => ?_) (fun _ => ?_)
        · skip
          refine zFr_let (fun v12 _ => ?_)
          refine zFr_let (fun v13 _ => ?_)
          refine zFr_let (fun v14 _ => ?_)
          refine zFr_let (fun s15 es15 => ?_)
          have gs15 : zFr A σ s15 := by rw [es15]; exact g.w h0
          refine zFr_let (fun v18 _ => ?_)
          refine zFr_if (fun _ => ?_) (fun _ => ?_)
          · skip
            refine zFr_let (fun v39 _ => ?_)
            refine zFr_let (fun v40 _ => ?_)
            refine zFr_let (fun t41 et41 => ?_)
            have gt41 : zFr A σ t41 := by rw [et41]; exact fr_X11_emit gs15 h1 h2 h3
            exact ih _ gt41
          · skip
            refine zFr_let (fun v20 _ => ?_)
            refine zFr_if (fun _ => ?_) (fun _ => ?_)
            · skip
              refine zFr_let (fun v34 _ => ?_)
              refine zFr_let (fun v35 _ => ?_)
              refine zFr_let (fun t36 et36 => ?_)
              have gt36 : zFr A σ t36 := by rw [et36]; exact fr_X11_emit gs15 h1 h2 h3
              exact ih _ gt36
            · skip
              refine zFr_let (fun v22 _ => ?_)
              refine zFr_if (fun _ => ?_) (fun _ => ?_)
              · skip
                refine zFr_let (fun v29 _ => ?_)
                refine zFr_let (fun v30 _ => ?_)
                refine zFr_let (fun t31 et31 => ?_)
                have gt31 : zFr A σ t31 := by rw [et31]; exact fr_X11_emit gs15 h1 h2 h3
                exact ih _ gt31
              · skip
                refine zFr_let (fun v24 _ => ?_)
                refine zFr_let (fun v25 _ => ?_)
                refine zFr_let (fun t26 et26 => ?_)
                have gt26 : zFr A σ t26 := by rw [et26]; exact fr_X11_emit gs15 h1 h2 h3
                exact ih _ gt26
        · skip
          refine zFr_let (fun v44 _ => ?_)
          refine zFr_if (fun _ => ?_) (fun _ => ?_)
          · skip
            exact g
          · skip
            refine zFr_let (fun v46 _ => ?_)
            refine zFr_if (fun _ => ?_) (fun _ => ?_)
            · skip
              exact g
            · skip
              refine zFr_let (fun v48 _ => ?_)
              refine zFr_let (fun v49 _ => ?_)
              refine zFr_let (fun v50 _ => ?_)
              refine zFr_let (fun s51 es51 => ?_)
              have gs51 : zFr A σ s51 := by rw [es51]; exact g.w h0
              refine zFr_let (fun v54 _ => ?_)
              refine zFr_if (fun _ => ?_) (fun _ => ?_)
              · skip
                refine zFr_let (fun v75 _ => ?_)
                refine zFr_let (fun v76 _ => ?_)
                refine zFr_let (fun t77 et77 => ?_)
                have gt77 : zFr A σ t77 := by rw [et77]; exact fr_X11_emit gs51 h1 h2 h3
                exact ih _ gt77
              · skip
                refine zFr_let (fun v56 _ => ?_)
                refine zFr_if (fun _ => ?_) (fun _ => ?_)
                · skip
                  refine zFr_let (fun v70 _ => ?_)
                  refine zFr_let (fun v71 _ => ?_)
                  refine zFr_let (fun t72 et72 => ?_)
                  have gt72 : zFr A σ t72 := by rw [et72]; exact fr_X11_emit gs51 h1 h2 h3
                  exact ih _ gt72
                · skip
                  refine zFr_let (fun v58 _ => ?_)
                  refine zFr_if (fun _ => ?_) (fun _ => ?_)
                  · skip
                    refine zFr_let (fun v65 _ => ?_)
                    refine zFr_let (fun v66 _ => ?_)
                    refine zFr_let (fun t67 et67 => ?_)
                    have gt67 : zFr A σ t67 := by rw [et67]; exact fr_X11_emit gs51 h1 h2 h3
                    exact ih _ gt67
                  · skip
                    refine zFr_let (fun v60 _ => ?_)
                    refine zFr_let (fun v61 _ => ?_)
                    refine zFr_let (fun t62 et62 => ?_)
                    have gt62 : zFr A σ t62 := by rw [et62]; exact fr_X11_emit gs51 h1 h2 h3
                    exact ih _ gt62
    · skip
      exact g
set_option maxRecDepth 100000 in
theorem fr_X11_comesOut {A : Nat → Nat → Prop} {σ σ0 : zS} {a0 : Nat} {p1 : Int32}  (g : zFr A σ σ0) (h0 : A a0 44) (h1 : ∀ j, A ((σ.2.2 a0 39).getD 0) j) (h2 : ∀ j, A ((σ.2.2 a0 40).getD 0) j) (h3 : A a0 38) : zFr A σ (F_X11_comesOut a0 p1 σ0) := by
  unfold F_X11_comesOut
  exact fr_X11_comesOut_0  h0 h1 h2 h3 _ _ g
set_option maxRecDepth 100000 in
theorem fr_X11_unit {A : Nat → Nat → Prop} {σ σ0 : zS} {a0 : Nat}  (g : zFr A σ σ0) (h0 : A a0 13) (h1 : A a0 14) (h2 : ∀ j, A ((σ.2.2 a0 39).getD 0) j) (h3 : ∀ j, A ((σ.2.2 a0 40).getD 0) j) (h4 : A a0 38) (h5 : A a0 11) : zFr A σ (F_X11_unit a0 σ0) := by
  unfold F_X11_unit
  refine zFr_let (fun v1 _ => ?_)
  refine zFr_let (fun v3 _ => ?_)
  refine zFr_if (fun _ => ?_) (fun _ => ?_)
  · skip
    refine zFr_let (fun v5 _ => ?_)
    refine zFr_if (fun _ => ?_) (fun _ => ?_)
    · skip
      refine zFr_let (fun v10 ev10 => ?_)
      rw [g.rf] at ev10
      subst ev10
      refine zFr_let (fun v11 _ => ?_)
      refine zFr_let (fun v12 _ => ?_)
      refine zFr_let (fun v13 _ => ?_)
      refine zFr_if (fun _ => ?_) (fun _ => ?_)
      · skip
        refine zFr_let (fun v16 _ => ?_)
        refine zFr_let (fun t17 et17 => ?_)
        have gt17 : zFr A σ t17 := by rw [et17]; exact fr_X11_fail g h0 h1
        exact gt17
      · skip
        refine zFr_let (fun v20 ev20 => ?_)
        rw [g.rf] at ev20
        subst ev20
        refine zFr_let (fun v21 _ => ?_)
        refine zFr_let (fun v22 _ => ?_)
        refine zFr_let (fun v23 _ => ?_)
        refine zFr_if (fun _ => ?_) (fun _ => ?_)
        · skip
          refine zFr_let (fun v26 _ => ?_)
          refine zFr_let (fun t27 et27 => ?_)
          have gt27 : zFr A σ t27 := by rw [et27]; exact fr_X11_fail g h0 h1
          exact gt27
        · skip
          refine zFr_let (fun v30 _ => ?_)
          refine zFr_let (fun v31 ev31 => ?_)
          rw [g.rf] at ev31
          subst ev31
          refine zFr_let (fun v32 _ => ?_)
          refine zFr_let (fun v33 _ => ?_)
          refine zFr_let (fun v34 _ => ?_)
          refine zFr_let (fun v35 _ => ?_)
          refine zFr_let (fun t36 et36 => ?_)
          have gt36 : zFr A σ t36 := by rw [et36]; exact fr_X11_emit g h2 h3 h4
          refine zFr_let (fun t40 et40 => ?_)
          have gt40 : zFr A σ t40 := by rw [et40]; exact fr_X11_goesOn gt36 h0 h1 h5
          exact gt40
    · skip
      refine zFr_let (fun v7 _ => ?_)
      refine zFr_let (fun t8 et8 => ?_)
      have gt8 : zFr A σ t8 := by rw [et8]; exact fr_X11_fail g h0 h1
      exact gt8
  · skip
    refine zFr_let (fun v42 _ => ?_)
    refine zFr_let (fun v43 ev43 => ?_)
    rw [g.rf] at ev43
    subst ev43
    refine zFr_let (fun v44 _ => ?_)
    refine zFr_let (fun v45 _ => ?_)
    refine zFr_let (fun t46 et46 => ?_)
    have gt46 : zFr A σ t46 := by rw [et46]; exact fr_X11_emit g h2 h3 h4
    refine zFr_let (fun t49 et49 => ?_)
    have gt49 : zFr A σ t49 := by rw [et49]; exact fr_X11_goesOn gt46 h0 h1 h5
    exact gt49
set_option maxRecDepth 100000 in
theorem fr_X11_expression_96 {A : Nat → Nat → Prop} {σ : zS} {x7 : Int32} {v5 : Int32} {a0 : Nat} {kLp8 : Int32 → zS → zS} {kLp12 : zS → zS} (ckLp8 : ∀ (y0 : Int32) (s : zS), zFr A σ s → zFr A σ (kLp8 y0 s)) (ckLp12 : ∀ (s : zS), zFr A σ s → zFr A σ (kLp12  s)) (h0 : A a0 13) (h1 : A a0 14) (h2 : A a0 44) (h3 : ∀ j, A ((σ.2.2 a0 39).getD 0) j) (h4 : ∀ j, A ((σ.2.2 a0 40).getD 0) j) (h5 : A a0 38) (h6 : ∀ j, A ((σ.2.2 a0 43).getD 0) j) (h7 : A a0 11) (h8 : A a0 12) : ∀ (n : Nat) (τ21 : zS), zFr A σ τ21 → zFr A σ (F_X11_expression_96 x7 v5 a0 kLp8 kLp12 n  τ21) := by
  intro n
  induction n with
  | zero => intro  τ21 g; exact g
  | succ n ih =>
    intro  τ21 g
    rw [F_X11_expression_96]
    refine zFr_let (fun v22 _ => ?_)
    refine zFr_let (fun v24 _ => ?_)
    refine zFr_if (fun _ => ?_) (fun _ => ?_)
    · skip
      refine zFr_let (fun v26 _ => ?_)
      refine zFr_let (fun v28 _ => ?_)
      refine zFr_if (fun _ => ?_) (fun _ => ?_)
      · skip
        refine zFr_let (fun v106 _ => ?_)
        refine zFr_let (fun v108 _ => ?_)
        refine zFr_if (fun _ => ?_) (fun _ => ?_)
        · skip
          refine zFr_let (fun v186 _ => ?_)
          refine zFr_let (fun v188 _ => ?_)
          refine zFr_if (fun _ => ?_) (fun _ => ?_)
          · skip
            refine zFr_let (fun v266 _ => ?_)
            refine zFr_let (fun v268 _ => ?_)
            refine zFr_if (fun _ => ?_) (fun _ => ?_)
            · skip
              refine zFr_let (fun v270 _ => ?_)
              refine zFr_if (fun _ => ?_) (fun _ => ?_)
              · skip
                refine zFr_let (fun v272 _ => ?_)
                refine zFr_if (fun _ => ?_) (fun _ => ?_)
                · skip
                  refine zFr_let (fun v278 _ => ?_)
                  refine zFr_let (fun t279 et279 => ?_)
                  have gt279 : zFr A σ t279 := by rw [et279]; exact fr_X11_fail g h0 h1
                  refine zFr_let (fun v282 _ => ?_)
                  refine zFr_let (fun t283 et283 => ?_)
                  have gt283 : zFr A σ t283 := by rw [et283]; exact fr_X11_comesOut gt279 h2 h3 h4 h5
                  exact gt283
                · skip
                  refine zFr_let (fun v274 _ => ?_)
                  refine zFr_let (fun t275 et275 => ?_)
                  have gt275 : zFr A σ t275 := by rw [et275]; exact fr_X11_comesOut g h2 h3 h4 h5
                  exact gt275
              · skip
                exact g
            · skip
              refine zFr_let (fun v286 _ => ?_)
              refine zFr_if (fun _ => ?_) (fun _ => ?_)
              · skip
                exact g
              · skip
                refine zFr_let (fun v288 _ => ?_)
                refine zFr_let (fun v290 _ => ?_)
                refine zFr_if (fun _ => ?_) (fun _ => ?_)
                · skip
                  refine zFr_let (fun v314 _ => ?_)
                  refine zFr_let (fun v316 _ => ?_)
                  refine zFr_if (fun _ => ?_) (fun _ => ?_)
                  · skip
                    refine zFr_let (fun v318 _ => ?_)
                    refine zFr_let (fun t319 et319 => ?_)
                    have gt319 : zFr A σ t319 := by rw [et319]; exact fr_X11_comesOut g h2 h3 h4 h5
                    refine zFr_let (fun v321 ev321 => ?_)
                    rw [gt319.rf] at ev321
                    subst ev321
                    refine zFr_let (fun v322 _ => ?_)
                    refine zFr_let (fun v323 ev323 => ?_)
                    rw [gt319.rf] at ev323
                    subst ev323
                    refine zFr_let (fun v324 _ => ?_)
                    refine zFr_let (fun v325 _ => ?_)
                    refine zFr_let (fun s326 es326 => ?_)
                    have gs326 : zFr A σ s326 := by rw [es326]; exact gt319.w (h6 _)
                    refine zFr_let (fun v330 _ => ?_)
                    refine zFr_let (fun v331 _ => ?_)
                    refine zFr_let (fun v332 _ => ?_)
                    refine zFr_let (fun s333 es333 => ?_)
                    have gs333 : zFr A σ s333 := by rw [es333]; exact gs326.w h2
                    refine zFr_let (fun t337 et337 => ?_)
                    have gt337 : zFr A σ t337 := by rw [et337]; exact fr_X11_goesOn gs333 h0 h1 h7
                    exact ckLp8 _ _ gt337
                  · skip
                    refine zFr_let (fun v340 _ => ?_)
                    refine zFr_let (fun t341 et341 => ?_)
                    have gt341 : zFr A σ t341 := by rw [et341]; exact fr_X11_comesOut g h2 h3 h4 h5
                    refine zFr_let (fun v343 ev343 => ?_)
                    rw [gt341.rf] at ev343
                    subst ev343
                    refine zFr_let (fun v344 _ => ?_)
                    refine zFr_let (fun v345 ev345 => ?_)
                    rw [gt341.rf] at ev345
                    subst ev345
                    refine zFr_let (fun v346 _ => ?_)
                    refine zFr_let (fun v347 _ => ?_)
                    refine zFr_let (fun s348 es348 => ?_)
                    have gs348 : zFr A σ s348 := by rw [es348]; exact gt341.w (h6 _)
                    refine zFr_let (fun v352 _ => ?_)
                    refine zFr_let (fun v353 _ => ?_)
                    refine zFr_let (fun v354 _ => ?_)
                    refine zFr_let (fun s355 es355 => ?_)
                    have gs355 : zFr A σ s355 := by rw [es355]; exact gs348.w h2
                    refine zFr_let (fun t359 et359 => ?_)
                    have gt359 : zFr A σ t359 := by rw [et359]; exact fr_X11_goesOn gs355 h0 h1 h7
                    exact ckLp8 _ _ gt359
                · skip
                  refine zFr_let (fun v292 _ => ?_)
                  refine zFr_let (fun t293 et293 => ?_)
                  have gt293 : zFr A σ t293 := by rw [et293]; exact fr_X11_comesOut g h2 h3 h4 h5
                  refine zFr_let (fun v295 ev295 => ?_)
                  rw [gt293.rf] at ev295
                  subst ev295
                  refine zFr_let (fun v296 _ => ?_)
                  refine zFr_let (fun v297 ev297 => ?_)
                  rw [gt293.rf] at ev297
                  subst ev297
                  refine zFr_let (fun v298 _ => ?_)
                  refine zFr_let (fun v299 _ => ?_)
                  refine zFr_let (fun s300 es300 => ?_)
                  have gs300 : zFr A σ s300 := by rw [es300]; exact gt293.w (h6 _)
                  refine zFr_let (fun v304 _ => ?_)
                  refine zFr_let (fun v305 _ => ?_)
                  refine zFr_let (fun v306 _ => ?_)
                  refine zFr_let (fun s307 es307 => ?_)
                  have gs307 : zFr A σ s307 := by rw [es307]; exact gs300.w h2
                  refine zFr_let (fun t311 et311 => ?_)
                  have gt311 : zFr A σ t311 := by rw [et311]; exact fr_X11_goesOn gs307 h0 h1 h7
                  exact ckLp8 _ _ gt311
          · skip
            refine zFr_let (fun v190 _ => ?_)
            refine zFr_if (fun _ => ?_) (fun _ => ?_)
            · skip
              exact g
            · skip
              refine zFr_let (fun v192 _ => ?_)
              refine zFr_let (fun v194 _ => ?_)
              refine zFr_if (fun _ => ?_) (fun _ => ?_)
              · skip
                refine zFr_let (fun v218 _ => ?_)
                refine zFr_let (fun v220 _ => ?_)
                refine zFr_if (fun _ => ?_) (fun _ => ?_)
                · skip
                  refine zFr_let (fun v222 _ => ?_)
                  refine zFr_let (fun t223 et223 => ?_)
                  have gt223 : zFr A σ t223 := by rw [et223]; exact fr_X11_comesOut g h2 h3 h4 h5
                  refine zFr_let (fun v225 ev225 => ?_)
                  rw [gt223.rf] at ev225
                  subst ev225
                  refine zFr_let (fun v226 _ => ?_)
                  refine zFr_let (fun v227 ev227 => ?_)
                  rw [gt223.rf] at ev227
                  subst ev227
                  refine zFr_let (fun v228 _ => ?_)
                  refine zFr_let (fun v229 _ => ?_)
                  refine zFr_let (fun s230 es230 => ?_)
                  have gs230 : zFr A σ s230 := by rw [es230]; exact gt223.w (h6 _)
                  refine zFr_let (fun v234 _ => ?_)
                  refine zFr_let (fun v235 _ => ?_)
                  refine zFr_let (fun v236 _ => ?_)
                  refine zFr_let (fun s237 es237 => ?_)
                  have gs237 : zFr A σ s237 := by rw [es237]; exact gs230.w h2
                  refine zFr_let (fun t241 et241 => ?_)
                  have gt241 : zFr A σ t241 := by rw [et241]; exact fr_X11_goesOn gs237 h0 h1 h7
                  exact ckLp8 _ _ gt241
                · skip
                  refine zFr_let (fun v244 _ => ?_)
                  refine zFr_let (fun t245 et245 => ?_)
                  have gt245 : zFr A σ t245 := by rw [et245]; exact fr_X11_comesOut g h2 h3 h4 h5
                  refine zFr_let (fun v247 ev247 => ?_)
                  rw [gt245.rf] at ev247
                  subst ev247
                  refine zFr_let (fun v248 _ => ?_)
                  refine zFr_let (fun v249 ev249 => ?_)
                  rw [gt245.rf] at ev249
                  subst ev249
                  refine zFr_let (fun v250 _ => ?_)
                  refine zFr_let (fun v251 _ => ?_)
                  refine zFr_let (fun s252 es252 => ?_)
                  have gs252 : zFr A σ s252 := by rw [es252]; exact gt245.w (h6 _)
                  refine zFr_let (fun v256 _ => ?_)
                  refine zFr_let (fun v257 _ => ?_)
                  refine zFr_let (fun v258 _ => ?_)
                  refine zFr_let (fun s259 es259 => ?_)
                  have gs259 : zFr A σ s259 := by rw [es259]; exact gs252.w h2
                  refine zFr_let (fun t263 et263 => ?_)
                  have gt263 : zFr A σ t263 := by rw [et263]; exact fr_X11_goesOn gs259 h0 h1 h7
                  exact ckLp8 _ _ gt263
              · skip
                refine zFr_let (fun v196 _ => ?_)
                refine zFr_let (fun t197 et197 => ?_)
                have gt197 : zFr A σ t197 := by rw [et197]; exact fr_X11_comesOut g h2 h3 h4 h5
                refine zFr_let (fun v199 ev199 => ?_)
                rw [gt197.rf] at ev199
                subst ev199
                refine zFr_let (fun v200 _ => ?_)
                refine zFr_let (fun v201 ev201 => ?_)
                rw [gt197.rf] at ev201
                subst ev201
                refine zFr_let (fun v202 _ => ?_)
                refine zFr_let (fun v203 _ => ?_)
                refine zFr_let (fun s204 es204 => ?_)
                have gs204 : zFr A σ s204 := by rw [es204]; exact gt197.w (h6 _)
                refine zFr_let (fun v208 _ => ?_)
                refine zFr_let (fun v209 _ => ?_)
                refine zFr_let (fun v210 _ => ?_)
                refine zFr_let (fun s211 es211 => ?_)
                have gs211 : zFr A σ s211 := by rw [es211]; exact gs204.w h2
                refine zFr_let (fun t215 et215 => ?_)
                have gt215 : zFr A σ t215 := by rw [et215]; exact fr_X11_goesOn gs211 h0 h1 h7
                exact ckLp8 _ _ gt215
        · skip
          refine zFr_let (fun v110 _ => ?_)
          refine zFr_if (fun _ => ?_) (fun _ => ?_)
          · skip
            exact g
          · skip
            refine zFr_let (fun v112 _ => ?_)
            refine zFr_let (fun v114 _ => ?_)
            refine zFr_if (fun _ => ?_) (fun _ => ?_)
            · skip
              refine zFr_let (fun v138 _ => ?_)
              refine zFr_let (fun v140 _ => ?_)
              refine zFr_if (fun _ => ?_) (fun _ => ?_)
              · skip
                refine zFr_let (fun v142 _ => ?_)
                refine zFr_let (fun t143 et143 => ?_)
                have gt143 : zFr A σ t143 := by rw [et143]; exact fr_X11_comesOut g h2 h3 h4 h5
                refine zFr_let (fun v145 ev145 => ?_)
                rw [gt143.rf] at ev145
                subst ev145
                refine zFr_let (fun v146 _ => ?_)
                refine zFr_let (fun v147 ev147 => ?_)
                rw [gt143.rf] at ev147
                subst ev147
                refine zFr_let (fun v148 _ => ?_)
                refine zFr_let (fun v149 _ => ?_)
                refine zFr_let (fun s150 es150 => ?_)
                have gs150 : zFr A σ s150 := by rw [es150]; exact gt143.w (h6 _)
                refine zFr_let (fun v154 _ => ?_)
                refine zFr_let (fun v155 _ => ?_)
                refine zFr_let (fun v156 _ => ?_)
                refine zFr_let (fun s157 es157 => ?_)
                have gs157 : zFr A σ s157 := by rw [es157]; exact gs150.w h2
                refine zFr_let (fun t161 et161 => ?_)
                have gt161 : zFr A σ t161 := by rw [et161]; exact fr_X11_goesOn gs157 h0 h1 h7
                exact ckLp8 _ _ gt161
              · skip
                refine zFr_let (fun v164 _ => ?_)
                refine zFr_let (fun t165 et165 => ?_)
                have gt165 : zFr A σ t165 := by rw [et165]; exact fr_X11_comesOut g h2 h3 h4 h5
                refine zFr_let (fun v167 ev167 => ?_)
                rw [gt165.rf] at ev167
                subst ev167
                refine zFr_let (fun v168 _ => ?_)
                refine zFr_let (fun v169 ev169 => ?_)
                rw [gt165.rf] at ev169
                subst ev169
                refine zFr_let (fun v170 _ => ?_)
                refine zFr_let (fun v171 _ => ?_)
                refine zFr_let (fun s172 es172 => ?_)
                have gs172 : zFr A σ s172 := by rw [es172]; exact gt165.w (h6 _)
                refine zFr_let (fun v176 _ => ?_)
                refine zFr_let (fun v177 _ => ?_)
                refine zFr_let (fun v178 _ => ?_)
                refine zFr_let (fun s179 es179 => ?_)
                have gs179 : zFr A σ s179 := by rw [es179]; exact gs172.w h2
                refine zFr_let (fun t183 et183 => ?_)
                have gt183 : zFr A σ t183 := by rw [et183]; exact fr_X11_goesOn gs179 h0 h1 h7
                exact ckLp8 _ _ gt183
            · skip
              refine zFr_let (fun v116 _ => ?_)
              refine zFr_let (fun t117 et117 => ?_)
              have gt117 : zFr A σ t117 := by rw [et117]; exact fr_X11_comesOut g h2 h3 h4 h5
              refine zFr_let (fun v119 ev119 => ?_)
              rw [gt117.rf] at ev119
              subst ev119
              refine zFr_let (fun v120 _ => ?_)
              refine zFr_let (fun v121 ev121 => ?_)
              rw [gt117.rf] at ev121
              subst ev121
              refine zFr_let (fun v122 _ => ?_)
              refine zFr_let (fun v123 _ => ?_)
              refine zFr_let (fun s124 es124 => ?_)
              have gs124 : zFr A σ s124 := by rw [es124]; exact gt117.w (h6 _)
              refine zFr_let (fun v128 _ => ?_)
              refine zFr_let (fun v129 _ => ?_)
              refine zFr_let (fun v130 _ => ?_)
              refine zFr_let (fun s131 es131 => ?_)
              have gs131 : zFr A σ s131 := by rw [es131]; exact gs124.w h2
              refine zFr_let (fun t135 et135 => ?_)
              have gt135 : zFr A σ t135 := by rw [et135]; exact fr_X11_goesOn gs131 h0 h1 h7
              exact ckLp8 _ _ gt135
      · skip
        refine zFr_let (fun v30 _ => ?_)
        refine zFr_if (fun _ => ?_) (fun _ => ?_)
        · skip
          exact g
        · skip
          refine zFr_let (fun v32 _ => ?_)
          refine zFr_let (fun v34 _ => ?_)
          refine zFr_if (fun _ => ?_) (fun _ => ?_)
          · skip
            refine zFr_let (fun v58 _ => ?_)
            refine zFr_let (fun v60 _ => ?_)
            refine zFr_if (fun _ => ?_) (fun _ => ?_)
            · skip
              refine zFr_let (fun v62 _ => ?_)
              refine zFr_let (fun t63 et63 => ?_)
              have gt63 : zFr A σ t63 := by rw [et63]; exact fr_X11_comesOut g h2 h3 h4 h5
              refine zFr_let (fun v65 ev65 => ?_)
              rw [gt63.rf] at ev65
              subst ev65
              refine zFr_let (fun v66 _ => ?_)
              refine zFr_let (fun v67 ev67 => ?_)
              rw [gt63.rf] at ev67
              subst ev67
              refine zFr_let (fun v68 _ => ?_)
              refine zFr_let (fun v69 _ => ?_)
              refine zFr_let (fun s70 es70 => ?_)
              have gs70 : zFr A σ s70 := by rw [es70]; exact gt63.w (h6 _)
              refine zFr_let (fun v74 _ => ?_)
              refine zFr_let (fun v75 _ => ?_)
              refine zFr_let (fun v76 _ => ?_)
              refine zFr_let (fun s77 es77 => ?_)
              have gs77 : zFr A σ s77 := by rw [es77]; exact gs70.w h2
              refine zFr_let (fun t81 et81 => ?_)
              have gt81 : zFr A σ t81 := by rw [et81]; exact fr_X11_goesOn gs77 h0 h1 h7
              exact ckLp8 _ _ gt81
            · skip
              refine zFr_let (fun v84 _ => ?_)
              refine zFr_let (fun t85 et85 => ?_)
              have gt85 : zFr A σ t85 := by rw [et85]; exact fr_X11_comesOut g h2 h3 h4 h5
              refine zFr_let (fun v87 ev87 => ?_)
              rw [gt85.rf] at ev87
              subst ev87
              refine zFr_let (fun v88 _ => ?_)
              refine zFr_let (fun v89 ev89 => ?_)
              rw [gt85.rf] at ev89
              subst ev89
              refine zFr_let (fun v90 _ => ?_)
              refine zFr_let (fun v91 _ => ?_)
              refine zFr_let (fun s92 es92 => ?_)
              have gs92 : zFr A σ s92 := by rw [es92]; exact gt85.w (h6 _)
              refine zFr_let (fun v96 _ => ?_)
              refine zFr_let (fun v97 _ => ?_)
              refine zFr_let (fun v98 _ => ?_)
              refine zFr_let (fun s99 es99 => ?_)
              have gs99 : zFr A σ s99 := by rw [es99]; exact gs92.w h2
              refine zFr_let (fun t103 et103 => ?_)
              have gt103 : zFr A σ t103 := by rw [et103]; exact fr_X11_goesOn gs99 h0 h1 h7
              exact ckLp8 _ _ gt103
          · skip
            refine zFr_let (fun v36 _ => ?_)
            refine zFr_let (fun t37 et37 => ?_)
            have gt37 : zFr A σ t37 := by rw [et37]; exact fr_X11_comesOut g h2 h3 h4 h5
            refine zFr_let (fun v39 ev39 => ?_)
            rw [gt37.rf] at ev39
            subst ev39
            refine zFr_let (fun v40 _ => ?_)
            refine zFr_let (fun v41 ev41 => ?_)
            rw [gt37.rf] at ev41
            subst ev41
            refine zFr_let (fun v42 _ => ?_)
            refine zFr_let (fun v43 _ => ?_)
            refine zFr_let (fun s44 es44 => ?_)
            have gs44 : zFr A σ s44 := by rw [es44]; exact gt37.w (h6 _)
            refine zFr_let (fun v48 _ => ?_)
            refine zFr_let (fun v49 _ => ?_)
            refine zFr_let (fun v50 _ => ?_)
            refine zFr_let (fun s51 es51 => ?_)
            have gs51 : zFr A σ s51 := by rw [es51]; exact gs44.w h2
            refine zFr_let (fun t55 et55 => ?_)
            have gt55 : zFr A σ t55 := by rw [et55]; exact fr_X11_goesOn gs51 h0 h1 h7
            exact ckLp8 _ _ gt55
    · skip
      refine zFr_let (fun v362 _ => ?_)
      refine zFr_if (fun _ => ?_) (fun _ => ?_)
      · skip
        refine zFr_let (fun v748 _ => ?_)
        refine zFr_let (fun t749 et749 => ?_)
        have gt749 : zFr A σ t749 := by rw [et749]; exact fr_X11_comesOut g h2 h3 h4 h5
        refine zFr_let (fun v752 _ => ?_)
        refine zFr_let (fun v753 _ => ?_)
        refine zFr_let (fun v754 _ => ?_)
        refine zFr_let (fun s755 es755 => ?_)
        have gs755 : zFr A σ s755 := by rw [es755]; exact gt749.w h2
        refine zFr_let (fun v759 _ => ?_)
        refine zFr_let (fun v760 _ => ?_)
        refine zFr_let (fun v761 _ => ?_)
        refine zFr_let (fun s762 es762 => ?_)
        have gs762 : zFr A σ s762 := by rw [es762]; exact gs755.w h8
        refine zFr_let (fun t766 et766 => ?_)
        have gt766 : zFr A σ t766 := by rw [et766]; exact fr_X11_goesOn gs762 h0 h1 h7
        exact ih _ gt766
      · skip
        refine zFr_let (fun v364 _ => ?_)
        refine zFr_let (fun v366 _ => ?_)
        refine zFr_if (fun _ => ?_) (fun _ => ?_)
        · skip
          refine zFr_let (fun v456 _ => ?_)
          refine zFr_let (fun v458 _ => ?_)
          refine zFr_if (fun _ => ?_) (fun _ => ?_)
          · skip
            refine zFr_let (fun v548 _ => ?_)
            refine zFr_let (fun v550 _ => ?_)
            refine zFr_if (fun _ => ?_) (fun _ => ?_)
            · skip
              refine zFr_let (fun v640 _ => ?_)
              refine zFr_let (fun v642 _ => ?_)
              refine zFr_if (fun _ => ?_) (fun _ => ?_)
              · skip
                refine zFr_let (fun v644 _ => ?_)
                refine zFr_if (fun _ => ?_) (fun _ => ?_)
                · skip
                  refine zFr_let (fun v646 _ => ?_)
                  refine zFr_if (fun _ => ?_) (fun _ => ?_)
                  · skip
                    refine zFr_let (fun v652 _ => ?_)
                    refine zFr_let (fun t653 et653 => ?_)
                    have gt653 : zFr A σ t653 := by rw [et653]; exact fr_X11_fail g h0 h1
                    refine zFr_let (fun v656 _ => ?_)
                    refine zFr_let (fun t657 et657 => ?_)
                    have gt657 : zFr A σ t657 := by rw [et657]; exact fr_X11_comesOut gt653 h2 h3 h4 h5
                    exact gt657
                  · skip
                    refine zFr_let (fun v648 _ => ?_)
                    refine zFr_let (fun t649 et649 => ?_)
                    have gt649 : zFr A σ t649 := by rw [et649]; exact fr_X11_comesOut g h2 h3 h4 h5
                    exact gt649
                · skip
                  exact g
              · skip
                refine zFr_let (fun v660 _ => ?_)
                refine zFr_if (fun _ => ?_) (fun _ => ?_)
                · skip
                  exact g
                · skip
                  refine zFr_let (fun v662 _ => ?_)
                  refine zFr_let (fun v664 _ => ?_)
                  refine zFr_if (fun _ => ?_) (fun _ => ?_)
                  · skip
                    refine zFr_let (fun v692 _ => ?_)
                    refine zFr_let (fun v694 _ => ?_)
                    refine zFr_if (fun _ => ?_) (fun _ => ?_)
                    · skip
                      refine zFr_let (fun v696 _ => ?_)
                      refine zFr_let (fun t697 et697 => ?_)
                      have gt697 : zFr A σ t697 := by rw [et697]; exact fr_X11_comesOut g h2 h3 h4 h5
                      refine zFr_let (fun v700 ev700 => ?_)
                      rw [gt697.rf] at ev700
                      subst ev700
                      refine zFr_let (fun v701 _ => ?_)
                      refine zFr_let (fun v702 ev702 => ?_)
                      rw [gt697.rf] at ev702
                      subst ev702
                      refine zFr_let (fun v703 _ => ?_)
                      refine zFr_let (fun v704 _ => ?_)
                      refine zFr_let (fun s705 es705 => ?_)
                      have gs705 : zFr A σ s705 := by rw [es705]; exact gt697.w (h6 _)
                      refine zFr_let (fun v710 _ => ?_)
                      refine zFr_let (fun v711 _ => ?_)
                      refine zFr_let (fun v712 _ => ?_)
                      refine zFr_let (fun s713 es713 => ?_)
                      have gs713 : zFr A σ s713 := by rw [es713]; exact gs705.w h2
                      refine zFr_let (fun t718 et718 => ?_)
                      have gt718 : zFr A σ t718 := by rw [et718]; exact fr_X11_goesOn gs713 h0 h1 h7
                      exact ckLp8 _ _ gt718
                    · skip
                      refine zFr_let (fun v722 _ => ?_)
                      refine zFr_let (fun t723 et723 => ?_)
                      have gt723 : zFr A σ t723 := by rw [et723]; exact fr_X11_comesOut g h2 h3 h4 h5
                      refine zFr_let (fun v726 ev726 => ?_)
                      rw [gt723.rf] at ev726
                      subst ev726
                      refine zFr_let (fun v727 _ => ?_)
                      refine zFr_let (fun v728 ev728 => ?_)
                      rw [gt723.rf] at ev728
                      subst ev728
                      refine zFr_let (fun v729 _ => ?_)
                      refine zFr_let (fun v730 _ => ?_)
                      refine zFr_let (fun s731 es731 => ?_)
                      have gs731 : zFr A σ s731 := by rw [es731]; exact gt723.w (h6 _)
                      refine zFr_let (fun v736 _ => ?_)
                      refine zFr_let (fun v737 _ => ?_)
                      refine zFr_let (fun v738 _ => ?_)
                      refine zFr_let (fun s739 es739 => ?_)
                      have gs739 : zFr A σ s739 := by rw [es739]; exact gs731.w h2
                      refine zFr_let (fun t744 et744 => ?_)
                      have gt744 : zFr A σ t744 := by rw [et744]; exact fr_X11_goesOn gs739 h0 h1 h7
                      exact ckLp8 _ _ gt744
                  · skip
                    refine zFr_let (fun v666 _ => ?_)
                    refine zFr_let (fun t667 et667 => ?_)
                    have gt667 : zFr A σ t667 := by rw [et667]; exact fr_X11_comesOut g h2 h3 h4 h5
                    refine zFr_let (fun v670 ev670 => ?_)
                    rw [gt667.rf] at ev670
                    subst ev670
                    refine zFr_let (fun v671 _ => ?_)
                    refine zFr_let (fun v672 ev672 => ?_)
                    rw [gt667.rf] at ev672
                    subst ev672
                    refine zFr_let (fun v673 _ => ?_)
                    refine zFr_let (fun v674 _ => ?_)
                    refine zFr_let (fun s675 es675 => ?_)
                    have gs675 : zFr A σ s675 := by rw [es675]; exact gt667.w (h6 _)
                    refine zFr_let (fun v680 _ => ?_)
                    refine zFr_let (fun v681 _ => ?_)
                    refine zFr_let (fun v682 _ => ?_)
                    refine zFr_let (fun s683 es683 => ?_)
                    have gs683 : zFr A σ s683 := by rw [es683]; exact gs675.w h2
                    refine zFr_let (fun t688 et688 => ?_)
                    have gt688 : zFr A σ t688 := by rw [et688]; exact fr_X11_goesOn gs683 h0 h1 h7
                    exact ckLp8 _ _ gt688
            · skip
              refine zFr_let (fun v552 _ => ?_)
              refine zFr_if (fun _ => ?_) (fun _ => ?_)
              · skip
                exact g
              · skip
                refine zFr_let (fun v554 _ => ?_)
                refine zFr_let (fun v556 _ => ?_)
                refine zFr_if (fun _ => ?_) (fun _ => ?_)
                · skip
                  refine zFr_let (fun v584 _ => ?_)
                  refine zFr_let (fun v586 _ => ?_)
                  refine zFr_if (fun _ => ?_) (fun _ => ?_)
                  · skip
                    refine zFr_let (fun v588 _ => ?_)
                    refine zFr_let (fun t589 et589 => ?_)
                    have gt589 : zFr A σ t589 := by rw [et589]; exact fr_X11_comesOut g h2 h3 h4 h5
                    refine zFr_let (fun v592 ev592 => ?_)
                    rw [gt589.rf] at ev592
                    subst ev592
                    refine zFr_let (fun v593 _ => ?_)
                    refine zFr_let (fun v594 ev594 => ?_)
                    rw [gt589.rf] at ev594
                    subst ev594
                    refine zFr_let (fun v595 _ => ?_)
                    refine zFr_let (fun v596 _ => ?_)
                    refine zFr_let (fun s597 es597 => ?_)
                    have gs597 : zFr A σ s597 := by rw [es597]; exact gt589.w (h6 _)
                    refine zFr_let (fun v602 _ => ?_)
                    refine zFr_let (fun v603 _ => ?_)
                    refine zFr_let (fun v604 _ => ?_)
                    refine zFr_let (fun s605 es605 => ?_)
                    have gs605 : zFr A σ s605 := by rw [es605]; exact gs597.w h2
                    refine zFr_let (fun t610 et610 => ?_)
                    have gt610 : zFr A σ t610 := by rw [et610]; exact fr_X11_goesOn gs605 h0 h1 h7
                    exact ckLp8 _ _ gt610
                  · skip
                    refine zFr_let (fun v614 _ => ?_)
                    refine zFr_let (fun t615 et615 => ?_)
                    have gt615 : zFr A σ t615 := by rw [et615]; exact fr_X11_comesOut g h2 h3 h4 h5
                    refine zFr_let (fun v618 ev618 => ?_)
                    rw [gt615.rf] at ev618
                    subst ev618
                    refine zFr_let (fun v619 _ => ?_)
                    refine zFr_let (fun v620 ev620 => ?_)
                    rw [gt615.rf] at ev620
                    subst ev620
                    refine zFr_let (fun v621 _ => ?_)
                    refine zFr_let (fun v622 _ => ?_)
                    refine zFr_let (fun s623 es623 => ?_)
                    have gs623 : zFr A σ s623 := by rw [es623]; exact gt615.w (h6 _)
                    refine zFr_let (fun v628 _ => ?_)
                    refine zFr_let (fun v629 _ => ?_)
                    refine zFr_let (fun v630 _ => ?_)
                    refine zFr_let (fun s631 es631 => ?_)
                    have gs631 : zFr A σ s631 := by rw [es631]; exact gs623.w h2
                    refine zFr_let (fun t636 et636 => ?_)
                    have gt636 : zFr A σ t636 := by rw [et636]; exact fr_X11_goesOn gs631 h0 h1 h7
                    exact ckLp8 _ _ gt636
                · skip
                  refine zFr_let (fun v558 _ => ?_)
                  refine zFr_let (fun t559 et559 => ?_)
                  have gt559 : zFr A σ t559 := by rw [et559]; exact fr_X11_comesOut g h2 h3 h4 h5
                  refine zFr_let (fun v562 ev562 => ?_)
                  rw [gt559.rf] at ev562
                  subst ev562
                  refine zFr_let (fun v563 _ => ?_)
                  refine zFr_let (fun v564 ev564 => ?_)
                  rw [gt559.rf] at ev564
                  subst ev564
                  refine zFr_let (fun v565 _ => ?_)
                  refine zFr_let (fun v566 _ => ?_)
                  refine zFr_let (fun s567 es567 => ?_)
                  have gs567 : zFr A σ s567 := by rw [es567]; exact gt559.w (h6 _)
                  refine zFr_let (fun v572 _ => ?_)
                  refine zFr_let (fun v573 _ => ?_)
                  refine zFr_let (fun v574 _ => ?_)
                  refine zFr_let (fun s575 es575 => ?_)
                  have gs575 : zFr A σ s575 := by rw [es575]; exact gs567.w h2
                  refine zFr_let (fun t580 et580 => ?_)
                  have gt580 : zFr A σ t580 := by rw [et580]; exact fr_X11_goesOn gs575 h0 h1 h7
                  exact ckLp8 _ _ gt580
          · skip
            refine zFr_let (fun v460 _ => ?_)
            refine zFr_if (fun _ => ?_) (fun _ => ?_)
            · skip
              exact g
            · skip
              refine zFr_let (fun v462 _ => ?_)
              refine zFr_let (fun v464 _ => ?_)
              refine zFr_if (fun _ => ?_) (fun _ => ?_)
              · skip
                refine zFr_let (fun v492 _ => ?_)
                refine zFr_let (fun v494 _ => ?_)
                refine zFr_if (fun _ => ?_) (fun _ => ?_)
                · skip
                  refine zFr_let (fun v496 _ => ?_)
                  refine zFr_let (fun t497 et497 => ?_)
                  have gt497 : zFr A σ t497 := by rw [et497]; exact fr_X11_comesOut g h2 h3 h4 h5
                  refine zFr_let (fun v500 ev500 => ?_)
                  rw [gt497.rf] at ev500
                  subst ev500
                  refine zFr_let (fun v501 _ => ?_)
                  refine zFr_let (fun v502 ev502 => ?_)
                  rw [gt497.rf] at ev502
                  subst ev502
                  refine zFr_let (fun v503 _ => ?_)
                  refine zFr_let (fun v504 _ => ?_)
                  refine zFr_let (fun s505 es505 => ?_)
                  have gs505 : zFr A σ s505 := by rw [es505]; exact gt497.w (h6 _)
                  refine zFr_let (fun v510 _ => ?_)
                  refine zFr_let (fun v511 _ => ?_)
                  refine zFr_let (fun v512 _ => ?_)
                  refine zFr_let (fun s513 es513 => ?_)
                  have gs513 : zFr A σ s513 := by rw [es513]; exact gs505.w h2
                  refine zFr_let (fun t518 et518 => ?_)
                  have gt518 : zFr A σ t518 := by rw [et518]; exact fr_X11_goesOn gs513 h0 h1 h7
                  exact ckLp8 _ _ gt518
                · skip
                  refine zFr_let (fun v522 _ => ?_)
                  refine zFr_let (fun t523 et523 => ?_)
                  have gt523 : zFr A σ t523 := by rw [et523]; exact fr_X11_comesOut g h2 h3 h4 h5
                  refine zFr_let (fun v526 ev526 => ?_)
                  rw [gt523.rf] at ev526
                  subst ev526
                  refine zFr_let (fun v527 _ => ?_)
                  refine zFr_let (fun v528 ev528 => ?_)
                  rw [gt523.rf] at ev528
                  subst ev528
                  refine zFr_let (fun v529 _ => ?_)
                  refine zFr_let (fun v530 _ => ?_)
                  refine zFr_let (fun s531 es531 => ?_)
                  have gs531 : zFr A σ s531 := by rw [es531]; exact gt523.w (h6 _)
                  refine zFr_let (fun v536 _ => ?_)
                  refine zFr_let (fun v537 _ => ?_)
                  refine zFr_let (fun v538 _ => ?_)
                  refine zFr_let (fun s539 es539 => ?_)
                  have gs539 : zFr A σ s539 := by rw [es539]; exact gs531.w h2
                  refine zFr_let (fun t544 et544 => ?_)
                  have gt544 : zFr A σ t544 := by rw [et544]; exact fr_X11_goesOn gs539 h0 h1 h7
                  exact ckLp8 _ _ gt544
              · skip
                refine zFr_let (fun v466 _ => ?_)
                refine zFr_let (fun t467 et467 => ?_)
                have gt467 : zFr A σ t467 := by rw [et467]; exact fr_X11_comesOut g h2 h3 h4 h5
                refine zFr_let (fun v470 ev470 => ?_)
                rw [gt467.rf] at ev470
                subst ev470
                refine zFr_let (fun v471 _ => ?_)
                refine zFr_let (fun v472 ev472 => ?_)
                rw [gt467.rf] at ev472
                subst ev472
                refine zFr_let (fun v473 _ => ?_)
                refine zFr_let (fun v474 _ => ?_)
                refine zFr_let (fun s475 es475 => ?_)
                have gs475 : zFr A σ s475 := by rw [es475]; exact gt467.w (h6 _)
                refine zFr_let (fun v480 _ => ?_)
                refine zFr_let (fun v481 _ => ?_)
                refine zFr_let (fun v482 _ => ?_)
                refine zFr_let (fun s483 es483 => ?_)
                have gs483 : zFr A σ s483 := by rw [es483]; exact gs475.w h2
                refine zFr_let (fun t488 et488 => ?_)
                have gt488 : zFr A σ t488 := by rw [et488]; exact fr_X11_goesOn gs483 h0 h1 h7
                exact ckLp8 _ _ gt488
        · skip
          refine zFr_let (fun v368 _ => ?_)
          refine zFr_if (fun _ => ?_) (fun _ => ?_)
          · skip
            exact g
          · skip
            refine zFr_let (fun v370 _ => ?_)
            refine zFr_let (fun v372 _ => ?_)
            refine zFr_if (fun _ => ?_) (fun _ => ?_)
            · skip
              refine zFr_let (fun v400 _ => ?_)
              refine zFr_let (fun v402 _ => ?_)
              refine zFr_if (fun _ => ?_) (fun _ => ?_)
              · skip
                refine zFr_let (fun v404 _ => ?_)
                refine zFr_let (fun t405 et405 => ?_)
                have gt405 : zFr A σ t405 := by rw [et405]; exact fr_X11_comesOut g h2 h3 h4 h5
                refine zFr_let (fun v408 ev408 => ?_)
                rw [gt405.rf] at ev408
                subst ev408
                refine zFr_let (fun v409 _ => ?_)
                refine zFr_let (fun v410 ev410 => ?_)
                rw [gt405.rf] at ev410
                subst ev410
                refine zFr_let (fun v411 _ => ?_)
                refine zFr_let (fun v412 _ => ?_)
                refine zFr_let (fun s413 es413 => ?_)
                have gs413 : zFr A σ s413 := by rw [es413]; exact gt405.w (h6 _)
                refine zFr_let (fun v418 _ => ?_)
                refine zFr_let (fun v419 _ => ?_)
                refine zFr_let (fun v420 _ => ?_)
                refine zFr_let (fun s421 es421 => ?_)
                have gs421 : zFr A σ s421 := by rw [es421]; exact gs413.w h2
                refine zFr_let (fun t426 et426 => ?_)
                have gt426 : zFr A σ t426 := by rw [et426]; exact fr_X11_goesOn gs421 h0 h1 h7
                exact ckLp8 _ _ gt426
              · skip
                refine zFr_let (fun v430 _ => ?_)
                refine zFr_let (fun t431 et431 => ?_)
                have gt431 : zFr A σ t431 := by rw [et431]; exact fr_X11_comesOut g h2 h3 h4 h5
                refine zFr_let (fun v434 ev434 => ?_)
                rw [gt431.rf] at ev434
                subst ev434
                refine zFr_let (fun v435 _ => ?_)
                refine zFr_let (fun v436 ev436 => ?_)
                rw [gt431.rf] at ev436
                subst ev436
                refine zFr_let (fun v437 _ => ?_)
                refine zFr_let (fun v438 _ => ?_)
                refine zFr_let (fun s439 es439 => ?_)
                have gs439 : zFr A σ s439 := by rw [es439]; exact gt431.w (h6 _)
                refine zFr_let (fun v444 _ => ?_)
                refine zFr_let (fun v445 _ => ?_)
                refine zFr_let (fun v446 _ => ?_)
                refine zFr_let (fun s447 es447 => ?_)
                have gs447 : zFr A σ s447 := by rw [es447]; exact gs439.w h2
                refine zFr_let (fun t452 et452 => ?_)
                have gt452 : zFr A σ t452 := by rw [et452]; exact fr_X11_goesOn gs447 h0 h1 h7
                exact ckLp8 _ _ gt452
            · skip
              refine zFr_let (fun v374 _ => ?_)
              refine zFr_let (fun t375 et375 => ?_)
              have gt375 : zFr A σ t375 := by rw [et375]; exact fr_X11_comesOut g h2 h3 h4 h5
              refine zFr_let (fun v378 ev378 => ?_)
              rw [gt375.rf] at ev378
              subst ev378
              refine zFr_let (fun v379 _ => ?_)
              refine zFr_let (fun v380 ev380 => ?_)
              rw [gt375.rf] at ev380
              subst ev380
              refine zFr_let (fun v381 _ => ?_)
              refine zFr_let (fun v382 _ => ?_)
              refine zFr_let (fun s383 es383 => ?_)
              have gs383 : zFr A σ s383 := by rw [es383]; exact gt375.w (h6 _)
              refine zFr_let (fun v388 _ => ?_)
              refine zFr_let (fun v389 _ => ?_)
              refine zFr_let (fun v390 _ => ?_)
              refine zFr_let (fun s391 es391 => ?_)
              have gs391 : zFr A σ s391 := by rw [es391]; exact gs383.w h2
              refine zFr_let (fun t396 et396 => ?_)
              have gt396 : zFr A σ t396 := by rw [et396]; exact fr_X11_goesOn gs391 h0 h1 h7
              exact ckLp8 _ _ gt396
set_option maxRecDepth 100000 in
theorem fr_X11_expression_23 {A : Nat → Nat → Prop} {σ : zS} {x7 : Int32} {v5 : Int32} {a0 : Nat} {kLp8 : Int32 → zS → zS} (ckLp8 : ∀ (y0 : Int32) (s : zS), zFr A σ s → zFr A σ (kLp8 y0 s)) (h0 : A a0 13) (h1 : A a0 14) (h2 : ∀ j, A ((σ.2.2 a0 39).getD 0) j) (h3 : ∀ j, A ((σ.2.2 a0 40).getD 0) j) (h4 : A a0 38) (h5 : A a0 11) (h6 : A a0 44) (h7 : ∀ j, A ((σ.2.2 a0 43).getD 0) j) (h8 : A a0 12) : ∀ (n : Nat) (τ12 : zS), zFr A σ τ12 → zFr A σ (F_X11_expression_23 x7 v5 a0 kLp8 n  τ12) := by
  intro n
  induction n with
  | zero => intro  τ12 g; exact g
  | succ n ih =>
    intro  τ12 g
    rw [F_X11_expression_23]
    refine zFr_let (fun v13 _ => ?_)
    refine zFr_let (fun v15 _ => ?_)
    refine zFr_if (fun _ => ?_) (fun _ => ?_)
    · skip
      refine zFr_let (fun t17 et17 => ?_)
      have gt17 : zFr A σ t17 := by rw [et17]; exact fr_X11_unit g h0 h1 h2 h3 h4 h5
      refine zFr_let (fun v19 _ => ?_)
      refine zFr_if (fun _ => ?_) (fun _ => ?_)
      · skip
        exact gt17
      · skip
        exact fr_X11_expression_96 ckLp8 ih h0 h1 h6 h2 h3 h4 h7 h5 h8 _ _ gt17
    · skip
      refine zFr_let (fun v770 _ => ?_)
      refine zFr_let (fun v771 _ => ?_)
      refine zFr_if (fun _ => ?_) (fun _ => ?_)
      · skip
        refine zFr_let (fun v796 _ => ?_)
        refine zFr_let (fun t797 et797 => ?_)
        have gt797 : zFr A σ t797 := by rw [et797]; exact fr_X11_fail g h0 h1
        refine zFr_let (fun v800 _ => ?_)
        refine zFr_let (fun v801 _ => ?_)
        refine zFr_let (fun v802 _ => ?_)
        refine zFr_let (fun s803 es803 => ?_)
        have gs803 : zFr A σ s803 := by rw [es803]; exact gt797.w h8
        refine zFr_let (fun t806 et806 => ?_)
        have gt806 : zFr A σ t806 := by rw [et806]; exact fr_X11_goesOn gs803 h0 h1 h5
        refine zFr_let (fun v809 ev809 => ?_)
        rw [gt806.rf] at ev809
        subst ev809
        refine zFr_let (fun v810 _ => ?_)
        refine zFr_let (fun v811 _ => ?_)
        refine zFr_let (fun s812 es812 => ?_)
        have gs812 : zFr A σ s812 := by rw [es812]; exact gt806.w (h7 _)
        refine zFr_let (fun v816 _ => ?_)
        refine zFr_let (fun v817 _ => ?_)
        refine zFr_let (fun v818 _ => ?_)
        refine zFr_let (fun s819 es819 => ?_)
        have gs819 : zFr A σ s819 := by rw [es819]; exact gs812.w h6
        exact ih _ gs819
      · skip
        refine zFr_let (fun v773 _ => ?_)
        refine zFr_let (fun v774 _ => ?_)
        refine zFr_let (fun v775 _ => ?_)
        refine zFr_let (fun s776 es776 => ?_)
        have gs776 : zFr A σ s776 := by rw [es776]; exact g.w h8
        refine zFr_let (fun t779 et779 => ?_)
        have gt779 : zFr A σ t779 := by rw [et779]; exact fr_X11_goesOn gs776 h0 h1 h5
        refine zFr_let (fun v782 ev782 => ?_)
        rw [gt779.rf] at ev782
        subst ev782
        refine zFr_let (fun v783 _ => ?_)
        refine zFr_let (fun v784 _ => ?_)
        refine zFr_let (fun s785 es785 => ?_)
        have gs785 : zFr A σ s785 := by rw [es785]; exact gt779.w (h7 _)
        refine zFr_let (fun v789 _ => ?_)
        refine zFr_let (fun v790 _ => ?_)
        refine zFr_let (fun v791 _ => ?_)
        refine zFr_let (fun s792 es792 => ?_)
        have gs792 : zFr A σ s792 := by rw [es792]; exact gs785.w h6
        exact ih _ gs792
set_option maxRecDepth 100000 in
theorem fr_X11_expression_12 {A : Nat → Nat → Prop} {σ : zS} {v5 : Int32} {a0 : Nat}  (h0 : A a0 13) (h1 : A a0 14) (h2 : ∀ j, A ((σ.2.2 a0 39).getD 0) j) (h3 : ∀ j, A ((σ.2.2 a0 40).getD 0) j) (h4 : A a0 38) (h5 : A a0 11) (h6 : A a0 44) (h7 : ∀ j, A ((σ.2.2 a0 43).getD 0) j) (h8 : A a0 12) : ∀ (n : Nat) (x7 : Int32) (τ8 : zS), zFr A σ τ8 → zFr A σ (F_X11_expression_12 v5 a0 n x7 τ8) := by
  intro n
  induction n with
  | zero => intro x7 τ8 g; exact g
  | succ n ih =>
    intro x7 τ8 g
    rw [F_X11_expression_12]
    refine zFr_if (fun _ => ?_) (fun _ => ?_)
    · skip
      exact g
    · skip
      refine zFr_let (fun v10 _ => ?_)
      refine zFr_if (fun _ => ?_) (fun _ => ?_)
      · skip
        exact fr_X11_expression_23 ih h0 h1 h2 h3 h4 h5 h6 h7 h8 _ _ g
      · skip
        exact g
set_option maxRecDepth 100000 in
theorem fr_X11_expression {A : Nat → Nat → Prop} {σ σ0 : zS} {a0 : Nat}  (g : zFr A σ σ0) (h0 : A a0 44) (h1 : A a0 13) (h2 : A a0 14) (h3 : ∀ j, A ((σ.2.2 a0 39).getD 0) j) (h4 : ∀ j, A ((σ.2.2 a0 40).getD 0) j) (h5 : A a0 38) (h6 : A a0 11) (h7 : ∀ j, A ((σ.2.2 a0 43).getD 0) j) (h8 : A a0 12) : zFr A σ (F_X11_expression a0 σ0) := by
  unfold F_X11_expression
  refine zFr_let (fun v1 _ => ?_)
  refine zFr_let (fun s2 es2 => ?_)
  have gs2 : zFr A σ s2 := by rw [es2]; exact g.w h0
  refine zFr_let (fun v5 _ => ?_)
  refine zFr_let (fun v6 _ => ?_)
  exact fr_X11_expression_12  h1 h2 h3 h4 h5 h6 h0 h7 h8 _ _ _ gs2
set_option maxRecDepth 100000 in
theorem fr_X11_term {A : Nat → Nat → Prop} {σ σ0 : zS} {a0 : Nat}  (g : zFr A σ σ0) (h0 : ∀ j, A ((σ.2.2 a0 36).getD 0) j) (h1 : A a0 44) (h2 : A a0 13) (h3 : A a0 14) (h4 : ∀ j, A ((σ.2.2 a0 39).getD 0) j) (h5 : ∀ j, A ((σ.2.2 a0 40).getD 0) j) (h6 : A a0 38) (h7 : A a0 11) (h8 : ∀ j, A ((σ.2.2 a0 43).getD 0) j) (h9 : A a0 12) (h10 : ∀ j, A ((σ.2.2 a0 37).getD 0) j) (h11 : A a0 32) : zFr A σ (F_X11_term a0 σ0) := by
  unfold F_X11_term
  refine zFr_let (fun v1 ev1 => ?_)
  rw [g.rf] at ev1
  subst ev1
  refine zFr_let (fun v2 _ => ?_)
  refine zFr_let (fun v3 _ => ?_)
  refine zFr_let (fun s4 es4 => ?_)
  have gs4 : zFr A σ s4 := by rw [es4]; exact g.w (h0 _)
  refine zFr_let (fun v8 _ => ?_)
  refine zFr_if (fun _ => ?_) (fun _ => ?_)
  · skip
    refine zFr_let (fun t26 et26 => ?_)
    have gt26 : zFr A σ t26 := by rw [et26]; exact fr_X11_expression gs4 h1 h2 h3 h4 h5 h6 h7 h8 h9
    refine zFr_let (fun v29 ev29 => ?_)
    rw [gt26.rf] at ev29
    subst ev29
    refine zFr_let (fun v30 _ => ?_)
    refine zFr_let (fun v31 _ => ?_)
    refine zFr_let (fun s32 es32 => ?_)
    have gs32 : zFr A σ s32 := by rw [es32]; exact gt26.w (h10 _)
    refine zFr_let (fun v36 _ => ?_)
    refine zFr_let (fun v37 _ => ?_)
    refine zFr_let (fun v38 _ => ?_)
    refine zFr_let (fun s39 es39 => ?_)
    have gs39 : zFr A σ s39 := by rw [es39]; exact gs32.w h11
    exact gs39
  · skip
    refine zFr_let (fun v10 ev10 => ?_)
    rw [gs4.rf] at ev10
    subst ev10
    refine zFr_let (fun v11 _ => ?_)
    refine zFr_let (fun v12 _ => ?_)
    refine zFr_let (fun s13 es13 => ?_)
    have gs13 : zFr A σ s13 := by rw [es13]; exact gs4.w (h10 _)
    refine zFr_let (fun v18 _ => ?_)
    refine zFr_let (fun v19 _ => ?_)
    refine zFr_let (fun v20 _ => ?_)
    refine zFr_let (fun s21 es21 => ?_)
    have gs21 : zFr A σ s21 := by rw [es21]; exact gs13.w h11
    exact gs21
set_option maxRecDepth 100000 in
theorem fr_X11_tellLaw_12 {A : Nat → Nat → Prop} {σ : zS} {v4 : Int32} {a0 : Nat} {p1 : Int32}  (h0 : ∀ j, A ((σ.2.2 a0 33).getD 0) j) (h1 : ∀ j, A ((σ.2.2 a0 36).getD 0) j) (h2 : A a0 44) (h3 : A a0 13) (h4 : A a0 14) (h5 : ∀ j, A ((σ.2.2 a0 39).getD 0) j) (h6 : ∀ j, A ((σ.2.2 a0 40).getD 0) j) (h7 : A a0 38) (h8 : A a0 11) (h9 : ∀ j, A ((σ.2.2 a0 43).getD 0) j) (h10 : A a0 12) (h11 : ∀ j, A ((σ.2.2 a0 37).getD 0) j) (h12 : A a0 32) (h13 : ∀ j, A ((σ.2.2 a0 30).getD 0) j) (h14 : ∀ j, A ((σ.2.2 a0 31).getD 0) j) (h15 : ∀ j, A ((σ.2.2 a0 34).getD 0) j) (h16 : ∀ j, A ((σ.2.2 a0 35).getD 0) j) : ∀ (n : Nat) (x6 : Int32) (τ7 : zS), zFr A σ τ7 → zFr A σ (F_X11_tellLaw_12 v4 a0 p1 n x6 τ7) := by
  intro n
  induction n with
  | zero => intro x6 τ7 g; exact g
  | succ n ih =>
    intro x6 τ7 g
    rw [F_X11_tellLaw_12]
    refine zFr_let (fun v8 _ => ?_)
    refine zFr_if (fun _ => ?_) (fun _ => ?_)
    · skip
      refine zFr_let (fun v24 _ => ?_)
      refine zFr_let (fun v26 _ => ?_)
      refine zFr_if (fun _ => ?_) (fun _ => ?_)
      · skip
        refine zFr_let (fun v28 ev28 => ?_)
        rw [g.rf] at ev28
        subst ev28
        refine zFr_let (fun v29 _ => ?_)
        refine zFr_let (fun v30 _ => ?_)
        refine zFr_let (fun s31 es31 => ?_)
        have gs31 : zFr A σ s31 := by rw [es31]; exact g.w (h0 _)
        refine zFr_let (fun t35 et35 => ?_)
        have gt35 : zFr A σ t35 := by rw [et35]; exact fr_X11_term gs31 h1 h2 h3 h4 h5 h6 h7 h8 h9 h10 h11 h12
        refine zFr_let (fun v37 _ => ?_)
        refine zFr_let (fun t38 et38 => ?_)
        have gt38 : zFr A σ t38 := by rw [et38]; exact fr_X11_must gt35 h3 h4 h8
        refine zFr_let (fun v40 _ => ?_)
        refine zFr_if (fun _ => ?_) (fun _ => ?_)
        · skip
          exact gt38
        · skip
          refine zFr_let (fun v42 ev42 => ?_)
          rw [gt38.rf] at ev42
          subst ev42
          refine zFr_let (fun v43 _ => ?_)
          refine zFr_let (fun v44 _ => ?_)
          refine zFr_let (fun v45 _ => ?_)
          refine zFr_let (fun v46 _ => ?_)
          refine zFr_let (fun s47 es47 => ?_)
          have gs47 : zFr A σ s47 := by rw [es47]; exact gt38.w (h13 _)
          refine zFr_let (fun v51 ev51 => ?_)
          rw [gs47.rf] at ev51
          subst ev51
          refine zFr_let (fun v52 _ => ?_)
          refine zFr_let (fun v53 _ => ?_)
          refine zFr_let (fun v54 _ => ?_)
          refine zFr_let (fun v55 _ => ?_)
          refine zFr_let (fun v56 _ => ?_)
          refine zFr_let (fun s57 es57 => ?_)
          have gs57 : zFr A σ s57 := by rw [es57]; exact gs47.w (h14 _)
          exact gs57
      · skip
        refine zFr_let (fun v62 _ => ?_)
        refine zFr_if (fun _ => ?_) (fun _ => ?_)
        · skip
          refine zFr_let (fun v120 _ => ?_)
          refine zFr_let (fun t121 et121 => ?_)
          have gt121 : zFr A σ t121 := by rw [et121]; exact fr_X11_fail g h3 h4
          refine zFr_let (fun v123 _ => ?_)
          refine zFr_if (fun _ => ?_) (fun _ => ?_)
          · skip
            exact gt121
          · skip
            exact gt121
        · skip
          refine zFr_let (fun v64 _ => ?_)
          refine zFr_if (fun _ => ?_) (fun _ => ?_)
          · skip
            exact g
          · skip
            refine zFr_let (fun v66 _ => ?_)
            refine zFr_let (fun t67 et67 => ?_)
            have gt67 : zFr A σ t67 := by rw [et67]; exact fr_X11_goesOn g h3 h4 h8
            refine zFr_let (fun v69 ev69 => ?_)
            rw [gt67.rf] at ev69
            subst ev69
            refine zFr_let (fun v70 _ => ?_)
            refine zFr_let (fun v71 _ => ?_)
            refine zFr_let (fun s72 es72 => ?_)
            have gs72 : zFr A σ s72 := by rw [es72]; exact gt67.w (h0 _)
            refine zFr_let (fun v75 ev75 => ?_)
            rw [gs72.rf] at ev75
            subst ev75
            refine zFr_let (fun v76 _ => ?_)
            refine zFr_let (fun v77 _ => ?_)
            refine zFr_let (fun s78 es78 => ?_)
            have gs78 : zFr A σ s78 := by rw [es78]; exact gs72.w (h15 _)
            refine zFr_let (fun t82 et82 => ?_)
            have gt82 : zFr A σ t82 := by rw [et82]; exact fr_X11_expression gs78 h2 h3 h4 h5 h6 h7 h8 h9 h10
            refine zFr_let (fun v85 _ => ?_)
            refine zFr_let (fun t86 et86 => ?_)
            have gt86 : zFr A σ t86 := by rw [et86]; exact fr_X11_must gt82 h3 h4 h8
            refine zFr_let (fun v89 ev89 => ?_)
            rw [gt86.rf] at ev89
            subst ev89
            refine zFr_let (fun v90 _ => ?_)
            refine zFr_let (fun v91 _ => ?_)
            refine zFr_let (fun s92 es92 => ?_)
            have gs92 : zFr A σ s92 := by rw [es92]; exact gt86.w (h16 _)
            refine zFr_let (fun v96 _ => ?_)
            refine zFr_if (fun _ => ?_) (fun _ => ?_)
            · skip
              refine zFr_let (fun t108 et108 => ?_)
              have gt108 : zFr A σ t108 := by rw [et108]; exact fr_X11_expression gs92 h2 h3 h4 h5 h6 h7 h8 h9 h10
              refine zFr_let (fun v111 _ => ?_)
              refine zFr_let (fun t112 et112 => ?_)
              have gt112 : zFr A σ t112 := by rw [et112]; exact fr_X11_must gt108 h3 h4 h8
              refine zFr_let (fun t115 et115 => ?_)
              have gt115 : zFr A σ t115 := by rw [et115]; exact fr_X11_term gt112 h1 h2 h3 h4 h5 h6 h7 h8 h9 h10 h11 h12
              refine zFr_let (fun v117 _ => ?_)
              refine zFr_let (fun t118 et118 => ?_)
              have gt118 : zFr A σ t118 := by rw [et118]; exact fr_X11_must gt115 h3 h4 h8
              exact ih _ _ gt118
            · skip
              refine zFr_let (fun v98 _ => ?_)
              refine zFr_let (fun t99 et99 => ?_)
              have gt99 : zFr A σ t99 := by rw [et99]; exact fr_X11_must gs92 h3 h4 h8
              refine zFr_let (fun t103 et103 => ?_)
              have gt103 : zFr A σ t103 := by rw [et103]; exact fr_X11_term gt99 h1 h2 h3 h4 h5 h6 h7 h8 h9 h10 h11 h12
              refine zFr_let (fun v105 _ => ?_)
              refine zFr_let (fun t106 et106 => ?_)
              have gt106 : zFr A σ t106 := by rw [et106]; exact fr_X11_must gt103 h3 h4 h8
              exact ih _ _ gt106
    · skip
      refine zFr_let (fun v10 ev10 => ?_)
      rw [g.rf] at ev10
      subst ev10
      refine zFr_let (fun v11 _ => ?_)
      refine zFr_let (fun v12 _ => ?_)
      refine zFr_let (fun s13 es13 => ?_)
      have gs13 : zFr A σ s13 := by rw [es13]; exact g.w (h0 _)
      refine zFr_let (fun t17 et17 => ?_)
      have gt17 : zFr A σ t17 := by rw [et17]; exact fr_X11_term gs13 h1 h2 h3 h4 h5 h6 h7 h8 h9 h10 h11 h12
      refine zFr_let (fun v19 _ => ?_)
      refine zFr_let (fun t20 et20 => ?_)
      have gt20 : zFr A σ t20 := by rw [et20]; exact fr_X11_must gt17 h3 h4 h8
      refine zFr_let (fun v22 _ => ?_)
      refine zFr_if (fun _ => ?_) (fun _ => ?_)
      · skip
        exact gt20
      · skip
        exact gt20
set_option maxRecDepth 100000 in
theorem fr_X11_tellLaw {A : Nat → Nat → Prop} {σ σ0 : zS} {a0 : Nat} {p1 : Int32}  (g : zFr A σ σ0) (h0 : A a0 13) (h1 : A a0 14) (h2 : A a0 11) (h3 : ∀ j, A ((σ.2.2 a0 33).getD 0) j) (h4 : ∀ j, A ((σ.2.2 a0 36).getD 0) j) (h5 : A a0 44) (h6 : ∀ j, A ((σ.2.2 a0 39).getD 0) j) (h7 : ∀ j, A ((σ.2.2 a0 40).getD 0) j) (h8 : A a0 38) (h9 : ∀ j, A ((σ.2.2 a0 43).getD 0) j) (h10 : A a0 12) (h11 : ∀ j, A ((σ.2.2 a0 37).getD 0) j) (h12 : A a0 32) (h13 : ∀ j, A ((σ.2.2 a0 30).getD 0) j) (h14 : ∀ j, A ((σ.2.2 a0 31).getD 0) j) (h15 : ∀ j, A ((σ.2.2 a0 34).getD 0) j) (h16 : ∀ j, A ((σ.2.2 a0 35).getD 0) j) : zFr A σ (F_X11_tellLaw a0 p1 σ0) := by
  unfold F_X11_tellLaw
  refine zFr_let (fun v1 _ => ?_)
  refine zFr_let (fun t2 et2 => ?_)
  have gt2 : zFr A σ t2 := by rw [et2]; exact fr_X11_must g h0 h1 h2
  refine zFr_let (fun v4 _ => ?_)
  refine zFr_let (fun v5 _ => ?_)
  exact fr_X11_tellLaw_12  h3 h4 h5 h0 h1 h6 h7 h8 h2 h9 h10 h11 h12 h13 h14 h15 h16 _ _ _ gt2
set_option maxRecDepth 100000 in
theorem fr_X11_read_224 {A : Nat → Nat → Prop} {σ : zS} {a0 : Nat} {kLp8 : Int32 → zS → Int32 × zS} {kLp133 : zS → Int32 × zS} (ckLp8 : ∀ (y0 : Int32) (s : zS), zFr A σ s → zFp A σ (kLp8 y0 s)) (ckLp133 : ∀ (s : zS), zFr A σ s → zFp A σ (kLp133  s)) (h0 : ∀ j, A ((σ.2.2 a0 67).getD 0) j) : ∀ (n : Nat) (x207 : Int32) (τ208 : zS), zFr A σ τ208 → zFp A σ (F_X11_read_224 a0 kLp8 kLp133 n x207 τ208) := by
  intro n
  induction n with
  | zero => intro x207 τ208 g; exact g
  | succ n ih =>
    intro x207 τ208 g
    rw [F_X11_read_224]
    refine zFp_let (fun v209 _ => ?_)
    refine zFp_if (fun _ => ?_) (fun _ => ?_)
    · skip
      refine zFp_let (fun v212 ev212 => ?_)
      rw [g.rf] at ev212
      subst ev212
      refine zFp_let (fun v213 _ => ?_)
      refine zFp_let (fun s214 es214 => ?_)
      have gs214 : zFr A σ s214 := by rw [es214]; exact g.w (h0 _)
      refine zFp_let (fun v216 _ => ?_)
      exact ih _ _ gs214
    · skip
      refine zFp_let (fun v211 _ => ?_)
      exact g
