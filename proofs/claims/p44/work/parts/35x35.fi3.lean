set_option maxRecDepth 100000 in
theorem fi_X9_setPlace {A : Nat → Nat → Prop} {σ σ0 : zS} {a0 : Nat} {p1 : Int32} {p2 : Int32} {p3 : Int32} {p4 : Int32} {p5 : Int32}  (g : zFi A σ σ0) (h0 : ∀ j, A ((σ.2.2 a0 2).getD 0) j) (h1 : ∀ j, A ((σ.2.2 a0 3).getD 0) j) (h2 : ∀ j, A ((σ.2.2 a0 4).getD 0) j) (h3 : ∀ j, A ((σ.2.2 a0 5).getD 0) j) : zFi A σ (F_X9_setPlace a0 p1 p2 p3 p4 p5 σ0) := by
  unfold F_X9_setPlace
  refine zFi_if (fun _ => ?_) (fun _ => ?_)
  · skip
    exact g
  · skip
    refine zFi_let (fun v2 _ => ?_)
    refine zFi_if (fun _ => ?_) (fun _ => ?_)
    · skip
      refine zFi_let (fun v5 ev5 => ?_)
      rw [g.rf] at ev5
      subst ev5
      refine zFi_let (fun s6 es6 => ?_)
      have gs6 : zFi A σ s6 := by rw [es6]; exact g.w (h0 _)
      refine zFi_let (fun v7 ev7 => ?_)
      rw [gs6.rf] at ev7
      subst ev7
      refine zFi_let (fun s8 es8 => ?_)
      have gs8 : zFi A σ s8 := by rw [es8]; exact gs6.w (h1 _)
      refine zFi_let (fun v9 ev9 => ?_)
      rw [gs8.rf] at ev9
      subst ev9
      refine zFi_let (fun s10 es10 => ?_)
      have gs10 : zFi A σ s10 := by rw [es10]; exact gs8.w (h2 _)
      refine zFi_let (fun v11 ev11 => ?_)
      rw [gs10.rf] at ev11
      subst ev11
      refine zFi_let (fun s12 es12 => ?_)
      have gs12 : zFi A σ s12 := by rw [es12]; exact gs10.w (h3 _)
      exact gs12
    · skip
      exact g
set_option maxRecDepth 100000 in
theorem fi_X3_mouth {A : Nat → Nat → Prop} {σ σ0 : zS} {a0 : Nat}  (g : zFi A σ σ0) (h0 : A a0 2) (h1 : A a0 3) (h2 : A a0 5) (h3 : A a0 8) (h4 : A a0 9) (h5 : A a0 10) (h6 : A a0 11) (h7 : A a0 6) (h8 : ∀ j, A ((σ.2.2 ((σ.2.2 a0 1).getD 0) 2).getD 0) j) (h9 : ∀ j, A ((σ.2.2 ((σ.2.2 a0 1).getD 0) 3).getD 0) j) (h10 : ∀ j, A ((σ.2.2 ((σ.2.2 a0 1).getD 0) 4).getD 0) j) (h11 : ∀ j, A ((σ.2.2 ((σ.2.2 a0 1).getD 0) 5).getD 0) j) : zFi A σ (F_X3_mouth a0 σ0) := by
  unfold F_X3_mouth
  refine zFi_let (fun v1 _ => ?_)
  refine zFi_if (fun _ => ?_) (fun _ => ?_)
  · skip
    refine zFi_let (fun v3 _ => ?_)
    refine zFi_let (fun s4 es4 => ?_)
    have gs4 : zFi A σ s4 := by rw [es4]; exact fi_X3_take g h0 h1 h2 h3 h4
    refine zFi_let2 (fun v5 s6 es6 => ?_)
    have gs6 : zFi A σ s6 := (fi_X3_newName gs4 h0 h1 h2 h3 h4 h5 h6).of es6
    refine zFi_let (fun v7 _ => ?_)
    refine zFi_if (fun _ => ?_) (fun _ => ?_)
    · skip
      refine zFi_let (fun v9 _ => ?_)
      refine zFi_let (fun s10 es10 => ?_)
      have gs10 : zFi A σ s10 := by rw [es10]; exact gs6.w h7
      refine zFi_let (fun v11 ev11 => ?_)
      rw [gs10.rf] at ev11
      subst ev11
      refine zFi_let (fun v12 ev12 => ?_)
      rw [gs10.rf] at ev12
      subst ev12
      refine zFi_let (fun v13 _ => ?_)
      refine zFi_let (fun s14 es14 => ?_)
      have gs14 : zFi A σ s14 := by rw [es14]; exact gs10
      refine zFi_let (fun v15 ev15 => ?_)
      rw [gs14.rf] at ev15
      subst ev15
      refine zFi_let (fun v16 _ => ?_)
      refine zFi_let (fun v17 _ => ?_)
      refine zFi_let (fun v18 _ => ?_)
      refine zFi_let (fun v19 _ => ?_)
      refine zFi_let (fun v20 _ => ?_)
      refine zFi_let (fun s21 es21 => ?_)
      have gs21 : zFi A σ s21 := by rw [es21]; exact fi_X9_setPlace gs14 h8 h9 h10 h11
      exact gs21
    · skip
      exact gs6
  · skip
    refine zFi_let (fun v22 _ => ?_)
    refine zFi_let (fun s23 es23 => ?_)
    have gs23 : zFi A σ s23 := by rw [es23]; exact fi_X3_fail g h3 h4 h1
    refine zFi_let (fun v24 _ => ?_)
    refine zFi_let (fun s25 es25 => ?_)
    have gs25 : zFi A σ s25 := by rw [es25]; exact fi_X3_take gs23 h0 h1 h2 h3 h4
    refine zFi_let2 (fun v26 s27 es27 => ?_)
    have gs27 : zFi A σ s27 := (fi_X3_newName gs25 h0 h1 h2 h3 h4 h5 h6).of es27
    refine zFi_let (fun v28 _ => ?_)
    refine zFi_if (fun _ => ?_) (fun _ => ?_)
    · skip
      refine zFi_let (fun v30 _ => ?_)
      refine zFi_let (fun s31 es31 => ?_)
      have gs31 : zFi A σ s31 := by rw [es31]; exact gs27.w h7
      refine zFi_let (fun v32 ev32 => ?_)
      rw [gs31.rf] at ev32
      subst ev32
      refine zFi_let (fun v33 ev33 => ?_)
      rw [gs31.rf] at ev33
      subst ev33
      refine zFi_let (fun v34 _ => ?_)
      refine zFi_let (fun s35 es35 => ?_)
      have gs35 : zFi A σ s35 := by rw [es35]; exact gs31
      refine zFi_let (fun v36 ev36 => ?_)
      rw [gs35.rf] at ev36
      subst ev36
      refine zFi_let (fun v37 _ => ?_)
      refine zFi_let (fun v38 _ => ?_)
      refine zFi_let (fun v39 _ => ?_)
      refine zFi_let (fun v40 _ => ?_)
      refine zFi_let (fun v41 _ => ?_)
      refine zFi_let (fun s42 es42 => ?_)
      have gs42 : zFi A σ s42 := by rw [es42]; exact fi_X9_setPlace gs35 h8 h9 h10 h11
      exact gs42
    · skip
      exact gs27
set_option maxRecDepth 100000 in
theorem fi_X3_newPlace {A : Nat → Nat → Prop} {σ σ0 : zS} {a0 : Nat}  (g : zFi A σ σ0) (h0 : A a0 2) (h1 : A a0 3) (h2 : A a0 5) (h3 : A a0 8) (h4 : A a0 9) (h5 : A a0 10) (h6 : A a0 11) (h7 : A a0 7) (h8 : ∀ j, A ((σ.2.2 ((σ.2.2 a0 1).getD 0) 2).getD 0) j) (h9 : ∀ j, A ((σ.2.2 ((σ.2.2 a0 1).getD 0) 3).getD 0) j) (h10 : ∀ j, A ((σ.2.2 ((σ.2.2 a0 1).getD 0) 4).getD 0) j) (h11 : ∀ j, A ((σ.2.2 ((σ.2.2 a0 1).getD 0) 5).getD 0) j) : zFi A σ (F_X3_newPlace a0 σ0) := by
  unfold F_X3_newPlace
  refine zFi_let (fun v1 _ => ?_)
  refine zFi_let (fun v2 _ => ?_)
  refine zFi_if (fun _ => ?_) (fun _ => ?_)
  · skip
    refine zFi_let (fun v4 _ => ?_)
    refine zFi_let (fun s5 es5 => ?_)
    have gs5 : zFi A σ s5 := by rw [es5]; exact fi_X3_take g h0 h1 h2 h3 h4
    refine zFi_let2 (fun v6 s7 es7 => ?_)
    have gs7 : zFi A σ s7 := (fi_X3_newName gs5 h0 h1 h2 h3 h4 h5 h6).of es7
    refine zFi_let2 (fun v8 s9 es9 => ?_)
    have gs9 : zFi A σ s9 := (fi_X3_knownName gs7 h5 h6 h0 h1 h2 h3 h4).of es9
    refine zFi_let (fun v10 _ => ?_)
    refine zFi_let (fun v11 _ => ?_)
    refine zFi_let2 (fun v12 s13 es13 => ?_)
    have gs13 : zFi A σ s13 := (fi_X3_number gs9 h5 h6 h0 h1 h2 h3 h4).of es13
    refine zFi_let (fun v14 _ => ?_)
    refine zFi_let (fun v15 _ => ?_)
    refine zFi_let2 (fun v16 s17 es17 => ?_)
    have gs17 : zFi A σ s17 := (fi_X3_number gs13 h5 h6 h0 h1 h2 h3 h4).of es17
    refine zFi_let (fun v18 _ => ?_)
    refine zFi_let (fun v19 _ => ?_)
    refine zFi_let2 (fun v20 s21 es21 => ?_)
    have gs21 : zFi A σ s21 := (fi_X3_number gs17 h5 h6 h0 h1 h2 h3 h4).of es21
    refine zFi_let (fun v22 _ => ?_)
    refine zFi_if (fun _ => ?_) (fun _ => ?_)
    · skip
      refine zFi_let (fun v24 _ => ?_)
      refine zFi_let (fun v25 _ => ?_)
      refine zFi_if (fun _ => ?_) (fun _ => ?_)
      · skip
        refine zFi_let (fun v27 _ => ?_)
        refine zFi_let (fun v28 _ => ?_)
        refine zFi_let (fun v29 _ => ?_)
        refine zFi_let (fun s30 es30 => ?_)
        have gs30 : zFi A σ s30 := by rw [es30]; exact gs21.w h7
        refine zFi_let (fun v33 ev33 => ?_)
        rw [gs30.rf] at ev33
        subst ev33
        refine zFi_let (fun v34 ev34 => ?_)
        rw [gs30.rf] at ev34
        subst ev34
        refine zFi_let (fun v35 _ => ?_)
        refine zFi_let (fun s36 es36 => ?_)
        have gs36 : zFi A σ s36 := by rw [es36]; exact gs30
        refine zFi_let (fun v38 ev38 => ?_)
        rw [gs36.rf] at ev38
        subst ev38
        refine zFi_let (fun v39 _ => ?_)
        refine zFi_let (fun s40 es40 => ?_)
        have gs40 : zFi A σ s40 := by rw [es40]; exact fi_X9_setPlace gs36 h8 h9 h10 h11
        exact gs40
      · skip
        exact gs21
    · skip
      exact gs21
  · skip
    refine zFi_let (fun v41 _ => ?_)
    refine zFi_let (fun s42 es42 => ?_)
    have gs42 : zFi A σ s42 := by rw [es42]; exact fi_X3_fail g h3 h4 h1
    refine zFi_let (fun v43 _ => ?_)
    refine zFi_let (fun s44 es44 => ?_)
    have gs44 : zFi A σ s44 := by rw [es44]; exact fi_X3_take gs42 h0 h1 h2 h3 h4
    refine zFi_let2 (fun v45 s46 es46 => ?_)
    have gs46 : zFi A σ s46 := (fi_X3_newName gs44 h0 h1 h2 h3 h4 h5 h6).of es46
    refine zFi_let2 (fun v47 s48 es48 => ?_)
    have gs48 : zFi A σ s48 := (fi_X3_knownName gs46 h5 h6 h0 h1 h2 h3 h4).of es48
    refine zFi_let (fun v49 _ => ?_)
    refine zFi_let (fun v50 _ => ?_)
    refine zFi_let2 (fun v51 s52 es52 => ?_)
    have gs52 : zFi A σ s52 := (fi_X3_number gs48 h5 h6 h0 h1 h2 h3 h4).of es52
    refine zFi_let (fun v53 _ => ?_)
    refine zFi_let (fun v54 _ => ?_)
    refine zFi_let2 (fun v55 s56 es56 => ?_)
    have gs56 : zFi A σ s56 := (fi_X3_number gs52 h5 h6 h0 h1 h2 h3 h4).of es56
    refine zFi_let (fun v57 _ => ?_)
    refine zFi_let (fun v58 _ => ?_)
    refine zFi_let2 (fun v59 s60 es60 => ?_)
    have gs60 : zFi A σ s60 := (fi_X3_number gs56 h5 h6 h0 h1 h2 h3 h4).of es60
    refine zFi_let (fun v61 _ => ?_)
    refine zFi_if (fun _ => ?_) (fun _ => ?_)
    · skip
      refine zFi_let (fun v63 _ => ?_)
      refine zFi_let (fun v64 _ => ?_)
      refine zFi_if (fun _ => ?_) (fun _ => ?_)
      · skip
        refine zFi_let (fun v66 _ => ?_)
        refine zFi_let (fun v67 _ => ?_)
        refine zFi_let (fun v68 _ => ?_)
        refine zFi_let (fun s69 es69 => ?_)
        have gs69 : zFi A σ s69 := by rw [es69]; exact gs60.w h7
        refine zFi_let (fun v72 ev72 => ?_)
        rw [gs69.rf] at ev72
        subst ev72
        refine zFi_let (fun v73 ev73 => ?_)
        rw [gs69.rf] at ev73
        subst ev73
        refine zFi_let (fun v74 _ => ?_)
        refine zFi_let (fun s75 es75 => ?_)
        have gs75 : zFi A σ s75 := by rw [es75]; exact gs69
        refine zFi_let (fun v77 ev77 => ?_)
        rw [gs75.rf] at ev77
        subst ev77
        refine zFi_let (fun v78 _ => ?_)
        refine zFi_let (fun s79 es79 => ?_)
        have gs79 : zFi A σ s79 := by rw [es79]; exact fi_X9_setPlace gs75 h8 h9 h10 h11
        exact gs79
      · skip
        exact gs60
    · skip
      exact gs60
set_option maxRecDepth 100000 in
theorem fi_X3_telling {A : Nat → Nat → Prop} {σ σ0 : zS} {a0 : Nat}  (g : zFi A σ σ0) (h0 : A a0 2) (h1 : A a0 3) (h2 : A a0 5) (h3 : A a0 8) (h4 : A a0 9) (h5 : A a0 10) (h6 : A a0 11) (h7 : A a0 6) (h8 : ∀ j, A ((σ.2.2 ((σ.2.2 a0 1).getD 0) 2).getD 0) j) (h9 : ∀ j, A ((σ.2.2 ((σ.2.2 a0 1).getD 0) 3).getD 0) j) (h10 : ∀ j, A ((σ.2.2 ((σ.2.2 a0 1).getD 0) 4).getD 0) j) (h11 : ∀ j, A ((σ.2.2 ((σ.2.2 a0 1).getD 0) 5).getD 0) j) (h12 : A a0 7) (h13 : A ((σ.2.2 a0 1).getD 0) 10) (h14 : A ((σ.2.2 a0 1).getD 0) 11) (h15 : A ((σ.2.2 a0 1).getD 0) 12) (h16 : A ((σ.2.2 a0 1).getD 0) 13) (h17 : ∀ j, A ((σ.2.2 ((σ.2.2 a0 1).getD 0) 6).getD 0) j) (h18 : ∀ j, A ((σ.2.2 ((σ.2.2 a0 1).getD 0) 7).getD 0) j) (h19 : A (((σ.2.2 a0 1).getD 0)) 8) (h20 : ∀ j, A ((σ.2.2 ((σ.2.2 a0 1).getD 0) 9).getD 0) j) : zFi A σ (F_X3_telling a0 σ0) := by
  unfold F_X3_telling
  refine zFi_let (fun v1 _ => ?_)
  refine zFi_if (fun _ => ?_) (fun _ => ?_)
  · skip
    refine zFi_let (fun s69 es69 => ?_)
    have gs69 : zFi A σ s69 := by rw [es69]; exact fi_X3_mouth g h0 h1 h2 h3 h4 h5 h6 h7 h8 h9 h10 h11
    refine zFi_let (fun v70 _ => ?_)
    refine zFi_let (fun s71 es71 => ?_)
    have gs71 : zFi A σ s71 := by rw [es71]; exact fi_X3_take gs69 h0 h1 h2 h3 h4
    exact gs71
  · skip
    refine zFi_let (fun v3 _ => ?_)
    refine zFi_let (fun v4 _ => ?_)
    refine zFi_if (fun _ => ?_) (fun _ => ?_)
    · skip
      refine zFi_let (fun s66 es66 => ?_)
      have gs66 : zFi A σ s66 := by rw [es66]; exact fi_X3_newPlace g h0 h1 h2 h3 h4 h5 h6 h12 h8 h9 h10 h11
      refine zFi_let (fun v67 _ => ?_)
      refine zFi_let (fun s68 es68 => ?_)
      have gs68 : zFi A σ s68 := by rw [es68]; exact fi_X3_take gs66 h0 h1 h2 h3 h4
      exact gs68
    · skip
      refine zFi_let (fun v6 _ => ?_)
      refine zFi_let (fun v7 _ => ?_)
      refine zFi_let (fun v8 _ => ?_)
      refine zFi_let (fun v9 _ => ?_)
      refine zFi_if (fun _ => ?_) (fun _ => ?_)
      · skip
        refine zFi_let (fun v11 _ => ?_)
        refine zFi_let (fun v12 _ => ?_)
        refine zFi_if (fun _ => ?_) (fun _ => ?_)
        · skip
          refine zFi_let (fun v44 _ => ?_)
          refine zFi_let (fun s45 es45 => ?_)
          have gs45 : zFi A σ s45 := by rw [es45]; exact fi_X3_take g h0 h1 h2 h3 h4
          refine zFi_let (fun v46 ev46 => ?_)
          rw [gs45.rf] at ev46
          subst ev46
          refine zFi_let (fun v47 _ => ?_)
          refine zFi_let (fun v48 _ => ?_)
          refine zFi_let2 (fun v49 s50 es50 => ?_)
          have gs50 : zFi A σ s50 := (fi_X3_number gs45 h5 h6 h0 h1 h2 h3 h4).of es50
          refine zFi_let (fun s51 es51 => ?_)
          have gs51 : zFi A σ s51 := by rw [es51]; exact gs50.w h13
          refine zFi_let (fun v52 ev52 => ?_)
          rw [gs51.rf] at ev52
          subst ev52
          refine zFi_let (fun v53 _ => ?_)
          refine zFi_let (fun v54 _ => ?_)
          refine zFi_let2 (fun v55 s56 es56 => ?_)
          have gs56 : zFi A σ s56 := (fi_X3_number gs51 h5 h6 h0 h1 h2 h3 h4).of es56
          refine zFi_let (fun s57 es57 => ?_)
          have gs57 : zFi A σ s57 := by rw [es57]; exact gs56.w h14
          refine zFi_let (fun v58 _ => ?_)
          refine zFi_let (fun s59 es59 => ?_)
          have gs59 : zFi A σ s59 := by rw [es59]; exact fi_X3_take gs57 h0 h1 h2 h3 h4
          exact gs59
        · skip
          refine zFi_let (fun v14 _ => ?_)
          refine zFi_let (fun v15 _ => ?_)
          refine zFi_if (fun _ => ?_) (fun _ => ?_)
          · skip
            refine zFi_let (fun v34 _ => ?_)
            refine zFi_let (fun s35 es35 => ?_)
            have gs35 : zFi A σ s35 := by rw [es35]; exact fi_X3_take g h0 h1 h2 h3 h4
            refine zFi_let (fun v36 ev36 => ?_)
            rw [gs35.rf] at ev36
            subst ev36
            refine zFi_let (fun v37 _ => ?_)
            refine zFi_let (fun v38 _ => ?_)
            refine zFi_let2 (fun v39 s40 es40 => ?_)
            have gs40 : zFi A σ s40 := (fi_X3_number gs35 h5 h6 h0 h1 h2 h3 h4).of es40
            refine zFi_let (fun s41 es41 => ?_)
            have gs41 : zFi A σ s41 := by rw [es41]; exact gs40.w h15
            refine zFi_let (fun v42 _ => ?_)
            refine zFi_let (fun s43 es43 => ?_)
            have gs43 : zFi A σ s43 := by rw [es43]; exact fi_X3_take gs41 h0 h1 h2 h3 h4
            exact gs43
          · skip
            refine zFi_let (fun v17 _ => ?_)
            refine zFi_let (fun v18 _ => ?_)
            refine zFi_if (fun _ => ?_) (fun _ => ?_)
            · skip
              refine zFi_let (fun v24 _ => ?_)
              refine zFi_let (fun s25 es25 => ?_)
              have gs25 : zFi A σ s25 := by rw [es25]; exact fi_X3_take g h0 h1 h2 h3 h4
              refine zFi_let (fun v26 ev26 => ?_)
              rw [gs25.rf] at ev26
              subst ev26
              refine zFi_let (fun v27 _ => ?_)
              refine zFi_let (fun v28 _ => ?_)
              refine zFi_let2 (fun v29 s30 es30 => ?_)
              have gs30 : zFi A σ s30 := (fi_X3_number gs25 h5 h6 h0 h1 h2 h3 h4).of es30
              refine zFi_let (fun s31 es31 => ?_)
              have gs31 : zFi A σ s31 := by rw [es31]; exact gs30.w h16
              refine zFi_let (fun v32 _ => ?_)
              refine zFi_let (fun s33 es33 => ?_)
              have gs33 : zFi A σ s33 := by rw [es33]; exact fi_X3_take gs31 h0 h1 h2 h3 h4
              exact gs33
            · skip
              refine zFi_let (fun v20 _ => ?_)
              refine zFi_let (fun s21 es21 => ?_)
              have gs21 : zFi A σ s21 := by rw [es21]; exact fi_X3_fail g h3 h4 h1
              refine zFi_let (fun v22 _ => ?_)
              refine zFi_let (fun s23 es23 => ?_)
              have gs23 : zFi A σ s23 := by rw [es23]; exact fi_X3_take gs21 h0 h1 h2 h3 h4
              exact gs23
      · skip
        refine zFi_let (fun v60 _ => ?_)
        refine zFi_let (fun v61 _ => ?_)
        refine zFi_let (fun v62 _ => ?_)
        refine zFi_let (fun s63 es63 => ?_)
        have gs63 : zFi A σ s63 := by rw [es63]; exact fi_X3_law g h0 h1 h2 h3 h4 h17 h18 h19 h20
        refine zFi_let (fun v64 _ => ?_)
        refine zFi_let (fun s65 es65 => ?_)
        have gs65 : zFi A σ s65 := by rw [es65]; exact fi_X3_take gs63 h0 h1 h2 h3 h4
        exact gs65
set_option maxRecDepth 100000 in
theorem fi_X3_parse_59 {A : Nat → Nat → Prop} {σ : zS} {a0 : Nat} {p1 : Nat} {p2 : Int32} {p3 : Nat}  (h0 : A a0 8) (h1 : A a0 9) (h2 : A ((σ.2.2 a0 1).getD 0) 0) (h3 : A a0 2) (h4 : A a0 3) (h5 : A a0 5) (h6 : A a0 10) (h7 : A a0 11) (h8 : A a0 6) (h9 : ∀ j, A ((σ.2.2 ((σ.2.2 a0 1).getD 0) 2).getD 0) j) (h10 : ∀ j, A ((σ.2.2 ((σ.2.2 a0 1).getD 0) 3).getD 0) j) (h11 : ∀ j, A ((σ.2.2 ((σ.2.2 a0 1).getD 0) 4).getD 0) j) (h12 : ∀ j, A ((σ.2.2 ((σ.2.2 a0 1).getD 0) 5).getD 0) j) (h13 : A a0 7) (h14 : A ((σ.2.2 a0 1).getD 0) 10) (h15 : A ((σ.2.2 a0 1).getD 0) 11) (h16 : A ((σ.2.2 a0 1).getD 0) 12) (h17 : A ((σ.2.2 a0 1).getD 0) 13) (h18 : ∀ j, A ((σ.2.2 ((σ.2.2 a0 1).getD 0) 6).getD 0) j) (h19 : ∀ j, A ((σ.2.2 ((σ.2.2 a0 1).getD 0) 7).getD 0) j) (h20 : A (((σ.2.2 a0 1).getD 0)) 8) (h21 : ∀ j, A ((σ.2.2 ((σ.2.2 a0 1).getD 0) 9).getD 0) j) : ∀ (n : Nat) (x25 : Int32) (τ26 : zS), zFi A σ τ26 → zFj A σ (F_X3_parse_59 a0 p1 p2 p3 n x25 τ26) := by
  intro n
  induction n with
  | zero => intro x25 τ26 g; exact g
  | succ n ih =>
    intro x25 τ26 g
    rw [F_X3_parse_59]
    refine zFj_let (fun v27 _ => ?_)
    refine zFj_if (fun _ => ?_) (fun _ => ?_)
    · skip
      refine zFj_let (fun v29 _ => ?_)
      refine zFj_if (fun _ => ?_) (fun _ => ?_)
      · skip
        refine zFj_let (fun v44 _ => ?_)
        refine zFj_let (fun s45 es45 => ?_)
        have gs45 : zFi A σ s45 := by rw [es45]; exact g.w h0
        refine zFj_let (fun v48 _ => ?_)
        refine zFj_let (fun s49 es49 => ?_)
        have gs49 : zFi A σ s49 := by rw [es49]; exact gs45.w h1
        refine zFj_let (fun v51 ev51 => ?_)
        rw [gs49.rf] at ev51
        subst ev51
        refine zFj_let (fun v52 _ => ?_)
        refine zFj_if (fun _ => ?_) (fun _ => ?_)
        · skip
          refine zFj_let (fun v54 _ => ?_)
          refine zFj_let (fun s55 es55 => ?_)
          have gs55 : zFi A σ s55 := by rw [es55]; exact gs49.w h2
          refine zFj_let (fun v57 _ => ?_)
          exact gs55
        · skip
          refine zFj_let (fun v58 _ => ?_)
          refine zFj_let (fun v59 _ => ?_)
          refine zFj_let (fun v60 _ => ?_)
          refine zFj_let (fun s61 es61 => ?_)
          have gs61 : zFi A σ s61 := by rw [es61]; exact gs49.w h2
          refine zFj_let (fun v63 _ => ?_)
          exact gs61
      · skip
        refine zFj_let (fun v31 ev31 => ?_)
        rw [g.rf] at ev31
        subst ev31
        refine zFj_let (fun v32 _ => ?_)
        refine zFj_if (fun _ => ?_) (fun _ => ?_)
        · skip
          refine zFj_let (fun v34 _ => ?_)
          refine zFj_let (fun s35 es35 => ?_)
          have gs35 : zFi A σ s35 := by rw [es35]; exact g.w h2
          refine zFj_let (fun v37 _ => ?_)
          exact gs35
        · skip
          refine zFj_let (fun v38 _ => ?_)
          refine zFj_let (fun v39 _ => ?_)
          refine zFj_let (fun v40 _ => ?_)
          refine zFj_let (fun s41 es41 => ?_)
          have gs41 : zFi A σ s41 := by rw [es41]; exact g.w h2
          refine zFj_let (fun v43 _ => ?_)
          exact gs41
    · skip
      refine zFj_let (fun v64 _ => ?_)
      refine zFj_if (fun _ => ?_) (fun _ => ?_)
      · skip
        refine zFj_let (fun v101 _ => ?_)
        refine zFj_let (fun v102 _ => ?_)
        refine zFj_if (fun _ => ?_) (fun _ => ?_)
        · skip
          refine zFj_let (fun v104 _ => ?_)
          refine zFj_if (fun _ => ?_) (fun _ => ?_)
          · skip
            refine zFj_let (fun v106 _ => ?_)
            refine zFj_let (fun s107 es107 => ?_)
            have gs107 : zFi A σ s107 := by rw [es107]; exact g.w h0
            refine zFj_let (fun v110 _ => ?_)
            refine zFj_let (fun s111 es111 => ?_)
            have gs111 : zFi A σ s111 := by rw [es111]; exact gs107.w h1
            refine zFj_let (fun v113 ev113 => ?_)
            rw [gs111.rf] at ev113
            subst ev113
            refine zFj_let (fun v114 _ => ?_)
            refine zFj_if (fun _ => ?_) (fun _ => ?_)
            · skip
              refine zFj_let (fun v116 _ => ?_)
              refine zFj_let (fun s117 es117 => ?_)
              have gs117 : zFi A σ s117 := by rw [es117]; exact gs111.w h2
              refine zFj_let (fun v119 _ => ?_)
              exact gs117
            · skip
              refine zFj_let (fun v120 _ => ?_)
              refine zFj_let (fun v121 _ => ?_)
              refine zFj_let (fun v122 _ => ?_)
              refine zFj_let (fun s123 es123 => ?_)
              have gs123 : zFi A σ s123 := by rw [es123]; exact gs111.w h2
              refine zFj_let (fun v125 _ => ?_)
              exact gs123
          · skip
            exact g
        · skip
          refine zFj_let (fun s126 es126 => ?_)
          have gs126 : zFi A σ s126 := by rw [es126]; exact fi_X3_telling g h3 h4 h5 h0 h1 h6 h7 h8 h9 h10 h11 h12 h13 h14 h15 h16 h17 h18 h19 h20 h21
          refine zFj_let (fun v127 _ => ?_)
          exact ih _ _ gs126
      · skip
        refine zFj_let (fun v66 _ => ?_)
        refine zFj_if (fun _ => ?_) (fun _ => ?_)
        · skip
          refine zFj_let (fun v81 _ => ?_)
          refine zFj_let (fun s82 es82 => ?_)
          have gs82 : zFi A σ s82 := by rw [es82]; exact g.w h0
          refine zFj_let (fun v85 _ => ?_)
          refine zFj_let (fun s86 es86 => ?_)
          have gs86 : zFi A σ s86 := by rw [es86]; exact gs82.w h1
          refine zFj_let (fun v88 ev88 => ?_)
          rw [gs86.rf] at ev88
          subst ev88
          refine zFj_let (fun v89 _ => ?_)
          refine zFj_if (fun _ => ?_) (fun _ => ?_)
          · skip
            refine zFj_let (fun v91 _ => ?_)
            refine zFj_let (fun s92 es92 => ?_)
            have gs92 : zFi A σ s92 := by rw [es92]; exact gs86.w h2
            refine zFj_let (fun v94 _ => ?_)
            exact gs92
          · skip
            refine zFj_let (fun v95 _ => ?_)
            refine zFj_let (fun v96 _ => ?_)
            refine zFj_let (fun v97 _ => ?_)
            refine zFj_let (fun s98 es98 => ?_)
            have gs98 : zFi A σ s98 := by rw [es98]; exact gs86.w h2
            refine zFj_let (fun v100 _ => ?_)
            exact gs98
        · skip
          refine zFj_let (fun v68 ev68 => ?_)
          rw [g.rf] at ev68
          subst ev68
          refine zFj_let (fun v69 _ => ?_)
          refine zFj_if (fun _ => ?_) (fun _ => ?_)
          · skip
            refine zFj_let (fun v71 _ => ?_)
            refine zFj_let (fun s72 es72 => ?_)
            have gs72 : zFi A σ s72 := by rw [es72]; exact g.w h2
            refine zFj_let (fun v74 _ => ?_)
            exact gs72
          · skip
            refine zFj_let (fun v75 _ => ?_)
            refine zFj_let (fun v76 _ => ?_)
            refine zFj_let (fun v77 _ => ?_)
            refine zFj_let (fun s78 es78 => ?_)
            have gs78 : zFi A σ s78 := by rw [es78]; exact g.w h2
            refine zFj_let (fun v80 _ => ?_)
            exact gs78
set_option maxRecDepth 100000 in
theorem fi_X8_pastBlanks_2 {A : Nat → Nat → Prop} {σ : zS} {p1 : Nat} {p2 : Int32} {p3 : Int32}   : ∀ (n : Nat) (x1 : Int32) (τ2 : zS), zFi A σ τ2 → zFj A σ (F_X8_pastBlanks_2 p1 p2 p3 n x1 τ2) := by
  intro n
  induction n with
  | zero => intro x1 τ2 g; exact g
  | succ n ih =>
    intro x1 τ2 g
    rw [F_X8_pastBlanks_2]
    refine zFj_if (fun _ => ?_) (fun _ => ?_)
    · skip
      refine zFj_let (fun v5 _ => ?_)
      refine zFj_let (fun v6 _ => ?_)
      refine zFj_if (fun _ => ?_) (fun _ => ?_)
      · skip
        refine zFj_let (fun v8 _ => ?_)
        exact ih _ _ g
      · skip
        refine zFj_let (fun v9 _ => ?_)
        refine zFj_let (fun v10 _ => ?_)
        refine zFj_if (fun _ => ?_) (fun _ => ?_)
        · skip
          refine zFj_let (fun v12 _ => ?_)
          exact ih _ _ g
        · skip
          refine zFj_let (fun v13 _ => ?_)
          refine zFj_let (fun v14 _ => ?_)
          refine zFj_if (fun _ => ?_) (fun _ => ?_)
          · skip
            refine zFj_let (fun v16 _ => ?_)
            exact ih _ _ g
          · skip
            refine zFj_let (fun v17 _ => ?_)
            refine zFj_let (fun v18 _ => ?_)
            refine zFj_if (fun _ => ?_) (fun _ => ?_)
            · skip
              refine zFj_let (fun v20 _ => ?_)
              exact ih _ _ g
            · skip
              exact g
    · skip
      exact g
set_option maxRecDepth 100000 in
theorem fi_X8_pastBlanks {A : Nat → Nat → Prop} {σ σ0 : zS} {p1 : Nat} {p2 : Int32} {p3 : Int32}  (g : zFi A σ σ0)  : zFj A σ (F_X8_pastBlanks p1 p2 p3 σ0) := by
  unfold F_X8_pastBlanks
  exact fi_X8_pastBlanks_2   _ _ _ g
set_option maxRecDepth 100000 in
theorem fi_X8_add {A : Nat → Nat → Prop} {σ σ0 : zS} {a0 : Nat} {p1 : Int32} {p2 : Int64} {p3 : Int32}  (g : zFi A σ σ0) (h0 : ∀ j, A ((σ.2.2 a0 1).getD 0) j) (h1 : ∀ j, A ((σ.2.2 a0 3).getD 0) j) (h2 : A a0 4) : zFi A σ (F_X8_add a0 p1 p2 p3 σ0) := by
  unfold F_X8_add
  refine zFi_let (fun v1 _ => ?_)
  refine zFi_let (fun v2 ev2 => ?_)
  rw [g.rf] at ev2
  subst ev2
  refine zFi_let (fun v3 _ => ?_)
  refine zFi_if (fun _ => ?_) (fun _ => ?_)
  · skip
    refine zFi_let (fun v5 ev5 => ?_)
    rw [g.rf] at ev5
    subst ev5
    refine zFi_let (fun v6 _ => ?_)
    refine zFi_let (fun s7 es7 => ?_)
    have gs7 : zFi A σ s7 := by rw [es7]; exact g.w (h0 _)
    refine zFi_let (fun v9 ev9 => ?_)
    rw [gs7.rf] at ev9
    subst ev9
    refine zFi_let (fun v10 _ => ?_)
    refine zFi_let (fun s11 es11 => ?_)
    have gs11 : zFi A σ s11 := by rw [es11]; exact gs7
    refine zFi_let (fun v13 ev13 => ?_)
    rw [gs11.rf] at ev13
    subst ev13
    refine zFi_let (fun v14 _ => ?_)
    refine zFi_let (fun s15 es15 => ?_)
    have gs15 : zFi A σ s15 := by rw [es15]; exact gs11.w (h1 _)
    refine zFi_let (fun v17 _ => ?_)
    refine zFi_let (fun v18 _ => ?_)
    refine zFi_let (fun v19 _ => ?_)
    refine zFi_let (fun s20 es20 => ?_)
    have gs20 : zFi A σ s20 := by rw [es20]; exact gs15.w h2
    exact gs20
  · skip
    exact g
set_option maxRecDepth 100000 in
theorem fi_X8_addDigits_6 {A : Nat → Nat → Prop} {σ : zS} {a0 : Nat} {p1 : Nat} {p2 : Int32} {p3 : Int32}  (h0 : ∀ j, A ((σ.2.2 a0 1).getD 0) j) (h1 : ∀ j, A ((σ.2.2 a0 3).getD 0) j) (h2 : A a0 4) : ∀ (n : Nat) (x2 : Int32) (x3 : Int32) (τ4 : zS), zFi A σ τ4 → zFj A σ (F_X8_addDigits_6 a0 p1 p2 p3 n x2 x3 τ4) := by
  intro n
  induction n with
  | zero => intro x2 x3 τ4 g; exact g
  | succ n ih =>
    intro x2 x3 τ4 g
    rw [F_X8_addDigits_6]
    refine zFj_if (fun _ => ?_) (fun _ => ?_)
    · skip
      refine zFj_let (fun v16 _ => ?_)
      refine zFj_let (fun v17 _ => ?_)
      refine zFj_if (fun _ => ?_) (fun _ => ?_)
      · skip
        refine zFj_let (fun v19 _ => ?_)
        refine zFj_let (fun v20 _ => ?_)
        refine zFj_if (fun _ => ?_) (fun _ => ?_)
        · skip
          refine zFj_let (fun v25 _ => ?_)
          refine zFj_let (fun v26 _ => ?_)
          refine zFj_let (fun s27 es27 => ?_)
          have gs27 : zFi A σ s27 := by rw [es27]; exact fi_X8_add g h0 h1 h2
          exact gs27
        · skip
          refine zFj_let (fun v22 _ => ?_)
          refine zFj_let (fun v23 _ => ?_)
          refine zFj_let (fun s24 es24 => ?_)
          have gs24 : zFi A σ s24 := by rw [es24]; exact fi_X8_add g h0 h1 h2
          exact gs24
      · skip
        refine zFj_let (fun v28 _ => ?_)
        refine zFj_let (fun v29 _ => ?_)
        refine zFj_if (fun _ => ?_) (fun _ => ?_)
        · skip
          refine zFj_let (fun v33 _ => ?_)
          refine zFj_let (fun v34 _ => ?_)
          refine zFj_let (fun v35 _ => ?_)
          refine zFj_let (fun v36 _ => ?_)
          refine zFj_let (fun v37 _ => ?_)
          refine zFj_let (fun v38 _ => ?_)
          refine zFj_let (fun v39 _ => ?_)
          exact ih _ _ _ g
        · skip
          refine zFj_let (fun v31 _ => ?_)
          refine zFj_let (fun v32 _ => ?_)
          exact ih _ _ _ g
    · skip
      refine zFj_let (fun v7 _ => ?_)
      refine zFj_let (fun v8 _ => ?_)
      refine zFj_if (fun _ => ?_) (fun _ => ?_)
      · skip
        refine zFj_let (fun v13 _ => ?_)
        refine zFj_let (fun v14 _ => ?_)
        refine zFj_let (fun s15 es15 => ?_)
        have gs15 : zFi A σ s15 := by rw [es15]; exact fi_X8_add g h0 h1 h2
        exact gs15
      · skip
        refine zFj_let (fun v10 _ => ?_)
        refine zFj_let (fun v11 _ => ?_)
        refine zFj_let (fun s12 es12 => ?_)
        have gs12 : zFi A σ s12 := by rw [es12]; exact fi_X8_add g h0 h1 h2
        exact gs12
set_option maxRecDepth 100000 in
theorem fi_X8_addDigits {A : Nat → Nat → Prop} {σ σ0 : zS} {a0 : Nat} {p1 : Nat} {p2 : Int32} {p3 : Int32}  (g : zFi A σ σ0) (h0 : ∀ j, A ((σ.2.2 a0 1).getD 0) j) (h1 : ∀ j, A ((σ.2.2 a0 3).getD 0) j) (h2 : A a0 4) : zFj A σ (F_X8_addDigits a0 p1 p2 p3 σ0) := by
  unfold F_X8_addDigits
  refine zFj_let (fun v1 _ => ?_)
  exact fi_X8_addDigits_6  h0 h1 h2 _ _ _ _ g
set_option maxRecDepth 100000 in
theorem fi_X8_kindOf_6 {A : Nat → Nat → Prop} {σ : zS} {a0 : Nat} {p1 : Int64}   : ∀ (n : Nat) (x3 : Int32) (x4 : Int32) (τ5 : zS), zFi A σ τ5 → zFj A σ (F_X8_kindOf_6 a0 p1 n x3 x4 τ5) := by
  intro n
  induction n with
  | zero => intro x3 x4 τ5 g; exact g
  | succ n ih =>
    intro x3 x4 τ5 g
    rw [F_X8_kindOf_6]
    refine zFj_let (fun v6 _ => ?_)
    refine zFj_if (fun _ => ?_) (fun _ => ?_)
    · skip
      refine zFj_let (fun v8 ev8 => ?_)
      rw [g.rf] at ev8
      subst ev8
      refine zFj_let (fun v9 _ => ?_)
      refine zFj_let (fun v10 _ => ?_)
      refine zFj_if (fun _ => ?_) (fun _ => ?_)
      · skip
        refine zFj_let (fun v13 _ => ?_)
        exact ih _ _ _ g
      · skip
        refine zFj_let (fun v12 _ => ?_)
        exact ih _ _ _ g
    · skip
      exact g
set_option maxRecDepth 100000 in
theorem fi_X8_kindOf {A : Nat → Nat → Prop} {σ σ0 : zS} {a0 : Nat} {p1 : Int64}  (g : zFi A σ σ0)  : zFj A σ (F_X8_kindOf a0 p1 σ0) := by
  unfold F_X8_kindOf
  refine zFj_let (fun v1 _ => ?_)
  refine zFj_let (fun v2 _ => ?_)
  exact fi_X8_kindOf_6   _ _ _ _ g
set_option maxRecDepth 100000 in
theorem fi_X8_addLetters_6 {A : Nat → Nat → Prop} {σ : zS} {a0 : Nat} {p1 : Nat} {p2 : Int32} {p3 : Int32}  (h0 : ∀ j, A ((σ.2.2 a0 1).getD 0) j) (h1 : ∀ j, A ((σ.2.2 a0 3).getD 0) j) (h2 : A a0 4) : ∀ (n : Nat) (x2 : Int32) (x3 : Int64) (τ4 : zS), zFi A σ τ4 → zFj A σ (F_X8_addLetters_6 a0 p1 p2 p3 n x2 x3 τ4) := by
  intro n
  induction n with
  | zero => intro x2 x3 τ4 g; exact g
  | succ n ih =>
    intro x2 x3 τ4 g
    rw [F_X8_addLetters_6]
    refine zFj_if (fun _ => ?_) (fun _ => ?_)
    · skip
      refine zFj_let (fun v15 _ => ?_)
      refine zFj_let (fun v16 _ => ?_)
      refine zFj_if (fun _ => ?_) (fun _ => ?_)
      · skip
        refine zFj_let (fun v18 _ => ?_)
        refine zFj_let (fun v19 _ => ?_)
        refine zFj_if (fun _ => ?_) (fun _ => ?_)
        · skip
          refine zFj_let (fun v24 _ => ?_)
          refine zFj_let (fun s25 es25 => ?_)
          have gs25 : zFi A σ s25 := by rw [es25]; exact fi_X8_add g h0 h1 h2
          exact gs25
        · skip
          refine zFj_let2 (fun v21 s22 es22 => ?_)
          have gs22 : zFi A σ s22 := (fi_X8_kindOf g ).of es22
          refine zFj_let (fun s23 es23 => ?_)
          have gs23 : zFi A σ s23 := by rw [es23]; exact fi_X8_add gs22 h0 h1 h2
          exact gs23
      · skip
        refine zFj_let (fun v26 _ => ?_)
        refine zFj_let (fun v27 _ => ?_)
        refine zFj_if (fun _ => ?_) (fun _ => ?_)
        · skip
          refine zFj_let (fun v31 _ => ?_)
          refine zFj_let (fun v32 _ => ?_)
          refine zFj_let (fun v33 _ => ?_)
          exact ih _ _ _ g
        · skip
          refine zFj_let (fun v29 _ => ?_)
          refine zFj_let (fun v30 _ => ?_)
          exact ih _ _ _ g
    · skip
      refine zFj_let (fun v7 _ => ?_)
      refine zFj_let (fun v8 _ => ?_)
      refine zFj_if (fun _ => ?_) (fun _ => ?_)
      · skip
        refine zFj_let (fun v13 _ => ?_)
        refine zFj_let (fun s14 es14 => ?_)
        have gs14 : zFi A σ s14 := by rw [es14]; exact fi_X8_add g h0 h1 h2
        exact gs14
      · skip
        refine zFj_let2 (fun v10 s11 es11 => ?_)
        have gs11 : zFi A σ s11 := (fi_X8_kindOf g ).of es11
        refine zFj_let (fun s12 es12 => ?_)
        have gs12 : zFi A σ s12 := by rw [es12]; exact fi_X8_add gs11 h0 h1 h2
        exact gs12
set_option maxRecDepth 100000 in
theorem fi_X8_addLetters {A : Nat → Nat → Prop} {σ σ0 : zS} {a0 : Nat} {p1 : Nat} {p2 : Int32} {p3 : Int32}  (g : zFi A σ σ0) (h0 : ∀ j, A ((σ.2.2 a0 1).getD 0) j) (h1 : ∀ j, A ((σ.2.2 a0 3).getD 0) j) (h2 : A a0 4) : zFj A σ (F_X8_addLetters a0 p1 p2 p3 σ0) := by
  unfold F_X8_addLetters
  refine zFj_let (fun v1 _ => ?_)
  exact fi_X8_addLetters_6  h0 h1 h2 _ _ _ _ g
set_option maxRecDepth 100000 in
theorem fi_X8_scan_13 {A : Nat → Nat → Prop} {σ : zS} {a0 : Nat} {p1 : Nat} {p2 : Int32}  (h0 : ∀ j, A ((σ.2.2 a0 1).getD 0) j) (h1 : ∀ j, A ((σ.2.2 a0 3).getD 0) j) (h2 : A a0 4) : ∀ (n : Nat) (x7 : Int32) (x8 : Int32) (x9 : Int32) (τ10 : zS), zFi A σ τ10 → zFi A σ (F_X8_scan_13 a0 p1 p2 n x7 x8 x9 τ10) := by
  intro n
  induction n with
  | zero => intro x7 x8 x9 τ10 g; exact g
  | succ n ih =>
    intro x7 x8 x9 τ10 g
    rw [F_X8_scan_13]
    refine zFi_let (fun v11 _ => ?_)
    refine zFi_if (fun _ => ?_) (fun _ => ?_)
    · skip
      exact g
    · skip
      refine zFi_if (fun _ => ?_) (fun _ => ?_)
      · skip
        exact g
      · skip
        refine zFi_let2 (fun v14 s15 es15 => ?_)
        have gs15 : zFi A σ s15 := (fi_X8_pastBlanks g ).of es15
        refine zFi_if (fun _ => ?_) (fun _ => ?_)
        · skip
          refine zFi_let (fun v103 _ => ?_)
          refine zFi_if (fun _ => ?_) (fun _ => ?_)
          · skip
            refine zFi_let (fun v105 _ => ?_)
            refine zFi_if (fun _ => ?_) (fun _ => ?_)
            · skip
              refine zFi_let (fun v107 _ => ?_)
              refine zFi_if (fun _ => ?_) (fun _ => ?_)
              · skip
                refine zFi_if (fun _ => ?_) (fun _ => ?_)
                · skip
                  refine zFi_let (fun v132 _ => ?_)
                  refine zFi_let (fun v133 _ => ?_)
                  refine zFi_if (fun _ => ?_) (fun _ => ?_)
                  · skip
                    refine zFi_let (fun v156 _ => ?_)
                    refine zFi_let (fun v157 _ => ?_)
                    refine zFi_let (fun s158 es158 => ?_)
                    have gs158 : zFi A σ s158 := by rw [es158]; exact fi_X8_add gs15 h0 h1 h2
                    refine zFi_let (fun v159 _ => ?_)
                    refine zFi_let (fun v160 _ => ?_)
                    refine zFi_if (fun _ => ?_) (fun _ => ?_)
                    · skip
                      refine zFi_let (fun v164 ev164 => ?_)
                      rw [gs158.rf] at ev164
                      subst ev164
                      refine zFi_let (fun v165 _ => ?_)
                      refine zFi_let (fun v166 _ => ?_)
                      refine zFi_let (fun v167 _ => ?_)
                      refine zFi_let (fun v168 _ => ?_)
                      refine zFi_let (fun v169 _ => ?_)
                      refine zFi_if (fun _ => ?_) (fun _ => ?_)
                      · skip
                        refine zFi_let (fun v174 _ => ?_)
                        refine zFi_let (fun v175 _ => ?_)
                        exact ih _ _ _ _ gs158
                      · skip
                        refine zFi_let (fun v172 _ => ?_)
                        refine zFi_let (fun v173 _ => ?_)
                        exact ih _ _ _ _ gs158
                    · skip
                      refine zFi_let (fun v162 _ => ?_)
                      refine zFi_let (fun v163 _ => ?_)
                      exact ih _ _ _ _ gs158
                  · skip
                    refine zFi_let (fun v135 _ => ?_)
                    refine zFi_let (fun v136 _ => ?_)
                    refine zFi_let (fun v137 _ => ?_)
                    refine zFi_let (fun s138 es138 => ?_)
                    have gs138 : zFi A σ s138 := by rw [es138]; exact fi_X8_add gs15 h0 h1 h2
                    refine zFi_let (fun v139 _ => ?_)
                    refine zFi_let (fun v140 _ => ?_)
                    refine zFi_if (fun _ => ?_) (fun _ => ?_)
                    · skip
                      refine zFi_let (fun v144 ev144 => ?_)
                      rw [gs138.rf] at ev144
                      subst ev144
                      refine zFi_let (fun v145 _ => ?_)
                      refine zFi_let (fun v146 _ => ?_)
                      refine zFi_let (fun v147 _ => ?_)
                      refine zFi_let (fun v148 _ => ?_)
                      refine zFi_let (fun v149 _ => ?_)
                      refine zFi_if (fun _ => ?_) (fun _ => ?_)
                      · skip
                        refine zFi_let (fun v154 _ => ?_)
                        refine zFi_let (fun v155 _ => ?_)
                        exact ih _ _ _ _ gs138
                      · skip
                        refine zFi_let (fun v152 _ => ?_)
                        refine zFi_let (fun v153 _ => ?_)
                        exact ih _ _ _ _ gs138
                    · skip
                      refine zFi_let (fun v142 _ => ?_)
                      refine zFi_let (fun v143 _ => ?_)
                      exact ih _ _ _ _ gs138
                · skip
                  refine zFi_let (fun v110 _ => ?_)
                  refine zFi_if (fun _ => ?_) (fun _ => ?_)
                  · skip
                    refine zFi_let (fun v112 _ => ?_)
                    refine zFi_let (fun v113 _ => ?_)
                    refine zFi_let (fun s114 es114 => ?_)
                    have gs114 : zFi A σ s114 := by rw [es114]; exact fi_X8_add gs15 h0 h1 h2
                    refine zFi_let (fun v115 _ => ?_)
                    refine zFi_let (fun v116 _ => ?_)
                    refine zFi_if (fun _ => ?_) (fun _ => ?_)
                    · skip
                      refine zFi_let (fun v120 ev120 => ?_)
                      rw [gs114.rf] at ev120
                      subst ev120
                      refine zFi_let (fun v121 _ => ?_)
                      refine zFi_let (fun v122 _ => ?_)
                      refine zFi_let (fun v123 _ => ?_)
                      refine zFi_let (fun v124 _ => ?_)
                      refine zFi_let (fun v125 _ => ?_)
                      refine zFi_if (fun _ => ?_) (fun _ => ?_)
                      · skip
                        refine zFi_let (fun v130 _ => ?_)
                        refine zFi_let (fun v131 _ => ?_)
                        exact ih _ _ _ _ gs114
                      · skip
                        refine zFi_let (fun v128 _ => ?_)
                        refine zFi_let (fun v129 _ => ?_)
                        exact ih _ _ _ _ gs114
                    · skip
                      refine zFi_let (fun v118 _ => ?_)
                      refine zFi_let (fun v119 _ => ?_)
                      exact ih _ _ _ _ gs114
                  · skip
                    exact gs15
              · skip
                refine zFi_let2 (fun v176 s177 es177 => ?_)
                have gs177 : zFi A σ s177 := (fi_X8_addDigits gs15 h0 h1 h2).of es177
                refine zFi_let (fun v178 _ => ?_)
                refine zFi_if (fun _ => ?_) (fun _ => ?_)
                · skip
                  refine zFi_let (fun v182 ev182 => ?_)
                  rw [gs177.rf] at ev182
                  subst ev182
                  refine zFi_let (fun v183 _ => ?_)
                  refine zFi_let (fun v184 _ => ?_)
                  refine zFi_let (fun v185 _ => ?_)
                  refine zFi_let (fun v186 _ => ?_)
                  refine zFi_let (fun v187 _ => ?_)
                  refine zFi_if (fun _ => ?_) (fun _ => ?_)
                  · skip
                    refine zFi_let (fun v192 _ => ?_)
                    refine zFi_let (fun v193 _ => ?_)
                    exact ih _ _ _ _ gs177
                  · skip
                    refine zFi_let (fun v190 _ => ?_)
                    refine zFi_let (fun v191 _ => ?_)
                    exact ih _ _ _ _ gs177
                · skip
                  refine zFi_let (fun v180 _ => ?_)
                  refine zFi_let (fun v181 _ => ?_)
                  exact ih _ _ _ _ gs177
            · skip
              refine zFi_let2 (fun v194 s195 es195 => ?_)
              have gs195 : zFi A σ s195 := (fi_X8_addLetters gs15 h0 h1 h2).of es195
              refine zFi_let (fun v196 _ => ?_)
              refine zFi_if (fun _ => ?_) (fun _ => ?_)
              · skip
                refine zFi_let (fun v200 ev200 => ?_)
                rw [gs195.rf] at ev200
                subst ev200
                refine zFi_let (fun v201 _ => ?_)
                refine zFi_let (fun v202 _ => ?_)
                refine zFi_let (fun v203 _ => ?_)
                refine zFi_let (fun v204 _ => ?_)
                refine zFi_let (fun v205 _ => ?_)
                refine zFi_if (fun _ => ?_) (fun _ => ?_)
                · skip
                  refine zFi_let (fun v210 _ => ?_)
                  refine zFi_let (fun v211 _ => ?_)
                  exact ih _ _ _ _ gs195
                · skip
                  refine zFi_let (fun v208 _ => ?_)
                  refine zFi_let (fun v209 _ => ?_)
                  exact ih _ _ _ _ gs195
              · skip
                refine zFi_let (fun v198 _ => ?_)
                refine zFi_let (fun v199 _ => ?_)
                exact ih _ _ _ _ gs195
          · skip
            refine zFi_let (fun v212 _ => ?_)
            refine zFi_let (fun v213 _ => ?_)
            refine zFi_let (fun s214 es214 => ?_)
            have gs214 : zFi A σ s214 := by rw [es214]; exact fi_X8_add gs15 h0 h1 h2
            refine zFi_let (fun v215 _ => ?_)
            refine zFi_if (fun _ => ?_) (fun _ => ?_)
            · skip
              refine zFi_let (fun v219 ev219 => ?_)
              rw [gs214.rf] at ev219
              subst ev219
              refine zFi_let (fun v220 _ => ?_)
              refine zFi_let (fun v221 _ => ?_)
              refine zFi_let (fun v222 _ => ?_)
              refine zFi_let (fun v223 _ => ?_)
              refine zFi_let (fun v224 _ => ?_)
              refine zFi_if (fun _ => ?_) (fun _ => ?_)
              · skip
                refine zFi_let (fun v229 _ => ?_)
                refine zFi_let (fun v230 _ => ?_)
                exact ih _ _ _ _ gs214
              · skip
                refine zFi_let (fun v227 _ => ?_)
                refine zFi_let (fun v228 _ => ?_)
                exact ih _ _ _ _ gs214
            · skip
              refine zFi_let (fun v217 _ => ?_)
              refine zFi_let (fun v218 _ => ?_)
              exact ih _ _ _ _ gs214
        · skip
          refine zFi_let (fun v18 _ => ?_)
          refine zFi_if (fun _ => ?_) (fun _ => ?_)
          · skip
            refine zFi_let (fun v21 _ => ?_)
            refine zFi_if (fun _ => ?_) (fun _ => ?_)
            · skip
              refine zFi_let (fun v23 _ => ?_)
              refine zFi_if (fun _ => ?_) (fun _ => ?_)
              · skip
                refine zFi_if (fun _ => ?_) (fun _ => ?_)
                · skip
                  exact gs15
                · skip
                  refine zFi_let (fun v26 _ => ?_)
                  refine zFi_if (fun _ => ?_) (fun _ => ?_)
                  · skip
                    refine zFi_let (fun v28 _ => ?_)
                    refine zFi_let (fun v29 _ => ?_)
                    refine zFi_let (fun s30 es30 => ?_)
                    have gs30 : zFi A σ s30 := by rw [es30]; exact fi_X8_add gs15 h0 h1 h2
                    refine zFi_let (fun v31 _ => ?_)
                    refine zFi_let (fun v32 _ => ?_)
                    refine zFi_if (fun _ => ?_) (fun _ => ?_)
                    · skip
                      refine zFi_let (fun v36 ev36 => ?_)
                      rw [gs30.rf] at ev36
                      subst ev36
                      refine zFi_let (fun v37 _ => ?_)
                      refine zFi_let (fun v38 _ => ?_)
                      refine zFi_let (fun v39 _ => ?_)
                      refine zFi_let (fun v40 _ => ?_)
                      refine zFi_let (fun v41 _ => ?_)
                      refine zFi_if (fun _ => ?_) (fun _ => ?_)
                      · skip
                        refine zFi_let (fun v46 _ => ?_)
                        refine zFi_let (fun v47 _ => ?_)
                        exact ih _ _ _ _ gs30
                      · skip
                        refine zFi_let (fun v44 _ => ?_)
                        refine zFi_let (fun v45 _ => ?_)
                        exact ih _ _ _ _ gs30
                    · skip
                      refine zFi_let (fun v34 _ => ?_)
                      refine zFi_let (fun v35 _ => ?_)
                      exact ih _ _ _ _ gs30
                  · skip
                    exact gs15
              · skip
                refine zFi_let2 (fun v48 s49 es49 => ?_)
                have gs49 : zFi A σ s49 := (fi_X8_addDigits gs15 h0 h1 h2).of es49
                refine zFi_let (fun v50 _ => ?_)
                refine zFi_if (fun _ => ?_) (fun _ => ?_)
                · skip
                  refine zFi_let (fun v54 ev54 => ?_)
                  rw [gs49.rf] at ev54
                  subst ev54
                  refine zFi_let (fun v55 _ => ?_)
                  refine zFi_let (fun v56 _ => ?_)
                  refine zFi_let (fun v57 _ => ?_)
                  refine zFi_let (fun v58 _ => ?_)
                  refine zFi_let (fun v59 _ => ?_)
                  refine zFi_if (fun _ => ?_) (fun _ => ?_)
                  · skip
                    refine zFi_let (fun v64 _ => ?_)
                    refine zFi_let (fun v65 _ => ?_)
                    exact ih _ _ _ _ gs49
                  · skip
                    refine zFi_let (fun v62 _ => ?_)
                    refine zFi_let (fun v63 _ => ?_)
                    exact ih _ _ _ _ gs49
                · skip
                  refine zFi_let (fun v52 _ => ?_)
                  refine zFi_let (fun v53 _ => ?_)
                  exact ih _ _ _ _ gs49
            · skip
              refine zFi_let2 (fun v66 s67 es67 => ?_)
              have gs67 : zFi A σ s67 := (fi_X8_addLetters gs15 h0 h1 h2).of es67
              refine zFi_let (fun v68 _ => ?_)
              refine zFi_if (fun _ => ?_) (fun _ => ?_)
              · skip
                refine zFi_let (fun v72 ev72 => ?_)
                rw [gs67.rf] at ev72
                subst ev72
                refine zFi_let (fun v73 _ => ?_)
                refine zFi_let (fun v74 _ => ?_)
                refine zFi_let (fun v75 _ => ?_)
                refine zFi_let (fun v76 _ => ?_)
                refine zFi_let (fun v77 _ => ?_)
                refine zFi_if (fun _ => ?_) (fun _ => ?_)
                · skip
                  refine zFi_let (fun v82 _ => ?_)
                  refine zFi_let (fun v83 _ => ?_)
                  exact ih _ _ _ _ gs67
                · skip
                  refine zFi_let (fun v80 _ => ?_)
                  refine zFi_let (fun v81 _ => ?_)
                  exact ih _ _ _ _ gs67
              · skip
                refine zFi_let (fun v70 _ => ?_)
                refine zFi_let (fun v71 _ => ?_)
                exact ih _ _ _ _ gs67
          · skip
            refine zFi_let (fun v84 _ => ?_)
            refine zFi_let (fun v85 _ => ?_)
            refine zFi_let (fun s86 es86 => ?_)
            have gs86 : zFi A σ s86 := by rw [es86]; exact fi_X8_add gs15 h0 h1 h2
            refine zFi_let (fun v87 _ => ?_)
            refine zFi_if (fun _ => ?_) (fun _ => ?_)
            · skip
              refine zFi_let (fun v91 ev91 => ?_)
              rw [gs86.rf] at ev91
              subst ev91
              refine zFi_let (fun v92 _ => ?_)
              refine zFi_let (fun v93 _ => ?_)
              refine zFi_let (fun v94 _ => ?_)
              refine zFi_let (fun v95 _ => ?_)
              refine zFi_let (fun v96 _ => ?_)
              refine zFi_if (fun _ => ?_) (fun _ => ?_)
              · skip
                refine zFi_let (fun v101 _ => ?_)
                refine zFi_let (fun v102 _ => ?_)
                exact ih _ _ _ _ gs86
              · skip
                refine zFi_let (fun v99 _ => ?_)
                refine zFi_let (fun v100 _ => ?_)
                exact ih _ _ _ _ gs86
            · skip
              refine zFi_let (fun v89 _ => ?_)
              refine zFi_let (fun v90 _ => ?_)
              exact ih _ _ _ _ gs86
set_option maxRecDepth 100000 in
theorem fi_X8_scan {A : Nat → Nat → Prop} {σ σ0 : zS} {a0 : Nat} {p1 : Nat} {p2 : Int32}  (g : zFi A σ σ0) (h0 : A a0 4) (h1 : ∀ j, A ((σ.2.2 a0 1).getD 0) j) (h2 : ∀ j, A ((σ.2.2 a0 3).getD 0) j) : zFi A σ (F_X8_scan a0 p1 p2 σ0) := by
  unfold F_X8_scan
  refine zFi_let (fun v1 _ => ?_)
  refine zFi_let (fun s2 es2 => ?_)
  have gs2 : zFi A σ s2 := by rw [es2]; exact g.w h0
  refine zFi_let (fun v4 _ => ?_)
  refine zFi_let (fun v5 _ => ?_)
  refine zFi_let (fun v6 _ => ?_)
  exact fi_X8_scan_13  h1 h2 h0 _ _ _ _ _ gs2
set_option maxRecDepth 100000 in
theorem fi_X9_clear_12 {A : Nat → Nat → Prop} {σ : zS} {a0 : Nat}  (h0 : ∀ j, A ((σ.2.2 a0 9).getD 0) j) (h1 : ∀ j, A ((σ.2.2 a0 6).getD 0) j) (h2 : ∀ j, A ((σ.2.2 a0 7).getD 0) j) (h3 : A a0 8) (h4 : A a0 10) (h5 : A a0 11) (h6 : A a0 12) (h7 : A a0 13) : ∀ (n : Nat) (x6 : Int32) (τ7 : zS), zFi A σ τ7 → zFi A σ (F_X9_clear_12 a0 n x6 τ7) := by
  intro n
  induction n with
  | zero => intro x6 τ7 g; exact g
  | succ n ih =>
    intro x6 τ7 g
    rw [F_X9_clear_12]
    refine zFi_let (fun v8 _ => ?_)
    refine zFi_if (fun _ => ?_) (fun _ => ?_)
    · skip
      refine zFi_let (fun v19 _ => ?_)
      refine zFi_let (fun v20 ev20 => ?_)
      rw [g.rf] at ev20
      subst ev20
      refine zFi_let (fun v21 _ => ?_)
      refine zFi_let (fun s22 es22 => ?_)
      have gs22 : zFi A σ s22 := by rw [es22]; exact g.w (h0 _)
      refine zFi_let (fun v23 _ => ?_)
      refine zFi_if (fun _ => ?_) (fun _ => ?_)
      · skip
        refine zFi_let (fun v39 _ => ?_)
        refine zFi_let (fun v40 _ => ?_)
        refine zFi_if (fun _ => ?_) (fun _ => ?_)
        · skip
          refine zFi_let (fun v42 _ => ?_)
          refine zFi_let (fun s43 es43 => ?_)
          have gs43 : zFi A σ s43 := by rw [es43]; exact fi_X9_addStep gs22 h1 h2 h3
          refine zFi_let (fun v44 _ => ?_)
          refine zFi_let (fun v45 _ => ?_)
          refine zFi_let (fun s46 es46 => ?_)
          have gs46 : zFi A σ s46 := by rw [es46]; exact fi_X9_addStep gs43 h1 h2 h3
          refine zFi_let (fun v47 _ => ?_)
          exact ih _ _ gs46
        · skip
          exact gs22
      · skip
        refine zFi_let (fun v25 _ => ?_)
        refine zFi_let (fun v26 _ => ?_)
        refine zFi_if (fun _ => ?_) (fun _ => ?_)
        · skip
          refine zFi_let (fun v33 _ => ?_)
          refine zFi_let (fun s34 es34 => ?_)
          have gs34 : zFi A σ s34 := by rw [es34]; exact fi_X9_addStep gs22 h1 h2 h3
          refine zFi_let (fun v35 _ => ?_)
          refine zFi_let (fun v36 _ => ?_)
          refine zFi_let (fun s37 es37 => ?_)
          have gs37 : zFi A σ s37 := by rw [es37]; exact fi_X9_addStep gs34 h1 h2 h3
          refine zFi_let (fun v38 _ => ?_)
          exact ih _ _ gs37
        · skip
          refine zFi_let (fun s28 es28 => ?_)
          have gs28 : zFi A σ s28 := by rw [es28]; exact fi_X9_addStep gs22 h1 h2 h3
          refine zFi_let (fun v29 _ => ?_)
          refine zFi_let (fun v30 _ => ?_)
          refine zFi_let (fun s31 es31 => ?_)
          have gs31 : zFi A σ s31 := by rw [es31]; exact fi_X9_addStep gs28 h1 h2 h3
          refine zFi_let (fun v32 _ => ?_)
          exact ih _ _ gs31
    · skip
      refine zFi_let (fun v10 _ => ?_)
      refine zFi_let (fun s11 es11 => ?_)
      have gs11 : zFi A σ s11 := by rw [es11]; exact g.w h4
      refine zFi_let (fun v12 _ => ?_)
      refine zFi_let (fun s13 es13 => ?_)
      have gs13 : zFi A σ s13 := by rw [es13]; exact gs11.w h5
      refine zFi_let (fun v14 _ => ?_)
      refine zFi_let (fun s15 es15 => ?_)
      have gs15 : zFi A σ s15 := by rw [es15]; exact gs13.w h6
      refine zFi_let (fun v16 _ => ?_)
      refine zFi_let (fun s17 es17 => ?_)
      have gs17 : zFi A σ s17 := by rw [es17]; exact gs15.w h7
      exact gs17
set_option maxRecDepth 100000 in
theorem fi_X9_clear {A : Nat → Nat → Prop} {σ σ0 : zS} {a0 : Nat}  (g : zFi A σ σ0) (h0 : A a0 0) (h1 : A a0 8) (h2 : ∀ j, A ((σ.2.2 a0 9).getD 0) j) (h3 : ∀ j, A ((σ.2.2 a0 6).getD 0) j) (h4 : ∀ j, A ((σ.2.2 a0 7).getD 0) j) (h5 : A a0 10) (h6 : A a0 11) (h7 : A a0 12) (h8 : A a0 13) : zFi A σ (F_X9_clear a0 σ0) := by
  unfold F_X9_clear
  refine zFi_let (fun v1 _ => ?_)
  refine zFi_let (fun s2 es2 => ?_)
  have gs2 : zFi A σ s2 := by rw [es2]; exact g.w h0
  refine zFi_let (fun v3 _ => ?_)
  refine zFi_let (fun s4 es4 => ?_)
  have gs4 : zFi A σ s4 := by rw [es4]; exact gs2.w h1
  refine zFi_let (fun v5 _ => ?_)
  exact fi_X9_clear_12  h2 h3 h4 h1 h5 h6 h7 h8 _ _ _ gs4
