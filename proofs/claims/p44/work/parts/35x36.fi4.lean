set_option maxRecDepth 100000 in
theorem fi_X11_tellMouth {A : Nat → Nat → Prop} {σ σ0 : zS} {a0 : Nat}  (g : zFi A σ σ0) (h0 : A a0 13) (h1 : A a0 14) (h2 : A a0 11) (h3 : A a0 15) (h4 : A a0 16) (h5 : A a0 41) (h6 : ∀ j, A ((σ.2.2 a0 22).getD 0) j) (h7 : ∀ j, A ((σ.2.2 a0 23).getD 0) j) (h8 : ∀ j, A ((σ.2.2 a0 24).getD 0) j) (h9 : ∀ j, A ((σ.2.2 a0 25).getD 0) j) (h10 : ∀ j, A ((σ.2.2 a0 21).getD 0) j) : zFi A σ (F_X11_tellMouth a0 σ0) := by
  unfold F_X11_tellMouth
  refine zFi_let2 (fun v2 t1 et1 => ?_)
  have gt1 : zFi A σ t1 := (fi_X11_named g h0 h1 h2 h3 h4).of et1
  refine zFi_let (fun v4 _ => ?_)
  refine zFi_let (fun t5 et5 => ?_)
  have gt5 : zFi A σ t5 := by rw [et5]; exact fi_X11_must gt1 h0 h1 h2
  refine zFi_let (fun v7 _ => ?_)
  refine zFi_if (fun _ => ?_) (fun _ => ?_)
  · skip
    exact gt5
  · skip
    refine zFi_let (fun v9 _ => ?_)
    refine zFi_let (fun s10 es10 => ?_)
    have gs10 : zFi A σ s10 := by rw [es10]; exact gt5.w h5
    refine zFi_let (fun v14 ev14 => ?_)
    rw [gs10.rf] at ev14
    subst ev14
    refine zFi_let (fun v15 _ => ?_)
    refine zFi_let (fun v16 ev16 => ?_)
    rw [gs10.rf] at ev16
    subst ev16
    refine zFi_let (fun v17 _ => ?_)
    refine zFi_let (fun s18 es18 => ?_)
    have gs18 : zFi A σ s18 := by rw [es18]; exact gs10
    refine zFi_let (fun v22 _ => ?_)
    refine zFi_let (fun v23 _ => ?_)
    refine zFi_let (fun v24 _ => ?_)
    refine zFi_let (fun v25 ev25 => ?_)
    rw [gs18.rf] at ev25
    subst ev25
    refine zFi_let (fun v26 _ => ?_)
    refine zFi_let (fun s27 es27 => ?_)
    have gs27 : zFi A σ s27 := by rw [es27]; exact gs18.w (h6 _)
    refine zFi_let (fun v32 ev32 => ?_)
    rw [gs27.rf] at ev32
    subst ev32
    refine zFi_let (fun v33 _ => ?_)
    refine zFi_let (fun s34 es34 => ?_)
    have gs34 : zFi A σ s34 := by rw [es34]; exact gs27.w (h7 _)
    refine zFi_let (fun v39 ev39 => ?_)
    rw [gs34.rf] at ev39
    subst ev39
    refine zFi_let (fun v40 _ => ?_)
    refine zFi_let (fun s41 es41 => ?_)
    have gs41 : zFi A σ s41 := by rw [es41]; exact gs34.w (h8 _)
    refine zFi_let (fun v46 ev46 => ?_)
    rw [gs41.rf] at ev46
    subst ev46
    refine zFi_let (fun v47 _ => ?_)
    refine zFi_let (fun s48 es48 => ?_)
    have gs48 : zFi A σ s48 := by rw [es48]; exact gs41.w (h9 _)
    refine zFi_let (fun v53 ev53 => ?_)
    rw [gs48.rf] at ev53
    subst ev53
    refine zFi_let (fun v54 _ => ?_)
    refine zFi_let (fun v55 _ => ?_)
    refine zFi_let (fun v56 _ => ?_)
    refine zFi_let (fun v57 _ => ?_)
    refine zFi_let (fun s58 es58 => ?_)
    have gs58 : zFi A σ s58 := by rw [es58]; exact gs48.w (h10 _)
    exact gs58
set_option maxRecDepth 100000 in
theorem fi_X11_tellPlace {A : Nat → Nat → Prop} {σ σ0 : zS} {a0 : Nat}  (g : zFi A σ σ0) (h0 : A a0 13) (h1 : A a0 14) (h2 : A a0 11) (h3 : A a0 15) (h4 : A a0 16) (h5 : ∀ j, A ((σ.2.2 a0 22).getD 0) j) (h6 : ∀ j, A ((σ.2.2 a0 23).getD 0) j) (h7 : ∀ j, A ((σ.2.2 a0 24).getD 0) j) (h8 : ∀ j, A ((σ.2.2 a0 25).getD 0) j) (h9 : A a0 42) (h10 : ∀ j, A ((σ.2.2 a0 21).getD 0) j) : zFi A σ (F_X11_tellPlace a0 σ0) := by
  unfold F_X11_tellPlace
  refine zFi_let (fun v1 _ => ?_)
  refine zFi_let (fun v2 _ => ?_)
  refine zFi_let (fun v3 _ => ?_)
  refine zFi_let (fun v4 _ => ?_)
  refine zFi_let (fun v5 _ => ?_)
  refine zFi_let (fun v6 _ => ?_)
  refine zFi_let (fun v7 _ => ?_)
  refine zFi_let2 (fun v9 t8 et8 => ?_)
  have gt8 : zFi A σ t8 := (fi_X11_named g h0 h1 h2 h3 h4).of et8
  refine zFi_let (fun v13 _ => ?_)
  refine zFi_let (fun v14 _ => ?_)
  refine zFi_let (fun t15 et15 => ?_)
  have gt15 : zFi A σ t15 := by rw [et15]; exact fi_X11_must gt8 h0 h1 h2
  refine zFi_let (fun v19 _ => ?_)
  refine zFi_if (fun _ => ?_) (fun _ => ?_)
  · skip
    exact gt15
  · skip
    refine zFi_let (fun v21 ev21 => ?_)
    rw [gt15.rf] at ev21
    subst ev21
    refine zFi_let (fun v23 _ => ?_)
    refine zFi_let (fun s24 es24 => ?_)
    have gs24 : zFi A σ s24 := by rw [es24]; exact gt15.w (h5 _)
    refine zFi_let (fun v29 ev29 => ?_)
    rw [gs24.rf] at ev29
    subst ev29
    refine zFi_let (fun v30 _ => ?_)
    refine zFi_if (fun _ => ?_) (fun _ => ?_)
    · skip
      refine zFi_let (fun v108 _ => ?_)
      refine zFi_let (fun t109 et109 => ?_)
      have gt109 : zFi A σ t109 := by rw [et109]; exact fi_X11_wrong gs24 h3 h4
      refine zFi_let (fun v114 ev114 => ?_)
      rw [gt109.rf] at ev114
      subst ev114
      refine zFi_let (fun v115 _ => ?_)
      refine zFi_let (fun v116 _ => ?_)
      refine zFi_let2 (fun v118 t117 et117 => ?_)
      have gt117 : zFi A σ t117 := (fi_X11_bounded gt109 h0 h1 h3 h4 h2).of et117
      refine zFi_let (fun s123 es123 => ?_)
      have gs123 : zFi A σ s123 := by rw [es123]; exact gt117.w (h6 _)
      refine zFi_let (fun v127 ev127 => ?_)
      rw [gs123.rf] at ev127
      subst ev127
      refine zFi_let (fun v128 _ => ?_)
      refine zFi_let (fun v129 _ => ?_)
      refine zFi_let2 (fun v131 t130 et130 => ?_)
      have gt130 : zFi A σ t130 := (fi_X11_bounded gs123 h0 h1 h3 h4 h2).of et130
      refine zFi_let (fun s136 es136 => ?_)
      have gs136 : zFi A σ s136 := by rw [es136]; exact gt130.w (h7 _)
      refine zFi_let (fun v140 ev140 => ?_)
      rw [gs136.rf] at ev140
      subst ev140
      refine zFi_let (fun v141 _ => ?_)
      refine zFi_let (fun v142 _ => ?_)
      refine zFi_let2 (fun v144 t143 et143 => ?_)
      have gt143 : zFi A σ t143 := (fi_X11_bounded gs136 h0 h1 h3 h4 h2).of et143
      refine zFi_let (fun s149 es149 => ?_)
      have gs149 : zFi A σ s149 := by rw [es149]; exact gt143.w (h8 _)
      refine zFi_let (fun v153 _ => ?_)
      refine zFi_let (fun t154 et154 => ?_)
      have gt154 : zFi A σ t154 := by rw [et154]; exact fi_X11_must gs149 h0 h1 h2
      refine zFi_let (fun v158 _ => ?_)
      refine zFi_if (fun _ => ?_) (fun _ => ?_)
      · skip
        exact gt154
      · skip
        refine zFi_let (fun v160 _ => ?_)
        refine zFi_let (fun v161 _ => ?_)
        refine zFi_let (fun v162 _ => ?_)
        refine zFi_let (fun s163 es163 => ?_)
        have gs163 : zFi A σ s163 := by rw [es163]; exact gt154.w h9
        refine zFi_let (fun v168 ev168 => ?_)
        rw [gs163.rf] at ev168
        subst ev168
        refine zFi_let (fun v169 _ => ?_)
        refine zFi_let (fun v170 ev170 => ?_)
        rw [gs163.rf] at ev170
        subst ev170
        refine zFi_let (fun v171 _ => ?_)
        refine zFi_let (fun s172 es172 => ?_)
        have gs172 : zFi A σ s172 := by rw [es172]; exact gs163
        refine zFi_let (fun v177 _ => ?_)
        refine zFi_if (fun _ => ?_) (fun _ => ?_)
        · skip
          exact gs172
        · skip
          refine zFi_let (fun v179 ev179 => ?_)
          rw [gs172.rf] at ev179
          subst ev179
          refine zFi_let (fun v180 _ => ?_)
          refine zFi_let (fun v181 _ => ?_)
          refine zFi_let (fun v182 _ => ?_)
          refine zFi_let (fun v183 _ => ?_)
          refine zFi_let (fun s184 es184 => ?_)
          have gs184 : zFi A σ s184 := by rw [es184]; exact gs172.w (h10 _)
          exact gs184
    · skip
      refine zFi_let (fun v32 ev32 => ?_)
      rw [gs24.rf] at ev32
      subst ev32
      refine zFi_let (fun v33 _ => ?_)
      refine zFi_let (fun v34 _ => ?_)
      refine zFi_let2 (fun v36 t35 et35 => ?_)
      have gt35 : zFi A σ t35 := (fi_X11_bounded gs24 h0 h1 h3 h4 h2).of et35
      refine zFi_let (fun s41 es41 => ?_)
      have gs41 : zFi A σ s41 := by rw [es41]; exact gt35.w (h6 _)
      refine zFi_let (fun v45 ev45 => ?_)
      rw [gs41.rf] at ev45
      subst ev45
      refine zFi_let (fun v46 _ => ?_)
      refine zFi_let (fun v47 _ => ?_)
      refine zFi_let2 (fun v49 t48 et48 => ?_)
      have gt48 : zFi A σ t48 := (fi_X11_bounded gs41 h0 h1 h3 h4 h2).of et48
      refine zFi_let (fun s54 es54 => ?_)
      have gs54 : zFi A σ s54 := by rw [es54]; exact gt48.w (h7 _)
      refine zFi_let (fun v58 ev58 => ?_)
      rw [gs54.rf] at ev58
      subst ev58
      refine zFi_let (fun v59 _ => ?_)
      refine zFi_let (fun v60 _ => ?_)
      refine zFi_let2 (fun v62 t61 et61 => ?_)
      have gt61 : zFi A σ t61 := (fi_X11_bounded gs54 h0 h1 h3 h4 h2).of et61
      refine zFi_let (fun s67 es67 => ?_)
      have gs67 : zFi A σ s67 := by rw [es67]; exact gt61.w (h8 _)
      refine zFi_let (fun v71 _ => ?_)
      refine zFi_let (fun t72 et72 => ?_)
      have gt72 : zFi A σ t72 := by rw [et72]; exact fi_X11_must gs67 h0 h1 h2
      refine zFi_let (fun v76 _ => ?_)
      refine zFi_if (fun _ => ?_) (fun _ => ?_)
      · skip
        exact gt72
      · skip
        refine zFi_let (fun v78 _ => ?_)
        refine zFi_let (fun v79 _ => ?_)
        refine zFi_let (fun v80 _ => ?_)
        refine zFi_let (fun s81 es81 => ?_)
        have gs81 : zFi A σ s81 := by rw [es81]; exact gt72.w h9
        refine zFi_let (fun v86 ev86 => ?_)
        rw [gs81.rf] at ev86
        subst ev86
        refine zFi_let (fun v87 _ => ?_)
        refine zFi_let (fun v88 ev88 => ?_)
        rw [gs81.rf] at ev88
        subst ev88
        refine zFi_let (fun v89 _ => ?_)
        refine zFi_let (fun s90 es90 => ?_)
        have gs90 : zFi A σ s90 := by rw [es90]; exact gs81
        refine zFi_let (fun v95 _ => ?_)
        refine zFi_if (fun _ => ?_) (fun _ => ?_)
        · skip
          exact gs90
        · skip
          refine zFi_let (fun v97 ev97 => ?_)
          rw [gs90.rf] at ev97
          subst ev97
          refine zFi_let (fun v98 _ => ?_)
          refine zFi_let (fun v99 _ => ?_)
          refine zFi_let (fun v100 _ => ?_)
          refine zFi_let (fun v101 _ => ?_)
          refine zFi_let (fun s102 es102 => ?_)
          have gs102 : zFi A σ s102 := by rw [es102]; exact gs90.w (h10 _)
          exact gs102
set_option maxRecDepth 100000 in
theorem fi_X11_tellOne {A : Nat → Nat → Prop} {σ σ0 : zS} {a0 : Nat}  (g : zFi A σ σ0) (h0 : A a0 13) (h1 : A a0 14) (h2 : A a0 11) (h3 : A a0 15) (h4 : A a0 16) (h5 : A a0 41) (h6 : ∀ j, A ((σ.2.2 a0 22).getD 0) j) (h7 : ∀ j, A ((σ.2.2 a0 23).getD 0) j) (h8 : ∀ j, A ((σ.2.2 a0 24).getD 0) j) (h9 : ∀ j, A ((σ.2.2 a0 25).getD 0) j) (h10 : ∀ j, A ((σ.2.2 a0 21).getD 0) j) (h11 : A a0 42) (h12 : ∀ j, A ((σ.2.2 a0 33).getD 0) j) (h13 : ∀ j, A ((σ.2.2 a0 36).getD 0) j) (h14 : A a0 44) (h15 : ∀ j, A ((σ.2.2 a0 39).getD 0) j) (h16 : ∀ j, A ((σ.2.2 a0 40).getD 0) j) (h17 : A a0 38) (h18 : ∀ j, A ((σ.2.2 a0 43).getD 0) j) (h19 : A a0 12) (h20 : ∀ j, A ((σ.2.2 a0 37).getD 0) j) (h21 : A a0 32) (h22 : ∀ j, A ((σ.2.2 a0 30).getD 0) j) (h23 : ∀ j, A ((σ.2.2 a0 31).getD 0) j) (h24 : ∀ j, A ((σ.2.2 a0 34).getD 0) j) (h25 : ∀ j, A ((σ.2.2 a0 35).getD 0) j) (h26 : ∀ j, A ((σ.2.2 a0 26).getD 0) j) (h27 : ∀ j, A ((σ.2.2 a0 27).getD 0) j) (h28 : ∀ j, A ((σ.2.2 a0 28).getD 0) j) (h29 : ∀ j, A ((σ.2.2 a0 29).getD 0) j) : zFi A σ (F_X11_tellOne a0 σ0) := by
  unfold F_X11_tellOne
  refine zFi_let (fun v1 ev1 => ?_)
  rw [g.rf] at ev1
  subst ev1
  refine zFi_let (fun v2 _ => ?_)
  refine zFi_let (fun v3 _ => ?_)
  refine zFi_if (fun _ => ?_) (fun _ => ?_)
  · skip
    refine zFi_let (fun v5 _ => ?_)
    refine zFi_if (fun _ => ?_) (fun _ => ?_)
    · skip
      refine zFi_let (fun v7 _ => ?_)
      refine zFi_if (fun _ => ?_) (fun _ => ?_)
      · skip
        exact g
      · skip
        refine zFi_let (fun t9 et9 => ?_)
        have gt9 : zFi A σ t9 := by rw [et9]; exact fi_X11_goesOn g h0 h1 h2
        refine zFi_let (fun t12 et12 => ?_)
        have gt12 : zFi A σ t12 := by rw [et12]; exact fi_X11_tellMouth gt9 h0 h1 h2 h3 h4 h5 h6 h7 h8 h9 h10
        exact gt12
    · skip
      refine zFi_let (fun v14 _ => ?_)
      refine zFi_let (fun t15 et15 => ?_)
      have gt15 : zFi A σ t15 := by rw [et15]; exact fi_X11_fail g h0 h1
      refine zFi_let (fun v19 _ => ?_)
      refine zFi_if (fun _ => ?_) (fun _ => ?_)
      · skip
        exact gt15
      · skip
        refine zFi_let (fun t21 et21 => ?_)
        have gt21 : zFi A σ t21 := by rw [et21]; exact fi_X11_goesOn gt15 h0 h1 h2
        refine zFi_let (fun t24 et24 => ?_)
        have gt24 : zFi A σ t24 := by rw [et24]; exact fi_X11_tellMouth gt21 h0 h1 h2 h3 h4 h5 h6 h7 h8 h9 h10
        exact gt24
  · skip
    refine zFi_if (fun _ => ?_) (fun _ => ?_)
    · skip
      refine zFi_let (fun v27 _ => ?_)
      refine zFi_let (fun v28 _ => ?_)
      refine zFi_if (fun _ => ?_) (fun _ => ?_)
      · skip
        refine zFi_let (fun v37 _ => ?_)
        refine zFi_let (fun t38 et38 => ?_)
        have gt38 : zFi A σ t38 := by rw [et38]; exact fi_X11_fail g h0 h1
        refine zFi_let (fun v42 _ => ?_)
        refine zFi_if (fun _ => ?_) (fun _ => ?_)
        · skip
          exact gt38
        · skip
          refine zFi_let (fun t44 et44 => ?_)
          have gt44 : zFi A σ t44 := by rw [et44]; exact fi_X11_goesOn gt38 h0 h1 h2
          refine zFi_let (fun t47 et47 => ?_)
          have gt47 : zFi A σ t47 := by rw [et47]; exact fi_X11_tellPlace gt44 h0 h1 h2 h3 h4 h6 h7 h8 h9 h11 h10
          exact gt47
      · skip
        refine zFi_let (fun v30 _ => ?_)
        refine zFi_if (fun _ => ?_) (fun _ => ?_)
        · skip
          exact g
        · skip
          refine zFi_let (fun t32 et32 => ?_)
          have gt32 : zFi A σ t32 := by rw [et32]; exact fi_X11_goesOn g h0 h1 h2
          refine zFi_let (fun t35 et35 => ?_)
          have gt35 : zFi A σ t35 := by rw [et35]; exact fi_X11_tellPlace gt32 h0 h1 h2 h3 h4 h6 h7 h8 h9 h11 h10
          exact gt35
    · skip
      refine zFi_if (fun _ => ?_) (fun _ => ?_)
      · skip
        refine zFi_let (fun v50 ev50 => ?_)
        rw [g.rf] at ev50
        subst ev50
        refine zFi_let (fun v51 _ => ?_)
        refine zFi_let (fun v52 _ => ?_)
        refine zFi_let (fun v53 _ => ?_)
        refine zFi_let (fun v54 _ => ?_)
        refine zFi_if (fun _ => ?_) (fun _ => ?_)
        · skip
          refine zFi_let (fun v56 _ => ?_)
          refine zFi_let (fun t57 et57 => ?_)
          have gt57 : zFi A σ t57 := by rw [et57]; exact fi_X11_fail g h0 h1
          refine zFi_let (fun v60 _ => ?_)
          refine zFi_if (fun _ => ?_) (fun _ => ?_)
          · skip
            exact gt57
          · skip
            refine zFi_let (fun t62 et62 => ?_)
            have gt62 : zFi A σ t62 := by rw [et62]; exact fi_X11_goesOn gt57 h0 h1 h2
            refine zFi_let (fun t64 et64 => ?_)
            have gt64 : zFi A σ t64 := by rw [et64]; exact fi_X11_tellLaw gt62 h0 h1 h2 h12 h13 h14 h15 h16 h17 h18 h19 h20 h21 h22 h23 h24 h25
            exact gt64
        · skip
          refine zFi_let (fun v66 ev66 => ?_)
          rw [g.rf] at ev66
          subst ev66
          refine zFi_let (fun v67 _ => ?_)
          refine zFi_let (fun v68 _ => ?_)
          refine zFi_let (fun v69 _ => ?_)
          refine zFi_if (fun _ => ?_) (fun _ => ?_)
          · skip
            refine zFi_let (fun v78 _ => ?_)
            refine zFi_let (fun t79 et79 => ?_)
            have gt79 : zFi A σ t79 := by rw [et79]; exact fi_X11_fail g h0 h1
            refine zFi_let (fun v82 _ => ?_)
            refine zFi_if (fun _ => ?_) (fun _ => ?_)
            · skip
              exact gt79
            · skip
              refine zFi_let (fun t84 et84 => ?_)
              have gt84 : zFi A σ t84 := by rw [et84]; exact fi_X11_goesOn gt79 h0 h1 h2
              refine zFi_let (fun t86 et86 => ?_)
              have gt86 : zFi A σ t86 := by rw [et86]; exact fi_X11_tellLaw gt84 h0 h1 h2 h12 h13 h14 h15 h16 h17 h18 h19 h20 h21 h22 h23 h24 h25
              exact gt86
          · skip
            refine zFi_let (fun v72 _ => ?_)
            refine zFi_if (fun _ => ?_) (fun _ => ?_)
            · skip
              exact g
            · skip
              refine zFi_let (fun t74 et74 => ?_)
              have gt74 : zFi A σ t74 := by rw [et74]; exact fi_X11_goesOn g h0 h1 h2
              refine zFi_let (fun t76 et76 => ?_)
              have gt76 : zFi A σ t76 := by rw [et76]; exact fi_X11_tellLaw gt74 h0 h1 h2 h12 h13 h14 h15 h16 h17 h18 h19 h20 h21 h22 h23 h24 h25
              exact gt76
      · skip
        refine zFi_if (fun _ => ?_) (fun _ => ?_)
        · skip
          refine zFi_let (fun v89 ev89 => ?_)
          rw [g.rf] at ev89
          subst ev89
          refine zFi_let (fun v90 _ => ?_)
          refine zFi_let (fun v91 _ => ?_)
          refine zFi_let (fun v92 _ => ?_)
          refine zFi_let (fun v93 _ => ?_)
          refine zFi_if (fun _ => ?_) (fun _ => ?_)
          · skip
            refine zFi_let (fun v95 _ => ?_)
            refine zFi_let (fun t96 et96 => ?_)
            have gt96 : zFi A σ t96 := by rw [et96]; exact fi_X11_fail g h0 h1
            refine zFi_let (fun v99 _ => ?_)
            refine zFi_if (fun _ => ?_) (fun _ => ?_)
            · skip
              exact gt96
            · skip
              refine zFi_let (fun t101 et101 => ?_)
              have gt101 : zFi A σ t101 := by rw [et101]; exact fi_X11_goesOn gt96 h0 h1 h2
              refine zFi_let (fun t103 et103 => ?_)
              have gt103 : zFi A σ t103 := by rw [et103]; exact fi_X11_tellLaw gt101 h0 h1 h2 h12 h13 h14 h15 h16 h17 h18 h19 h20 h21 h22 h23 h24 h25
              exact gt103
          · skip
            refine zFi_let (fun v105 ev105 => ?_)
            rw [g.rf] at ev105
            subst ev105
            refine zFi_let (fun v106 _ => ?_)
            refine zFi_let (fun v107 _ => ?_)
            refine zFi_let (fun v108 _ => ?_)
            refine zFi_if (fun _ => ?_) (fun _ => ?_)
            · skip
              refine zFi_let (fun v117 _ => ?_)
              refine zFi_let (fun t118 et118 => ?_)
              have gt118 : zFi A σ t118 := by rw [et118]; exact fi_X11_fail g h0 h1
              refine zFi_let (fun v121 _ => ?_)
              refine zFi_if (fun _ => ?_) (fun _ => ?_)
              · skip
                exact gt118
              · skip
                refine zFi_let (fun t123 et123 => ?_)
                have gt123 : zFi A σ t123 := by rw [et123]; exact fi_X11_goesOn gt118 h0 h1 h2
                refine zFi_let (fun t125 et125 => ?_)
                have gt125 : zFi A σ t125 := by rw [et125]; exact fi_X11_tellLaw gt123 h0 h1 h2 h12 h13 h14 h15 h16 h17 h18 h19 h20 h21 h22 h23 h24 h25
                exact gt125
            · skip
              refine zFi_let (fun v111 _ => ?_)
              refine zFi_if (fun _ => ?_) (fun _ => ?_)
              · skip
                exact g
              · skip
                refine zFi_let (fun t113 et113 => ?_)
                have gt113 : zFi A σ t113 := by rw [et113]; exact fi_X11_goesOn g h0 h1 h2
                refine zFi_let (fun t115 et115 => ?_)
                have gt115 : zFi A σ t115 := by rw [et115]; exact fi_X11_tellLaw gt113 h0 h1 h2 h12 h13 h14 h15 h16 h17 h18 h19 h20 h21 h22 h23 h24 h25
                exact gt115
        · skip
          refine zFi_if (fun _ => ?_) (fun _ => ?_)
          · skip
            refine zFi_let (fun v128 ev128 => ?_)
            rw [g.rf] at ev128
            subst ev128
            refine zFi_let (fun v129 _ => ?_)
            refine zFi_let (fun v130 _ => ?_)
            refine zFi_let (fun v131 _ => ?_)
            refine zFi_let (fun v132 _ => ?_)
            refine zFi_if (fun _ => ?_) (fun _ => ?_)
            · skip
              refine zFi_let (fun v134 _ => ?_)
              refine zFi_let (fun t135 et135 => ?_)
              have gt135 : zFi A σ t135 := by rw [et135]; exact fi_X11_fail g h0 h1
              refine zFi_let (fun v138 _ => ?_)
              refine zFi_if (fun _ => ?_) (fun _ => ?_)
              · skip
                exact gt135
              · skip
                refine zFi_let (fun t140 et140 => ?_)
                have gt140 : zFi A σ t140 := by rw [et140]; exact fi_X11_goesOn gt135 h0 h1 h2
                refine zFi_let (fun t142 et142 => ?_)
                have gt142 : zFi A σ t142 := by rw [et142]; exact fi_X11_tellLaw gt140 h0 h1 h2 h12 h13 h14 h15 h16 h17 h18 h19 h20 h21 h22 h23 h24 h25
                exact gt142
            · skip
              refine zFi_let (fun v144 ev144 => ?_)
              rw [g.rf] at ev144
              subst ev144
              refine zFi_let (fun v145 _ => ?_)
              refine zFi_let (fun v146 _ => ?_)
              refine zFi_let (fun v147 _ => ?_)
              refine zFi_if (fun _ => ?_) (fun _ => ?_)
              · skip
                refine zFi_let (fun v156 _ => ?_)
                refine zFi_let (fun t157 et157 => ?_)
                have gt157 : zFi A σ t157 := by rw [et157]; exact fi_X11_fail g h0 h1
                refine zFi_let (fun v160 _ => ?_)
                refine zFi_if (fun _ => ?_) (fun _ => ?_)
                · skip
                  exact gt157
                · skip
                  refine zFi_let (fun t162 et162 => ?_)
                  have gt162 : zFi A σ t162 := by rw [et162]; exact fi_X11_goesOn gt157 h0 h1 h2
                  refine zFi_let (fun t164 et164 => ?_)
                  have gt164 : zFi A σ t164 := by rw [et164]; exact fi_X11_tellLaw gt162 h0 h1 h2 h12 h13 h14 h15 h16 h17 h18 h19 h20 h21 h22 h23 h24 h25
                  exact gt164
              · skip
                refine zFi_let (fun v150 _ => ?_)
                refine zFi_if (fun _ => ?_) (fun _ => ?_)
                · skip
                  exact g
                · skip
                  refine zFi_let (fun t152 et152 => ?_)
                  have gt152 : zFi A σ t152 := by rw [et152]; exact fi_X11_goesOn g h0 h1 h2
                  refine zFi_let (fun t154 et154 => ?_)
                  have gt154 : zFi A σ t154 := by rw [et154]; exact fi_X11_tellLaw gt152 h0 h1 h2 h12 h13 h14 h15 h16 h17 h18 h19 h20 h21 h22 h23 h24 h25
                  exact gt154
          · skip
            refine zFi_if (fun _ => ?_) (fun _ => ?_)
            · skip
              refine zFi_let (fun v167 ev167 => ?_)
              rw [g.rf] at ev167
              subst ev167
              refine zFi_let (fun v168 _ => ?_)
              refine zFi_let (fun v169 _ => ?_)
              refine zFi_let (fun v170 _ => ?_)
              refine zFi_let (fun v171 _ => ?_)
              refine zFi_if (fun _ => ?_) (fun _ => ?_)
              · skip
                refine zFi_let (fun v173 _ => ?_)
                refine zFi_let (fun t174 et174 => ?_)
                have gt174 : zFi A σ t174 := by rw [et174]; exact fi_X11_fail g h0 h1
                refine zFi_let (fun v177 _ => ?_)
                refine zFi_if (fun _ => ?_) (fun _ => ?_)
                · skip
                  exact gt174
                · skip
                  refine zFi_let (fun t179 et179 => ?_)
                  have gt179 : zFi A σ t179 := by rw [et179]; exact fi_X11_goesOn gt174 h0 h1 h2
                  refine zFi_let (fun t181 et181 => ?_)
                  have gt181 : zFi A σ t181 := by rw [et181]; exact fi_X11_tellLaw gt179 h0 h1 h2 h12 h13 h14 h15 h16 h17 h18 h19 h20 h21 h22 h23 h24 h25
                  exact gt181
              · skip
                refine zFi_let (fun v183 ev183 => ?_)
                rw [g.rf] at ev183
                subst ev183
                refine zFi_let (fun v184 _ => ?_)
                refine zFi_let (fun v185 _ => ?_)
                refine zFi_let (fun v186 _ => ?_)
                refine zFi_if (fun _ => ?_) (fun _ => ?_)
                · skip
                  refine zFi_let (fun v195 _ => ?_)
                  refine zFi_let (fun t196 et196 => ?_)
                  have gt196 : zFi A σ t196 := by rw [et196]; exact fi_X11_fail g h0 h1
                  refine zFi_let (fun v199 _ => ?_)
                  refine zFi_if (fun _ => ?_) (fun _ => ?_)
                  · skip
                    exact gt196
                  · skip
                    refine zFi_let (fun t201 et201 => ?_)
                    have gt201 : zFi A σ t201 := by rw [et201]; exact fi_X11_goesOn gt196 h0 h1 h2
                    refine zFi_let (fun t203 et203 => ?_)
                    have gt203 : zFi A σ t203 := by rw [et203]; exact fi_X11_tellLaw gt201 h0 h1 h2 h12 h13 h14 h15 h16 h17 h18 h19 h20 h21 h22 h23 h24 h25
                    exact gt203
                · skip
                  refine zFi_let (fun v189 _ => ?_)
                  refine zFi_if (fun _ => ?_) (fun _ => ?_)
                  · skip
                    exact g
                  · skip
                    refine zFi_let (fun t191 et191 => ?_)
                    have gt191 : zFi A σ t191 := by rw [et191]; exact fi_X11_goesOn g h0 h1 h2
                    refine zFi_let (fun t193 et193 => ?_)
                    have gt193 : zFi A σ t193 := by rw [et193]; exact fi_X11_tellLaw gt191 h0 h1 h2 h12 h13 h14 h15 h16 h17 h18 h19 h20 h21 h22 h23 h24 h25
                    exact gt193
            · skip
              refine zFi_if (fun _ => ?_) (fun _ => ?_)
              · skip
                refine zFi_let (fun v206 ev206 => ?_)
                rw [g.rf] at ev206
                subst ev206
                refine zFi_let (fun v207 _ => ?_)
                refine zFi_let (fun v208 _ => ?_)
                refine zFi_let (fun v209 _ => ?_)
                refine zFi_let (fun v210 _ => ?_)
                refine zFi_if (fun _ => ?_) (fun _ => ?_)
                · skip
                  refine zFi_let (fun v212 _ => ?_)
                  refine zFi_let (fun t213 et213 => ?_)
                  have gt213 : zFi A σ t213 := by rw [et213]; exact fi_X11_fail g h0 h1
                  refine zFi_let (fun v216 _ => ?_)
                  refine zFi_if (fun _ => ?_) (fun _ => ?_)
                  · skip
                    exact gt213
                  · skip
                    refine zFi_let (fun t218 et218 => ?_)
                    have gt218 : zFi A σ t218 := by rw [et218]; exact fi_X11_goesOn gt213 h0 h1 h2
                    refine zFi_let (fun t220 et220 => ?_)
                    have gt220 : zFi A σ t220 := by rw [et220]; exact fi_X11_tellLaw gt218 h0 h1 h2 h12 h13 h14 h15 h16 h17 h18 h19 h20 h21 h22 h23 h24 h25
                    exact gt220
                · skip
                  refine zFi_let (fun v222 ev222 => ?_)
                  rw [g.rf] at ev222
                  subst ev222
                  refine zFi_let (fun v223 _ => ?_)
                  refine zFi_let (fun v224 _ => ?_)
                  refine zFi_let (fun v225 _ => ?_)
                  refine zFi_if (fun _ => ?_) (fun _ => ?_)
                  · skip
                    refine zFi_let (fun v234 _ => ?_)
                    refine zFi_let (fun t235 et235 => ?_)
                    have gt235 : zFi A σ t235 := by rw [et235]; exact fi_X11_fail g h0 h1
                    refine zFi_let (fun v238 _ => ?_)
                    refine zFi_if (fun _ => ?_) (fun _ => ?_)
                    · skip
                      exact gt235
                    · skip
                      refine zFi_let (fun t240 et240 => ?_)
                      have gt240 : zFi A σ t240 := by rw [et240]; exact fi_X11_goesOn gt235 h0 h1 h2
                      refine zFi_let (fun t242 et242 => ?_)
                      have gt242 : zFi A σ t242 := by rw [et242]; exact fi_X11_tellLaw gt240 h0 h1 h2 h12 h13 h14 h15 h16 h17 h18 h19 h20 h21 h22 h23 h24 h25
                      exact gt242
                  · skip
                    refine zFi_let (fun v228 _ => ?_)
                    refine zFi_if (fun _ => ?_) (fun _ => ?_)
                    · skip
                      exact g
                    · skip
                      refine zFi_let (fun t230 et230 => ?_)
                      have gt230 : zFi A σ t230 := by rw [et230]; exact fi_X11_goesOn g h0 h1 h2
                      refine zFi_let (fun t232 et232 => ?_)
                      have gt232 : zFi A σ t232 := by rw [et232]; exact fi_X11_tellLaw gt230 h0 h1 h2 h12 h13 h14 h15 h16 h17 h18 h19 h20 h21 h22 h23 h24 h25
                      exact gt232
              · skip
                refine zFi_if (fun _ => ?_) (fun _ => ?_)
                · skip
                  refine zFi_let (fun t245 et245 => ?_)
                  have gt245 : zFi A σ t245 := by rw [et245]; exact fi_X11_goesOn g h0 h1 h2
                  refine zFi_let (fun v247 ev247 => ?_)
                  rw [gt245.rf] at ev247
                  subst ev247
                  refine zFi_let (fun v248 _ => ?_)
                  refine zFi_let (fun v249 _ => ?_)
                  refine zFi_let (fun v250 _ => ?_)
                  refine zFi_let2 (fun v252 t251 et251 => ?_)
                  have gt251 : zFi A σ t251 := (fi_X11_bounded gt245 h0 h1 h3 h4 h2).of et251
                  refine zFi_let (fun s256 es256 => ?_)
                  have gs256 : zFi A σ s256 := by rw [es256]; exact gt251.w (h26 _)
                  refine zFi_let (fun v259 ev259 => ?_)
                  rw [gs256.rf] at ev259
                  subst ev259
                  refine zFi_let (fun v260 _ => ?_)
                  refine zFi_let (fun v261 _ => ?_)
                  refine zFi_let (fun v262 _ => ?_)
                  refine zFi_let2 (fun v264 t263 et263 => ?_)
                  have gt263 : zFi A σ t263 := (fi_X11_bounded gs256 h0 h1 h3 h4 h2).of et263
                  refine zFi_let (fun s268 es268 => ?_)
                  have gs268 : zFi A σ s268 := by rw [es268]; exact gt263.w (h27 _)
                  refine zFi_let (fun v271 _ => ?_)
                  refine zFi_let (fun t272 et272 => ?_)
                  have gt272 : zFi A σ t272 := by rw [et272]; exact fi_X11_must gs268 h0 h1 h2
                  exact gt272
                · skip
                  refine zFi_if (fun _ => ?_) (fun _ => ?_)
                  · skip
                    refine zFi_let (fun t276 et276 => ?_)
                    have gt276 : zFi A σ t276 := by rw [et276]; exact fi_X11_goesOn g h0 h1 h2
                    refine zFi_let (fun v278 ev278 => ?_)
                    rw [gt276.rf] at ev278
                    subst ev278
                    refine zFi_let (fun v279 _ => ?_)
                    refine zFi_let (fun v280 _ => ?_)
                    refine zFi_let (fun v281 _ => ?_)
                    refine zFi_let2 (fun v283 t282 et282 => ?_)
                    have gt282 : zFi A σ t282 := (fi_X11_bounded gt276 h0 h1 h3 h4 h2).of et282
                    refine zFi_let (fun s287 es287 => ?_)
                    have gs287 : zFi A σ s287 := by rw [es287]; exact gt282.w (h28 _)
                    refine zFi_let (fun v290 _ => ?_)
                    refine zFi_let (fun t291 et291 => ?_)
                    have gt291 : zFi A σ t291 := by rw [et291]; exact fi_X11_must gs287 h0 h1 h2
                    exact gt291
                  · skip
                    refine zFi_if (fun _ => ?_) (fun _ => ?_)
                    · skip
                      refine zFi_let (fun t295 et295 => ?_)
                      have gt295 : zFi A σ t295 := by rw [et295]; exact fi_X11_goesOn g h0 h1 h2
                      refine zFi_let (fun v297 ev297 => ?_)
                      rw [gt295.rf] at ev297
                      subst ev297
                      refine zFi_let (fun v298 _ => ?_)
                      refine zFi_let (fun v299 _ => ?_)
                      refine zFi_let (fun v300 _ => ?_)
                      refine zFi_let2 (fun v302 t301 et301 => ?_)
                      have gt301 : zFi A σ t301 := (fi_X11_bounded gt295 h0 h1 h3 h4 h2).of et301
                      refine zFi_let (fun s306 es306 => ?_)
                      have gs306 : zFi A σ s306 := by rw [es306]; exact gt301.w (h29 _)
                      refine zFi_let (fun v309 _ => ?_)
                      refine zFi_let (fun t310 et310 => ?_)
                      have gt310 : zFi A σ t310 := by rw [et310]; exact fi_X11_must gs306 h0 h1 h2
                      exact gt310
                    · skip
                      refine zFi_let (fun v313 ev313 => ?_)
                      rw [g.rf] at ev313
                      subst ev313
                      refine zFi_let (fun v314 _ => ?_)
                      refine zFi_let (fun v315 _ => ?_)
                      refine zFi_let (fun v316 _ => ?_)
                      refine zFi_let (fun v317 _ => ?_)
                      refine zFi_if (fun _ => ?_) (fun _ => ?_)
                      · skip
                        refine zFi_let (fun v319 _ => ?_)
                        refine zFi_let (fun t320 et320 => ?_)
                        have gt320 : zFi A σ t320 := by rw [et320]; exact fi_X11_fail g h0 h1
                        refine zFi_let (fun v323 _ => ?_)
                        refine zFi_if (fun _ => ?_) (fun _ => ?_)
                        · skip
                          exact gt320
                        · skip
                          refine zFi_let (fun t325 et325 => ?_)
                          have gt325 : zFi A σ t325 := by rw [et325]; exact fi_X11_goesOn gt320 h0 h1 h2
                          refine zFi_let (fun t327 et327 => ?_)
                          have gt327 : zFi A σ t327 := by rw [et327]; exact fi_X11_tellLaw gt325 h0 h1 h2 h12 h13 h14 h15 h16 h17 h18 h19 h20 h21 h22 h23 h24 h25
                          exact gt327
                      · skip
                        refine zFi_let (fun v329 ev329 => ?_)
                        rw [g.rf] at ev329
                        subst ev329
                        refine zFi_let (fun v330 _ => ?_)
                        refine zFi_let (fun v331 _ => ?_)
                        refine zFi_let (fun v332 _ => ?_)
                        refine zFi_if (fun _ => ?_) (fun _ => ?_)
                        · skip
                          refine zFi_let (fun v341 _ => ?_)
                          refine zFi_let (fun t342 et342 => ?_)
                          have gt342 : zFi A σ t342 := by rw [et342]; exact fi_X11_fail g h0 h1
                          refine zFi_let (fun v345 _ => ?_)
                          refine zFi_if (fun _ => ?_) (fun _ => ?_)
                          · skip
                            exact gt342
                          · skip
                            refine zFi_let (fun t347 et347 => ?_)
                            have gt347 : zFi A σ t347 := by rw [et347]; exact fi_X11_goesOn gt342 h0 h1 h2
                            refine zFi_let (fun t349 et349 => ?_)
                            have gt349 : zFi A σ t349 := by rw [et349]; exact fi_X11_tellLaw gt347 h0 h1 h2 h12 h13 h14 h15 h16 h17 h18 h19 h20 h21 h22 h23 h24 h25
                            exact gt349
                        · skip
                          refine zFi_let (fun v335 _ => ?_)
                          refine zFi_if (fun _ => ?_) (fun _ => ?_)
                          · skip
                            exact g
                          · skip
                            refine zFi_let (fun t337 et337 => ?_)
                            have gt337 : zFi A σ t337 := by rw [et337]; exact fi_X11_goesOn g h0 h1 h2
                            refine zFi_let (fun t339 et339 => ?_)
                            have gt339 : zFi A σ t339 := by rw [et339]; exact fi_X11_tellLaw gt337 h0 h1 h2 h12 h13 h14 h15 h16 h17 h18 h19 h20 h21 h22 h23 h24 h25
                            exact gt339
set_option maxRecDepth 100000 in
theorem fi_X11_token {A : Nat → Nat → Prop} {σ σ0 : zS} {a0 : Nat} {p1 : Int32} {p2 : Int32} {p3 : Int32} {p4 : Int64}  (g : zFi A σ σ0) (h0 : ∀ j, A ((σ.2.2 a0 5).getD 0) j) (h1 : ∀ j, A ((σ.2.2 a0 6).getD 0) j) (h2 : ∀ j, A ((σ.2.2 a0 7).getD 0) j) (h3 : A a0 10) : zFi A σ (F_X11_token a0 p1 p2 p3 p4 σ0) := by
  unfold F_X11_token
  refine zFi_let (fun v1 ev1 => ?_)
  rw [g.rf] at ev1
  subst ev1
  refine zFi_let (fun v2 _ => ?_)
  refine zFi_let (fun s3 es3 => ?_)
  have gs3 : zFi A σ s3 := by rw [es3]; exact g.w (h0 _)
  refine zFi_let (fun v6 ev6 => ?_)
  rw [gs3.rf] at ev6
  subst ev6
  refine zFi_let (fun v7 _ => ?_)
  refine zFi_let (fun s8 es8 => ?_)
  have gs8 : zFi A σ s8 := by rw [es8]; exact gs3.w (h1 _)
  refine zFi_let (fun v11 ev11 => ?_)
  rw [gs8.rf] at ev11
  subst ev11
  refine zFi_let (fun v12 _ => ?_)
  refine zFi_let (fun s13 es13 => ?_)
  have gs13 : zFi A σ s13 := by rw [es13]; exact gs8.w (h2 _)
  refine zFi_let (fun v16 ev16 => ?_)
  rw [gs13.rf] at ev16
  subst ev16
  refine zFi_let (fun v17 _ => ?_)
  refine zFi_let (fun s18 es18 => ?_)
  have gs18 : zFi A σ s18 := by rw [es18]; exact gs13
  refine zFi_let (fun v21 _ => ?_)
  refine zFi_let (fun v22 _ => ?_)
  refine zFi_let (fun v23 _ => ?_)
  refine zFi_let (fun s24 es24 => ?_)
  have gs24 : zFi A σ s24 := by rw [es24]; exact gs18.w h3
  exact gs24
set_option maxRecDepth 100000 in
theorem fi_X11_sign {A : Nat → Nat → Prop} {σ σ0 : zS} {a0 : Nat} {p1 : Int32} {p2 : Int32} {p3 : Int32}  (g : zFi A σ σ0) (h0 : ∀ j, A ((σ.2.2 a0 5).getD 0) j) (h1 : ∀ j, A ((σ.2.2 a0 6).getD 0) j) (h2 : ∀ j, A ((σ.2.2 a0 7).getD 0) j) (h3 : A a0 10) : zFj A σ (F_X11_sign a0 p1 p2 p3 σ0) := by
  unfold F_X11_sign
  refine zFj_let (fun v1 _ => ?_)
  refine zFj_if (fun _ => ?_) (fun _ => ?_)
  · skip
    refine zFj_let (fun v123 _ => ?_)
    refine zFj_let (fun v124 _ => ?_)
    refine zFj_if (fun _ => ?_) (fun _ => ?_)
    · skip
      exact g
    · skip
      refine zFj_let (fun v126 _ => ?_)
      refine zFj_if (fun _ => ?_) (fun _ => ?_)
      · skip
        exact g
      · skip
        refine zFj_let (fun v128 _ => ?_)
        refine zFj_if (fun _ => ?_) (fun _ => ?_)
        · skip
          exact g
        · skip
          refine zFj_let (fun v130 _ => ?_)
          refine zFj_if (fun _ => ?_) (fun _ => ?_)
          · skip
            exact g
          · skip
            refine zFj_let (fun v132 _ => ?_)
            refine zFj_if (fun _ => ?_) (fun _ => ?_)
            · skip
              exact g
            · skip
              refine zFj_let (fun v134 _ => ?_)
              refine zFj_let (fun v135 _ => ?_)
              refine zFj_let (fun t136 et136 => ?_)
              have gt136 : zFi A σ t136 := by rw [et136]; exact fi_X11_token g h0 h1 h2 h3
              refine zFj_let (fun v138 _ => ?_)
              exact gt136
  · skip
    refine zFj_let (fun v3 _ => ?_)
    refine zFj_if (fun _ => ?_) (fun _ => ?_)
    · skip
      refine zFj_let (fun v107 _ => ?_)
      refine zFj_let (fun v108 _ => ?_)
      refine zFj_if (fun _ => ?_) (fun _ => ?_)
      · skip
        exact g
      · skip
        refine zFj_let (fun v110 _ => ?_)
        refine zFj_if (fun _ => ?_) (fun _ => ?_)
        · skip
          exact g
        · skip
          refine zFj_let (fun v112 _ => ?_)
          refine zFj_if (fun _ => ?_) (fun _ => ?_)
          · skip
            exact g
          · skip
            refine zFj_let (fun v114 _ => ?_)
            refine zFj_if (fun _ => ?_) (fun _ => ?_)
            · skip
              exact g
            · skip
              refine zFj_let (fun v116 _ => ?_)
              refine zFj_if (fun _ => ?_) (fun _ => ?_)
              · skip
                exact g
              · skip
                refine zFj_let (fun v118 _ => ?_)
                refine zFj_let (fun v119 _ => ?_)
                refine zFj_let (fun t120 et120 => ?_)
                have gt120 : zFi A σ t120 := by rw [et120]; exact fi_X11_token g h0 h1 h2 h3
                refine zFj_let (fun v122 _ => ?_)
                exact gt120
    · skip
      refine zFj_let (fun v5 _ => ?_)
      refine zFj_if (fun _ => ?_) (fun _ => ?_)
      · skip
        refine zFj_let (fun v91 _ => ?_)
        refine zFj_let (fun v92 _ => ?_)
        refine zFj_if (fun _ => ?_) (fun _ => ?_)
        · skip
          exact g
        · skip
          refine zFj_let (fun v94 _ => ?_)
          refine zFj_if (fun _ => ?_) (fun _ => ?_)
          · skip
            exact g
          · skip
            refine zFj_let (fun v96 _ => ?_)
            refine zFj_if (fun _ => ?_) (fun _ => ?_)
            · skip
              exact g
            · skip
              refine zFj_let (fun v98 _ => ?_)
              refine zFj_if (fun _ => ?_) (fun _ => ?_)
              · skip
                exact g
              · skip
                refine zFj_let (fun v100 _ => ?_)
                refine zFj_if (fun _ => ?_) (fun _ => ?_)
                · skip
                  exact g
                · skip
                  refine zFj_let (fun v102 _ => ?_)
                  refine zFj_let (fun v103 _ => ?_)
                  refine zFj_let (fun t104 et104 => ?_)
                  have gt104 : zFi A σ t104 := by rw [et104]; exact fi_X11_token g h0 h1 h2 h3
                  refine zFj_let (fun v106 _ => ?_)
                  exact gt104
      · skip
        refine zFj_let (fun v7 _ => ?_)
        refine zFj_if (fun _ => ?_) (fun _ => ?_)
        · skip
          refine zFj_let (fun v75 _ => ?_)
          refine zFj_let (fun v76 _ => ?_)
          refine zFj_if (fun _ => ?_) (fun _ => ?_)
          · skip
            exact g
          · skip
            refine zFj_let (fun v78 _ => ?_)
            refine zFj_if (fun _ => ?_) (fun _ => ?_)
            · skip
              exact g
            · skip
              refine zFj_let (fun v80 _ => ?_)
              refine zFj_if (fun _ => ?_) (fun _ => ?_)
              · skip
                exact g
              · skip
                refine zFj_let (fun v82 _ => ?_)
                refine zFj_if (fun _ => ?_) (fun _ => ?_)
                · skip
                  exact g
                · skip
                  refine zFj_let (fun v84 _ => ?_)
                  refine zFj_if (fun _ => ?_) (fun _ => ?_)
                  · skip
                    exact g
                  · skip
                    refine zFj_let (fun v86 _ => ?_)
                    refine zFj_let (fun v87 _ => ?_)
                    refine zFj_let (fun t88 et88 => ?_)
                    have gt88 : zFi A σ t88 := by rw [et88]; exact fi_X11_token g h0 h1 h2 h3
                    refine zFj_let (fun v90 _ => ?_)
                    exact gt88
        · skip
          refine zFj_let (fun v9 _ => ?_)
          refine zFj_let (fun v10 _ => ?_)
          refine zFj_if (fun _ => ?_) (fun _ => ?_)
          · skip
            refine zFj_let (fun v61 _ => ?_)
            refine zFj_let (fun v62 _ => ?_)
            refine zFj_if (fun _ => ?_) (fun _ => ?_)
            · skip
              exact g
            · skip
              refine zFj_let (fun v64 _ => ?_)
              refine zFj_if (fun _ => ?_) (fun _ => ?_)
              · skip
                exact g
              · skip
                refine zFj_let (fun v66 _ => ?_)
                refine zFj_if (fun _ => ?_) (fun _ => ?_)
                · skip
                  exact g
                · skip
                  refine zFj_let (fun v68 _ => ?_)
                  refine zFj_if (fun _ => ?_) (fun _ => ?_)
                  · skip
                    exact g
                  · skip
                    refine zFj_let (fun v70 _ => ?_)
                    refine zFj_let (fun v71 _ => ?_)
                    refine zFj_let (fun t72 et72 => ?_)
                    have gt72 : zFi A σ t72 := by rw [et72]; exact fi_X11_token g h0 h1 h2 h3
                    refine zFj_let (fun v74 _ => ?_)
                    exact gt72
          · skip
            refine zFj_let (fun v12 _ => ?_)
            refine zFj_if (fun _ => ?_) (fun _ => ?_)
            · skip
              refine zFj_let (fun v49 _ => ?_)
              refine zFj_let (fun v50 _ => ?_)
              refine zFj_if (fun _ => ?_) (fun _ => ?_)
              · skip
                exact g
              · skip
                refine zFj_let (fun v52 _ => ?_)
                refine zFj_if (fun _ => ?_) (fun _ => ?_)
                · skip
                  exact g
                · skip
                  refine zFj_let (fun v54 _ => ?_)
                  refine zFj_if (fun _ => ?_) (fun _ => ?_)
                  · skip
                    exact g
                  · skip
                    refine zFj_let (fun v56 _ => ?_)
                    refine zFj_let (fun v57 _ => ?_)
                    refine zFj_let (fun t58 et58 => ?_)
                    have gt58 : zFi A σ t58 := by rw [et58]; exact fi_X11_token g h0 h1 h2 h3
                    refine zFj_let (fun v60 _ => ?_)
                    exact gt58
            · skip
              refine zFj_let (fun v14 _ => ?_)
              refine zFj_if (fun _ => ?_) (fun _ => ?_)
              · skip
                refine zFj_let (fun v39 _ => ?_)
                refine zFj_let (fun v40 _ => ?_)
                refine zFj_if (fun _ => ?_) (fun _ => ?_)
                · skip
                  exact g
                · skip
                  refine zFj_let (fun v42 _ => ?_)
                  refine zFj_if (fun _ => ?_) (fun _ => ?_)
                  · skip
                    exact g
                  · skip
                    refine zFj_let (fun v44 _ => ?_)
                    refine zFj_let (fun v45 _ => ?_)
                    refine zFj_let (fun t46 et46 => ?_)
                    have gt46 : zFi A σ t46 := by rw [et46]; exact fi_X11_token g h0 h1 h2 h3
                    refine zFj_let (fun v48 _ => ?_)
                    exact gt46
              · skip
                refine zFj_let (fun v16 _ => ?_)
                refine zFj_if (fun _ => ?_) (fun _ => ?_)
                · skip
                  refine zFj_let (fun v31 _ => ?_)
                  refine zFj_let (fun v32 _ => ?_)
                  refine zFj_if (fun _ => ?_) (fun _ => ?_)
                  · skip
                    exact g
                  · skip
                    refine zFj_let (fun v34 _ => ?_)
                    refine zFj_let (fun v35 _ => ?_)
                    refine zFj_let (fun t36 et36 => ?_)
                    have gt36 : zFi A σ t36 := by rw [et36]; exact fi_X11_token g h0 h1 h2 h3
                    refine zFj_let (fun v38 _ => ?_)
                    exact gt36
                · skip
                  refine zFj_let (fun v18 _ => ?_)
                  refine zFj_if (fun _ => ?_) (fun _ => ?_)
                  · skip
                    refine zFj_let (fun v25 _ => ?_)
                    refine zFj_let (fun v26 _ => ?_)
                    refine zFj_let (fun v27 _ => ?_)
                    refine zFj_let (fun t28 et28 => ?_)
                    have gt28 : zFi A σ t28 := by rw [et28]; exact fi_X11_token g h0 h1 h2 h3
                    refine zFj_let (fun v30 _ => ?_)
                    exact gt28
                  · skip
                    refine zFj_let (fun v20 _ => ?_)
                    refine zFj_let (fun v21 _ => ?_)
                    refine zFj_let (fun t22 et22 => ?_)
                    have gt22 : zFi A σ t22 := by rw [et22]; exact fi_X11_token g h0 h1 h2 h3
                    refine zFj_let (fun v24 _ => ?_)
                    exact gt22
set_option maxRecDepth 100000 in
theorem fi_X11_cut_208 {A : Nat → Nat → Prop} {σ : zS} {v12 : Int32} {x6 : Int32} {a0 : Nat} {kLp7 : Int32 → zS → zS} (ckLp7 : ∀ (y0 : Int32) (s : zS), zFi A σ s → zFi A σ (kLp7 y0 s)) (h0 : ∀ j, A ((σ.2.2 a0 5).getD 0) j) (h1 : ∀ j, A ((σ.2.2 a0 6).getD 0) j) (h2 : ∀ j, A ((σ.2.2 a0 7).getD 0) j) (h3 : A a0 10) : ∀ (n : Nat) (x41 : Int32) (x42 : Int32) (τ43 : zS), zFi A σ τ43 → zFi A σ (F_X11_cut_208 v12 x6 a0 kLp7 n x41 x42 τ43) := by
  intro n
  induction n with
  | zero => intro x41 x42 τ43 g; exact g
  | succ n ih =>
    intro x41 x42 τ43 g
    rw [F_X11_cut_208]
    refine zFi_let (fun v44 _ => ?_)
    refine zFi_let (fun v46 _ => ?_)
    refine zFi_let (fun v47 _ => ?_)
    refine zFi_if (fun _ => ?_) (fun _ => ?_)
    · skip
      refine zFi_let (fun v49 _ => ?_)
      refine zFi_if (fun _ => ?_) (fun _ => ?_)
      · skip
        refine zFi_let (fun v56 _ => ?_)
        refine zFi_let (fun v57 _ => ?_)
        refine zFi_let (fun t58 et58 => ?_)
        have gt58 : zFi A σ t58 := by rw [et58]; exact fi_X11_token g h0 h1 h2 h3
        refine zFi_let (fun v60 _ => ?_)
        exact ckLp7 _ _ gt58
      · skip
        refine zFi_let (fun v51 _ => ?_)
        refine zFi_let (fun v52 _ => ?_)
        refine zFi_let (fun t53 et53 => ?_)
        have gt53 : zFi A σ t53 := by rw [et53]; exact fi_X11_token g h0 h1 h2 h3
        refine zFi_let (fun v55 _ => ?_)
        exact ckLp7 _ _ gt53
    · skip
      refine zFi_let (fun v61 _ => ?_)
      refine zFi_if (fun _ => ?_) (fun _ => ?_)
      · skip
        refine zFi_let (fun v64 _ => ?_)
        refine zFi_let (fun v65 _ => ?_)
        refine zFi_let (fun v66 _ => ?_)
        refine zFi_let (fun v68 _ => ?_)
        refine zFi_let (fun v69 _ => ?_)
        refine zFi_let (fun v70 _ => ?_)
        refine zFi_let (fun v71 _ => ?_)
        refine zFi_let (fun v72 _ => ?_)
        exact ih _ _ _ g
      · skip
        refine zFi_let (fun v63 _ => ?_)
        exact ih _ _ _ g
set_option maxRecDepth 100000 in
theorem fi_X11_cut_146 {A : Nat → Nat → Prop} {σ : zS} {x75 : Int64} {x76 : Int32} {v12 : Int32} {x6 : Int32} {a0 : Nat} {kLp7 : Int32 → zS → zS} {kLp77 : Int64 → Int32 → zS → zS} (ckLp7 : ∀ (y0 : Int32) (s : zS), zFi A σ s → zFi A σ (kLp7 y0 s)) (ckLp77 : ∀ (y0 : Int64) (y1 : Int32) (s : zS), zFi A σ s → zFi A σ (kLp77 y0 y1 s)) (h0 : ∀ j, A ((σ.2.2 a0 5).getD 0) j) (h1 : ∀ j, A ((σ.2.2 a0 6).getD 0) j) (h2 : ∀ j, A ((σ.2.2 a0 7).getD 0) j) (h3 : A a0 10) : ∀ (n : Nat) (x89 : Int32) (x90 : Int32) (τ91 : zS), zFi A σ τ91 → zFi A σ (F_X11_cut_146 x75 x76 v12 x6 a0 kLp7 kLp77 n x89 x90 τ91) := by
  intro n
  induction n with
  | zero => intro x89 x90 τ91 g; exact g
  | succ n ih =>
    intro x89 x90 τ91 g
    rw [F_X11_cut_146]
    refine zFi_let (fun v92 _ => ?_)
    refine zFi_if (fun _ => ?_) (fun _ => ?_)
    · skip
      refine zFi_let (fun v98 ev98 => ?_)
      rw [g.rf] at ev98
      subst ev98
      refine zFi_let (fun v99 _ => ?_)
      refine zFi_let (fun v100 _ => ?_)
      refine zFi_if (fun _ => ?_) (fun _ => ?_)
      · skip
        refine zFi_let (fun v103 _ => ?_)
        refine zFi_let (fun v104 _ => ?_)
        refine zFi_let (fun v105 _ => ?_)
        exact ih _ _ _ g
      · skip
        refine zFi_let (fun v102 _ => ?_)
        exact ih _ _ _ g
    · skip
      refine zFi_let (fun v94 _ => ?_)
      refine zFi_let (fun t95 et95 => ?_)
      have gt95 : zFi A σ t95 := by rw [et95]; exact fi_X11_token g h0 h1 h2 h3
      refine zFi_let (fun v97 _ => ?_)
      exact ckLp7 _ _ gt95
set_option maxRecDepth 100000 in
theorem fi_X11_cut_85 {A : Nat → Nat → Prop} {σ : zS} {v12 : Int32} {x6 : Int32} {a0 : Nat} {kLp7 : Int32 → zS → zS} (ckLp7 : ∀ (y0 : Int32) (s : zS), zFi A σ s → zFi A σ (kLp7 y0 s)) (h0 : ∀ j, A ((σ.2.2 a0 5).getD 0) j) (h1 : ∀ j, A ((σ.2.2 a0 6).getD 0) j) (h2 : ∀ j, A ((σ.2.2 a0 7).getD 0) j) (h3 : A a0 10) : ∀ (n : Nat) (x75 : Int64) (x76 : Int32) (τ77 : zS), zFi A σ τ77 → zFi A σ (F_X11_cut_85 v12 x6 a0 kLp7 n x75 x76 τ77) := by
  intro n
  induction n with
  | zero => intro x75 x76 τ77 g; exact g
  | succ n ih =>
    intro x75 x76 τ77 g
    rw [F_X11_cut_85]
    refine zFi_let (fun v78 _ => ?_)
    refine zFi_let (fun v80 _ => ?_)
    refine zFi_let (fun v81 _ => ?_)
    refine zFi_if (fun _ => ?_) (fun _ => ?_)
    · skip
      refine zFi_let (fun v83 _ => ?_)
      refine zFi_if (fun _ => ?_) (fun _ => ?_)
      · skip
        refine zFi_let (fun v106 _ => ?_)
        refine zFi_let (fun v107 _ => ?_)
        refine zFi_if (fun _ => ?_) (fun _ => ?_)
        · skip
          refine zFi_let (fun v109 _ => ?_)
          refine zFi_let (fun t110 et110 => ?_)
          have gt110 : zFi A σ t110 := by rw [et110]; exact fi_X11_token g h0 h1 h2 h3
          refine zFi_let (fun v112 _ => ?_)
          exact ckLp7 _ _ gt110
        · skip
          exact g
      · skip
        refine zFi_let (fun v85 _ => ?_)
        refine zFi_let (fun v86 _ => ?_)
        refine zFi_if (fun _ => ?_) (fun _ => ?_)
        · skip
          exact g
        · skip
          refine zFi_let (fun v88 _ => ?_)
          exact fi_X11_cut_146 ckLp7 ih h0 h1 h2 h3 _ _ _ _ g
    · skip
      refine zFi_let (fun v113 _ => ?_)
      refine zFi_if (fun _ => ?_) (fun _ => ?_)
      · skip
        refine zFi_let (fun v116 _ => ?_)
        refine zFi_let (fun v118 _ => ?_)
        refine zFi_let (fun v119 _ => ?_)
        refine zFi_let (fun v120 _ => ?_)
        exact ih _ _ _ g
      · skip
        refine zFi_let (fun v115 _ => ?_)
        exact ih _ _ _ g
set_option maxRecDepth 100000 in
theorem fi_X11_cut_7 {A : Nat → Nat → Prop} {σ : zS} {a0 : Nat}  (h0 : ∀ j, A ((σ.2.2 a0 5).getD 0) j) (h1 : ∀ j, A ((σ.2.2 a0 6).getD 0) j) (h2 : ∀ j, A ((σ.2.2 a0 7).getD 0) j) (h3 : A a0 10) : ∀ (n : Nat) (x6 : Int32) (τ7 : zS), zFi A σ τ7 → zFi A σ (F_X11_cut_7 a0 n x6 τ7) := by
  intro n
  induction n with
  | zero => intro x6 τ7 g; exact g
  | succ n ih =>
    intro x6 τ7 g
    rw [F_X11_cut_7]
    refine zFi_let (fun v8 _ => ?_)
    refine zFi_let (fun v9 _ => ?_)
    refine zFi_if (fun _ => ?_) (fun _ => ?_)
    · skip
      exact g
    · skip
      refine zFi_let (fun v12 _ => ?_)
      refine zFi_let (fun v13 _ => ?_)
      refine zFi_if (fun _ => ?_) (fun _ => ?_)
      · skip
        refine zFi_let (fun v15 _ => ?_)
        refine zFi_if (fun _ => ?_) (fun _ => ?_)
        · skip
          refine zFi_let (fun v17 _ => ?_)
          exact ih _ _ g
        · skip
          refine zFi_let (fun v18 _ => ?_)
          refine zFi_if (fun _ => ?_) (fun _ => ?_)
          · skip
            refine zFi_let (fun v20 _ => ?_)
            exact ih _ _ g
          · skip
            refine zFi_let (fun v21 _ => ?_)
            refine zFi_if (fun _ => ?_) (fun _ => ?_)
            · skip
              refine zFi_let (fun v23 _ => ?_)
              exact ih _ _ g
            · skip
              refine zFi_let (fun v24 _ => ?_)
              refine zFi_if (fun _ => ?_) (fun _ => ?_)
              · skip
                refine zFi_let (fun v121 _ => ?_)
                exact ih _ _ g
              · skip
                refine zFi_let (fun v26 _ => ?_)
                refine zFi_if (fun _ => ?_) (fun _ => ?_)
                · skip
                  refine zFi_let (fun v28 _ => ?_)
                  refine zFi_if (fun _ => ?_) (fun _ => ?_)
                  · skip
                    refine zFi_let (fun v30 _ => ?_)
                    refine zFi_let (fun v31 _ => ?_)
                    refine zFi_let (fun v33 _ => ?_)
                    refine zFi_let2 (fun v35 t34 et34 => ?_)
                    have gt34 : zFi A σ t34 := (fi_X11_sign g h0 h1 h2 h3).of et34
                    refine zFi_let (fun v38 _ => ?_)
                    exact ih _ _ gt34
                  · skip
                    refine zFi_let (fun v39 _ => ?_)
                    refine zFi_let (fun v40 _ => ?_)
                    exact fi_X11_cut_208 ih h0 h1 h2 h3 _ _ _ _ g
                · skip
                  refine zFi_let (fun v73 _ => ?_)
                  refine zFi_let (fun v74 _ => ?_)
                  exact fi_X11_cut_85 ih h0 h1 h2 h3 _ _ _ _ g
      · skip
        refine zFi_let (fun v122 _ => ?_)
        refine zFi_let (fun v123 _ => ?_)
        refine zFi_let (fun v124 _ => ?_)
        refine zFi_let (fun v125 _ => ?_)
        refine zFi_let (fun t126 et126 => ?_)
        have gt126 : zFi A σ t126 := by rw [et126]; exact fi_X11_token g h0 h1 h2 h3
        exact gt126
set_option maxRecDepth 100000 in
theorem fi_X11_cut {A : Nat → Nat → Prop} {σ σ0 : zS} {a0 : Nat}  (g : zFi A σ σ0) (h0 : A a0 10) (h1 : ∀ j, A ((σ.2.2 a0 5).getD 0) j) (h2 : ∀ j, A ((σ.2.2 a0 6).getD 0) j) (h3 : ∀ j, A ((σ.2.2 a0 7).getD 0) j) : zFi A σ (F_X11_cut a0 σ0) := by
  unfold F_X11_cut
  refine zFi_let (fun v1 _ => ?_)
  refine zFi_let (fun s2 es2 => ?_)
  have gs2 : zFi A σ s2 := by rw [es2]; exact g.w h0
  refine zFi_let (fun v5 _ => ?_)
  exact fi_X11_cut_7  h1 h2 h3 h0 _ _ _ gs2
set_option maxRecDepth 100000 in
theorem fi_X11_plain_37 {A : Nat → Nat → Prop} {σ : zS} {a0 : Nat} {p1 : Int32}  (h0 : ∀ j, A ((σ.2.2 a0 30).getD 0) j) (h1 : ∀ j, A ((σ.2.2 a0 31).getD 0) j) : ∀ (n : Nat) (x22 : Int32) (τ23 : zS), zFi A σ τ23 → zFi A σ (F_X11_plain_37 a0 p1 n x22 τ23) := by
  intro n
  induction n with
  | zero => intro x22 τ23 g; exact g
  | succ n ih =>
    intro x22 τ23 g
    rw [F_X11_plain_37]
    refine zFi_let (fun v24 _ => ?_)
    refine zFi_if (fun _ => ?_) (fun _ => ?_)
    · skip
      refine zFi_let (fun v26 ev26 => ?_)
      rw [g.rf] at ev26
      subst ev26
      refine zFi_let (fun v27 _ => ?_)
      refine zFi_let (fun v28 _ => ?_)
      refine zFi_let (fun v29 _ => ?_)
      refine zFi_let (fun v30 _ => ?_)
      refine zFi_let (fun s31 es31 => ?_)
      have gs31 : zFi A σ s31 := by rw [es31]; exact g.w (h0 _)
      refine zFi_let (fun v33 ev33 => ?_)
      rw [gs31.rf] at ev33
      subst ev33
      refine zFi_let (fun v34 _ => ?_)
      refine zFi_let (fun v35 _ => ?_)
      refine zFi_let (fun v36 _ => ?_)
      refine zFi_let (fun v37 _ => ?_)
      refine zFi_let (fun s38 es38 => ?_)
      have gs38 : zFi A σ s38 := by rw [es38]; exact gs31.w (h1 _)
      refine zFi_let (fun v40 _ => ?_)
      exact ih _ _ gs38
    · skip
      exact g
set_option maxRecDepth 100000 in
theorem fi_X11_plain {A : Nat → Nat → Prop} {σ σ0 : zS} {a0 : Nat} {p1 : Int32}  (g : zFi A σ σ0) (h0 : ∀ j, A ((σ.2.2 a0 21).getD 0) j) (h1 : ∀ j, A ((σ.2.2 a0 26).getD 0) j) (h2 : ∀ j, A ((σ.2.2 a0 27).getD 0) j) (h3 : ∀ j, A ((σ.2.2 a0 28).getD 0) j) (h4 : ∀ j, A ((σ.2.2 a0 29).getD 0) j) (h5 : ∀ j, A ((σ.2.2 a0 30).getD 0) j) (h6 : ∀ j, A ((σ.2.2 a0 31).getD 0) j) : zFi A σ (F_X11_plain a0 p1 σ0) := by
  unfold F_X11_plain
  refine zFi_let (fun v1 ev1 => ?_)
  rw [g.rf] at ev1
  subst ev1
  refine zFi_let (fun v2 _ => ?_)
  refine zFi_let (fun s3 es3 => ?_)
  have gs3 : zFi A σ s3 := by rw [es3]; exact g.w (h0 _)
  refine zFi_let (fun v5 ev5 => ?_)
  rw [gs3.rf] at ev5
  subst ev5
  refine zFi_let (fun v6 _ => ?_)
  refine zFi_let (fun s7 es7 => ?_)
  have gs7 : zFi A σ s7 := by rw [es7]; exact gs3.w (h1 _)
  refine zFi_let (fun v9 ev9 => ?_)
  rw [gs7.rf] at ev9
  subst ev9
  refine zFi_let (fun v10 _ => ?_)
  refine zFi_let (fun s11 es11 => ?_)
  have gs11 : zFi A σ s11 := by rw [es11]; exact gs7.w (h2 _)
  refine zFi_let (fun v13 ev13 => ?_)
  rw [gs11.rf] at ev13
  subst ev13
  refine zFi_let (fun v14 _ => ?_)
  refine zFi_let (fun s15 es15 => ?_)
  have gs15 : zFi A σ s15 := by rw [es15]; exact gs11.w (h3 _)
  refine zFi_let (fun v17 ev17 => ?_)
  rw [gs15.rf] at ev17
  subst ev17
  refine zFi_let (fun v18 _ => ?_)
  refine zFi_let (fun s19 es19 => ?_)
  have gs19 : zFi A σ s19 := by rw [es19]; exact gs15.w (h4 _)
  refine zFi_let (fun v21 _ => ?_)
  exact fi_X11_plain_37  h5 h6 _ _ _ gs19
