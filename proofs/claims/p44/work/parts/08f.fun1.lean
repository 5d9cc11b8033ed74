set_option maxRecDepth 100000 in
noncomputable def F_X10_isWithin (p1 : Int32) (p2 : Int32) (p3 : Int32) : Int32 :=
  if p1.toInt < p2.toInt then
    zLet ((0 : Int32)) fun v4 =>
    v4
  else
    if p3.toInt < p1.toInt then
      zLet ((0 : Int32)) fun v8 =>
      v8
    else
      zLet ((1 : Int32)) fun v9 =>
      v9
set_option maxRecDepth 100000 in
noncomputable def F_X10_bit (p1 : Int32) : Int32 :=
  zLet ((1 : Int32)) fun v1 =>
  zLet (v1 <<< (p1 &&& 31)) fun v2 =>
  v2
set_option maxRecDepth 100000 in
noncomputable def F_X10_has (p1 : Int32) (p2 : Int32) : Int32 :=
  zLet (F_X10_bit p2) fun v1 =>
  zLet (p1 &&& v1) fun v2 =>
  if v2.toInt = 0 then
    zLet ((0 : Int32)) fun v4 =>
    v4
  else
    zLet ((1 : Int32)) fun v5 =>
    v5
set_option maxRecDepth 100000 in
noncomputable def F_X10_held (p1 : Int32) (p2 : Int32) (p3 : Int32) : Int32 :=
  zLet (if p3.toInt ≤ p1.toInt then p3 else p1) fun v1 =>
  zLet (if p2.toInt ≤ v1.toInt then v1 else p2) fun v2 =>
  v2
set_option maxRecDepth 100000 in
noncomputable def F_X10_bitAt_4 (p1 : Int32) (p2 : Int32)  : Nat → Int32 → Int32 → Int32
  | 0, _, _ => 0
  | n + 1, x3, x4 =>
    zLet ((12 : Int32)) fun v6 =>
    if x3.toInt < v6.toInt then
      zLet (F_X10_has p1 x3) fun v9 =>
      if v9.toInt = 0 then
        zLet (x3 + (1 : Int32)) fun v11 =>
        F_X10_bitAt_4 p1 p2  n v11 x4
      else
        if x4.toInt = p2.toInt then
          x3
        else
          zLet (x4 + (1 : Int32)) fun v13 =>
          zLet (x3 + (1 : Int32)) fun v14 =>
          F_X10_bitAt_4 p1 p2  n v14 v13
    else
      zLet ((-1 : Int32)) fun v8 =>
      v8
set_option maxRecDepth 100000 in
noncomputable def F_X10_bitAt (p1 : Int32) (p2 : Int32) : Int32 :=
  zLet ((0 : Int32)) fun v1 =>
  zLet ((0 : Int32)) fun v2 =>
  F_X10_bitAt_4 p1 p2  10000 v2 v1
set_option maxRecDepth 100000 in
noncomputable def F_X9_addStep (a0 : Nat) (p1 : Int32) (p2 : Int32) (σ : zS) : zS :=
  zLet (σ.1 a0 8) fun v1 =>
  zLet ((420 : Int32)) fun v2 =>
  if v1.toInt < v2.toInt then
    zLet ((σ.2.2 a0 6).getD 0) fun v4 =>
    zLet (σ.1 a0 8) fun v5 =>
    zLet ((zu σ.1 v4 v5.toNatClampNeg p1, σ.2.1, σ.2.2)) fun s6 =>
    zLet ((s6.2.2 a0 7).getD 0) fun v8 =>
    zLet (s6.1 a0 8) fun v9 =>
    zLet ((zu s6.1 v8 v9.toNatClampNeg p2, s6.2.1, s6.2.2)) fun s10 =>
    zLet (s10.1 a0 8) fun v12 =>
    zLet ((1 : Int32)) fun v13 =>
    zLet (v12 + v13) fun v14 =>
    zLet ((zu s10.1 a0 8 v14, s10.2.1, s10.2.2)) fun s15 =>
    s15
  else
    σ
set_option maxRecDepth 100000 in
noncomputable def F_X9_setValue (a0 : Nat) (p1 : Int32) (p2 : Int32) (σ : zS) : zS :=
  if p1.toInt < 0 then
    σ
  else
    zLet (σ.1 a0 8) fun v2 =>
    if p1.toInt < v2.toInt then
      zLet ((σ.2.2 a0 7).getD 0) fun v5 =>
      zLet ((zu σ.1 v5 p1.toNatClampNeg p2, σ.2.1, σ.2.2)) fun s6 =>
      s6
    else
      σ
set_option maxRecDepth 100000 in
noncomputable def F_X9_setPlace (a0 : Nat) (p1 : Int32) (p2 : Int32) (p3 : Int32) (p4 : Int32) (p5 : Int32) (σ : zS) : zS :=
  if p1.toInt < 0 then
    σ
  else
    zLet ((12 : Int32)) fun v2 =>
    if p1.toInt < v2.toInt then
      zLet ((σ.2.2 a0 2).getD 0) fun v5 =>
      zLet ((zu σ.1 v5 p1.toNatClampNeg p2, σ.2.1, σ.2.2)) fun s6 =>
      zLet ((s6.2.2 a0 3).getD 0) fun v7 =>
      zLet ((zu s6.1 v7 p1.toNatClampNeg p3, s6.2.1, s6.2.2)) fun s8 =>
      zLet ((s8.2.2 a0 4).getD 0) fun v9 =>
      zLet ((zu s8.1 v9 p1.toNatClampNeg p4, s8.2.1, s8.2.2)) fun s10 =>
      zLet ((s10.2.2 a0 5).getD 0) fun v11 =>
      zLet ((zu s10.1 v11 p1.toNatClampNeg p5, s10.2.1, s10.2.2)) fun s12 =>
      s12
    else
      σ
set_option maxRecDepth 100000 in
noncomputable def F_X9_stirred (p1 : Int32) (p2 : Int32) : Int32 :=
  zLet (p1 ^^^ p2) fun v1 =>
  zLet ((1103515245 : Int32)) fun v2 =>
  zLet (v1 * v2) fun v3 =>
  zLet ((12345 : Int32)) fun v4 =>
  zLet (v3 + v4) fun v5 =>
  zLet ((15 : Int32)) fun v6 =>
  zLet ((v5.toUInt32 >>> (v6.toUInt32 &&& Int32.toUInt32 31)).toInt32) fun v7 =>
  zLet (v5 ^^^ v7) fun v8 =>
  v8
set_option maxRecDepth 100000 in
noncomputable def F_X9_lot (p1 : Int32) (p2 : Int32) (p3 : Int32) : Int32 :=
  zLet ((147 : Int32)) fun v1 =>
  zLet (F_X9_stirred p2 v1) fun v2 =>
  zLet (F_X9_stirred v2 p3) fun v3 =>
  zLet ((1 : Int32)) fun v4 =>
  zLet ((v3.toUInt32 >>> (v4.toUInt32 &&& Int32.toUInt32 31)).toInt32) fun v5 =>
  zLet ((1 : Int32)) fun v6 =>
  zLet (if v6.toInt ≤ p1.toInt then p1 else v6) fun v7 =>
  zLet (v5 - v5 / v7 * v7) fun v8 =>
  v8
set_option maxRecDepth 100000 in
noncomputable def F_X9_isStorm (a0 : Nat) (p1 : Int32) (p2 : Int32) (σ : zS) : Int32 × zS :=
  zLet ((100 : Int32)) fun v1 =>
  zLet ((4 : Int32)) fun v2 =>
  zLet (v2 * p2) fun v3 =>
  zLet (F_X9_lot v1 p1 v3) fun v4 =>
  zLet (σ.1 a0 10) fun v5 =>
  if v4.toInt < v5.toInt then
    zLet ((1 : Int32)) fun v10 =>
    (v10, σ)
  else
    zLet ((0 : Int32)) fun v9 =>
    (v9, σ)
set_option maxRecDepth 100000 in
noncomputable def F_X1_moon (a0 : Nat) (σ : zS) : Int32 × zS :=
  zLet (σ.1 a0 4) fun v1 =>
  zLet ((12 : Int32)) fun v2 =>
  zLet (v1 - v1 / v2 * v2) fun v3 =>
  (v3, σ)
set_option maxRecDepth 100000 in
noncomputable def F_X1_comesBy_5 (a0 : Nat) (p1 : Int32) (p2 : Int32)  : Nat → Int32 → Int32 → zS → Int32 × zS
  | 0, _, _, s => (0, s)
  | n + 1, x2, x3, τ4 =>
    zLet ((12 : Int32)) fun v5 =>
    if x2.toInt < v5.toInt then
      if x3.toInt = p2.toInt then
        if x3.toInt = p2.toInt then
          zLet ((1 : Int32)) fun v13 =>
          (v13, τ4)
        else
          zLet ((0 : Int32)) fun v12 =>
          (v12, τ4)
      else
        if x3.toInt = 0 then
          if x3.toInt = p2.toInt then
            zLet ((1 : Int32)) fun v17 =>
            (v17, τ4)
          else
            zLet ((0 : Int32)) fun v16 =>
            (v16, τ4)
        else
          zLet ((τ4.2.2 a0 0).getD 0) fun v18 =>
          zLet (τ4.1 v18 x3.toNatClampNeg) fun v19 =>
          zLet (x2 + (1 : Int32)) fun v20 =>
          F_X1_comesBy_5 a0 p1 p2  n v20 v19 τ4
    else
      if x3.toInt = p2.toInt then
        zLet ((1 : Int32)) fun v9 =>
        (v9, τ4)
      else
        zLet ((0 : Int32)) fun v8 =>
        (v8, τ4)
set_option maxRecDepth 100000 in
noncomputable def F_X1_comesBy (a0 : Nat) (p1 : Int32) (p2 : Int32) (σ : zS) : Int32 × zS :=
  zLet ((0 : Int32)) fun v1 =>
  F_X1_comesBy_5 a0 p1 p2  10000 v1 p1 σ
set_option maxRecDepth 100000 in
noncomputable def F_X1_copy (a0 : Nat) (p1 : Nat) (σ : zS) : zS :=
  zLet ((σ.2.2 p1 0).getD 0) fun v1 =>
  zLet ((0 : Int32)) fun v2 =>
  zLet ((σ.2.2 a0 0).getD 0) fun v3 =>
  zLet ((0 : Int32)) fun v4 =>
  zLet ((12 : Int32)) fun v5 =>
  zLet (zcpy σ v1 v3 12) fun s6 =>
  zLet ((s6.2.2 p1 1).getD 0) fun v7 =>
  zLet ((0 : Int32)) fun v8 =>
  zLet ((s6.2.2 a0 1).getD 0) fun v9 =>
  zLet ((0 : Int32)) fun v10 =>
  zLet ((12 : Int32)) fun v11 =>
  zLet (zcpy s6 v7 v9 12) fun s12 =>
  zLet ((s12.2.2 p1 2).getD 0) fun v13 =>
  zLet ((0 : Int32)) fun v14 =>
  zLet ((s12.2.2 a0 2).getD 0) fun v15 =>
  zLet ((0 : Int32)) fun v16 =>
  zLet ((12 : Int32)) fun v17 =>
  zLet (zcpy s12 v13 v15 12) fun s18 =>
  zLet (s18.1 p1 3) fun v19 =>
  zLet ((zu s18.1 a0 3 v19, s18.2.1, s18.2.2)) fun s20 =>
  zLet (s20.1 p1 4) fun v21 =>
  zLet ((zu s20.1 a0 4 v21, s20.2.1, s20.2.2)) fun s22 =>
  zLet (s22.1 p1 5) fun v23 =>
  zLet ((zu s22.1 a0 5 v23, s22.2.1, s22.2.2)) fun s24 =>
  s24
set_option maxRecDepth 100000 in
noncomputable def F_X1_pay (a0 : Nat) (p1 : Int32) (p2 : Int32) (σ : zS) : zS :=
  zLet ((σ.2.2 a0 2).getD 0) fun v1 =>
  zLet (σ.1 v1 p1.toNatClampNeg) fun v2 =>
  zLet (v2 + p2) fun v3 =>
  zLet ((zu σ.1 v1 p1.toNatClampNeg v3, σ.2.1, σ.2.2)) fun s4 =>
  zLet ((s4.2.2 a0 1).getD 0) fun v5 =>
  zLet ((999 : Int32)) fun v6 =>
  zLet ((s4.2.2 a0 1).getD 0) fun v7 =>
  zLet (s4.1 v7 p1.toNatClampNeg) fun v8 =>
  zLet ((1 : Int32)) fun v9 =>
  zLet (v8 + v9) fun v10 =>
  zLet (if v6.toInt ≤ v10.toInt then v6 else v10) fun v11 =>
  zLet ((zu s4.1 v5 p1.toNatClampNeg v11, s4.2.1, s4.2.2)) fun s12 =>
  s12
set_option maxRecDepth 100000 in
noncomputable def F_X4_push (a0 : Nat) (p1 : Nat) (σ : zS) : zS :=
  zLet ((σ.2.2 a0 0).getD 0) fun v1 =>
  zLet (σ.1 a0 1) fun v2 =>
  zLet ((σ.2.2 v1 v2.toNatClampNeg).getD 0) fun v3 =>
  zLet (F_X1_copy v3 p1 σ) fun s4 =>
  zLet (s4.1 a0 1) fun v5 =>
  zLet ((1 : Int32)) fun v6 =>
  zLet (v5 + v6) fun v7 =>
  zLet ((40 : Int32)) fun v8 =>
  zLet (v7 - v7 / v8 * v8) fun v9 =>
  zLet ((zu s4.1 a0 1 v9, s4.2.1, s4.2.2)) fun s10 =>
  zLet ((40 : Int32)) fun v13 =>
  zLet (s10.1 a0 2) fun v14 =>
  zLet ((1 : Int32)) fun v15 =>
  zLet (v14 + v15) fun v16 =>
  zLet (if v13.toInt ≤ v16.toInt then v13 else v16) fun v17 =>
  zLet ((zu s10.1 a0 2 v17, s10.2.1, s10.2.2)) fun s18 =>
  s18
set_option maxRecDepth 100000 in
noncomputable def F_X4_pop (a0 : Nat) (p1 : Nat) (σ : zS) : Int32 × zS :=
  zLet (σ.1 a0 2) fun v1 =>
  if v1.toInt = 0 then
    zLet ((0 : Int32)) fun v26 =>
    (v26, σ)
  else
    zLet (σ.1 a0 1) fun v3 =>
    zLet ((40 : Int32)) fun v4 =>
    zLet (v3 + v4) fun v5 =>
    zLet ((1 : Int32)) fun v6 =>
    zLet (v5 - v6) fun v7 =>
    zLet ((40 : Int32)) fun v8 =>
    zLet (v7 - v7 / v8 * v8) fun v9 =>
    zLet ((zu σ.1 a0 1 v9, σ.2.1, σ.2.2)) fun s10 =>
    zLet (s10.1 a0 2) fun v14 =>
    zLet ((1 : Int32)) fun v15 =>
    zLet (v14 - v15) fun v16 =>
    zLet ((zu s10.1 a0 2 v16, s10.2.1, s10.2.2)) fun s17 =>
    zLet ((s17.2.2 a0 0).getD 0) fun v21 =>
    zLet (s17.1 a0 1) fun v22 =>
    zLet ((s17.2.2 v21 v22.toNatClampNeg).getD 0) fun v23 =>
    zLet (F_X1_copy p1 v23 s17) fun s24 =>
    zLet ((1 : Int32)) fun v25 =>
    (v25, s24)
set_option maxRecDepth 100000 in
noncomputable def F_X0_answer_13 (a0 : Nat) (p1 : Nat) (p2 : Int32)  : Nat → Int32 → Int32 → Int32 → zS → Int32 × zS
  | 0, _, _, _, s => (0, s)
  | n + 1, x5, x6, x7, τ8 =>
    zLet ((420 : Int32)) fun v9 =>
    if x5.toInt < v9.toInt then
      if x6.toInt < 0 then
        zLet ((0 : Int32)) fun v13 =>
        (v13, τ8)
      else
        zLet (τ8.1 p1 8) fun v14 =>
        if x6.toInt < v14.toInt then
          zLet ((τ8.2.2 p1 6).getD 0) fun v18 =>
          zLet (τ8.1 v18 x6.toNatClampNeg) fun v19 =>
          zLet ((τ8.2.2 p1 7).getD 0) fun v20 =>
          zLet (τ8.1 v20 x6.toNatClampNeg) fun v21 =>
          zLet (x6 + (1 : Int32)) fun v22 =>
          zLet ((7 : Int32)) fun v23 =>
          if v19.toInt = v23.toInt then
            if 0 < x7.toInt then
              zLet ((τ8.2.2 a0 1).getD 0) fun v109 =>
              zLet ((1 : Int32)) fun v110 =>
              zLet (x7 - v110) fun v111 =>
              zLet (τ8.1 v109 v111.toNatClampNeg) fun v112 =>
              (v112, τ8)
            else
              zLet ((0 : Int32)) fun v108 =>
              (v108, τ8)
          else
            if v19.toInt = 0 then
              zLet ((32 : Int32)) fun v26 =>
              if x7.toInt < v26.toInt then
                if v21.toInt < 0 then
                  zLet ((0 : Int32)) fun v30 =>
                  (v30, τ8)
                else
                  zLet ((1 : Int32)) fun v31 =>
                  if v19.toInt = v31.toInt then
                    (0, τ8)
                  else
                    zLet ((τ8.2.2 a0 1).getD 0) fun v33 =>
                    if v19.toInt = 0 then
                      zLet ((zu τ8.1 v33 x7.toNatClampNeg v21, τ8.2.1, τ8.2.2)) fun s35 =>
                      zLet (x7 + (1 : Int32)) fun v36 =>
                      zLet (x5 + (1 : Int32)) fun v37 =>
                      F_X0_answer_13 a0 p1 p2  n v37 v22 v36 s35
                    else
                      (0, τ8)
              else
                zLet ((0 : Int32)) fun v28 =>
                (v28, τ8)
            else
              zLet ((1 : Int32)) fun v38 =>
              if v19.toInt = v38.toInt then
                zLet ((32 : Int32)) fun v89 =>
                if x7.toInt < v89.toInt then
                  if v21.toInt < 0 then
                    zLet ((0 : Int32)) fun v93 =>
                    (v93, τ8)
                  else
                    zLet ((1 : Int32)) fun v94 =>
                    if v19.toInt = v94.toInt then
                      zLet ((9 : Int32)) fun v96 =>
                      if v21.toInt < v96.toInt then
                        zLet ((τ8.2.2 a0 1).getD 0) fun v99 =>
                        if v19.toInt = 0 then
                          (0, τ8)
                        else
                          zLet ((τ8.2.2 a0 0).getD 0) fun v101 =>
                          zLet (τ8.1 v101 v21.toNatClampNeg) fun v102 =>
                          zLet ((zu τ8.1 v99 x7.toNatClampNeg v102, τ8.2.1, τ8.2.2)) fun s103 =>
                          zLet (x7 + (1 : Int32)) fun v104 =>
                          zLet (x5 + (1 : Int32)) fun v105 =>
                          F_X0_answer_13 a0 p1 p2  n v105 v22 v104 s103
                      else
                        zLet ((0 : Int32)) fun v106 =>
                        (v106, τ8)
                    else
                      (0, τ8)
                else
                  zLet ((0 : Int32)) fun v91 =>
                  (v91, τ8)
              else
                zLet ((2 : Int32)) fun v40 =>
                if x7.toInt < v40.toInt then
                  zLet ((0 : Int32)) fun v88 =>
                  (v88, τ8)
                else
                  zLet (x7 + (-1 : Int32)) fun v42 =>
                  zLet ((τ8.2.2 a0 1).getD 0) fun v43 =>
                  zLet (τ8.1 v43 v42.toNatClampNeg) fun v44 =>
                  zLet ((τ8.2.2 a0 1).getD 0) fun v45 =>
                  zLet ((1 : Int32)) fun v46 =>
                  zLet (v42 - v46) fun v47 =>
                  zLet (τ8.1 v45 v47.toNatClampNeg) fun v48 =>
                  if v19.toInt = 2 then
                    zLet ((τ8.2.2 a0 1).getD 0) fun v50 =>
                    zLet ((1 : Int32)) fun v51 =>
                    zLet (v42 - v51) fun v52 =>
                    zLet (v48 + v44) fun v53 =>
                    zLet ((zu τ8.1 v50 v52.toNatClampNeg v53, τ8.2.1, τ8.2.2)) fun s54 =>
                    zLet (x5 + (1 : Int32)) fun v55 =>
                    F_X0_answer_13 a0 p1 p2  n v55 v22 v42 s54
                  else
                    if v19.toInt = 3 then
                      zLet ((τ8.2.2 a0 1).getD 0) fun v57 =>
                      zLet ((1 : Int32)) fun v58 =>
                      zLet (v42 - v58) fun v59 =>
                      zLet (v48 - v44) fun v60 =>
                      zLet ((zu τ8.1 v57 v59.toNatClampNeg v60, τ8.2.1, τ8.2.2)) fun s61 =>
                      zLet (x5 + (1 : Int32)) fun v62 =>
                      F_X0_answer_13 a0 p1 p2  n v62 v22 v42 s61
                    else
                      if v19.toInt = 4 then
                        zLet ((τ8.2.2 a0 1).getD 0) fun v64 =>
                        zLet ((1 : Int32)) fun v65 =>
                        zLet (v42 - v65) fun v66 =>
                        zLet (v48 * v44) fun v67 =>
                        zLet ((zu τ8.1 v64 v66.toNatClampNeg v67, τ8.2.1, τ8.2.2)) fun s68 =>
                        zLet (x5 + (1 : Int32)) fun v69 =>
                        F_X0_answer_13 a0 p1 p2  n v69 v22 v42 s68
                      else
                        if v19.toInt = 5 then
                          if v44.toInt = 0 then
                            zLet ((0 : Int32)) fun v78 =>
                            (v78, τ8)
                          else
                            zLet ((τ8.2.2 a0 1).getD 0) fun v72 =>
                            zLet ((1 : Int32)) fun v73 =>
                            zLet (v42 - v73) fun v74 =>
                            zLet (v48 / v44) fun v75 =>
                            zLet ((zu τ8.1 v72 v74.toNatClampNeg v75, τ8.2.1, τ8.2.2)) fun s76 =>
                            zLet (x5 + (1 : Int32)) fun v77 =>
                            F_X0_answer_13 a0 p1 p2  n v77 v22 v42 s76
                        else
                          zLet (v42 + (-1 : Int32)) fun v79 =>
                          if v48.toInt < v44.toInt then
                            zLet (x5 + (1 : Int32)) fun v83 =>
                            F_X0_answer_13 a0 p1 p2  n v83 v22 v79 τ8
                          else
                            if v22.toInt < v21.toInt then
                              zLet (x5 + (1 : Int32)) fun v87 =>
                              F_X0_answer_13 a0 p1 p2  n v87 v21 v79 τ8
                            else
                              zLet (x5 + (1 : Int32)) fun v86 =>
                              F_X0_answer_13 a0 p1 p2  n v86 v22 v79 τ8
        else
          zLet ((0 : Int32)) fun v17 =>
          (v17, τ8)
    else
      zLet ((0 : Int32)) fun v11 =>
      (v11, τ8)
set_option maxRecDepth 100000 in
noncomputable def F_X0_answer (a0 : Nat) (p1 : Nat) (p2 : Int32) (σ : zS) : Int32 × zS :=
  zLet ((0 : Int32)) fun v1 =>
  zLet ((σ.2.2 p1 9).getD 0) fun v2 =>
  zLet (σ.1 v2 p2.toNatClampNeg) fun v3 =>
  zLet ((0 : Int32)) fun v4 =>
  F_X0_answer_13 a0 p1 p2  10000 v4 v3 v1 σ
set_option maxRecDepth 100000 in
noncomputable def F_J6_bitCount_0f7a4 (p1 : Int32) : Int32 :=
  zLet ((1 : Int32)) fun v1 =>
  zLet ((p1.toUInt32 >>> (v1.toUInt32 &&& Int32.toUInt32 31)).toInt32) fun v2 =>
  zLet ((1431655765 : Int32)) fun v3 =>
  zLet (v2 &&& v3) fun v4 =>
  zLet (p1 - v4) fun v5 =>
  zLet ((858993459 : Int32)) fun v6 =>
  zLet (v5 &&& v6) fun v7 =>
  zLet ((2 : Int32)) fun v8 =>
  zLet ((v5.toUInt32 >>> (v8.toUInt32 &&& Int32.toUInt32 31)).toInt32) fun v9 =>
  zLet ((858993459 : Int32)) fun v10 =>
  zLet (v9 &&& v10) fun v11 =>
  zLet (v7 + v11) fun v12 =>
  zLet ((4 : Int32)) fun v13 =>
  zLet ((v12.toUInt32 >>> (v13.toUInt32 &&& Int32.toUInt32 31)).toInt32) fun v14 =>
  zLet (v12 + v14) fun v15 =>
  zLet ((252645135 : Int32)) fun v16 =>
  zLet (v15 &&& v16) fun v17 =>
  zLet ((8 : Int32)) fun v18 =>
  zLet ((v17.toUInt32 >>> (v18.toUInt32 &&& Int32.toUInt32 31)).toInt32) fun v19 =>
  zLet (v17 + v19) fun v20 =>
  zLet ((16 : Int32)) fun v21 =>
  zLet ((v20.toUInt32 >>> (v21.toUInt32 &&& Int32.toUInt32 31)).toInt32) fun v22 =>
  zLet (v20 + v22) fun v23 =>
  zLet ((63 : Int32)) fun v24 =>
  zLet (v23 &&& v24) fun v25 =>
  v25
set_option maxRecDepth 100000 in
noncomputable def F_X9_clear_12 (a0 : Nat)  : Nat → Int32 → zS → zS
  | 0, _, s => s
  | n + 1, x6, τ7 =>
    zLet ((5 : Int32)) fun v8 =>
    if x6.toInt < v8.toInt then
      zLet (([0, -1, 1, 4, 2] : List Int32).getD x6.toNatClampNeg 0) fun v19 =>
      zLet ((τ7.2.2 a0 9).getD 0) fun v20 =>
      zLet (τ7.1 a0 8) fun v21 =>
      zLet ((zu τ7.1 v20 x6.toNatClampNeg v21, τ7.2.1, τ7.2.2)) fun s22 =>
      zLet ((-1 : Int32)) fun v23 =>
      if v19.toInt = v23.toInt then
        zLet ((0 : Int32)) fun v39 =>
        zLet ((-1 : Int32)) fun v40 =>
        if v19.toInt = v40.toInt then
          zLet ((0 : Int32)) fun v42 =>
          zLet (F_X9_addStep a0 v39 v42 s22) fun s43 =>
          zLet ((7 : Int32)) fun v44 =>
          zLet ((0 : Int32)) fun v45 =>
          zLet (F_X9_addStep a0 v44 v45 s43) fun s46 =>
          zLet (x6 + (1 : Int32)) fun v47 =>
          F_X9_clear_12 a0  n v47 s46
        else
          s22
      else
        zLet ((1 : Int32)) fun v25 =>
        zLet ((-1 : Int32)) fun v26 =>
        if v19.toInt = v26.toInt then
          zLet ((0 : Int32)) fun v33 =>
          zLet (F_X9_addStep a0 v25 v33 s22) fun s34 =>
          zLet ((7 : Int32)) fun v35 =>
          zLet ((0 : Int32)) fun v36 =>
          zLet (F_X9_addStep a0 v35 v36 s34) fun s37 =>
          zLet (x6 + (1 : Int32)) fun v38 =>
          F_X9_clear_12 a0  n v38 s37
        else
          zLet (F_X9_addStep a0 v25 v19 s22) fun s28 =>
          zLet ((7 : Int32)) fun v29 =>
          zLet ((0 : Int32)) fun v30 =>
          zLet (F_X9_addStep a0 v29 v30 s28) fun s31 =>
          zLet (x6 + (1 : Int32)) fun v32 =>
          F_X9_clear_12 a0  n v32 s31
    else
      zLet ((0 : Int32)) fun v10 =>
      zLet ((zu τ7.1 a0 10 v10, τ7.2.1, τ7.2.2)) fun s11 =>
      zLet ((0 : Int32)) fun v12 =>
      zLet ((zu s11.1 a0 11 v12, s11.2.1, s11.2.2)) fun s13 =>
      zLet ((1 : Int32)) fun v14 =>
      zLet ((zu s13.1 a0 12 v14, s13.2.1, s13.2.2)) fun s15 =>
      zLet ((0 : Int32)) fun v16 =>
      zLet ((zu s15.1 a0 13 v16, s15.2.1, s15.2.2)) fun s17 =>
      s17
set_option maxRecDepth 100000 in
noncomputable def F_X9_clear (a0 : Nat) (σ : zS) : zS :=
  zLet ((0 : Int32)) fun v1 =>
  zLet ((zu σ.1 a0 0 v1, σ.2.1, σ.2.2)) fun s2 =>
  zLet ((0 : Int32)) fun v3 =>
  zLet ((zu s2.1 a0 8 v3, s2.2.1, s2.2.2)) fun s4 =>
  zLet ((0 : Int32)) fun v5 =>
  F_X9_clear_12 a0  10000 v5 s4
set_option maxRecDepth 100000 in
noncomputable def F_X1_begin (a0 : Nat) (p1 : Nat) (σ : zS) : zS :=
  zLet ((σ.2.2 p1 2).getD 0) fun v1 =>
  zLet ((0 : Int32)) fun v2 =>
  zLet ((σ.2.2 a0 0).getD 0) fun v3 =>
  zLet ((0 : Int32)) fun v4 =>
  zLet ((12 : Int32)) fun v5 =>
  zLet (zcpy σ v1 v3 12) fun s6 =>
  zLet ((s6.2.2 a0 1).getD 0) fun v7 =>
  zLet ((0 : Int32)) fun v8 =>
  zLet (zfil s6 v7 v8 12) fun s9 =>
  zLet ((s9.2.2 a0 2).getD 0) fun v10 =>
  zLet ((0 : Int32)) fun v11 =>
  zLet (zfil s9 v10 v11 12) fun s12 =>
  zLet ((0 : Int32)) fun v13 =>
  zLet ((zu s12.1 a0 3 v13, s12.2.1, s12.2.2)) fun s14 =>
  zLet ((0 : Int32)) fun v15 =>
  zLet ((zu s14.1 a0 4 v15, s14.2.1, s14.2.2)) fun s16 =>
  zLet ((0 : Int32)) fun v17 =>
  zLet ((zu s16.1 a0 5 v17, s16.2.1, s16.2.2)) fun s18 =>
  s18
set_option maxRecDepth 100000 in
noncomputable def F_X6_isSource (a0 : Nat) (p1 : Int32) (σ : zS) : Int32 × zS :=
  if 0 < p1.toInt then
    zLet (σ.1 a0 0) fun v3 =>
    if p1.toInt < v3.toInt then
      zLet ((σ.2.2 a0 4).getD 0) fun v7 =>
      zLet (σ.1 v7 p1.toNatClampNeg) fun v8 =>
      if v8.toInt = 0 then
        zLet ((1 : Int32)) fun v11 =>
        (v11, σ)
      else
        zLet ((0 : Int32)) fun v10 =>
        (v10, σ)
    else
      zLet ((0 : Int32)) fun v6 =>
      (v6, σ)
  else
    zLet ((0 : Int32)) fun v2 =>
    (v2, σ)
set_option maxRecDepth 100000 in
noncomputable def F_X6_sources_4 (a0 : Nat)  : Nat → Int32 → Int32 → zS → Int32 × zS
  | 0, _, _, s => (0, s)
  | n + 1, x3, x4, τ5 =>
    zLet (τ5.1 a0 0) fun v6 =>
    if x3.toInt < v6.toInt then
      zLet ((τ5.2.2 a0 4).getD 0) fun v8 =>
      zLet (τ5.1 v8 x3.toNatClampNeg) fun v9 =>
      if v9.toInt = 0 then
        zLet (F_X10_bit x3) fun v12 =>
        zLet (x4 ||| v12) fun v13 =>
        zLet (x3 + (1 : Int32)) fun v14 =>
        F_X6_sources_4 a0  n v14 v13 τ5
      else
        zLet (x3 + (1 : Int32)) fun v11 =>
        F_X6_sources_4 a0  n v11 x4 τ5
    else
      (x4, τ5)
set_option maxRecDepth 100000 in
noncomputable def F_X6_sources (a0 : Nat) (σ : zS) : Int32 × zS :=
  zLet ((0 : Int32)) fun v1 =>
  zLet ((1 : Int32)) fun v2 =>
  F_X6_sources_4 a0  10000 v2 v1 σ
set_option maxRecDepth 100000 in
noncomputable def F_X6_comingBy_4 (a0 : Nat) (p1 : Int32)  : Nat → Int32 → Int32 → zS → Int32 × zS
  | 0, _, _, s => (0, s)
  | n + 1, x3, x4, τ5 =>
    zLet (τ5.1 a0 0) fun v6 =>
    if x3.toInt < v6.toInt then
      zLet ((τ5.2.2 a0 6).getD 0) fun v8 =>
      zLet (τ5.1 v8 x3.toNatClampNeg) fun v9 =>
      zLet (F_X10_has v9 p1) fun v10 =>
      if v10.toInt = 0 then
        zLet (x3 + (1 : Int32)) fun v12 =>
        F_X6_comingBy_4 a0 p1  n v12 x4 τ5
      else
        zLet (F_X10_bit x3) fun v13 =>
        zLet (x4 ||| v13) fun v14 =>
        zLet (x3 + (1 : Int32)) fun v15 =>
        F_X6_comingBy_4 a0 p1  n v15 v14 τ5
    else
      (x4, τ5)
set_option maxRecDepth 100000 in
noncomputable def F_X6_comingBy (a0 : Nat) (p1 : Int32) (σ : zS) : Int32 × zS :=
  zLet ((0 : Int32)) fun v1 =>
  zLet ((0 : Int32)) fun v2 =>
  F_X6_comingBy_4 a0 p1  10000 v2 v1 σ
set_option maxRecDepth 100000 in
noncomputable def F_X6_greatestFar_4 (a0 : Nat)  : Nat → Int32 → Int32 → zS → Int32 × zS
  | 0, _, _, s => (0, s)
  | n + 1, x3, x4, τ5 =>
    zLet (τ5.1 a0 0) fun v6 =>
    if x3.toInt < v6.toInt then
      zLet ((τ5.2.2 a0 3).getD 0) fun v8 =>
      zLet (τ5.1 v8 x3.toNatClampNeg) fun v9 =>
      zLet (if x4.toInt ≤ v9.toInt then v9 else x4) fun v10 =>
      zLet (x3 + (1 : Int32)) fun v11 =>
      F_X6_greatestFar_4 a0  n v11 v10 τ5
    else
      (x4, τ5)
set_option maxRecDepth 100000 in
noncomputable def F_X6_greatestFar (a0 : Nat) (σ : zS) : Int32 × zS :=
  zLet ((0 : Int32)) fun v1 =>
  zLet ((0 : Int32)) fun v2 =>
  F_X6_greatestFar_4 a0  10000 v2 v1 σ
set_option maxRecDepth 100000 in
noncomputable def F_X6_deepest_4 (a0 : Nat)  : Nat → Int32 → Int32 → zS → Int32 × zS
  | 0, _, _, s => (0, s)
  | n + 1, x3, x4, τ5 =>
    zLet (τ5.1 a0 0) fun v6 =>
    if x3.toInt < v6.toInt then
      zLet ((τ5.2.2 a0 6).getD 0) fun v8 =>
      zLet (τ5.1 v8 x3.toNatClampNeg) fun v9 =>
      zLet (F_J6_bitCount_0f7a4 v9) fun v10 =>
      zLet (if x4.toInt ≤ v10.toInt then v10 else x4) fun v11 =>
      zLet (x3 + (1 : Int32)) fun v12 =>
      F_X6_deepest_4 a0  n v12 v11 τ5
    else
      (x4, τ5)
set_option maxRecDepth 100000 in
noncomputable def F_X6_deepest (a0 : Nat) (σ : zS) : Int32 × zS :=
  zLet ((0 : Int32)) fun v1 =>
  zLet ((1 : Int32)) fun v2 =>
  F_X6_deepest_4 a0  10000 v2 v1 σ
set_option maxRecDepth 100000 in
noncomputable def F_X6_tourOf_59 (x5 : Int32) (x6 : Int32) (a0 : Nat) (p1 : Int32) (kLp7 : Int32 → Int32 → Int32 → zS → Int32 × zS) : Nat → Int32 → Int32 → zS → Int32 × zS
  | 0, _, _, s => (0, s)
  | n + 1, x12, x13, τ14 =>
    zLet (τ14.1 a0 0) fun v15 =>
    if x12.toInt < v15.toInt then
      zLet (F_X10_has x6 x12) fun v20 =>
      if v20.toInt = 0 then
        zLet (x12 + (1 : Int32)) fun v22 =>
        F_X6_tourOf_59 x5 x6 a0 p1 kLp7 n v22 x13 τ14
      else
        zLet ((τ14.2.2 a0 1).getD 0) fun v23 =>
        zLet (τ14.1 v23 x12.toNatClampNeg) fun v24 =>
        zLet (x13 + v24) fun v25 =>
        zLet (x12 + (1 : Int32)) fun v26 =>
        F_X6_tourOf_59 x5 x6 a0 p1 kLp7 n v26 v25 τ14
    else
      zLet ((2 : Int32)) fun v17 =>
      zLet (v17 * x13) fun v18 =>
      zLet (v18 - x5) fun v19 =>
      (v19, τ14)
set_option maxRecDepth 100000 in
noncomputable def F_X6_tourOf_7 (a0 : Nat) (p1 : Int32)  : Nat → Int32 → Int32 → Int32 → zS → Int32 × zS
  | 0, _, _, _, s => (0, s)
  | n + 1, x4, x5, x6, τ7 =>
    zLet (τ7.1 a0 0) fun v8 =>
    if x4.toInt < v8.toInt then
      zLet (F_X10_has p1 x4) fun v27 =>
      if v27.toInt = 0 then
        zLet (x4 + (1 : Int32)) fun v29 =>
        F_X6_tourOf_7 a0 p1  n v29 x5 x6 τ7
      else
        zLet ((τ7.2.2 a0 6).getD 0) fun v30 =>
        zLet (τ7.1 v30 x4.toNatClampNeg) fun v31 =>
        zLet (x6 ||| v31) fun v32 =>
        zLet ((τ7.2.2 a0 3).getD 0) fun v33 =>
        zLet (τ7.1 v33 x4.toNatClampNeg) fun v34 =>
        zLet (if x5.toInt ≤ v34.toInt then v34 else x5) fun v35 =>
        zLet (x4 + (1 : Int32)) fun v36 =>
        F_X6_tourOf_7 a0 p1  n v36 v35 v32 τ7
    else
      zLet ((0 : Int32)) fun v10 =>
      zLet ((1 : Int32)) fun v11 =>
      F_X6_tourOf_59 x5 x6 a0 p1 (F_X6_tourOf_7 a0 p1  n) 10000 v11 v10 τ7
set_option maxRecDepth 100000 in
noncomputable def F_X6_tourOf (a0 : Nat) (p1 : Int32) (σ : zS) : Int32 × zS :=
  zLet ((0 : Int32)) fun v1 =>
  zLet ((0 : Int32)) fun v2 =>
  zLet ((1 : Int32)) fun v3 =>
  F_X6_tourOf_7 a0 p1  10000 v3 v2 v1 σ
set_option maxRecDepth 100000 in
noncomputable def F_X6_meeting_20 (v5 : Int32) (a0 : Nat) (p1 : Int32) (p2 : Int32)  : Nat → Int32 → Int32 → zS → Int32 × zS
  | 0, _, _, s => (0, s)
  | n + 1, x8, x9, τ10 =>
    zLet (τ10.1 a0 0) fun v11 =>
    if x8.toInt < v11.toInt then
      zLet (F_X10_has v5 x8) fun v13 =>
      if v13.toInt = 0 then
        zLet (x8 + (1 : Int32)) fun v15 =>
        F_X6_meeting_20 v5 a0 p1 p2  n v15 x9 τ10
      else
        zLet ((τ10.2.2 a0 3).getD 0) fun v16 =>
        zLet (τ10.1 v16 x8.toNatClampNeg) fun v17 =>
        zLet ((τ10.2.2 a0 3).getD 0) fun v18 =>
        zLet (τ10.1 v18 x9.toNatClampNeg) fun v19 =>
        if v19.toInt < v17.toInt then
          zLet (x8 + (1 : Int32)) fun v24 =>
          F_X6_meeting_20 v5 a0 p1 p2  n v24 x8 τ10
        else
          zLet (x8 + (1 : Int32)) fun v23 =>
          F_X6_meeting_20 v5 a0 p1 p2  n v23 x9 τ10
    else
      (x9, τ10)
set_option maxRecDepth 100000 in
noncomputable def F_X6_meeting (a0 : Nat) (p1 : Int32) (p2 : Int32) (σ : zS) : Int32 × zS :=
  zLet ((σ.2.2 a0 6).getD 0) fun v1 =>
  zLet (σ.1 v1 p1.toNatClampNeg) fun v2 =>
  zLet ((σ.2.2 a0 6).getD 0) fun v3 =>
  zLet (σ.1 v3 p2.toNatClampNeg) fun v4 =>
  zLet (v2 &&& v4) fun v5 =>
  zLet ((0 : Int32)) fun v6 =>
  zLet ((1 : Int32)) fun v7 =>
  F_X6_meeting_20 v5 a0 p1 p2  10000 v7 v6 σ
set_option maxRecDepth 100000 in
noncomputable def F_X6_orderOf_20 (x4 : Int32) (a0 : Nat) (p1 : Nat) (p2 : Int32) (kLp5 : Int32 → zS → Int32 × zS) : Nat → Int32 → Int32 → Int32 → zS → Int32 × zS
  | 0, _, _, _, s => (0, s)
  | n + 1, x12, x13, x14, τ15 =>
    zLet (τ15.1 a0 0) fun v16 =>
    if x12.toInt < v16.toInt then
      zLet ((τ15.2.2 p1 0).getD 0) fun v31 =>
      zLet (τ15.1 v31 x12.toNatClampNeg) fun v32 =>
      zLet ((τ15.2.2 a0 2).getD 0) fun v33 =>
      zLet (τ15.1 v33 x4.toNatClampNeg) fun v34 =>
      if v32.toInt = v34.toInt then
        zLet ((τ15.2.2 a0 5).getD 0) fun v37 =>
        zLet (τ15.1 v37 x12.toNatClampNeg) fun v38 =>
        if v38.toInt < x14.toInt then
          zLet (x12 + (1 : Int32)) fun v42 =>
          F_X6_orderOf_20 x4 a0 p1 p2 kLp5 n v42 x13 x14 τ15
        else
          zLet ((τ15.2.2 a0 5).getD 0) fun v43 =>
          zLet (τ15.1 v43 x12.toNatClampNeg) fun v44 =>
          if v44.toInt = x14.toInt then
            zLet ((1 : Int32)) fun v50 =>
            zLet (x13 + v50) fun v51 =>
            zLet ((τ15.2.2 a0 5).getD 0) fun v52 =>
            zLet (τ15.1 v52 x12.toNatClampNeg) fun v53 =>
            zLet (x12 + (1 : Int32)) fun v54 =>
            F_X6_orderOf_20 x4 a0 p1 p2 kLp5 n v54 v51 v53 τ15
          else
            zLet ((1 : Int32)) fun v46 =>
            zLet ((τ15.2.2 a0 5).getD 0) fun v47 =>
            zLet (τ15.1 v47 x12.toNatClampNeg) fun v48 =>
            zLet (x12 + (1 : Int32)) fun v49 =>
            F_X6_orderOf_20 x4 a0 p1 p2 kLp5 n v49 v46 v48 τ15
      else
        zLet (x12 + (1 : Int32)) fun v36 =>
        F_X6_orderOf_20 x4 a0 p1 p2 kLp5 n v36 x13 x14 τ15
    else
      zLet ((τ15.2.2 a0 5).getD 0) fun v18 =>
      zLet ((τ15.2.2 a0 2).getD 0) fun v19 =>
      zLet (τ15.1 v19 x4.toNatClampNeg) fun v20 =>
      zLet ((1 : Int32)) fun v21 =>
      if x13.toInt = v21.toInt then
        zLet ((zu τ15.1 v18 v20.toNatClampNeg x14, τ15.2.1, τ15.2.2)) fun s28 =>
        zLet (x4 + (-1 : Int32)) fun v30 =>
        kLp5 v30 s28
      else
        zLet ((1 : Int32)) fun v23 =>
        zLet (x14 + v23) fun v24 =>
        zLet ((zu τ15.1 v18 v20.toNatClampNeg v24, τ15.2.1, τ15.2.2)) fun s25 =>
        zLet (x4 + (-1 : Int32)) fun v27 =>
        kLp5 v27 s25
set_option maxRecDepth 100000 in
noncomputable def F_X6_orderOf_7 (a0 : Nat) (p1 : Nat) (p2 : Int32)  : Nat → Int32 → zS → Int32 × zS
  | 0, _, s => (0, s)
  | n + 1, x4, τ5 =>
    if x4.toInt < 0 then
      zLet ((τ5.2.2 a0 5).getD 0) fun v7 =>
      zLet (τ5.1 v7 p2.toNatClampNeg) fun v8 =>
      (v8, τ5)
    else
      zLet ((0 : Int32)) fun v9 =>
      zLet ((0 : Int32)) fun v10 =>
      zLet ((1 : Int32)) fun v11 =>
      F_X6_orderOf_20 x4 a0 p1 p2 (F_X6_orderOf_7 a0 p1 p2  n) 10000 v11 v10 v9 τ5
set_option maxRecDepth 100000 in
noncomputable def F_X6_orderOf (a0 : Nat) (p1 : Nat) (p2 : Int32) (σ : zS) : Int32 × zS :=
  zLet (σ.1 a0 0) fun v1 =>
  zLet ((1 : Int32)) fun v2 =>
  zLet (v1 - v2) fun v3 =>
  F_X6_orderOf_7 a0 p1 p2  10000 v3 σ
set_option maxRecDepth 100000 in
noncomputable def F_X6_countAbove_15 (a0 : Nat) (p1 : Nat)  : Nat → Int32 → zS → zS
  | 0, _, s => s
  | n + 1, x7, τ8 =>
    if 0 < x7.toInt then
      zLet ((τ8.2.2 a0 2).getD 0) fun v10 =>
      zLet (τ8.1 v10 x7.toNatClampNeg) fun v11 =>
      zLet ((τ8.2.2 a0 4).getD 0) fun v12 =>
      zLet ((τ8.2.2 p1 0).getD 0) fun v13 =>
      zLet (τ8.1 v13 v11.toNatClampNeg) fun v14 =>
      zLet (τ8.1 v12 v14.toNatClampNeg) fun v15 =>
      zLet ((τ8.2.2 a0 4).getD 0) fun v16 =>
      zLet (τ8.1 v16 v11.toNatClampNeg) fun v17 =>
      zLet ((1 : Int32)) fun v18 =>
      zLet (v17 + v18) fun v19 =>
      zLet (v15 + v19) fun v20 =>
      zLet ((zu τ8.1 v12 v14.toNatClampNeg v20, τ8.2.1, τ8.2.2)) fun s21 =>
      zLet (x7 + (-1 : Int32)) fun v22 =>
      F_X6_countAbove_15 a0 p1  n v22 s21
    else
      τ8
set_option maxRecDepth 100000 in
noncomputable def F_X6_countAbove (a0 : Nat) (p1 : Nat) (σ : zS) : zS :=
  zLet ((σ.2.2 a0 4).getD 0) fun v1 =>
  zLet ((0 : Int32)) fun v2 =>
  zLet (zfil σ v1 v2 12) fun s3 =>
  zLet (s3.1 a0 0) fun v4 =>
  zLet ((1 : Int32)) fun v5 =>
  zLet (v4 - v5) fun v6 =>
  F_X6_countAbove_15 a0 p1  10000 v6 s3
set_option maxRecDepth 100000 in
noncomputable def F_X6_form_81 (v36 : Int32) (x30 : Int32) (a0 : Nat) (p1 : Nat) (p2 : Nat) (kLp32 : Int32 → Int32 → zS → zS) : Nat → Int32 → Int32 → zS → zS
  | 0, _, _, s => s
  | n + 1, x38, x39, τ40 =>
    zLet (τ40.1 a0 0) fun v41 =>
    if x38.toInt < v41.toInt then
      zLet (τ40.1 a0 0) fun v44 =>
      if x39.toInt < v44.toInt then
        zLet ((τ40.2.2 p2 0).getD 0) fun v47 =>
        zLet (τ40.1 v47 x38.toNatClampNeg) fun v48 =>
        if v48.toInt = v36.toInt then
          zLet ((τ40.2.2 a0 3).getD 0) fun v51 =>
          zLet ((τ40.2.2 a0 3).getD 0) fun v52 =>
          zLet (τ40.1 v52 v36.toNatClampNeg) fun v53 =>
          zLet ((τ40.2.2 a0 1).getD 0) fun v54 =>
          zLet (τ40.1 v54 x38.toNatClampNeg) fun v55 =>
          zLet (v53 + v55) fun v56 =>
          zLet ((zu τ40.1 v51 x38.toNatClampNeg v56, τ40.2.1, τ40.2.2)) fun s57 =>
          zLet ((s57.2.2 a0 6).getD 0) fun v59 =>
          zLet ((s57.2.2 a0 6).getD 0) fun v60 =>
          zLet (s57.1 v60 v36.toNatClampNeg) fun v61 =>
          zLet (F_X10_bit x38) fun v62 =>
          zLet (v61 ||| v62) fun v63 =>
          zLet ((zu s57.1 v59 x38.toNatClampNeg v63, s57.2.1, s57.2.2)) fun s64 =>
          zLet ((s64.2.2 a0 2).getD 0) fun v66 =>
          zLet ((zu s64.1 v66 x39.toNatClampNeg x38, s64.2.1, s64.2.2)) fun s67 =>
          zLet (x39 + (1 : Int32)) fun v69 =>
          zLet (x38 + (1 : Int32)) fun v70 =>
          F_X6_form_81 v36 x30 a0 p1 p2 kLp32 n v70 v69 s67
        else
          zLet (x38 + (1 : Int32)) fun v50 =>
          F_X6_form_81 v36 x30 a0 p1 p2 kLp32 n v50 x39 τ40
      else
        zLet (x30 + (1 : Int32)) fun v46 =>
        kLp32 v46 x39 τ40
    else
      zLet (x30 + (1 : Int32)) fun v43 =>
      kLp32 v43 x39 τ40
set_option maxRecDepth 100000 in
noncomputable def F_X6_form_63 (a0 : Nat) (p1 : Nat) (p2 : Nat)  : Nat → Int32 → Int32 → zS → zS
  | 0, _, _, s => s
  | n + 1, x30, x31, τ32 =>
    if x30.toInt < x31.toInt then
      zLet ((τ32.2.2 a0 2).getD 0) fun v35 =>
      zLet (τ32.1 v35 x30.toNatClampNeg) fun v36 =>
      zLet ((1 : Int32)) fun v37 =>
      F_X6_form_81 v36 x30 a0 p1 p2 (F_X6_form_63 a0 p1 p2  n) 10000 v37 x31 τ32
    else
      zLet (F_X6_countAbove a0 p2 τ32) fun s34 =>
      s34
set_option maxRecDepth 100000 in
noncomputable def F_X6_form_81_1 (v95 : Int32) (x89 : Int32) (a0 : Nat) (p1 : Nat) (p2 : Nat) (kLp91 : Int32 → Int32 → zS → zS) : Nat → Int32 → Int32 → zS → zS
  | 0, _, _, s => s
  | n + 1, x97, x98, τ99 =>
    zLet (τ99.1 a0 0) fun v100 =>
    if x97.toInt < v100.toInt then
      zLet (τ99.1 a0 0) fun v103 =>
      if x98.toInt < v103.toInt then
        zLet ((τ99.2.2 p2 0).getD 0) fun v106 =>
        zLet (τ99.1 v106 x97.toNatClampNeg) fun v107 =>
        if v107.toInt = v95.toInt then
          zLet ((τ99.2.2 a0 3).getD 0) fun v110 =>
          zLet ((τ99.2.2 a0 3).getD 0) fun v111 =>
          zLet (τ99.1 v111 v95.toNatClampNeg) fun v112 =>
          zLet ((τ99.2.2 a0 1).getD 0) fun v113 =>
          zLet (τ99.1 v113 x97.toNatClampNeg) fun v114 =>
          zLet (v112 + v114) fun v115 =>
          zLet ((zu τ99.1 v110 x97.toNatClampNeg v115, τ99.2.1, τ99.2.2)) fun s116 =>
          zLet ((s116.2.2 a0 6).getD 0) fun v118 =>
          zLet ((s116.2.2 a0 6).getD 0) fun v119 =>
          zLet (s116.1 v119 v95.toNatClampNeg) fun v120 =>
          zLet (F_X10_bit x97) fun v121 =>
          zLet (v120 ||| v121) fun v122 =>
          zLet ((zu s116.1 v118 x97.toNatClampNeg v122, s116.2.1, s116.2.2)) fun s123 =>
          zLet ((s123.2.2 a0 2).getD 0) fun v125 =>
          zLet ((zu s123.1 v125 x98.toNatClampNeg x97, s123.2.1, s123.2.2)) fun s126 =>
          zLet (x98 + (1 : Int32)) fun v128 =>
          zLet (x97 + (1 : Int32)) fun v129 =>
          F_X6_form_81_1 v95 x89 a0 p1 p2 kLp91 n v129 v128 s126
        else
          zLet (x97 + (1 : Int32)) fun v109 =>
          F_X6_form_81_1 v95 x89 a0 p1 p2 kLp91 n v109 x98 τ99
      else
        zLet (x89 + (1 : Int32)) fun v105 =>
        kLp91 v105 x98 τ99
    else
      zLet (x89 + (1 : Int32)) fun v102 =>
      kLp91 v102 x98 τ99
set_option maxRecDepth 100000 in
noncomputable def F_X6_form_63_1 (a0 : Nat) (p1 : Nat) (p2 : Nat)  : Nat → Int32 → Int32 → zS → zS
  | 0, _, _, s => s
  | n + 1, x89, x90, τ91 =>
    if x89.toInt < x90.toInt then
      zLet ((τ91.2.2 a0 2).getD 0) fun v94 =>
      zLet (τ91.1 v94 x89.toNatClampNeg) fun v95 =>
      zLet ((1 : Int32)) fun v96 =>
      F_X6_form_81_1 v95 x89 a0 p1 p2 (F_X6_form_63_1 a0 p1 p2  n) 10000 v96 x90 τ91
    else
      zLet (F_X6_countAbove a0 p2 τ91) fun s93 =>
      s93
set_option maxRecDepth 100000 in
noncomputable def F_X6_form (a0 : Nat) (p1 : Nat) (p2 : Nat) (σ : zS) : zS :=
  zLet (σ.1 p1 0) fun v1 =>
  zLet ((zu σ.1 a0 0 v1, σ.2.1, σ.2.2)) fun s2 =>
  zLet ((s2.2.2 p1 3).getD 0) fun v4 =>
  zLet ((0 : Int32)) fun v5 =>
  zLet ((s2.2.2 a0 1).getD 0) fun v6 =>
  zLet ((0 : Int32)) fun v7 =>
  zLet ((12 : Int32)) fun v8 =>
  zLet (zcpy s2 v4 v6 12) fun s9 =>
  zLet (s9.1 a0 0) fun v10 =>
  if 0 < v10.toInt then
    zLet ((1 : Int32)) fun v71 =>
    zLet ((s9.2.2 a0 2).getD 0) fun v72 =>
    zLet ((0 : Int32)) fun v73 =>
    zLet ((0 : Int32)) fun v74 =>
    zLet ((zu s9.1 v72 v73.toNatClampNeg v74, s9.2.1, s9.2.2)) fun s75 =>
    zLet ((s75.2.2 a0 3).getD 0) fun v77 =>
    zLet ((0 : Int32)) fun v78 =>
    zLet ((0 : Int32)) fun v79 =>
    zLet ((zu s75.1 v77 v78.toNatClampNeg v79, s75.2.1, s75.2.2)) fun s80 =>
    zLet ((s80.2.2 a0 6).getD 0) fun v82 =>
    zLet ((0 : Int32)) fun v83 =>
    zLet ((0 : Int32)) fun v84 =>
    zLet (F_X10_bit v84) fun v85 =>
    zLet ((zu s80.1 v82 v83.toNatClampNeg v85, s80.2.1, s80.2.2)) fun s86 =>
    zLet ((0 : Int32)) fun v88 =>
    F_X6_form_63_1 a0 p1 p2  10000 v88 v71 s86
  else
    zLet ((0 : Int32)) fun v12 =>
    zLet ((s9.2.2 a0 2).getD 0) fun v13 =>
    zLet ((0 : Int32)) fun v14 =>
    zLet ((0 : Int32)) fun v15 =>
    zLet ((zu s9.1 v13 v14.toNatClampNeg v15, s9.2.1, s9.2.2)) fun s16 =>
    zLet ((s16.2.2 a0 3).getD 0) fun v18 =>
    zLet ((0 : Int32)) fun v19 =>
    zLet ((0 : Int32)) fun v20 =>
    zLet ((zu s16.1 v18 v19.toNatClampNeg v20, s16.2.1, s16.2.2)) fun s21 =>
    zLet ((s21.2.2 a0 6).getD 0) fun v23 =>
    zLet ((0 : Int32)) fun v24 =>
    zLet ((0 : Int32)) fun v25 =>
    zLet (F_X10_bit v25) fun v26 =>
    zLet ((zu s21.1 v23 v24.toNatClampNeg v26, s21.2.1, s21.2.2)) fun s27 =>
    zLet ((0 : Int32)) fun v29 =>
    F_X6_form_63 a0 p1 p2  10000 v29 v12 s27
set_option maxRecDepth 100000 in
noncomputable def F_X5_tells (a0 : Nat) (p1 : Int32) (p2 : Int32) (p3 : Int32) (σ : zS) : Int32 × zS :=
  zLet ((σ.2.2 a0 1).getD 0) fun v1 =>
  zLet ((σ.2.2 v1 0).getD 0) fun v2 =>
  zLet ((0 : Int32)) fun v3 =>
  zLet ((σ.2.2 a0 5).getD 0) fun v4 =>
  zLet ((σ.2.2 v4 4).getD 0) fun v5 =>
  zLet (σ.1 v5 p2.toNatClampNeg) fun v6 =>
  zLet ((zu σ.1 v2 v3.toNatClampNeg v6, σ.2.1, σ.2.2)) fun s7 =>
  zLet ((1 : Int32)) fun v8 =>
  zLet ((s7.2.2 a0 0).getD 0) fun v9 =>
  zLet ((s7.2.2 v9 3).getD 0) fun v10 =>
  zLet (s7.1 v10 p2.toNatClampNeg) fun v11 =>
  zLet ((zu s7.1 v2 v8.toNatClampNeg v11, s7.2.1, s7.2.2)) fun s12 =>
  zLet ((2 : Int32)) fun v13 =>
  zLet ((s12.2.2 a0 5).getD 0) fun v14 =>
  zLet ((s12.2.2 v14 5).getD 0) fun v15 =>
  zLet (s12.1 v15 p2.toNatClampNeg) fun v16 =>
  zLet ((zu s12.1 v2 v13.toNatClampNeg v16, s12.2.1, s12.2.2)) fun s17 =>
  zLet ((3 : Int32)) fun v18 =>
  zLet ((s17.2.2 a0 6).getD 0) fun v19 =>
  zLet2 (F_X1_moon v19 s17) fun v20 s21 =>
  zLet ((zu s21.1 v2 v18.toNatClampNeg v20, s21.2.1, s21.2.2)) fun s22 =>
  zLet ((4 : Int32)) fun v23 =>
  zLet ((zu s22.1 v2 v23.toNatClampNeg p3, s22.2.1, s22.2.2)) fun s24 =>
  zLet ((5 : Int32)) fun v25 =>
  zLet ((s24.2.2 a0 5).getD 0) fun v26 =>
  zLet ((s24.2.2 v26 3).getD 0) fun v27 =>
  zLet (s24.1 v27 p2.toNatClampNeg) fun v28 =>
  zLet ((zu s24.1 v2 v25.toNatClampNeg v28, s24.2.1, s24.2.2)) fun s29 =>
  zLet ((6 : Int32)) fun v30 =>
  zLet ((s29.2.2 a0 6).getD 0) fun v31 =>
  zLet ((s29.2.2 v31 1).getD 0) fun v32 =>
  zLet (s29.1 v32 p2.toNatClampNeg) fun v33 =>
  zLet ((zu s29.1 v2 v30.toNatClampNeg v33, s29.2.1, s29.2.2)) fun s34 =>
  zLet ((7 : Int32)) fun v35 =>
  zLet ((zu s34.1 v2 v35.toNatClampNeg p2, s34.2.1, s34.2.2)) fun s36 =>
  zLet ((8 : Int32)) fun v37 =>
  zLet ((s36.2.2 a0 0).getD 0) fun v38 =>
  zLet ((s36.2.2 v38 4).getD 0) fun v39 =>
  zLet (s36.1 v39 p2.toNatClampNeg) fun v40 =>
  zLet ((zu s36.1 v2 v37.toNatClampNeg v40, s36.2.1, s36.2.2)) fun s41 =>
  zLet ((s41.2.2 a0 1).getD 0) fun v42 =>
  zLet ((s41.2.2 a0 5).getD 0) fun v43 =>
  zLet2 (F_X0_answer v42 v43 p1 s41) fun v44 s45 =>
  (v44, s45)
set_option maxRecDepth 100000 in
noncomputable def F_X5_dried (a0 : Nat) (p1 : Int32) (σ : zS) : Int32 × zS :=
  zLet ((1 : Int32)) fun v1 =>
  zLet ((σ.2.2 a0 3).getD 0) fun v2 =>
  zLet (σ.1 v2 p1.toNatClampNeg) fun v3 =>
  zLet2 (F_X5_tells a0 v1 p1 v3 σ) fun v4 s5 =>
  zLet ((0 : Int32)) fun v6 =>
  zLet ((s5.2.2 a0 3).getD 0) fun v7 =>
  zLet (s5.1 v7 p1.toNatClampNeg) fun v8 =>
  zLet (F_X10_held v4 v6 v8) fun v9 =>
  (v9, s5)
set_option maxRecDepth 100000 in
noncomputable def F_X5_run_25 (a0 : Nat) (p1 : Int32)  : Nat → Int32 → zS → zS
  | 0, _, s => s
  | n + 1, x11, τ12 =>
    if 0 < x11.toInt then
      zLet ((τ12.2.2 a0 0).getD 0) fun v14 =>
      zLet ((τ12.2.2 v14 2).getD 0) fun v15 =>
      zLet (τ12.1 v15 x11.toNatClampNeg) fun v16 =>
      zLet (F_X10_has p1 v16) fun v17 =>
      if v17.toInt = 0 then
        zLet ((τ12.2.2 a0 3).getD 0) fun v20 =>
        zLet ((τ12.2.2 a0 6).getD 0) fun v21 =>
        zLet ((τ12.2.2 v21 0).getD 0) fun v22 =>
        zLet (τ12.1 v22 v16.toNatClampNeg) fun v23 =>
        zLet (τ12.1 v20 v23.toNatClampNeg) fun v24 =>
        zLet ((τ12.2.2 a0 3).getD 0) fun v25 =>
        zLet (τ12.1 v25 v16.toNatClampNeg) fun v26 =>
        zLet2 (F_X5_dried a0 v16 τ12) fun v27 s28 =>
        zLet (v26 - v27) fun v29 =>
        zLet (v24 + v29) fun v30 =>
        zLet ((zu s28.1 v20 v23.toNatClampNeg v30, s28.2.1, s28.2.2)) fun s31 =>
        zLet (x11 + (-1 : Int32)) fun v32 =>
        F_X5_run_25 a0 p1  n v32 s31
      else
        zLet (x11 + (-1 : Int32)) fun v19 =>
        F_X5_run_25 a0 p1  n v19 τ12
    else
      τ12
set_option maxRecDepth 100000 in
noncomputable def F_X5_run (a0 : Nat) (p1 : Int32) (σ : zS) : zS :=
  zLet ((σ.2.2 a0 2).getD 0) fun v1 =>
  zLet ((0 : Int32)) fun v2 =>
  zLet ((σ.2.2 a0 3).getD 0) fun v3 =>
  zLet ((0 : Int32)) fun v4 =>
  zLet ((12 : Int32)) fun v5 =>
  zLet (zcpy σ v1 v3 12) fun s6 =>
  zLet ((s6.2.2 a0 0).getD 0) fun v7 =>
  zLet (s6.1 v7 0) fun v8 =>
  zLet ((1 : Int32)) fun v9 =>
  zLet (v8 - v9) fun v10 =>
  F_X5_run_25 a0 p1  10000 v10 s6
set_option maxRecDepth 100000 in
noncomputable def F_X5_rainDown_2 (a0 : Nat) (p1 : Int32)  : Nat → Int32 → zS → zS
  | 0, _, s => s
  | n + 1, x2, τ3 =>
    zLet ((τ3.2.2 a0 0).getD 0) fun v4 =>
    zLet (τ3.1 v4 0) fun v5 =>
    if x2.toInt < v5.toInt then
      zLet ((τ3.2.2 a0 2).getD 0) fun v7 =>
      zLet ((0 : Int32)) fun v8 =>
      zLet ((0 : Int32)) fun v9 =>
      zLet2 (F_X5_tells a0 v8 x2 v9 τ3) fun v10 s11 =>
      zLet ((0 : Int32)) fun v12 =>
      zLet ((999 : Int32)) fun v13 =>
      zLet (F_X10_held v10 v12 v13) fun v14 =>
      zLet (v14 + p1) fun v15 =>
      zLet ((zu s11.1 v7 x2.toNatClampNeg v15, s11.2.1, s11.2.2)) fun s16 =>
      zLet (x2 + (1 : Int32)) fun v17 =>
      F_X5_rainDown_2 a0 p1  n v17 s16
    else
      τ3
set_option maxRecDepth 100000 in
noncomputable def F_X5_rainDown (a0 : Nat) (p1 : Int32) (σ : zS) : zS :=
  zLet ((0 : Int32)) fun v1 =>
  F_X5_rainDown_2 a0 p1  10000 v1 σ
set_option maxRecDepth 100000 in
noncomputable def F_X5_fall (a0 : Nat) (p1 : Int32) (σ : zS) : zS :=
  zLet (F_X5_rainDown a0 p1 σ) fun s1 =>
  zLet ((s1.2.2 a0 6).getD 0) fun v2 =>
  zLet (s1.1 v2 3) fun v3 =>
  zLet (F_X5_run a0 v3 s1) fun s4 =>
  s4
set_option maxRecDepth 100000 in
noncomputable def F_X5_claimOf (a0 : Nat) (p1 : Int32) (p2 : Int32) (σ : zS) : Int32 × zS :=
  zLet ((2 : Int32)) fun v1 =>
  zLet (v1 + p2) fun v2 =>
  zLet ((σ.2.2 a0 3).getD 0) fun v3 =>
  zLet (σ.1 v3 p1.toNatClampNeg) fun v4 =>
  zLet2 (F_X5_tells a0 v2 p1 v4 σ) fun v5 s6 =>
  zLet ((0 : Int32)) fun v7 =>
  zLet ((99999 : Int32)) fun v8 =>
  zLet (F_X10_held v5 v7 v8) fun v9 =>
  (v9, s6)
set_option maxRecDepth 100000 in
noncomputable def F_X5_weigh_2 (a0 : Nat) (p1 : Int32)  : Nat → Int32 → zS → zS
  | 0, _, s => s
  | n + 1, x2, τ3 =>
    zLet ((τ3.2.2 a0 0).getD 0) fun v4 =>
    zLet (τ3.1 v4 0) fun v5 =>
    if x2.toInt < v5.toInt then
      zLet ((τ3.2.2 a0 4).getD 0) fun v7 =>
      zLet ((τ3.2.2 a0 0).getD 0) fun v8 =>
      zLet2 (F_X6_isSource v8 x2 τ3) fun v9 s10 =>
      if v9.toInt = 0 then
        zLet ((-1 : Int32)) fun v12 =>
        zLet ((zu s10.1 v7 x2.toNatClampNeg v12, s10.2.1, s10.2.2)) fun s13 =>
        zLet (x2 + (1 : Int32)) fun v14 =>
        F_X5_weigh_2 a0 p1  n v14 s13
      else
        zLet2 (F_X5_claimOf a0 x2 p1 s10) fun v15 s16 =>
        zLet ((zu s16.1 v7 x2.toNatClampNeg v15, s16.2.1, s16.2.2)) fun s17 =>
        zLet (x2 + (1 : Int32)) fun v18 =>
        F_X5_weigh_2 a0 p1  n v18 s17
    else
      τ3
set_option maxRecDepth 100000 in
noncomputable def F_X5_weigh (a0 : Nat) (p1 : Int32) (σ : zS) : zS :=
  zLet ((1 : Int32)) fun v1 =>
  F_X5_weigh_2 a0 p1  10000 v1 σ
set_option maxRecDepth 100000 in
noncomputable def F_X5_greatestClaim_5 (a0 : Nat) (p1 : Int32)  : Nat → Int32 → Int32 → zS → Int32 × zS
  | 0, _, _, s => (0, s)
  | n + 1, x3, x4, τ5 =>
    zLet ((τ5.2.2 a0 0).getD 0) fun v6 =>
    zLet (τ5.1 v6 0) fun v7 =>
    if x3.toInt < v7.toInt then
      if x3.toInt = p1.toInt then
        zLet (x3 + (1 : Int32)) fun v10 =>
        F_X5_greatestClaim_5 a0 p1  n v10 x4 τ5
      else
        zLet ((τ5.2.2 a0 0).getD 0) fun v11 =>
        zLet2 (F_X6_isSource v11 x3 τ5) fun v12 s13 =>
        if v12.toInt = 0 then
          zLet (x3 + (1 : Int32)) fun v15 =>
          F_X5_greatestClaim_5 a0 p1  n v15 x4 s13
        else
          if x4.toInt < 0 then
            zLet (x3 + (1 : Int32)) fun v17 =>
            F_X5_greatestClaim_5 a0 p1  n v17 x3 s13
          else
            zLet ((s13.2.2 a0 4).getD 0) fun v18 =>
            zLet (s13.1 v18 x3.toNatClampNeg) fun v19 =>
            zLet ((s13.2.2 a0 4).getD 0) fun v20 =>
            zLet (s13.1 v20 x4.toNatClampNeg) fun v21 =>
            if v21.toInt < v19.toInt then
              zLet (x3 + (1 : Int32)) fun v26 =>
              F_X5_greatestClaim_5 a0 p1  n v26 x3 s13
            else
              zLet (x3 + (1 : Int32)) fun v25 =>
              F_X5_greatestClaim_5 a0 p1  n v25 x4 s13
    else
      (x4, τ5)
set_option maxRecDepth 100000 in
noncomputable def F_X5_greatestClaim (a0 : Nat) (p1 : Int32) (σ : zS) : Int32 × zS :=
  zLet ((-2 : Int32)) fun v1 =>
  zLet ((1 : Int32)) fun v2 =>
  F_X5_greatestClaim_5 a0 p1  10000 v2 v1 σ
set_option maxRecDepth 100000 in
noncomputable def F_X5_rankOf_4 (a0 : Nat) (p1 : Int32)  : Nat → Int32 → Int32 → zS → Int32 × zS
  | 0, _, _, s => (0, s)
  | n + 1, x3, x4, τ5 =>
    zLet ((τ5.2.2 a0 0).getD 0) fun v6 =>
    zLet (τ5.1 v6 0) fun v7 =>
    if x3.toInt < v7.toInt then
      zLet ((τ5.2.2 a0 4).getD 0) fun v9 =>
      zLet (τ5.1 v9 x3.toNatClampNeg) fun v10 =>
      zLet ((τ5.2.2 a0 4).getD 0) fun v11 =>
      zLet (τ5.1 v11 p1.toNatClampNeg) fun v12 =>
      if v12.toInt < v10.toInt then
        zLet (x4 + (1 : Int32)) fun v16 =>
        zLet (x3 + (1 : Int32)) fun v17 =>
        F_X5_rankOf_4 a0 p1  n v17 v16 τ5
      else
        zLet ((τ5.2.2 a0 4).getD 0) fun v18 =>
        zLet (τ5.1 v18 x3.toNatClampNeg) fun v19 =>
        zLet ((τ5.2.2 a0 4).getD 0) fun v20 =>
        zLet (τ5.1 v20 p1.toNatClampNeg) fun v21 =>
        if v19.toInt = v21.toInt then
          if x3.toInt < p1.toInt then
            zLet (x4 + (1 : Int32)) fun v26 =>
            zLet (x3 + (1 : Int32)) fun v27 =>
            F_X5_rankOf_4 a0 p1  n v27 v26 τ5
          else
            zLet (x3 + (1 : Int32)) fun v25 =>
            F_X5_rankOf_4 a0 p1  n v25 x4 τ5
        else
          zLet (x3 + (1 : Int32)) fun v23 =>
          F_X5_rankOf_4 a0 p1  n v23 x4 τ5
    else
      (x4, τ5)
set_option maxRecDepth 100000 in
noncomputable def F_X5_rankOf (a0 : Nat) (p1 : Int32) (σ : zS) : Int32 × zS :=
  zLet ((0 : Int32)) fun v1 =>
  zLet ((1 : Int32)) fun v2 =>
  F_X5_rankOf_4 a0 p1  10000 v2 v1 σ
set_option maxRecDepth 100000 in
noncomputable def F_X5_winnerBy (a0 : Nat) (p1 : Int32) (σ : zS) : Int32 × zS :=
  zLet (F_X5_weigh a0 p1 σ) fun s1 =>
  zLet ((-1 : Int32)) fun v2 =>
  zLet2 (F_X5_greatestClaim a0 v2 s1) fun v3 s4 =>
  (v3, s4)
set_option maxRecDepth 100000 in
noncomputable def F_X5_rainsOf_4 (a0 : Nat) (p1 : Int32)  : Nat → Int32 → Int32 → zS → Int32 × zS
  | 0, _, _, s => (0, s)
  | n + 1, x3, x4, τ5 =>
    zLet ((τ5.2.2 a0 0).getD 0) fun v6 =>
    zLet (τ5.1 v6 0) fun v7 =>
    if x3.toInt < v7.toInt then
      zLet (F_X10_has p1 x3) fun v9 =>
      if v9.toInt = 0 then
        zLet (x3 + (1 : Int32)) fun v11 =>
        F_X5_rainsOf_4 a0 p1  n v11 x4 τ5
      else
        zLet ((τ5.2.2 a0 2).getD 0) fun v12 =>
        zLet (τ5.1 v12 x3.toNatClampNeg) fun v13 =>
        zLet (x4 + v13) fun v14 =>
        zLet (x3 + (1 : Int32)) fun v15 =>
        F_X5_rainsOf_4 a0 p1  n v15 v14 τ5
    else
      (x4, τ5)
set_option maxRecDepth 100000 in
noncomputable def F_X5_rainsOf (a0 : Nat) (p1 : Int32) (σ : zS) : Int32 × zS :=
  zLet ((0 : Int32)) fun v1 =>
  zLet ((0 : Int32)) fun v2 =>
  F_X5_rainsOf_4 a0 p1  10000 v2 v1 σ
set_option maxRecDepth 100000 in
noncomputable def F_X5_endMonth (a0 : Nat) (σ : zS) : zS :=
  zLet ((σ.2.2 a0 6).getD 0) fun v1 =>
  zLet (σ.1 v1 5) fun v2 =>
  zLet2 (F_X5_winnerBy a0 v2 σ) fun v3 s4 =>
  if 0 < v3.toInt then
    zLet ((s4.2.2 a0 6).getD 0) fun v11 =>
    zLet ((s4.2.2 a0 5).getD 0) fun v12 =>
    zLet (s4.1 v12 12) fun v13 =>
    zLet (F_X1_pay v11 v3 v13 s4) fun s14 =>
    zLet ((s14.2.2 a0 6).getD 0) fun v15 =>
    zLet (s14.1 v15 4) fun v16 =>
    zLet ((1 : Int32)) fun v17 =>
    zLet (v16 + v17) fun v18 =>
    zLet ((zu s14.1 v15 4 v18, s14.2.1, s14.2.2)) fun s19 =>
    s19
  else
    zLet ((s4.2.2 a0 6).getD 0) fun v6 =>
    zLet (s4.1 v6 4) fun v7 =>
    zLet ((1 : Int32)) fun v8 =>
    zLet (v7 + v8) fun v9 =>
    zLet ((zu s4.1 v6 4 v9, s4.2.1, s4.2.2)) fun s10 =>
    s10
set_option maxRecDepth 100000 in
noncomputable def F_X5_goOn (a0 : Nat) (σ : zS) : zS :=
  zLet (F_X5_endMonth a0 σ) fun s1 =>
  zLet ((0 : Int32)) fun v2 =>
  zLet (F_X5_fall a0 v2 s1) fun s3 =>
  s3
set_option maxRecDepth 100000 in
noncomputable def F_X5_form (a0 : Nat) (p1 : Nat) (p2 : Nat) (σ : zS) : zS :=
  zLet ((σ.1, σ.2.1, zu σ.2.2 a0 5 (some p1))) fun s1 =>
  zLet ((s1.1, s1.2.1, zu s1.2.2 a0 6 (some p2))) fun s2 =>
  zLet ((s2.2.2 a0 0).getD 0) fun v3 =>
  zLet (F_X6_form v3 p1 p2 s2) fun s4 =>
  s4
set_option maxRecDepth 100000 in
noncomputable def F_X5_look (a0 : Nat) (p1 : Nat) (p2 : Nat) (σ : zS) : zS :=
  zLet (F_X5_form a0 p1 p2 σ) fun s1 =>
  zLet ((0 : Int32)) fun v2 =>
  zLet (F_X5_fall a0 v2 s1) fun s3 =>
  s3
set_option maxRecDepth 100000 in
noncomputable def F_X5_goThrough_9 (a0 : Nat) (p1 : Nat) (p2 : Nat) (p3 : Int32) (p4 : Int32)  : Nat → Int32 → zS → zS
  | 0, _, s => s
  | n + 1, x3, τ4 =>
    if x3.toInt < p3.toInt then
      zLet (τ4.1 p2 4) fun v7 =>
      zLet2 (F_X9_isStorm p1 p4 v7 τ4) fun v8 s9 =>
      if v8.toInt = 0 then
        zLet ((0 : Int32)) fun v11 =>
        zLet (F_X5_fall a0 v11 s9) fun s12 =>
        zLet (F_X5_endMonth a0 s12) fun s13 =>
        zLet (x3 + (1 : Int32)) fun v14 =>
        F_X5_goThrough_9 a0 p1 p2 p3 p4  n v14 s13
      else
        zLet (s9.1 p1 11) fun v15 =>
        zLet (F_X5_fall a0 v15 s9) fun s16 =>
        zLet (F_X5_endMonth a0 s16) fun s17 =>
        zLet (x3 + (1 : Int32)) fun v18 =>
        F_X5_goThrough_9 a0 p1 p2 p3 p4  n v18 s17
    else
      τ4
set_option maxRecDepth 100000 in
noncomputable def F_X5_goThrough (a0 : Nat) (p1 : Nat) (p2 : Nat) (p3 : Int32) (p4 : Int32) (σ : zS) : zS :=
  zLet (F_X5_form a0 p1 p2 σ) fun s1 =>
  zLet ((0 : Int32)) fun v2 =>
  F_X5_goThrough_9 a0 p1 p2 p3 p4  10000 v2 s1
set_option maxRecDepth 100000 in
noncomputable def F_X2_add (a0 : Nat) (p1 : Int32) (p2 : Int32) (p3 : Int32) (p4 : Int32) (σ : zS) : Int32 × zS :=
  zLet (σ.1 a0 4) fun v1 =>
  zLet ((20 : Int32)) fun v2 =>
  if v1.toInt < v2.toInt then
    zLet ((σ.2.2 a0 0).getD 0) fun v4 =>
    zLet (σ.1 a0 4) fun v5 =>
    zLet ((zu σ.1 v4 v5.toNatClampNeg p1, σ.2.1, σ.2.2)) fun s6 =>
    zLet ((s6.2.2 a0 1).getD 0) fun v8 =>
    zLet (s6.1 a0 4) fun v9 =>
    zLet ((zu s6.1 v8 v9.toNatClampNeg p2, s6.2.1, s6.2.2)) fun s10 =>
    zLet ((s10.2.2 a0 2).getD 0) fun v12 =>
    zLet (s10.1 a0 4) fun v13 =>
    zLet ((zu s10.1 v12 v13.toNatClampNeg p3, s10.2.1, s10.2.2)) fun s14 =>
    zLet ((s14.2.2 a0 3).getD 0) fun v16 =>
    zLet (s14.1 a0 4) fun v17 =>
    zLet ((zu s14.1 v16 v17.toNatClampNeg (vp_nar .boolean p4), s14.2.1, s14.2.2)) fun s18 =>
    zLet (s18.1 a0 4) fun v20 =>
    zLet ((1 : Int32)) fun v21 =>
    zLet (v20 + v21) fun v22 =>
    zLet ((zu s18.1 a0 4 v22, s18.2.1, s18.2.2)) fun s23 =>
    zLet (s23.1 a0 4) fun v26 =>
    zLet ((1 : Int32)) fun v27 =>
    zLet (v26 - v27) fun v28 =>
    (v28, s23)
  else
    zLet ((-1 : Int32)) fun v29 =>
    (v29, σ)
set_option maxRecDepth 100000 in
noncomputable def F_X2_isSo_6 (a0 : Nat) (p1 : Nat) (p2 : Int32) (p3 : Int32)  : Nat → Int32 → Int32 → zS → Int32 × zS
  | 0, _, _, s => (0, s)
  | n + 1, x3, x4, τ5 =>
    if x3.toInt < p3.toInt then
      zLet (τ5.1 a0 4) fun v8 =>
      if x3.toInt < v8.toInt then
        zLet ((τ5.2.2 p1 3).getD 0) fun v10 =>
        zLet (τ5.1 v10 p2.toNatClampNeg) fun v11 =>
        zLet ((τ5.2.2 p1 3).getD 0) fun v12 =>
        zLet ((τ5.2.2 a0 0).getD 0) fun v13 =>
        zLet (τ5.1 v13 x3.toNatClampNeg) fun v14 =>
        zLet (τ5.1 v12 v14.toNatClampNeg) fun v15 =>
        zLet (v11 - v15) fun v16 =>
        zLet ((τ5.2.2 p1 6).getD 0) fun v17 =>
        zLet (τ5.1 v17 p2.toNatClampNeg) fun v18 =>
        zLet ((τ5.2.2 a0 0).getD 0) fun v19 =>
        zLet (τ5.1 v19 x3.toNatClampNeg) fun v20 =>
        zLet (F_X10_has v18 v20) fun v21 =>
        if v21.toInt = 0 then
          zLet ((0 : Int32)) fun v23 =>
          if x4.toInt = 0 then
            zLet ((0 : Int32)) fun v25 =>
            zLet (x3 + (1 : Int32)) fun v26 =>
            F_X2_isSo_6 a0 p1 p2 p3  n v26 v25 τ5
          else
            zLet ((τ5.2.2 a0 3).getD 0) fun v27 =>
            zLet (τ5.1 v27 x3.toNatClampNeg) fun v28 =>
            if v23.toInt = v28.toInt then
              zLet ((1 : Int32)) fun v32 =>
              zLet (x3 + (1 : Int32)) fun v33 =>
              F_X2_isSo_6 a0 p1 p2 p3  n v33 v32 τ5
            else
              zLet ((0 : Int32)) fun v30 =>
              zLet (x3 + (1 : Int32)) fun v31 =>
              F_X2_isSo_6 a0 p1 p2 p3  n v31 v30 τ5
        else
          zLet ((τ5.2.2 a0 1).getD 0) fun v34 =>
          zLet (τ5.1 v34 x3.toNatClampNeg) fun v35 =>
          zLet ((τ5.2.2 a0 2).getD 0) fun v36 =>
          zLet (τ5.1 v36 x3.toNatClampNeg) fun v37 =>
          zLet (F_X10_isWithin v16 v35 v37) fun v38 =>
          if v38.toInt = 0 then
            zLet ((0 : Int32)) fun v40 =>
            if x4.toInt = 0 then
              zLet ((0 : Int32)) fun v42 =>
              zLet (x3 + (1 : Int32)) fun v43 =>
              F_X2_isSo_6 a0 p1 p2 p3  n v43 v42 τ5
            else
              zLet ((τ5.2.2 a0 3).getD 0) fun v44 =>
              zLet (τ5.1 v44 x3.toNatClampNeg) fun v45 =>
              if v40.toInt = v45.toInt then
                zLet ((1 : Int32)) fun v49 =>
                zLet (x3 + (1 : Int32)) fun v50 =>
                F_X2_isSo_6 a0 p1 p2 p3  n v50 v49 τ5
              else
                zLet ((0 : Int32)) fun v47 =>
                zLet (x3 + (1 : Int32)) fun v48 =>
                F_X2_isSo_6 a0 p1 p2 p3  n v48 v47 τ5
          else
            zLet ((1 : Int32)) fun v51 =>
            if x4.toInt = 0 then
              zLet ((0 : Int32)) fun v53 =>
              zLet (x3 + (1 : Int32)) fun v54 =>
              F_X2_isSo_6 a0 p1 p2 p3  n v54 v53 τ5
            else
              zLet ((τ5.2.2 a0 3).getD 0) fun v55 =>
              zLet (τ5.1 v55 x3.toNatClampNeg) fun v56 =>
              if v51.toInt = v56.toInt then
                zLet ((1 : Int32)) fun v60 =>
                zLet (x3 + (1 : Int32)) fun v61 =>
                F_X2_isSo_6 a0 p1 p2 p3  n v61 v60 τ5
              else
                zLet ((0 : Int32)) fun v58 =>
                zLet (x3 + (1 : Int32)) fun v59 =>
                F_X2_isSo_6 a0 p1 p2 p3  n v59 v58 τ5
      else
        (x4, τ5)
    else
      (x4, τ5)
set_option maxRecDepth 100000 in
noncomputable def F_X2_isSo (a0 : Nat) (p1 : Nat) (p2 : Int32) (p3 : Int32) (σ : zS) : Int32 × zS :=
  zLet ((1 : Int32)) fun v1 =>
  zLet ((0 : Int32)) fun v2 =>
  F_X2_isSo_6 a0 p1 p2 p3  4294967299 v2 v1 σ
set_option maxRecDepth 100000 in
noncomputable def F_X2_left_5 (a0 : Nat) (p1 : Nat) (p2 : Int32)  : Nat → Int32 → Int32 → zS → Int32 × zS
  | 0, _, _, s => (0, s)
  | n + 1, x3, x4, τ5 =>
    zLet (τ5.1 p1 0) fun v6 =>
    if x3.toInt < v6.toInt then
      zLet2 (F_X6_isSource p1 x3 τ5) fun v8 s9 =>
      if v8.toInt = 0 then
        zLet (x3 + (1 : Int32)) fun v11 =>
        F_X2_left_5 a0 p1 p2  n v11 x4 s9
      else
        zLet2 (F_X2_isSo a0 p1 x3 p2 s9) fun v12 s13 =>
        if v12.toInt = 0 then
          zLet (x3 + (1 : Int32)) fun v15 =>
          F_X2_left_5 a0 p1 p2  n v15 x4 s13
        else
          zLet (F_X10_bit x3) fun v16 =>
          zLet (x4 ||| v16) fun v17 =>
          zLet (x3 + (1 : Int32)) fun v18 =>
          F_X2_left_5 a0 p1 p2  n v18 v17 s13
    else
      (x4, τ5)
set_option maxRecDepth 100000 in
noncomputable def F_X2_left (a0 : Nat) (p1 : Nat) (p2 : Int32) (σ : zS) : Int32 × zS :=
  zLet ((0 : Int32)) fun v1 =>
  zLet ((1 : Int32)) fun v2 =>
  F_X2_left_5 a0 p1 p2  10000 v2 v1 σ
set_option maxRecDepth 100000 in
noncomputable def F_X7_append (a0 : Nat) (p1 : Int32) (σ : zS) : zS :=
  zLet ((24 : Int32)) fun v1 =>
  if v1.toInt < 0 then
    σ
  else
    zLet (σ.1 a0 1) fun v3 =>
    zLet ((σ.2.2 a0 0).getD 0) fun v4 =>
    zLet ((2000 : Int32)) fun v5 =>
    if v3.toInt < v5.toInt then
      zLet ((σ.2.2 a0 0).getD 0) fun v27 =>
      zLet (σ.1 a0 1) fun v28 =>
      zLet ((p1.toUInt32 >>> (v1.toUInt32 &&& Int32.toUInt32 31)).toInt32) fun v29 =>
      zLet (v29.toInt8.toInt32) fun v30 =>
      zLet ((zu σ.1 v27 v28.toNatClampNeg (vp_nar .byte v30), σ.2.1, σ.2.2)) fun s31 =>
      zLet (s31.1 a0 1) fun v33 =>
      zLet ((1 : Int32)) fun v34 =>
      zLet (v33 + v34) fun v35 =>
      zLet ((zu s31.1 a0 1 v35, s31.2.1, s31.2.2)) fun s36 =>
      zLet (v1 + (-8 : Int32)) fun v37 =>
      if v37.toInt < 0 then
        s36
      else
        zLet (s36.1 a0 1) fun v39 =>
        zLet ((s36.2.2 a0 0).getD 0) fun v40 =>
        zLet ((2000 : Int32)) fun v41 =>
        if v39.toInt < v41.toInt then
          zLet ((s36.2.2 a0 0).getD 0) fun v57 =>
          zLet (s36.1 a0 1) fun v58 =>
          zLet ((p1.toUInt32 >>> (v37.toUInt32 &&& Int32.toUInt32 31)).toInt32) fun v59 =>
          zLet (v59.toInt8.toInt32) fun v60 =>
          zLet ((zu s36.1 v57 v58.toNatClampNeg (vp_nar .byte v60), s36.2.1, s36.2.2)) fun s61 =>
          zLet (s61.1 a0 1) fun v63 =>
          zLet ((1 : Int32)) fun v64 =>
          zLet (v63 + v64) fun v65 =>
          zLet ((zu s61.1 a0 1 v65, s61.2.1, s61.2.2)) fun s66 =>
          zLet (v37 + (-8 : Int32)) fun v67 =>
          if v67.toInt < 0 then
            s66
          else
            zLet (s66.1 a0 1) fun v69 =>
            zLet ((s66.2.2 a0 0).getD 0) fun v70 =>
            zLet ((2000 : Int32)) fun v71 =>
            if v69.toInt < v71.toInt then
              zLet ((s66.2.2 a0 0).getD 0) fun v81 =>
              zLet (s66.1 a0 1) fun v82 =>
              zLet ((p1.toUInt32 >>> (v67.toUInt32 &&& Int32.toUInt32 31)).toInt32) fun v83 =>
              zLet (v83.toInt8.toInt32) fun v84 =>
              zLet ((zu s66.1 v81 v82.toNatClampNeg (vp_nar .byte v84), s66.2.1, s66.2.2)) fun s85 =>
              zLet (s85.1 a0 1) fun v87 =>
              zLet ((1 : Int32)) fun v88 =>
              zLet (v87 + v88) fun v89 =>
              zLet ((zu s85.1 a0 1 v89, s85.2.1, s85.2.2)) fun s90 =>
              zLet (v67 + (-8 : Int32)) fun v91 =>
              if v91.toInt < 0 then
                s90
              else
                zLet (s90.1 a0 1) fun v93 =>
                zLet ((s90.2.2 a0 0).getD 0) fun v94 =>
                zLet ((2000 : Int32)) fun v95 =>
                if v93.toInt < v95.toInt then
                  zLet ((s90.2.2 a0 0).getD 0) fun v99 =>
                  zLet (s90.1 a0 1) fun v100 =>
                  zLet ((p1.toUInt32 >>> (v91.toUInt32 &&& Int32.toUInt32 31)).toInt32) fun v101 =>
                  zLet (v101.toInt8.toInt32) fun v102 =>
                  zLet ((zu s90.1 v99 v100.toNatClampNeg (vp_nar .byte v102), s90.2.1, s90.2.2)) fun s103 =>
                  zLet (s103.1 a0 1) fun v105 =>
                  zLet ((1 : Int32)) fun v106 =>
                  zLet (v105 + v106) fun v107 =>
                  zLet ((zu s103.1 a0 1 v107, s103.2.1, s103.2.2)) fun s108 =>
                  zLet (v91 + (-8 : Int32)) fun v109 =>
                  if v109.toInt < 0 then
                    s108
                  else
                    s108
                else
                  zLet (v91 + (-8 : Int32)) fun v97 =>
                  if v97.toInt < 0 then
                    s90
                  else
                    s90
            else
              zLet (v67 + (-8 : Int32)) fun v73 =>
              if v73.toInt < 0 then
                s66
              else
                zLet (s66.1 a0 1) fun v75 =>
                zLet ((s66.2.2 a0 0).getD 0) fun v76 =>
                zLet ((2000 : Int32)) fun v77 =>
                if v75.toInt < v77.toInt then
                  s66
                else
                  zLet (v73 + (-8 : Int32)) fun v79 =>
                  if v79.toInt < 0 then
                    s66
                  else
                    s66
        else
          zLet (v37 + (-8 : Int32)) fun v43 =>
          if v43.toInt < 0 then
            s36
          else
            zLet (s36.1 a0 1) fun v45 =>
            zLet ((s36.2.2 a0 0).getD 0) fun v46 =>
            zLet ((2000 : Int32)) fun v47 =>
            if v45.toInt < v47.toInt then
              s36
            else
              zLet (v43 + (-8 : Int32)) fun v49 =>
              if v49.toInt < 0 then
                s36
              else
                zLet (s36.1 a0 1) fun v51 =>
                zLet ((s36.2.2 a0 0).getD 0) fun v52 =>
                zLet ((2000 : Int32)) fun v53 =>
                if v51.toInt < v53.toInt then
                  s36
                else
                  zLet (v49 + (-8 : Int32)) fun v55 =>
                  if v55.toInt < 0 then
                    s36
                  else
                    s36
    else
      zLet (v1 + (-8 : Int32)) fun v7 =>
      if v7.toInt < 0 then
        σ
      else
        zLet (σ.1 a0 1) fun v9 =>
        zLet ((σ.2.2 a0 0).getD 0) fun v10 =>
        zLet ((2000 : Int32)) fun v11 =>
        if v9.toInt < v11.toInt then
          σ
        else
          zLet (v7 + (-8 : Int32)) fun v13 =>
          if v13.toInt < 0 then
            σ
          else
            zLet (σ.1 a0 1) fun v15 =>
            zLet ((σ.2.2 a0 0).getD 0) fun v16 =>
            zLet ((2000 : Int32)) fun v17 =>
            if v15.toInt < v17.toInt then
              σ
            else
              zLet (v13 + (-8 : Int32)) fun v19 =>
              if v19.toInt < 0 then
                σ
              else
                zLet (σ.1 a0 1) fun v21 =>
                zLet ((σ.2.2 a0 0).getD 0) fun v22 =>
                zLet ((2000 : Int32)) fun v23 =>
                if v21.toInt < v23.toInt then
                  σ
                else
                  zLet (v19 + (-8 : Int32)) fun v25 =>
                  if v25.toInt < 0 then
                    σ
                  else
                    σ
set_option maxRecDepth 100000 in
noncomputable def F_X10_isPlace (a0 : Nat) (p1 : Int32) (σ : zS) : Int32 × zS :=
  zLet ((0 : Int32)) fun v1 =>
  zLet ((σ.2.2 a0 10).getD 0) fun v2 =>
  zLet (σ.1 v2 0) fun v3 =>
  zLet ((1 : Int32)) fun v4 =>
  zLet (v3 - v4) fun v5 =>
  zLet (F_X10_isWithin p1 v1 v5) fun v6 =>
  (v6, σ)
set_option maxRecDepth 100000 in
noncomputable def F_X10_isLaw (a0 : Nat) (p1 : Int32) (σ : zS) : Int32 × zS :=
  zLet ((0 : Int32)) fun v1 =>
  zLet ((2 : Int32)) fun v2 =>
  zLet (F_X10_isWithin p1 v1 v2) fun v3 =>
  (v3, σ)
set_option maxRecDepth 100000 in
noncomputable def F_X10_hasMouth (a0 : Nat) (σ : zS) : Int32 × zS :=
  zLet ((σ.2.2 a0 10).getD 0) fun v1 =>
  zLet (σ.1 v1 0) fun v2 =>
  if 0 < v2.toInt then
    zLet ((1 : Int32)) fun v5 =>
    (v5, σ)
  else
    zLet ((0 : Int32)) fun v4 =>
    (v4, σ)
set_option maxRecDepth 100000 in
noncomputable def F_X10_mouthFlow (a0 : Nat) (σ : zS) : Int32 × zS :=
  zLet2 (F_X10_hasMouth a0 σ) fun v1 s2 =>
  if v1.toInt = 0 then
    zLet ((0 : Int32)) fun v4 =>
    (v4, s2)
  else
    zLet ((s2.2.2 a0 2).getD 0) fun v5 =>
    zLet ((s2.2.2 v5 3).getD 0) fun v6 =>
    zLet ((0 : Int32)) fun v7 =>
    zLet (s2.1 v6 v7.toNatClampNeg) fun v8 =>
    (v8, s2)
set_option maxRecDepth 100000 in
noncomputable def F_X10_look (a0 : Nat) (σ : zS) : zS :=
  zLet ((σ.2.2 a0 2).getD 0) fun v1 =>
  zLet ((σ.2.2 a0 10).getD 0) fun v2 =>
  zLet ((σ.2.2 a0 6).getD 0) fun v3 =>
  zLet (F_X5_look v1 v2 v3 σ) fun s4 =>
  s4
set_option maxRecDepth 100000 in
noncomputable def F_X10_isContest (a0 : Nat) (p1 : Int32) (p2 : Int32) (σ : zS) : Int32 × zS :=
  zLet ((σ.2.2 a0 2).getD 0) fun v1 =>
  zLet ((σ.2.2 a0 10).getD 0) fun v2 =>
  zLet ((σ.2.2 a0 6).getD 0) fun v3 =>
  zLet (F_X5_look v1 v2 v3 σ) fun s4 =>
  zLet2 (F_X10_isLaw a0 p2 s4) fun v5 s6 =>
  if v5.toInt = 0 then
    zLet ((0 : Int32)) fun v8 =>
    (v8, s6)
  else
    zLet ((s6.2.2 a0 3).getD 0) fun v9 =>
    zLet2 (F_X6_isSource v9 p1 s6) fun v10 s11 =>
    if v10.toInt = 0 then
      zLet ((0 : Int32)) fun v13 =>
      (v13, s11)
    else
      zLet ((1 : Int32)) fun v14 =>
      (v14, s11)
set_option maxRecDepth 100000 in
noncomputable def F_X10_beginAnew (a0 : Nat) (σ : zS) : zS :=
  zLet ((σ.2.2 a0 6).getD 0) fun v1 =>
  zLet ((σ.2.2 a0 10).getD 0) fun v2 =>
  zLet (F_X1_begin v1 v2 σ) fun s3 =>
  zLet ((s3.2.2 a0 4).getD 0) fun v4 =>
  zLet ((0 : Int32)) fun v5 =>
  zLet ((zu s3.1 v4 2 v5, s3.2.1, s3.2.2)) fun s6 =>
  zLet ((s6.2.2 a0 5).getD 0) fun v7 =>
  zLet ((0 : Int32)) fun v8 =>
  zLet ((zu s6.1 v7 4 v8, s6.2.1, s6.2.2)) fun s9 =>
  zLet ((0 : Int32)) fun v10 =>
  zLet ((zu s9.1 a0 12 v10, s9.2.1, s9.2.2)) fun s11 =>
  s11
set_option maxRecDepth 100000 in
noncomputable def F_X10_sumOf_4 (a0 : Nat) (p1 : Nat)  : Nat → Int32 → Int32 → zS → Int32 × zS
  | 0, _, _, s => (0, s)
  | n + 1, x3, x4, τ5 =>
    zLet ((τ5.2.2 a0 10).getD 0) fun v6 =>
    zLet (τ5.1 v6 0) fun v7 =>
    if x3.toInt < v7.toInt then
      zLet (τ5.1 p1 x3.toNatClampNeg) fun v9 =>
      zLet (x4 + v9) fun v10 =>
      zLet (x3 + (1 : Int32)) fun v11 =>
      F_X10_sumOf_4 a0 p1  n v11 v10 τ5
    else
      (x4, τ5)
set_option maxRecDepth 100000 in
noncomputable def F_X10_sumOf (a0 : Nat) (p1 : Nat) (σ : zS) : Int32 × zS :=
  zLet ((0 : Int32)) fun v1 =>
  zLet ((0 : Int32)) fun v2 =>
  F_X10_sumOf_4 a0 p1  10000 v2 v1 σ
set_option maxRecDepth 100000 in
noncomputable def F_X10_turnedPlaces_4 (a0 : Nat)  : Nat → Int32 → Int32 → zS → Int32 × zS
  | 0, _, _, s => (0, s)
  | n + 1, x3, x4, τ5 =>
    zLet ((τ5.2.2 a0 10).getD 0) fun v6 =>
    zLet (τ5.1 v6 0) fun v7 =>
    if x3.toInt < v7.toInt then
      zLet ((τ5.2.2 a0 6).getD 0) fun v9 =>
      zLet ((τ5.2.2 v9 0).getD 0) fun v10 =>
      zLet (τ5.1 v10 x3.toNatClampNeg) fun v11 =>
      zLet ((τ5.2.2 a0 10).getD 0) fun v12 =>
      zLet ((τ5.2.2 v12 2).getD 0) fun v13 =>
      zLet (τ5.1 v13 x3.toNatClampNeg) fun v14 =>
      if v11.toInt = v14.toInt then
        zLet (x3 + (1 : Int32)) fun v16 =>
        F_X10_turnedPlaces_4 a0  n v16 x4 τ5
      else
        zLet (F_X10_bit x3) fun v17 =>
        zLet (x4 ||| v17) fun v18 =>
        zLet (x3 + (1 : Int32)) fun v19 =>
        F_X10_turnedPlaces_4 a0  n v19 v18 τ5
    else
      (x4, τ5)
set_option maxRecDepth 100000 in
noncomputable def F_X10_turnedPlaces (a0 : Nat) (σ : zS) : Int32 × zS :=
  zLet ((0 : Int32)) fun v1 =>
  zLet ((1 : Int32)) fun v2 =>
  F_X10_turnedPlaces_4 a0  10000 v2 v1 σ
set_option maxRecDepth 100000 in
noncomputable def F_X10_isTurn (a0 : Nat) (p1 : Int32) (p2 : Int32) (σ : zS) : Int32 × zS :=
  if p1.toInt = 0 then
    zLet ((0 : Int32)) fun v2 =>
    (v2, σ)
  else
    zLet2 (F_X10_isPlace a0 p1 σ) fun v3 s4 =>
    if v3.toInt = 0 then
      zLet ((0 : Int32)) fun v6 =>
      (v6, s4)
    else
      zLet2 (F_X10_isPlace a0 p2 s4) fun v7 s8 =>
      if v7.toInt = 0 then
        zLet ((0 : Int32)) fun v10 =>
        (v10, s8)
      else
        zLet ((s8.2.2 a0 6).getD 0) fun v11 =>
        zLet ((s8.2.2 v11 0).getD 0) fun v12 =>
        zLet (s8.1 v12 p1.toNatClampNeg) fun v13 =>
        if v13.toInt = p2.toInt then
          zLet ((0 : Int32)) fun v15 =>
          (v15, s8)
        else
          zLet ((s8.2.2 a0 6).getD 0) fun v16 =>
          zLet2 (F_X1_comesBy v16 p2 p1 s8) fun v17 s18 =>
          if v17.toInt = 0 then
            zLet ((1 : Int32)) fun v21 =>
            (v21, s18)
          else
            zLet ((0 : Int32)) fun v20 =>
            (v20, s18)
set_option maxRecDepth 100000 in
noncomputable def F_X10_castVotes_17 (x2 : Int32) (a0 : Nat) (kLp3 : Int32 → zS → zS) : Nat → Int32 → zS → zS
  | 0, _, s => s
  | n + 1, x9, τ10 =>
    zLet ((τ10.2.2 a0 10).getD 0) fun v11 =>
    zLet (τ10.1 v11 0) fun v12 =>
    if x9.toInt < v12.toInt then
      zLet ((3 : Int32)) fun v15 =>
      zLet ((τ10.2.2 a0 2).getD 0) fun v16 =>
      zLet2 (F_X5_rankOf v16 x9 τ10) fun v17 s18 =>
      zLet (v15 * v17) fun v19 =>
      zLet (v19 + x2) fun v20 =>
      zLet ((s18.2.2 a0 9).getD 0) fun v21 =>
      if x2.toInt = 0 then
        zLet ((zu s18.1 v21 x9.toNatClampNeg v20, s18.2.1, s18.2.2)) fun s28 =>
        zLet (x9 + (1 : Int32)) fun v29 =>
        F_X10_castVotes_17 x2 a0 kLp3 n v29 s28
      else
        zLet ((s18.2.2 a0 9).getD 0) fun v23 =>
        zLet (s18.1 v23 x9.toNatClampNeg) fun v24 =>
        zLet (if v24.toInt ≤ v20.toInt then v24 else v20) fun v25 =>
        zLet ((zu s18.1 v21 x9.toNatClampNeg v25, s18.2.1, s18.2.2)) fun s26 =>
        zLet (x9 + (1 : Int32)) fun v27 =>
        F_X10_castVotes_17 x2 a0 kLp3 n v27 s26
    else
      zLet (x2 + (1 : Int32)) fun v14 =>
      kLp3 v14 τ10
set_option maxRecDepth 100000 in
noncomputable def F_X10_castVotes_2 (a0 : Nat)  : Nat → Int32 → zS → zS
  | 0, _, s => s
  | n + 1, x2, τ3 =>
    zLet ((3 : Int32)) fun v4 =>
    if x2.toInt < v4.toInt then
      zLet ((τ3.2.2 a0 2).getD 0) fun v6 =>
      zLet (F_X5_weigh v6 x2 τ3) fun s7 =>
      zLet ((1 : Int32)) fun v8 =>
      F_X10_castVotes_17 x2 a0 (F_X10_castVotes_2 a0  n) 10000 v8 s7
    else
      τ3
set_option maxRecDepth 100000 in
noncomputable def F_X10_castVotes (a0 : Nat) (σ : zS) : zS :=
  zLet ((0 : Int32)) fun v1 =>
  F_X10_castVotes_2 a0  10000 v1 σ
set_option maxRecDepth 100000 in
noncomputable def F_X10_votesFor_4 (a0 : Nat) (p1 : Int32)  : Nat → Int32 → Int32 → zS → Int32 × zS
  | 0, _, _, s => (0, s)
  | n + 1, x3, x4, τ5 =>
    zLet ((τ5.2.2 a0 10).getD 0) fun v6 =>
    zLet (τ5.1 v6 0) fun v7 =>
    if x3.toInt < v7.toInt then
      zLet ((τ5.2.2 a0 3).getD 0) fun v9 =>
      zLet2 (F_X6_isSource v9 x3 τ5) fun v10 s11 =>
      if v10.toInt = 0 then
        zLet (x3 + (1 : Int32)) fun v13 =>
        F_X10_votesFor_4 a0 p1  n v13 x4 s11
      else
        zLet ((s11.2.2 a0 9).getD 0) fun v14 =>
        zLet (s11.1 v14 x3.toNatClampNeg) fun v15 =>
        zLet ((3 : Int32)) fun v16 =>
        zLet (v15 - v15 / v16 * v16) fun v17 =>
        if v17.toInt = p1.toInt then
          zLet (x4 + (1 : Int32)) fun v20 =>
          zLet (x3 + (1 : Int32)) fun v21 =>
          F_X10_votesFor_4 a0 p1  n v21 v20 s11
        else
          zLet (x3 + (1 : Int32)) fun v19 =>
          F_X10_votesFor_4 a0 p1  n v19 x4 s11
    else
      (x4, τ5)
set_option maxRecDepth 100000 in
noncomputable def F_X10_votesFor (a0 : Nat) (p1 : Int32) (σ : zS) : Int32 × zS :=
  zLet ((0 : Int32)) fun v1 =>
  zLet ((1 : Int32)) fun v2 =>
  F_X10_votesFor_4 a0 p1  10000 v2 v1 σ
set_option maxRecDepth 100000 in
noncomputable def F_X10_winsTurned (a0 : Nat) (p1 : Int32) (p2 : Int32) (p3 : Int32) (p4 : Int32) (σ : zS) : Int32 × zS :=
  zLet ((σ.2.2 a0 7).getD 0) fun v1 =>
  zLet ((σ.2.2 a0 6).getD 0) fun v2 =>
  zLet (F_X1_copy v1 v2 σ) fun s3 =>
  zLet ((s3.2.2 a0 7).getD 0) fun v4 =>
  zLet ((s3.2.2 v4 0).getD 0) fun v5 =>
  zLet ((zu s3.1 v5 p3.toNatClampNeg p4, s3.2.1, s3.2.2)) fun s6 =>
  zLet ((s6.2.2 a0 2).getD 0) fun v7 =>
  zLet ((s6.2.2 a0 10).getD 0) fun v8 =>
  zLet ((s6.2.2 a0 7).getD 0) fun v9 =>
  zLet (F_X5_look v7 v8 v9 s6) fun s10 =>
  zLet ((s10.2.2 a0 2).getD 0) fun v11 =>
  zLet2 (F_X5_winnerBy v11 p2 s10) fun v12 s13 =>
  if v12.toInt = p1.toInt then
    zLet ((1 : Int32)) fun v16 =>
    (v16, s13)
  else
    zLet ((0 : Int32)) fun v15 =>
    (v15, s13)
set_option maxRecDepth 100000 in
noncomputable def F_X10_isAhead (p1 : Int32) (p2 : Int32) : Int32 :=
  zLet (F_J6_bitCount_0f7a4 p2) fun v1 =>
  zLet (F_J6_bitCount_0f7a4 p1) fun v2 =>
  zLet (v1 - v2) fun v3 =>
  zLet (p1 ^^^ p2) fun v4 =>
  zLet (p1 ^^^ p2) fun v5 =>
  zLet (-v5) fun v6 =>
  zLet (v4 &&& v6) fun v7 =>
  zLet ((-1 : Int32)) fun v8 =>
  if p2.toInt = v8.toInt then
    zLet ((1 : Int32)) fun v10 =>
    v10
  else
    if 0 < v3.toInt then
      zLet ((1 : Int32)) fun v12 =>
      v12
    else
      if v3.toInt = 0 then
        zLet (p1 &&& v7) fun v15 =>
        if v15.toInt = 0 then
          zLet ((0 : Int32)) fun v17 =>
          v17
        else
          zLet ((1 : Int32)) fun v18 =>
          v18
      else
        zLet ((0 : Int32)) fun v14 =>
        v14
set_option maxRecDepth 100000 in
noncomputable def F_X10_lossOf (a0 : Nat) (p1 : Int32) (σ : zS) : Int32 × zS :=
  zLet2 (F_X10_mouthFlow a0 σ) fun v1 s2 =>
  zLet ((s2.2.2 a0 2).getD 0) fun v3 =>
  zLet ((s2.2.2 a0 6).getD 0) fun v4 =>
  zLet (s2.1 v4 3) fun v5 =>
  zLet (F_X10_bit p1) fun v6 =>
  zLet (v5 ||| v6) fun v7 =>
  zLet (F_X5_run v3 v7 s2) fun s8 =>
  zLet2 (F_X10_mouthFlow a0 s8) fun v9 s10 =>
  zLet (v1 - v9) fun v11 =>
  (v11, s10)
set_option maxRecDepth 100000 in
noncomputable def F_X10_greatestInto_4 (a0 : Nat) (p1 : Int32)  : Nat → Int32 → Int32 → zS → Int32 × zS
  | 0, _, _, s => (0, s)
  | n + 1, x3, x4, τ5 =>
    zLet ((τ5.2.2 a0 10).getD 0) fun v6 =>
    zLet (τ5.1 v6 0) fun v7 =>
    if x3.toInt < v7.toInt then
      zLet ((τ5.2.2 a0 6).getD 0) fun v9 =>
      zLet ((τ5.2.2 v9 0).getD 0) fun v10 =>
      zLet (τ5.1 v10 x3.toNatClampNeg) fun v11 =>
      if v11.toInt = p1.toInt then
        zLet ((-1 : Int32)) fun v14 =>
        if x4.toInt = v14.toInt then
          zLet (x3 + (1 : Int32)) fun v16 =>
          F_X10_greatestInto_4 a0 p1  n v16 x3 τ5
        else
          zLet ((τ5.2.2 a0 2).getD 0) fun v17 =>
          zLet ((τ5.2.2 v17 3).getD 0) fun v18 =>
          zLet (τ5.1 v18 x3.toNatClampNeg) fun v19 =>
          zLet ((τ5.2.2 a0 2).getD 0) fun v20 =>
          zLet ((τ5.2.2 v20 3).getD 0) fun v21 =>
          zLet (τ5.1 v21 x4.toNatClampNeg) fun v22 =>
          if v22.toInt < v19.toInt then
            zLet (x3 + (1 : Int32)) fun v27 =>
            F_X10_greatestInto_4 a0 p1  n v27 x3 τ5
          else
            zLet (x3 + (1 : Int32)) fun v26 =>
            F_X10_greatestInto_4 a0 p1  n v26 x4 τ5
      else
        zLet (x3 + (1 : Int32)) fun v13 =>
        F_X10_greatestInto_4 a0 p1  n v13 x4 τ5
    else
      (x4, τ5)
set_option maxRecDepth 100000 in
noncomputable def F_X10_greatestInto (a0 : Nat) (p1 : Int32) (σ : zS) : Int32 × zS :=
  zLet ((-1 : Int32)) fun v1 =>
  zLet ((1 : Int32)) fun v2 =>
  F_X10_greatestInto_4 a0 p1  10000 v2 v1 σ
set_option maxRecDepth 100000 in
noncomputable def F_X10_tryFromNow (a0 : Nat) (σ : zS) : zS :=
  zLet ((σ.2.2 a0 7).getD 0) fun v1 =>
  zLet ((σ.2.2 a0 6).getD 0) fun v2 =>
  zLet (F_X1_copy v1 v2 σ) fun s3 =>
  zLet ((s3.2.2 a0 2).getD 0) fun v4 =>
  zLet ((s3.2.2 a0 10).getD 0) fun v5 =>
  zLet ((s3.2.2 a0 7).getD 0) fun v6 =>
  zLet (F_X5_look v4 v5 v6 s3) fun s7 =>
  s7
set_option maxRecDepth 100000 in
noncomputable def F_X10_tallied_4 (a0 : Nat)  : Nat → Int32 → Int32 → zS → Int32 × zS
  | 0, _, _, s => (0, s)
  | n + 1, x3, x4, τ5 =>
    zLet ((τ5.2.2 a0 10).getD 0) fun v6 =>
    zLet (τ5.1 v6 0) fun v7 =>
    if x3.toInt < v7.toInt then
      zLet ((τ5.2.2 a0 9).getD 0) fun v9 =>
      zLet (τ5.1 v9 x3.toNatClampNeg) fun v10 =>
      if 0 < v10.toInt then
        zLet (x4 + (1 : Int32)) fun v13 =>
        zLet (x3 + (1 : Int32)) fun v14 =>
        F_X10_tallied_4 a0  n v14 v13 τ5
      else
        zLet (x3 + (1 : Int32)) fun v12 =>
        F_X10_tallied_4 a0  n v12 x4 τ5
    else
      (x4, τ5)
set_option maxRecDepth 100000 in
noncomputable def F_X10_tallied (a0 : Nat) (σ : zS) : Int32 × zS :=
  zLet ((0 : Int32)) fun v1 =>
  zLet ((1 : Int32)) fun v2 =>
  F_X10_tallied_4 a0  10000 v2 v1 σ
set_option maxRecDepth 100000 in
noncomputable def F_X10_mostTallied_5 (a0 : Nat)  : Nat → Int32 → Int32 → zS → Int32 × zS
  | 0, _, _, s => (0, s)
  | n + 1, x3, x4, τ5 =>
    zLet ((τ5.2.2 a0 10).getD 0) fun v6 =>
    zLet (τ5.1 v6 0) fun v7 =>
    if x3.toInt < v7.toInt then
      zLet ((τ5.2.2 a0 9).getD 0) fun v9 =>
      zLet (τ5.1 v9 x3.toNatClampNeg) fun v10 =>
      if x4.toInt < 0 then
        zLet ((0 : Int32)) fun v19 =>
        if v19.toInt < v10.toInt then
          zLet (x3 + (1 : Int32)) fun v23 =>
          F_X10_mostTallied_5 a0  n v23 x3 τ5
        else
          zLet (x3 + (1 : Int32)) fun v22 =>
          F_X10_mostTallied_5 a0  n v22 x4 τ5
      else
        zLet ((τ5.2.2 a0 9).getD 0) fun v12 =>
        zLet (τ5.1 v12 x4.toNatClampNeg) fun v13 =>
        if v13.toInt < v10.toInt then
          zLet (x3 + (1 : Int32)) fun v18 =>
          F_X10_mostTallied_5 a0  n v18 x3 τ5
        else
          zLet (x3 + (1 : Int32)) fun v17 =>
          F_X10_mostTallied_5 a0  n v17 x4 τ5
    else
      (x4, τ5)
set_option maxRecDepth 100000 in
noncomputable def F_X10_mostTallied (a0 : Nat) (σ : zS) : Int32 × zS :=
  zLet ((-2 : Int32)) fun v1 =>
  zLet ((1 : Int32)) fun v2 =>
  F_X10_mostTallied_5 a0  10000 v2 v1 σ
set_option maxRecDepth 100000 in
noncomputable def F_X10_hasWonMost_4 (a0 : Nat) (p1 : Int32)  : Nat → Int32 → Int32 → zS → Int32 × zS
  | 0, _, _, s => (0, s)
  | n + 1, x3, x4, τ5 =>
    zLet ((τ5.2.2 a0 10).getD 0) fun v6 =>
    zLet (τ5.1 v6 0) fun v7 =>
    if x3.toInt < v7.toInt then
      if x3.toInt = p1.toInt then
        zLet (x3 + (1 : Int32)) fun v10 =>
        F_X10_hasWonMost_4 a0 p1  n v10 x4 τ5
      else
        zLet ((τ5.2.2 a0 3).getD 0) fun v11 =>
        zLet2 (F_X6_isSource v11 x3 τ5) fun v12 s13 =>
        if v12.toInt = 0 then
          zLet (x3 + (1 : Int32)) fun v15 =>
          F_X10_hasWonMost_4 a0 p1  n v15 x4 s13
        else
          zLet ((s13.2.2 a0 7).getD 0) fun v16 =>
          zLet ((s13.2.2 v16 1).getD 0) fun v17 =>
          zLet (s13.1 v17 x3.toNatClampNeg) fun v18 =>
          zLet ((s13.2.2 a0 7).getD 0) fun v19 =>
          zLet ((s13.2.2 v19 1).getD 0) fun v20 =>
          zLet (s13.1 v20 p1.toNatClampNeg) fun v21 =>
          if v18.toInt < v21.toInt then
            zLet (x3 + (1 : Int32)) fun v25 =>
            F_X10_hasWonMost_4 a0 p1  n v25 x4 s13
          else
            zLet ((0 : Int32)) fun v26 =>
            zLet (x3 + (1 : Int32)) fun v27 =>
            F_X10_hasWonMost_4 a0 p1  n v27 v26 s13
    else
      (x4, τ5)
set_option maxRecDepth 100000 in
noncomputable def F_X10_hasWonMost (a0 : Nat) (p1 : Int32) (σ : zS) : Int32 × zS :=
  zLet ((1 : Int32)) fun v1 =>
  zLet ((1 : Int32)) fun v2 =>
  F_X10_hasWonMost_4 a0 p1  10000 v2 v1 σ
set_option maxRecDepth 100000 in
noncomputable def F_X10_leftAtWorst (a0 : Nat) (p1 : Int32) (p2 : Int32) (σ : zS) : Int32 × zS :=
  zLet ((σ.2.2 a0 3).getD 0) fun v1 =>
  zLet2 (F_X6_comingBy v1 p2 σ) fun v2 s3 =>
  zLet (p1 &&& v2) fun v4 =>
  zLet (F_J6_bitCount_0f7a4 v4) fun v5 =>
  zLet ((-1 : Int32)) fun v6 =>
  zLet (v4 ^^^ v6) fun v7 =>
  zLet (p1 &&& v7) fun v8 =>
  zLet (F_J6_bitCount_0f7a4 v8) fun v9 =>
  zLet (if v5.toInt ≤ v9.toInt then v9 else v5) fun v10 =>
  (v10, s3)
set_option maxRecDepth 100000 in
noncomputable def F_X10_fewestDams_33 (v13 : Int32) (a0 : Nat) (p1 : Int32)  : Nat → Int32 → Int32 → zS → Int32 × zS
  | 0, _, _, s => (0, s)
  | n + 1, x16, x17, τ18 =>
    if v13.toInt < x16.toInt then
      (x17, τ18)
    else
      zLet ((-1 : Int32)) fun v21 =>
      zLet (v13 ^^^ v21) fun v22 =>
      zLet (x16 &&& v22) fun v23 =>
      if v23.toInt = 0 then
        zLet (F_J6_bitCount_0f7a4 x16) fun v26 =>
        zLet ((3 : Int32)) fun v27 =>
        if v27.toInt < v26.toInt then
          zLet (x16 + (1 : Int32)) fun v30 =>
          F_X10_fewestDams_33 v13 a0 p1  n v30 x17 τ18
        else
          zLet (F_X10_isAhead x16 x17) fun v31 =>
          if v31.toInt = 0 then
            zLet (x16 + (1 : Int32)) fun v33 =>
            F_X10_fewestDams_33 v13 a0 p1  n v33 x17 τ18
          else
            zLet ((τ18.2.2 a0 2).getD 0) fun v34 =>
            zLet ((τ18.2.2 a0 6).getD 0) fun v35 =>
            zLet (τ18.1 v35 3) fun v36 =>
            zLet (v36 ||| x16) fun v37 =>
            zLet (F_X5_run v34 v37 τ18) fun s38 =>
            zLet2 (F_X10_mouthFlow a0 s38) fun v39 s40 =>
            if p1.toInt < v39.toInt then
              zLet (x16 + (1 : Int32)) fun v44 =>
              F_X10_fewestDams_33 v13 a0 p1  n v44 x17 s40
            else
              zLet (x16 + (1 : Int32)) fun v45 =>
              F_X10_fewestDams_33 v13 a0 p1  n v45 x16 s40
      else
        zLet (x16 + (1 : Int32)) fun v25 =>
        F_X10_fewestDams_33 v13 a0 p1  n v25 x17 τ18
set_option maxRecDepth 100000 in
noncomputable def F_X10_fewestDams (a0 : Nat) (p1 : Int32) (σ : zS) : Int32 × zS :=
  zLet ((σ.2.2 a0 10).getD 0) fun v1 =>
  zLet (σ.1 v1 0) fun v2 =>
  zLet (F_X10_bit v2) fun v3 =>
  zLet ((1 : Int32)) fun v4 =>
  zLet (v3 - v4) fun v5 =>
  zLet ((σ.2.2 a0 6).getD 0) fun v6 =>
  zLet (σ.1 v6 3) fun v7 =>
  zLet ((0 : Int32)) fun v8 =>
  zLet (F_X10_bit v8) fun v9 =>
  zLet (v7 ||| v9) fun v10 =>
  zLet ((-1 : Int32)) fun v11 =>
  zLet (v10 ^^^ v11) fun v12 =>
  zLet (v5 &&& v12) fun v13 =>
  zLet ((-1 : Int32)) fun v14 =>
  zLet ((0 : Int32)) fun v15 =>
  F_X10_fewestDams_33 v13 a0 p1  4294967299 v15 v14 σ
set_option maxRecDepth 100000 in
noncomputable def F_X10_place (a0 : Nat) (σ : zS) : Int32 × zS :=
  zLet (σ.1 a0 13) fun v1 =>
  (v1, σ)
set_option maxRecDepth 100000 in
noncomputable def F_X10_spot (a0 : Nat) (p1 : Int32) (p2 : Int32) (σ : zS) : Int32 × zS :=
  zLet2 (F_X10_isPlace a0 p1 σ) fun v1 s2 =>
  if v1.toInt = 0 then
    zLet ((-1 : Int32)) fun v4 =>
    (v4, s2)
  else
    if p2.toInt < 0 then
      zLet ((-1 : Int32)) fun v6 =>
      (v6, s2)
    else
      zLet ((12 : Int32)) fun v7 =>
      if v7.toInt < p2.toInt then
        zLet ((-1 : Int32)) fun v70 =>
        (v70, s2)
      else
        zLet (F_X10_look a0 s2) fun s10 =>
        if p2.toInt = 0 then
          if p1.toInt = 0 then
            zLet ((-2 : Int32)) fun v16 =>
            (v16, s10)
          else
            zLet ((s10.2.2 a0 6).getD 0) fun v13 =>
            zLet ((s10.2.2 v13 0).getD 0) fun v14 =>
            zLet (s10.1 v14 p1.toNatClampNeg) fun v15 =>
            (v15, s10)
        else
          if p2.toInt = 1 then
            zLet ((s10.2.2 a0 10).getD 0) fun v18 =>
            zLet ((s10.2.2 v18 3).getD 0) fun v19 =>
            zLet (s10.1 v19 p1.toNatClampNeg) fun v20 =>
            (v20, s10)
          else
            if p2.toInt = 2 then
              zLet ((s10.2.2 a0 10).getD 0) fun v22 =>
              zLet ((s10.2.2 v22 4).getD 0) fun v23 =>
              zLet (s10.1 v23 p1.toNatClampNeg) fun v24 =>
              (v24, s10)
            else
              if p2.toInt = 3 then
                zLet ((s10.2.2 a0 10).getD 0) fun v26 =>
                zLet ((s10.2.2 v26 5).getD 0) fun v27 =>
                zLet (s10.1 v27 p1.toNatClampNeg) fun v28 =>
                (v28, s10)
              else
                if p2.toInt = 4 then
                  zLet ((s10.2.2 a0 6).getD 0) fun v30 =>
                  zLet (s10.1 v30 3) fun v31 =>
                  zLet (F_X10_has v31 p1) fun v32 =>
                  if v32.toInt = 0 then
                    zLet ((0 : Int32)) fun v34 =>
                    (v34, s10)
                  else
                    zLet ((1 : Int32)) fun v35 =>
                    (v35, s10)
                else
                  if p2.toInt = 5 then
                    zLet ((s10.2.2 a0 2).getD 0) fun v37 =>
                    zLet ((s10.2.2 v37 3).getD 0) fun v38 =>
                    zLet (s10.1 v38 p1.toNatClampNeg) fun v39 =>
                    (v39, s10)
                  else
                    if p2.toInt = 6 then
                      zLet ((s10.2.2 a0 3).getD 0) fun v41 =>
                      zLet ((s10.2.2 v41 3).getD 0) fun v42 =>
                      zLet (s10.1 v42 p1.toNatClampNeg) fun v43 =>
                      (v43, s10)
                    else
                      if p2.toInt = 7 then
                        zLet ((s10.2.2 a0 3).getD 0) fun v45 =>
                        zLet ((s10.2.2 v45 4).getD 0) fun v46 =>
                        zLet (s10.1 v46 p1.toNatClampNeg) fun v47 =>
                        (v47, s10)
                      else
                        if p2.toInt = 8 then
                          zLet ((s10.2.2 a0 3).getD 0) fun v49 =>
                          zLet2 (F_X6_isSource v49 p1 s10) fun v50 s51 =>
                          if v50.toInt = 0 then
                            zLet ((0 : Int32)) fun v53 =>
                            (v53, s51)
                          else
                            zLet ((1 : Int32)) fun v54 =>
                            (v54, s51)
                        else
                          if p2.toInt = 9 then
                            zLet ((s10.2.2 a0 6).getD 0) fun v56 =>
                            zLet ((s10.2.2 v56 1).getD 0) fun v57 =>
                            zLet (s10.1 v57 p1.toNatClampNeg) fun v58 =>
                            (v58, s10)
                          else
                            if p2.toInt = 10 then
                              zLet ((s10.2.2 a0 6).getD 0) fun v60 =>
                              zLet ((s10.2.2 v60 2).getD 0) fun v61 =>
                              zLet (s10.1 v61 p1.toNatClampNeg) fun v62 =>
                              (v62, s10)
                            else
                              if p2.toInt = 11 then
                                zLet ((s10.2.2 a0 2).getD 0) fun v64 =>
                                zLet ((s10.2.2 v64 2).getD 0) fun v65 =>
                                zLet (s10.1 v65 p1.toNatClampNeg) fun v66 =>
                                (v66, s10)
                              else
                                zLet ((s10.2.2 a0 2).getD 0) fun v67 =>
                                zLet2 (F_X5_dried v67 p1 s10) fun v68 s69 =>
                                (v68, s69)
set_option maxRecDepth 100000 in
noncomputable def F_X10_claim (a0 : Nat) (p1 : Int32) (p2 : Int32) (σ : zS) : Int32 × zS :=
  zLet2 (F_X10_isContest a0 p1 p2 σ) fun v1 s2 =>
  if v1.toInt = 0 then
    zLet ((-1 : Int32)) fun v4 =>
    (v4, s2)
  else
    zLet ((s2.2.2 a0 2).getD 0) fun v5 =>
    zLet2 (F_X5_claimOf v5 p1 p2 s2) fun v6 s7 =>
    (v6, s7)
set_option maxRecDepth 100000 in
noncomputable def F_X10_winner (a0 : Nat) (p1 : Int32) (σ : zS) : Int32 × zS :=
  zLet2 (F_X10_isLaw a0 p1 σ) fun v1 s2 =>
  if v1.toInt = 0 then
    zLet ((-1 : Int32)) fun v8 =>
    (v8, s2)
  else
    zLet (F_X10_look a0 s2) fun s4 =>
    zLet ((s4.2.2 a0 2).getD 0) fun v5 =>
    zLet2 (F_X5_winnerBy v5 p1 s4) fun v6 s7 =>
    (v6, s7)
set_option maxRecDepth 100000 in
noncomputable def F_X10_count (a0 : Nat) (p1 : Int32) (σ : zS) : Int32 × zS :=
  zLet (F_X10_look a0 σ) fun s1 =>
  if p1.toInt = 0 then
    zLet ((s1.2.2 a0 10).getD 0) fun v3 =>
    zLet (s1.1 v3 0) fun v4 =>
    (v4, s1)
  else
    if p1.toInt = 1 then
      zLet ((s1.2.2 a0 6).getD 0) fun v6 =>
      zLet (s1.1 v6 4) fun v7 =>
      (v7, s1)
    else
      if p1.toInt = 2 then
        zLet ((s1.2.2 a0 6).getD 0) fun v9 =>
        zLet2 (F_X1_moon v9 s1) fun v10 s11 =>
        (v10, s11)
      else
        if p1.toInt = 3 then
          zLet ((s1.2.2 a0 6).getD 0) fun v13 =>
          zLet (s1.1 v13 5) fun v14 =>
          (v14, s1)
        else
          if p1.toInt = 4 then
            zLet ((s1.2.2 a0 3).getD 0) fun v16 =>
            zLet2 (F_X6_sources v16 s1) fun v17 s18 =>
            (v17, s18)
          else
            if p1.toInt = 5 then
              zLet ((s1.2.2 a0 6).getD 0) fun v20 =>
              zLet (s1.1 v20 3) fun v21 =>
              (v21, s1)
            else
              if p1.toInt = 6 then
                zLet2 (F_X10_mouthFlow a0 s1) fun v23 s24 =>
                (v23, s24)
              else
                if p1.toInt = 7 then
                  zLet ((s1.2.2 a0 6).getD 0) fun v26 =>
                  zLet ((s1.2.2 v26 2).getD 0) fun v27 =>
                  zLet2 (F_X10_sumOf a0 v27 s1) fun v28 s29 =>
                  (v28, s29)
                else
                  if p1.toInt = 8 then
                    zLet ((s1.2.2 a0 0).getD 0) fun v31 =>
                    zLet (s1.1 v31 1) fun v32 =>
                    (v32, s1)
                  else
                    if p1.toInt = 9 then
                      zLet ((s1.2.2 a0 4).getD 0) fun v34 =>
                      zLet (s1.1 v34 2) fun v35 =>
                      (v35, s1)
                    else
                      if p1.toInt = 10 then
                        zLet ((s1.2.2 a0 5).getD 0) fun v37 =>
                        zLet (s1.1 v37 4) fun v38 =>
                        (v38, s1)
                      else
                        if p1.toInt = 11 then
                          zLet (s1.1 a0 12) fun v40 =>
                          zLet (F_J6_bitCount_0f7a4 v40) fun v41 =>
                          (v41, s1)
                        else
                          if p1.toInt = 12 then
                            zLet ((s1.2.2 a0 10).getD 0) fun v43 =>
                            zLet ((s1.2.2 a0 10).getD 0) fun v44 =>
                            zLet (s1.1 v44 13) fun v45 =>
                            zLet ((s1.2.2 a0 6).getD 0) fun v46 =>
                            zLet (s1.1 v46 4) fun v47 =>
                            zLet2 (F_X9_isStorm v43 v45 v47 s1) fun v48 s49 =>
                            if v48.toInt = 0 then
                              zLet ((0 : Int32)) fun v51 =>
                              (v51, s49)
                            else
                              zLet ((1 : Int32)) fun v52 =>
                              (v52, s49)
                          else
                            if p1.toInt = 13 then
                              zLet ((s1.2.2 a0 10).getD 0) fun v54 =>
                              zLet ((s1.2.2 v54 3).getD 0) fun v55 =>
                              zLet2 (F_X10_sumOf a0 v55 s1) fun v56 s57 =>
                              (v56, s57)
                            else
                              if p1.toInt = 14 then
                                zLet2 (F_X10_turnedPlaces a0 s1) fun v59 s60 =>
                                (v59, s60)
                              else
                                if p1.toInt = 15 then
                                  zLet ((s1.2.2 a0 10).getD 0) fun v62 =>
                                  zLet ((s1.2.2 v62 4).getD 0) fun v63 =>
                                  zLet2 (F_X10_sumOf a0 v63 s1) fun v64 s65 =>
                                  (v64, s65)
                                else
                                  if p1.toInt = 16 then
                                    zLet ((s1.2.2 a0 3).getD 0) fun v67 =>
                                    zLet2 (F_X6_greatestFar v67 s1) fun v68 s69 =>
                                    (v68, s69)
                                  else
                                    zLet ((-1 : Int32)) fun v70 =>
                                    (v70, s1)
set_option maxRecDepth 100000 in
noncomputable def F_X10_dam (a0 : Nat) (p1 : Int32) (p2 : Int32) (σ : zS) : Int32 × zS :=
  if p1.toInt = 0 then
    zLet ((0 : Int32)) fun v2 =>
    (v2, σ)
  else
    zLet2 (F_X10_isPlace a0 p1 σ) fun v3 s4 =>
    if v3.toInt = 0 then
      zLet ((0 : Int32)) fun v6 =>
      (v6, s4)
    else
      zLet ((s4.2.2 a0 6).getD 0) fun v7 =>
      zLet (s4.1 v7 3) fun v8 =>
      zLet (F_X10_has v8 p1) fun v9 =>
      if v9.toInt = p2.toInt then
        zLet ((0 : Int32)) fun v22 =>
        (v22, s4)
      else
        zLet ((s4.2.2 a0 4).getD 0) fun v11 =>
        zLet ((s4.2.2 a0 6).getD 0) fun v12 =>
        zLet (F_X4_push v11 v12 s4) fun s13 =>
        zLet ((s13.2.2 a0 6).getD 0) fun v14 =>
        zLet (s13.1 v14 3) fun v15 =>
        zLet (F_X10_bit p1) fun v16 =>
        zLet (v15 ^^^ v16) fun v17 =>
        zLet ((zu s13.1 v14 3 v17, s13.2.1, s13.2.2)) fun s18 =>
        zLet ((1 : Int32)) fun v21 =>
        (v21, s18)
set_option maxRecDepth 100000 in
noncomputable def F_X10_turn (a0 : Nat) (p1 : Int32) (p2 : Int32) (σ : zS) : Int32 × zS :=
  zLet2 (F_X10_isTurn a0 p1 p2 σ) fun v1 s2 =>
  if v1.toInt = 0 then
    zLet ((0 : Int32)) fun v11 =>
    (v11, s2)
  else
    zLet ((s2.2.2 a0 4).getD 0) fun v4 =>
    zLet ((s2.2.2 a0 6).getD 0) fun v5 =>
    zLet (F_X4_push v4 v5 s2) fun s6 =>
    zLet ((s6.2.2 a0 6).getD 0) fun v7 =>
    zLet ((s6.2.2 v7 0).getD 0) fun v8 =>
    zLet ((zu s6.1 v8 p1.toNatClampNeg p2, s6.2.1, s6.2.2)) fun s9 =>
    zLet ((1 : Int32)) fun v10 =>
    (v10, s9)
set_option maxRecDepth 100000 in
noncomputable def F_X10_rule (a0 : Nat) (p1 : Int32) (σ : zS) : Int32 × zS :=
  zLet2 (F_X10_isLaw a0 p1 σ) fun v1 s2 =>
  if v1.toInt = 0 then
    zLet ((0 : Int32)) fun v4 =>
    (v4, s2)
  else
    zLet ((s2.2.2 a0 6).getD 0) fun v5 =>
    zLet (s2.1 v5 5) fun v6 =>
    if v6.toInt = p1.toInt then
      zLet ((0 : Int32)) fun v14 =>
      (v14, s2)
    else
      zLet ((s2.2.2 a0 4).getD 0) fun v8 =>
      zLet ((s2.2.2 a0 6).getD 0) fun v9 =>
      zLet (F_X4_push v8 v9 s2) fun s10 =>
      zLet ((s10.2.2 a0 6).getD 0) fun v11 =>
      zLet ((zu s10.1 v11 5 p1, s10.2.1, s10.2.2)) fun s12 =>
      zLet ((1 : Int32)) fun v13 =>
      (v13, s12)
set_option maxRecDepth 100000 in
noncomputable def F_X10_months (a0 : Nat) (p1 : Int32) (σ : zS) : Int32 × zS :=
  zLet ((0 : Int32)) fun v1 =>
  zLet ((60 : Int32)) fun v2 =>
  zLet (F_X10_isWithin p1 v1 v2) fun v3 =>
  if v3.toInt = 0 then
    zLet ((-1 : Int32)) fun v19 =>
    (v19, σ)
  else
    if 0 < p1.toInt then
      zLet ((σ.2.2 a0 4).getD 0) fun v8 =>
      zLet ((σ.2.2 a0 6).getD 0) fun v9 =>
      zLet (F_X4_push v8 v9 σ) fun s10 =>
      zLet ((s10.2.2 a0 2).getD 0) fun v11 =>
      zLet ((s10.2.2 a0 10).getD 0) fun v12 =>
      zLet ((s10.2.2 a0 6).getD 0) fun v13 =>
      zLet ((s10.2.2 a0 10).getD 0) fun v14 =>
      zLet (s10.1 v14 13) fun v15 =>
      zLet (F_X5_goThrough v11 v12 v13 p1 v15 s10) fun s16 =>
      zLet ((s16.2.2 a0 6).getD 0) fun v17 =>
      zLet (s16.1 v17 4) fun v18 =>
      (v18, s16)
    else
      zLet ((σ.2.2 a0 6).getD 0) fun v6 =>
      zLet (σ.1 v6 4) fun v7 =>
      (v7, σ)
set_option maxRecDepth 100000 in
noncomputable def F_X10_undo (a0 : Nat) (σ : zS) : Int32 × zS :=
  zLet ((σ.2.2 a0 4).getD 0) fun v1 =>
  zLet ((σ.2.2 a0 6).getD 0) fun v2 =>
  zLet2 (F_X4_pop v1 v2 σ) fun v3 s4 =>
  (v3, s4)
set_option maxRecDepth 100000 in
noncomputable def F_X10_hold (a0 : Nat) (p1 : Int32) (σ : zS) : Int32 × zS :=
  zLet ((0 : Int32)) fun v1 =>
  zLet ((2 : Int32)) fun v2 =>
  zLet (F_X10_isWithin p1 v1 v2) fun v3 =>
  if v3.toInt = 0 then
    zLet ((0 : Int32)) fun v14 =>
    (v14, σ)
  else
    zLet ((σ.2.2 a0 8).getD 0) fun v5 =>
    zLet ((σ.2.2 v5 p1.toNatClampNeg).getD 0) fun v6 =>
    zLet ((σ.2.2 a0 6).getD 0) fun v7 =>
    zLet (F_X1_copy v6 v7 σ) fun s8 =>
    zLet (s8.1 a0 12) fun v9 =>
    zLet (F_X10_bit p1) fun v10 =>
    zLet (v9 ||| v10) fun v11 =>
    zLet ((zu s8.1 a0 12 v11, s8.2.1, s8.2.2)) fun s12 =>
    zLet ((1 : Int32)) fun v13 =>
    (v13, s12)
set_option maxRecDepth 100000 in
noncomputable def F_X10_restore (a0 : Nat) (p1 : Int32) (σ : zS) : Int32 × zS :=
  zLet ((0 : Int32)) fun v1 =>
  zLet ((2 : Int32)) fun v2 =>
  zLet (F_X10_isWithin p1 v1 v2) fun v3 =>
  if v3.toInt = 0 then
    zLet ((0 : Int32)) fun v5 =>
    (v5, σ)
  else
    zLet (σ.1 a0 12) fun v6 =>
    zLet (F_X10_has v6 p1) fun v7 =>
    if v7.toInt = 0 then
      zLet ((0 : Int32)) fun v17 =>
      (v17, σ)
    else
      zLet ((σ.2.2 a0 6).getD 0) fun v9 =>
      zLet ((σ.2.2 a0 8).getD 0) fun v10 =>
      zLet ((σ.2.2 v10 p1.toNatClampNeg).getD 0) fun v11 =>
      zLet (F_X1_copy v9 v11 σ) fun s12 =>
      zLet ((s12.2.2 a0 4).getD 0) fun v13 =>
      zLet ((0 : Int32)) fun v14 =>
      zLet ((zu s12.1 v13 2 v14, s12.2.1, s12.2.2)) fun s15 =>
      zLet ((1 : Int32)) fun v16 =>
      (v16, s15)
set_option maxRecDepth 100000 in
noncomputable def F_X10_behind (a0 : Nat) (p1 : Int32) (p2 : Int32) (σ : zS) : Int32 × zS :=
  zLet2 (F_X10_isContest a0 p1 p2 σ) fun v1 s2 =>
  if v1.toInt = 0 then
    zLet ((-1 : Int32)) fun v16 =>
    (v16, s2)
  else
    zLet ((s2.2.2 a0 2).getD 0) fun v4 =>
    zLet2 (F_X5_winnerBy v4 p2 s2) fun v5 s6 =>
    if v5.toInt < 0 then
      zLet ((-1 : Int32)) fun v15 =>
      (v15, s6)
    else
      zLet ((s6.2.2 a0 2).getD 0) fun v8 =>
      zLet ((s6.2.2 v8 4).getD 0) fun v9 =>
      zLet (s6.1 v9 v5.toNatClampNeg) fun v10 =>
      zLet ((s6.2.2 a0 2).getD 0) fun v11 =>
      zLet ((s6.2.2 v11 4).getD 0) fun v12 =>
      zLet (s6.1 v12 p1.toNatClampNeg) fun v13 =>
      zLet (v10 - v13) fun v14 =>
      (v14, s6)
set_option maxRecDepth 100000 in
noncomputable def F_X10_margin (a0 : Nat) (p1 : Int32) (σ : zS) : Int32 × zS :=
  zLet2 (F_X10_isLaw a0 p1 σ) fun v1 s2 =>
  if v1.toInt = 0 then
    zLet ((-1 : Int32)) fun v25 =>
    (v25, s2)
  else
    zLet (F_X10_look a0 s2) fun s4 =>
    zLet ((s4.2.2 a0 2).getD 0) fun v5 =>
    zLet (F_X5_weigh v5 p1 s4) fun s6 =>
    zLet ((s6.2.2 a0 2).getD 0) fun v7 =>
    zLet ((-1 : Int32)) fun v8 =>
    zLet2 (F_X5_greatestClaim v7 v8 s6) fun v9 s10 =>
    zLet ((s10.2.2 a0 2).getD 0) fun v11 =>
    zLet2 (F_X5_greatestClaim v11 v9 s10) fun v12 s13 =>
    if v9.toInt < 0 then
      zLet ((-2 : Int32)) fun v15 =>
      (v15, s13)
    else
      if v12.toInt < 0 then
        zLet ((-2 : Int32)) fun v24 =>
        (v24, s13)
      else
        zLet ((s13.2.2 a0 2).getD 0) fun v17 =>
        zLet ((s13.2.2 v17 4).getD 0) fun v18 =>
        zLet (s13.1 v18 v9.toNatClampNeg) fun v19 =>
        zLet ((s13.2.2 a0 2).getD 0) fun v20 =>
        zLet ((s13.2.2 v20 4).getD 0) fun v21 =>
        zLet (s13.1 v21 v12.toNatClampNeg) fun v22 =>
        zLet (v19 - v22) fun v23 =>
        (v23, s13)
set_option maxRecDepth 100000 in
noncomputable def F_X10_rank (a0 : Nat) (p1 : Int32) (p2 : Int32) (σ : zS) : Int32 × zS :=
  zLet2 (F_X10_isContest a0 p1 p2 σ) fun v1 s2 =>
  if v1.toInt = 0 then
    zLet ((-1 : Int32)) fun v9 =>
    (v9, s2)
  else
    zLet ((s2.2.2 a0 2).getD 0) fun v4 =>
    zLet (F_X5_weigh v4 p2 s2) fun s5 =>
    zLet ((s5.2.2 a0 2).getD 0) fun v6 =>
    zLet2 (F_X5_rankOf v6 p1 s5) fun v7 s8 =>
    (v7, s8)
set_option maxRecDepth 100000 in
noncomputable def F_X10_vote_36 (a0 : Nat) (p1 : Int32)  : Nat → Int32 → Int32 → zS → Int32 × zS
  | 0, _, _, s => (0, s)
  | n + 1, x13, x14, τ15 =>
    zLet ((3 : Int32)) fun v16 =>
    if x13.toInt < v16.toInt then
      zLet2 (F_X10_votesFor a0 x13 τ15) fun v21 s22 =>
      zLet2 (F_X10_votesFor a0 x14 s22) fun v23 s24 =>
      if v23.toInt < v21.toInt then
        zLet (x13 + (1 : Int32)) fun v29 =>
        F_X10_vote_36 a0 p1  n v29 x13 s24
      else
        zLet (x13 + (1 : Int32)) fun v28 =>
        F_X10_vote_36 a0 p1  n v28 x14 s24
    else
      if p1.toInt = 0 then
        (x14, τ15)
      else
        zLet2 (F_X10_votesFor a0 x14 τ15) fun v19 s20 =>
        (v19, s20)
set_option maxRecDepth 100000 in
noncomputable def F_X10_vote (a0 : Nat) (p1 : Int32) (σ : zS) : Int32 × zS :=
  zLet ((0 : Int32)) fun v1 =>
  zLet ((1 : Int32)) fun v2 =>
  zLet (F_X10_isWithin p1 v1 v2) fun v3 =>
  if v3.toInt = 0 then
    zLet ((-1 : Int32)) fun v31 =>
    (v31, σ)
  else
    zLet (F_X10_look a0 σ) fun s5 =>
    zLet ((s5.2.2 a0 3).getD 0) fun v6 =>
    zLet2 (F_X6_sources v6 s5) fun v7 s8 =>
    if v7.toInt = 0 then
      zLet ((-2 : Int32)) fun v30 =>
      (v30, s8)
    else
      zLet (F_X10_castVotes a0 s8) fun s10 =>
      zLet ((0 : Int32)) fun v11 =>
      zLet ((1 : Int32)) fun v12 =>
      F_X10_vote_36 a0 p1  10000 v12 v11 s10
set_option maxRecDepth 100000 in
noncomputable def F_X10_richest_15 (a0 : Nat) (p1 : Int32)  : Nat → Int32 → Int32 → zS → Int32 × zS
  | 0, _, _, s => (0, s)
  | n + 1, x7, x8, τ9 =>
    zLet ((τ9.2.2 a0 10).getD 0) fun v10 =>
    zLet (τ9.1 v10 0) fun v11 =>
    if x7.toInt < v11.toInt then
      zLet ((τ9.2.2 a0 6).getD 0) fun v22 =>
      zLet ((τ9.2.2 v22 2).getD 0) fun v23 =>
      zLet (τ9.1 v23 x7.toNatClampNeg) fun v24 =>
      zLet ((τ9.2.2 a0 6).getD 0) fun v25 =>
      zLet ((τ9.2.2 v25 2).getD 0) fun v26 =>
      zLet (τ9.1 v26 x8.toNatClampNeg) fun v27 =>
      if v27.toInt < v24.toInt then
        zLet (x7 + (1 : Int32)) fun v32 =>
        F_X10_richest_15 a0 p1  n v32 x7 τ9
      else
        zLet (x7 + (1 : Int32)) fun v31 =>
        F_X10_richest_15 a0 p1  n v31 x8 τ9
    else
      zLet ((τ9.2.2 a0 6).getD 0) fun v13 =>
      zLet ((τ9.2.2 v13 2).getD 0) fun v14 =>
      zLet (τ9.1 v14 x8.toNatClampNeg) fun v15 =>
      if v15.toInt = 0 then
        zLet ((-2 : Int32)) fun v21 =>
        (v21, τ9)
      else
        if p1.toInt = 0 then
          (x8, τ9)
        else
          zLet ((τ9.2.2 a0 6).getD 0) fun v18 =>
          zLet ((τ9.2.2 v18 2).getD 0) fun v19 =>
          zLet (τ9.1 v19 x8.toNatClampNeg) fun v20 =>
          (v20, τ9)
set_option maxRecDepth 100000 in
noncomputable def F_X10_richest (a0 : Nat) (p1 : Int32) (σ : zS) : Int32 × zS :=
  zLet ((0 : Int32)) fun v1 =>
  zLet ((1 : Int32)) fun v2 =>
  zLet (F_X10_isWithin p1 v1 v2) fun v3 =>
  if v3.toInt = 0 then
    zLet ((-1 : Int32)) fun v33 =>
    (v33, σ)
  else
    zLet ((0 : Int32)) fun v5 =>
    zLet ((1 : Int32)) fun v6 =>
    F_X10_richest_15 a0 p1  10000 v6 v5 σ
set_option maxRecDepth 100000 in
noncomputable def F_X10_turnFor_27 (x5 : Int32) (a0 : Nat) (p1 : Int32) (p2 : Int32) (kLp6 : Int32 → zS → Int32 × zS) : Nat → Int32 → zS → Int32 × zS
  | 0, _, s => (0, s)
  | n + 1, x12, τ13 =>
    zLet ((τ13.2.2 a0 10).getD 0) fun v14 =>
    zLet (τ13.1 v14 0) fun v15 =>
    if x12.toInt < v15.toInt then
      if x5.toInt = p1.toInt then
        zLet (x12 + (1 : Int32)) fun v19 =>
        F_X10_turnFor_27 x5 a0 p1 p2 kLp6 n v19 τ13
      else
        zLet2 (F_X10_isTurn a0 x5 x12 τ13) fun v20 s21 =>
        if v20.toInt = 0 then
          zLet (x12 + (1 : Int32)) fun v23 =>
          F_X10_turnFor_27 x5 a0 p1 p2 kLp6 n v23 s21
        else
          zLet2 (F_X10_winsTurned a0 p1 p2 x5 x12 s21) fun v24 s25 =>
          if v24.toInt = 0 then
            zLet (x12 + (1 : Int32)) fun v27 =>
            F_X10_turnFor_27 x5 a0 p1 p2 kLp6 n v27 s25
          else
            zLet ((100 : Int32)) fun v28 =>
            zLet (v28 * x5) fun v29 =>
            zLet (v29 + x12) fun v30 =>
            (v30, s25)
    else
      zLet (x5 + (1 : Int32)) fun v17 =>
      kLp6 v17 τ13
set_option maxRecDepth 100000 in
noncomputable def F_X10_turnFor_13 (a0 : Nat) (p1 : Int32) (p2 : Int32)  : Nat → Int32 → zS → Int32 × zS
  | 0, _, s => (0, s)
  | n + 1, x5, τ6 =>
    zLet ((τ6.2.2 a0 10).getD 0) fun v7 =>
    zLet (τ6.1 v7 0) fun v8 =>
    if x5.toInt < v8.toInt then
      zLet ((0 : Int32)) fun v11 =>
      F_X10_turnFor_27 x5 a0 p1 p2 (F_X10_turnFor_13 a0 p1 p2  n) 10000 v11 τ6
    else
      zLet ((-2 : Int32)) fun v10 =>
      (v10, τ6)
set_option maxRecDepth 100000 in
noncomputable def F_X10_turnFor (a0 : Nat) (p1 : Int32) (p2 : Int32) (σ : zS) : Int32 × zS :=
  zLet2 (F_X10_isContest a0 p1 p2 σ) fun v1 s2 =>
  if v1.toInt = 0 then
    zLet ((-1 : Int32)) fun v31 =>
    (v31, s2)
  else
    zLet ((1 : Int32)) fun v4 =>
    F_X10_turnFor_13 a0 p1 p2  10000 v4 s2
set_option maxRecDepth 100000 in
noncomputable def F_X10_damFor_13 (a0 : Nat) (p1 : Int32) (p2 : Int32)  : Nat → Int32 → zS → Int32 × zS
  | 0, _, s => (0, s)
  | n + 1, x5, τ6 =>
    zLet ((τ6.2.2 a0 10).getD 0) fun v7 =>
    zLet (τ6.1 v7 0) fun v8 =>
    if x5.toInt < v8.toInt then
      zLet ((τ6.2.2 a0 6).getD 0) fun v11 =>
      zLet (τ6.1 v11 3) fun v12 =>
      zLet (F_X10_has v12 x5) fun v13 =>
      if v13.toInt = 0 then
        zLet ((τ6.2.2 a0 2).getD 0) fun v16 =>
        zLet ((τ6.2.2 a0 6).getD 0) fun v17 =>
        zLet (τ6.1 v17 3) fun v18 =>
        zLet (F_X10_bit x5) fun v19 =>
        zLet (v18 ||| v19) fun v20 =>
        zLet (F_X5_run v16 v20 τ6) fun s21 =>
        zLet ((s21.2.2 a0 2).getD 0) fun v22 =>
        zLet2 (F_X5_winnerBy v22 p2 s21) fun v23 s24 =>
        if v23.toInt = p1.toInt then
          (x5, s24)
        else
          zLet (x5 + (1 : Int32)) fun v26 =>
          F_X10_damFor_13 a0 p1 p2  n v26 s24
      else
        zLet (x5 + (1 : Int32)) fun v15 =>
        F_X10_damFor_13 a0 p1 p2  n v15 τ6
    else
      zLet ((-2 : Int32)) fun v10 =>
      (v10, τ6)
set_option maxRecDepth 100000 in
noncomputable def F_X10_damFor (a0 : Nat) (p1 : Int32) (p2 : Int32) (σ : zS) : Int32 × zS :=
  zLet2 (F_X10_isContest a0 p1 p2 σ) fun v1 s2 =>
  if v1.toInt = 0 then
    zLet ((-1 : Int32)) fun v27 =>
    (v27, s2)
  else
    zLet ((1 : Int32)) fun v4 =>
    F_X10_damFor_13 a0 p1 p2  10000 v4 s2
set_option maxRecDepth 100000 in
noncomputable def F_X10_loss (a0 : Nat) (p1 : Int32) (σ : zS) : Int32 × zS :=
  if p1.toInt = 0 then
    zLet ((-1 : Int32)) fun v2 =>
    (v2, σ)
  else
    zLet2 (F_X10_isPlace a0 p1 σ) fun v3 s4 =>
    if v3.toInt = 0 then
      zLet ((-1 : Int32)) fun v9 =>
      (v9, s4)
    else
      zLet (F_X10_look a0 s4) fun s6 =>
      zLet2 (F_X10_lossOf a0 p1 s6) fun v7 s8 =>
      (v7, s8)
set_option maxRecDepth 100000 in
noncomputable def F_X10_part (a0 : Nat) (p1 : Int32) (σ : zS) : Int32 × zS :=
  if p1.toInt = 0 then
    zLet ((-1 : Int32)) fun v2 =>
    (v2, σ)
  else
    zLet2 (F_X10_isPlace a0 p1 σ) fun v3 s4 =>
    if v3.toInt = 0 then
      zLet ((-1 : Int32)) fun v16 =>
      (v16, s4)
    else
      zLet (F_X10_look a0 s4) fun s6 =>
      zLet2 (F_X10_mouthFlow a0 s6) fun v7 s8 =>
      if v7.toInt = 0 then
        zLet ((0 : Int32)) fun v15 =>
        (v15, s8)
      else
        zLet2 (F_X10_lossOf a0 p1 s8) fun v10 s11 =>
        zLet ((1000 : Int32)) fun v12 =>
        zLet (v10 * v12) fun v13 =>
        zLet (v13 / v7) fun v14 =>
        (v14, s11)
set_option maxRecDepth 100000 in
noncomputable def F_X10_main_21 (a0 : Nat) (p1 : Int32)  : Nat → Int32 → Int32 → zS → Int32 × zS
  | 0, _, _, s => (0, s)
  | n + 1, x9, x10, τ11 =>
    if x9.toInt < p1.toInt then
      zLet ((-1 : Int32)) fun v15 =>
      if x10.toInt = v15.toInt then
        (x10, τ11)
      else
        zLet2 (F_X10_greatestInto a0 x10 τ11) fun v17 s18 =>
        zLet (x9 + (1 : Int32)) fun v19 =>
        F_X10_main_21 a0 p1  n v19 v17 s18
    else
      (x10, τ11)
set_option maxRecDepth 100000 in
noncomputable def F_X10_main (a0 : Nat) (p1 : Int32) (σ : zS) : Int32 × zS :=
  zLet2 (F_X10_hasMouth a0 σ) fun v1 s2 =>
  if v1.toInt = 0 then
    zLet ((-1 : Int32)) fun v4 =>
    (v4, s2)
  else
    if p1.toInt < 0 then
      zLet ((-1 : Int32)) fun v20 =>
      (v20, s2)
    else
      zLet (F_X10_look a0 s2) fun s6 =>
      zLet ((0 : Int32)) fun v7 =>
      zLet ((0 : Int32)) fun v8 =>
      F_X10_main_21 a0 p1  4294967299 v8 v7 s6
set_option maxRecDepth 100000 in
noncomputable def F_X10_agree_20 (a0 : Nat) (p1 : Int32)  : Nat → Int32 → Int32 → zS → Int32 × zS
  | 0, _, _, s => (0, s)
  | n + 1, x8, x9, τ10 =>
    if x8.toInt < p1.toInt then
      zLet ((τ10.2.2 a0 2).getD 0) fun v14 =>
      zLet ((0 : Int32)) fun v15 =>
      zLet2 (F_X5_winnerBy v14 v15 τ10) fun v16 s17 =>
      if 0 < v16.toInt then
        zLet ((s17.2.2 a0 2).getD 0) fun v22 =>
        zLet ((1 : Int32)) fun v23 =>
        zLet2 (F_X5_winnerBy v22 v23 s17) fun v24 s25 =>
        if v16.toInt = v24.toInt then
          zLet ((s25.2.2 a0 2).getD 0) fun v30 =>
          zLet ((2 : Int32)) fun v31 =>
          zLet2 (F_X5_winnerBy v30 v31 s25) fun v32 s33 =>
          if v16.toInt = v32.toInt then
            zLet (x9 + (1 : Int32)) fun v38 =>
            zLet ((s33.2.2 a0 2).getD 0) fun v39 =>
            zLet (F_X5_goOn v39 s33) fun s40 =>
            zLet (x8 + (1 : Int32)) fun v41 =>
            F_X10_agree_20 a0 p1  n v41 v38 s40
          else
            zLet ((s33.2.2 a0 2).getD 0) fun v35 =>
            zLet (F_X5_goOn v35 s33) fun s36 =>
            zLet (x8 + (1 : Int32)) fun v37 =>
            F_X10_agree_20 a0 p1  n v37 x9 s36
        else
          zLet ((s25.2.2 a0 2).getD 0) fun v27 =>
          zLet (F_X5_goOn v27 s25) fun s28 =>
          zLet (x8 + (1 : Int32)) fun v29 =>
          F_X10_agree_20 a0 p1  n v29 x9 s28
      else
        zLet ((s17.2.2 a0 2).getD 0) fun v19 =>
        zLet (F_X5_goOn v19 s17) fun s20 =>
        zLet (x8 + (1 : Int32)) fun v21 =>
        F_X10_agree_20 a0 p1  n v21 x9 s20
    else
      (x9, τ10)
set_option maxRecDepth 100000 in
noncomputable def F_X10_agree (a0 : Nat) (p1 : Int32) (σ : zS) : Int32 × zS :=
  zLet ((1 : Int32)) fun v1 =>
  zLet ((24 : Int32)) fun v2 =>
  zLet (F_X10_isWithin p1 v1 v2) fun v3 =>
  if v3.toInt = 0 then
    zLet ((-1 : Int32)) fun v42 =>
    (v42, σ)
  else
    zLet ((0 : Int32)) fun v5 =>
    zLet (F_X10_tryFromNow a0 σ) fun s6 =>
    zLet ((0 : Int32)) fun v7 =>
    F_X10_agree_20 a0 p1  4294967299 v7 v5 s6
set_option maxRecDepth 100000 in
noncomputable def F_X10_driest_43 (a0 : Nat) (p1 : Int32) (p2 : Int32)  : Nat → Int32 → Int32 → Int32 → zS → Int32 × zS
  | 0, _, _, _, s => (0, s)
  | n + 1, x19, x20, x21, τ22 =>
    if x19.toInt < p1.toInt then
      zLet ((τ22.2.2 a0 2).getD 0) fun v27 =>
      zLet (F_X5_goOn v27 τ22) fun s28 =>
      zLet2 (F_X10_mouthFlow a0 s28) fun v29 s30 =>
      if v29.toInt < x20.toInt then
        zLet2 (F_X10_mouthFlow a0 s30) fun v35 s36 =>
        zLet (x19 + (1 : Int32)) fun v37 =>
        F_X10_driest_43 a0 p1 p2  n v37 v35 x19 s36
      else
        zLet (x19 + (1 : Int32)) fun v34 =>
        F_X10_driest_43 a0 p1 p2  n v34 x20 x21 s30
    else
      if p2.toInt = 0 then
        (x21, τ22)
      else
        (x20, τ22)
set_option maxRecDepth 100000 in
noncomputable def F_X10_driest (a0 : Nat) (p1 : Int32) (p2 : Int32) (σ : zS) : Int32 × zS :=
  zLet2 (F_X10_hasMouth a0 σ) fun v1 s2 =>
  if v1.toInt = 0 then
    zLet ((-1 : Int32)) fun v4 =>
    (v4, s2)
  else
    zLet ((1 : Int32)) fun v5 =>
    zLet ((24 : Int32)) fun v6 =>
    zLet (F_X10_isWithin p1 v5 v6) fun v7 =>
    if v7.toInt = 0 then
      zLet ((-1 : Int32)) fun v9 =>
      (v9, s2)
    else
      zLet ((0 : Int32)) fun v10 =>
      zLet ((1 : Int32)) fun v11 =>
      zLet (F_X10_isWithin p2 v10 v11) fun v12 =>
      if v12.toInt = 0 then
        zLet ((-1 : Int32)) fun v38 =>
        (v38, s2)
      else
        zLet ((0 : Int32)) fun v14 =>
        zLet (F_X10_tryFromNow a0 s2) fun s15 =>
        zLet2 (F_X10_mouthFlow a0 s15) fun v16 s17 =>
        zLet ((1 : Int32)) fun v18 =>
        F_X10_driest_43 a0 p1 p2  4294967299 v18 v16 v14 s17
set_option maxRecDepth 100000 in
noncomputable def F_X10_reign_44 (a0 : Nat) (p1 : Int32) (p2 : Int32) (p3 : Int32)  : Nat → Int32 → zS → Int32 × zS
  | 0, _, s => (0, s)
  | n + 1, x19, τ20 =>
    if x19.toInt < p2.toInt then
      zLet ((τ20.2.2 a0 2).getD 0) fun v29 =>
      zLet2 (F_X5_winnerBy v29 p1 τ20) fun v30 s31 =>
      if 0 < v30.toInt then
        zLet ((s31.2.2 a0 9).getD 0) fun v36 =>
        zLet (s31.1 v36 v30.toNatClampNeg) fun v37 =>
        zLet ((1 : Int32)) fun v38 =>
        zLet (v37 + v38) fun v39 =>
        zLet ((zu s31.1 v36 v30.toNatClampNeg v39, s31.2.1, s31.2.2)) fun s40 =>
        zLet ((s40.2.2 a0 2).getD 0) fun v41 =>
        zLet (F_X5_goOn v41 s40) fun s42 =>
        zLet (x19 + (1 : Int32)) fun v43 =>
        F_X10_reign_44 a0 p1 p2 p3  n v43 s42
      else
        zLet ((s31.2.2 a0 2).getD 0) fun v33 =>
        zLet (F_X5_goOn v33 s31) fun s34 =>
        zLet (x19 + (1 : Int32)) fun v35 =>
        F_X10_reign_44 a0 p1 p2 p3  n v35 s34
    else
      if p3.toInt = 0 then
        zLet2 (F_X10_tallied a0 τ20) fun v27 s28 =>
        (v27, s28)
      else
        zLet2 (F_X10_mostTallied a0 τ20) fun v25 s26 =>
        (v25, s26)
set_option maxRecDepth 100000 in
noncomputable def F_X10_reign (a0 : Nat) (p1 : Int32) (p2 : Int32) (p3 : Int32) (σ : zS) : Int32 × zS :=
  zLet2 (F_X10_isLaw a0 p1 σ) fun v1 s2 =>
  if v1.toInt = 0 then
    zLet ((-1 : Int32)) fun v4 =>
    (v4, s2)
  else
    zLet ((1 : Int32)) fun v5 =>
    zLet ((24 : Int32)) fun v6 =>
    zLet (F_X10_isWithin p2 v5 v6) fun v7 =>
    if v7.toInt = 0 then
      zLet ((-1 : Int32)) fun v9 =>
      (v9, s2)
    else
      zLet ((0 : Int32)) fun v10 =>
      zLet ((1 : Int32)) fun v11 =>
      zLet (F_X10_isWithin p3 v10 v11) fun v12 =>
      if v12.toInt = 0 then
        zLet ((-1 : Int32)) fun v44 =>
        (v44, s2)
      else
        zLet ((s2.2.2 a0 9).getD 0) fun v14 =>
        zLet ((0 : Int32)) fun v15 =>
        zLet (zfil s2 v14 v15 12) fun s16 =>
        zLet (F_X10_tryFromNow a0 s16) fun s17 =>
        zLet ((0 : Int32)) fun v18 =>
        F_X10_reign_44 a0 p1 p2 p3  4294967299 v18 s17
set_option maxRecDepth 100000 in
noncomputable def F_X10_when_23 (a0 : Nat) (p1 : Int32)  : Nat → Int32 → zS → Int32 × zS
  | 0, _, s => (0, s)
  | n + 1, x8, τ9 =>
    zLet ((60 : Int32)) fun v10 =>
    if v10.toInt < x8.toInt then
      zLet ((-2 : Int32)) fun v12 =>
      (v12, τ9)
    else
      zLet ((τ9.2.2 a0 2).getD 0) fun v13 =>
      zLet (F_X5_goOn v13 τ9) fun s14 =>
      zLet ((s14.2.2 a0 7).getD 0) fun v15 =>
      zLet ((s14.2.2 v15 1).getD 0) fun v16 =>
      zLet (s14.1 v16 p1.toNatClampNeg) fun v17 =>
      zLet ((s14.2.2 a0 6).getD 0) fun v18 =>
      zLet ((s14.2.2 v18 1).getD 0) fun v19 =>
      zLet (s14.1 v19 p1.toNatClampNeg) fun v20 =>
      if v20.toInt < v17.toInt then
        (x8, s14)
      else
        zLet (x8 + (1 : Int32)) fun v24 =>
        F_X10_when_23 a0 p1  n v24 s14
set_option maxRecDepth 100000 in
noncomputable def F_X10_when (a0 : Nat) (p1 : Int32) (σ : zS) : Int32 × zS :=
  zLet (F_X10_look a0 σ) fun s1 =>
  zLet ((s1.2.2 a0 3).getD 0) fun v2 =>
  zLet2 (F_X6_isSource v2 p1 s1) fun v3 s4 =>
  if v3.toInt = 0 then
    zLet ((-1 : Int32)) fun v25 =>
    (v25, s4)
  else
    zLet (F_X10_tryFromNow a0 s4) fun s6 =>
    zLet ((1 : Int32)) fun v7 =>
    F_X10_when_23 a0 p1  10000 v7 s6
set_option maxRecDepth 100000 in
noncomputable def F_X10_then (a0 : Nat) (p1 : Int32) (p2 : Int32) (p3 : Int32) (σ : zS) : Int32 × zS :=
  zLet (F_X10_look a0 σ) fun s1 =>
  zLet ((s1.2.2 a0 3).getD 0) fun v2 =>
  zLet2 (F_X6_isSource v2 p1 s1) fun v3 s4 =>
  if v3.toInt = 0 then
    zLet ((-1 : Int32)) fun v6 =>
    (v6, s4)
  else
    zLet ((0 : Int32)) fun v7 =>
    zLet ((60 : Int32)) fun v8 =>
    zLet (F_X10_isWithin p2 v7 v8) fun v9 =>
    if v9.toInt = 0 then
      zLet ((-1 : Int32)) fun v11 =>
      (v11, s4)
    else
      zLet ((0 : Int32)) fun v12 =>
      zLet ((1 : Int32)) fun v13 =>
      zLet (F_X10_isWithin p3 v12 v13) fun v14 =>
      if v14.toInt = 0 then
        zLet ((-1 : Int32)) fun v32 =>
        (v32, s4)
      else
        zLet ((s4.2.2 a0 7).getD 0) fun v16 =>
        zLet ((s4.2.2 a0 6).getD 0) fun v17 =>
        zLet (F_X1_copy v16 v17 s4) fun s18 =>
        zLet ((s18.2.2 a0 2).getD 0) fun v19 =>
        zLet ((s18.2.2 a0 10).getD 0) fun v20 =>
        zLet ((s18.2.2 a0 7).getD 0) fun v21 =>
        zLet ((s18.2.2 a0 10).getD 0) fun v22 =>
        zLet (s18.1 v22 13) fun v23 =>
        zLet (F_X5_goThrough v19 v20 v21 p2 v23 s18) fun s24 =>
        if p3.toInt = 0 then
          zLet ((s24.2.2 a0 7).getD 0) fun v29 =>
          zLet ((s24.2.2 v29 1).getD 0) fun v30 =>
          zLet (s24.1 v30 p1.toNatClampNeg) fun v31 =>
          (v31, s24)
        else
          zLet ((s24.2.2 a0 7).getD 0) fun v26 =>
          zLet ((s24.2.2 v26 2).getD 0) fun v27 =>
          zLet (s24.1 v27 p1.toNatClampNeg) fun v28 =>
          (v28, s24)
set_option maxRecDepth 100000 in
noncomputable def F_X10_flowIn (a0 : Nat) (p1 : Int32) (σ : zS) : Int32 × zS :=
  zLet2 (F_X10_hasMouth a0 σ) fun v1 s2 =>
  if v1.toInt = 0 then
    zLet ((-1 : Int32)) fun v4 =>
    (v4, s2)
  else
    zLet ((0 : Int32)) fun v5 =>
    zLet ((60 : Int32)) fun v6 =>
    zLet (F_X10_isWithin p1 v5 v6) fun v7 =>
    if v7.toInt = 0 then
      zLet ((-1 : Int32)) fun v24 =>
      (v24, s2)
    else
      zLet ((s2.2.2 a0 7).getD 0) fun v9 =>
      zLet ((s2.2.2 a0 6).getD 0) fun v10 =>
      zLet (F_X1_copy v9 v10 s2) fun s11 =>
      zLet ((s11.2.2 a0 2).getD 0) fun v12 =>
      zLet ((s11.2.2 a0 10).getD 0) fun v13 =>
      zLet ((s11.2.2 a0 7).getD 0) fun v14 =>
      zLet ((s11.2.2 a0 10).getD 0) fun v15 =>
      zLet (s11.1 v15 13) fun v16 =>
      zLet (F_X5_goThrough v12 v13 v14 p1 v16 s11) fun s17 =>
      zLet ((s17.2.2 a0 2).getD 0) fun v18 =>
      zLet ((s17.2.2 a0 10).getD 0) fun v19 =>
      zLet ((s17.2.2 a0 7).getD 0) fun v20 =>
      zLet (F_X5_look v18 v19 v20 s17) fun s21 =>
      zLet2 (F_X10_mouthFlow a0 s21) fun v22 s23 =>
      (v22, s23)
set_option maxRecDepth 100000 in
noncomputable def F_X10_year_43 (a0 : Nat) (p1 : Int32) (p2 : Int32) (p3 : Int32)  : Nat → Int32 → Int32 → zS → Int32 × zS
  | 0, _, _, s => (0, s)
  | n + 1, x18, x19, τ20 =>
    if x18.toInt < p3.toInt then
      zLet ((τ20.2.2 a0 7).getD 0) fun v24 =>
      zLet ((τ20.2.2 a0 6).getD 0) fun v25 =>
      zLet (F_X1_copy v24 v25 τ20) fun s26 =>
      zLet ((s26.2.2 a0 2).getD 0) fun v27 =>
      zLet ((s26.2.2 a0 10).getD 0) fun v28 =>
      zLet ((s26.2.2 a0 7).getD 0) fun v29 =>
      zLet ((s26.2.2 a0 10).getD 0) fun v30 =>
      zLet (s26.1 v30 13) fun v31 =>
      zLet (v31 + x18) fun v32 =>
      zLet (F_X5_goThrough v27 v28 v29 p2 v32 s26) fun s33 =>
      zLet2 (F_X10_hasWonMost a0 p1 s33) fun v34 s35 =>
      if v34.toInt = 0 then
        zLet (x18 + (1 : Int32)) fun v37 =>
        F_X10_year_43 a0 p1 p2 p3  n v37 x19 s35
      else
        zLet (x19 + (1 : Int32)) fun v38 =>
        zLet (x18 + (1 : Int32)) fun v39 =>
        F_X10_year_43 a0 p1 p2 p3  n v39 v38 s35
    else
      (x19, τ20)
set_option maxRecDepth 100000 in
noncomputable def F_X10_year (a0 : Nat) (p1 : Int32) (p2 : Int32) (p3 : Int32) (σ : zS) : Int32 × zS :=
  zLet (F_X10_look a0 σ) fun s1 =>
  zLet ((s1.2.2 a0 3).getD 0) fun v2 =>
  zLet2 (F_X6_isSource v2 p1 s1) fun v3 s4 =>
  if v3.toInt = 0 then
    zLet ((-1 : Int32)) fun v6 =>
    (v6, s4)
  else
    zLet ((0 : Int32)) fun v7 =>
    zLet ((60 : Int32)) fun v8 =>
    zLet (F_X10_isWithin p2 v7 v8) fun v9 =>
    if v9.toInt = 0 then
      zLet ((-1 : Int32)) fun v11 =>
      (v11, s4)
    else
      zLet ((1 : Int32)) fun v12 =>
      zLet ((20 : Int32)) fun v13 =>
      zLet (F_X10_isWithin p3 v12 v13) fun v14 =>
      if v14.toInt = 0 then
        zLet ((-1 : Int32)) fun v40 =>
        (v40, s4)
      else
        zLet ((0 : Int32)) fun v16 =>
        zLet ((0 : Int32)) fun v17 =>
        F_X10_year_43 a0 p1 p2 p3  4294967299 v17 v16 s4
set_option maxRecDepth 100000 in
noncomputable def F_X10_depth (a0 : Nat) (σ : zS) : Int32 × zS :=
  zLet (F_X10_look a0 σ) fun s1 =>
  zLet ((s1.2.2 a0 3).getD 0) fun v2 =>
  zLet2 (F_X6_deepest v2 s1) fun v3 s4 =>
  (v3, s4)
set_option maxRecDepth 100000 in
noncomputable def F_X10_order (a0 : Nat) (p1 : Int32) (σ : zS) : Int32 × zS :=
  zLet2 (F_X10_isPlace a0 p1 σ) fun v1 s2 =>
  if v1.toInt = 0 then
    zLet ((-1 : Int32)) fun v9 =>
    (v9, s2)
  else
    zLet (F_X10_look a0 s2) fun s4 =>
    zLet ((s4.2.2 a0 3).getD 0) fun v5 =>
    zLet ((s4.2.2 a0 6).getD 0) fun v6 =>
    zLet2 (F_X6_orderOf v5 v6 p1 s4) fun v7 s8 =>
    (v7, s8)
set_option maxRecDepth 100000 in
noncomputable def F_X10_basin (a0 : Nat) (p1 : Int32) (p2 : Int32) (σ : zS) : Int32 × zS :=
  zLet2 (F_X10_isPlace a0 p1 σ) fun v1 s2 =>
  if v1.toInt = 0 then
    zLet ((-1 : Int32)) fun v4 =>
    (v4, s2)
  else
    zLet ((0 : Int32)) fun v5 =>
    zLet ((1 : Int32)) fun v6 =>
    zLet (F_X10_isWithin p2 v5 v6) fun v7 =>
    if v7.toInt = 0 then
      zLet ((-1 : Int32)) fun v17 =>
      (v17, s2)
    else
      zLet (F_X10_look a0 s2) fun s9 =>
      zLet ((s9.2.2 a0 3).getD 0) fun v10 =>
      zLet2 (F_X6_comingBy v10 p1 s9) fun v11 s12 =>
      if p2.toInt = 0 then
        (v11, s12)
      else
        zLet ((s12.2.2 a0 2).getD 0) fun v14 =>
        zLet2 (F_X5_rainsOf v14 v11 s12) fun v15 s16 =>
        (v15, s16)
set_option maxRecDepth 100000 in
noncomputable def F_X10_tour (a0 : Nat) (σ : zS) : Int32 × zS :=
  zLet (F_X10_look a0 σ) fun s1 =>
  zLet ((s1.2.2 a0 3).getD 0) fun v2 =>
  zLet ((s1.2.2 a0 3).getD 0) fun v3 =>
  zLet2 (F_X6_sources v3 s1) fun v4 s5 =>
  zLet2 (F_X6_tourOf v2 v4 s5) fun v6 s7 =>
  (v6, s7)
set_option maxRecDepth 100000 in
noncomputable def F_X10_parted_23 (v3 : Int32) (a0 : Nat)  : Nat → Int32 → Int32 → zS → Int32 × zS
  | 0, _, _, s => (0, s)
  | n + 1, x9, x10, τ11 =>
    if x9.toInt < v3.toInt then
      zLet (x9 &&& v3) fun v15 =>
      if v15.toInt = x9.toInt then
        zLet ((τ11.2.2 a0 3).getD 0) fun v18 =>
        zLet2 (F_X6_tourOf v18 x9 τ11) fun v19 s20 =>
        zLet ((s20.2.2 a0 3).getD 0) fun v21 =>
        zLet ((-1 : Int32)) fun v22 =>
        zLet (x9 ^^^ v22) fun v23 =>
        zLet (v3 &&& v23) fun v24 =>
        zLet2 (F_X6_tourOf v21 v24 s20) fun v25 s26 =>
        zLet (if v19.toInt ≤ v25.toInt then v25 else v19) fun v27 =>
        zLet (if x10.toInt ≤ v27.toInt then x10 else v27) fun v28 =>
        zLet (x9 + (1 : Int32)) fun v29 =>
        F_X10_parted_23 v3 a0  n v29 v28 s26
      else
        zLet (x9 + (1 : Int32)) fun v17 =>
        F_X10_parted_23 v3 a0  n v17 x10 τ11
    else
      (x10, τ11)
set_option maxRecDepth 100000 in
noncomputable def F_X10_parted (a0 : Nat) (σ : zS) : Int32 × zS :=
  zLet (F_X10_look a0 σ) fun s1 =>
  zLet ((s1.2.2 a0 3).getD 0) fun v2 =>
  zLet2 (F_X6_sources v2 s1) fun v3 s4 =>
  zLet ((s4.2.2 a0 3).getD 0) fun v5 =>
  zLet2 (F_X6_tourOf v5 v3 s4) fun v6 s7 =>
  zLet ((0 : Int32)) fun v8 =>
  F_X10_parted_23 v3 a0  4294967299 v8 v6 s7
set_option maxRecDepth 100000 in
noncomputable def F_X10_meet (a0 : Nat) (p1 : Int32) (p2 : Int32) (p3 : Int32) (σ : zS) : Int32 × zS :=
  zLet2 (F_X10_isPlace a0 p1 σ) fun v1 s2 =>
  if v1.toInt = 0 then
    zLet ((-1 : Int32)) fun v4 =>
    (v4, s2)
  else
    zLet2 (F_X10_isPlace a0 p2 s2) fun v5 s6 =>
    if v5.toInt = 0 then
      zLet ((-1 : Int32)) fun v8 =>
      (v8, s6)
    else
      zLet ((0 : Int32)) fun v9 =>
      zLet ((1 : Int32)) fun v10 =>
      zLet (F_X10_isWithin p3 v9 v10) fun v11 =>
      if v11.toInt = 0 then
        zLet ((-1 : Int32)) fun v31 =>
        (v31, s6)
      else
        zLet (F_X10_look a0 s6) fun s13 =>
        zLet ((s13.2.2 a0 3).getD 0) fun v14 =>
        zLet2 (F_X6_meeting v14 p1 p2 s13) fun v15 s16 =>
        if p3.toInt = 0 then
          (v15, s16)
        else
          zLet ((s16.2.2 a0 3).getD 0) fun v18 =>
          zLet ((s16.2.2 v18 3).getD 0) fun v19 =>
          zLet (s16.1 v19 p1.toNatClampNeg) fun v20 =>
          zLet ((s16.2.2 a0 3).getD 0) fun v21 =>
          zLet ((s16.2.2 v21 3).getD 0) fun v22 =>
          zLet (s16.1 v22 p2.toNatClampNeg) fun v23 =>
          zLet (v20 + v23) fun v24 =>
          zLet ((2 : Int32)) fun v25 =>
          zLet ((s16.2.2 a0 3).getD 0) fun v26 =>
          zLet ((s16.2.2 v26 3).getD 0) fun v27 =>
          zLet (s16.1 v27 v15.toNatClampNeg) fun v28 =>
          zLet (v25 * v28) fun v29 =>
          zLet (v24 - v29) fun v30 =>
          (v30, s16)
set_option maxRecDepth 100000 in
noncomputable def F_X10_tell (a0 : Nat) (p1 : Int32) (p2 : Int32) (p3 : Int32) (p4 : Int32) (σ : zS) : Int32 × zS :=
  zLet2 (F_X10_isPlace a0 p1 σ) fun v1 s2 =>
  if v1.toInt = 0 then
    zLet ((-1 : Int32)) fun v4 =>
    (v4, s2)
  else
    zLet ((0 : Int32)) fun v5 =>
    zLet ((9999 : Int32)) fun v6 =>
    zLet (F_X10_isWithin p2 v5 v6) fun v7 =>
    if v7.toInt = 0 then
      zLet ((-1 : Int32)) fun v9 =>
      (v9, s2)
    else
      zLet ((9999 : Int32)) fun v10 =>
      zLet (F_X10_isWithin p3 p2 v10) fun v11 =>
      if v11.toInt = 0 then
        zLet ((-1 : Int32)) fun v16 =>
        (v16, s2)
      else
        zLet ((s2.2.2 a0 5).getD 0) fun v13 =>
        zLet2 (F_X2_add v13 p1 p2 p3 p4 s2) fun v14 s15 =>
        (v14, s15)
set_option maxRecDepth 100000 in
noncomputable def F_X10_forget (a0 : Nat) (σ : zS) : Int32 × zS :=
  zLet ((σ.2.2 a0 5).getD 0) fun v1 =>
  zLet (σ.1 v1 4) fun v2 =>
  zLet ((σ.2.2 a0 5).getD 0) fun v3 =>
  zLet ((0 : Int32)) fun v4 =>
  zLet ((zu σ.1 v3 4 v4, σ.2.1, σ.2.2)) fun s5 =>
  (v2, s5)
set_option maxRecDepth 100000 in
noncomputable def F_X10_dyed (a0 : Nat) (p1 : Int32) (p2 : Int32) (σ : zS) : Int32 × zS :=
  zLet ((0 : Int32)) fun v1 =>
  zLet ((σ.2.2 a0 5).getD 0) fun v2 =>
  zLet (σ.1 v2 4) fun v3 =>
  zLet (F_X10_isWithin p1 v1 v3) fun v4 =>
  if v4.toInt = 0 then
    zLet ((-1 : Int32)) fun v6 =>
    (v6, σ)
  else
    zLet ((0 : Int32)) fun v7 =>
    zLet ((1 : Int32)) fun v8 =>
    zLet (F_X10_isWithin p2 v7 v8) fun v9 =>
    if v9.toInt = 0 then
      zLet ((-1 : Int32)) fun v18 =>
      (v18, σ)
    else
      zLet (F_X10_look a0 σ) fun s11 =>
      zLet ((s11.2.2 a0 5).getD 0) fun v12 =>
      zLet ((s11.2.2 a0 3).getD 0) fun v13 =>
      zLet2 (F_X2_left v12 v13 p1 s11) fun v14 s15 =>
      if p2.toInt = 0 then
        zLet (F_J6_bitCount_0f7a4 v14) fun v17 =>
        (v17, s15)
      else
        (v14, s15)
set_option maxRecDepth 100000 in
noncomputable def F_X10_watch_46 (v9 : Int32) (a0 : Nat) (p1 : Int32)  : Nat → Int32 → Int32 → zS → Int32 × zS
  | 0, _, _, s => (0, s)
  | n + 1, x14, x15, τ16 =>
    zLet ((τ16.2.2 a0 10).getD 0) fun v17 =>
    zLet (τ16.1 v17 0) fun v18 =>
    if x14.toInt < v18.toInt then
      zLet2 (F_X10_leftAtWorst a0 v9 x14 τ16) fun v20 s21 =>
      zLet2 (F_X10_leftAtWorst a0 v9 x15 s21) fun v22 s23 =>
      if v20.toInt < v22.toInt then
        zLet (x14 + (1 : Int32)) fun v28 =>
        F_X10_watch_46 v9 a0 p1  n v28 x14 s23
      else
        zLet (x14 + (1 : Int32)) fun v27 =>
        F_X10_watch_46 v9 a0 p1  n v27 x15 s23
    else
      (x15, τ16)
set_option maxRecDepth 100000 in
noncomputable def F_X10_watch (a0 : Nat) (p1 : Int32) (σ : zS) : Int32 × zS :=
  zLet ((0 : Int32)) fun v1 =>
  zLet ((σ.2.2 a0 5).getD 0) fun v2 =>
  zLet (σ.1 v2 4) fun v3 =>
  zLet (F_X10_isWithin p1 v1 v3) fun v4 =>
  if v4.toInt = 0 then
    zLet ((-1 : Int32)) fun v30 =>
    (v30, σ)
  else
    zLet (F_X10_look a0 σ) fun s6 =>
    zLet ((s6.2.2 a0 5).getD 0) fun v7 =>
    zLet ((s6.2.2 a0 3).getD 0) fun v8 =>
    zLet2 (F_X2_left v7 v8 p1 s6) fun v9 s10 =>
    if v9.toInt = 0 then
      zLet ((-2 : Int32)) fun v29 =>
      (v29, s10)
    else
      zLet ((0 : Int32)) fun v12 =>
      zLet ((1 : Int32)) fun v13 =>
      F_X10_watch_46 v9 a0 p1  10000 v13 v12 s10
set_option maxRecDepth 100000 in
noncomputable def F_X10_dams (a0 : Nat) (p1 : Int32) (p2 : Int32) (σ : zS) : Int32 × zS :=
  zLet2 (F_X10_hasMouth a0 σ) fun v1 s2 =>
  if v1.toInt = 0 then
    zLet ((-1 : Int32)) fun v4 =>
    (v4, s2)
  else
    zLet ((0 : Int32)) fun v5 =>
    zLet ((9999 : Int32)) fun v6 =>
    zLet (F_X10_isWithin p1 v5 v6) fun v7 =>
    if v7.toInt = 0 then
      zLet ((-1 : Int32)) fun v9 =>
      (v9, s2)
    else
      zLet ((-1 : Int32)) fun v10 =>
      zLet ((2 : Int32)) fun v11 =>
      zLet (F_X10_isWithin p2 v10 v11) fun v12 =>
      if v12.toInt = 0 then
        zLet ((-1 : Int32)) fun v24 =>
        (v24, s2)
      else
        zLet (F_X10_look a0 s2) fun s14 =>
        zLet2 (F_X10_fewestDams a0 p1 s14) fun v15 s16 =>
        zLet ((-1 : Int32)) fun v17 =>
        if v15.toInt = v17.toInt then
          zLet ((-2 : Int32)) fun v23 =>
          (v23, s16)
        else
          zLet ((-1 : Int32)) fun v19 =>
          if p2.toInt = v19.toInt then
            zLet (F_J6_bitCount_0f7a4 v15) fun v22 =>
            (v22, s16)
          else
            zLet (F_X10_bitAt v15 p2) fun v21 =>
            (v21, s16)
set_option maxRecDepth 100000 in
noncomputable def F_X10_back (a0 : Nat) (p1 : Int32) (σ : zS) : Int32 × zS :=
  if p1.toInt < 0 then
    zLet ((-1 : Int32)) fun v2 =>
    (v2, σ)
  else
    zLet ((σ.2.2 a0 0).getD 0) fun v3 =>
    zLet (σ.1 v3 1) fun v4 =>
    if v4.toInt < p1.toInt then
      zLet ((-1 : Int32)) fun v13 =>
      (v13, σ)
    else
      zLet ((σ.2.2 a0 0).getD 0) fun v7 =>
      zLet (σ.1 v7 1) fun v8 =>
      zLet (v8 - p1) fun v9 =>
      zLet ((zu σ.1 v7 1 v9, σ.2.1, σ.2.2)) fun s10 =>
      zLet ((s10.2.2 a0 0).getD 0) fun v11 =>
      zLet (s10.1 v11 1) fun v12 =>
      (v12, s10)
set_option maxRecDepth 100000 in
noncomputable def F_X10_feed (a0 : Nat) (p1 : Int32) (p2 : Int32) (p3 : Int32) (p4 : Int32) (p5 : Int32) (σ : zS) : Int32 × zS :=
  zLet ((σ.2.2 a0 0).getD 0) fun v1 =>
  zLet (σ.1 v1 1) fun v2 =>
  zLet ((20 : Int32)) fun v3 =>
  zLet (v2 + v3) fun v4 =>
  zLet ((2000 : Int32)) fun v5 =>
  if v5.toInt < v4.toInt then
    zLet ((-1 : Int32)) fun v19 =>
    (v19, σ)
  else
    zLet ((σ.2.2 a0 0).getD 0) fun v7 =>
    zLet (F_X7_append v7 p1 σ) fun s8 =>
    zLet ((s8.2.2 a0 0).getD 0) fun v9 =>
    zLet (F_X7_append v9 p2 s8) fun s10 =>
    zLet ((s10.2.2 a0 0).getD 0) fun v11 =>
    zLet (F_X7_append v11 p3 s10) fun s12 =>
    zLet ((s12.2.2 a0 0).getD 0) fun v13 =>
    zLet (F_X7_append v13 p4 s12) fun s14 =>
    zLet ((s14.2.2 a0 0).getD 0) fun v15 =>
    zLet (F_X7_append v15 p5 s14) fun s16 =>
    zLet ((s16.2.2 a0 0).getD 0) fun v17 =>
    zLet (s16.1 v17 1) fun v18 =>
    (v18, s16)
set_option maxRecDepth 100000 in
noncomputable def F_J0_coder_7d493 (i : Nat) : Int32 :=
  zLet ((1 : Int32)) fun v1 =>
  if v1.toInt = 0 then
    0
  else
    zLet ((0 : Int32)) fun v3 =>
    v3
set_option maxRecDepth 100000 in
noncomputable def F_J0_isLatin1_aae02 (i : Nat) : Int32 :=
  zLet ((1 : Int32)) fun v1 =>
  if v1.toInt = 0 then
    0
  else
    zLet ((0 : Int32)) fun v3 =>
    if v3.toInt = 0 then
      zLet ((1 : Int32)) fun v5 =>
      v5
    else
      0
set_option maxRecDepth 100000 in
noncomputable def F_J0_length_8abf5 (i : Nat) : Int32 :=
  zLet (nI (zlen.getD i 0)) fun v1 =>
  zLet (F_J0_coder_7d493 i) fun v2 =>
  zLet (v1 >>> (v2 &&& 31)) fun v3 =>
  v3
set_option maxRecDepth 100000 in
noncomputable def F_J1_canEncode_9a6ad (p1 : Int32) : Int32 :=
  if p1.toInt < 0 then
    zLet ((0 : Int32)) fun v2 =>
    v2
  else
    zLet ((255 : Int32)) fun v3 =>
    if v3.toInt < p1.toInt then
      zLet ((0 : Int32)) fun v6 =>
      v6
    else
      zLet ((1 : Int32)) fun v7 =>
      v7
set_option maxRecDepth 100000 in
noncomputable def F_J1_indexOfChar_4cfef_7 (v1 : Int32) (i : Nat) (p2 : Int32) (p3 : Int32) (p4 : Int32)  : Nat → Int32 → Int32
  | 0, _ => 0
  | n + 1, x2 =>
    if x2.toInt < p4.toInt then
      zLet ((zbyt.getD i []).getD x2.toNatClampNeg 0) fun v8 =>
      if v8.toInt = v1.toInt then
        x2
      else
        zLet (x2 + (1 : Int32)) fun v10 =>
        F_J1_indexOfChar_4cfef_7 v1 i p2 p3 p4  n v10
    else
      zLet ((-1 : Int32)) fun v7 =>
      v7
set_option maxRecDepth 100000 in
noncomputable def F_J1_indexOfChar_4cfef (i : Nat) (p2 : Int32) (p3 : Int32) (p4 : Int32) : Int32 :=
  zLet (p2.toInt8.toInt32) fun v1 =>
  F_J1_indexOfChar_4cfef_7 v1 i p2 p3 p4  4294967299 p3
set_option maxRecDepth 100000 in
noncomputable def F_J1_indexOf_4cfef (i : Nat) (p2 : Int32) (p3 : Int32) (p4 : Int32) : Int32 :=
  zLet (F_J1_canEncode_9a6ad p2) fun v1 =>
  if v1.toInt = 0 then
    zLet ((-1 : Int32)) fun v12 =>
    v12
  else
    zLet ((0 : Int32)) fun v3 =>
    zLet (if p3.toInt ≤ v3.toInt then v3 else p3) fun v4 =>
    zLet (nI (zlen.getD i 0)) fun v5 =>
    zLet (if p4.toInt ≤ v5.toInt then p4 else v5) fun v6 =>
    if v4.toInt < v6.toInt then
      zLet (F_J1_indexOfChar_4cfef i p2 v4 v6) fun v10 =>
      v10
    else
      zLet ((-1 : Int32)) fun v11 =>
      v11
set_option maxRecDepth 100000 in
noncomputable def F_J0_indexOf_7cf53 (i : Nat) (p1 : Int32) (p2 : Int32) : Int32 :=
  zLet (F_J0_isLatin1_aae02 i) fun v1 =>
  if v1.toInt = 0 then
    0
  else
    zLet (F_J0_length_8abf5 i) fun v3 =>
    zLet (F_J1_indexOf_4cfef i p1 p2 v3) fun v4 =>
    v4
set_option maxRecDepth 100000 in
noncomputable def F_J0_indexOf_0f7a4 (i : Nat) (p1 : Int32) : Int32 :=
  zLet ((0 : Int32)) fun v1 =>
  zLet (F_J0_indexOf_7cf53 i p1 v1) fun v2 =>
  v2
set_option maxRecDepth 100000 in
noncomputable def F_J3_checkIndex_8e157 (p1 : Int32) (p2 : Int32) : Int32 :=
  if p1.toInt < 0 then
    0
  else
    if p1.toInt < p2.toInt then
      p1
    else
      0
set_option maxRecDepth 100000 in
noncomputable def F_J1_charAt_3b067 (i : Nat) (p2 : Int32) : Int32 :=
  zLet (nI (zlen.getD i 0)) fun v1 =>
  zLet ((zbyt.getD i []).getD p2.toNatClampNeg 0) fun v2 =>
  zLet ((255 : Int32)) fun v3 =>
  zLet (v2 &&& v3) fun v4 =>
  zLet ((v4.toUInt32 % 65536).toInt32) fun v5 =>
  v5
set_option maxRecDepth 100000 in
noncomputable def F_J0_charAt_5068e (i : Nat) (p1 : Int32) : Int32 :=
  zLet (F_J0_isLatin1_aae02 i) fun v1 =>
  if v1.toInt = 0 then
    0
  else
    zLet (F_J1_charAt_3b067 i p1) fun v3 =>
    v3
set_option maxRecDepth 100000 in
noncomputable def F_X8_isLetter (p1 : Int32) : Int32 :=
  zLet ((97 : Int32)) fun v1 =>
  if p1.toInt < v1.toInt then
    zLet ((0 : Int32)) fun v4 =>
    v4
  else
    zLet ((122 : Int32)) fun v5 =>
    if v5.toInt < p1.toInt then
      zLet ((0 : Int32)) fun v8 =>
      v8
    else
      zLet ((1 : Int32)) fun v9 =>
      v9
set_option maxRecDepth 100000 in
noncomputable def F_X8_isDigit (p1 : Int32) : Int32 :=
  zLet ((48 : Int32)) fun v1 =>
  if p1.toInt < v1.toInt then
    zLet ((0 : Int32)) fun v4 =>
    v4
  else
    zLet ((57 : Int32)) fun v5 =>
    if v5.toInt < p1.toInt then
      zLet ((0 : Int32)) fun v8 =>
      v8
    else
      zLet ((1 : Int32)) fun v9 =>
      v9
set_option maxRecDepth 100000 in
noncomputable def F_X8_withLetter (p1 : Int64) (p2 : Int32) : Int64 :=
  zLet ((32 : Int64)) fun v1 =>
  zLet (p1 * v1) fun v2 =>
  zLet ((97 : Int32)) fun v3 =>
  zLet (p2 - v3) fun v4 =>
  zLet ((1 : Int32)) fun v5 =>
  zLet (v4 + v5) fun v6 =>
  zLet (v6.toInt64) fun v7 =>
  zLet (v2 + v7) fun v8 =>
  v8
set_option maxRecDepth 100000 in
noncomputable def F_X8_add (a0 : Nat) (p1 : Int32) (p2 : Int64) (p3 : Int32) (σ : zS) : zS :=
  zLet (σ.1 a0 4) fun v1 =>
  zLet ((σ.2.2 a0 1).getD 0) fun v2 =>
  zLet ((402 : Int32)) fun v3 =>
  if v1.toInt < v3.toInt then
    zLet ((σ.2.2 a0 1).getD 0) fun v5 =>
    zLet (σ.1 a0 4) fun v6 =>
    zLet ((zu σ.1 v5 v6.toNatClampNeg p1, σ.2.1, σ.2.2)) fun s7 =>
    zLet ((s7.2.2 a0 2).getD 0) fun v9 =>
    zLet (s7.1 a0 4) fun v10 =>
    zLet ((s7.1, zu s7.2.1 v9 v10.toNatClampNeg p2, s7.2.2)) fun s11 =>
    zLet ((s11.2.2 a0 3).getD 0) fun v13 =>
    zLet (s11.1 a0 4) fun v14 =>
    zLet ((zu s11.1 v13 v14.toNatClampNeg p3, s11.2.1, s11.2.2)) fun s15 =>
    zLet (s15.1 a0 4) fun v17 =>
    zLet ((1 : Int32)) fun v18 =>
    zLet (v17 + v18) fun v19 =>
    zLet ((zu s15.1 a0 4 v19, s15.2.1, s15.2.2)) fun s20 =>
    s20
  else
    σ
set_option maxRecDepth 100000 in
noncomputable def F_X8_kindOf_6 (a0 : Nat) (p1 : Int64)  : Nat → Int32 → Int32 → zS → Int32 × zS
  | 0, _, _, s => (0, s)
  | n + 1, x3, x4, τ5 =>
    zLet ((22 : Int32)) fun v6 =>
    if x3.toInt < v6.toInt then
      zLet ((τ5.2.2 a0 0).getD 0) fun v8 =>
      zLet (τ5.2.1 v8 x3.toNatClampNeg) fun v9 =>
      zLet (lg_cmp v9 p1) fun v10 =>
      if v10.toInt = 0 then
        zLet (x3 + (1 : Int32)) fun v13 =>
        F_X8_kindOf_6 a0 p1  n v13 x3 τ5
      else
        zLet (x3 + (1 : Int32)) fun v12 =>
        F_X8_kindOf_6 a0 p1  n v12 x4 τ5
    else
      (x4, τ5)
set_option maxRecDepth 100000 in
noncomputable def F_X8_kindOf (a0 : Nat) (p1 : Int64) (σ : zS) : Int32 × zS :=
  zLet ((22 : Int32)) fun v1 =>
  zLet ((0 : Int32)) fun v2 =>
  F_X8_kindOf_6 a0 p1  10000 v2 v1 σ
set_option maxRecDepth 100000 in
noncomputable def F_X8_pastBlanks_2 (p1 : Nat) (p2 : Int32) (p3 : Int32)  : Nat → Int32 → zS → Int32 × zS
  | 0, _, s => (0, s)
  | n + 1, x1, τ2 =>
    if x1.toInt < p2.toInt then
      zLet (τ2.1 p1 x1.toNatClampNeg) fun v5 =>
      zLet ((32 : Int32)) fun v6 =>
      if v5.toInt = v6.toInt then
        zLet (x1 + (1 : Int32)) fun v8 =>
        F_X8_pastBlanks_2 p1 p2 p3  n v8 τ2
      else
        zLet (τ2.1 p1 x1.toNatClampNeg) fun v9 =>
        zLet ((9 : Int32)) fun v10 =>
        if v9.toInt = v10.toInt then
          zLet (x1 + (1 : Int32)) fun v12 =>
          F_X8_pastBlanks_2 p1 p2 p3  n v12 τ2
        else
          zLet (τ2.1 p1 x1.toNatClampNeg) fun v13 =>
          zLet ((10 : Int32)) fun v14 =>
          if v13.toInt = v14.toInt then
            zLet (x1 + (1 : Int32)) fun v16 =>
            F_X8_pastBlanks_2 p1 p2 p3  n v16 τ2
          else
            zLet (τ2.1 p1 x1.toNatClampNeg) fun v17 =>
            zLet ((13 : Int32)) fun v18 =>
            if v17.toInt = v18.toInt then
              zLet (x1 + (1 : Int32)) fun v20 =>
              F_X8_pastBlanks_2 p1 p2 p3  n v20 τ2
            else
              (x1, τ2)
    else
      (x1, τ2)
set_option maxRecDepth 100000 in
noncomputable def F_X8_pastBlanks (p1 : Nat) (p2 : Int32) (p3 : Int32) (σ : zS) : Int32 × zS :=
  F_X8_pastBlanks_2 p1 p2 p3  10000 p3 σ
set_option maxRecDepth 100000 in
noncomputable def F_X8_addLetters_6 (a0 : Nat) (p1 : Nat) (p2 : Int32) (p3 : Int32)  : Nat → Int32 → Int64 → zS → Int32 × zS
  | 0, _, _, s => (0, s)
  | n + 1, x2, x3, τ4 =>
    if x2.toInt < p2.toInt then
      zLet (τ4.1 p1 x2.toNatClampNeg) fun v15 =>
      zLet (F_X8_isLetter v15) fun v16 =>
      if v16.toInt = 0 then
        zLet (x2 - p3) fun v18 =>
        zLet ((8 : Int32)) fun v19 =>
        if v19.toInt < v18.toInt then
          zLet ((34 : Int32)) fun v24 =>
          zLet (F_X8_add a0 v24 x3 p3 τ4) fun s25 =>
          (x2, s25)
        else
          zLet2 (F_X8_kindOf a0 x3 τ4) fun v21 s22 =>
          zLet (F_X8_add a0 v21 x3 p3 s22) fun s23 =>
          (x2, s23)
      else
        zLet (x2 - p3) fun v26 =>
        zLet ((8 : Int32)) fun v27 =>
        if v26.toInt < v27.toInt then
          zLet (τ4.1 p1 x2.toNatClampNeg) fun v31 =>
          zLet (F_X8_withLetter x3 v31) fun v32 =>
          zLet (x2 + (1 : Int32)) fun v33 =>
          F_X8_addLetters_6 a0 p1 p2 p3  n v33 v32 τ4
        else
          zLet (Int64.ofNat 0) fun v29 =>
          zLet (x2 + (1 : Int32)) fun v30 =>
          F_X8_addLetters_6 a0 p1 p2 p3  n v30 v29 τ4
    else
      zLet (x2 - p3) fun v7 =>
      zLet ((8 : Int32)) fun v8 =>
      if v8.toInt < v7.toInt then
        zLet ((34 : Int32)) fun v13 =>
        zLet (F_X8_add a0 v13 x3 p3 τ4) fun s14 =>
        (x2, s14)
      else
        zLet2 (F_X8_kindOf a0 x3 τ4) fun v10 s11 =>
        zLet (F_X8_add a0 v10 x3 p3 s11) fun s12 =>
        (x2, s12)
set_option maxRecDepth 100000 in
noncomputable def F_X8_addLetters (a0 : Nat) (p1 : Nat) (p2 : Int32) (p3 : Int32) (σ : zS) : Int32 × zS :=
  zLet (Int64.ofNat 0) fun v1 =>
  F_X8_addLetters_6 a0 p1 p2 p3  10000 p3 v1 σ
set_option maxRecDepth 100000 in
noncomputable def F_X8_addDigits_6 (a0 : Nat) (p1 : Nat) (p2 : Int32) (p3 : Int32)  : Nat → Int32 → Int32 → zS → Int32 × zS
  | 0, _, _, s => (0, s)
  | n + 1, x2, x3, τ4 =>
    if x2.toInt < p2.toInt then
      zLet (τ4.1 p1 x2.toNatClampNeg) fun v16 =>
      zLet (F_X8_isDigit v16) fun v17 =>
      if v17.toInt = 0 then
        zLet (x2 - p3) fun v19 =>
        zLet ((4 : Int32)) fun v20 =>
        if v20.toInt < v19.toInt then
          zLet ((34 : Int32)) fun v25 =>
          zLet (x3.toInt64) fun v26 =>
          zLet (F_X8_add a0 v25 v26 p3 τ4) fun s27 =>
          (x2, s27)
        else
          zLet ((23 : Int32)) fun v22 =>
          zLet (x3.toInt64) fun v23 =>
          zLet (F_X8_add a0 v22 v23 p3 τ4) fun s24 =>
          (x2, s24)
      else
        zLet (x2 - p3) fun v28 =>
        zLet ((4 : Int32)) fun v29 =>
        if v28.toInt < v29.toInt then
          zLet ((10 : Int32)) fun v33 =>
          zLet (x3 * v33) fun v34 =>
          zLet (τ4.1 p1 x2.toNatClampNeg) fun v35 =>
          zLet ((48 : Int32)) fun v36 =>
          zLet (v35 - v36) fun v37 =>
          zLet (v34 + v37) fun v38 =>
          zLet (x2 + (1 : Int32)) fun v39 =>
          F_X8_addDigits_6 a0 p1 p2 p3  n v39 v38 τ4
        else
          zLet ((0 : Int32)) fun v31 =>
          zLet (x2 + (1 : Int32)) fun v32 =>
          F_X8_addDigits_6 a0 p1 p2 p3  n v32 v31 τ4
    else
      zLet (x2 - p3) fun v7 =>
      zLet ((4 : Int32)) fun v8 =>
      if v8.toInt < v7.toInt then
        zLet ((34 : Int32)) fun v13 =>
        zLet (x3.toInt64) fun v14 =>
        zLet (F_X8_add a0 v13 v14 p3 τ4) fun s15 =>
        (x2, s15)
      else
        zLet ((23 : Int32)) fun v10 =>
        zLet (x3.toInt64) fun v11 =>
        zLet (F_X8_add a0 v10 v11 p3 τ4) fun s12 =>
        (x2, s12)
set_option maxRecDepth 100000 in
noncomputable def F_X8_addDigits (a0 : Nat) (p1 : Nat) (p2 : Int32) (p3 : Int32) (σ : zS) : Int32 × zS :=
  zLet ((0 : Int32)) fun v1 =>
  F_X8_addDigits_6 a0 p1 p2 p3  10000 p3 v1 σ
set_option maxRecDepth 100000 in
noncomputable def F_X8_scan_13 (a0 : Nat) (p1 : Nat) (p2 : Int32)  : Nat → Int32 → Int32 → Int32 → zS → zS
  | 0, _, _, _, s => s
  | n + 1, x7, x8, x9, τ10 =>
    zLet ((400 : Int32)) fun v11 =>
    if v11.toInt < x7.toInt then
      τ10
    else
      if x8.toInt = 0 then
        τ10
      else
        zLet2 (F_X8_pastBlanks p1 p2 x9 τ10) fun v14 s15 =>
        if v14.toInt < p2.toInt then
          zLet (s15.1 p1 v14.toNatClampNeg) fun v103 =>
          if v14.toInt < p2.toInt then
            zLet (F_X8_isLetter v103) fun v105 =>
            if v105.toInt = 0 then
              zLet (F_X8_isDigit v103) fun v107 =>
              if v107.toInt = 0 then
                if 0 < v103.toInt then
                  zLet ((v103.toUInt32 % 65536).toInt32) fun v132 =>
                  zLet (F_J0_indexOf_0f7a4 1 v132) fun v133 =>
                  if v133.toInt < 0 then
                    zLet ((34 : Int32)) fun v156 =>
                    zLet (Int64.ofNat 0) fun v157 =>
                    zLet (F_X8_add a0 v156 v157 v14 s15) fun s158 =>
                    zLet (v14 + (1 : Int32)) fun v159 =>
                    zLet (s158.1 a0 4) fun v160 =>
                    if 0 < v160.toInt then
                      zLet ((s158.2.2 a0 1).getD 0) fun v164 =>
                      zLet (s158.1 a0 4) fun v165 =>
                      zLet ((1 : Int32)) fun v166 =>
                      zLet (v165 - v166) fun v167 =>
                      zLet (s158.1 v164 v167.toNatClampNeg) fun v168 =>
                      zLet ((33 : Int32)) fun v169 =>
                      if v168.toInt < v169.toInt then
                        zLet ((1 : Int32)) fun v174 =>
                        zLet (x7 + (1 : Int32)) fun v175 =>
                        F_X8_scan_13 a0 p1 p2  n v175 v174 v159 s158
                      else
                        zLet ((0 : Int32)) fun v172 =>
                        zLet (x7 + (1 : Int32)) fun v173 =>
                        F_X8_scan_13 a0 p1 p2  n v173 v172 v159 s158
                    else
                      zLet ((0 : Int32)) fun v162 =>
                      zLet (x7 + (1 : Int32)) fun v163 =>
                      F_X8_scan_13 a0 p1 p2  n v163 v162 v159 s158
                  else
                    zLet ((24 : Int32)) fun v135 =>
                    zLet (v135 + v133) fun v136 =>
                    zLet (Int64.ofNat 0) fun v137 =>
                    zLet (F_X8_add a0 v136 v137 v14 s15) fun s138 =>
                    zLet (v14 + (1 : Int32)) fun v139 =>
                    zLet (s138.1 a0 4) fun v140 =>
                    if 0 < v140.toInt then
                      zLet ((s138.2.2 a0 1).getD 0) fun v144 =>
                      zLet (s138.1 a0 4) fun v145 =>
                      zLet ((1 : Int32)) fun v146 =>
                      zLet (v145 - v146) fun v147 =>
                      zLet (s138.1 v144 v147.toNatClampNeg) fun v148 =>
                      zLet ((33 : Int32)) fun v149 =>
                      if v148.toInt < v149.toInt then
                        zLet ((1 : Int32)) fun v154 =>
                        zLet (x7 + (1 : Int32)) fun v155 =>
                        F_X8_scan_13 a0 p1 p2  n v155 v154 v139 s138
                      else
                        zLet ((0 : Int32)) fun v152 =>
                        zLet (x7 + (1 : Int32)) fun v153 =>
                        F_X8_scan_13 a0 p1 p2  n v153 v152 v139 s138
                    else
                      zLet ((0 : Int32)) fun v142 =>
                      zLet (x7 + (1 : Int32)) fun v143 =>
                      F_X8_scan_13 a0 p1 p2  n v143 v142 v139 s138
                else
                  zLet ((-1 : Int32)) fun v110 =>
                  if v110.toInt < 0 then
                    zLet ((34 : Int32)) fun v112 =>
                    zLet (Int64.ofNat 0) fun v113 =>
                    zLet (F_X8_add a0 v112 v113 v14 s15) fun s114 =>
                    zLet (v14 + (1 : Int32)) fun v115 =>
                    zLet (s114.1 a0 4) fun v116 =>
                    if 0 < v116.toInt then
                      zLet ((s114.2.2 a0 1).getD 0) fun v120 =>
                      zLet (s114.1 a0 4) fun v121 =>
                      zLet ((1 : Int32)) fun v122 =>
                      zLet (v121 - v122) fun v123 =>
                      zLet (s114.1 v120 v123.toNatClampNeg) fun v124 =>
                      zLet ((33 : Int32)) fun v125 =>
                      if v124.toInt < v125.toInt then
                        zLet ((1 : Int32)) fun v130 =>
                        zLet (x7 + (1 : Int32)) fun v131 =>
                        F_X8_scan_13 a0 p1 p2  n v131 v130 v115 s114
                      else
                        zLet ((0 : Int32)) fun v128 =>
                        zLet (x7 + (1 : Int32)) fun v129 =>
                        F_X8_scan_13 a0 p1 p2  n v129 v128 v115 s114
                    else
                      zLet ((0 : Int32)) fun v118 =>
                      zLet (x7 + (1 : Int32)) fun v119 =>
                      F_X8_scan_13 a0 p1 p2  n v119 v118 v115 s114
                  else
                    s15
              else
                zLet2 (F_X8_addDigits a0 p1 p2 v14 s15) fun v176 s177 =>
                zLet (s177.1 a0 4) fun v178 =>
                if 0 < v178.toInt then
                  zLet ((s177.2.2 a0 1).getD 0) fun v182 =>
                  zLet (s177.1 a0 4) fun v183 =>
                  zLet ((1 : Int32)) fun v184 =>
                  zLet (v183 - v184) fun v185 =>
                  zLet (s177.1 v182 v185.toNatClampNeg) fun v186 =>
                  zLet ((33 : Int32)) fun v187 =>
                  if v186.toInt < v187.toInt then
                    zLet ((1 : Int32)) fun v192 =>
                    zLet (x7 + (1 : Int32)) fun v193 =>
                    F_X8_scan_13 a0 p1 p2  n v193 v192 v176 s177
                  else
                    zLet ((0 : Int32)) fun v190 =>
                    zLet (x7 + (1 : Int32)) fun v191 =>
                    F_X8_scan_13 a0 p1 p2  n v191 v190 v176 s177
                else
                  zLet ((0 : Int32)) fun v180 =>
                  zLet (x7 + (1 : Int32)) fun v181 =>
                  F_X8_scan_13 a0 p1 p2  n v181 v180 v176 s177
            else
              zLet2 (F_X8_addLetters a0 p1 p2 v14 s15) fun v194 s195 =>
              zLet (s195.1 a0 4) fun v196 =>
              if 0 < v196.toInt then
                zLet ((s195.2.2 a0 1).getD 0) fun v200 =>
                zLet (s195.1 a0 4) fun v201 =>
                zLet ((1 : Int32)) fun v202 =>
                zLet (v201 - v202) fun v203 =>
                zLet (s195.1 v200 v203.toNatClampNeg) fun v204 =>
                zLet ((33 : Int32)) fun v205 =>
                if v204.toInt < v205.toInt then
                  zLet ((1 : Int32)) fun v210 =>
                  zLet (x7 + (1 : Int32)) fun v211 =>
                  F_X8_scan_13 a0 p1 p2  n v211 v210 v194 s195
                else
                  zLet ((0 : Int32)) fun v208 =>
                  zLet (x7 + (1 : Int32)) fun v209 =>
                  F_X8_scan_13 a0 p1 p2  n v209 v208 v194 s195
              else
                zLet ((0 : Int32)) fun v198 =>
                zLet (x7 + (1 : Int32)) fun v199 =>
                F_X8_scan_13 a0 p1 p2  n v199 v198 v194 s195
          else
            zLet ((33 : Int32)) fun v212 =>
            zLet (Int64.ofNat 0) fun v213 =>
            zLet (F_X8_add a0 v212 v213 p2 s15) fun s214 =>
            zLet (s214.1 a0 4) fun v215 =>
            if 0 < v215.toInt then
              zLet ((s214.2.2 a0 1).getD 0) fun v219 =>
              zLet (s214.1 a0 4) fun v220 =>
              zLet ((1 : Int32)) fun v221 =>
              zLet (v220 - v221) fun v222 =>
              zLet (s214.1 v219 v222.toNatClampNeg) fun v223 =>
              zLet ((33 : Int32)) fun v224 =>
              if v223.toInt < v224.toInt then
                zLet ((1 : Int32)) fun v229 =>
                zLet (x7 + (1 : Int32)) fun v230 =>
                F_X8_scan_13 a0 p1 p2  n v230 v229 v14 s214
              else
                zLet ((0 : Int32)) fun v227 =>
                zLet (x7 + (1 : Int32)) fun v228 =>
                F_X8_scan_13 a0 p1 p2  n v228 v227 v14 s214
            else
              zLet ((0 : Int32)) fun v217 =>
              zLet (x7 + (1 : Int32)) fun v218 =>
              F_X8_scan_13 a0 p1 p2  n v218 v217 v14 s214
        else
          zLet ((0 : Int32)) fun v18 =>
          if v14.toInt < p2.toInt then
            zLet (F_X8_isLetter v18) fun v21 =>
            if v21.toInt = 0 then
              zLet (F_X8_isDigit v18) fun v23 =>
              if v23.toInt = 0 then
                if 0 < v18.toInt then
                  s15
                else
                  zLet ((-1 : Int32)) fun v26 =>
                  if v26.toInt < 0 then
                    zLet ((34 : Int32)) fun v28 =>
                    zLet (Int64.ofNat 0) fun v29 =>
                    zLet (F_X8_add a0 v28 v29 v14 s15) fun s30 =>
                    zLet (v14 + (1 : Int32)) fun v31 =>
                    zLet (s30.1 a0 4) fun v32 =>
                    if 0 < v32.toInt then
                      zLet ((s30.2.2 a0 1).getD 0) fun v36 =>
                      zLet (s30.1 a0 4) fun v37 =>
                      zLet ((1 : Int32)) fun v38 =>
                      zLet (v37 - v38) fun v39 =>
                      zLet (s30.1 v36 v39.toNatClampNeg) fun v40 =>
                      zLet ((33 : Int32)) fun v41 =>
                      if v40.toInt < v41.toInt then
                        zLet ((1 : Int32)) fun v46 =>
                        zLet (x7 + (1 : Int32)) fun v47 =>
                        F_X8_scan_13 a0 p1 p2  n v47 v46 v31 s30
                      else
                        zLet ((0 : Int32)) fun v44 =>
                        zLet (x7 + (1 : Int32)) fun v45 =>
                        F_X8_scan_13 a0 p1 p2  n v45 v44 v31 s30
                    else
                      zLet ((0 : Int32)) fun v34 =>
                      zLet (x7 + (1 : Int32)) fun v35 =>
                      F_X8_scan_13 a0 p1 p2  n v35 v34 v31 s30
                  else
                    s15
              else
                zLet2 (F_X8_addDigits a0 p1 p2 v14 s15) fun v48 s49 =>
                zLet (s49.1 a0 4) fun v50 =>
                if 0 < v50.toInt then
                  zLet ((s49.2.2 a0 1).getD 0) fun v54 =>
                  zLet (s49.1 a0 4) fun v55 =>
                  zLet ((1 : Int32)) fun v56 =>
                  zLet (v55 - v56) fun v57 =>
                  zLet (s49.1 v54 v57.toNatClampNeg) fun v58 =>
                  zLet ((33 : Int32)) fun v59 =>
                  if v58.toInt < v59.toInt then
                    zLet ((1 : Int32)) fun v64 =>
                    zLet (x7 + (1 : Int32)) fun v65 =>
                    F_X8_scan_13 a0 p1 p2  n v65 v64 v48 s49
                  else
                    zLet ((0 : Int32)) fun v62 =>
                    zLet (x7 + (1 : Int32)) fun v63 =>
                    F_X8_scan_13 a0 p1 p2  n v63 v62 v48 s49
                else
                  zLet ((0 : Int32)) fun v52 =>
                  zLet (x7 + (1 : Int32)) fun v53 =>
                  F_X8_scan_13 a0 p1 p2  n v53 v52 v48 s49
            else
              zLet2 (F_X8_addLetters a0 p1 p2 v14 s15) fun v66 s67 =>
              zLet (s67.1 a0 4) fun v68 =>
              if 0 < v68.toInt then
                zLet ((s67.2.2 a0 1).getD 0) fun v72 =>
                zLet (s67.1 a0 4) fun v73 =>
                zLet ((1 : Int32)) fun v74 =>
                zLet (v73 - v74) fun v75 =>
                zLet (s67.1 v72 v75.toNatClampNeg) fun v76 =>
                zLet ((33 : Int32)) fun v77 =>
                if v76.toInt < v77.toInt then
                  zLet ((1 : Int32)) fun v82 =>
                  zLet (x7 + (1 : Int32)) fun v83 =>
                  F_X8_scan_13 a0 p1 p2  n v83 v82 v66 s67
                else
                  zLet ((0 : Int32)) fun v80 =>
                  zLet (x7 + (1 : Int32)) fun v81 =>
                  F_X8_scan_13 a0 p1 p2  n v81 v80 v66 s67
              else
                zLet ((0 : Int32)) fun v70 =>
                zLet (x7 + (1 : Int32)) fun v71 =>
                F_X8_scan_13 a0 p1 p2  n v71 v70 v66 s67
          else
            zLet ((33 : Int32)) fun v84 =>
            zLet (Int64.ofNat 0) fun v85 =>
            zLet (F_X8_add a0 v84 v85 p2 s15) fun s86 =>
            zLet (s86.1 a0 4) fun v87 =>
            if 0 < v87.toInt then
              zLet ((s86.2.2 a0 1).getD 0) fun v91 =>
              zLet (s86.1 a0 4) fun v92 =>
              zLet ((1 : Int32)) fun v93 =>
              zLet (v92 - v93) fun v94 =>
              zLet (s86.1 v91 v94.toNatClampNeg) fun v95 =>
              zLet ((33 : Int32)) fun v96 =>
              if v95.toInt < v96.toInt then
                zLet ((1 : Int32)) fun v101 =>
                zLet (x7 + (1 : Int32)) fun v102 =>
                F_X8_scan_13 a0 p1 p2  n v102 v101 v14 s86
              else
                zLet ((0 : Int32)) fun v99 =>
                zLet (x7 + (1 : Int32)) fun v100 =>
                F_X8_scan_13 a0 p1 p2  n v100 v99 v14 s86
            else
              zLet ((0 : Int32)) fun v89 =>
              zLet (x7 + (1 : Int32)) fun v90 =>
              F_X8_scan_13 a0 p1 p2  n v90 v89 v14 s86
set_option maxRecDepth 100000 in
noncomputable def F_X8_scan (a0 : Nat) (p1 : Nat) (p2 : Int32) (σ : zS) : zS :=
  zLet ((0 : Int32)) fun v1 =>
  zLet ((zu σ.1 a0 4 v1, σ.2.1, σ.2.2)) fun s2 =>
  zLet ((0 : Int32)) fun v4 =>
  zLet ((1 : Int32)) fun v5 =>
  zLet ((0 : Int32)) fun v6 =>
  F_X8_scan_13 a0 p1 p2  10000 v6 v5 v4 s2
set_option maxRecDepth 100000 in
noncomputable def F_X3_goTo (a0 : Nat) (p1 : Int32) (σ : zS) : zS :=
  if p1.toInt < 0 then
    zLet ((0 : Int32)) fun v2 =>
    zLet ((zu σ.1 a0 2 p1, σ.2.1, σ.2.2)) fun s3 =>
    if v2.toInt = 0 then
      zLet ((34 : Int32)) fun v5 =>
      zLet ((zu s3.1 a0 3 v5, s3.2.1, s3.2.2)) fun s6 =>
      if v2.toInt = 0 then
        zLet (Int64.ofNat 0) fun v8 =>
        zLet ((s6.1, zu s6.2.1 a0 4 v8, s6.2.2)) fun s9 =>
        if v2.toInt = 0 then
          zLet ((-1 : Int32)) fun v11 =>
          zLet ((zu s9.1 a0 5 v11, s9.2.1, s9.2.2)) fun s12 =>
          s12
        else
          s9
      else
        s6
    else
      s3
  else
    zLet ((σ.2.2 a0 0).getD 0) fun v13 =>
    zLet (σ.1 v13 4) fun v14 =>
    if p1.toInt < v14.toInt then
      zLet ((1 : Int32)) fun v28 =>
      zLet ((zu σ.1 a0 2 p1, σ.2.1, σ.2.2)) fun s29 =>
      if v28.toInt = 0 then
        s29
      else
        zLet ((s29.2.2 a0 0).getD 0) fun v31 =>
        zLet ((s29.2.2 v31 1).getD 0) fun v32 =>
        zLet (s29.1 v32 p1.toNatClampNeg) fun v33 =>
        zLet ((zu s29.1 a0 3 v33, s29.2.1, s29.2.2)) fun s34 =>
        if v28.toInt = 0 then
          s34
        else
          zLet ((s34.2.2 a0 0).getD 0) fun v36 =>
          zLet ((s34.2.2 v36 2).getD 0) fun v37 =>
          zLet (s34.2.1 v37 p1.toNatClampNeg) fun v38 =>
          zLet ((s34.1, zu s34.2.1 a0 4 v38, s34.2.2)) fun s39 =>
          if v28.toInt = 0 then
            s39
          else
            zLet ((s39.2.2 a0 0).getD 0) fun v41 =>
            zLet ((s39.2.2 v41 3).getD 0) fun v42 =>
            zLet (s39.1 v42 p1.toNatClampNeg) fun v43 =>
            zLet ((zu s39.1 a0 5 v43, s39.2.1, s39.2.2)) fun s44 =>
            s44
    else
      zLet ((0 : Int32)) fun v17 =>
      zLet ((zu σ.1 a0 2 p1, σ.2.1, σ.2.2)) fun s18 =>
      if v17.toInt = 0 then
        zLet ((34 : Int32)) fun v20 =>
        zLet ((zu s18.1 a0 3 v20, s18.2.1, s18.2.2)) fun s21 =>
        if v17.toInt = 0 then
          zLet (Int64.ofNat 0) fun v23 =>
          zLet ((s21.1, zu s21.2.1 a0 4 v23, s21.2.2)) fun s24 =>
          if v17.toInt = 0 then
            zLet ((-1 : Int32)) fun v26 =>
            zLet ((zu s24.1 a0 5 v26, s24.2.1, s24.2.2)) fun s27 =>
            s27
          else
            s24
        else
          s21
      else
        s18
set_option maxRecDepth 100000 in
noncomputable def F_X3_fail (a0 : Nat) (p1 : Int32) (σ : zS) : zS :=
  zLet (σ.1 a0 8) fun v1 =>
  if v1.toInt = 0 then
    zLet ((zu σ.1 a0 8 p1, σ.2.1, σ.2.2)) fun s3 =>
    zLet (s3.1 a0 5) fun v4 =>
    zLet ((zu s3.1 a0 9 v4, s3.2.1, s3.2.2)) fun s5 =>
    zLet ((34 : Int32)) fun v6 =>
    zLet ((zu s5.1 a0 3 v6, s5.2.1, s5.2.2)) fun s7 =>
    s7
  else
    σ
set_option maxRecDepth 100000 in
noncomputable def F_X3_failLate (a0 : Nat) (p1 : Int32) (σ : zS) : zS :=
  zLet (σ.1 a0 10) fun v1 =>
  if v1.toInt = 0 then
    zLet ((zu σ.1 a0 10 p1, σ.2.1, σ.2.2)) fun s3 =>
    zLet (s3.1 a0 5) fun v4 =>
    zLet ((zu s3.1 a0 11 v4, s3.2.1, s3.2.2)) fun s5 =>
    s5
  else
    σ
set_option maxRecDepth 100000 in
noncomputable def F_X3_take (a0 : Nat) (p1 : Int32) (σ : zS) : zS :=
  zLet (σ.1 a0 3) fun v1 =>
  if v1.toInt = p1.toInt then
    zLet (σ.1 a0 2) fun v3 =>
    zLet ((400 : Int32)) fun v4 =>
    if v3.toInt < v4.toInt then
      zLet (σ.1 a0 2) fun v7 =>
      zLet ((1 : Int32)) fun v8 =>
      zLet (v7 + v8) fun v9 =>
      zLet (F_X3_goTo a0 v9 σ) fun s10 =>
      s10
    else
      zLet ((2 : Int32)) fun v11 =>
      zLet (F_X3_fail a0 v11 σ) fun s12 =>
      s12
  else
    zLet ((1 : Int32)) fun v13 =>
    zLet (F_X3_fail a0 v13 σ) fun s14 =>
    s14
set_option maxRecDepth 100000 in
noncomputable def F_X3_placeNamed_13 (a0 : Nat) (p1 : Int64)  : Nat → Int32 → zS → Int32 × zS
  | 0, _, s => (0, s)
  | n + 1, x4, τ5 =>
    zLet (τ5.1 a0 7) fun v6 =>
    if v6.toInt < x4.toInt then
      zLet ((-1 : Int32)) fun v8 =>
      (v8, τ5)
    else
      zLet ((12 : Int32)) fun v9 =>
      if x4.toInt < v9.toInt then
        zLet ((τ5.2.2 a0 1).getD 0) fun v11 =>
        zLet ((τ5.2.2 v11 1).getD 0) fun v12 =>
        zLet (τ5.2.1 v12 x4.toNatClampNeg) fun v13 =>
        zLet (lg_cmp v13 p1) fun v14 =>
        if v14.toInt = 0 then
          (x4, τ5)
        else
          zLet (x4 + (1 : Int32)) fun v16 =>
          F_X3_placeNamed_13 a0 p1  n v16 τ5
      else
        (0, τ5)
set_option maxRecDepth 100000 in
noncomputable def F_X3_placeNamed_13_1 (a0 : Nat) (p1 : Int64)  : Nat → Int32 → zS → Int32 × zS
  | 0, _, s => (0, s)
  | n + 1, x18, τ19 =>
    zLet (τ19.1 a0 7) fun v20 =>
    if v20.toInt < x18.toInt then
      zLet ((-1 : Int32)) fun v22 =>
      (v22, τ19)
    else
      zLet ((12 : Int32)) fun v23 =>
      if x18.toInt < v23.toInt then
        zLet ((τ19.2.2 a0 1).getD 0) fun v25 =>
        zLet ((τ19.2.2 v25 1).getD 0) fun v26 =>
        zLet (τ19.2.1 v26 x18.toNatClampNeg) fun v27 =>
        zLet (lg_cmp v27 p1) fun v28 =>
        if v28.toInt = 0 then
          (x18, τ19)
        else
          zLet (x18 + (1 : Int32)) fun v30 =>
          F_X3_placeNamed_13_1 a0 p1  n v30 τ19
      else
        (0, τ19)
set_option maxRecDepth 100000 in
noncomputable def F_X3_placeNamed (a0 : Nat) (p1 : Int64) (σ : zS) : Int32 × zS :=
  zLet (σ.1 a0 6) fun v1 =>
  if v1.toInt = 0 then
    zLet ((1 : Int32)) fun v3 =>
    F_X3_placeNamed_13 a0 p1  10000 v3 σ
  else
    zLet ((0 : Int32)) fun v17 =>
    F_X3_placeNamed_13_1 a0 p1  10000 v17 σ
set_option maxRecDepth 100000 in
noncomputable def F_X3_newName (a0 : Nat) (σ : zS) : Int64 × zS :=
  zLet (σ.2.1 a0 4) fun v1 =>
  zLet (σ.1 a0 3) fun v2 =>
  zLet ((22 : Int32)) fun v3 =>
  if v2.toInt = v3.toInt then
    zLet2 (F_X3_placeNamed a0 v1 σ) fun v7 s8 =>
    zLet ((-1 : Int32)) fun v9 =>
    if v7.toInt = v9.toInt then
      zLet ((22 : Int32)) fun v11 =>
      zLet (F_X3_take a0 v11 s8) fun s12 =>
      (v1, s12)
    else
      zLet ((3 : Int32)) fun v13 =>
      zLet (F_X3_failLate a0 v13 s8) fun s14 =>
      zLet ((22 : Int32)) fun v15 =>
      zLet (F_X3_take a0 v15 s14) fun s16 =>
      (v1, s16)
  else
    zLet ((22 : Int32)) fun v5 =>
    zLet (F_X3_take a0 v5 σ) fun s6 =>
    (v1, s6)
set_option maxRecDepth 100000 in
noncomputable def F_X3_knownName (a0 : Nat) (σ : zS) : Int32 × zS :=
  zLet (σ.2.1 a0 4) fun v1 =>
  zLet2 (F_X3_placeNamed a0 v1 σ) fun v2 s3 =>
  zLet (s3.1 a0 3) fun v4 =>
  zLet ((22 : Int32)) fun v5 =>
  if v4.toInt = v5.toInt then
    zLet ((-1 : Int32)) fun v11 =>
    if v2.toInt = v11.toInt then
      zLet ((4 : Int32)) fun v17 =>
      zLet (F_X3_failLate a0 v17 s3) fun s18 =>
      zLet ((22 : Int32)) fun v19 =>
      zLet (F_X3_take a0 v19 s18) fun s20 =>
      zLet ((0 : Int32)) fun v21 =>
      zLet (if v21.toInt ≤ v2.toInt then v2 else v21) fun v22 =>
      (v22, s20)
    else
      zLet ((22 : Int32)) fun v13 =>
      zLet (F_X3_take a0 v13 s3) fun s14 =>
      zLet ((0 : Int32)) fun v15 =>
      zLet (if v15.toInt ≤ v2.toInt then v2 else v15) fun v16 =>
      (v16, s14)
  else
    zLet ((22 : Int32)) fun v7 =>
    zLet (F_X3_take a0 v7 s3) fun s8 =>
    zLet ((0 : Int32)) fun v9 =>
    zLet (if v9.toInt ≤ v2.toInt then v2 else v9) fun v10 =>
    (v10, s8)
set_option maxRecDepth 100000 in
noncomputable def F_X3_number (a0 : Nat) (p1 : Int32) (p2 : Int32) (σ : zS) : Int32 × zS :=
  zLet (σ.2.1 a0 4) fun v1 =>
  zLet (v1.toInt32) fun v2 =>
  zLet (σ.1 a0 3) fun v3 =>
  zLet ((23 : Int32)) fun v4 =>
  if v3.toInt = v4.toInt then
    zLet (F_X10_isWithin v2 p1 p2) fun v8 =>
    if v8.toInt = 0 then
      zLet ((5 : Int32)) fun v12 =>
      zLet (F_X3_failLate a0 v12 σ) fun s13 =>
      zLet ((23 : Int32)) fun v14 =>
      zLet (F_X3_take a0 v14 s13) fun s15 =>
      (v2, s15)
    else
      zLet ((23 : Int32)) fun v10 =>
      zLet (F_X3_take a0 v10 σ) fun s11 =>
      (v2, s11)
  else
    zLet ((23 : Int32)) fun v6 =>
    zLet (F_X3_take a0 v6 σ) fun s7 =>
    (v2, s7)
set_option maxRecDepth 100000 in
noncomputable def F_X3_mouth (a0 : Nat) (σ : zS) : zS :=
  zLet (σ.1 a0 6) fun v1 =>
  if v1.toInt = 0 then
    zLet ((0 : Int32)) fun v3 =>
    zLet (F_X3_take a0 v3 σ) fun s4 =>
    zLet2 (F_X3_newName a0 s4) fun v5 s6 =>
    zLet (s6.1 a0 8) fun v7 =>
    if v7.toInt = 0 then
      zLet ((1 : Int32)) fun v9 =>
      zLet ((zu s6.1 a0 6 v9, s6.2.1, s6.2.2)) fun s10 =>
      zLet ((s10.2.2 a0 1).getD 0) fun v11 =>
      zLet ((s10.2.2 v11 1).getD 0) fun v12 =>
      zLet ((0 : Int32)) fun v13 =>
      zLet ((s10.1, zu s10.2.1 v12 v13.toNatClampNeg v5, s10.2.2)) fun s14 =>
      zLet ((s14.2.2 a0 1).getD 0) fun v15 =>
      zLet ((0 : Int32)) fun v16 =>
      zLet ((0 : Int32)) fun v17 =>
      zLet ((0 : Int32)) fun v18 =>
      zLet ((0 : Int32)) fun v19 =>
      zLet ((0 : Int32)) fun v20 =>
      zLet (F_X9_setPlace v15 v16 v17 v18 v19 v20 s14) fun s21 =>
      s21
    else
      s6
  else
    zLet ((2 : Int32)) fun v22 =>
    zLet (F_X3_fail a0 v22 σ) fun s23 =>
    zLet ((0 : Int32)) fun v24 =>
    zLet (F_X3_take a0 v24 s23) fun s25 =>
    zLet2 (F_X3_newName a0 s25) fun v26 s27 =>
    zLet (s27.1 a0 8) fun v28 =>
    if v28.toInt = 0 then
      zLet ((1 : Int32)) fun v30 =>
      zLet ((zu s27.1 a0 6 v30, s27.2.1, s27.2.2)) fun s31 =>
      zLet ((s31.2.2 a0 1).getD 0) fun v32 =>
      zLet ((s31.2.2 v32 1).getD 0) fun v33 =>
      zLet ((0 : Int32)) fun v34 =>
      zLet ((s31.1, zu s31.2.1 v33 v34.toNatClampNeg v26, s31.2.2)) fun s35 =>
      zLet ((s35.2.2 a0 1).getD 0) fun v36 =>
      zLet ((0 : Int32)) fun v37 =>
      zLet ((0 : Int32)) fun v38 =>
      zLet ((0 : Int32)) fun v39 =>
      zLet ((0 : Int32)) fun v40 =>
      zLet ((0 : Int32)) fun v41 =>
      zLet (F_X9_setPlace v36 v37 v38 v39 v40 v41 s35) fun s42 =>
      s42
    else
      s27
set_option maxRecDepth 100000 in
noncomputable def F_X3_newPlace (a0 : Nat) (σ : zS) : zS :=
  zLet (σ.1 a0 7) fun v1 =>
  zLet ((11 : Int32)) fun v2 =>
  if v1.toInt < v2.toInt then
    zLet ((1 : Int32)) fun v4 =>
    zLet (F_X3_take a0 v4 σ) fun s5 =>
    zLet2 (F_X3_newName a0 s5) fun v6 s7 =>
    zLet2 (F_X3_knownName a0 s7) fun v8 s9 =>
    zLet ((1 : Int32)) fun v10 =>
    zLet ((99 : Int32)) fun v11 =>
    zLet2 (F_X3_number a0 v10 v11 s9) fun v12 s13 =>
    zLet ((0 : Int32)) fun v14 =>
    zLet ((99 : Int32)) fun v15 =>
    zLet2 (F_X3_number a0 v14 v15 s13) fun v16 s17 =>
    zLet ((0 : Int32)) fun v18 =>
    zLet ((99 : Int32)) fun v19 =>
    zLet2 (F_X3_number a0 v18 v19 s17) fun v20 s21 =>
    zLet (s21.1 a0 8) fun v22 =>
    if v22.toInt = 0 then
      zLet (s21.1 a0 7) fun v24 =>
      zLet ((11 : Int32)) fun v25 =>
      if v24.toInt < v25.toInt then
        zLet (s21.1 a0 7) fun v27 =>
        zLet ((1 : Int32)) fun v28 =>
        zLet (v27 + v28) fun v29 =>
        zLet ((zu s21.1 a0 7 v29, s21.2.1, s21.2.2)) fun s30 =>
        zLet ((s30.2.2 a0 1).getD 0) fun v33 =>
        zLet ((s30.2.2 v33 1).getD 0) fun v34 =>
        zLet (s30.1 a0 7) fun v35 =>
        zLet ((s30.1, zu s30.2.1 v34 v35.toNatClampNeg v6, s30.2.2)) fun s36 =>
        zLet ((s36.2.2 a0 1).getD 0) fun v38 =>
        zLet (s36.1 a0 7) fun v39 =>
        zLet (F_X9_setPlace v38 v39 v8 v12 v16 v20 s36) fun s40 =>
        s40
      else
        s21
    else
      s21
  else
    zLet ((2 : Int32)) fun v41 =>
    zLet (F_X3_fail a0 v41 σ) fun s42 =>
    zLet ((1 : Int32)) fun v43 =>
    zLet (F_X3_take a0 v43 s42) fun s44 =>
    zLet2 (F_X3_newName a0 s44) fun v45 s46 =>
    zLet2 (F_X3_knownName a0 s46) fun v47 s48 =>
    zLet ((1 : Int32)) fun v49 =>
    zLet ((99 : Int32)) fun v50 =>
    zLet2 (F_X3_number a0 v49 v50 s48) fun v51 s52 =>
    zLet ((0 : Int32)) fun v53 =>
    zLet ((99 : Int32)) fun v54 =>
    zLet2 (F_X3_number a0 v53 v54 s52) fun v55 s56 =>
    zLet ((0 : Int32)) fun v57 =>
    zLet ((99 : Int32)) fun v58 =>
    zLet2 (F_X3_number a0 v57 v58 s56) fun v59 s60 =>
    zLet (s60.1 a0 8) fun v61 =>
    if v61.toInt = 0 then
      zLet (s60.1 a0 7) fun v63 =>
      zLet ((11 : Int32)) fun v64 =>
      if v63.toInt < v64.toInt then
        zLet (s60.1 a0 7) fun v66 =>
        zLet ((1 : Int32)) fun v67 =>
        zLet (v66 + v67) fun v68 =>
        zLet ((zu s60.1 a0 7 v68, s60.2.1, s60.2.2)) fun s69 =>
        zLet ((s69.2.2 a0 1).getD 0) fun v72 =>
        zLet ((s69.2.2 v72 1).getD 0) fun v73 =>
        zLet (s69.1 a0 7) fun v74 =>
        zLet ((s69.1, zu s69.2.1 v73 v74.toNatClampNeg v45, s69.2.2)) fun s75 =>
        zLet ((s75.2.2 a0 1).getD 0) fun v77 =>
        zLet (s75.1 a0 7) fun v78 =>
        zLet (F_X9_setPlace v77 v78 v47 v51 v55 v59 s75) fun s79 =>
        s79
      else
        s60
    else
      s60
set_option maxRecDepth 100000 in
noncomputable def F_X3_unit_o6 (a0 : Nat) (p1 : Int32) (σ : zS) : zS :=
  zLet (σ.1 a0 3) fun v1 =>
  zLet ((23 : Int32)) fun v2 =>
  if v1.toInt = v2.toInt then
    zLet ((σ.2.2 a0 1).getD 0) fun v45 =>
    zLet ((0 : Int32)) fun v46 =>
    zLet (σ.2.1 a0 4) fun v47 =>
    zLet (v47.toInt32) fun v48 =>
    zLet (F_X9_addStep v45 v46 v48 σ) fun s49 =>
    zLet (s49.1 a0 3) fun v50 =>
    zLet (F_X3_take a0 v50 s49) fun s51 =>
    s51
  else
    zLet (σ.1 a0 3) fun v4 =>
    zLet ((13 : Int32)) fun v5 =>
    if v4.toInt < v5.toInt then
      zLet (σ.1 a0 3) fun v8 =>
      zLet ((31 : Int32)) fun v9 =>
      if v8.toInt = v9.toInt then
        σ
      else
        zLet (σ.1 a0 3) fun v11 =>
        zLet ((31 : Int32)) fun v12 =>
        if v11.toInt = v12.toInt then
          σ
        else
          zLet ((1 : Int32)) fun v14 =>
          zLet (F_X3_fail a0 v14 σ) fun s15 =>
          s15
    else
      zLet (σ.1 a0 3) fun v16 =>
      zLet ((22 : Int32)) fun v17 =>
      if v16.toInt < v17.toInt then
        zLet ((σ.2.2 a0 1).getD 0) fun v37 =>
        zLet ((1 : Int32)) fun v38 =>
        zLet (σ.1 a0 3) fun v39 =>
        zLet ((13 : Int32)) fun v40 =>
        zLet (v39 - v40) fun v41 =>
        zLet (F_X9_addStep v37 v38 v41 σ) fun s42 =>
        zLet (s42.1 a0 3) fun v43 =>
        zLet (F_X3_take a0 v43 s42) fun s44 =>
        s44
      else
        zLet (σ.1 a0 3) fun v20 =>
        zLet ((31 : Int32)) fun v21 =>
        if v20.toInt = v21.toInt then
          zLet ((6 : Int32)) fun v30 =>
          if p1.toInt < v30.toInt then
            σ
          else
            zLet (σ.1 a0 3) fun v32 =>
            zLet ((31 : Int32)) fun v33 =>
            if v32.toInt = v33.toInt then
              zLet ((2 : Int32)) fun v35 =>
              zLet (F_X3_fail a0 v35 σ) fun s36 =>
              s36
            else
              σ
        else
          zLet (σ.1 a0 3) fun v23 =>
          zLet ((31 : Int32)) fun v24 =>
          if v23.toInt = v24.toInt then
            zLet ((2 : Int32)) fun v28 =>
            zLet (F_X3_fail a0 v28 σ) fun s29 =>
            s29
          else
            zLet ((1 : Int32)) fun v26 =>
            zLet (F_X3_fail a0 v26 σ) fun s27 =>
            s27
set_option maxRecDepth 100000 in
noncomputable def F_X3_product_o6_7 (a0 : Nat) (p1 : Int32)  : Nat → Int32 → zS → zS
  | 0, _, s => s
  | n + 1, x3, τ4 =>
    zLet ((400 : Int32)) fun v5 =>
    if v5.toInt < x3.toInt then
      τ4
    else
      zLet (τ4.1 a0 3) fun v7 =>
      zLet ((28 : Int32)) fun v8 =>
      zLet ((29 : Int32)) fun v9 =>
      zLet (F_X10_isWithin v7 v8 v9) fun v10 =>
      if v10.toInt = 0 then
        τ4
      else
        zLet (τ4.1 a0 3) fun v12 =>
        zLet (F_X3_take a0 v12 τ4) fun s13 =>
        zLet (F_X3_unit_o6 a0 p1 s13) fun s14 =>
        zLet ((s14.2.2 a0 1).getD 0) fun v15 =>
        zLet ((28 : Int32)) fun v16 =>
        if v12.toInt = v16.toInt then
          zLet ((4 : Int32)) fun v22 =>
          zLet ((0 : Int32)) fun v23 =>
          zLet (F_X9_addStep v15 v22 v23 s14) fun s24 =>
          zLet (x3 + (1 : Int32)) fun v25 =>
          F_X3_product_o6_7 a0 p1  n v25 s24
        else
          zLet ((5 : Int32)) fun v18 =>
          zLet ((0 : Int32)) fun v19 =>
          zLet (F_X9_addStep v15 v18 v19 s14) fun s20 =>
          zLet (x3 + (1 : Int32)) fun v21 =>
          F_X3_product_o6_7 a0 p1  n v21 s20
set_option maxRecDepth 100000 in
noncomputable def F_X3_product_o6 (a0 : Nat) (p1 : Int32) (σ : zS) : zS :=
  zLet (F_X3_unit_o6 a0 p1 σ) fun s1 =>
  zLet ((0 : Int32)) fun v2 =>
  F_X3_product_o6_7 a0 p1  10000 v2 s1
set_option maxRecDepth 100000 in
noncomputable def F_X3_sum_o6_7 (a0 : Nat) (p1 : Int32)  : Nat → Int32 → zS → zS
  | 0, _, s => s
  | n + 1, x3, τ4 =>
    zLet ((400 : Int32)) fun v5 =>
    if v5.toInt < x3.toInt then
      τ4
    else
      zLet (τ4.1 a0 3) fun v7 =>
      zLet ((26 : Int32)) fun v8 =>
      zLet ((27 : Int32)) fun v9 =>
      zLet (F_X10_isWithin v7 v8 v9) fun v10 =>
      if v10.toInt = 0 then
        τ4
      else
        zLet (τ4.1 a0 3) fun v12 =>
        zLet (F_X3_take a0 v12 τ4) fun s13 =>
        zLet (F_X3_product_o6 a0 p1 s13) fun s14 =>
        zLet ((s14.2.2 a0 1).getD 0) fun v15 =>
        zLet ((26 : Int32)) fun v16 =>
        if v12.toInt = v16.toInt then
          zLet ((2 : Int32)) fun v22 =>
          zLet ((0 : Int32)) fun v23 =>
          zLet (F_X9_addStep v15 v22 v23 s14) fun s24 =>
          zLet (x3 + (1 : Int32)) fun v25 =>
          F_X3_sum_o6_7 a0 p1  n v25 s24
        else
          zLet ((3 : Int32)) fun v18 =>
          zLet ((0 : Int32)) fun v19 =>
          zLet (F_X9_addStep v15 v18 v19 s14) fun s20 =>
          zLet (x3 + (1 : Int32)) fun v21 =>
          F_X3_sum_o6_7 a0 p1  n v21 s20
set_option maxRecDepth 100000 in
noncomputable def F_X3_sum_o6 (a0 : Nat) (p1 : Int32) (σ : zS) : zS :=
  zLet (F_X3_product_o6 a0 p1 σ) fun s1 =>
  zLet ((0 : Int32)) fun v2 =>
  F_X3_sum_o6_7 a0 p1  10000 v2 s1
set_option maxRecDepth 100000 in
noncomputable def F_X3_unit_o5 (a0 : Nat) (p1 : Int32) (σ : zS) : zS :=
  zLet (σ.1 a0 3) fun v1 =>
  zLet ((23 : Int32)) fun v2 =>
  if v1.toInt = v2.toInt then
    zLet ((σ.2.2 a0 1).getD 0) fun v47 =>
    zLet ((0 : Int32)) fun v48 =>
    zLet (σ.2.1 a0 4) fun v49 =>
    zLet (v49.toInt32) fun v50 =>
    zLet (F_X9_addStep v47 v48 v50 σ) fun s51 =>
    zLet (s51.1 a0 3) fun v52 =>
    zLet (F_X3_take a0 v52 s51) fun s53 =>
    s53
  else
    zLet (σ.1 a0 3) fun v4 =>
    zLet ((13 : Int32)) fun v5 =>
    if v4.toInt < v5.toInt then
      zLet (σ.1 a0 3) fun v8 =>
      zLet ((31 : Int32)) fun v9 =>
      if v8.toInt = v9.toInt then
        σ
      else
        zLet (σ.1 a0 3) fun v11 =>
        zLet ((31 : Int32)) fun v12 =>
        if v11.toInt = v12.toInt then
          σ
        else
          zLet ((1 : Int32)) fun v14 =>
          zLet (F_X3_fail a0 v14 σ) fun s15 =>
          s15
    else
      zLet (σ.1 a0 3) fun v16 =>
      zLet ((22 : Int32)) fun v17 =>
      if v16.toInt < v17.toInt then
        zLet ((σ.2.2 a0 1).getD 0) fun v39 =>
        zLet ((1 : Int32)) fun v40 =>
        zLet (σ.1 a0 3) fun v41 =>
        zLet ((13 : Int32)) fun v42 =>
        zLet (v41 - v42) fun v43 =>
        zLet (F_X9_addStep v39 v40 v43 σ) fun s44 =>
        zLet (s44.1 a0 3) fun v45 =>
        zLet (F_X3_take a0 v45 s44) fun s46 =>
        s46
      else
        zLet (σ.1 a0 3) fun v20 =>
        zLet ((31 : Int32)) fun v21 =>
        if v20.toInt = v21.toInt then
          zLet ((6 : Int32)) fun v30 =>
          if p1.toInt < v30.toInt then
            zLet (σ.1 a0 3) fun v32 =>
            zLet (F_X3_take a0 v32 σ) fun s33 =>
            zLet ((1 : Int32)) fun v34 =>
            zLet (p1 + v34) fun v35 =>
            zLet (F_X3_sum_o6 a0 v35 s33) fun s36 =>
            zLet ((32 : Int32)) fun v37 =>
            zLet (F_X3_take a0 v37 s36) fun s38 =>
            s38
          else
            σ
        else
          zLet (σ.1 a0 3) fun v23 =>
          zLet ((31 : Int32)) fun v24 =>
          if v23.toInt = v24.toInt then
            zLet ((2 : Int32)) fun v28 =>
            zLet (F_X3_fail a0 v28 σ) fun s29 =>
            s29
          else
            zLet ((1 : Int32)) fun v26 =>
            zLet (F_X3_fail a0 v26 σ) fun s27 =>
            s27
set_option maxRecDepth 100000 in
noncomputable def F_X3_product_o5_7 (a0 : Nat) (p1 : Int32)  : Nat → Int32 → zS → zS
  | 0, _, s => s
  | n + 1, x3, τ4 =>
    zLet ((400 : Int32)) fun v5 =>
    if v5.toInt < x3.toInt then
      τ4
    else
      zLet (τ4.1 a0 3) fun v7 =>
      zLet ((28 : Int32)) fun v8 =>
      zLet ((29 : Int32)) fun v9 =>
      zLet (F_X10_isWithin v7 v8 v9) fun v10 =>
      if v10.toInt = 0 then
        τ4
      else
        zLet (τ4.1 a0 3) fun v12 =>
        zLet (F_X3_take a0 v12 τ4) fun s13 =>
        zLet (F_X3_unit_o5 a0 p1 s13) fun s14 =>
        zLet ((s14.2.2 a0 1).getD 0) fun v15 =>
        zLet ((28 : Int32)) fun v16 =>
        if v12.toInt = v16.toInt then
          zLet ((4 : Int32)) fun v22 =>
          zLet ((0 : Int32)) fun v23 =>
          zLet (F_X9_addStep v15 v22 v23 s14) fun s24 =>
          zLet (x3 + (1 : Int32)) fun v25 =>
          F_X3_product_o5_7 a0 p1  n v25 s24
        else
          zLet ((5 : Int32)) fun v18 =>
          zLet ((0 : Int32)) fun v19 =>
          zLet (F_X9_addStep v15 v18 v19 s14) fun s20 =>
          zLet (x3 + (1 : Int32)) fun v21 =>
          F_X3_product_o5_7 a0 p1  n v21 s20
set_option maxRecDepth 100000 in
noncomputable def F_X3_product_o5 (a0 : Nat) (p1 : Int32) (σ : zS) : zS :=
  zLet (F_X3_unit_o5 a0 p1 σ) fun s1 =>
  zLet ((0 : Int32)) fun v2 =>
  F_X3_product_o5_7 a0 p1  10000 v2 s1
set_option maxRecDepth 100000 in
noncomputable def F_X3_sum_o5_7 (a0 : Nat) (p1 : Int32)  : Nat → Int32 → zS → zS
  | 0, _, s => s
  | n + 1, x3, τ4 =>
    zLet ((400 : Int32)) fun v5 =>
    if v5.toInt < x3.toInt then
      τ4
    else
      zLet (τ4.1 a0 3) fun v7 =>
      zLet ((26 : Int32)) fun v8 =>
      zLet ((27 : Int32)) fun v9 =>
      zLet (F_X10_isWithin v7 v8 v9) fun v10 =>
      if v10.toInt = 0 then
        τ4
      else
        zLet (τ4.1 a0 3) fun v12 =>
        zLet (F_X3_take a0 v12 τ4) fun s13 =>
        zLet (F_X3_product_o5 a0 p1 s13) fun s14 =>
        zLet ((s14.2.2 a0 1).getD 0) fun v15 =>
        zLet ((26 : Int32)) fun v16 =>
        if v12.toInt = v16.toInt then
          zLet ((2 : Int32)) fun v22 =>
          zLet ((0 : Int32)) fun v23 =>
          zLet (F_X9_addStep v15 v22 v23 s14) fun s24 =>
          zLet (x3 + (1 : Int32)) fun v25 =>
          F_X3_sum_o5_7 a0 p1  n v25 s24
        else
          zLet ((3 : Int32)) fun v18 =>
          zLet ((0 : Int32)) fun v19 =>
          zLet (F_X9_addStep v15 v18 v19 s14) fun s20 =>
          zLet (x3 + (1 : Int32)) fun v21 =>
          F_X3_sum_o5_7 a0 p1  n v21 s20
set_option maxRecDepth 100000 in
noncomputable def F_X3_sum_o5 (a0 : Nat) (p1 : Int32) (σ : zS) : zS :=
  zLet (F_X3_product_o5 a0 p1 σ) fun s1 =>
  zLet ((0 : Int32)) fun v2 =>
  F_X3_sum_o5_7 a0 p1  10000 v2 s1
set_option maxRecDepth 100000 in
noncomputable def F_X3_unit_o4 (a0 : Nat) (p1 : Int32) (σ : zS) : zS :=
  zLet (σ.1 a0 3) fun v1 =>
  zLet ((23 : Int32)) fun v2 =>
  if v1.toInt = v2.toInt then
    zLet ((σ.2.2 a0 1).getD 0) fun v47 =>
    zLet ((0 : Int32)) fun v48 =>
    zLet (σ.2.1 a0 4) fun v49 =>
    zLet (v49.toInt32) fun v50 =>
    zLet (F_X9_addStep v47 v48 v50 σ) fun s51 =>
    zLet (s51.1 a0 3) fun v52 =>
    zLet (F_X3_take a0 v52 s51) fun s53 =>
    s53
  else
    zLet (σ.1 a0 3) fun v4 =>
    zLet ((13 : Int32)) fun v5 =>
    if v4.toInt < v5.toInt then
      zLet (σ.1 a0 3) fun v8 =>
      zLet ((31 : Int32)) fun v9 =>
      if v8.toInt = v9.toInt then
        σ
      else
        zLet (σ.1 a0 3) fun v11 =>
        zLet ((31 : Int32)) fun v12 =>
        if v11.toInt = v12.toInt then
          σ
        else
          zLet ((1 : Int32)) fun v14 =>
          zLet (F_X3_fail a0 v14 σ) fun s15 =>
          s15
    else
      zLet (σ.1 a0 3) fun v16 =>
      zLet ((22 : Int32)) fun v17 =>
      if v16.toInt < v17.toInt then
        zLet ((σ.2.2 a0 1).getD 0) fun v39 =>
        zLet ((1 : Int32)) fun v40 =>
        zLet (σ.1 a0 3) fun v41 =>
        zLet ((13 : Int32)) fun v42 =>
        zLet (v41 - v42) fun v43 =>
        zLet (F_X9_addStep v39 v40 v43 σ) fun s44 =>
        zLet (s44.1 a0 3) fun v45 =>
        zLet (F_X3_take a0 v45 s44) fun s46 =>
        s46
      else
        zLet (σ.1 a0 3) fun v20 =>
        zLet ((31 : Int32)) fun v21 =>
        if v20.toInt = v21.toInt then
          zLet ((6 : Int32)) fun v30 =>
          if p1.toInt < v30.toInt then
            zLet (σ.1 a0 3) fun v32 =>
            zLet (F_X3_take a0 v32 σ) fun s33 =>
            zLet ((1 : Int32)) fun v34 =>
            zLet (p1 + v34) fun v35 =>
            zLet (F_X3_sum_o5 a0 v35 s33) fun s36 =>
            zLet ((32 : Int32)) fun v37 =>
            zLet (F_X3_take a0 v37 s36) fun s38 =>
            s38
          else
            σ
        else
          zLet (σ.1 a0 3) fun v23 =>
          zLet ((31 : Int32)) fun v24 =>
          if v23.toInt = v24.toInt then
            zLet ((2 : Int32)) fun v28 =>
            zLet (F_X3_fail a0 v28 σ) fun s29 =>
            s29
          else
            zLet ((1 : Int32)) fun v26 =>
            zLet (F_X3_fail a0 v26 σ) fun s27 =>
            s27
set_option maxRecDepth 100000 in
noncomputable def F_X3_product_o4_7 (a0 : Nat) (p1 : Int32)  : Nat → Int32 → zS → zS
  | 0, _, s => s
  | n + 1, x3, τ4 =>
    zLet ((400 : Int32)) fun v5 =>
    if v5.toInt < x3.toInt then
      τ4
    else
      zLet (τ4.1 a0 3) fun v7 =>
      zLet ((28 : Int32)) fun v8 =>
      zLet ((29 : Int32)) fun v9 =>
      zLet (F_X10_isWithin v7 v8 v9) fun v10 =>
      if v10.toInt = 0 then
        τ4
      else
        zLet (τ4.1 a0 3) fun v12 =>
        zLet (F_X3_take a0 v12 τ4) fun s13 =>
        zLet (F_X3_unit_o4 a0 p1 s13) fun s14 =>
        zLet ((s14.2.2 a0 1).getD 0) fun v15 =>
        zLet ((28 : Int32)) fun v16 =>
        if v12.toInt = v16.toInt then
          zLet ((4 : Int32)) fun v22 =>
          zLet ((0 : Int32)) fun v23 =>
          zLet (F_X9_addStep v15 v22 v23 s14) fun s24 =>
          zLet (x3 + (1 : Int32)) fun v25 =>
          F_X3_product_o4_7 a0 p1  n v25 s24
        else
          zLet ((5 : Int32)) fun v18 =>
          zLet ((0 : Int32)) fun v19 =>
          zLet (F_X9_addStep v15 v18 v19 s14) fun s20 =>
          zLet (x3 + (1 : Int32)) fun v21 =>
          F_X3_product_o4_7 a0 p1  n v21 s20
set_option maxRecDepth 100000 in
noncomputable def F_X3_product_o4 (a0 : Nat) (p1 : Int32) (σ : zS) : zS :=
  zLet (F_X3_unit_o4 a0 p1 σ) fun s1 =>
  zLet ((0 : Int32)) fun v2 =>
  F_X3_product_o4_7 a0 p1  10000 v2 s1
set_option maxRecDepth 100000 in
noncomputable def F_X3_sum_o4_7 (a0 : Nat) (p1 : Int32)  : Nat → Int32 → zS → zS
  | 0, _, s => s
  | n + 1, x3, τ4 =>
    zLet ((400 : Int32)) fun v5 =>
    if v5.toInt < x3.toInt then
      τ4
    else
      zLet (τ4.1 a0 3) fun v7 =>
      zLet ((26 : Int32)) fun v8 =>
      zLet ((27 : Int32)) fun v9 =>
      zLet (F_X10_isWithin v7 v8 v9) fun v10 =>
      if v10.toInt = 0 then
        τ4
      else
        zLet (τ4.1 a0 3) fun v12 =>
        zLet (F_X3_take a0 v12 τ4) fun s13 =>
        zLet (F_X3_product_o4 a0 p1 s13) fun s14 =>
        zLet ((s14.2.2 a0 1).getD 0) fun v15 =>
        zLet ((26 : Int32)) fun v16 =>
        if v12.toInt = v16.toInt then
          zLet ((2 : Int32)) fun v22 =>
          zLet ((0 : Int32)) fun v23 =>
          zLet (F_X9_addStep v15 v22 v23 s14) fun s24 =>
          zLet (x3 + (1 : Int32)) fun v25 =>
          F_X3_sum_o4_7 a0 p1  n v25 s24
        else
          zLet ((3 : Int32)) fun v18 =>
          zLet ((0 : Int32)) fun v19 =>
          zLet (F_X9_addStep v15 v18 v19 s14) fun s20 =>
          zLet (x3 + (1 : Int32)) fun v21 =>
          F_X3_sum_o4_7 a0 p1  n v21 s20
set_option maxRecDepth 100000 in
noncomputable def F_X3_sum_o4 (a0 : Nat) (p1 : Int32) (σ : zS) : zS :=
  zLet (F_X3_product_o4 a0 p1 σ) fun s1 =>
  zLet ((0 : Int32)) fun v2 =>
  F_X3_sum_o4_7 a0 p1  10000 v2 s1
set_option maxRecDepth 100000 in
noncomputable def F_X3_unit_o3 (a0 : Nat) (p1 : Int32) (σ : zS) : zS :=
  zLet (σ.1 a0 3) fun v1 =>
  zLet ((23 : Int32)) fun v2 =>
  if v1.toInt = v2.toInt then
    zLet ((σ.2.2 a0 1).getD 0) fun v47 =>
    zLet ((0 : Int32)) fun v48 =>
    zLet (σ.2.1 a0 4) fun v49 =>
    zLet (v49.toInt32) fun v50 =>
    zLet (F_X9_addStep v47 v48 v50 σ) fun s51 =>
    zLet (s51.1 a0 3) fun v52 =>
    zLet (F_X3_take a0 v52 s51) fun s53 =>
    s53
  else
    zLet (σ.1 a0 3) fun v4 =>
    zLet ((13 : Int32)) fun v5 =>
    if v4.toInt < v5.toInt then
      zLet (σ.1 a0 3) fun v8 =>
      zLet ((31 : Int32)) fun v9 =>
      if v8.toInt = v9.toInt then
        σ
      else
        zLet (σ.1 a0 3) fun v11 =>
        zLet ((31 : Int32)) fun v12 =>
        if v11.toInt = v12.toInt then
          σ
        else
          zLet ((1 : Int32)) fun v14 =>
          zLet (F_X3_fail a0 v14 σ) fun s15 =>
          s15
    else
      zLet (σ.1 a0 3) fun v16 =>
      zLet ((22 : Int32)) fun v17 =>
      if v16.toInt < v17.toInt then
        zLet ((σ.2.2 a0 1).getD 0) fun v39 =>
        zLet ((1 : Int32)) fun v40 =>
        zLet (σ.1 a0 3) fun v41 =>
        zLet ((13 : Int32)) fun v42 =>
        zLet (v41 - v42) fun v43 =>
        zLet (F_X9_addStep v39 v40 v43 σ) fun s44 =>
        zLet (s44.1 a0 3) fun v45 =>
        zLet (F_X3_take a0 v45 s44) fun s46 =>
        s46
      else
        zLet (σ.1 a0 3) fun v20 =>
        zLet ((31 : Int32)) fun v21 =>
        if v20.toInt = v21.toInt then
          zLet ((6 : Int32)) fun v30 =>
          if p1.toInt < v30.toInt then
            zLet (σ.1 a0 3) fun v32 =>
            zLet (F_X3_take a0 v32 σ) fun s33 =>
            zLet ((1 : Int32)) fun v34 =>
            zLet (p1 + v34) fun v35 =>
            zLet (F_X3_sum_o4 a0 v35 s33) fun s36 =>
            zLet ((32 : Int32)) fun v37 =>
            zLet (F_X3_take a0 v37 s36) fun s38 =>
            s38
          else
            σ
        else
          zLet (σ.1 a0 3) fun v23 =>
          zLet ((31 : Int32)) fun v24 =>
          if v23.toInt = v24.toInt then
            zLet ((2 : Int32)) fun v28 =>
            zLet (F_X3_fail a0 v28 σ) fun s29 =>
            s29
          else
            zLet ((1 : Int32)) fun v26 =>
            zLet (F_X3_fail a0 v26 σ) fun s27 =>
            s27
set_option maxRecDepth 100000 in
noncomputable def F_X3_product_o3_7 (a0 : Nat) (p1 : Int32)  : Nat → Int32 → zS → zS
  | 0, _, s => s
  | n + 1, x3, τ4 =>
    zLet ((400 : Int32)) fun v5 =>
    if v5.toInt < x3.toInt then
      τ4
    else
      zLet (τ4.1 a0 3) fun v7 =>
      zLet ((28 : Int32)) fun v8 =>
      zLet ((29 : Int32)) fun v9 =>
      zLet (F_X10_isWithin v7 v8 v9) fun v10 =>
      if v10.toInt = 0 then
        τ4
      else
        zLet (τ4.1 a0 3) fun v12 =>
        zLet (F_X3_take a0 v12 τ4) fun s13 =>
        zLet (F_X3_unit_o3 a0 p1 s13) fun s14 =>
        zLet ((s14.2.2 a0 1).getD 0) fun v15 =>
        zLet ((28 : Int32)) fun v16 =>
        if v12.toInt = v16.toInt then
          zLet ((4 : Int32)) fun v22 =>
          zLet ((0 : Int32)) fun v23 =>
          zLet (F_X9_addStep v15 v22 v23 s14) fun s24 =>
          zLet (x3 + (1 : Int32)) fun v25 =>
          F_X3_product_o3_7 a0 p1  n v25 s24
        else
          zLet ((5 : Int32)) fun v18 =>
          zLet ((0 : Int32)) fun v19 =>
          zLet (F_X9_addStep v15 v18 v19 s14) fun s20 =>
          zLet (x3 + (1 : Int32)) fun v21 =>
          F_X3_product_o3_7 a0 p1  n v21 s20
set_option maxRecDepth 100000 in
noncomputable def F_X3_product_o3 (a0 : Nat) (p1 : Int32) (σ : zS) : zS :=
  zLet (F_X3_unit_o3 a0 p1 σ) fun s1 =>
  zLet ((0 : Int32)) fun v2 =>
  F_X3_product_o3_7 a0 p1  10000 v2 s1
set_option maxRecDepth 100000 in
noncomputable def F_X3_sum_o3_7 (a0 : Nat) (p1 : Int32)  : Nat → Int32 → zS → zS
  | 0, _, s => s
  | n + 1, x3, τ4 =>
    zLet ((400 : Int32)) fun v5 =>
    if v5.toInt < x3.toInt then
      τ4
    else
      zLet (τ4.1 a0 3) fun v7 =>
      zLet ((26 : Int32)) fun v8 =>
      zLet ((27 : Int32)) fun v9 =>
      zLet (F_X10_isWithin v7 v8 v9) fun v10 =>
      if v10.toInt = 0 then
        τ4
      else
        zLet (τ4.1 a0 3) fun v12 =>
        zLet (F_X3_take a0 v12 τ4) fun s13 =>
        zLet (F_X3_product_o3 a0 p1 s13) fun s14 =>
        zLet ((s14.2.2 a0 1).getD 0) fun v15 =>
        zLet ((26 : Int32)) fun v16 =>
        if v12.toInt = v16.toInt then
          zLet ((2 : Int32)) fun v22 =>
          zLet ((0 : Int32)) fun v23 =>
          zLet (F_X9_addStep v15 v22 v23 s14) fun s24 =>
          zLet (x3 + (1 : Int32)) fun v25 =>
          F_X3_sum_o3_7 a0 p1  n v25 s24
        else
          zLet ((3 : Int32)) fun v18 =>
          zLet ((0 : Int32)) fun v19 =>
          zLet (F_X9_addStep v15 v18 v19 s14) fun s20 =>
          zLet (x3 + (1 : Int32)) fun v21 =>
          F_X3_sum_o3_7 a0 p1  n v21 s20
set_option maxRecDepth 100000 in
noncomputable def F_X3_sum_o3 (a0 : Nat) (p1 : Int32) (σ : zS) : zS :=
  zLet (F_X3_product_o3 a0 p1 σ) fun s1 =>
  zLet ((0 : Int32)) fun v2 =>
  F_X3_sum_o3_7 a0 p1  10000 v2 s1
set_option maxRecDepth 100000 in
noncomputable def F_X3_unit_o2 (a0 : Nat) (p1 : Int32) (σ : zS) : zS :=
  zLet (σ.1 a0 3) fun v1 =>
  zLet ((23 : Int32)) fun v2 =>
  if v1.toInt = v2.toInt then
    zLet ((σ.2.2 a0 1).getD 0) fun v47 =>
    zLet ((0 : Int32)) fun v48 =>
    zLet (σ.2.1 a0 4) fun v49 =>
    zLet (v49.toInt32) fun v50 =>
    zLet (F_X9_addStep v47 v48 v50 σ) fun s51 =>
    zLet (s51.1 a0 3) fun v52 =>
    zLet (F_X3_take a0 v52 s51) fun s53 =>
    s53
  else
    zLet (σ.1 a0 3) fun v4 =>
    zLet ((13 : Int32)) fun v5 =>
    if v4.toInt < v5.toInt then
      zLet (σ.1 a0 3) fun v8 =>
      zLet ((31 : Int32)) fun v9 =>
      if v8.toInt = v9.toInt then
        σ
      else
        zLet (σ.1 a0 3) fun v11 =>
        zLet ((31 : Int32)) fun v12 =>
        if v11.toInt = v12.toInt then
          σ
        else
          zLet ((1 : Int32)) fun v14 =>
          zLet (F_X3_fail a0 v14 σ) fun s15 =>
          s15
    else
      zLet (σ.1 a0 3) fun v16 =>
      zLet ((22 : Int32)) fun v17 =>
      if v16.toInt < v17.toInt then
        zLet ((σ.2.2 a0 1).getD 0) fun v39 =>
        zLet ((1 : Int32)) fun v40 =>
        zLet (σ.1 a0 3) fun v41 =>
        zLet ((13 : Int32)) fun v42 =>
        zLet (v41 - v42) fun v43 =>
        zLet (F_X9_addStep v39 v40 v43 σ) fun s44 =>
        zLet (s44.1 a0 3) fun v45 =>
        zLet (F_X3_take a0 v45 s44) fun s46 =>
        s46
      else
        zLet (σ.1 a0 3) fun v20 =>
        zLet ((31 : Int32)) fun v21 =>
        if v20.toInt = v21.toInt then
          zLet ((6 : Int32)) fun v30 =>
          if p1.toInt < v30.toInt then
            zLet (σ.1 a0 3) fun v32 =>
            zLet (F_X3_take a0 v32 σ) fun s33 =>
            zLet ((1 : Int32)) fun v34 =>
            zLet (p1 + v34) fun v35 =>
            zLet (F_X3_sum_o3 a0 v35 s33) fun s36 =>
            zLet ((32 : Int32)) fun v37 =>
            zLet (F_X3_take a0 v37 s36) fun s38 =>
            s38
          else
            σ
        else
          zLet (σ.1 a0 3) fun v23 =>
          zLet ((31 : Int32)) fun v24 =>
          if v23.toInt = v24.toInt then
            zLet ((2 : Int32)) fun v28 =>
            zLet (F_X3_fail a0 v28 σ) fun s29 =>
            s29
          else
            zLet ((1 : Int32)) fun v26 =>
            zLet (F_X3_fail a0 v26 σ) fun s27 =>
            s27
set_option maxRecDepth 100000 in
noncomputable def F_X3_product_o2_7 (a0 : Nat) (p1 : Int32)  : Nat → Int32 → zS → zS
  | 0, _, s => s
  | n + 1, x3, τ4 =>
    zLet ((400 : Int32)) fun v5 =>
    if v5.toInt < x3.toInt then
      τ4
    else
      zLet (τ4.1 a0 3) fun v7 =>
      zLet ((28 : Int32)) fun v8 =>
      zLet ((29 : Int32)) fun v9 =>
      zLet (F_X10_isWithin v7 v8 v9) fun v10 =>
      if v10.toInt = 0 then
        τ4
      else
        zLet (τ4.1 a0 3) fun v12 =>
        zLet (F_X3_take a0 v12 τ4) fun s13 =>
        zLet (F_X3_unit_o2 a0 p1 s13) fun s14 =>
        zLet ((s14.2.2 a0 1).getD 0) fun v15 =>
        zLet ((28 : Int32)) fun v16 =>
        if v12.toInt = v16.toInt then
          zLet ((4 : Int32)) fun v22 =>
          zLet ((0 : Int32)) fun v23 =>
          zLet (F_X9_addStep v15 v22 v23 s14) fun s24 =>
          zLet (x3 + (1 : Int32)) fun v25 =>
          F_X3_product_o2_7 a0 p1  n v25 s24
        else
          zLet ((5 : Int32)) fun v18 =>
          zLet ((0 : Int32)) fun v19 =>
          zLet (F_X9_addStep v15 v18 v19 s14) fun s20 =>
          zLet (x3 + (1 : Int32)) fun v21 =>
          F_X3_product_o2_7 a0 p1  n v21 s20
set_option maxRecDepth 100000 in
noncomputable def F_X3_product_o2 (a0 : Nat) (p1 : Int32) (σ : zS) : zS :=
  zLet (F_X3_unit_o2 a0 p1 σ) fun s1 =>
  zLet ((0 : Int32)) fun v2 =>
  F_X3_product_o2_7 a0 p1  10000 v2 s1
set_option maxRecDepth 100000 in
noncomputable def F_X3_sum_o2_7 (a0 : Nat) (p1 : Int32)  : Nat → Int32 → zS → zS
  | 0, _, s => s
  | n + 1, x3, τ4 =>
    zLet ((400 : Int32)) fun v5 =>
    if v5.toInt < x3.toInt then
      τ4
    else
      zLet (τ4.1 a0 3) fun v7 =>
      zLet ((26 : Int32)) fun v8 =>
      zLet ((27 : Int32)) fun v9 =>
      zLet (F_X10_isWithin v7 v8 v9) fun v10 =>
      if v10.toInt = 0 then
        τ4
      else
        zLet (τ4.1 a0 3) fun v12 =>
        zLet (F_X3_take a0 v12 τ4) fun s13 =>
        zLet (F_X3_product_o2 a0 p1 s13) fun s14 =>
        zLet ((s14.2.2 a0 1).getD 0) fun v15 =>
        zLet ((26 : Int32)) fun v16 =>
        if v12.toInt = v16.toInt then
          zLet ((2 : Int32)) fun v22 =>
          zLet ((0 : Int32)) fun v23 =>
          zLet (F_X9_addStep v15 v22 v23 s14) fun s24 =>
          zLet (x3 + (1 : Int32)) fun v25 =>
          F_X3_sum_o2_7 a0 p1  n v25 s24
        else
          zLet ((3 : Int32)) fun v18 =>
          zLet ((0 : Int32)) fun v19 =>
          zLet (F_X9_addStep v15 v18 v19 s14) fun s20 =>
          zLet (x3 + (1 : Int32)) fun v21 =>
          F_X3_sum_o2_7 a0 p1  n v21 s20
set_option maxRecDepth 100000 in
noncomputable def F_X3_sum_o2 (a0 : Nat) (p1 : Int32) (σ : zS) : zS :=
  zLet (F_X3_product_o2 a0 p1 σ) fun s1 =>
  zLet ((0 : Int32)) fun v2 =>
  F_X3_sum_o2_7 a0 p1  10000 v2 s1
set_option maxRecDepth 100000 in
noncomputable def F_X3_unit_o1 (a0 : Nat) (p1 : Int32) (σ : zS) : zS :=
  zLet (σ.1 a0 3) fun v1 =>
  zLet ((23 : Int32)) fun v2 =>
  if v1.toInt = v2.toInt then
    zLet ((σ.2.2 a0 1).getD 0) fun v47 =>
    zLet ((0 : Int32)) fun v48 =>
    zLet (σ.2.1 a0 4) fun v49 =>
    zLet (v49.toInt32) fun v50 =>
    zLet (F_X9_addStep v47 v48 v50 σ) fun s51 =>
    zLet (s51.1 a0 3) fun v52 =>
    zLet (F_X3_take a0 v52 s51) fun s53 =>
    s53
  else
    zLet (σ.1 a0 3) fun v4 =>
    zLet ((13 : Int32)) fun v5 =>
    if v4.toInt < v5.toInt then
      zLet (σ.1 a0 3) fun v8 =>
      zLet ((31 : Int32)) fun v9 =>
      if v8.toInt = v9.toInt then
        σ
      else
        zLet (σ.1 a0 3) fun v11 =>
        zLet ((31 : Int32)) fun v12 =>
        if v11.toInt = v12.toInt then
          σ
        else
          zLet ((1 : Int32)) fun v14 =>
          zLet (F_X3_fail a0 v14 σ) fun s15 =>
          s15
    else
      zLet (σ.1 a0 3) fun v16 =>
      zLet ((22 : Int32)) fun v17 =>
      if v16.toInt < v17.toInt then
        zLet ((σ.2.2 a0 1).getD 0) fun v39 =>
        zLet ((1 : Int32)) fun v40 =>
        zLet (σ.1 a0 3) fun v41 =>
        zLet ((13 : Int32)) fun v42 =>
        zLet (v41 - v42) fun v43 =>
        zLet (F_X9_addStep v39 v40 v43 σ) fun s44 =>
        zLet (s44.1 a0 3) fun v45 =>
        zLet (F_X3_take a0 v45 s44) fun s46 =>
        s46
      else
        zLet (σ.1 a0 3) fun v20 =>
        zLet ((31 : Int32)) fun v21 =>
        if v20.toInt = v21.toInt then
          zLet ((6 : Int32)) fun v30 =>
          if p1.toInt < v30.toInt then
            zLet (σ.1 a0 3) fun v32 =>
            zLet (F_X3_take a0 v32 σ) fun s33 =>
            zLet ((1 : Int32)) fun v34 =>
            zLet (p1 + v34) fun v35 =>
            zLet (F_X3_sum_o2 a0 v35 s33) fun s36 =>
            zLet ((32 : Int32)) fun v37 =>
            zLet (F_X3_take a0 v37 s36) fun s38 =>
            s38
          else
            σ
        else
          zLet (σ.1 a0 3) fun v23 =>
          zLet ((31 : Int32)) fun v24 =>
          if v23.toInt = v24.toInt then
            zLet ((2 : Int32)) fun v28 =>
            zLet (F_X3_fail a0 v28 σ) fun s29 =>
            s29
          else
            zLet ((1 : Int32)) fun v26 =>
            zLet (F_X3_fail a0 v26 σ) fun s27 =>
            s27
set_option maxRecDepth 100000 in
noncomputable def F_X3_product_o1_7 (a0 : Nat) (p1 : Int32)  : Nat → Int32 → zS → zS
  | 0, _, s => s
  | n + 1, x3, τ4 =>
    zLet ((400 : Int32)) fun v5 =>
    if v5.toInt < x3.toInt then
      τ4
    else
      zLet (τ4.1 a0 3) fun v7 =>
      zLet ((28 : Int32)) fun v8 =>
      zLet ((29 : Int32)) fun v9 =>
      zLet (F_X10_isWithin v7 v8 v9) fun v10 =>
      if v10.toInt = 0 then
        τ4
      else
        zLet (τ4.1 a0 3) fun v12 =>
        zLet (F_X3_take a0 v12 τ4) fun s13 =>
        zLet (F_X3_unit_o1 a0 p1 s13) fun s14 =>
        zLet ((s14.2.2 a0 1).getD 0) fun v15 =>
        zLet ((28 : Int32)) fun v16 =>
        if v12.toInt = v16.toInt then
          zLet ((4 : Int32)) fun v22 =>
          zLet ((0 : Int32)) fun v23 =>
          zLet (F_X9_addStep v15 v22 v23 s14) fun s24 =>
          zLet (x3 + (1 : Int32)) fun v25 =>
          F_X3_product_o1_7 a0 p1  n v25 s24
        else
          zLet ((5 : Int32)) fun v18 =>
          zLet ((0 : Int32)) fun v19 =>
          zLet (F_X9_addStep v15 v18 v19 s14) fun s20 =>
          zLet (x3 + (1 : Int32)) fun v21 =>
          F_X3_product_o1_7 a0 p1  n v21 s20
set_option maxRecDepth 100000 in
noncomputable def F_X3_product_o1 (a0 : Nat) (p1 : Int32) (σ : zS) : zS :=
  zLet (F_X3_unit_o1 a0 p1 σ) fun s1 =>
  zLet ((0 : Int32)) fun v2 =>
  F_X3_product_o1_7 a0 p1  10000 v2 s1
set_option maxRecDepth 100000 in
noncomputable def F_X3_sum_o1_7 (a0 : Nat) (p1 : Int32)  : Nat → Int32 → zS → zS
  | 0, _, s => s
  | n + 1, x3, τ4 =>
    zLet ((400 : Int32)) fun v5 =>
    if v5.toInt < x3.toInt then
      τ4
    else
      zLet (τ4.1 a0 3) fun v7 =>
      zLet ((26 : Int32)) fun v8 =>
      zLet ((27 : Int32)) fun v9 =>
      zLet (F_X10_isWithin v7 v8 v9) fun v10 =>
      if v10.toInt = 0 then
        τ4
      else
        zLet (τ4.1 a0 3) fun v12 =>
        zLet (F_X3_take a0 v12 τ4) fun s13 =>
        zLet (F_X3_product_o1 a0 p1 s13) fun s14 =>
        zLet ((s14.2.2 a0 1).getD 0) fun v15 =>
        zLet ((26 : Int32)) fun v16 =>
        if v12.toInt = v16.toInt then
          zLet ((2 : Int32)) fun v22 =>
          zLet ((0 : Int32)) fun v23 =>
          zLet (F_X9_addStep v15 v22 v23 s14) fun s24 =>
          zLet (x3 + (1 : Int32)) fun v25 =>
          F_X3_sum_o1_7 a0 p1  n v25 s24
        else
          zLet ((3 : Int32)) fun v18 =>
          zLet ((0 : Int32)) fun v19 =>
          zLet (F_X9_addStep v15 v18 v19 s14) fun s20 =>
          zLet (x3 + (1 : Int32)) fun v21 =>
          F_X3_sum_o1_7 a0 p1  n v21 s20
set_option maxRecDepth 100000 in
noncomputable def F_X3_sum_o1 (a0 : Nat) (p1 : Int32) (σ : zS) : zS :=
  zLet (F_X3_product_o1 a0 p1 σ) fun s1 =>
  zLet ((0 : Int32)) fun v2 =>
  F_X3_sum_o1_7 a0 p1  10000 v2 s1
set_option maxRecDepth 100000 in
noncomputable def F_X3_unit_o0 (a0 : Nat) (p1 : Int32) (σ : zS) : zS :=
  zLet (σ.1 a0 3) fun v1 =>
  zLet ((23 : Int32)) fun v2 =>
  if v1.toInt = v2.toInt then
    zLet ((σ.2.2 a0 1).getD 0) fun v47 =>
    zLet ((0 : Int32)) fun v48 =>
    zLet (σ.2.1 a0 4) fun v49 =>
    zLet (v49.toInt32) fun v50 =>
    zLet (F_X9_addStep v47 v48 v50 σ) fun s51 =>
    zLet (s51.1 a0 3) fun v52 =>
    zLet (F_X3_take a0 v52 s51) fun s53 =>
    s53
  else
    zLet (σ.1 a0 3) fun v4 =>
    zLet ((13 : Int32)) fun v5 =>
    if v4.toInt < v5.toInt then
      zLet (σ.1 a0 3) fun v8 =>
      zLet ((31 : Int32)) fun v9 =>
      if v8.toInt = v9.toInt then
        σ
      else
        zLet (σ.1 a0 3) fun v11 =>
        zLet ((31 : Int32)) fun v12 =>
        if v11.toInt = v12.toInt then
          σ
        else
          zLet ((1 : Int32)) fun v14 =>
          zLet (F_X3_fail a0 v14 σ) fun s15 =>
          s15
    else
      zLet (σ.1 a0 3) fun v16 =>
      zLet ((22 : Int32)) fun v17 =>
      if v16.toInt < v17.toInt then
        zLet ((σ.2.2 a0 1).getD 0) fun v39 =>
        zLet ((1 : Int32)) fun v40 =>
        zLet (σ.1 a0 3) fun v41 =>
        zLet ((13 : Int32)) fun v42 =>
        zLet (v41 - v42) fun v43 =>
        zLet (F_X9_addStep v39 v40 v43 σ) fun s44 =>
        zLet (s44.1 a0 3) fun v45 =>
        zLet (F_X3_take a0 v45 s44) fun s46 =>
        s46
      else
        zLet (σ.1 a0 3) fun v20 =>
        zLet ((31 : Int32)) fun v21 =>
        if v20.toInt = v21.toInt then
          zLet ((6 : Int32)) fun v30 =>
          if p1.toInt < v30.toInt then
            zLet (σ.1 a0 3) fun v32 =>
            zLet (F_X3_take a0 v32 σ) fun s33 =>
            zLet ((1 : Int32)) fun v34 =>
            zLet (p1 + v34) fun v35 =>
            zLet (F_X3_sum_o1 a0 v35 s33) fun s36 =>
            zLet ((32 : Int32)) fun v37 =>
            zLet (F_X3_take a0 v37 s36) fun s38 =>
            s38
          else
            σ
        else
          zLet (σ.1 a0 3) fun v23 =>
          zLet ((31 : Int32)) fun v24 =>
          if v23.toInt = v24.toInt then
            zLet ((2 : Int32)) fun v28 =>
            zLet (F_X3_fail a0 v28 σ) fun s29 =>
            s29
          else
            zLet ((1 : Int32)) fun v26 =>
            zLet (F_X3_fail a0 v26 σ) fun s27 =>
            s27
set_option maxRecDepth 100000 in
noncomputable def F_X3_product_o0_7 (a0 : Nat) (p1 : Int32)  : Nat → Int32 → zS → zS
  | 0, _, s => s
  | n + 1, x3, τ4 =>
    zLet ((400 : Int32)) fun v5 =>
    if v5.toInt < x3.toInt then
      τ4
    else
      zLet (τ4.1 a0 3) fun v7 =>
      zLet ((28 : Int32)) fun v8 =>
      zLet ((29 : Int32)) fun v9 =>
      zLet (F_X10_isWithin v7 v8 v9) fun v10 =>
      if v10.toInt = 0 then
        τ4
      else
        zLet (τ4.1 a0 3) fun v12 =>
        zLet (F_X3_take a0 v12 τ4) fun s13 =>
        zLet (F_X3_unit_o0 a0 p1 s13) fun s14 =>
        zLet ((s14.2.2 a0 1).getD 0) fun v15 =>
        zLet ((28 : Int32)) fun v16 =>
        if v12.toInt = v16.toInt then
          zLet ((4 : Int32)) fun v22 =>
          zLet ((0 : Int32)) fun v23 =>
          zLet (F_X9_addStep v15 v22 v23 s14) fun s24 =>
          zLet (x3 + (1 : Int32)) fun v25 =>
          F_X3_product_o0_7 a0 p1  n v25 s24
        else
          zLet ((5 : Int32)) fun v18 =>
          zLet ((0 : Int32)) fun v19 =>
          zLet (F_X9_addStep v15 v18 v19 s14) fun s20 =>
          zLet (x3 + (1 : Int32)) fun v21 =>
          F_X3_product_o0_7 a0 p1  n v21 s20
set_option maxRecDepth 100000 in
noncomputable def F_X3_product_o0 (a0 : Nat) (p1 : Int32) (σ : zS) : zS :=
  zLet (F_X3_unit_o0 a0 p1 σ) fun s1 =>
  zLet ((0 : Int32)) fun v2 =>
  F_X3_product_o0_7 a0 p1  10000 v2 s1
set_option maxRecDepth 100000 in
noncomputable def F_X3_sum_o0_7 (a0 : Nat) (p1 : Int32)  : Nat → Int32 → zS → zS
  | 0, _, s => s
  | n + 1, x3, τ4 =>
    zLet ((400 : Int32)) fun v5 =>
    if v5.toInt < x3.toInt then
      τ4
    else
      zLet (τ4.1 a0 3) fun v7 =>
      zLet ((26 : Int32)) fun v8 =>
      zLet ((27 : Int32)) fun v9 =>
      zLet (F_X10_isWithin v7 v8 v9) fun v10 =>
      if v10.toInt = 0 then
        τ4
      else
        zLet (τ4.1 a0 3) fun v12 =>
        zLet (F_X3_take a0 v12 τ4) fun s13 =>
        zLet (F_X3_product_o0 a0 p1 s13) fun s14 =>
        zLet ((s14.2.2 a0 1).getD 0) fun v15 =>
        zLet ((26 : Int32)) fun v16 =>
        if v12.toInt = v16.toInt then
          zLet ((2 : Int32)) fun v22 =>
          zLet ((0 : Int32)) fun v23 =>
          zLet (F_X9_addStep v15 v22 v23 s14) fun s24 =>
          zLet (x3 + (1 : Int32)) fun v25 =>
          F_X3_sum_o0_7 a0 p1  n v25 s24
        else
          zLet ((3 : Int32)) fun v18 =>
          zLet ((0 : Int32)) fun v19 =>
          zLet (F_X9_addStep v15 v18 v19 s14) fun s20 =>
          zLet (x3 + (1 : Int32)) fun v21 =>
          F_X3_sum_o0_7 a0 p1  n v21 s20
set_option maxRecDepth 100000 in
noncomputable def F_X3_sum_o0 (a0 : Nat) (p1 : Int32) (σ : zS) : zS :=
  zLet (F_X3_product_o0 a0 p1 σ) fun s1 =>
  zLet ((0 : Int32)) fun v2 =>
  F_X3_sum_o0_7 a0 p1  10000 v2 s1
set_option maxRecDepth 100000 in
noncomputable def F_X3_law_23 (v7 : Int32) (a0 : Nat) (p1 : Int32)  : Nat → Int32 → zS → zS
  | 0, _, s => s
  | n + 1, x9, τ10 =>
    zLet ((4 : Int32)) fun v11 =>
    if v11.toInt < x9.toInt then
      zLet ((0 : Int32)) fun v13 =>
      zLet (F_X3_sum_o0 a0 v13 τ10) fun s14 =>
      zLet ((s14.2.2 a0 1).getD 0) fun v15 =>
      zLet ((7 : Int32)) fun v16 =>
      zLet ((0 : Int32)) fun v17 =>
      zLet (F_X9_addStep v15 v16 v17 s14) fun s18 =>
      zLet ((s18.2.2 a0 1).getD 0) fun v19 =>
      zLet ((s18.2.2 v19 9).getD 0) fun v20 =>
      zLet ((zu s18.1 v20 p1.toNatClampNeg v7, s18.2.1, s18.2.2)) fun s21 =>
      s21
    else
      zLet (τ10.1 a0 3) fun v22 =>
      zLet ((10 : Int32)) fun v23 =>
      if v22.toInt = v23.toInt then
        zLet ((4 : Int32)) fun v34 =>
        if x9.toInt = v34.toInt then
          zLet ((2 : Int32)) fun v65 =>
          zLet (F_X3_fail a0 v65 τ10) fun s66 =>
          zLet ((10 : Int32)) fun v67 =>
          zLet (F_X3_take a0 v67 s66) fun s68 =>
          zLet ((0 : Int32)) fun v69 =>
          zLet (F_X3_sum_o0 a0 v69 s68) fun s70 =>
          zLet ((30 : Int32)) fun v71 =>
          zLet (F_X3_take a0 v71 s70) fun s72 =>
          zLet ((0 : Int32)) fun v73 =>
          zLet (F_X3_sum_o0 a0 v73 s72) fun s74 =>
          zLet ((11 : Int32)) fun v75 =>
          zLet (F_X3_take a0 v75 s74) fun s76 =>
          zLet ((s76.2.2 a0 1).getD 0) fun v77 =>
          zLet (s76.1 v77 8) fun v78 =>
          zLet ((s76.2.2 a0 1).getD 0) fun v79 =>
          zLet ((6 : Int32)) fun v80 =>
          zLet ((0 : Int32)) fun v81 =>
          zLet (F_X9_addStep v79 v80 v81 s76) fun s82 =>
          zLet ((0 : Int32)) fun v83 =>
          zLet (F_X3_sum_o0 a0 v83 s82) fun s84 =>
          zLet ((12 : Int32)) fun v85 =>
          zLet (F_X3_take a0 v85 s84) fun s86 =>
          zLet ((s86.2.2 a0 1).getD 0) fun v87 =>
          zLet ((7 : Int32)) fun v88 =>
          zLet ((0 : Int32)) fun v89 =>
          zLet (F_X9_addStep v87 v88 v89 s86) fun s90 =>
          zLet ((s90.2.2 a0 1).getD 0) fun v91 =>
          zLet ((s90.2.2 a0 1).getD 0) fun v92 =>
          zLet (s90.1 v92 8) fun v93 =>
          zLet (F_X9_setValue v91 v78 v93 s90) fun s94 =>
          zLet (x9 + (1 : Int32)) fun v95 =>
          F_X3_law_23 v7 a0 p1  n v95 s94
        else
          zLet ((10 : Int32)) fun v36 =>
          zLet (F_X3_take a0 v36 τ10) fun s37 =>
          zLet ((0 : Int32)) fun v38 =>
          zLet (F_X3_sum_o0 a0 v38 s37) fun s39 =>
          zLet ((30 : Int32)) fun v40 =>
          zLet (F_X3_take a0 v40 s39) fun s41 =>
          zLet ((0 : Int32)) fun v42 =>
          zLet (F_X3_sum_o0 a0 v42 s41) fun s43 =>
          zLet ((11 : Int32)) fun v44 =>
          zLet (F_X3_take a0 v44 s43) fun s45 =>
          zLet ((s45.2.2 a0 1).getD 0) fun v46 =>
          zLet (s45.1 v46 8) fun v47 =>
          zLet ((s45.2.2 a0 1).getD 0) fun v48 =>
          zLet ((6 : Int32)) fun v49 =>
          zLet ((0 : Int32)) fun v50 =>
          zLet (F_X9_addStep v48 v49 v50 s45) fun s51 =>
          zLet ((0 : Int32)) fun v52 =>
          zLet (F_X3_sum_o0 a0 v52 s51) fun s53 =>
          zLet ((12 : Int32)) fun v54 =>
          zLet (F_X3_take a0 v54 s53) fun s55 =>
          zLet ((s55.2.2 a0 1).getD 0) fun v56 =>
          zLet ((7 : Int32)) fun v57 =>
          zLet ((0 : Int32)) fun v58 =>
          zLet (F_X9_addStep v56 v57 v58 s55) fun s59 =>
          zLet ((s59.2.2 a0 1).getD 0) fun v60 =>
          zLet ((s59.2.2 a0 1).getD 0) fun v61 =>
          zLet (s59.1 v61 8) fun v62 =>
          zLet (F_X9_setValue v60 v47 v62 s59) fun s63 =>
          zLet (x9 + (1 : Int32)) fun v64 =>
          F_X3_law_23 v7 a0 p1  n v64 s63
      else
        zLet ((0 : Int32)) fun v25 =>
        zLet (F_X3_sum_o0 a0 v25 τ10) fun s26 =>
        zLet ((s26.2.2 a0 1).getD 0) fun v27 =>
        zLet ((7 : Int32)) fun v28 =>
        zLet ((0 : Int32)) fun v29 =>
        zLet (F_X9_addStep v27 v28 v29 s26) fun s30 =>
        zLet ((s30.2.2 a0 1).getD 0) fun v31 =>
        zLet ((s30.2.2 v31 9).getD 0) fun v32 =>
        zLet ((zu s30.1 v32 p1.toNatClampNeg v7, s30.2.1, s30.2.2)) fun s33 =>
        s33
set_option maxRecDepth 100000 in
noncomputable def F_X3_law (a0 : Nat) (p1 : Int32) (σ : zS) : zS :=
  zLet ((2 : Int32)) fun v1 =>
  zLet (v1 + p1) fun v2 =>
  zLet (F_X3_take a0 v2 σ) fun s3 =>
  zLet ((25 : Int32)) fun v4 =>
  zLet (F_X3_take a0 v4 s3) fun s5 =>
  zLet ((s5.2.2 a0 1).getD 0) fun v6 =>
  zLet (s5.1 v6 8) fun v7 =>
  zLet ((0 : Int32)) fun v8 =>
  F_X3_law_23 v7 a0 p1  10000 v8 s5
set_option maxRecDepth 100000 in
noncomputable def F_X3_telling (a0 : Nat) (σ : zS) : zS :=
  zLet (σ.1 a0 3) fun v1 =>
  if v1.toInt = 0 then
    zLet (F_X3_mouth a0 σ) fun s69 =>
    zLet ((24 : Int32)) fun v70 =>
    zLet (F_X3_take a0 v70 s69) fun s71 =>
    s71
  else
    zLet (σ.1 a0 3) fun v3 =>
    zLet ((1 : Int32)) fun v4 =>
    if v3.toInt = v4.toInt then
      zLet (F_X3_newPlace a0 σ) fun s66 =>
      zLet ((24 : Int32)) fun v67 =>
      zLet (F_X3_take a0 v67 s66) fun s68 =>
      s68
    else
      zLet (σ.1 a0 3) fun v6 =>
      zLet ((2 : Int32)) fun v7 =>
      zLet ((6 : Int32)) fun v8 =>
      zLet (F_X10_isWithin v6 v7 v8) fun v9 =>
      if v9.toInt = 0 then
        zLet (σ.1 a0 3) fun v11 =>
        zLet ((7 : Int32)) fun v12 =>
        if v11.toInt = v12.toInt then
          zLet (σ.1 a0 3) fun v44 =>
          zLet (F_X3_take a0 v44 σ) fun s45 =>
          zLet ((s45.2.2 a0 1).getD 0) fun v46 =>
          zLet ((0 : Int32)) fun v47 =>
          zLet ((100 : Int32)) fun v48 =>
          zLet2 (F_X3_number a0 v47 v48 s45) fun v49 s50 =>
          zLet ((zu s50.1 v46 10 v49, s50.2.1, s50.2.2)) fun s51 =>
          zLet ((s51.2.2 a0 1).getD 0) fun v52 =>
          zLet ((0 : Int32)) fun v53 =>
          zLet ((99 : Int32)) fun v54 =>
          zLet2 (F_X3_number a0 v53 v54 s51) fun v55 s56 =>
          zLet ((zu s56.1 v52 11 v55, s56.2.1, s56.2.2)) fun s57 =>
          zLet ((24 : Int32)) fun v58 =>
          zLet (F_X3_take a0 v58 s57) fun s59 =>
          s59
        else
          zLet (σ.1 a0 3) fun v14 =>
          zLet ((8 : Int32)) fun v15 =>
          if v14.toInt = v15.toInt then
            zLet (σ.1 a0 3) fun v34 =>
            zLet (F_X3_take a0 v34 σ) fun s35 =>
            zLet ((s35.2.2 a0 1).getD 0) fun v36 =>
            zLet ((0 : Int32)) fun v37 =>
            zLet ((99 : Int32)) fun v38 =>
            zLet2 (F_X3_number a0 v37 v38 s35) fun v39 s40 =>
            zLet ((zu s40.1 v36 12 v39, s40.2.1, s40.2.2)) fun s41 =>
            zLet ((24 : Int32)) fun v42 =>
            zLet (F_X3_take a0 v42 s41) fun s43 =>
            s43
          else
            zLet (σ.1 a0 3) fun v17 =>
            zLet ((9 : Int32)) fun v18 =>
            if v17.toInt = v18.toInt then
              zLet (σ.1 a0 3) fun v24 =>
              zLet (F_X3_take a0 v24 σ) fun s25 =>
              zLet ((s25.2.2 a0 1).getD 0) fun v26 =>
              zLet ((0 : Int32)) fun v27 =>
              zLet ((9999 : Int32)) fun v28 =>
              zLet2 (F_X3_number a0 v27 v28 s25) fun v29 s30 =>
              zLet ((zu s30.1 v26 13 v29, s30.2.1, s30.2.2)) fun s31 =>
              zLet ((24 : Int32)) fun v32 =>
              zLet (F_X3_take a0 v32 s31) fun s33 =>
              s33
            else
              zLet ((1 : Int32)) fun v20 =>
              zLet (F_X3_fail a0 v20 σ) fun s21 =>
              zLet ((24 : Int32)) fun v22 =>
              zLet (F_X3_take a0 v22 s21) fun s23 =>
              s23
      else
        zLet (σ.1 a0 3) fun v60 =>
        zLet ((2 : Int32)) fun v61 =>
        zLet (v60 - v61) fun v62 =>
        zLet (F_X3_law a0 v62 σ) fun s63 =>
        zLet ((24 : Int32)) fun v64 =>
        zLet (F_X3_take a0 v64 s63) fun s65 =>
        s65
set_option maxRecDepth 100000 in
noncomputable def F_X3_parse_59 (a0 : Nat) (p1 : Nat) (p2 : Int32) (p3 : Nat)  : Nat → Int32 → zS → Int32 × zS
  | 0, _, s => (0, s)
  | n + 1, x25, τ26 =>
    zLet ((400 : Int32)) fun v27 =>
    if v27.toInt < x25.toInt then
      zLet (τ26.1 a0 8) fun v29 =>
      if v29.toInt = 0 then
        zLet (τ26.1 a0 10) fun v44 =>
        zLet ((zu τ26.1 a0 8 v44, τ26.2.1, τ26.2.2)) fun s45 =>
        zLet (s45.1 a0 11) fun v48 =>
        zLet ((zu s45.1 a0 9 v48, s45.2.1, s45.2.2)) fun s49 =>
        zLet ((s49.2.2 a0 1).getD 0) fun v51 =>
        zLet (s49.1 a0 6) fun v52 =>
        if v52.toInt = 0 then
          zLet ((0 : Int32)) fun v54 =>
          zLet ((zu s49.1 v51 0 v54, s49.2.1, s49.2.2)) fun s55 =>
          zLet (s55.1 a0 8) fun v57 =>
          (v57, s55)
        else
          zLet ((1 : Int32)) fun v58 =>
          zLet (s49.1 a0 7) fun v59 =>
          zLet (v58 + v59) fun v60 =>
          zLet ((zu s49.1 v51 0 v60, s49.2.1, s49.2.2)) fun s61 =>
          zLet (s61.1 a0 8) fun v63 =>
          (v63, s61)
      else
        zLet ((τ26.2.2 a0 1).getD 0) fun v31 =>
        zLet (τ26.1 a0 6) fun v32 =>
        if v32.toInt = 0 then
          zLet ((0 : Int32)) fun v34 =>
          zLet ((zu τ26.1 v31 0 v34, τ26.2.1, τ26.2.2)) fun s35 =>
          zLet (s35.1 a0 8) fun v37 =>
          (v37, s35)
        else
          zLet ((1 : Int32)) fun v38 =>
          zLet (τ26.1 a0 7) fun v39 =>
          zLet (v38 + v39) fun v40 =>
          zLet ((zu τ26.1 v31 0 v40, τ26.2.1, τ26.2.2)) fun s41 =>
          zLet (s41.1 a0 8) fun v43 =>
          (v43, s41)
    else
      zLet (τ26.1 a0 8) fun v64 =>
      if v64.toInt = 0 then
        zLet (τ26.1 a0 3) fun v101 =>
        zLet ((33 : Int32)) fun v102 =>
        if v101.toInt = v102.toInt then
          zLet (τ26.1 a0 8) fun v104 =>
          if v104.toInt = 0 then
            zLet (τ26.1 a0 10) fun v106 =>
            zLet ((zu τ26.1 a0 8 v106, τ26.2.1, τ26.2.2)) fun s107 =>
            zLet (s107.1 a0 11) fun v110 =>
            zLet ((zu s107.1 a0 9 v110, s107.2.1, s107.2.2)) fun s111 =>
            zLet ((s111.2.2 a0 1).getD 0) fun v113 =>
            zLet (s111.1 a0 6) fun v114 =>
            if v114.toInt = 0 then
              zLet ((0 : Int32)) fun v116 =>
              zLet ((zu s111.1 v113 0 v116, s111.2.1, s111.2.2)) fun s117 =>
              zLet (s117.1 a0 8) fun v119 =>
              (v119, s117)
            else
              zLet ((1 : Int32)) fun v120 =>
              zLet (s111.1 a0 7) fun v121 =>
              zLet (v120 + v121) fun v122 =>
              zLet ((zu s111.1 v113 0 v122, s111.2.1, s111.2.2)) fun s123 =>
              zLet (s123.1 a0 8) fun v125 =>
              (v125, s123)
          else
            (0, τ26)
        else
          zLet (F_X3_telling a0 τ26) fun s126 =>
          zLet (x25 + (1 : Int32)) fun v127 =>
          F_X3_parse_59 a0 p1 p2 p3  n v127 s126
      else
        zLet (τ26.1 a0 8) fun v66 =>
        if v66.toInt = 0 then
          zLet (τ26.1 a0 10) fun v81 =>
          zLet ((zu τ26.1 a0 8 v81, τ26.2.1, τ26.2.2)) fun s82 =>
          zLet (s82.1 a0 11) fun v85 =>
          zLet ((zu s82.1 a0 9 v85, s82.2.1, s82.2.2)) fun s86 =>
          zLet ((s86.2.2 a0 1).getD 0) fun v88 =>
          zLet (s86.1 a0 6) fun v89 =>
          if v89.toInt = 0 then
            zLet ((0 : Int32)) fun v91 =>
            zLet ((zu s86.1 v88 0 v91, s86.2.1, s86.2.2)) fun s92 =>
            zLet (s92.1 a0 8) fun v94 =>
            (v94, s92)
          else
            zLet ((1 : Int32)) fun v95 =>
            zLet (s86.1 a0 7) fun v96 =>
            zLet (v95 + v96) fun v97 =>
            zLet ((zu s86.1 v88 0 v97, s86.2.1, s86.2.2)) fun s98 =>
            zLet (s98.1 a0 8) fun v100 =>
            (v100, s98)
        else
          zLet ((τ26.2.2 a0 1).getD 0) fun v68 =>
          zLet (τ26.1 a0 6) fun v69 =>
          if v69.toInt = 0 then
            zLet ((0 : Int32)) fun v71 =>
            zLet ((zu τ26.1 v68 0 v71, τ26.2.1, τ26.2.2)) fun s72 =>
            zLet (s72.1 a0 8) fun v74 =>
            (v74, s72)
          else
            zLet ((1 : Int32)) fun v75 =>
            zLet (τ26.1 a0 7) fun v76 =>
            zLet (v75 + v76) fun v77 =>
            zLet ((zu τ26.1 v68 0 v77, τ26.2.1, τ26.2.2)) fun s78 =>
            zLet (s78.1 a0 8) fun v80 =>
            (v80, s78)
set_option maxRecDepth 100000 in
noncomputable def F_X3_parse (a0 : Nat) (p1 : Nat) (p2 : Int32) (p3 : Nat) (σ : zS) : Int32 × zS :=
  zLet ((σ.2.2 a0 0).getD 0) fun v1 =>
  zLet (F_X8_scan v1 p1 p2 σ) fun s2 =>
  zLet ((s2.1, s2.2.1, zu s2.2.2 a0 1 (some p3))) fun s3 =>
  zLet ((s3.2.2 a0 1).getD 0) fun v4 =>
  zLet (F_X9_clear v4 s3) fun s5 =>
  zLet ((0 : Int32)) fun v6 =>
  zLet ((zu s5.1 a0 6 v6, s5.2.1, s5.2.2)) fun s7 =>
  zLet ((0 : Int32)) fun v8 =>
  zLet ((zu s7.1 a0 7 v8, s7.2.1, s7.2.2)) fun s9 =>
  zLet ((0 : Int32)) fun v10 =>
  zLet ((zu s9.1 a0 8 v10, s9.2.1, s9.2.2)) fun s11 =>
  zLet ((-1 : Int32)) fun v13 =>
  zLet ((zu s11.1 a0 9 v13, s11.2.1, s11.2.2)) fun s14 =>
  zLet ((0 : Int32)) fun v16 =>
  zLet ((zu s14.1 a0 10 v16, s14.2.1, s14.2.2)) fun s17 =>
  zLet ((-1 : Int32)) fun v19 =>
  zLet ((zu s17.1 a0 11 v19, s17.2.1, s17.2.2)) fun s20 =>
  zLet ((0 : Int32)) fun v22 =>
  zLet (F_X3_goTo a0 v22 s20) fun s23 =>
  zLet ((0 : Int32)) fun v24 =>
  F_X3_parse_59 a0 p1 p2 p3  10000 v24 s23
set_option maxRecDepth 100000 in
noncomputable def F_X10_read (a0 : Nat) (σ : zS) : Int32 × zS :=
  zLet ((σ.2.2 a0 1).getD 0) fun v1 =>
  zLet ((σ.2.2 a0 0).getD 0) fun v2 =>
  zLet ((σ.2.2 v2 0).getD 0) fun v3 =>
  zLet ((σ.2.2 a0 0).getD 0) fun v4 =>
  zLet (σ.1 v4 1) fun v5 =>
  zLet ((σ.2.2 a0 11).getD 0) fun v6 =>
  zLet2 (F_X3_parse v1 v3 v5 v6 σ) fun v7 s8 =>
  zLet ((s8.2.2 a0 1).getD 0) fun v9 =>
  zLet (s8.1 v9 9) fun v10 =>
  zLet ((zu s8.1 a0 13 v10, s8.2.1, s8.2.2)) fun s11 =>
  zLet ((s11.2.2 a0 0).getD 0) fun v12 =>
  zLet ((0 : Int32)) fun v13 =>
  zLet ((zu s11.1 v12 1 v13, s11.2.1, s11.2.2)) fun s14 =>
  if v7.toInt = 0 then
    zLet ((s14.2.2 a0 11).getD 0) fun v16 =>
    zLet ((s14.2.2 a0 10).getD 0) fun v17 =>
    zLet ((s14.1, s14.2.1, zu s14.2.2 a0 11 (some v17))) fun s18 =>
    zLet ((s18.1, s18.2.1, zu s18.2.2 a0 10 (some v16))) fun s19 =>
    zLet (F_X10_beginAnew a0 s19) fun s20 =>
    (v7, s20)
  else
    (v7, s14)
