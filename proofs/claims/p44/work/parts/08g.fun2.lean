set_option maxRecDepth 100000 in
noncomputable def F_X11_in (p1 : Int32) (p2 : Int32) (p3 : Int32) : Int32 :=
  if p1.toInt < p2.toInt then
    zLet ((0 : Int32)) fun v4 =>
    v4
  else
    if p3.toInt < p1.toInt then
      zLet ((0 : Int32)) fun v8 =>
      v8
    else
      zLet ((1 : Int32)) fun v9 =>
      v9
set_option maxRecDepth 100000 in
noncomputable def F_X11_within (p1 : Int32) (p2 : Int32) (p3 : Int32) : Int32 :=
  if p1.toInt < p2.toInt then
    p2
  else
    if p3.toInt < p1.toInt then
      p3
    else
      p1
set_option maxRecDepth 100000 in
noncomputable def F_X11_bits_4 (p1 : Int32)  : Nat → Int32 → Int32 → Int32
  | 0, _, _ => 0
  | n + 1, x3, x4 =>
    zLet ((12 : Int32)) fun v6 =>
    if x3.toInt < v6.toInt then
      zLet (p1 >>> (x3 &&& 31)) fun v8 =>
      zLet ((1 : Int32)) fun v9 =>
      zLet (v8 &&& v9) fun v10 =>
      zLet (x4 + v10) fun v11 =>
      zLet (x3 + (1 : Int32)) fun v12 =>
      F_X11_bits_4 p1  n v12 v11
    else
      x4
set_option maxRecDepth 100000 in
noncomputable def F_X11_bits (p1 : Int32) : Int32 :=
  zLet ((0 : Int32)) fun v1 =>
  zLet ((0 : Int32)) fun v2 =>
  F_X11_bits_4 p1  10000 v2 v1
set_option maxRecDepth 100000 in
noncomputable def F_X11_isDigit (p1 : Int32) : Int32 :=
  zLet ((48 : Int32)) fun v1 =>
  if p1.toInt < v1.toInt then
    zLet ((0 : Int32)) fun v4 =>
    v4
  else
    zLet ((57 : Int32)) fun v5 =>
    if v5.toInt < p1.toInt then
      zLet ((0 : Int32)) fun v8 =>
      v8
    else
      zLet ((1 : Int32)) fun v9 =>
      v9
set_option maxRecDepth 100000 in
noncomputable def F_X11_isLetter (p1 : Int32) : Int32 :=
  zLet ((97 : Int32)) fun v1 =>
  if p1.toInt < v1.toInt then
    zLet ((0 : Int32)) fun v4 =>
    v4
  else
    zLet ((122 : Int32)) fun v5 =>
    if v5.toInt < p1.toInt then
      zLet ((0 : Int32)) fun v8 =>
      v8
    else
      zLet ((1 : Int32)) fun v9 =>
      v9
set_option maxRecDepth 100000 in
noncomputable def F_X11_appends (p1 : Int64) (p2 : Int32) : Int64 :=
  if p2.toInt = 0 then
    p1
  else
    zLet ((27 : Int64)) fun v2 =>
    zLet (v2 * p1) fun v3 =>
    zLet ((97 : Int32)) fun v4 =>
    zLet (p2 - v4) fun v5 =>
    zLet ((1 : Int32)) fun v6 =>
    zLet (v5 + v6) fun v7 =>
    zLet (v7.toInt64) fun v8 =>
    zLet (v3 + v8) fun v9 =>
    v9
set_option maxRecDepth 100000 in
noncomputable def F_X11_word (p1 : Int32) (p2 : Int32) (p3 : Int32) (p4 : Int32) (p5 : Int32) (p6 : Int32) (p7 : Int32) : Int64 :=
  zLet (Int64.ofNat 0) fun v1 =>
  zLet (F_X11_appends v1 p1) fun v2 =>
  zLet (F_X11_appends v2 p2) fun v3 =>
  zLet (F_X11_appends v3 p3) fun v4 =>
  zLet (F_X11_appends v4 p4) fun v5 =>
  zLet (F_X11_appends v5 p5) fun v6 =>
  zLet (F_X11_appends v6 p6) fun v7 =>
  zLet (F_X11_appends v7 p7) fun v8 =>
  v8
set_option maxRecDepth 100000 in
noncomputable def F_X11_isLaw (p1 : Int32) : Int32 :=
  zLet ((0 : Int32)) fun v1 =>
  zLet ((2 : Int32)) fun v2 =>
  zLet (F_X11_in p1 v1 v2) fun v3 =>
  v3
set_option maxRecDepth 100000 in
noncomputable def F_X11_isLong (p1 : Int32) : Int32 :=
  zLet ((0 : Int32)) fun v1 =>
  zLet ((60 : Int32)) fun v2 =>
  zLet (F_X11_in p1 v1 v2) fun v3 =>
  v3
set_option maxRecDepth 100000 in
noncomputable def F_X11_isSome (p1 : Int32) : Int32 :=
  zLet ((1 : Int32)) fun v1 =>
  zLet ((24 : Int32)) fun v2 =>
  zLet (F_X11_in p1 v1 v2) fun v3 =>
  v3
set_option maxRecDepth 100000 in
noncomputable def F_X11_ithOf_4 (p1 : Int32) (p2 : Int32)  : Nat → Int32 → Int32 → Int32
  | 0, _, _ => 0
  | n + 1, x3, x4 =>
    zLet ((12 : Int32)) fun v6 =>
    if x3.toInt < v6.toInt then
      zLet (p1 >>> (x3 &&& 31)) fun v9 =>
      zLet ((1 : Int32)) fun v10 =>
      zLet (v9 &&& v10) fun v11 =>
      if v11.toInt = 0 then
        zLet (x3 + (1 : Int32)) fun v16 =>
        F_X11_ithOf_4 p1 p2  n v16 x4
      else
        if x4.toInt = p2.toInt then
          x3
        else
          zLet (x4 + (1 : Int32)) fun v14 =>
          zLet (x3 + (1 : Int32)) fun v15 =>
          F_X11_ithOf_4 p1 p2  n v15 v14
    else
      zLet ((-1 : Int32)) fun v8 =>
      v8
set_option maxRecDepth 100000 in
noncomputable def F_X11_ithOf (p1 : Int32) (p2 : Int32) : Int32 :=
  zLet ((0 : Int32)) fun v1 =>
  zLet ((0 : Int32)) fun v2 =>
  F_X11_ithOf_4 p1 p2  10000 v2 v1
set_option maxRecDepth 100000 in
noncomputable def F_X11_isEarlier_2 (p1 : Int32) (p2 : Int32)  : Nat → Int32 → Int32
  | 0, _ => 0
  | n + 1, x2 =>
    zLet ((3 : Int32)) fun v4 =>
    if x2.toInt < v4.toInt then
      zLet (F_X11_ithOf p1 x2) fun v7 =>
      zLet (F_X11_ithOf p2 x2) fun v8 =>
      if v7.toInt = v8.toInt then
        zLet (x2 + (1 : Int32)) fun v10 =>
        F_X11_isEarlier_2 p1 p2  n v10
      else
        zLet (F_X11_ithOf p1 x2) fun v11 =>
        zLet (F_X11_ithOf p2 x2) fun v12 =>
        if v11.toInt < v12.toInt then
          zLet ((1 : Int32)) fun v17 =>
          v17
        else
          zLet ((0 : Int32)) fun v16 =>
          v16
    else
      zLet ((0 : Int32)) fun v6 =>
      v6
set_option maxRecDepth 100000 in
noncomputable def F_X11_isEarlier (p1 : Int32) (p2 : Int32) : Int32 :=
  zLet ((0 : Int32)) fun v1 =>
  F_X11_isEarlier_2 p1 p2  10000 v1
set_option maxRecDepth 100000 in
noncomputable def F_X11_mixed (p1 : Int32) (p2 : Int32) : Int32 :=
  zLet (p1 ^^^ p2) fun v1 =>
  zLet ((1103515245 : Int32)) fun v2 =>
  zLet (v1 * v2) fun v3 =>
  zLet ((12345 : Int32)) fun v4 =>
  zLet (v3 + v4) fun v5 =>
  zLet ((15 : Int32)) fun v6 =>
  zLet ((v5.toUInt32 >>> (v6.toUInt32 &&& Int32.toUInt32 31)).toInt32) fun v7 =>
  zLet (v5 ^^^ v7) fun v8 =>
  v8
set_option maxRecDepth 100000 in
noncomputable def F_X11_many (a0 : Nat) (σ : zS) : Int32 :=
  zLet ((σ.2.2 a0 21).getD 0) fun v1 =>
  zLet (σ.1 a0 18) fun v2 =>
  zLet (σ.1 v1 v2.toNatClampNeg) fun v3 =>
  v3
set_option maxRecDepth 100000 in
noncomputable def F_X11_isPlace (a0 : Nat) (p1 : Int32) (σ : zS) : Int32 :=
  zLet ((0 : Int32)) fun v1 =>
  zLet (F_X11_many a0  σ) fun v3 =>
  zLet ((1 : Int32)) fun v4 =>
  zLet (v3 - v4) fun v5 =>
  zLet (F_X11_in p1 v1 v5) fun v6 =>
  v6
set_option maxRecDepth 100000 in
noncomputable def F_X11_isBeside (a0 : Nat) (p1 : Int32) (σ : zS) : Int32 :=
  zLet ((1 : Int32)) fun v1 =>
  zLet (F_X11_many a0  σ) fun v3 =>
  zLet ((1 : Int32)) fun v4 =>
  zLet (v3 - v4) fun v5 =>
  zLet (F_X11_in p1 v1 v5) fun v6 =>
  v6
set_option maxRecDepth 100000 in
noncomputable def F_X11_byteAt (a0 : Nat) (p1 : Int32) (σ : zS) : Int32 :=
  zLet (σ.1 a0 4) fun v1 =>
  if p1.toInt < v1.toInt then
    zLet ((σ.2.2 a0 3).getD 0) fun v5 =>
    zLet (σ.1 v5 p1.toNatClampNeg) fun v6 =>
    zLet ((255 : Int32)) fun v7 =>
    zLet (v6 &&& v7) fun v8 =>
    v8
  else
    zLet ((0 : Int32)) fun v4 =>
    v4
set_option maxRecDepth 100000 in
noncomputable def F_X11_place (a0 : Nat) (σ : zS) : Int32 :=
  zLet (σ.1 a0 17) fun v1 =>
  v1
set_option maxRecDepth 100000 in
noncomputable def F_X11_fail (a0 : Nat) (p1 : Int32) (σ : zS) : zS :=
  zLet (σ.1 a0 13) fun v1 =>
  if 0 < v1.toInt then
    σ
  else
    zLet ((zu σ.1 a0 13 p1, σ.2.1, σ.2.2)) fun s4 =>
    zLet ((s4.2.2 a0 6).getD 0) fun v7 =>
    zLet (s4.1 a0 11) fun v8 =>
    zLet (s4.1 v7 v8.toNatClampNeg) fun v9 =>
    zLet ((zu s4.1 a0 14 v9, s4.2.1, s4.2.2)) fun s10 =>
    s10
set_option maxRecDepth 100000 in
noncomputable def F_X11_is (a0 : Nat) (p1 : Int32) (σ : zS) : Int32 :=
  zLet (σ.1 a0 13) fun v1 =>
  if v1.toInt = 0 then
    zLet ((σ.2.2 a0 5).getD 0) fun v4 =>
    zLet (σ.1 a0 11) fun v5 =>
    zLet (σ.1 v4 v5.toNatClampNeg) fun v6 =>
    if v6.toInt = p1.toInt then
      zLet ((1 : Int32)) fun v9 =>
      v9
    else
      zLet ((0 : Int32)) fun v8 =>
      v8
  else
    zLet ((0 : Int32)) fun v3 =>
    v3
set_option maxRecDepth 100000 in
noncomputable def F_X11_goesOn (a0 : Nat) (σ : zS) : zS :=
  zLet (σ.1 a0 11) fun v1 =>
  zLet ((400 : Int32)) fun v2 =>
  if v1.toInt = v2.toInt then
    zLet ((2 : Int32)) fun v10 =>
    zLet (F_X11_fail a0 v10 σ) fun t11 =>
    t11
  else
    zLet (σ.1 a0 11) fun v4 =>
    zLet ((1 : Int32)) fun v5 =>
    zLet (v4 + v5) fun v6 =>
    zLet ((zu σ.1 a0 11 v6, σ.2.1, σ.2.2)) fun s7 =>
    s7
set_option maxRecDepth 100000 in
noncomputable def F_X11_must (a0 : Nat) (p1 : Int32) (σ : zS) : zS :=
  zLet (F_X11_is a0 p1 σ) fun v2 =>
  if v2.toInt = 0 then
    zLet ((1 : Int32)) fun v4 =>
    zLet (F_X11_fail a0 v4 σ) fun t5 =>
    t5
  else
    zLet (F_X11_goesOn a0  σ) fun t7 =>
    t7
set_option maxRecDepth 100000 in
noncomputable def F_X11_wrong (a0 : Nat) (p1 : Int32) (p2 : Int32) (σ : zS) : zS :=
  zLet ((σ.2.2 a0 6).getD 0) fun v1 =>
  zLet (σ.1 v1 p2.toNatClampNeg) fun v2 =>
  zLet (σ.1 a0 13) fun v3 =>
  if 0 < v3.toInt then
    σ
  else
    zLet (σ.1 a0 15) fun v5 =>
    if v5.toInt = 0 then
      zLet ((zu σ.1 a0 15 p1, σ.2.1, σ.2.2)) fun s7 =>
      zLet ((zu s7.1 a0 16 v2, s7.2.1, s7.2.2)) fun s11 =>
      s11
    else
      zLet (σ.1 a0 16) fun v16 =>
      if v16.toInt < v2.toInt then
        σ
      else
        zLet (σ.1 a0 16) fun v20 =>
        if v2.toInt = v20.toInt then
          zLet (σ.1 a0 15) fun v32 =>
          if p1.toInt < v32.toInt then
            zLet ((zu σ.1 a0 15 p1, σ.2.1, σ.2.2)) fun s36 =>
            zLet ((zu s36.1 a0 16 v2, s36.2.1, s36.2.2)) fun s41 =>
            s41
          else
            σ
        else
          zLet ((zu σ.1 a0 15 p1, σ.2.1, σ.2.2)) fun s22 =>
          zLet ((zu s22.1 a0 16 v2, s22.2.1, s22.2.2)) fun s27 =>
          s27
set_option maxRecDepth 100000 in
noncomputable def F_X11_keepsRow_2 (a0 : Nat)  : Nat → Int32 → zS → zS
  | 0, _, s => s
  | n + 1, x2, τ3 =>
    zLet ((50 : Int32)) fun v4 =>
    if x2.toInt < v4.toInt then
      zLet ((τ3.2.2 a0 48).getD 0) fun v6 =>
      zLet ((τ3.2.2 a0 49).getD 0) fun v7 =>
      zLet (τ3.1 v7 x2.toNatClampNeg) fun v8 =>
      zLet ((zu τ3.1 v6 x2.toNatClampNeg v8, τ3.2.1, τ3.2.2)) fun s9 =>
      zLet (x2 + (1 : Int32)) fun v11 =>
      F_X11_keepsRow_2 a0  n v11 s9
    else
      τ3
set_option maxRecDepth 100000 in
noncomputable def F_X11_keepsRow (a0 : Nat) (σ : zS) : zS :=
  zLet ((0 : Int32)) fun v1 =>
  F_X11_keepsRow_2 a0  10000 v1 σ
set_option maxRecDepth 100000 in
noncomputable def F_X11_dammedBits_4 (a0 : Nat) (σ : zS)  : Nat → Int32 → Int32 → Int32
  | 0, _, _ => 0
  | n + 1, x3, x4 =>
    zLet (F_X11_many a0  σ) fun v7 =>
    if x3.toInt < v7.toInt then
      zLet ((σ.2.2 a0 48).getD 0) fun v9 =>
      zLet ((12 : Int32)) fun v10 =>
      zLet (v10 + x3) fun v11 =>
      zLet (σ.1 v9 v11.toNatClampNeg) fun v12 =>
      zLet (v12 <<< (x3 &&& 31)) fun v13 =>
      zLet (x4 ||| v13) fun v14 =>
      zLet (x3 + (1 : Int32)) fun v15 =>
      F_X11_dammedBits_4 a0 σ  n v15 v14
    else
      x4
set_option maxRecDepth 100000 in
noncomputable def F_X11_dammedBits (a0 : Nat) (σ : zS) : Int32 :=
  zLet ((0 : Int32)) fun v1 =>
  zLet ((1 : Int32)) fun v2 =>
  F_X11_dammedBits_4 a0 σ  10000 v2 v1
set_option maxRecDepth 100000 in
noncomputable def F_X11_put (a0 : Nat) (p1 : Int32) (σ : zS) : zS :=
  zLet ((24 : Int32)) fun v1 =>
  if v1.toInt < 0 then
    σ
  else
    zLet ((σ.2.2 a0 1).getD 0) fun v3 =>
    zLet (σ.1 a0 2) fun v4 =>
    zLet (p1 >>> (v1 &&& 31)) fun v5 =>
    zLet (v5.toInt8.toInt32) fun v6 =>
    zLet ((zu σ.1 v3 v4.toNatClampNeg (vp_nar .byte v6), σ.2.1, σ.2.2)) fun s7 =>
    zLet (s7.1 a0 2) fun v10 =>
    zLet ((1 : Int32)) fun v11 =>
    zLet (v10 + v11) fun v12 =>
    zLet ((zu s7.1 a0 2 v12, s7.2.1, s7.2.2)) fun s13 =>
    zLet (v1 + (-8 : Int32)) fun v16 =>
    if v16.toInt < 0 then
      s13
    else
      zLet ((s13.2.2 a0 1).getD 0) fun v18 =>
      zLet (s13.1 a0 2) fun v19 =>
      zLet (p1 >>> (v16 &&& 31)) fun v20 =>
      zLet (v20.toInt8.toInt32) fun v21 =>
      zLet ((zu s13.1 v18 v19.toNatClampNeg (vp_nar .byte v21), s13.2.1, s13.2.2)) fun s22 =>
      zLet (s22.1 a0 2) fun v25 =>
      zLet ((1 : Int32)) fun v26 =>
      zLet (v25 + v26) fun v27 =>
      zLet ((zu s22.1 a0 2 v27, s22.2.1, s22.2.2)) fun s28 =>
      zLet (v16 + (-8 : Int32)) fun v31 =>
      if v31.toInt < 0 then
        s28
      else
        zLet ((s28.2.2 a0 1).getD 0) fun v33 =>
        zLet (s28.1 a0 2) fun v34 =>
        zLet (p1 >>> (v31 &&& 31)) fun v35 =>
        zLet (v35.toInt8.toInt32) fun v36 =>
        zLet ((zu s28.1 v33 v34.toNatClampNeg (vp_nar .byte v36), s28.2.1, s28.2.2)) fun s37 =>
        zLet (s37.1 a0 2) fun v40 =>
        zLet ((1 : Int32)) fun v41 =>
        zLet (v40 + v41) fun v42 =>
        zLet ((zu s37.1 a0 2 v42, s37.2.1, s37.2.2)) fun s43 =>
        zLet (v31 + (-8 : Int32)) fun v46 =>
        if v46.toInt < 0 then
          s43
        else
          zLet ((s43.2.2 a0 1).getD 0) fun v48 =>
          zLet (s43.1 a0 2) fun v49 =>
          zLet (p1 >>> (v46 &&& 31)) fun v50 =>
          zLet (v50.toInt8.toInt32) fun v51 =>
          zLet ((zu s43.1 v48 v49.toNatClampNeg (vp_nar .byte v51), s43.2.1, s43.2.2)) fun s52 =>
          zLet (s52.1 a0 2) fun v55 =>
          zLet ((1 : Int32)) fun v56 =>
          zLet (v55 + v56) fun v57 =>
          zLet ((zu s52.1 a0 2 v57, s52.2.1, s52.2.2)) fun s58 =>
          zLet (v46 + (-8 : Int32)) fun v61 =>
          if v61.toInt < 0 then
            s58
          else
            s58
set_option maxRecDepth 100000 in
noncomputable def F_X11_plain_37 (a0 : Nat) (p1 : Int32)  : Nat → Int32 → zS → zS
  | 0, _, s => s
  | n + 1, x22, τ23 =>
    zLet ((5 : Int32)) fun v24 =>
    if x22.toInt < v24.toInt then
      zLet ((τ23.2.2 a0 30).getD 0) fun v26 =>
      zLet ((5 : Int32)) fun v27 =>
      zLet (v27 * p1) fun v28 =>
      zLet (v28 + x22) fun v29 =>
      zLet ((0 : Int32)) fun v30 =>
      zLet ((zu τ23.1 v26 v29.toNatClampNeg v30, τ23.2.1, τ23.2.2)) fun s31 =>
      zLet ((s31.2.2 a0 31).getD 0) fun v33 =>
      zLet ((5 : Int32)) fun v34 =>
      zLet (v34 * p1) fun v35 =>
      zLet (v35 + x22) fun v36 =>
      zLet ((0 : Int32)) fun v37 =>
      zLet ((zu s31.1 v33 v36.toNatClampNeg v37, s31.2.1, s31.2.2)) fun s38 =>
      zLet (x22 + (1 : Int32)) fun v40 =>
      F_X11_plain_37 a0 p1  n v40 s38
    else
      τ23
set_option maxRecDepth 100000 in
noncomputable def F_X11_plain (a0 : Nat) (p1 : Int32) (σ : zS) : zS :=
  zLet ((σ.2.2 a0 21).getD 0) fun v1 =>
  zLet ((0 : Int32)) fun v2 =>
  zLet ((zu σ.1 v1 p1.toNatClampNeg v2, σ.2.1, σ.2.2)) fun s3 =>
  zLet ((s3.2.2 a0 26).getD 0) fun v5 =>
  zLet ((0 : Int32)) fun v6 =>
  zLet ((zu s3.1 v5 p1.toNatClampNeg v6, s3.2.1, s3.2.2)) fun s7 =>
  zLet ((s7.2.2 a0 27).getD 0) fun v9 =>
  zLet ((0 : Int32)) fun v10 =>
  zLet ((zu s7.1 v9 p1.toNatClampNeg v10, s7.2.1, s7.2.2)) fun s11 =>
  zLet ((s11.2.2 a0 28).getD 0) fun v13 =>
  zLet ((1 : Int32)) fun v14 =>
  zLet ((zu s11.1 v13 p1.toNatClampNeg v14, s11.2.1, s11.2.2)) fun s15 =>
  zLet ((s15.2.2 a0 29).getD 0) fun v17 =>
  zLet ((0 : Int32)) fun v18 =>
  zLet ((zu s15.1 v17 p1.toNatClampNeg v18, s15.2.1, s15.2.2)) fun s19 =>
  zLet ((0 : Int32)) fun v21 =>
  F_X11_plain_37 a0 p1  10000 v21 s19
set_option maxRecDepth 100000 in
noncomputable def F_X11_looks (a0 : Nat) (p1 : Int32) (p2 : Int32) (σ : zS) : zS :=
  zLet ((σ.2.2 a0 45).getD 0) fun v1 =>
  zLet ((0 : Int32)) fun v2 =>
  zLet ((σ.2.2 a0 24).getD 0) fun v3 =>
  zLet ((12 : Int32)) fun v4 =>
  zLet (σ.1 a0 18) fun v5 =>
  zLet (v4 * v5) fun v6 =>
  zLet (v6 + p1) fun v7 =>
  zLet (σ.1 v3 v7.toNatClampNeg) fun v8 =>
  zLet ((zu σ.1 v1 v2.toNatClampNeg v8, σ.2.1, σ.2.2)) fun s9 =>
  zLet ((s9.2.2 a0 45).getD 0) fun v12 =>
  zLet ((1 : Int32)) fun v13 =>
  zLet ((s9.2.2 a0 52).getD 0) fun v14 =>
  zLet (s9.1 v14 p1.toNatClampNeg) fun v15 =>
  zLet ((zu s9.1 v12 v13.toNatClampNeg v15, s9.2.1, s9.2.2)) fun s16 =>
  zLet ((s16.2.2 a0 45).getD 0) fun v19 =>
  zLet ((2 : Int32)) fun v20 =>
  zLet ((s16.2.2 a0 25).getD 0) fun v21 =>
  zLet ((12 : Int32)) fun v22 =>
  zLet (s16.1 a0 18) fun v23 =>
  zLet (v22 * v23) fun v24 =>
  zLet (v24 + p1) fun v25 =>
  zLet (s16.1 v21 v25.toNatClampNeg) fun v26 =>
  zLet ((zu s16.1 v19 v20.toNatClampNeg v26, s16.2.1, s16.2.2)) fun s27 =>
  zLet ((s27.2.2 a0 45).getD 0) fun v30 =>
  zLet ((3 : Int32)) fun v31 =>
  zLet ((s27.2.2 a0 49).getD 0) fun v32 =>
  zLet ((48 : Int32)) fun v33 =>
  zLet (s27.1 v32 v33.toNatClampNeg) fun v34 =>
  zLet ((12 : Int32)) fun v35 =>
  zLet (v34 - v34 / v35 * v35) fun v36 =>
  zLet ((zu s27.1 v30 v31.toNatClampNeg v36, s27.2.1, s27.2.2)) fun s37 =>
  zLet ((s37.2.2 a0 45).getD 0) fun v40 =>
  zLet ((4 : Int32)) fun v41 =>
  zLet ((zu s37.1 v40 v41.toNatClampNeg p2, s37.2.1, s37.2.2)) fun s42 =>
  zLet ((s42.2.2 a0 45).getD 0) fun v45 =>
  zLet ((5 : Int32)) fun v46 =>
  zLet ((s42.2.2 a0 23).getD 0) fun v47 =>
  zLet ((12 : Int32)) fun v48 =>
  zLet (s42.1 a0 18) fun v49 =>
  zLet (v48 * v49) fun v50 =>
  zLet (v50 + p1) fun v51 =>
  zLet (s42.1 v47 v51.toNatClampNeg) fun v52 =>
  zLet ((zu s42.1 v45 v46.toNatClampNeg v52, s42.2.1, s42.2.2)) fun s53 =>
  zLet ((s53.2.2 a0 45).getD 0) fun v56 =>
  zLet ((6 : Int32)) fun v57 =>
  zLet ((s53.2.2 a0 49).getD 0) fun v58 =>
  zLet ((24 : Int32)) fun v59 =>
  zLet (v59 + p1) fun v60 =>
  zLet (s53.1 v58 v60.toNatClampNeg) fun v61 =>
  zLet ((zu s53.1 v56 v57.toNatClampNeg v61, s53.2.1, s53.2.2)) fun s62 =>
  zLet ((s62.2.2 a0 45).getD 0) fun v65 =>
  zLet ((7 : Int32)) fun v66 =>
  zLet ((zu s62.1 v65 v66.toNatClampNeg p1, s62.2.1, s62.2.2)) fun s67 =>
  zLet ((s67.2.2 a0 45).getD 0) fun v70 =>
  zLet ((8 : Int32)) fun v71 =>
  zLet ((s67.2.2 a0 54).getD 0) fun v72 =>
  zLet (s67.1 v72 p1.toNatClampNeg) fun v73 =>
  zLet (F_X11_bits v73) fun v74 =>
  zLet ((1 : Int32)) fun v75 =>
  zLet (v74 - v75) fun v76 =>
  zLet ((zu s67.1 v70 v71.toNatClampNeg v76, s67.2.1, s67.2.2)) fun s77 =>
  s77
set_option maxRecDepth 100000 in
noncomputable def F_X11_termOf_5 (a0 : Nat) (p1 : Int32) (p2 : Int32)  : Nat → Int32 → Int32 → zS → Int32 × zS
  | 0, _, _, s => (0, s)
  | n + 1, x2, x3, τ4 =>
    if x2.toInt < p2.toInt then
      zLet ((τ4.2.2 a0 39).getD 0) fun v9 =>
      zLet (τ4.1 v9 x2.toNatClampNeg) fun v10 =>
      zLet ((2 : Int32)) fun v11 =>
      if v10.toInt < v11.toInt then
        zLet ((τ4.2.2 a0 46).getD 0) fun v67 =>
        if v10.toInt = 0 then
          zLet ((τ4.2.2 a0 40).getD 0) fun v77 =>
          zLet (τ4.1 v77 x2.toNatClampNeg) fun v78 =>
          zLet ((zu τ4.1 v67 x3.toNatClampNeg v78, τ4.2.1, τ4.2.2)) fun s79 =>
          zLet (x3 + (1 : Int32)) fun v81 =>
          zLet (x2 + (1 : Int32)) fun v82 =>
          F_X11_termOf_5 a0 p1 p2  n v82 v81 s79
        else
          zLet ((τ4.2.2 a0 45).getD 0) fun v69 =>
          zLet ((τ4.2.2 a0 40).getD 0) fun v70 =>
          zLet (τ4.1 v70 x2.toNatClampNeg) fun v71 =>
          zLet (τ4.1 v69 v71.toNatClampNeg) fun v72 =>
          zLet ((zu τ4.1 v67 x3.toNatClampNeg v72, τ4.2.1, τ4.2.2)) fun s73 =>
          zLet (x3 + (1 : Int32)) fun v75 =>
          zLet (x2 + (1 : Int32)) fun v76 =>
          F_X11_termOf_5 a0 p1 p2  n v76 v75 s73
      else
        zLet (x3 + (-1 : Int32)) fun v14 =>
        zLet ((τ4.2.2 a0 46).getD 0) fun v15 =>
        zLet ((1 : Int32)) fun v16 =>
        zLet (v14 - v16) fun v17 =>
        zLet (τ4.1 v15 v17.toNatClampNeg) fun v18 =>
        zLet ((τ4.2.2 a0 46).getD 0) fun v19 =>
        zLet (τ4.1 v19 v14.toNatClampNeg) fun v20 =>
        zLet ((5 : Int32)) fun v21 =>
        if v10.toInt = v21.toInt then
          if v20.toInt = 0 then
            zLet ((1 : Int32)) fun v62 =>
            zLet ((zu τ4.1 a0 47 v62, τ4.2.1, τ4.2.2)) fun s63 =>
            zLet ((0 : Int32)) fun v66 =>
            (v66, s63)
          else
            zLet ((τ4.2.2 a0 46).getD 0) fun v49 =>
            zLet ((1 : Int32)) fun v50 =>
            zLet (v14 - v50) fun v51 =>
            zLet ((2 : Int32)) fun v52 =>
            if v10.toInt = v52.toInt then
              (0, τ4)
            else
              zLet ((3 : Int32)) fun v54 =>
              if v10.toInt = v54.toInt then
                (0, τ4)
              else
                zLet ((4 : Int32)) fun v56 =>
                if v10.toInt = v56.toInt then
                  (0, τ4)
                else
                  zLet (v18 / v20) fun v58 =>
                  zLet ((zu τ4.1 v49 v51.toNatClampNeg v58, τ4.2.1, τ4.2.2)) fun s59 =>
                  zLet (x2 + (1 : Int32)) fun v61 =>
                  F_X11_termOf_5 a0 p1 p2  n v61 v14 s59
        else
          zLet ((τ4.2.2 a0 46).getD 0) fun v23 =>
          zLet ((1 : Int32)) fun v24 =>
          zLet (v14 - v24) fun v25 =>
          zLet ((2 : Int32)) fun v26 =>
          if v10.toInt = v26.toInt then
            zLet (v18 + v20) fun v44 =>
            zLet ((zu τ4.1 v23 v25.toNatClampNeg v44, τ4.2.1, τ4.2.2)) fun s45 =>
            zLet (x2 + (1 : Int32)) fun v47 =>
            F_X11_termOf_5 a0 p1 p2  n v47 v14 s45
          else
            zLet ((3 : Int32)) fun v28 =>
            if v10.toInt = v28.toInt then
              zLet (v18 - v20) fun v40 =>
              zLet ((zu τ4.1 v23 v25.toNatClampNeg v40, τ4.2.1, τ4.2.2)) fun s41 =>
              zLet (x2 + (1 : Int32)) fun v43 =>
              F_X11_termOf_5 a0 p1 p2  n v43 v14 s41
            else
              zLet ((4 : Int32)) fun v30 =>
              if v10.toInt = v30.toInt then
                zLet (v18 * v20) fun v36 =>
                zLet ((zu τ4.1 v23 v25.toNatClampNeg v36, τ4.2.1, τ4.2.2)) fun s37 =>
                zLet (x2 + (1 : Int32)) fun v39 =>
                F_X11_termOf_5 a0 p1 p2  n v39 v14 s37
              else
                zLet (v18 / v20) fun v32 =>
                zLet ((zu τ4.1 v23 v25.toNatClampNeg v32, τ4.2.1, τ4.2.2)) fun s33 =>
                zLet (x2 + (1 : Int32)) fun v35 =>
                F_X11_termOf_5 a0 p1 p2  n v35 v14 s33
    else
      zLet ((τ4.2.2 a0 46).getD 0) fun v6 =>
      zLet ((0 : Int32)) fun v7 =>
      zLet (τ4.1 v6 v7.toNatClampNeg) fun v8 =>
      (v8, τ4)
set_option maxRecDepth 100000 in
noncomputable def F_X11_termOf (a0 : Nat) (p1 : Int32) (p2 : Int32) (σ : zS) : Int32 × zS :=
  zLet ((0 : Int32)) fun v1 =>
  F_X11_termOf_5 a0 p1 p2  10000 p1 v1 σ
set_option maxRecDepth 100000 in
noncomputable def F_X11_lawTells_39 (v4 : Int32) (a0 : Nat) (p1 : Int32) (p2 : Int32)  : Nat → Int32 → zS → Int32 × zS
  | 0, _, s => (0, s)
  | n + 1, x17, τ18 =>
    zLet ((τ18.2.2 a0 31).getD 0) fun v19 =>
    zLet (τ18.1 v19 v4.toNatClampNeg) fun v20 =>
    if x17.toInt < v20.toInt then
      zLet ((τ18.2.2 a0 33).getD 0) fun v25 =>
      zLet (τ18.1 v25 x17.toNatClampNeg) fun v26 =>
      if v26.toInt = 0 then
        zLet ((τ18.2.2 a0 36).getD 0) fun v28 =>
        zLet (τ18.1 v28 x17.toNatClampNeg) fun v29 =>
        zLet ((τ18.2.2 a0 37).getD 0) fun v30 =>
        zLet (τ18.1 v30 x17.toNatClampNeg) fun v31 =>
        zLet2 (F_X11_termOf a0 v29 v31 τ18) fun v33 t32 =>
        zLet (t32.1 a0 47) fun v35 =>
        if v35.toInt = 0 then
          (v33, t32)
        else
          zLet ((0 : Int32)) fun v37 =>
          (v37, t32)
      else
        zLet ((τ18.2.2 a0 34).getD 0) fun v38 =>
        zLet (τ18.1 v38 x17.toNatClampNeg) fun v39 =>
        zLet ((τ18.2.2 a0 35).getD 0) fun v40 =>
        zLet (τ18.1 v40 x17.toNatClampNeg) fun v41 =>
        zLet2 (F_X11_termOf a0 v39 v41 τ18) fun v43 t42 =>
        zLet ((t42.2.2 a0 35).getD 0) fun v45 =>
        zLet (t42.1 v45 x17.toNatClampNeg) fun v46 =>
        zLet ((t42.2.2 a0 36).getD 0) fun v47 =>
        zLet (t42.1 v47 x17.toNatClampNeg) fun v48 =>
        zLet2 (F_X11_termOf a0 v46 v48 t42) fun v50 t49 =>
        zLet (t49.1 a0 47) fun v52 =>
        if v52.toInt = 0 then
          if v43.toInt < v50.toInt then
            zLet ((t49.2.2 a0 36).getD 0) fun v57 =>
            zLet (t49.1 v57 x17.toNatClampNeg) fun v58 =>
            zLet ((t49.2.2 a0 37).getD 0) fun v59 =>
            zLet (t49.1 v59 x17.toNatClampNeg) fun v60 =>
            zLet2 (F_X11_termOf a0 v58 v60 t49) fun v62 t61 =>
            zLet (t61.1 a0 47) fun v64 =>
            if v64.toInt = 0 then
              (v62, t61)
            else
              zLet ((0 : Int32)) fun v66 =>
              (v66, t61)
          else
            zLet (x17 + (1 : Int32)) fun v67 =>
            F_X11_lawTells_39 v4 a0 p1 p2  n v67 t49
        else
          zLet ((0 : Int32)) fun v68 =>
          (v68, t49)
    else
      zLet ((0 : Int32)) fun v24 =>
      (v24, τ18)
set_option maxRecDepth 100000 in
noncomputable def F_X11_lawTells (a0 : Nat) (p1 : Int32) (p2 : Int32) (σ : zS) : Int32 × zS :=
  zLet ((5 : Int32)) fun v1 =>
  zLet (σ.1 a0 18) fun v2 =>
  zLet (v1 * v2) fun v3 =>
  zLet (v3 + p1) fun v4 =>
  zLet ((σ.2.2 a0 30).getD 0) fun v5 =>
  zLet (σ.1 v5 v4.toNatClampNeg) fun v6 =>
  zLet ((σ.2.2 a0 31).getD 0) fun v7 =>
  zLet (σ.1 v7 v4.toNatClampNeg) fun v8 =>
  if v6.toInt = v8.toInt then
    (p2, σ)
  else
    zLet ((0 : Int32)) fun v10 =>
    zLet ((zu σ.1 a0 47 v10, σ.2.1, σ.2.2)) fun s11 =>
    zLet ((s11.2.2 a0 30).getD 0) fun v15 =>
    zLet (s11.1 v15 v4.toNatClampNeg) fun v16 =>
    F_X11_lawTells_39 v4 a0 p1 p2  4294967299 v16 s11
set_option maxRecDepth 100000 in
noncomputable def F_X11_isSource (a0 : Nat) (p1 : Int32) (σ : zS) : Int32 :=
  zLet (F_X11_isBeside a0 p1 σ) fun v2 =>
  if v2.toInt = 0 then
    zLet ((0 : Int32)) fun v4 =>
    v4
  else
    zLet ((σ.2.2 a0 54).getD 0) fun v5 =>
    zLet (σ.1 v5 p1.toNatClampNeg) fun v6 =>
    zLet ((1 : Int32)) fun v7 =>
    zLet (v7 <<< (p1 &&& 31)) fun v8 =>
    if v6.toInt = v8.toInt then
      zLet ((1 : Int32)) fun v11 =>
      v11
    else
      zLet ((0 : Int32)) fun v10 =>
      v10
set_option maxRecDepth 100000 in
noncomputable def F_X11_sourceBits_4 (a0 : Nat) (σ : zS)  : Nat → Int32 → Int32 → Int32
  | 0, _, _ => 0
  | n + 1, x3, x4 =>
    zLet (F_X11_many a0  σ) fun v7 =>
    if x3.toInt < v7.toInt then
      zLet (F_X11_isSource a0 x3 σ) fun v10 =>
      if v10.toInt = 0 then
        zLet (x3 + (1 : Int32)) fun v12 =>
        F_X11_sourceBits_4 a0 σ  n v12 x4
      else
        zLet ((1 : Int32)) fun v13 =>
        zLet (v13 <<< (x3 &&& 31)) fun v14 =>
        zLet (x4 ||| v14) fun v15 =>
        zLet (x3 + (1 : Int32)) fun v16 =>
        F_X11_sourceBits_4 a0 σ  n v16 v15
    else
      x4
set_option maxRecDepth 100000 in
noncomputable def F_X11_sourceBits (a0 : Nat) (σ : zS) : Int32 :=
  zLet ((0 : Int32)) fun v1 =>
  zLet ((1 : Int32)) fun v2 =>
  F_X11_sourceBits_4 a0 σ  10000 v2 v1
set_option maxRecDepth 100000 in
noncomputable def F_X11_rainsAt (a0 : Nat) (p1 : Int32) (σ : zS) : Int32 × zS :=
  zLet ((0 : Int32)) fun v1 =>
  zLet (F_X11_looks a0 p1 v1 σ) fun t2 =>
  zLet ((0 : Int32)) fun v4 =>
  zLet ((t2.2.2 a0 45).getD 0) fun v5 =>
  zLet ((0 : Int32)) fun v6 =>
  zLet (t2.1 v5 v6.toNatClampNeg) fun v7 =>
  zLet2 (F_X11_lawTells a0 v4 v7 t2) fun v9 t8 =>
  zLet ((0 : Int32)) fun v11 =>
  zLet ((999 : Int32)) fun v12 =>
  zLet (F_X11_within v9 v11 v12) fun v13 =>
  (v13, t8)
set_option maxRecDepth 100000 in
noncomputable def F_X11_driesAt (a0 : Nat) (p1 : Int32) (σ : zS) : Int32 × zS :=
  zLet ((σ.2.2 a0 55).getD 0) fun v1 =>
  zLet (σ.1 v1 p1.toNatClampNeg) fun v2 =>
  zLet (F_X11_looks a0 p1 v2 σ) fun t3 =>
  zLet ((1 : Int32)) fun v5 =>
  zLet ((0 : Int32)) fun v6 =>
  zLet2 (F_X11_lawTells a0 v5 v6 t3) fun v8 t7 =>
  zLet ((0 : Int32)) fun v10 =>
  zLet ((t7.2.2 a0 55).getD 0) fun v11 =>
  zLet (t7.1 v11 p1.toNatClampNeg) fun v12 =>
  zLet (F_X11_within v8 v10 v12) fun v13 =>
  (v13, t7)
set_option maxRecDepth 100000 in
noncomputable def F_X11_claimOf (a0 : Nat) (p1 : Int32) (p2 : Int32) (σ : zS) : Int32 × zS :=
  zLet ((σ.2.2 a0 55).getD 0) fun v1 =>
  zLet (σ.1 v1 p1.toNatClampNeg) fun v2 =>
  zLet (F_X11_looks a0 p1 v2 σ) fun t3 =>
  if p2.toInt = 0 then
    zLet ((t3.2.2 a0 45).getD 0) fun v30 =>
    zLet ((1 : Int32)) fun v31 =>
    zLet (t3.1 v30 v31.toNatClampNeg) fun v32 =>
    zLet ((2 : Int32)) fun v33 =>
    zLet (v33 + p2) fun v34 =>
    zLet2 (F_X11_lawTells a0 v34 v32 t3) fun v36 t35 =>
    zLet ((0 : Int32)) fun v38 =>
    zLet ((99999 : Int32)) fun v39 =>
    zLet (F_X11_within v36 v38 v39) fun v40 =>
    (v40, t35)
  else
    zLet ((1 : Int32)) fun v6 =>
    if p2.toInt = v6.toInt then
      zLet ((t3.2.2 a0 45).getD 0) fun v19 =>
      zLet ((4 : Int32)) fun v20 =>
      zLet (t3.1 v19 v20.toNatClampNeg) fun v21 =>
      zLet ((2 : Int32)) fun v22 =>
      zLet (v22 + p2) fun v23 =>
      zLet2 (F_X11_lawTells a0 v23 v21 t3) fun v25 t24 =>
      zLet ((0 : Int32)) fun v27 =>
      zLet ((99999 : Int32)) fun v28 =>
      zLet (F_X11_within v25 v27 v28) fun v29 =>
      (v29, t24)
    else
      zLet ((t3.2.2 a0 45).getD 0) fun v8 =>
      zLet ((2 : Int32)) fun v9 =>
      zLet (t3.1 v8 v9.toNatClampNeg) fun v10 =>
      zLet ((2 : Int32)) fun v11 =>
      zLet (v11 + p2) fun v12 =>
      zLet2 (F_X11_lawTells a0 v12 v10 t3) fun v14 t13 =>
      zLet ((0 : Int32)) fun v16 =>
      zLet ((99999 : Int32)) fun v17 =>
      zLet (F_X11_within v14 v16 v17) fun v18 =>
      (v18, t13)
set_option maxRecDepth 100000 in
noncomputable def F_X11_winnerBy_8 (a0 : Nat) (p1 : Int32)  : Nat → Int32 → Int32 → Int32 → zS → Int32 × zS
  | 0, _, _, _, s => (0, s)
  | n + 1, x4, x5, x6, τ7 =>
    zLet (F_X11_many a0  τ7) fun v9 =>
    if x4.toInt < v9.toInt then
      zLet (F_X11_isSource a0 x4 τ7) fun v12 =>
      if v12.toInt = 0 then
        zLet (x4 + (1 : Int32)) fun v24 =>
        F_X11_winnerBy_8 a0 p1  n v24 x5 x6 τ7
      else
        zLet2 (F_X11_claimOf a0 x4 p1 τ7) fun v15 t14 =>
        if x6.toInt < 0 then
          zLet (x4 + (1 : Int32)) fun v18 =>
          F_X11_winnerBy_8 a0 p1  n v18 v15 x4 t14
        else
          if x5.toInt < v15.toInt then
            zLet (x4 + (1 : Int32)) fun v22 =>
            F_X11_winnerBy_8 a0 p1  n v22 v15 x4 t14
          else
            zLet (x4 + (1 : Int32)) fun v23 =>
            F_X11_winnerBy_8 a0 p1  n v23 x5 x6 t14
    else
      (x6, τ7)
set_option maxRecDepth 100000 in
noncomputable def F_X11_winnerBy (a0 : Nat) (p1 : Int32) (σ : zS) : Int32 × zS :=
  zLet ((-2 : Int32)) fun v1 =>
  zLet ((0 : Int32)) fun v2 =>
  zLet ((1 : Int32)) fun v3 =>
  F_X11_winnerBy_8 a0 p1  10000 v3 v2 v1 σ
set_option maxRecDepth 100000 in
noncomputable def F_X11_fillsWays_61 (x8 : Int32) (a0 : Nat) (kLp3 : Int32 → zS → zS) (kLp9 : Int32 → zS → zS) : Nat → Int32 → zS → zS
  | 0, _, s => s
  | n + 1, x28, τ29 =>
    if 0 < x28.toInt then
      zLet ((τ29.2.2 a0 52).getD 0) fun v32 =>
      zLet (τ29.1 v32 x8.toNatClampNeg) fun v33 =>
      zLet ((τ29.2.2 a0 23).getD 0) fun v34 =>
      zLet ((12 : Int32)) fun v35 =>
      zLet (τ29.1 a0 18) fun v36 =>
      zLet (v35 * v36) fun v37 =>
      zLet (v37 + x28) fun v38 =>
      zLet (τ29.1 v34 v38.toNatClampNeg) fun v39 =>
      zLet (v33 + v39) fun v40 =>
      zLet ((zu τ29.1 v32 x8.toNatClampNeg v40, τ29.2.1, τ29.2.2)) fun s41 =>
      zLet ((s41.2.2 a0 53).getD 0) fun v44 =>
      zLet (s41.1 v44 x8.toNatClampNeg) fun v45 =>
      zLet ((1 : Int32)) fun v46 =>
      zLet (v45 + v46) fun v47 =>
      zLet ((zu s41.1 v44 x8.toNatClampNeg v47, s41.2.1, s41.2.2)) fun s48 =>
      zLet ((s48.2.2 a0 49).getD 0) fun v51 =>
      zLet (s48.1 v51 x28.toNatClampNeg) fun v52 =>
      zLet ((s48.2.2 a0 54).getD 0) fun v53 =>
      zLet (s48.1 v53 v52.toNatClampNeg) fun v54 =>
      zLet ((1 : Int32)) fun v55 =>
      zLet (v55 <<< (x8 &&& 31)) fun v56 =>
      zLet (v54 ||| v56) fun v57 =>
      zLet ((zu s48.1 v53 v52.toNatClampNeg v57, s48.2.1, s48.2.2)) fun s58 =>
      F_X11_fillsWays_61 x8 a0 kLp3 kLp9 n v52 s58
    else
      zLet (x8 + (1 : Int32)) fun v31 =>
      kLp9 v31 τ29
set_option maxRecDepth 100000 in
noncomputable def F_X11_fillsWays_25 (a0 : Nat) (kLp3 : Int32 → zS → zS) : Nat → Int32 → zS → zS
  | 0, _, s => s
  | n + 1, x8, τ9 =>
    zLet (F_X11_many a0  τ9) fun v11 =>
    if x8.toInt < v11.toInt then
      zLet ((τ9.2.2 a0 52).getD 0) fun v13 =>
      zLet ((0 : Int32)) fun v14 =>
      zLet ((zu τ9.1 v13 x8.toNatClampNeg v14, τ9.2.1, τ9.2.2)) fun s15 =>
      zLet ((s15.2.2 a0 53).getD 0) fun v17 =>
      zLet ((0 : Int32)) fun v18 =>
      zLet ((zu s15.1 v17 x8.toNatClampNeg v18, s15.2.1, s15.2.2)) fun s19 =>
      zLet ((s19.2.2 a0 54).getD 0) fun v21 =>
      zLet (s19.1 v21 x8.toNatClampNeg) fun v22 =>
      zLet ((1 : Int32)) fun v23 =>
      zLet (v23 <<< (x8 &&& 31)) fun v24 =>
      zLet (v22 ||| v24) fun v25 =>
      zLet ((zu s19.1 v21 x8.toNatClampNeg v25, s19.2.1, s19.2.2)) fun s26 =>
      F_X11_fillsWays_61 x8 a0 kLp3 (F_X11_fillsWays_25 a0 kLp3 n) 10000 x8 s26
    else
      τ9
set_option maxRecDepth 100000 in
noncomputable def F_X11_fillsWays_2 (a0 : Nat)  : Nat → Int32 → zS → zS
  | 0, _, s => s
  | n + 1, x2, τ3 =>
    zLet (F_X11_many a0  τ3) fun v5 =>
    if x2.toInt < v5.toInt then
      zLet ((τ3.2.2 a0 54).getD 0) fun v61 =>
      zLet ((0 : Int32)) fun v62 =>
      zLet ((zu τ3.1 v61 x2.toNatClampNeg v62, τ3.2.1, τ3.2.2)) fun s63 =>
      zLet (x2 + (1 : Int32)) fun v65 =>
      F_X11_fillsWays_2 a0  n v65 s63
    else
      zLet ((0 : Int32)) fun v7 =>
      F_X11_fillsWays_25 a0 (F_X11_fillsWays_2 a0  n) 10000 v7 τ3
set_option maxRecDepth 100000 in
noncomputable def F_X11_fillsWays (a0 : Nat) (σ : zS) : zS :=
  zLet ((0 : Int32)) fun v1 =>
  F_X11_fillsWays_2 a0  10000 v1 σ
set_option maxRecDepth 100000 in
noncomputable def F_X11_fillsFlows_38 (x8 : Int32) (a0 : Nat) (p1 : Int32) (kLp3 : Int32 → zS → zS) (kLp9 : Int32 → zS → zS) : Nat → Int32 → zS → zS
  | 0, _, s => s
  | n + 1, x12, τ13 =>
    zLet (F_X11_many a0  τ13) fun v15 =>
    if x12.toInt < v15.toInt then
      zLet ((τ13.2.2 a0 53).getD 0) fun v18 =>
      zLet (τ13.1 v18 x12.toNatClampNeg) fun v19 =>
      if v19.toInt = x8.toInt then
        zLet ((τ13.2.2 a0 49).getD 0) fun v22 =>
        zLet ((12 : Int32)) fun v23 =>
        zLet (v23 + x12) fun v24 =>
        zLet (τ13.1 v22 v24.toNatClampNeg) fun v25 =>
        zLet ((1 : Int32)) fun v26 =>
        if v25.toInt = v26.toInt then
          zLet (x12 + (1 : Int32)) fun v42 =>
          F_X11_fillsFlows_38 x8 a0 p1 kLp3 kLp9 n v42 τ13
        else
          zLet ((τ13.2.2 a0 55).getD 0) fun v28 =>
          zLet (τ13.1 v28 x12.toNatClampNeg) fun v29 =>
          zLet2 (F_X11_driesAt a0 x12 τ13) fun v31 t30 =>
          zLet (v29 - v31) fun v33 =>
          zLet ((t30.2.2 a0 55).getD 0) fun v34 =>
          zLet ((t30.2.2 a0 49).getD 0) fun v35 =>
          zLet (t30.1 v35 x12.toNatClampNeg) fun v36 =>
          zLet (t30.1 v34 v36.toNatClampNeg) fun v37 =>
          zLet (v37 + v33) fun v38 =>
          zLet ((zu t30.1 v34 v36.toNatClampNeg v38, t30.2.1, t30.2.2)) fun s39 =>
          zLet (x12 + (1 : Int32)) fun v41 =>
          F_X11_fillsFlows_38 x8 a0 p1 kLp3 kLp9 n v41 s39
      else
        zLet (x12 + (1 : Int32)) fun v21 =>
        F_X11_fillsFlows_38 x8 a0 p1 kLp3 kLp9 n v21 τ13
    else
      zLet (x8 + (-1 : Int32)) fun v17 =>
      kLp9 v17 τ13
set_option maxRecDepth 100000 in
noncomputable def F_X11_fillsFlows_32 (a0 : Nat) (p1 : Int32) (kLp3 : Int32 → zS → zS) : Nat → Int32 → zS → zS
  | 0, _, s => s
  | n + 1, x8, τ9 =>
    if 0 < x8.toInt then
      zLet ((1 : Int32)) fun v11 =>
      F_X11_fillsFlows_38 x8 a0 p1 kLp3 (F_X11_fillsFlows_32 a0 p1 kLp3 n) 10000 v11 τ9
    else
      τ9
set_option maxRecDepth 100000 in
noncomputable def F_X11_fillsFlows_2 (a0 : Nat) (p1 : Int32)  : Nat → Int32 → zS → zS
  | 0, _, s => s
  | n + 1, x2, τ3 =>
    zLet (F_X11_many a0  τ3) fun v5 =>
    if x2.toInt < v5.toInt then
      zLet ((τ3.2.2 a0 55).getD 0) fun v43 =>
      zLet2 (F_X11_rainsAt a0 x2 τ3) fun v45 t44 =>
      zLet (v45 + p1) fun v48 =>
      zLet ((zu t44.1 v43 x2.toNatClampNeg v48, t44.2.1, t44.2.2)) fun s49 =>
      zLet (x2 + (1 : Int32)) fun v51 =>
      F_X11_fillsFlows_2 a0 p1  n v51 s49
    else
      zLet ((11 : Int32)) fun v7 =>
      F_X11_fillsFlows_32 a0 p1 (F_X11_fillsFlows_2 a0 p1  n) 10000 v7 τ3
set_option maxRecDepth 100000 in
noncomputable def F_X11_fillsFlows (a0 : Nat) (p1 : Int32) (σ : zS) : zS :=
  zLet ((0 : Int32)) fun v1 =>
  F_X11_fillsFlows_2 a0 p1  10000 v1 σ
set_option maxRecDepth 100000 in
noncomputable def F_X11_copies_2 (a0 : Nat)  : Nat → Int32 → zS → zS
  | 0, _, s => s
  | n + 1, x2, τ3 =>
    zLet ((50 : Int32)) fun v4 =>
    if x2.toInt < v4.toInt then
      zLet ((τ3.2.2 a0 49).getD 0) fun v30 =>
      zLet ((τ3.2.2 a0 48).getD 0) fun v31 =>
      zLet (τ3.1 v31 x2.toNatClampNeg) fun v32 =>
      zLet ((zu τ3.1 v30 x2.toNatClampNeg v32, τ3.2.1, τ3.2.2)) fun s33 =>
      zLet (x2 + (1 : Int32)) fun v35 =>
      F_X11_copies_2 a0  n v35 s33
    else
      zLet ((τ3.2.2 a0 29).getD 0) fun v6 =>
      zLet (τ3.1 a0 18) fun v7 =>
      zLet (τ3.1 v6 v7.toNatClampNeg) fun v8 =>
      zLet ((zu τ3.1 a0 50 v8, τ3.2.1, τ3.2.2)) fun s9 =>
      zLet ((0 : Int32)) fun v13 =>
      zLet ((zu s9.1 a0 51 v13, s9.2.1, s9.2.2)) fun s14 =>
      zLet (F_X11_fillsWays a0  s14) fun t19 =>
      zLet ((0 : Int32)) fun v24 =>
      zLet (F_X11_fillsFlows a0 v24 t19) fun t25 =>
      t25
set_option maxRecDepth 100000 in
noncomputable def F_X11_copies (a0 : Nat) (σ : zS) : zS :=
  zLet ((0 : Int32)) fun v1 =>
  F_X11_copies_2 a0  10000 v1 σ
set_option maxRecDepth 100000 in
noncomputable def F_X11_isStorm (a0 : Nat) (σ : zS) : Int32 :=
  zLet (σ.1 a0 50) fun v1 =>
  zLet ((147 : Int32)) fun v2 =>
  zLet (F_X11_mixed v1 v2) fun v3 =>
  zLet ((4 : Int32)) fun v4 =>
  zLet ((σ.2.2 a0 49).getD 0) fun v5 =>
  zLet ((48 : Int32)) fun v6 =>
  zLet (σ.1 v5 v6.toNatClampNeg) fun v7 =>
  zLet (v4 * v7) fun v8 =>
  zLet (F_X11_mixed v3 v8) fun v9 =>
  zLet ((1 : Int32)) fun v10 =>
  zLet ((v9.toUInt32 >>> (v10.toUInt32 &&& Int32.toUInt32 31)).toInt32) fun v11 =>
  zLet ((100 : Int32)) fun v12 =>
  zLet (v11 - v11 / v12 * v12) fun v13 =>
  zLet ((σ.2.2 a0 26).getD 0) fun v14 =>
  zLet (σ.1 a0 18) fun v15 =>
  zLet (σ.1 v14 v15.toNatClampNeg) fun v16 =>
  if v13.toInt < v16.toInt then
    zLet ((1 : Int32)) fun v20 =>
    v20
  else
    zLet ((0 : Int32)) fun v19 =>
    v19
set_option maxRecDepth 100000 in
noncomputable def F_X11_monthGoes (a0 : Nat) (σ : zS) : zS :=
  zLet (σ.1 a0 51) fun v1 =>
  if v1.toInt = 0 then
    zLet (F_X11_isStorm a0  σ) fun v83 =>
    if v83.toInt = 0 then
      zLet ((0 : Int32)) fun v85 =>
      zLet (F_X11_fillsFlows a0 v85 σ) fun t86 =>
      zLet ((t86.2.2 a0 49).getD 0) fun v89 =>
      zLet ((49 : Int32)) fun v90 =>
      zLet (t86.1 v89 v90.toNatClampNeg) fun v91 =>
      zLet2 (F_X11_winnerBy a0 v91 t86) fun v93 t92 =>
      zLet ((zu t92.1 a0 56 v93, t92.2.1, t92.2.2)) fun s96 =>
      zLet (s96.1 a0 56) fun v100 =>
      if v100.toInt < 0 then
        zLet ((s96.2.2 a0 49).getD 0) fun v102 =>
        zLet ((48 : Int32)) fun v103 =>
        zLet (s96.1 v102 v103.toNatClampNeg) fun v104 =>
        zLet ((1 : Int32)) fun v105 =>
        zLet (v104 + v105) fun v106 =>
        zLet ((zu s96.1 v102 v103.toNatClampNeg v106, s96.2.1, s96.2.2)) fun s107 =>
        zLet ((0 : Int32)) fun v111 =>
        zLet (F_X11_fillsFlows a0 v111 s107) fun t112 =>
        t112
      else
        zLet ((s96.2.2 a0 49).getD 0) fun v116 =>
        zLet ((24 : Int32)) fun v117 =>
        zLet (s96.1 a0 56) fun v118 =>
        zLet (v117 + v118) fun v119 =>
        zLet ((s96.2.2 a0 49).getD 0) fun v120 =>
        zLet ((24 : Int32)) fun v121 =>
        zLet (s96.1 a0 56) fun v122 =>
        zLet (v121 + v122) fun v123 =>
        zLet (s96.1 v120 v123.toNatClampNeg) fun v124 =>
        zLet ((1 : Int32)) fun v125 =>
        zLet (v124 + v125) fun v126 =>
        zLet ((0 : Int32)) fun v127 =>
        zLet ((999 : Int32)) fun v128 =>
        zLet (F_X11_within v126 v127 v128) fun v129 =>
        zLet ((zu s96.1 v116 v119.toNatClampNeg v129, s96.2.1, s96.2.2)) fun s130 =>
        zLet ((s130.2.2 a0 49).getD 0) fun v134 =>
        zLet ((36 : Int32)) fun v135 =>
        zLet (s130.1 a0 56) fun v136 =>
        zLet (v135 + v136) fun v137 =>
        zLet (s130.1 v134 v137.toNatClampNeg) fun v138 =>
        zLet ((s130.2.2 a0 28).getD 0) fun v139 =>
        zLet (s130.1 a0 18) fun v140 =>
        zLet (s130.1 v139 v140.toNatClampNeg) fun v141 =>
        zLet (v138 + v141) fun v142 =>
        zLet ((zu s130.1 v134 v137.toNatClampNeg v142, s130.2.1, s130.2.2)) fun s143 =>
        zLet ((s143.2.2 a0 49).getD 0) fun v148 =>
        zLet ((48 : Int32)) fun v149 =>
        zLet (s143.1 v148 v149.toNatClampNeg) fun v150 =>
        zLet ((1 : Int32)) fun v151 =>
        zLet (v150 + v151) fun v152 =>
        zLet ((zu s143.1 v148 v149.toNatClampNeg v152, s143.2.1, s143.2.2)) fun s153 =>
        zLet ((0 : Int32)) fun v158 =>
        zLet (F_X11_fillsFlows a0 v158 s153) fun t159 =>
        t159
    else
      zLet ((σ.2.2 a0 27).getD 0) fun v164 =>
      zLet (σ.1 a0 18) fun v165 =>
      zLet (σ.1 v164 v165.toNatClampNeg) fun v166 =>
      zLet (F_X11_fillsFlows a0 v166 σ) fun t167 =>
      zLet ((t167.2.2 a0 49).getD 0) fun v171 =>
      zLet ((49 : Int32)) fun v172 =>
      zLet (t167.1 v171 v172.toNatClampNeg) fun v173 =>
      zLet2 (F_X11_winnerBy a0 v173 t167) fun v175 t174 =>
      zLet ((zu t174.1 a0 56 v175, t174.2.1, t174.2.2)) fun s179 =>
      zLet (s179.1 a0 56) fun v184 =>
      if v184.toInt < 0 then
        zLet ((s179.2.2 a0 49).getD 0) fun v186 =>
        zLet ((48 : Int32)) fun v187 =>
        zLet (s179.1 v186 v187.toNatClampNeg) fun v188 =>
        zLet ((1 : Int32)) fun v189 =>
        zLet (v188 + v189) fun v190 =>
        zLet ((zu s179.1 v186 v187.toNatClampNeg v190, s179.2.1, s179.2.2)) fun s191 =>
        zLet ((0 : Int32)) fun v196 =>
        zLet (F_X11_fillsFlows a0 v196 s191) fun t197 =>
        t197
      else
        zLet ((s179.2.2 a0 49).getD 0) fun v202 =>
        zLet ((24 : Int32)) fun v203 =>
        zLet (s179.1 a0 56) fun v204 =>
        zLet (v203 + v204) fun v205 =>
        zLet ((s179.2.2 a0 49).getD 0) fun v206 =>
        zLet ((24 : Int32)) fun v207 =>
        zLet (s179.1 a0 56) fun v208 =>
        zLet (v207 + v208) fun v209 =>
        zLet (s179.1 v206 v209.toNatClampNeg) fun v210 =>
        zLet ((1 : Int32)) fun v211 =>
        zLet (v210 + v211) fun v212 =>
        zLet ((0 : Int32)) fun v213 =>
        zLet ((999 : Int32)) fun v214 =>
        zLet (F_X11_within v212 v213 v214) fun v215 =>
        zLet ((zu s179.1 v202 v205.toNatClampNeg v215, s179.2.1, s179.2.2)) fun s216 =>
        zLet ((s216.2.2 a0 49).getD 0) fun v221 =>
        zLet ((36 : Int32)) fun v222 =>
        zLet (s216.1 a0 56) fun v223 =>
        zLet (v222 + v223) fun v224 =>
        zLet (s216.1 v221 v224.toNatClampNeg) fun v225 =>
        zLet ((s216.2.2 a0 28).getD 0) fun v226 =>
        zLet (s216.1 a0 18) fun v227 =>
        zLet (s216.1 v226 v227.toNatClampNeg) fun v228 =>
        zLet (v225 + v228) fun v229 =>
        zLet ((zu s216.1 v221 v224.toNatClampNeg v229, s216.2.1, s216.2.2)) fun s230 =>
        zLet ((s230.2.2 a0 49).getD 0) fun v235 =>
        zLet ((48 : Int32)) fun v236 =>
        zLet (s230.1 v235 v236.toNatClampNeg) fun v237 =>
        zLet ((1 : Int32)) fun v238 =>
        zLet (v237 + v238) fun v239 =>
        zLet ((zu s230.1 v235 v236.toNatClampNeg v239, s230.2.1, s230.2.2)) fun s240 =>
        zLet ((0 : Int32)) fun v245 =>
        zLet (F_X11_fillsFlows a0 v245 s240) fun t246 =>
        t246
  else
    zLet ((0 : Int32)) fun v3 =>
    zLet (F_X11_fillsFlows a0 v3 σ) fun t4 =>
    zLet ((t4.2.2 a0 49).getD 0) fun v7 =>
    zLet ((49 : Int32)) fun v8 =>
    zLet (t4.1 v7 v8.toNatClampNeg) fun v9 =>
    zLet2 (F_X11_winnerBy a0 v9 t4) fun v11 t10 =>
    zLet ((zu t10.1 a0 56 v11, t10.2.1, t10.2.2)) fun s14 =>
    zLet (s14.1 a0 56) fun v18 =>
    if v18.toInt < 0 then
      zLet ((s14.2.2 a0 49).getD 0) fun v20 =>
      zLet ((48 : Int32)) fun v21 =>
      zLet (s14.1 v20 v21.toNatClampNeg) fun v22 =>
      zLet ((1 : Int32)) fun v23 =>
      zLet (v22 + v23) fun v24 =>
      zLet ((zu s14.1 v20 v21.toNatClampNeg v24, s14.2.1, s14.2.2)) fun s25 =>
      zLet ((0 : Int32)) fun v29 =>
      zLet (F_X11_fillsFlows a0 v29 s25) fun t30 =>
      t30
    else
      zLet ((s14.2.2 a0 49).getD 0) fun v34 =>
      zLet ((24 : Int32)) fun v35 =>
      zLet (s14.1 a0 56) fun v36 =>
      zLet (v35 + v36) fun v37 =>
      zLet ((s14.2.2 a0 49).getD 0) fun v38 =>
      zLet ((24 : Int32)) fun v39 =>
      zLet (s14.1 a0 56) fun v40 =>
      zLet (v39 + v40) fun v41 =>
      zLet (s14.1 v38 v41.toNatClampNeg) fun v42 =>
      zLet ((1 : Int32)) fun v43 =>
      zLet (v42 + v43) fun v44 =>
      zLet ((0 : Int32)) fun v45 =>
      zLet ((999 : Int32)) fun v46 =>
      zLet (F_X11_within v44 v45 v46) fun v47 =>
      zLet ((zu s14.1 v34 v37.toNatClampNeg v47, s14.2.1, s14.2.2)) fun s48 =>
      zLet ((s48.2.2 a0 49).getD 0) fun v52 =>
      zLet ((36 : Int32)) fun v53 =>
      zLet (s48.1 a0 56) fun v54 =>
      zLet (v53 + v54) fun v55 =>
      zLet (s48.1 v52 v55.toNatClampNeg) fun v56 =>
      zLet ((s48.2.2 a0 28).getD 0) fun v57 =>
      zLet (s48.1 a0 18) fun v58 =>
      zLet (s48.1 v57 v58.toNatClampNeg) fun v59 =>
      zLet (v56 + v59) fun v60 =>
      zLet ((zu s48.1 v52 v55.toNatClampNeg v60, s48.2.1, s48.2.2)) fun s61 =>
      zLet ((s61.2.2 a0 49).getD 0) fun v66 =>
      zLet ((48 : Int32)) fun v67 =>
      zLet (s61.1 v66 v67.toNatClampNeg) fun v68 =>
      zLet ((1 : Int32)) fun v69 =>
      zLet (v68 + v69) fun v70 =>
      zLet ((zu s61.1 v66 v67.toNatClampNeg v70, s61.2.1, s61.2.2)) fun s71 =>
      zLet ((0 : Int32)) fun v76 =>
      zLet (F_X11_fillsFlows a0 v76 s71) fun t77 =>
      t77
set_option maxRecDepth 100000 in
noncomputable def F_X11_goes_2 (a0 : Nat) (p1 : Int32)  : Nat → Int32 → zS → zS
  | 0, _, s => s
  | n + 1, x2, τ3 =>
    if x2.toInt < p1.toInt then
      zLet (F_X11_monthGoes a0  τ3) fun t7 =>
      zLet (x2 + (1 : Int32)) fun v9 =>
      F_X11_goes_2 a0 p1  n v9 t7
    else
      τ3
set_option maxRecDepth 100000 in
noncomputable def F_X11_goes (a0 : Nat) (p1 : Int32) (σ : zS) : zS :=
  zLet ((0 : Int32)) fun v1 =>
  F_X11_goes_2 a0 p1  4294967299 v1 σ
set_option maxRecDepth 100000 in
noncomputable def F_X11_begins_23 (a0 : Nat) (kLp3 : Int32 → zS → zS) : Nat → Int32 → zS → zS
  | 0, _, s => s
  | n + 1, x7, τ8 =>
    zLet (F_X11_many a0  τ8) fun v10 =>
    if x7.toInt < v10.toInt then
      zLet ((τ8.2.2 a0 49).getD 0) fun v25 =>
      zLet ((τ8.2.2 a0 22).getD 0) fun v26 =>
      zLet ((12 : Int32)) fun v27 =>
      zLet (τ8.1 a0 18) fun v28 =>
      zLet (v27 * v28) fun v29 =>
      zLet (v29 + x7) fun v30 =>
      zLet (τ8.1 v26 v30.toNatClampNeg) fun v31 =>
      zLet ((zu τ8.1 v25 x7.toNatClampNeg v31, τ8.2.1, τ8.2.2)) fun s32 =>
      zLet (x7 + (1 : Int32)) fun v35 =>
      F_X11_begins_23 a0 kLp3 n v35 s32
    else
      zLet ((τ8.2.2 a0 29).getD 0) fun v12 =>
      zLet (τ8.1 a0 18) fun v13 =>
      zLet (τ8.1 v12 v13.toNatClampNeg) fun v14 =>
      zLet ((zu τ8.1 a0 50 v14, τ8.2.1, τ8.2.2)) fun s15 =>
      zLet ((0 : Int32)) fun v19 =>
      zLet ((zu s15.1 a0 51 v19, s15.2.1, s15.2.2)) fun s20 =>
      s20
set_option maxRecDepth 100000 in
noncomputable def F_X11_begins_2 (a0 : Nat)  : Nat → Int32 → zS → zS
  | 0, _, s => s
  | n + 1, x2, τ3 =>
    zLet ((50 : Int32)) fun v4 =>
    if x2.toInt < v4.toInt then
      zLet ((τ3.2.2 a0 49).getD 0) fun v36 =>
      zLet ((0 : Int32)) fun v37 =>
      zLet ((zu τ3.1 v36 x2.toNatClampNeg v37, τ3.2.1, τ3.2.2)) fun s38 =>
      zLet (x2 + (1 : Int32)) fun v40 =>
      F_X11_begins_2 a0  n v40 s38
    else
      zLet ((0 : Int32)) fun v6 =>
      F_X11_begins_23 a0 (F_X11_begins_2 a0  n) 10000 v6 τ3
set_option maxRecDepth 100000 in
noncomputable def F_X11_begins (a0 : Nat) (σ : zS) : zS :=
  zLet ((0 : Int32)) fun v1 =>
  F_X11_begins_2 a0  10000 v1 σ
set_option maxRecDepth 100000 in
noncomputable def F_X11_copiesStill (a0 : Nat) (σ : zS) : zS :=
  zLet (F_X11_copies a0  σ) fun t1 =>
  zLet ((1 : Int32)) fun v3 =>
  zLet ((zu t1.1 a0 51 v3, t1.2.1, t1.2.2)) fun s4 =>
  s4
set_option maxRecDepth 100000 in
noncomputable def F_X11_records_51 (a0 : Nat)  : Nat → Int32 → zS → zS
  | 0, _, s => s
  | n + 1, x5, τ6 =>
    zLet ((50 : Int32)) fun v7 =>
    if x5.toInt < v7.toInt then
      zLet ((τ6.2.2 a0 58).getD 0) fun v18 =>
      zLet ((50 : Int32)) fun v19 =>
      zLet (τ6.1 a0 57) fun v20 =>
      zLet (v19 * v20) fun v21 =>
      zLet (v21 + x5) fun v22 =>
      zLet ((τ6.2.2 a0 48).getD 0) fun v23 =>
      zLet (τ6.1 v23 x5.toNatClampNeg) fun v24 =>
      zLet ((zu τ6.1 v18 v22.toNatClampNeg v24, τ6.2.1, τ6.2.2)) fun s25 =>
      zLet (x5 + (1 : Int32)) fun v28 =>
      F_X11_records_51 a0  n v28 s25
    else
      zLet (τ6.1 a0 57) fun v9 =>
      zLet ((1 : Int32)) fun v10 =>
      zLet (v9 + v10) fun v11 =>
      zLet ((zu τ6.1 a0 57 v11, τ6.2.1, τ6.2.2)) fun s12 =>
      zLet (F_X11_keepsRow a0  s12) fun t15 =>
      t15
set_option maxRecDepth 100000 in
noncomputable def F_X11_records_51_1 (a0 : Nat) (kLp31 : Int32 → zS → zS) : Nat → Int32 → zS → zS
  | 0, _, s => s
  | n + 1, x41, τ42 =>
    zLet ((50 : Int32)) fun v43 =>
    if x41.toInt < v43.toInt then
      zLet ((τ42.2.2 a0 58).getD 0) fun v54 =>
      zLet ((50 : Int32)) fun v55 =>
      zLet (τ42.1 a0 57) fun v56 =>
      zLet (v55 * v56) fun v57 =>
      zLet (v57 + x41) fun v58 =>
      zLet ((τ42.2.2 a0 48).getD 0) fun v59 =>
      zLet (τ42.1 v59 x41.toNatClampNeg) fun v60 =>
      zLet ((zu τ42.1 v54 v58.toNatClampNeg v60, τ42.2.1, τ42.2.2)) fun s61 =>
      zLet (x41 + (1 : Int32)) fun v64 =>
      F_X11_records_51_1 a0 kLp31 n v64 s61
    else
      zLet (τ42.1 a0 57) fun v45 =>
      zLet ((1 : Int32)) fun v46 =>
      zLet (v45 + v46) fun v47 =>
      zLet ((zu τ42.1 a0 57 v47, τ42.2.1, τ42.2.2)) fun s48 =>
      zLet (F_X11_keepsRow a0  s48) fun t51 =>
      t51
set_option maxRecDepth 100000 in
noncomputable def F_X11_records_11 (a0 : Nat)  : Nat → Int32 → zS → zS
  | 0, _, s => s
  | n + 1, x30, τ31 =>
    zLet ((1950 : Int32)) fun v32 =>
    if x30.toInt < v32.toInt then
      zLet ((τ31.2.2 a0 58).getD 0) fun v65 =>
      zLet ((τ31.2.2 a0 58).getD 0) fun v66 =>
      zLet ((50 : Int32)) fun v67 =>
      zLet (x30 + v67) fun v68 =>
      zLet (τ31.1 v66 v68.toNatClampNeg) fun v69 =>
      zLet ((zu τ31.1 v65 x30.toNatClampNeg v69, τ31.2.1, τ31.2.2)) fun s70 =>
      zLet (x30 + (1 : Int32)) fun v72 =>
      F_X11_records_11 a0  n v72 s70
    else
      zLet (τ31.1 a0 57) fun v34 =>
      zLet ((1 : Int32)) fun v35 =>
      zLet (v34 - v35) fun v36 =>
      zLet ((zu τ31.1 a0 57 v36, τ31.2.1, τ31.2.2)) fun s37 =>
      zLet ((0 : Int32)) fun v40 =>
      F_X11_records_51_1 a0 (F_X11_records_11 a0  n) 10000 v40 s37
set_option maxRecDepth 100000 in
noncomputable def F_X11_records (a0 : Nat) (σ : zS) : zS :=
  zLet (σ.1 a0 57) fun v1 =>
  zLet ((40 : Int32)) fun v2 =>
  if v1.toInt = v2.toInt then
    zLet ((0 : Int32)) fun v29 =>
    F_X11_records_11 a0  10000 v29 σ
  else
    zLet ((0 : Int32)) fun v4 =>
    F_X11_records_51 a0  10000 v4 σ
set_option maxRecDepth 100000 in
noncomputable def F_X11_does (a0 : Nat) (p1 : Int32) (p2 : Int32) (σ : zS) : zS :=
  zLet (F_X11_copies a0  σ) fun t1 =>
  zLet ((t1.2.2 a0 49).getD 0) fun v3 =>
  zLet ((zu t1.1 v3 p1.toNatClampNeg p2, t1.2.1, t1.2.2)) fun s4 =>
  zLet (F_X11_records a0  s4) fun t6 =>
  t6
set_option maxRecDepth 100000 in
noncomputable def F_X11_spot (a0 : Nat) (p1 : Int32) (p2 : Int32) (σ : zS) : Int32 × zS :=
  zLet (F_X11_isPlace a0 p1 σ) fun v2 =>
  if v2.toInt = 0 then
    zLet ((-1 : Int32)) fun v72 =>
    (v72, σ)
  else
    zLet (F_X11_copies a0  σ) fun t4 =>
    if p2.toInt = 0 then
      zLet ((t4.2.2 a0 49).getD 0) fun v7 =>
      zLet (t4.1 v7 p1.toNatClampNeg) fun v8 =>
      (v8, t4)
    else
      if p2.toInt = 1 then
        zLet ((t4.2.2 a0 23).getD 0) fun v10 =>
        zLet ((12 : Int32)) fun v11 =>
        zLet (t4.1 a0 18) fun v12 =>
        zLet (v11 * v12) fun v13 =>
        zLet (v13 + p1) fun v14 =>
        zLet (t4.1 v10 v14.toNatClampNeg) fun v15 =>
        (v15, t4)
      else
        if p2.toInt = 2 then
          zLet ((t4.2.2 a0 24).getD 0) fun v17 =>
          zLet ((12 : Int32)) fun v18 =>
          zLet (t4.1 a0 18) fun v19 =>
          zLet (v18 * v19) fun v20 =>
          zLet (v20 + p1) fun v21 =>
          zLet (t4.1 v17 v21.toNatClampNeg) fun v22 =>
          (v22, t4)
        else
          if p2.toInt = 3 then
            zLet ((t4.2.2 a0 25).getD 0) fun v24 =>
            zLet ((12 : Int32)) fun v25 =>
            zLet (t4.1 a0 18) fun v26 =>
            zLet (v25 * v26) fun v27 =>
            zLet (v27 + p1) fun v28 =>
            zLet (t4.1 v24 v28.toNatClampNeg) fun v29 =>
            (v29, t4)
          else
            if p2.toInt = 4 then
              zLet ((t4.2.2 a0 49).getD 0) fun v31 =>
              zLet ((12 : Int32)) fun v32 =>
              zLet (v32 + p1) fun v33 =>
              zLet (t4.1 v31 v33.toNatClampNeg) fun v34 =>
              (v34, t4)
            else
              if p2.toInt = 5 then
                zLet ((t4.2.2 a0 55).getD 0) fun v36 =>
                zLet (t4.1 v36 p1.toNatClampNeg) fun v37 =>
                (v37, t4)
              else
                if p2.toInt = 6 then
                  zLet ((t4.2.2 a0 52).getD 0) fun v39 =>
                  zLet (t4.1 v39 p1.toNatClampNeg) fun v40 =>
                  (v40, t4)
                else
                  if p2.toInt = 7 then
                    zLet ((t4.2.2 a0 54).getD 0) fun v42 =>
                    zLet (t4.1 v42 p1.toNatClampNeg) fun v43 =>
                    zLet (F_X11_bits v43) fun v44 =>
                    zLet ((1 : Int32)) fun v45 =>
                    zLet (v44 - v45) fun v46 =>
                    (v46, t4)
                  else
                    if p2.toInt = 8 then
                      zLet (F_X11_isSource a0 p1 t4) fun v49 =>
                      if v49.toInt = 0 then
                        zLet ((0 : Int32)) fun v51 =>
                        (v51, t4)
                      else
                        zLet ((1 : Int32)) fun v52 =>
                        (v52, t4)
                    else
                      if p2.toInt = 9 then
                        zLet ((t4.2.2 a0 49).getD 0) fun v54 =>
                        zLet ((24 : Int32)) fun v55 =>
                        zLet (v55 + p1) fun v56 =>
                        zLet (t4.1 v54 v56.toNatClampNeg) fun v57 =>
                        (v57, t4)
                      else
                        if p2.toInt = 10 then
                          zLet ((t4.2.2 a0 49).getD 0) fun v59 =>
                          zLet ((36 : Int32)) fun v60 =>
                          zLet (v60 + p1) fun v61 =>
                          zLet (t4.1 v59 v61.toNatClampNeg) fun v62 =>
                          (v62, t4)
                        else
                          if p2.toInt = 11 then
                            zLet2 (F_X11_rainsAt a0 p1 t4) fun v65 t64 =>
                            (v65, t64)
                          else
                            if p2.toInt = 12 then
                              zLet2 (F_X11_driesAt a0 p1 t4) fun v69 t68 =>
                              (v69, t68)
                            else
                              zLet ((-1 : Int32)) fun v71 =>
                              (v71, t4)
set_option maxRecDepth 100000 in
noncomputable def F_X11_isClaim (a0 : Nat) (p1 : Int32) (p2 : Int32) (σ : zS) : Int32 × zS :=
  zLet (F_X11_copies a0  σ) fun t1 =>
  zLet (F_X11_isSource a0 p1 t1) fun v4 =>
  if v4.toInt = 0 then
    zLet ((0 : Int32)) fun v6 =>
    (v6, t1)
  else
    zLet (F_X11_isLaw p2) fun v7 =>
    if v7.toInt = 0 then
      zLet ((0 : Int32)) fun v9 =>
      (v9, t1)
    else
      zLet ((1 : Int32)) fun v10 =>
      (v10, t1)
set_option maxRecDepth 100000 in
noncomputable def F_X11_claim (a0 : Nat) (p1 : Int32) (p2 : Int32) (σ : zS) : Int32 × zS :=
  zLet2 (F_X11_isClaim a0 p1 p2 σ) fun v2 t1 =>
  if v2.toInt = 0 then
    zLet ((-1 : Int32)) fun v5 =>
    (v5, t1)
  else
    zLet2 (F_X11_claimOf a0 p1 p2 t1) fun v7 t6 =>
    (v7, t6)
set_option maxRecDepth 100000 in
noncomputable def F_X11_winner (a0 : Nat) (p1 : Int32) (σ : zS) : Int32 × zS :=
  zLet (F_X11_isLaw p1) fun v1 =>
  if v1.toInt = 0 then
    zLet ((-1 : Int32)) fun v8 =>
    (v8, σ)
  else
    zLet (F_X11_copies a0  σ) fun t3 =>
    zLet2 (F_X11_winnerBy a0 p1 t3) fun v6 t5 =>
    (v6, t5)
set_option maxRecDepth 100000 in
noncomputable def F_X11_canTurn (a0 : Nat) (p1 : Int32) (p2 : Int32) (σ : zS) : Int32 :=
  zLet (F_X11_isBeside a0 p1 σ) fun v2 =>
  if v2.toInt = 0 then
    zLet ((0 : Int32)) fun v4 =>
    v4
  else
    zLet (F_X11_isPlace a0 p2 σ) fun v6 =>
    if v6.toInt = 0 then
      zLet ((0 : Int32)) fun v8 =>
      v8
    else
      zLet ((σ.2.2 a0 48).getD 0) fun v9 =>
      zLet (σ.1 v9 p1.toNatClampNeg) fun v10 =>
      if v10.toInt = p2.toInt then
        zLet ((0 : Int32)) fun v12 =>
        v12
      else
        zLet ((σ.2.2 a0 54).getD 0) fun v13 =>
        zLet (σ.1 v13 p1.toNatClampNeg) fun v14 =>
        zLet (v14 >>> (p2 &&& 31)) fun v15 =>
        zLet ((1 : Int32)) fun v16 =>
        zLet (v15 &&& v16) fun v17 =>
        if v17.toInt = 0 then
          zLet ((1 : Int32)) fun v20 =>
          v20
        else
          zLet ((0 : Int32)) fun v19 =>
          v19
set_option maxRecDepth 100000 in
noncomputable def F_X11_turn (a0 : Nat) (p1 : Int32) (p2 : Int32) (σ : zS) : Int32 × zS :=
  zLet (F_X11_copies a0  σ) fun t1 =>
  zLet (F_X11_canTurn a0 p1 p2 t1) fun v4 =>
  if v4.toInt = 0 then
    zLet ((0 : Int32)) fun v9 =>
    (v9, t1)
  else
    zLet (F_X11_does a0 p1 p2 t1) fun t6 =>
    zLet ((1 : Int32)) fun v8 =>
    (v8, t6)
set_option maxRecDepth 100000 in
noncomputable def F_X11_dam (a0 : Nat) (p1 : Int32) (p2 : Int32) (σ : zS) : Int32 × zS :=
  zLet (F_X11_isBeside a0 p1 σ) fun v2 =>
  if v2.toInt = 0 then
    zLet ((0 : Int32)) fun v4 =>
    (v4, σ)
  else
    zLet ((σ.2.2 a0 48).getD 0) fun v5 =>
    zLet ((12 : Int32)) fun v6 =>
    zLet (v6 + p1) fun v7 =>
    zLet (σ.1 v5 v7.toNatClampNeg) fun v8 =>
    zLet ((1 : Int32)) fun v9 =>
    if v8.toInt = v9.toInt then
      zLet ((1 : Int32)) fun v25 =>
      if v25.toInt = p2.toInt then
        zLet ((0 : Int32)) fun v38 =>
        (v38, σ)
      else
        zLet ((12 : Int32)) fun v27 =>
        zLet (v27 + p1) fun v28 =>
        if p2.toInt = 0 then
          zLet ((0 : Int32)) fun v30 =>
          zLet (F_X11_does a0 v28 v30 σ) fun t31 =>
          zLet ((1 : Int32)) fun v33 =>
          (v33, t31)
        else
          zLet ((1 : Int32)) fun v34 =>
          zLet (F_X11_does a0 v28 v34 σ) fun t35 =>
          zLet ((1 : Int32)) fun v37 =>
          (v37, t35)
    else
      zLet ((0 : Int32)) fun v11 =>
      if v11.toInt = p2.toInt then
        zLet ((0 : Int32)) fun v24 =>
        (v24, σ)
      else
        zLet ((12 : Int32)) fun v13 =>
        zLet (v13 + p1) fun v14 =>
        if p2.toInt = 0 then
          zLet ((0 : Int32)) fun v16 =>
          zLet (F_X11_does a0 v14 v16 σ) fun t17 =>
          zLet ((1 : Int32)) fun v19 =>
          (v19, t17)
        else
          zLet ((1 : Int32)) fun v20 =>
          zLet (F_X11_does a0 v14 v20 σ) fun t21 =>
          zLet ((1 : Int32)) fun v23 =>
          (v23, t21)
set_option maxRecDepth 100000 in
noncomputable def F_X11_rule (a0 : Nat) (p1 : Int32) (σ : zS) : Int32 × zS :=
  zLet (F_X11_isLaw p1) fun v1 =>
  if v1.toInt = 0 then
    zLet ((0 : Int32)) fun v3 =>
    (v3, σ)
  else
    zLet ((σ.2.2 a0 48).getD 0) fun v4 =>
    zLet ((49 : Int32)) fun v5 =>
    zLet (σ.1 v4 v5.toNatClampNeg) fun v6 =>
    if v6.toInt = p1.toInt then
      zLet ((0 : Int32)) fun v12 =>
      (v12, σ)
    else
      zLet ((49 : Int32)) fun v8 =>
      zLet (F_X11_does a0 v8 p1 σ) fun t9 =>
      zLet ((1 : Int32)) fun v11 =>
      (v11, t9)
set_option maxRecDepth 100000 in
noncomputable def F_X11_months (a0 : Nat) (p1 : Int32) (σ : zS) : Int32 × zS :=
  zLet (F_X11_isLong p1) fun v1 =>
  if v1.toInt = 0 then
    zLet ((-1 : Int32)) fun v16 =>
    (v16, σ)
  else
    if p1.toInt = 0 then
      zLet ((σ.2.2 a0 48).getD 0) fun v13 =>
      zLet ((48 : Int32)) fun v14 =>
      zLet (σ.1 v13 v14.toNatClampNeg) fun v15 =>
      (v15, σ)
    else
      zLet (F_X11_copies a0  σ) fun t4 =>
      zLet (F_X11_goes a0 p1 t4) fun t6 =>
      zLet (F_X11_records a0  t6) fun t8 =>
      zLet ((t8.2.2 a0 48).getD 0) fun v10 =>
      zLet ((48 : Int32)) fun v11 =>
      zLet (t8.1 v10 v11.toNatClampNeg) fun v12 =>
      (v12, t8)
set_option maxRecDepth 100000 in
noncomputable def F_X11_undo_21 (a0 : Nat)  : Nat → Int32 → zS → Int32 × zS
  | 0, _, s => (0, s)
  | n + 1, x10, τ11 =>
    zLet ((50 : Int32)) fun v12 =>
    if x10.toInt < v12.toInt then
      zLet ((τ11.2.2 a0 48).getD 0) fun v15 =>
      zLet ((τ11.2.2 a0 58).getD 0) fun v16 =>
      zLet ((50 : Int32)) fun v17 =>
      zLet (τ11.1 a0 57) fun v18 =>
      zLet (v17 * v18) fun v19 =>
      zLet (v19 + x10) fun v20 =>
      zLet (τ11.1 v16 v20.toNatClampNeg) fun v21 =>
      zLet ((zu τ11.1 v15 x10.toNatClampNeg v21, τ11.2.1, τ11.2.2)) fun s22 =>
      zLet (x10 + (1 : Int32)) fun v25 =>
      F_X11_undo_21 a0  n v25 s22
    else
      zLet ((1 : Int32)) fun v14 =>
      (v14, τ11)
set_option maxRecDepth 100000 in
noncomputable def F_X11_undo (a0 : Nat) (σ : zS) : Int32 × zS :=
  zLet (σ.1 a0 57) fun v1 =>
  if v1.toInt = 0 then
    zLet ((0 : Int32)) fun v26 =>
    (v26, σ)
  else
    zLet (σ.1 a0 57) fun v3 =>
    zLet ((1 : Int32)) fun v4 =>
    zLet (v3 - v4) fun v5 =>
    zLet ((zu σ.1 a0 57 v5, σ.2.1, σ.2.2)) fun s6 =>
    zLet ((0 : Int32)) fun v9 =>
    F_X11_undo_21 a0  10000 v9 s6
set_option maxRecDepth 100000 in
noncomputable def F_X11_agree_17 (a0 : Nat) (p1 : Int32)  : Nat → Int32 → Int32 → zS → Int32 × zS
  | 0, _, _, s => (0, s)
  | n + 1, x7, x8, τ9 =>
    if x7.toInt < p1.toInt then
      zLet ((0 : Int32)) fun v13 =>
      zLet2 (F_X11_winnerBy a0 v13 τ9) fun v15 t14 =>
      if v15.toInt < 0 then
        zLet (F_X11_monthGoes a0  t14) fun t18 =>
        zLet (x7 + (1 : Int32)) fun v20 =>
        F_X11_agree_17 a0 p1  n v20 x8 t18
      else
        zLet ((1 : Int32)) fun v21 =>
        zLet2 (F_X11_winnerBy a0 v21 t14) fun v23 t22 =>
        if v23.toInt = v15.toInt then
          zLet ((2 : Int32)) fun v29 =>
          zLet2 (F_X11_winnerBy a0 v29 t22) fun v31 t30 =>
          if v31.toInt = v15.toInt then
            zLet (x8 + (1 : Int32)) fun v37 =>
            zLet (F_X11_monthGoes a0  t30) fun t38 =>
            zLet (x7 + (1 : Int32)) fun v40 =>
            F_X11_agree_17 a0 p1  n v40 v37 t38
          else
            zLet (F_X11_monthGoes a0  t30) fun t34 =>
            zLet (x7 + (1 : Int32)) fun v36 =>
            F_X11_agree_17 a0 p1  n v36 x8 t34
        else
          zLet (F_X11_monthGoes a0  t22) fun t26 =>
          zLet (x7 + (1 : Int32)) fun v28 =>
          F_X11_agree_17 a0 p1  n v28 x8 t26
    else
      (x8, τ9)
set_option maxRecDepth 100000 in
noncomputable def F_X11_agree (a0 : Nat) (p1 : Int32) (σ : zS) : Int32 × zS :=
  zLet (F_X11_isSome p1) fun v1 =>
  if v1.toInt = 0 then
    zLet ((-1 : Int32)) fun v41 =>
    (v41, σ)
  else
    zLet (F_X11_copiesStill a0  σ) fun t3 =>
    zLet ((0 : Int32)) fun v5 =>
    zLet ((0 : Int32)) fun v6 =>
    F_X11_agree_17 a0 p1  4294967299 v6 v5 t3
set_option maxRecDepth 100000 in
noncomputable def F_X11_behind (a0 : Nat) (p1 : Int32) (p2 : Int32) (σ : zS) : Int32 × zS :=
  zLet2 (F_X11_isClaim a0 p1 p2 σ) fun v2 t1 =>
  if v2.toInt = 0 then
    zLet ((-1 : Int32)) fun v15 =>
    (v15, t1)
  else
    zLet2 (F_X11_winnerBy a0 p2 t1) fun v6 t5 =>
    zLet2 (F_X11_claimOf a0 v6 p2 t5) fun v9 t8 =>
    zLet2 (F_X11_claimOf a0 p1 p2 t8) fun v12 t11 =>
    zLet (v9 - v12) fun v14 =>
    (v14, t11)
set_option maxRecDepth 100000 in
noncomputable def F_X11_margin_25 (v6 : Int32) (a0 : Nat) (p1 : Int32)  : Nat → Int32 → Int32 → zS → Int32 × zS
  | 0, _, _, s => (0, s)
  | n + 1, x10, x11, τ12 =>
    zLet (F_X11_many a0  τ12) fun v14 =>
    if x10.toInt < v14.toInt then
      if x10.toInt = v6.toInt then
        zLet (x10 + (1 : Int32)) fun v23 =>
        F_X11_margin_25 v6 a0 p1  n v23 x11 τ12
      else
        zLet (F_X11_isSource a0 x10 τ12) fun v25 =>
        if v25.toInt = 0 then
          zLet (x10 + (1 : Int32)) fun v27 =>
          F_X11_margin_25 v6 a0 p1  n v27 x11 τ12
        else
          zLet2 (F_X11_claimOf a0 x10 p1 τ12) fun v29 t28 =>
          if x11.toInt < v29.toInt then
            zLet2 (F_X11_claimOf a0 x10 p1 t28) fun v36 t35 =>
            zLet (x10 + (1 : Int32)) fun v38 =>
            F_X11_margin_25 v6 a0 p1  n v38 v36 t35
          else
            zLet (x10 + (1 : Int32)) fun v34 =>
            F_X11_margin_25 v6 a0 p1  n v34 x11 t28
    else
      if x11.toInt < 0 then
        zLet ((-2 : Int32)) fun v21 =>
        (v21, τ12)
      else
        zLet2 (F_X11_claimOf a0 v6 p1 τ12) fun v18 t17 =>
        zLet (v18 - x11) fun v20 =>
        (v20, t17)
set_option maxRecDepth 100000 in
noncomputable def F_X11_margin (a0 : Nat) (p1 : Int32) (σ : zS) : Int32 × zS :=
  zLet (F_X11_isLaw p1) fun v1 =>
  if v1.toInt = 0 then
    zLet ((-1 : Int32)) fun v39 =>
    (v39, σ)
  else
    zLet (F_X11_copies a0  σ) fun t3 =>
    zLet2 (F_X11_winnerBy a0 p1 t3) fun v6 t5 =>
    zLet ((-2 : Int32)) fun v8 =>
    zLet ((1 : Int32)) fun v9 =>
    F_X11_margin_25 v6 a0 p1  10000 v9 v8 t5
set_option maxRecDepth 100000 in
noncomputable def F_X11_richest_16 (a0 : Nat) (p1 : Int32) (σ : zS)  : Nat → Int32 → Int32 → Int32
  | 0, _, _ => 0
  | n + 1, x7, x8 =>
    zLet (F_X11_many a0  σ) fun v11 =>
    if x7.toInt < v11.toInt then
      zLet ((σ.2.2 a0 48).getD 0) fun v19 =>
      zLet ((36 : Int32)) fun v20 =>
      zLet (v20 + x7) fun v21 =>
      zLet (σ.1 v19 v21.toNatClampNeg) fun v22 =>
      if x8.toInt < 0 then
        zLet ((0 : Int32)) fun v33 =>
        if v33.toInt < v22.toInt then
          zLet (x7 + (1 : Int32)) fun v37 =>
          F_X11_richest_16 a0 p1 σ  n v37 x7
        else
          zLet (x7 + (1 : Int32)) fun v36 =>
          F_X11_richest_16 a0 p1 σ  n v36 x8
      else
        zLet ((σ.2.2 a0 48).getD 0) fun v24 =>
        zLet ((36 : Int32)) fun v25 =>
        zLet (v25 + x8) fun v26 =>
        zLet (σ.1 v24 v26.toNatClampNeg) fun v27 =>
        if v27.toInt < v22.toInt then
          zLet (x7 + (1 : Int32)) fun v32 =>
          F_X11_richest_16 a0 p1 σ  n v32 x7
        else
          zLet (x7 + (1 : Int32)) fun v31 =>
          F_X11_richest_16 a0 p1 σ  n v31 x8
    else
      if x8.toInt < 0 then
        x8
      else
        if p1.toInt = 0 then
          x8
        else
          zLet ((σ.2.2 a0 48).getD 0) fun v15 =>
          zLet ((36 : Int32)) fun v16 =>
          zLet (v16 + x8) fun v17 =>
          zLet (σ.1 v15 v17.toNatClampNeg) fun v18 =>
          v18
set_option maxRecDepth 100000 in
noncomputable def F_X11_richest (a0 : Nat) (p1 : Int32) (σ : zS) : Int32 :=
  zLet ((0 : Int32)) fun v1 =>
  zLet ((1 : Int32)) fun v2 =>
  zLet (F_X11_in p1 v1 v2) fun v3 =>
  if v3.toInt = 0 then
    zLet ((-1 : Int32)) fun v38 =>
    v38
  else
    zLet ((-2 : Int32)) fun v5 =>
    zLet ((1 : Int32)) fun v6 =>
    F_X11_richest_16 a0 p1 σ  10000 v6 v5
set_option maxRecDepth 100000 in
noncomputable def F_X11_rankOf_13 (v3 : Int32) (a0 : Nat) (p1 : Int32) (p2 : Int32)  : Nat → Int32 → Int32 → zS → Int32 × zS
  | 0, _, _, s => (0, s)
  | n + 1, x6, x7, τ8 =>
    zLet (F_X11_many a0  τ8) fun v10 =>
    if x6.toInt < v10.toInt then
      if x6.toInt = p1.toInt then
        zLet (x6 + (1 : Int32)) fun v13 =>
        F_X11_rankOf_13 v3 a0 p1 p2  n v13 x7 τ8
      else
        zLet (F_X11_isSource a0 x6 τ8) fun v15 =>
        if v15.toInt = 0 then
          zLet (x6 + (1 : Int32)) fun v31 =>
          F_X11_rankOf_13 v3 a0 p1 p2  n v31 x7 τ8
        else
          zLet2 (F_X11_claimOf a0 x6 p2 τ8) fun v18 t17 =>
          if v3.toInt < v18.toInt then
            zLet (x7 + (1 : Int32)) fun v23 =>
            zLet (x6 + (1 : Int32)) fun v24 =>
            F_X11_rankOf_13 v3 a0 p1 p2  n v24 v23 t17
          else
            if v18.toInt = v3.toInt then
              if x6.toInt < p1.toInt then
                zLet (x7 + (1 : Int32)) fun v29 =>
                zLet (x6 + (1 : Int32)) fun v30 =>
                F_X11_rankOf_13 v3 a0 p1 p2  n v30 v29 t17
              else
                zLet (x6 + (1 : Int32)) fun v28 =>
                F_X11_rankOf_13 v3 a0 p1 p2  n v28 x7 t17
            else
              zLet (x6 + (1 : Int32)) fun v26 =>
              F_X11_rankOf_13 v3 a0 p1 p2  n v26 x7 t17
    else
      (x7, τ8)
set_option maxRecDepth 100000 in
noncomputable def F_X11_rankOf (a0 : Nat) (p1 : Int32) (p2 : Int32) (σ : zS) : Int32 × zS :=
  zLet ((0 : Int32)) fun v1 =>
  zLet2 (F_X11_claimOf a0 p1 p2 σ) fun v3 t2 =>
  zLet ((1 : Int32)) fun v5 =>
  F_X11_rankOf_13 v3 a0 p1 p2  10000 v5 v1 t2
set_option maxRecDepth 100000 in
noncomputable def F_X11_rank (a0 : Nat) (p1 : Int32) (p2 : Int32) (σ : zS) : Int32 × zS :=
  zLet2 (F_X11_isClaim a0 p1 p2 σ) fun v2 t1 =>
  if v2.toInt = 0 then
    zLet ((-1 : Int32)) fun v5 =>
    (v5, t1)
  else
    zLet2 (F_X11_rankOf a0 p1 p2 t1) fun v7 t6 =>
    (v7, t6)
set_option maxRecDepth 100000 in
noncomputable def F_X11_vote_122 (a0 : Nat) (p1 : Int32) (kLp12 : Int32 → zS → Int32 × zS) (kLp17 : Int32 → zS → Int32 × zS) : Nat → Int32 → Int32 → zS → Int32 × zS
  | 0, _, _, s => (0, s)
  | n + 1, x23, x24, τ25 =>
    zLet ((3 : Int32)) fun v26 =>
    if x23.toInt < v26.toInt then
      zLet ((τ25.2.2 a0 59).getD 0) fun v31 =>
      zLet (τ25.1 v31 x23.toNatClampNeg) fun v32 =>
      zLet ((τ25.2.2 a0 59).getD 0) fun v33 =>
      zLet (τ25.1 v33 x24.toNatClampNeg) fun v34 =>
      if v34.toInt < v32.toInt then
        zLet (x23 + (1 : Int32)) fun v39 =>
        F_X11_vote_122 a0 p1 kLp12 kLp17 n v39 x23 τ25
      else
        zLet (x23 + (1 : Int32)) fun v38 =>
        F_X11_vote_122 a0 p1 kLp12 kLp17 n v38 x24 τ25
    else
      if p1.toInt = 0 then
        (x24, τ25)
      else
        zLet ((τ25.2.2 a0 59).getD 0) fun v29 =>
        zLet (τ25.1 v29 x24.toNatClampNeg) fun v30 =>
        (v30, τ25)
set_option maxRecDepth 100000 in
noncomputable def F_X11_vote_71 (x16 : Int32) (a0 : Nat) (p1 : Int32) (kLp12 : Int32 → zS → Int32 × zS) (kLp17 : Int32 → zS → Int32 × zS) : Nat → Int32 → Int32 → zS → Int32 × zS
  | 0, _, _, s => (0, s)
  | n + 1, x45, x46, τ47 =>
    zLet ((3 : Int32)) fun v48 =>
    if x45.toInt < v48.toInt then
      zLet2 (F_X11_rankOf a0 x16 x45 τ47) fun v58 t57 =>
      zLet2 (F_X11_rankOf a0 x16 x46 t57) fun v61 t60 =>
      if v58.toInt < v61.toInt then
        zLet (x45 + (1 : Int32)) fun v67 =>
        F_X11_vote_71 x16 a0 p1 kLp12 kLp17 n v67 x45 t60
      else
        zLet (x45 + (1 : Int32)) fun v66 =>
        F_X11_vote_71 x16 a0 p1 kLp12 kLp17 n v66 x46 t60
    else
      zLet ((τ47.2.2 a0 59).getD 0) fun v50 =>
      zLet (τ47.1 v50 x46.toNatClampNeg) fun v51 =>
      zLet ((1 : Int32)) fun v52 =>
      zLet (v51 + v52) fun v53 =>
      zLet ((zu τ47.1 v50 x46.toNatClampNeg v53, τ47.2.1, τ47.2.2)) fun s54 =>
      zLet (x16 + (1 : Int32)) fun v56 =>
      kLp17 v56 s54
set_option maxRecDepth 100000 in
noncomputable def F_X11_vote_47 (a0 : Nat) (p1 : Int32) (kLp12 : Int32 → zS → Int32 × zS) : Nat → Int32 → zS → Int32 × zS
  | 0, _, s => (0, s)
  | n + 1, x16, τ17 =>
    zLet (F_X11_many a0  τ17) fun v19 =>
    if x16.toInt < v19.toInt then
      zLet (F_X11_isSource a0 x16 τ17) fun v41 =>
      if v41.toInt = 0 then
        zLet (x16 + (1 : Int32)) fun v68 =>
        F_X11_vote_47 a0 p1 kLp12 n v68 τ17
      else
        zLet ((0 : Int32)) fun v43 =>
        zLet ((1 : Int32)) fun v44 =>
        F_X11_vote_71 x16 a0 p1 kLp12 (F_X11_vote_47 a0 p1 kLp12 n) 10000 v44 v43 τ17
    else
      zLet ((0 : Int32)) fun v21 =>
      zLet ((1 : Int32)) fun v22 =>
      F_X11_vote_122 a0 p1 kLp12 (F_X11_vote_47 a0 p1 kLp12 n) 10000 v22 v21 τ17
set_option maxRecDepth 100000 in
noncomputable def F_X11_vote_27 (a0 : Nat) (p1 : Int32)  : Nat → Int32 → zS → Int32 × zS
  | 0, _, s => (0, s)
  | n + 1, x11, τ12 =>
    zLet ((3 : Int32)) fun v13 =>
    if x11.toInt < v13.toInt then
      zLet ((τ12.2.2 a0 59).getD 0) fun v69 =>
      zLet ((0 : Int32)) fun v70 =>
      zLet ((zu τ12.1 v69 x11.toNatClampNeg v70, τ12.2.1, τ12.2.2)) fun s71 =>
      zLet (x11 + (1 : Int32)) fun v73 =>
      F_X11_vote_27 a0 p1  n v73 s71
    else
      zLet ((1 : Int32)) fun v15 =>
      F_X11_vote_47 a0 p1 (F_X11_vote_27 a0 p1  n) 10000 v15 τ12
set_option maxRecDepth 100000 in
noncomputable def F_X11_vote (a0 : Nat) (p1 : Int32) (σ : zS) : Int32 × zS :=
  zLet ((0 : Int32)) fun v1 =>
  zLet ((1 : Int32)) fun v2 =>
  zLet (F_X11_in p1 v1 v2) fun v3 =>
  if v3.toInt = 0 then
    zLet ((-1 : Int32)) fun v75 =>
    (v75, σ)
  else
    zLet (F_X11_copies a0  σ) fun t5 =>
    zLet (F_X11_sourceBits a0  t5) fun v8 =>
    if v8.toInt = 0 then
      zLet ((-2 : Int32)) fun v74 =>
      (v74, t5)
    else
      zLet ((0 : Int32)) fun v10 =>
      F_X11_vote_27 a0 p1  10000 v10 t5
set_option maxRecDepth 100000 in
noncomputable def F_X11_damsAll_6 (a0 : Nat) (p1 : Int32)  : Nat → Int32 → zS → zS
  | 0, _, s => s
  | n + 1, x4, τ5 =>
    zLet (F_X11_many a0  τ5) fun v7 =>
    if x4.toInt < v7.toInt then
      zLet (p1 >>> (x4 &&& 31)) fun v12 =>
      zLet ((1 : Int32)) fun v13 =>
      zLet (v12 &&& v13) fun v14 =>
      zLet ((1 : Int32)) fun v15 =>
      if v14.toInt = v15.toInt then
        zLet ((τ5.2.2 a0 49).getD 0) fun v18 =>
        zLet ((12 : Int32)) fun v19 =>
        zLet (v19 + x4) fun v20 =>
        zLet ((1 : Int32)) fun v21 =>
        zLet ((zu τ5.1 v18 v20.toNatClampNeg v21, τ5.2.1, τ5.2.2)) fun s22 =>
        zLet (x4 + (1 : Int32)) fun v24 =>
        F_X11_damsAll_6 a0 p1  n v24 s22
      else
        zLet (x4 + (1 : Int32)) fun v17 =>
        F_X11_damsAll_6 a0 p1  n v17 τ5
    else
      zLet ((0 : Int32)) fun v9 =>
      zLet (F_X11_fillsFlows a0 v9 τ5) fun t10 =>
      t10
set_option maxRecDepth 100000 in
noncomputable def F_X11_damsAll (a0 : Nat) (p1 : Int32) (σ : zS) : zS :=
  zLet (F_X11_copies a0  σ) fun t1 =>
  zLet ((1 : Int32)) fun v3 =>
  F_X11_damsAll_6 a0 p1  10000 v3 t1
set_option maxRecDepth 100000 in
noncomputable def F_X11_dams_40 (v15 : Int32) (a0 : Nat) (p1 : Int32) (p2 : Int32)  : Nat → Int32 → Int32 → zS → Int32 × zS
  | 0, _, _, s => (0, s)
  | n + 1, x18, x19, τ20 =>
    zLet ((1 : Int32)) fun v21 =>
    zLet (F_X11_many a0  τ20) fun v23 =>
    zLet (v21 <<< (v23 &&& 31)) fun v24 =>
    if x18.toInt < v24.toInt then
      zLet (F_X11_bits x18) fun v33 =>
      zLet ((3 : Int32)) fun v34 =>
      if v34.toInt < v33.toInt then
        zLet (x18 + (2 : Int32)) fun v37 =>
        F_X11_dams_40 v15 a0 p1 p2  n v37 x19 τ20
      else
        zLet (x18 &&& v15) fun v38 =>
        if v38.toInt = 0 then
          if x19.toInt < 0 then
            zLet (F_X11_damsAll a0 x18 τ20) fun t41 =>
            zLet ((t41.2.2 a0 55).getD 0) fun v43 =>
            zLet ((0 : Int32)) fun v44 =>
            zLet (t41.1 v43 v44.toNatClampNeg) fun v45 =>
            if p1.toInt < v45.toInt then
              zLet (x18 + (2 : Int32)) fun v49 =>
              F_X11_dams_40 v15 a0 p1 p2  n v49 x19 t41
            else
              zLet (x18 + (2 : Int32)) fun v50 =>
              F_X11_dams_40 v15 a0 p1 p2  n v50 x18 t41
          else
            zLet (F_X11_bits x18) fun v51 =>
            zLet (F_X11_bits x19) fun v52 =>
            if v52.toInt < v51.toInt then
              zLet (x18 + (2 : Int32)) fun v56 =>
              F_X11_dams_40 v15 a0 p1 p2  n v56 x19 τ20
            else
              zLet (F_X11_bits x18) fun v57 =>
              zLet (F_X11_bits x19) fun v58 =>
              if v57.toInt = v58.toInt then
                zLet (F_X11_isEarlier x18 x19) fun v70 =>
                if v70.toInt = 0 then
                  zLet (x18 + (2 : Int32)) fun v82 =>
                  F_X11_dams_40 v15 a0 p1 p2  n v82 x19 τ20
                else
                  zLet (F_X11_damsAll a0 x18 τ20) fun t72 =>
                  zLet ((t72.2.2 a0 55).getD 0) fun v74 =>
                  zLet ((0 : Int32)) fun v75 =>
                  zLet (t72.1 v74 v75.toNatClampNeg) fun v76 =>
                  if p1.toInt < v76.toInt then
                    zLet (x18 + (2 : Int32)) fun v80 =>
                    F_X11_dams_40 v15 a0 p1 p2  n v80 x19 t72
                  else
                    zLet (x18 + (2 : Int32)) fun v81 =>
                    F_X11_dams_40 v15 a0 p1 p2  n v81 x18 t72
              else
                zLet (F_X11_damsAll a0 x18 τ20) fun t60 =>
                zLet ((t60.2.2 a0 55).getD 0) fun v62 =>
                zLet ((0 : Int32)) fun v63 =>
                zLet (t60.1 v62 v63.toNatClampNeg) fun v64 =>
                if p1.toInt < v64.toInt then
                  zLet (x18 + (2 : Int32)) fun v68 =>
                  F_X11_dams_40 v15 a0 p1 p2  n v68 x19 t60
                else
                  zLet (x18 + (2 : Int32)) fun v69 =>
                  F_X11_dams_40 v15 a0 p1 p2  n v69 x18 t60
        else
          zLet (x18 + (2 : Int32)) fun v83 =>
          F_X11_dams_40 v15 a0 p1 p2  n v83 x19 τ20
    else
      if x19.toInt < 0 then
        zLet ((-2 : Int32)) fun v32 =>
        (v32, τ20)
      else
        zLet ((-1 : Int32)) fun v28 =>
        if p2.toInt = v28.toInt then
          zLet (F_X11_bits x19) fun v31 =>
          (v31, τ20)
        else
          zLet (F_X11_ithOf x19 p2) fun v30 =>
          (v30, τ20)
set_option maxRecDepth 100000 in
noncomputable def F_X11_dams (a0 : Nat) (p1 : Int32) (p2 : Int32) (σ : zS) : Int32 × zS :=
  zLet ((0 : Int32)) fun v1 =>
  zLet ((9999 : Int32)) fun v2 =>
  zLet (F_X11_in p1 v1 v2) fun v3 =>
  if v3.toInt = 0 then
    zLet ((-1 : Int32)) fun v5 =>
    (v5, σ)
  else
    zLet ((-1 : Int32)) fun v6 =>
    zLet ((2 : Int32)) fun v7 =>
    zLet (F_X11_in p2 v6 v7) fun v8 =>
    if v8.toInt = 0 then
      zLet ((-1 : Int32)) fun v10 =>
      (v10, σ)
    else
      zLet (F_X11_many a0  σ) fun v12 =>
      if v12.toInt = 0 then
        zLet ((-1 : Int32)) fun v84 =>
        (v84, σ)
      else
        zLet (F_X11_dammedBits a0  σ) fun v15 =>
        zLet ((-1 : Int32)) fun v16 =>
        zLet ((0 : Int32)) fun v17 =>
        F_X11_dams_40 v15 a0 p1 p2  10000 v17 v16 σ
set_option maxRecDepth 100000 in
noncomputable def F_X11_lossOf (a0 : Nat) (p1 : Int32) (σ : zS) : Int32 × zS :=
  zLet (F_X11_copies a0  σ) fun t1 =>
  zLet ((t1.2.2 a0 55).getD 0) fun v3 =>
  zLet ((0 : Int32)) fun v4 =>
  zLet (t1.1 v3 v4.toNatClampNeg) fun v5 =>
  zLet ((1 : Int32)) fun v6 =>
  zLet (v6 <<< (p1 &&& 31)) fun v7 =>
  zLet (F_X11_damsAll a0 v7 t1) fun t8 =>
  zLet ((t8.2.2 a0 55).getD 0) fun v10 =>
  zLet ((0 : Int32)) fun v11 =>
  zLet (t8.1 v10 v11.toNatClampNeg) fun v12 =>
  zLet (v5 - v12) fun v13 =>
  (v13, t8)
set_option maxRecDepth 100000 in
noncomputable def F_X11_loss (a0 : Nat) (p1 : Int32) (σ : zS) : Int32 × zS :=
  zLet (F_X11_isBeside a0 p1 σ) fun v2 =>
  if v2.toInt = 0 then
    zLet ((-1 : Int32)) fun v4 =>
    (v4, σ)
  else
    zLet2 (F_X11_lossOf a0 p1 σ) fun v6 t5 =>
    (v6, t5)
set_option maxRecDepth 100000 in
noncomputable def F_X11_part (a0 : Nat) (p1 : Int32) (σ : zS) : Int32 × zS :=
  zLet (F_X11_isBeside a0 p1 σ) fun v2 =>
  if v2.toInt = 0 then
    zLet ((-1 : Int32)) fun v20 =>
    (v20, σ)
  else
    zLet2 (F_X11_lossOf a0 p1 σ) fun v5 t4 =>
    zLet (F_X11_copies a0  t4) fun t7 =>
    zLet ((t7.2.2 a0 55).getD 0) fun v9 =>
    zLet ((0 : Int32)) fun v10 =>
    zLet (t7.1 v9 v10.toNatClampNeg) fun v11 =>
    if v11.toInt = 0 then
      zLet ((0 : Int32)) fun v19 =>
      (v19, t7)
    else
      zLet ((1000 : Int32)) fun v13 =>
      zLet (v13 * v5) fun v14 =>
      zLet ((t7.2.2 a0 55).getD 0) fun v15 =>
      zLet ((0 : Int32)) fun v16 =>
      zLet (t7.1 v15 v16.toNatClampNeg) fun v17 =>
      zLet (v14 / v17) fun v18 =>
      (v18, t7)
set_option maxRecDepth 100000 in
noncomputable def F_X11_main_32 (x10 : Int32) (x11 : Int32) (a0 : Nat) (p1 : Int32) (kLp12 : Int32 → Int32 → zS → Int32 × zS) : Nat → Int32 → Int32 → zS → Int32 × zS
  | 0, _, _, s => (0, s)
  | n + 1, x18, x19, τ20 =>
    zLet (F_X11_many a0  τ20) fun v22 =>
    if x18.toInt < v22.toInt then
      zLet ((τ20.2.2 a0 49).getD 0) fun v27 =>
      zLet (τ20.1 v27 x18.toNatClampNeg) fun v28 =>
      if v28.toInt = x11.toInt then
        if x19.toInt < 0 then
          zLet (x18 + (1 : Int32)) fun v32 =>
          F_X11_main_32 x10 x11 a0 p1 kLp12 n v32 x18 τ20
        else
          zLet ((τ20.2.2 a0 55).getD 0) fun v33 =>
          zLet (τ20.1 v33 x18.toNatClampNeg) fun v34 =>
          zLet ((τ20.2.2 a0 55).getD 0) fun v35 =>
          zLet (τ20.1 v35 x19.toNatClampNeg) fun v36 =>
          if v36.toInt < v34.toInt then
            zLet (x18 + (1 : Int32)) fun v41 =>
            F_X11_main_32 x10 x11 a0 p1 kLp12 n v41 x18 τ20
          else
            zLet (x18 + (1 : Int32)) fun v40 =>
            F_X11_main_32 x10 x11 a0 p1 kLp12 n v40 x19 τ20
      else
        zLet (x18 + (1 : Int32)) fun v30 =>
        F_X11_main_32 x10 x11 a0 p1 kLp12 n v30 x19 τ20
    else
      if x19.toInt < 0 then
        zLet ((-1 : Int32)) fun v26 =>
        (v26, τ20)
      else
        zLet (x10 + (1 : Int32)) fun v25 =>
        kLp12 v25 x19 τ20
set_option maxRecDepth 100000 in
noncomputable def F_X11_main_21 (a0 : Nat) (p1 : Int32)  : Nat → Int32 → Int32 → zS → Int32 × zS
  | 0, _, _, s => (0, s)
  | n + 1, x10, x11, τ12 =>
    if x10.toInt < p1.toInt then
      zLet ((-1 : Int32)) fun v16 =>
      zLet ((1 : Int32)) fun v17 =>
      F_X11_main_32 x10 x11 a0 p1 (F_X11_main_21 a0 p1  n) 10000 v17 v16 τ12
    else
      (x11, τ12)
set_option maxRecDepth 100000 in
noncomputable def F_X11_main (a0 : Nat) (p1 : Int32) (σ : zS) : Int32 × zS :=
  if p1.toInt < 0 then
    zLet ((-1 : Int32)) fun v2 =>
    (v2, σ)
  else
    zLet (F_X11_many a0  σ) fun v4 =>
    if v4.toInt = 0 then
      zLet ((-1 : Int32)) fun v42 =>
      (v42, σ)
    else
      zLet (F_X11_copies a0  σ) fun t6 =>
      zLet ((0 : Int32)) fun v8 =>
      zLet ((0 : Int32)) fun v9 =>
      F_X11_main_21 a0 p1  4294967299 v9 v8 t6
set_option maxRecDepth 100000 in
noncomputable def F_X11_driest_37 (a0 : Nat) (p1 : Int32) (p2 : Int32)  : Nat → Int32 → Int32 → Int32 → zS → Int32 × zS
  | 0, _, _, _, s => (0, s)
  | n + 1, x17, x18, x19, τ20 =>
    if x17.toInt < p1.toInt then
      if x19.toInt < 0 then
        zLet ((τ20.2.2 a0 55).getD 0) fun v26 =>
        zLet ((0 : Int32)) fun v27 =>
        zLet (τ20.1 v26 v27.toNatClampNeg) fun v28 =>
        zLet (F_X11_monthGoes a0  τ20) fun t29 =>
        zLet (x17 + (1 : Int32)) fun v31 =>
        F_X11_driest_37 a0 p1 p2  n v31 v28 x17 t29
      else
        zLet ((τ20.2.2 a0 55).getD 0) fun v32 =>
        zLet ((0 : Int32)) fun v33 =>
        zLet (τ20.1 v32 v33.toNatClampNeg) fun v34 =>
        if v34.toInt < x18.toInt then
          zLet ((τ20.2.2 a0 55).getD 0) fun v41 =>
          zLet ((0 : Int32)) fun v42 =>
          zLet (τ20.1 v41 v42.toNatClampNeg) fun v43 =>
          zLet (F_X11_monthGoes a0  τ20) fun t44 =>
          zLet (x17 + (1 : Int32)) fun v46 =>
          F_X11_driest_37 a0 p1 p2  n v46 v43 x17 t44
        else
          zLet (F_X11_monthGoes a0  τ20) fun t38 =>
          zLet (x17 + (1 : Int32)) fun v40 =>
          F_X11_driest_37 a0 p1 p2  n v40 x18 x19 t38
    else
      if p2.toInt = 0 then
        (x19, τ20)
      else
        (x18, τ20)
set_option maxRecDepth 100000 in
noncomputable def F_X11_driest (a0 : Nat) (p1 : Int32) (p2 : Int32) (σ : zS) : Int32 × zS :=
  zLet (F_X11_isSome p1) fun v1 =>
  if v1.toInt = 0 then
    zLet ((-1 : Int32)) fun v3 =>
    (v3, σ)
  else
    zLet ((0 : Int32)) fun v4 =>
    zLet ((1 : Int32)) fun v5 =>
    zLet (F_X11_in p2 v4 v5) fun v6 =>
    if v6.toInt = 0 then
      zLet ((-1 : Int32)) fun v8 =>
      (v8, σ)
    else
      zLet (F_X11_many a0  σ) fun v10 =>
      if v10.toInt = 0 then
        zLet ((-1 : Int32)) fun v47 =>
        (v47, σ)
      else
        zLet (F_X11_copiesStill a0  σ) fun t12 =>
        zLet ((-1 : Int32)) fun v14 =>
        zLet ((0 : Int32)) fun v15 =>
        zLet ((0 : Int32)) fun v16 =>
        F_X11_driest_37 a0 p1 p2  4294967299 v16 v15 v14 t12
set_option maxRecDepth 100000 in
noncomputable def F_X11_winsTurned (a0 : Nat) (p1 : Int32) (p2 : Int32) (p3 : Int32) (p4 : Int32) (σ : zS) : Int32 × zS :=
  zLet (F_X11_copies a0  σ) fun t1 =>
  if p3.toInt = p1.toInt then
    zLet ((0 : Int32)) fun v4 =>
    (v4, t1)
  else
    if p4.toInt = p1.toInt then
      zLet ((0 : Int32)) fun v6 =>
      (v6, t1)
    else
      zLet (F_X11_canTurn a0 p3 p4 t1) fun v8 =>
      if v8.toInt = 0 then
        zLet ((0 : Int32)) fun v24 =>
        (v24, t1)
      else
        zLet ((t1.2.2 a0 49).getD 0) fun v10 =>
        zLet ((zu t1.1 v10 p3.toNatClampNeg p4, t1.2.1, t1.2.2)) fun s11 =>
        zLet (F_X11_fillsWays a0  s11) fun t13 =>
        zLet ((0 : Int32)) fun v15 =>
        zLet (F_X11_fillsFlows a0 v15 t13) fun t16 =>
        zLet2 (F_X11_winnerBy a0 p2 t16) fun v19 t18 =>
        if v19.toInt = p1.toInt then
          zLet ((1 : Int32)) fun v23 =>
          (v23, t18)
        else
          zLet ((0 : Int32)) fun v22 =>
          (v22, t18)
set_option maxRecDepth 100000 in
noncomputable def F_X11_turnFor_24 (x6 : Int32) (a0 : Nat) (p1 : Int32) (p2 : Int32) (kLp7 : Int32 → zS → Int32 × zS) : Nat → Int32 → zS → Int32 × zS
  | 0, _, s => (0, s)
  | n + 1, x13, τ14 =>
    zLet (F_X11_many a0  τ14) fun v16 =>
    if x13.toInt < v16.toInt then
      zLet2 (F_X11_winsTurned a0 p1 p2 x6 x13 τ14) fun v20 t19 =>
      if v20.toInt = 0 then
        zLet (x13 + (1 : Int32)) fun v23 =>
        F_X11_turnFor_24 x6 a0 p1 p2 kLp7 n v23 t19
      else
        zLet ((100 : Int32)) fun v24 =>
        zLet (v24 * x6) fun v25 =>
        zLet (v25 + x13) fun v26 =>
        (v26, t19)
    else
      zLet (x6 + (1 : Int32)) fun v18 =>
      kLp7 v18 τ14
set_option maxRecDepth 100000 in
noncomputable def F_X11_turnFor_13 (a0 : Nat) (p1 : Int32) (p2 : Int32)  : Nat → Int32 → zS → Int32 × zS
  | 0, _, s => (0, s)
  | n + 1, x6, τ7 =>
    zLet (F_X11_many a0  τ7) fun v9 =>
    if x6.toInt < v9.toInt then
      zLet ((0 : Int32)) fun v12 =>
      F_X11_turnFor_24 x6 a0 p1 p2 (F_X11_turnFor_13 a0 p1 p2  n) 10000 v12 τ7
    else
      zLet ((-2 : Int32)) fun v11 =>
      (v11, τ7)
set_option maxRecDepth 100000 in
noncomputable def F_X11_turnFor (a0 : Nat) (p1 : Int32) (p2 : Int32) (σ : zS) : Int32 × zS :=
  zLet2 (F_X11_isClaim a0 p1 p2 σ) fun v2 t1 =>
  if v2.toInt = 0 then
    zLet ((-1 : Int32)) fun v27 =>
    (v27, t1)
  else
    zLet ((1 : Int32)) fun v5 =>
    F_X11_turnFor_13 a0 p1 p2  10000 v5 t1
set_option maxRecDepth 100000 in
noncomputable def F_X11_damFor_13 (a0 : Nat) (p1 : Int32) (p2 : Int32)  : Nat → Int32 → zS → Int32 × zS
  | 0, _, s => (0, s)
  | n + 1, x6, τ7 =>
    zLet (F_X11_many a0  τ7) fun v9 =>
    if x6.toInt < v9.toInt then
      zLet ((τ7.2.2 a0 48).getD 0) fun v12 =>
      zLet ((12 : Int32)) fun v13 =>
      zLet (v13 + x6) fun v14 =>
      zLet (τ7.1 v12 v14.toNatClampNeg) fun v15 =>
      zLet ((1 : Int32)) fun v16 =>
      if v15.toInt = v16.toInt then
        zLet (x6 + (1 : Int32)) fun v27 =>
        F_X11_damFor_13 a0 p1 p2  n v27 τ7
      else
        zLet ((1 : Int32)) fun v18 =>
        zLet (v18 <<< (x6 &&& 31)) fun v19 =>
        zLet (F_X11_damsAll a0 v19 τ7) fun t20 =>
        zLet2 (F_X11_winnerBy a0 p2 t20) fun v23 t22 =>
        if v23.toInt = p1.toInt then
          (x6, t22)
        else
          zLet (x6 + (1 : Int32)) fun v26 =>
          F_X11_damFor_13 a0 p1 p2  n v26 t22
    else
      zLet ((-2 : Int32)) fun v11 =>
      (v11, τ7)
set_option maxRecDepth 100000 in
noncomputable def F_X11_damFor (a0 : Nat) (p1 : Int32) (p2 : Int32) (σ : zS) : Int32 × zS :=
  zLet2 (F_X11_isClaim a0 p1 p2 σ) fun v2 t1 =>
  if v2.toInt = 0 then
    zLet ((-1 : Int32)) fun v28 =>
    (v28, t1)
  else
    zLet ((1 : Int32)) fun v5 =>
    F_X11_damFor_13 a0 p1 p2  10000 v5 t1
set_option maxRecDepth 100000 in
noncomputable def F_X11_depth_8 (a0 : Nat)  : Nat → Int32 → Int32 → zS → Int32 × zS
  | 0, _, _, s => (0, s)
  | n + 1, x5, x6, τ7 =>
    zLet (F_X11_many a0  τ7) fun v9 =>
    if x5.toInt < v9.toInt then
      zLet (F_X11_isSource a0 x5 τ7) fun v12 =>
      if v12.toInt = 0 then
        zLet (x5 + (1 : Int32)) fun v14 =>
        F_X11_depth_8 a0  n v14 x6 τ7
      else
        zLet ((τ7.2.2 a0 53).getD 0) fun v15 =>
        zLet (τ7.1 v15 x5.toNatClampNeg) fun v16 =>
        zLet ((1 : Int32)) fun v17 =>
        zLet (v16 + v17) fun v18 =>
        if x6.toInt < v18.toInt then
          zLet ((τ7.2.2 a0 53).getD 0) fun v23 =>
          zLet (τ7.1 v23 x5.toNatClampNeg) fun v24 =>
          zLet ((1 : Int32)) fun v25 =>
          zLet (v24 + v25) fun v26 =>
          zLet (x5 + (1 : Int32)) fun v27 =>
          F_X11_depth_8 a0  n v27 v26 τ7
        else
          zLet (x5 + (1 : Int32)) fun v22 =>
          F_X11_depth_8 a0  n v22 x6 τ7
    else
      (x6, τ7)
set_option maxRecDepth 100000 in
noncomputable def F_X11_depth (a0 : Nat) (σ : zS) : Int32 × zS :=
  zLet (F_X11_copies a0  σ) fun t1 =>
  zLet ((0 : Int32)) fun v3 =>
  zLet ((1 : Int32)) fun v4 =>
  F_X11_depth_8 a0  10000 v4 v3 t1
set_option maxRecDepth 100000 in
noncomputable def F_X11_orderAt_7 (a0 : Nat) (p1 : Int32) (σ : zS)  : Nat → Int32 → Int32 → Int32 → Int32
  | 0, _, _, _ => 0
  | n + 1, x4, x5, x6 =>
    zLet (F_X11_many a0  σ) fun v9 =>
    if x4.toInt < v9.toInt then
      zLet ((σ.2.2 a0 49).getD 0) fun v18 =>
      zLet (σ.1 v18 x4.toNatClampNeg) fun v19 =>
      if v19.toInt = p1.toInt then
        zLet ((σ.2.2 a0 60).getD 0) fun v22 =>
        zLet (σ.1 v22 x4.toNatClampNeg) fun v23 =>
        if v23.toInt < x6.toInt then
          zLet (x4 + (1 : Int32)) fun v41 =>
          F_X11_orderAt_7 a0 p1 σ  n v41 x5 x6
        else
          zLet ((σ.2.2 a0 60).getD 0) fun v27 =>
          zLet (σ.1 v27 x4.toNatClampNeg) fun v28 =>
          if x6.toInt < v28.toInt then
            zLet ((1 : Int32)) fun v37 =>
            zLet ((σ.2.2 a0 60).getD 0) fun v38 =>
            zLet (σ.1 v38 x4.toNatClampNeg) fun v39 =>
            zLet (x4 + (1 : Int32)) fun v40 =>
            F_X11_orderAt_7 a0 p1 σ  n v40 v37 v39
          else
            zLet ((1 : Int32)) fun v32 =>
            zLet (x5 + v32) fun v33 =>
            zLet ((σ.2.2 a0 60).getD 0) fun v34 =>
            zLet (σ.1 v34 x4.toNatClampNeg) fun v35 =>
            zLet (x4 + (1 : Int32)) fun v36 =>
            F_X11_orderAt_7 a0 p1 σ  n v36 v33 v35
      else
        zLet (x4 + (1 : Int32)) fun v21 =>
        F_X11_orderAt_7 a0 p1 σ  n v21 x5 x6
    else
      if x6.toInt = 0 then
        zLet ((1 : Int32)) fun v17 =>
        v17
      else
        zLet ((1 : Int32)) fun v12 =>
        if v12.toInt < x5.toInt then
          zLet ((1 : Int32)) fun v15 =>
          zLet (x6 + v15) fun v16 =>
          v16
        else
          x6
set_option maxRecDepth 100000 in
noncomputable def F_X11_orderAt (a0 : Nat) (p1 : Int32) (σ : zS) : Int32 :=
  zLet ((0 : Int32)) fun v1 =>
  zLet ((0 : Int32)) fun v2 =>
  zLet ((1 : Int32)) fun v3 =>
  F_X11_orderAt_7 a0 p1 σ  10000 v3 v2 v1
set_option maxRecDepth 100000 in
noncomputable def F_X11_order_23 (x7 : Int32) (a0 : Nat) (p1 : Int32) (kLp8 : Int32 → zS → Int32 × zS) : Nat → Int32 → zS → Int32 × zS
  | 0, _, s => (0, s)
  | n + 1, x13, τ14 =>
    zLet (F_X11_many a0  τ14) fun v16 =>
    if x13.toInt < v16.toInt then
      zLet ((τ14.2.2 a0 53).getD 0) fun v19 =>
      zLet (τ14.1 v19 x13.toNatClampNeg) fun v20 =>
      if v20.toInt = x7.toInt then
        zLet ((τ14.2.2 a0 60).getD 0) fun v23 =>
        zLet (F_X11_orderAt a0 x13 τ14) fun v25 =>
        zLet ((zu τ14.1 v23 x13.toNatClampNeg v25, τ14.2.1, τ14.2.2)) fun s26 =>
        zLet (x13 + (1 : Int32)) fun v28 =>
        F_X11_order_23 x7 a0 p1 kLp8 n v28 s26
      else
        zLet (x13 + (1 : Int32)) fun v22 =>
        F_X11_order_23 x7 a0 p1 kLp8 n v22 τ14
    else
      zLet (x7 + (-1 : Int32)) fun v18 =>
      kLp8 v18 τ14
set_option maxRecDepth 100000 in
noncomputable def F_X11_order_17 (a0 : Nat) (p1 : Int32)  : Nat → Int32 → zS → Int32 × zS
  | 0, _, s => (0, s)
  | n + 1, x7, τ8 =>
    if x7.toInt < 0 then
      zLet ((τ8.2.2 a0 60).getD 0) fun v10 =>
      zLet (τ8.1 v10 p1.toNatClampNeg) fun v11 =>
      (v11, τ8)
    else
      zLet ((0 : Int32)) fun v12 =>
      F_X11_order_23 x7 a0 p1 (F_X11_order_17 a0 p1  n) 10000 v12 τ8
set_option maxRecDepth 100000 in
noncomputable def F_X11_order (a0 : Nat) (p1 : Int32) (σ : zS) : Int32 × zS :=
  zLet (F_X11_isPlace a0 p1 σ) fun v2 =>
  if v2.toInt = 0 then
    zLet ((-1 : Int32)) fun v29 =>
    (v29, σ)
  else
    zLet (F_X11_copies a0  σ) fun t4 =>
    zLet ((11 : Int32)) fun v6 =>
    F_X11_order_17 a0 p1  10000 v6 t4
set_option maxRecDepth 100000 in
noncomputable def F_X11_basin_39 (a0 : Nat) (p1 : Int32) (p2 : Int32)  : Nat → Int32 → Int32 → zS → Int32 × zS
  | 0, _, _, s => (0, s)
  | n + 1, x14, x15, τ16 =>
    zLet (F_X11_many a0  τ16) fun v18 =>
    if x14.toInt < v18.toInt then
      zLet ((τ16.2.2 a0 54).getD 0) fun v20 =>
      zLet (τ16.1 v20 p1.toNatClampNeg) fun v21 =>
      zLet (v21 >>> (x14 &&& 31)) fun v22 =>
      zLet ((1 : Int32)) fun v23 =>
      zLet (v22 &&& v23) fun v24 =>
      zLet ((1 : Int32)) fun v25 =>
      if v24.toInt = v25.toInt then
        zLet2 (F_X11_rainsAt a0 x14 τ16) fun v29 t28 =>
        zLet (x15 + v29) fun v31 =>
        zLet (x14 + (1 : Int32)) fun v32 =>
        F_X11_basin_39 a0 p1 p2  n v32 v31 t28
      else
        zLet (x14 + (1 : Int32)) fun v27 =>
        F_X11_basin_39 a0 p1 p2  n v27 x15 τ16
    else
      (x15, τ16)
set_option maxRecDepth 100000 in
noncomputable def F_X11_basin (a0 : Nat) (p1 : Int32) (p2 : Int32) (σ : zS) : Int32 × zS :=
  zLet (F_X11_isPlace a0 p1 σ) fun v2 =>
  if v2.toInt = 0 then
    zLet ((-1 : Int32)) fun v4 =>
    (v4, σ)
  else
    zLet ((0 : Int32)) fun v5 =>
    zLet ((1 : Int32)) fun v6 =>
    zLet (F_X11_in p2 v5 v6) fun v7 =>
    if v7.toInt = 0 then
      zLet ((-1 : Int32)) fun v35 =>
      (v35, σ)
    else
      zLet (F_X11_copies a0  σ) fun t9 =>
      if p2.toInt = 0 then
        zLet ((t9.2.2 a0 54).getD 0) fun v33 =>
        zLet (t9.1 v33 p1.toNatClampNeg) fun v34 =>
        (v34, t9)
      else
        zLet ((0 : Int32)) fun v12 =>
        zLet ((0 : Int32)) fun v13 =>
        F_X11_basin_39 a0 p1 p2  10000 v13 v12 t9
set_option maxRecDepth 100000 in
noncomputable def F_X11_reign_105 (a0 : Nat) (p1 : Int32) (p2 : Int32) (p3 : Int32) (kLp15 : Int32 → zS → Int32 × zS) (kLp20 : Int32 → zS → Int32 × zS) : Nat → Int32 → Int32 → Int32 → zS → Int32 × zS
  | 0, _, _, _, s => (0, s)
  | n + 1, x27, x28, x29, τ30 =>
    zLet (F_X11_many a0  τ30) fun v32 =>
    if x27.toInt < v32.toInt then
      zLet ((τ30.2.2 a0 61).getD 0) fun v35 =>
      zLet (τ30.1 v35 x27.toNatClampNeg) fun v36 =>
      if v36.toInt = 0 then
        zLet (x27 + (1 : Int32)) fun v50 =>
        F_X11_reign_105 a0 p1 p2 p3 kLp15 kLp20 n v50 x28 x29 τ30
      else
        zLet (x29 + (1 : Int32)) fun v38 =>
        if x28.toInt < 0 then
          zLet (x27 + (1 : Int32)) fun v40 =>
          F_X11_reign_105 a0 p1 p2 p3 kLp15 kLp20 n v40 x27 v38 τ30
        else
          zLet ((τ30.2.2 a0 61).getD 0) fun v41 =>
          zLet (τ30.1 v41 x27.toNatClampNeg) fun v42 =>
          zLet ((τ30.2.2 a0 61).getD 0) fun v43 =>
          zLet (τ30.1 v43 x28.toNatClampNeg) fun v44 =>
          if v44.toInt < v42.toInt then
            zLet (x27 + (1 : Int32)) fun v49 =>
            F_X11_reign_105 a0 p1 p2 p3 kLp15 kLp20 n v49 x27 v38 τ30
          else
            zLet (x27 + (1 : Int32)) fun v48 =>
            F_X11_reign_105 a0 p1 p2 p3 kLp15 kLp20 n v48 x28 v38 τ30
    else
      if p3.toInt = 0 then
        (x29, τ30)
      else
        (x28, τ30)
set_option maxRecDepth 100000 in
noncomputable def F_X11_reign_56 (a0 : Nat) (p1 : Int32) (p2 : Int32) (p3 : Int32) (kLp15 : Int32 → zS → Int32 × zS) : Nat → Int32 → zS → Int32 × zS
  | 0, _, s => (0, s)
  | n + 1, x19, τ20 =>
    if x19.toInt < p2.toInt then
      zLet2 (F_X11_winnerBy a0 p1 τ20) fun v52 t51 =>
      if v52.toInt < 0 then
        zLet (F_X11_monthGoes a0  t51) fun t55 =>
        zLet (x19 + (1 : Int32)) fun v57 =>
        F_X11_reign_56 a0 p1 p2 p3 kLp15 n v57 t55
      else
        zLet ((t51.2.2 a0 61).getD 0) fun v58 =>
        zLet (t51.1 v58 v52.toNatClampNeg) fun v59 =>
        zLet ((1 : Int32)) fun v60 =>
        zLet (v59 + v60) fun v61 =>
        zLet ((zu t51.1 v58 v52.toNatClampNeg v61, t51.2.1, t51.2.2)) fun s62 =>
        zLet (F_X11_monthGoes a0  s62) fun t64 =>
        zLet (x19 + (1 : Int32)) fun v66 =>
        F_X11_reign_56 a0 p1 p2 p3 kLp15 n v66 t64
    else
      zLet ((0 : Int32)) fun v24 =>
      zLet ((-2 : Int32)) fun v25 =>
      zLet ((1 : Int32)) fun v26 =>
      F_X11_reign_105 a0 p1 p2 p3 kLp15 (F_X11_reign_56 a0 p1 p2 p3 kLp15 n) 10000 v26 v25 v24 τ20
set_option maxRecDepth 100000 in
noncomputable def F_X11_reign_32 (a0 : Nat) (p1 : Int32) (p2 : Int32) (p3 : Int32)  : Nat → Int32 → zS → Int32 × zS
  | 0, _, s => (0, s)
  | n + 1, x14, τ15 =>
    zLet ((12 : Int32)) fun v16 =>
    if x14.toInt < v16.toInt then
      zLet ((τ15.2.2 a0 61).getD 0) fun v67 =>
      zLet ((0 : Int32)) fun v68 =>
      zLet ((zu τ15.1 v67 x14.toNatClampNeg v68, τ15.2.1, τ15.2.2)) fun s69 =>
      zLet (x14 + (1 : Int32)) fun v71 =>
      F_X11_reign_32 a0 p1 p2 p3  n v71 s69
    else
      zLet ((0 : Int32)) fun v18 =>
      F_X11_reign_56 a0 p1 p2 p3 (F_X11_reign_32 a0 p1 p2 p3  n) 4294967299 v18 τ15
set_option maxRecDepth 100000 in
noncomputable def F_X11_reign (a0 : Nat) (p1 : Int32) (p2 : Int32) (p3 : Int32) (σ : zS) : Int32 × zS :=
  zLet (F_X11_isLaw p1) fun v1 =>
  if v1.toInt = 0 then
    zLet ((-1 : Int32)) fun v3 =>
    (v3, σ)
  else
    zLet (F_X11_isSome p2) fun v4 =>
    if v4.toInt = 0 then
      zLet ((-1 : Int32)) fun v6 =>
      (v6, σ)
    else
      zLet ((0 : Int32)) fun v7 =>
      zLet ((1 : Int32)) fun v8 =>
      zLet (F_X11_in p3 v7 v8) fun v9 =>
      if v9.toInt = 0 then
        zLet ((-1 : Int32)) fun v72 =>
        (v72, σ)
      else
        zLet (F_X11_copiesStill a0  σ) fun t11 =>
        zLet ((0 : Int32)) fun v13 =>
        F_X11_reign_32 a0 p1 p2 p3  10000 v13 t11
set_option maxRecDepth 100000 in
noncomputable def F_X11_tourOf_7 (a0 : Nat) (p1 : Int32) (σ : zS)  : Nat → Int32 → Int32 → Int32 → Int32
  | 0, _, _, _ => 0
  | n + 1, x4, x5, x6 =>
    zLet (F_X11_many a0  σ) fun v9 =>
    if x4.toInt < v9.toInt then
      zLet ((σ.2.2 a0 54).getD 0) fun v14 =>
      zLet (σ.1 v14 x4.toNatClampNeg) fun v15 =>
      zLet (v15 &&& p1) fun v16 =>
      if v16.toInt = 0 then
        zLet (p1 >>> (x4 &&& 31)) fun v18 =>
        zLet ((1 : Int32)) fun v19 =>
        zLet (v18 &&& v19) fun v20 =>
        zLet ((1 : Int32)) fun v21 =>
        if v20.toInt = v21.toInt then
          zLet ((σ.2.2 a0 52).getD 0) fun v24 =>
          zLet (σ.1 v24 x4.toNatClampNeg) fun v25 =>
          if x5.toInt < v25.toInt then
            zLet ((σ.2.2 a0 52).getD 0) fun v30 =>
            zLet (σ.1 v30 x4.toNatClampNeg) fun v31 =>
            zLet (x4 + (1 : Int32)) fun v32 =>
            F_X11_tourOf_7 a0 p1 σ  n v32 v31 x6
          else
            zLet (x4 + (1 : Int32)) fun v29 =>
            F_X11_tourOf_7 a0 p1 σ  n v29 x5 x6
        else
          zLet (x4 + (1 : Int32)) fun v23 =>
          F_X11_tourOf_7 a0 p1 σ  n v23 x5 x6
      else
        zLet ((σ.2.2 a0 23).getD 0) fun v33 =>
        zLet ((12 : Int32)) fun v34 =>
        zLet (σ.1 a0 18) fun v35 =>
        zLet (v34 * v35) fun v36 =>
        zLet (v36 + x4) fun v37 =>
        zLet (σ.1 v33 v37.toNatClampNeg) fun v38 =>
        zLet (x6 + v38) fun v39 =>
        zLet (p1 >>> (x4 &&& 31)) fun v40 =>
        zLet ((1 : Int32)) fun v41 =>
        zLet (v40 &&& v41) fun v42 =>
        zLet ((1 : Int32)) fun v43 =>
        if v42.toInt = v43.toInt then
          zLet ((σ.2.2 a0 52).getD 0) fun v46 =>
          zLet (σ.1 v46 x4.toNatClampNeg) fun v47 =>
          if x5.toInt < v47.toInt then
            zLet ((σ.2.2 a0 52).getD 0) fun v52 =>
            zLet (σ.1 v52 x4.toNatClampNeg) fun v53 =>
            zLet (x4 + (1 : Int32)) fun v54 =>
            F_X11_tourOf_7 a0 p1 σ  n v54 v53 v39
          else
            zLet (x4 + (1 : Int32)) fun v51 =>
            F_X11_tourOf_7 a0 p1 σ  n v51 x5 v39
        else
          zLet (x4 + (1 : Int32)) fun v45 =>
          F_X11_tourOf_7 a0 p1 σ  n v45 x5 v39
    else
      zLet ((2 : Int32)) fun v11 =>
      zLet (v11 * x6) fun v12 =>
      zLet (v12 - x5) fun v13 =>
      v13
set_option maxRecDepth 100000 in
noncomputable def F_X11_tourOf (a0 : Nat) (p1 : Int32) (σ : zS) : Int32 :=
  zLet ((0 : Int32)) fun v1 =>
  zLet ((0 : Int32)) fun v2 =>
  zLet ((1 : Int32)) fun v3 =>
  F_X11_tourOf_7 a0 p1 σ  10000 v3 v2 v1
set_option maxRecDepth 100000 in
noncomputable def F_X11_tour (a0 : Nat) (σ : zS) : Int32 × zS :=
  zLet (F_X11_copies a0  σ) fun t1 =>
  zLet (F_X11_sourceBits a0  t1) fun v4 =>
  zLet (F_X11_tourOf a0 v4 t1) fun v6 =>
  (v6, t1)
set_option maxRecDepth 100000 in
noncomputable def F_X11_parted_17 (v4 : Int32) (a0 : Nat)  : Nat → Int32 → Int32 → zS → Int32 × zS
  | 0, _, _, s => (0, s)
  | n + 1, x8, x9, τ10 =>
    if v4.toInt < x8.toInt then
      (x9, τ10)
    else
      zLet ((-1 : Int32)) fun v12 =>
      zLet (v4 ^^^ v12) fun v13 =>
      zLet (x8 &&& v13) fun v14 =>
      if v14.toInt = 0 then
        zLet (F_X11_tourOf a0 x8 τ10) fun v17 =>
        zLet ((-1 : Int32)) fun v18 =>
        zLet (x8 ^^^ v18) fun v19 =>
        zLet (v4 &&& v19) fun v20 =>
        zLet (F_X11_tourOf a0 v20 τ10) fun v22 =>
        if v17.toInt < v22.toInt then
          if v22.toInt < x9.toInt then
            zLet (x8 + (2 : Int32)) fun v35 =>
            F_X11_parted_17 v4 a0  n v35 v22 τ10
          else
            zLet (x8 + (2 : Int32)) fun v34 =>
            F_X11_parted_17 v4 a0  n v34 x9 τ10
        else
          if v17.toInt < x9.toInt then
            zLet (x8 + (2 : Int32)) fun v30 =>
            F_X11_parted_17 v4 a0  n v30 v17 τ10
          else
            zLet (x8 + (2 : Int32)) fun v29 =>
            F_X11_parted_17 v4 a0  n v29 x9 τ10
      else
        zLet (x8 + (2 : Int32)) fun v36 =>
        F_X11_parted_17 v4 a0  n v36 x9 τ10
set_option maxRecDepth 100000 in
noncomputable def F_X11_parted (a0 : Nat) (σ : zS) : Int32 × zS :=
  zLet (F_X11_copies a0  σ) fun t1 =>
  zLet (F_X11_sourceBits a0  t1) fun v4 =>
  zLet (F_X11_tourOf a0 v4 t1) fun v6 =>
  zLet ((0 : Int32)) fun v7 =>
  F_X11_parted_17 v4 a0  10000 v7 v6 t1
set_option maxRecDepth 100000 in
noncomputable def F_X11_meet_34 (a0 : Nat) (p1 : Int32) (p2 : Int32) (p3 : Int32)  : Nat → Int32 → zS → Int32 × zS
  | 0, _, s => (0, s)
  | n + 1, x15, τ16 =>
    zLet ((τ16.2.2 a0 54).getD 0) fun v17 =>
    zLet (τ16.1 v17 x15.toNatClampNeg) fun v18 =>
    zLet (v18 >>> (p2 &&& 31)) fun v19 =>
    zLet ((1 : Int32)) fun v20 =>
    zLet (v19 &&& v20) fun v21 =>
    if v21.toInt = 0 then
      zLet ((τ16.2.2 a0 49).getD 0) fun v34 =>
      zLet (τ16.1 v34 x15.toNatClampNeg) fun v35 =>
      F_X11_meet_34 a0 p1 p2 p3  n v35 τ16
    else
      if p3.toInt = 0 then
        (x15, τ16)
      else
        zLet ((τ16.2.2 a0 52).getD 0) fun v24 =>
        zLet (τ16.1 v24 p1.toNatClampNeg) fun v25 =>
        zLet ((τ16.2.2 a0 52).getD 0) fun v26 =>
        zLet (τ16.1 v26 p2.toNatClampNeg) fun v27 =>
        zLet (v25 + v27) fun v28 =>
        zLet ((2 : Int32)) fun v29 =>
        zLet ((τ16.2.2 a0 52).getD 0) fun v30 =>
        zLet (τ16.1 v30 x15.toNatClampNeg) fun v31 =>
        zLet (v29 * v31) fun v32 =>
        zLet (v28 - v32) fun v33 =>
        (v33, τ16)
set_option maxRecDepth 100000 in
noncomputable def F_X11_meet (a0 : Nat) (p1 : Int32) (p2 : Int32) (p3 : Int32) (σ : zS) : Int32 × zS :=
  zLet (F_X11_isPlace a0 p1 σ) fun v2 =>
  if v2.toInt = 0 then
    zLet ((-1 : Int32)) fun v4 =>
    (v4, σ)
  else
    zLet (F_X11_isPlace a0 p2 σ) fun v6 =>
    if v6.toInt = 0 then
      zLet ((-1 : Int32)) fun v8 =>
      (v8, σ)
    else
      zLet ((0 : Int32)) fun v9 =>
      zLet ((1 : Int32)) fun v10 =>
      zLet (F_X11_in p3 v9 v10) fun v11 =>
      if v11.toInt = 0 then
        zLet ((-1 : Int32)) fun v36 =>
        (v36, σ)
      else
        zLet (F_X11_copies a0  σ) fun t13 =>
        F_X11_meet_34 a0 p1 p2 p3  10000 p1 t13
set_option maxRecDepth 100000 in
noncomputable def F_X11_when_18 (a0 : Nat) (p1 : Int32)  : Nat → Int32 → zS → Int32 × zS
  | 0, _, s => (0, s)
  | n + 1, x11, τ12 =>
    zLet ((60 : Int32)) fun v13 =>
    if v13.toInt < x11.toInt then
      zLet ((-2 : Int32)) fun v15 =>
      (v15, τ12)
    else
      zLet (F_X11_monthGoes a0  τ12) fun t16 =>
      zLet (t16.1 a0 56) fun v18 =>
      if v18.toInt = p1.toInt then
        (x11, t16)
      else
        zLet (x11 + (1 : Int32)) fun v20 =>
        F_X11_when_18 a0 p1  n v20 t16
set_option maxRecDepth 100000 in
noncomputable def F_X11_when (a0 : Nat) (p1 : Int32) (σ : zS) : Int32 × zS :=
  zLet ((0 : Int32)) fun v1 =>
  zLet2 (F_X11_isClaim a0 p1 v1 σ) fun v3 t2 =>
  if v3.toInt = 0 then
    zLet ((-1 : Int32)) fun v21 =>
    (v21, t2)
  else
    zLet ((1 : Int32)) fun v6 =>
    zLet ((zu t2.1 a0 51 v6, t2.2.1, t2.2.2)) fun s7 =>
    zLet ((1 : Int32)) fun v10 =>
    F_X11_when_18 a0 p1  10000 v10 s7
set_option maxRecDepth 100000 in
noncomputable def F_X11_then (a0 : Nat) (p1 : Int32) (p2 : Int32) (p3 : Int32) (σ : zS) : Int32 × zS :=
  zLet (F_X11_isLong p2) fun v1 =>
  if v1.toInt = 0 then
    zLet ((-1 : Int32)) fun v3 =>
    (v3, σ)
  else
    zLet ((0 : Int32)) fun v4 =>
    zLet ((1 : Int32)) fun v5 =>
    zLet (F_X11_in p3 v4 v5) fun v6 =>
    if v6.toInt = 0 then
      zLet ((-1 : Int32)) fun v8 =>
      (v8, σ)
    else
      zLet ((0 : Int32)) fun v9 =>
      zLet2 (F_X11_isClaim a0 p1 v9 σ) fun v11 t10 =>
      if v11.toInt = 0 then
        zLet ((-1 : Int32)) fun v23 =>
        (v23, t10)
      else
        zLet (F_X11_goes a0 p2 t10) fun t14 =>
        zLet ((t14.2.2 a0 49).getD 0) fun v16 =>
        zLet ((24 : Int32)) fun v17 =>
        zLet ((12 : Int32)) fun v18 =>
        zLet (v18 * p3) fun v19 =>
        zLet (v17 + v19) fun v20 =>
        zLet (v20 + p1) fun v21 =>
        zLet (t14.1 v16 v21.toNatClampNeg) fun v22 =>
        (v22, t14)
set_option maxRecDepth 100000 in
noncomputable def F_X11_flowIn (a0 : Nat) (p1 : Int32) (σ : zS) : Int32 × zS :=
  zLet (F_X11_isLong p1) fun v1 =>
  if v1.toInt = 0 then
    zLet ((-1 : Int32)) fun v3 =>
    (v3, σ)
  else
    zLet (F_X11_many a0  σ) fun v5 =>
    if v5.toInt = 0 then
      zLet ((-1 : Int32)) fun v14 =>
      (v14, σ)
    else
      zLet (F_X11_copies a0  σ) fun t7 =>
      zLet (F_X11_goes a0 p1 t7) fun t9 =>
      zLet ((t9.2.2 a0 55).getD 0) fun v11 =>
      zLet ((0 : Int32)) fun v12 =>
      zLet (t9.1 v11 v12.toNatClampNeg) fun v13 =>
      (v13, t9)
set_option maxRecDepth 100000 in
noncomputable def F_X11_hasWonMost_2 (a0 : Nat) (p1 : Int32) (σ : zS)  : Nat → Int32 → Int32
  | 0, _ => 0
  | n + 1, x2 =>
    zLet (F_X11_many a0  σ) fun v5 =>
    if x2.toInt < v5.toInt then
      if x2.toInt = p1.toInt then
        zLet (x2 + (1 : Int32)) fun v9 =>
        F_X11_hasWonMost_2 a0 p1 σ  n v9
      else
        zLet ((σ.2.2 a0 49).getD 0) fun v10 =>
        zLet ((24 : Int32)) fun v11 =>
        zLet (v11 + x2) fun v12 =>
        zLet (σ.1 v10 v12.toNatClampNeg) fun v13 =>
        zLet ((σ.2.2 a0 49).getD 0) fun v14 =>
        zLet ((24 : Int32)) fun v15 =>
        zLet (v15 + p1) fun v16 =>
        zLet (σ.1 v14 v16.toNatClampNeg) fun v17 =>
        if v13.toInt < v17.toInt then
          zLet (x2 + (1 : Int32)) fun v21 =>
          F_X11_hasWonMost_2 a0 p1 σ  n v21
        else
          zLet ((0 : Int32)) fun v22 =>
          v22
    else
      zLet ((1 : Int32)) fun v7 =>
      v7
set_option maxRecDepth 100000 in
noncomputable def F_X11_hasWonMost (a0 : Nat) (p1 : Int32) (σ : zS) : Int32 :=
  zLet ((1 : Int32)) fun v1 =>
  F_X11_hasWonMost_2 a0 p1 σ  10000 v1
set_option maxRecDepth 100000 in
noncomputable def F_X11_year_34 (a0 : Nat) (p1 : Int32) (p2 : Int32) (p3 : Int32)  : Nat → Int32 → Int32 → zS → Int32 × zS
  | 0, _, _, s => (0, s)
  | n + 1, x16, x17, τ18 =>
    if x16.toInt < p3.toInt then
      zLet (F_X11_copies a0  τ18) fun t22 =>
      zLet (t22.1 a0 50) fun v24 =>
      zLet (v24 + x16) fun v25 =>
      zLet ((zu t22.1 a0 50 v25, t22.2.1, t22.2.2)) fun s26 =>
      zLet (F_X11_goes a0 p2 s26) fun t29 =>
      zLet (F_X11_hasWonMost a0 p1 t29) fun v33 =>
      if v33.toInt = 0 then
        zLet (x16 + (1 : Int32)) fun v35 =>
        F_X11_year_34 a0 p1 p2 p3  n v35 x17 t29
      else
        zLet (x17 + (1 : Int32)) fun v36 =>
        zLet (x16 + (1 : Int32)) fun v37 =>
        F_X11_year_34 a0 p1 p2 p3  n v37 v36 t29
    else
      (x17, τ18)
set_option maxRecDepth 100000 in
noncomputable def F_X11_year (a0 : Nat) (p1 : Int32) (p2 : Int32) (p3 : Int32) (σ : zS) : Int32 × zS :=
  zLet (F_X11_isLong p2) fun v1 =>
  if v1.toInt = 0 then
    zLet ((-1 : Int32)) fun v3 =>
    (v3, σ)
  else
    zLet ((1 : Int32)) fun v4 =>
    zLet ((20 : Int32)) fun v5 =>
    zLet (F_X11_in p3 v4 v5) fun v6 =>
    if v6.toInt = 0 then
      zLet ((-1 : Int32)) fun v8 =>
      (v8, σ)
    else
      zLet ((0 : Int32)) fun v9 =>
      zLet2 (F_X11_isClaim a0 p1 v9 σ) fun v11 t10 =>
      if v11.toInt = 0 then
        zLet ((-1 : Int32)) fun v38 =>
        (v38, t10)
      else
        zLet ((0 : Int32)) fun v14 =>
        zLet ((0 : Int32)) fun v15 =>
        F_X11_year_34 a0 p1 p2 p3  4294967299 v15 v14 t10
set_option maxRecDepth 100000 in
noncomputable def F_X11_tell (a0 : Nat) (p1 : Int32) (p2 : Int32) (p3 : Int32) (p4 : Int32) (σ : zS) : Int32 × zS :=
  zLet (σ.1 a0 62) fun v1 =>
  zLet ((20 : Int32)) fun v2 =>
  if v1.toInt = v2.toInt then
    zLet ((-1 : Int32)) fun v4 =>
    (v4, σ)
  else
    zLet (F_X11_isPlace a0 p1 σ) fun v6 =>
    if v6.toInt = 0 then
      zLet ((-1 : Int32)) fun v8 =>
      (v8, σ)
    else
      zLet ((0 : Int32)) fun v9 =>
      zLet ((9999 : Int32)) fun v10 =>
      zLet (F_X11_in p2 v9 v10) fun v11 =>
      if v11.toInt = 0 then
        zLet ((-1 : Int32)) fun v13 =>
        (v13, σ)
      else
        zLet ((9999 : Int32)) fun v14 =>
        zLet (F_X11_in p3 p2 v14) fun v15 =>
        if v15.toInt = 0 then
          zLet ((-1 : Int32)) fun v46 =>
          (v46, σ)
        else
          zLet ((σ.2.2 a0 63).getD 0) fun v17 =>
          zLet (σ.1 a0 62) fun v18 =>
          zLet ((zu σ.1 v17 v18.toNatClampNeg p1, σ.2.1, σ.2.2)) fun s19 =>
          zLet ((s19.2.2 a0 64).getD 0) fun v22 =>
          zLet (s19.1 a0 62) fun v23 =>
          zLet ((zu s19.1 v22 v23.toNatClampNeg p2, s19.2.1, s19.2.2)) fun s24 =>
          zLet ((s24.2.2 a0 65).getD 0) fun v27 =>
          zLet (s24.1 a0 62) fun v28 =>
          zLet ((zu s24.1 v27 v28.toNatClampNeg p3, s24.2.1, s24.2.2)) fun s29 =>
          zLet ((s29.2.2 a0 66).getD 0) fun v32 =>
          zLet (s29.1 a0 62) fun v33 =>
          zLet ((zu s29.1 v32 v33.toNatClampNeg (vp_nar .boolean p4), s29.2.1, s29.2.2)) fun s34 =>
          zLet (s34.1 a0 62) fun v37 =>
          zLet ((1 : Int32)) fun v38 =>
          zLet (v37 + v38) fun v39 =>
          zLet ((zu s34.1 a0 62 v39, s34.2.1, s34.2.2)) fun s40 =>
          zLet (s40.1 a0 62) fun v43 =>
          zLet ((1 : Int32)) fun v44 =>
          zLet (v43 - v44) fun v45 =>
          (v45, s40)
set_option maxRecDepth 100000 in
noncomputable def F_X11_comesBy (a0 : Nat) (p1 : Int32) (p2 : Int32) (σ : zS) : Int32 :=
  zLet ((σ.2.2 a0 63).getD 0) fun v1 =>
  zLet (σ.1 v1 p2.toNatClampNeg) fun v2 =>
  zLet ((σ.2.2 a0 54).getD 0) fun v3 =>
  zLet (σ.1 v3 v2.toNatClampNeg) fun v4 =>
  zLet (v4 >>> (p1 &&& 31)) fun v5 =>
  zLet ((1 : Int32)) fun v6 =>
  zLet (v5 &&& v6) fun v7 =>
  zLet ((1 : Int32)) fun v8 =>
  if v7.toInt = v8.toInt then
    zLet ((σ.2.2 a0 52).getD 0) fun v11 =>
    zLet (σ.1 v11 p1.toNatClampNeg) fun v12 =>
    zLet ((σ.2.2 a0 52).getD 0) fun v13 =>
    zLet (σ.1 v13 v2.toNatClampNeg) fun v14 =>
    zLet (v12 - v14) fun v15 =>
    zLet ((σ.2.2 a0 64).getD 0) fun v16 =>
    zLet (σ.1 v16 p2.toNatClampNeg) fun v17 =>
    zLet ((σ.2.2 a0 65).getD 0) fun v18 =>
    zLet (σ.1 v18 p2.toNatClampNeg) fun v19 =>
    zLet (F_X11_in v15 v17 v19) fun v20 =>
    if v20.toInt = 0 then
      zLet ((0 : Int32)) fun v22 =>
      v22
    else
      zLet ((1 : Int32)) fun v23 =>
      v23
  else
    zLet ((0 : Int32)) fun v10 =>
    v10
set_option maxRecDepth 100000 in
noncomputable def F_X11_dyedBits_26 (x5 : Int32) (x6 : Int32) (a0 : Nat) (p1 : Int32) (kLp7 : Int32 → Int32 → zS → Int32 × zS) : Nat → Int32 → Int32 → zS → Int32 × zS
  | 0, _, _, s => (0, s)
  | n + 1, x14, x15, τ16 =>
    if x14.toInt < p1.toInt then
      if x15.toInt = 0 then
        if x15.toInt = 0 then
          zLet (x5 + (1 : Int32)) fun v26 =>
          kLp7 v26 x6 τ16
        else
          (0, τ16)
      else
        zLet (F_X11_comesBy a0 x5 x14 τ16) fun v28 =>
        zLet ((τ16.2.2 a0 66).getD 0) fun v29 =>
        zLet (τ16.1 v29 x14.toNatClampNeg) fun v30 =>
        if v28.toInt = v30.toInt then
          zLet ((1 : Int32)) fun v34 =>
          zLet (x14 + (1 : Int32)) fun v35 =>
          F_X11_dyedBits_26 x5 x6 a0 p1 kLp7 n v35 v34 τ16
        else
          zLet ((0 : Int32)) fun v32 =>
          zLet (x14 + (1 : Int32)) fun v33 =>
          F_X11_dyedBits_26 x5 x6 a0 p1 kLp7 n v33 v32 τ16
    else
      if x15.toInt = 0 then
        zLet (x5 + (1 : Int32)) fun v19 =>
        kLp7 v19 x6 τ16
      else
        zLet ((1 : Int32)) fun v20 =>
        zLet (v20 <<< (x5 &&& 31)) fun v21 =>
        zLet (x6 ||| v21) fun v22 =>
        zLet (x5 + (1 : Int32)) fun v23 =>
        kLp7 v23 v22 τ16
set_option maxRecDepth 100000 in
noncomputable def F_X11_dyedBits_8 (a0 : Nat) (p1 : Int32)  : Nat → Int32 → Int32 → zS → Int32 × zS
  | 0, _, _, s => (0, s)
  | n + 1, x5, x6, τ7 =>
    zLet (F_X11_many a0  τ7) fun v9 =>
    if x5.toInt < v9.toInt then
      zLet (F_X11_isSource a0 x5 τ7) fun v12 =>
      zLet ((0 : Int32)) fun v13 =>
      F_X11_dyedBits_26 x5 x6 a0 p1 (F_X11_dyedBits_8 a0 p1  n) 10000 v13 v12 τ7
    else
      (x6, τ7)
set_option maxRecDepth 100000 in
noncomputable def F_X11_dyedBits (a0 : Nat) (p1 : Int32) (σ : zS) : Int32 × zS :=
  zLet (F_X11_copies a0  σ) fun t1 =>
  zLet ((0 : Int32)) fun v3 =>
  zLet ((1 : Int32)) fun v4 =>
  F_X11_dyedBits_8 a0 p1  10000 v4 v3 t1
set_option maxRecDepth 100000 in
noncomputable def F_X11_dyed (a0 : Nat) (p1 : Int32) (p2 : Int32) (σ : zS) : Int32 × zS :=
  zLet ((0 : Int32)) fun v1 =>
  zLet (σ.1 a0 62) fun v2 =>
  zLet (F_X11_in p1 v1 v2) fun v3 =>
  if v3.toInt = 0 then
    zLet ((-1 : Int32)) fun v5 =>
    (v5, σ)
  else
    zLet ((0 : Int32)) fun v6 =>
    zLet ((1 : Int32)) fun v7 =>
    zLet (F_X11_in p2 v6 v7) fun v8 =>
    if v8.toInt = 0 then
      zLet ((-1 : Int32)) fun v16 =>
      (v16, σ)
    else
      zLet2 (F_X11_dyedBits a0 p1 σ) fun v11 t10 =>
      if p2.toInt = 0 then
        zLet (F_X11_bits v11) fun v15 =>
        (v15, t10)
      else
        (v11, t10)
set_option maxRecDepth 100000 in
noncomputable def F_X11_watch_29 (v6 : Int32) (a0 : Nat) (p1 : Int32)  : Nat → Int32 → Int32 → Int32 → zS → Int32 × zS
  | 0, _, _, _, s => (0, s)
  | n + 1, x12, x13, x14, τ15 =>
    zLet (F_X11_many a0  τ15) fun v17 =>
    if x12.toInt < v17.toInt then
      if v6.toInt = 0 then
        (x14, τ15)
      else
        zLet ((τ15.2.2 a0 54).getD 0) fun v20 =>
        zLet (τ15.1 v20 x12.toNatClampNeg) fun v21 =>
        zLet (v6 &&& v21) fun v22 =>
        zLet (F_X11_bits v22) fun v23 =>
        zLet (F_X11_bits v6) fun v24 =>
        zLet (v24 - v23) fun v25 =>
        if v25.toInt < v23.toInt then
          if x14.toInt < 0 then
            zLet (x12 + (1 : Int32)) fun v39 =>
            F_X11_watch_29 v6 a0 p1  n v39 v23 x12 τ15
          else
            if v23.toInt < x13.toInt then
              zLet (x12 + (1 : Int32)) fun v43 =>
              F_X11_watch_29 v6 a0 p1  n v43 v23 x12 τ15
            else
              zLet (x12 + (1 : Int32)) fun v44 =>
              F_X11_watch_29 v6 a0 p1  n v44 x13 x14 τ15
        else
          zLet (F_X11_bits v6) fun v29 =>
          zLet (v29 - v23) fun v30 =>
          if x14.toInt < 0 then
            zLet (x12 + (1 : Int32)) fun v32 =>
            F_X11_watch_29 v6 a0 p1  n v32 v30 x12 τ15
          else
            if v30.toInt < x13.toInt then
              zLet (x12 + (1 : Int32)) fun v36 =>
              F_X11_watch_29 v6 a0 p1  n v36 v30 x12 τ15
            else
              zLet (x12 + (1 : Int32)) fun v37 =>
              F_X11_watch_29 v6 a0 p1  n v37 x13 x14 τ15
    else
      (x14, τ15)
set_option maxRecDepth 100000 in
noncomputable def F_X11_watch (a0 : Nat) (p1 : Int32) (σ : zS) : Int32 × zS :=
  zLet ((0 : Int32)) fun v1 =>
  zLet (σ.1 a0 62) fun v2 =>
  zLet (F_X11_in p1 v1 v2) fun v3 =>
  if v3.toInt = 0 then
    zLet ((-1 : Int32)) fun v45 =>
    (v45, σ)
  else
    zLet2 (F_X11_dyedBits a0 p1 σ) fun v6 t5 =>
    zLet ((-2 : Int32)) fun v9 =>
    zLet ((0 : Int32)) fun v10 =>
    zLet ((0 : Int32)) fun v11 =>
    F_X11_watch_29 v6 a0 p1  10000 v11 v10 v9 t5
set_option maxRecDepth 100000 in
noncomputable def F_X11_count_150 (a0 : Nat) (p1 : Int32)  : Nat → Int32 → Int32 → zS → Int32 × zS
  | 0, _, _, s => (0, s)
  | n + 1, x37, x38, τ39 =>
    zLet (F_X11_many a0  τ39) fun v41 =>
    if x37.toInt < v41.toInt then
      zLet ((τ39.2.2 a0 49).getD 0) fun v43 =>
      zLet ((36 : Int32)) fun v44 =>
      zLet (v44 + x37) fun v45 =>
      zLet (τ39.1 v43 v45.toNatClampNeg) fun v46 =>
      zLet (x38 + v46) fun v47 =>
      zLet (x37 + (1 : Int32)) fun v48 =>
      F_X11_count_150 a0 p1  n v48 v47 τ39
    else
      (x38, τ39)
set_option maxRecDepth 100000 in
noncomputable def F_X11_count_253 (a0 : Nat) (p1 : Int32)  : Nat → Int32 → Int32 → zS → Int32 × zS
  | 0, _, _, s => (0, s)
  | n + 1, x118, x119, τ120 =>
    zLet (F_X11_many a0  τ120) fun v122 =>
    if x118.toInt < v122.toInt then
      zLet ((τ120.2.2 a0 23).getD 0) fun v124 =>
      zLet ((12 : Int32)) fun v125 =>
      zLet (τ120.1 a0 18) fun v126 =>
      zLet (v125 * v126) fun v127 =>
      zLet (v127 + x118) fun v128 =>
      zLet (τ120.1 v124 v128.toNatClampNeg) fun v129 =>
      zLet (x119 + v129) fun v130 =>
      zLet (x118 + (1 : Int32)) fun v131 =>
      F_X11_count_253 a0 p1  n v131 v130 τ120
    else
      (x119, τ120)
set_option maxRecDepth 100000 in
noncomputable def F_X11_count_288 (a0 : Nat) (p1 : Int32)  : Nat → Int32 → Int32 → zS → Int32 × zS
  | 0, _, _, s => (0, s)
  | n + 1, x134, x135, τ136 =>
    zLet (F_X11_many a0  τ136) fun v138 =>
    if x134.toInt < v138.toInt then
      zLet ((τ136.2.2 a0 49).getD 0) fun v140 =>
      zLet (τ136.1 v140 x134.toNatClampNeg) fun v141 =>
      zLet ((τ136.2.2 a0 22).getD 0) fun v142 =>
      zLet ((12 : Int32)) fun v143 =>
      zLet (τ136.1 a0 18) fun v144 =>
      zLet (v143 * v144) fun v145 =>
      zLet (v145 + x134) fun v146 =>
      zLet (τ136.1 v142 v146.toNatClampNeg) fun v147 =>
      if v141.toInt = v147.toInt then
        zLet (x134 + (1 : Int32)) fun v149 =>
        F_X11_count_288 a0 p1  n v149 x135 τ136
      else
        zLet ((1 : Int32)) fun v150 =>
        zLet (v150 <<< (x134 &&& 31)) fun v151 =>
        zLet (x135 ||| v151) fun v152 =>
        zLet (x134 + (1 : Int32)) fun v153 =>
        F_X11_count_288 a0 p1  n v153 v152 τ136
    else
      (x135, τ136)
set_option maxRecDepth 100000 in
noncomputable def F_X11_count_335 (a0 : Nat) (p1 : Int32)  : Nat → Int32 → Int32 → zS → Int32 × zS
  | 0, _, _, s => (0, s)
  | n + 1, x156, x157, τ158 =>
    zLet (F_X11_many a0  τ158) fun v160 =>
    if x156.toInt < v160.toInt then
      zLet ((τ158.2.2 a0 24).getD 0) fun v162 =>
      zLet ((12 : Int32)) fun v163 =>
      zLet (τ158.1 a0 18) fun v164 =>
      zLet (v163 * v164) fun v165 =>
      zLet (v165 + x156) fun v166 =>
      zLet (τ158.1 v162 v166.toNatClampNeg) fun v167 =>
      zLet (x157 + v167) fun v168 =>
      zLet (x156 + (1 : Int32)) fun v169 =>
      F_X11_count_335 a0 p1  n v169 v168 τ158
    else
      (x157, τ158)
set_option maxRecDepth 100000 in
noncomputable def F_X11_count_370 (a0 : Nat) (p1 : Int32)  : Nat → Int32 → Int32 → zS → Int32 × zS
  | 0, _, _, s => (0, s)
  | n + 1, x172, x173, τ174 =>
    zLet (F_X11_many a0  τ174) fun v176 =>
    if x172.toInt < v176.toInt then
      zLet ((τ174.2.2 a0 52).getD 0) fun v178 =>
      zLet (τ174.1 v178 x172.toNatClampNeg) fun v179 =>
      if x173.toInt < v179.toInt then
        zLet ((τ174.2.2 a0 52).getD 0) fun v184 =>
        zLet (τ174.1 v184 x172.toNatClampNeg) fun v185 =>
        zLet (x172 + (1 : Int32)) fun v186 =>
        F_X11_count_370 a0 p1  n v186 v185 τ174
      else
        zLet (x172 + (1 : Int32)) fun v183 =>
        F_X11_count_370 a0 p1  n v183 x173 τ174
    else
      (x173, τ174)
set_option maxRecDepth 100000 in
noncomputable def F_X11_count (a0 : Nat) (p1 : Int32) (σ : zS) : Int32 × zS :=
  zLet (F_X11_copies a0  σ) fun t1 =>
  zLet ((0 : Int32)) fun v3 =>
  if p1.toInt = 0 then
    zLet (F_X11_many a0  t1) fun v6 =>
    (v6, t1)
  else
    if p1.toInt = 1 then
      zLet ((t1.2.2 a0 49).getD 0) fun v8 =>
      zLet ((48 : Int32)) fun v9 =>
      zLet (t1.1 v8 v9.toNatClampNeg) fun v10 =>
      (v10, t1)
    else
      if p1.toInt = 2 then
        zLet ((t1.2.2 a0 49).getD 0) fun v12 =>
        zLet ((48 : Int32)) fun v13 =>
        zLet (t1.1 v12 v13.toNatClampNeg) fun v14 =>
        zLet ((12 : Int32)) fun v15 =>
        zLet (v14 - v14 / v15 * v15) fun v16 =>
        (v16, t1)
      else
        if p1.toInt = 3 then
          zLet ((t1.2.2 a0 49).getD 0) fun v18 =>
          zLet ((49 : Int32)) fun v19 =>
          zLet (t1.1 v18 v19.toNatClampNeg) fun v20 =>
          (v20, t1)
        else
          if p1.toInt = 4 then
            zLet (F_X11_sourceBits a0  t1) fun v23 =>
            (v23, t1)
          else
            if p1.toInt = 5 then
              zLet (F_X11_dammedBits a0  t1) fun v26 =>
              (v26, t1)
            else
              if p1.toInt = 6 then
                zLet (F_X11_many a0  t1) fun v29 =>
                if v29.toInt = 0 then
                  zLet ((0 : Int32)) fun v34 =>
                  (v34, t1)
                else
                  zLet ((t1.2.2 a0 55).getD 0) fun v31 =>
                  zLet ((0 : Int32)) fun v32 =>
                  zLet (t1.1 v31 v32.toNatClampNeg) fun v33 =>
                  (v33, t1)
              else
                if p1.toInt = 7 then
                  zLet ((1 : Int32)) fun v36 =>
                  F_X11_count_150 a0 p1  10000 v36 v3 t1
                else
                  if p1.toInt = 8 then
                    zLet (t1.1 a0 2) fun v50 =>
                    (v50, t1)
                  else
                    if p1.toInt = 9 then
                      zLet (t1.1 a0 57) fun v52 =>
                      (v52, t1)
                    else
                      if p1.toInt = 10 then
                        zLet (t1.1 a0 62) fun v54 =>
                        (v54, t1)
                      else
                        if p1.toInt = 11 then
                          zLet ((t1.2.2 a0 67).getD 0) fun v56 =>
                          zLet ((0 : Int32)) fun v57 =>
                          zLet (t1.1 v56 v57.toNatClampNeg) fun v58 =>
                          if v58.toInt = 0 then
                            zLet ((0 : Int32)) fun v60 =>
                            zLet ((t1.2.2 a0 67).getD 0) fun v61 =>
                            zLet ((1 : Int32)) fun v62 =>
                            zLet (t1.1 v61 v62.toNatClampNeg) fun v63 =>
                            if v63.toInt = 0 then
                              zLet ((0 : Int32)) fun v65 =>
                              zLet (v60 + v65) fun v66 =>
                              zLet ((t1.2.2 a0 67).getD 0) fun v67 =>
                              zLet ((2 : Int32)) fun v68 =>
                              zLet (t1.1 v67 v68.toNatClampNeg) fun v69 =>
                              if v69.toInt = 0 then
                                zLet ((0 : Int32)) fun v71 =>
                                zLet (v66 + v71) fun v72 =>
                                (v72, t1)
                              else
                                zLet ((1 : Int32)) fun v73 =>
                                zLet (v66 + v73) fun v74 =>
                                (v74, t1)
                            else
                              zLet ((1 : Int32)) fun v75 =>
                              zLet (v60 + v75) fun v76 =>
                              zLet ((t1.2.2 a0 67).getD 0) fun v77 =>
                              zLet ((2 : Int32)) fun v78 =>
                              zLet (t1.1 v77 v78.toNatClampNeg) fun v79 =>
                              if v79.toInt = 0 then
                                zLet ((0 : Int32)) fun v81 =>
                                zLet (v76 + v81) fun v82 =>
                                (v82, t1)
                              else
                                zLet ((1 : Int32)) fun v83 =>
                                zLet (v76 + v83) fun v84 =>
                                (v84, t1)
                          else
                            zLet ((1 : Int32)) fun v85 =>
                            zLet ((t1.2.2 a0 67).getD 0) fun v86 =>
                            zLet ((1 : Int32)) fun v87 =>
                            zLet (t1.1 v86 v87.toNatClampNeg) fun v88 =>
                            if v88.toInt = 0 then
                              zLet ((0 : Int32)) fun v90 =>
                              zLet (v85 + v90) fun v91 =>
                              zLet ((t1.2.2 a0 67).getD 0) fun v92 =>
                              zLet ((2 : Int32)) fun v93 =>
                              zLet (t1.1 v92 v93.toNatClampNeg) fun v94 =>
                              if v94.toInt = 0 then
                                zLet ((0 : Int32)) fun v96 =>
                                zLet (v91 + v96) fun v97 =>
                                (v97, t1)
                              else
                                zLet ((1 : Int32)) fun v98 =>
                                zLet (v91 + v98) fun v99 =>
                                (v99, t1)
                            else
                              zLet ((1 : Int32)) fun v100 =>
                              zLet (v85 + v100) fun v101 =>
                              zLet ((t1.2.2 a0 67).getD 0) fun v102 =>
                              zLet ((2 : Int32)) fun v103 =>
                              zLet (t1.1 v102 v103.toNatClampNeg) fun v104 =>
                              if v104.toInt = 0 then
                                zLet ((0 : Int32)) fun v106 =>
                                zLet (v101 + v106) fun v107 =>
                                (v107, t1)
                              else
                                zLet ((1 : Int32)) fun v108 =>
                                zLet (v101 + v108) fun v109 =>
                                (v109, t1)
                        else
                          if p1.toInt = 12 then
                            zLet (F_X11_isStorm a0  t1) fun v112 =>
                            if v112.toInt = 0 then
                              zLet ((0 : Int32)) fun v114 =>
                              (v114, t1)
                            else
                              zLet ((1 : Int32)) fun v115 =>
                              (v115, t1)
                          else
                            if p1.toInt = 13 then
                              zLet ((1 : Int32)) fun v117 =>
                              F_X11_count_253 a0 p1  10000 v117 v3 t1
                            else
                              if p1.toInt = 14 then
                                zLet ((1 : Int32)) fun v133 =>
                                F_X11_count_288 a0 p1  10000 v133 v3 t1
                              else
                                if p1.toInt = 15 then
                                  zLet ((1 : Int32)) fun v155 =>
                                  F_X11_count_335 a0 p1  10000 v155 v3 t1
                                else
                                  if p1.toInt = 16 then
                                    zLet ((1 : Int32)) fun v171 =>
                                    F_X11_count_370 a0 p1  10000 v171 v3 t1
                                  else
                                    zLet ((-1 : Int32)) fun v187 =>
                                    (v187, t1)
set_option maxRecDepth 100000 in
noncomputable def F_X11_hold_20 (a0 : Nat) (p1 : Int32)  : Nat → Int32 → zS → Int32 × zS
  | 0, _, s => (0, s)
  | n + 1, x10, τ11 =>
    zLet ((50 : Int32)) fun v12 =>
    if x10.toInt < v12.toInt then
      zLet ((τ11.2.2 a0 68).getD 0) fun v15 =>
      zLet ((50 : Int32)) fun v16 =>
      zLet (v16 * p1) fun v17 =>
      zLet (v17 + x10) fun v18 =>
      zLet ((τ11.2.2 a0 48).getD 0) fun v19 =>
      zLet (τ11.1 v19 x10.toNatClampNeg) fun v20 =>
      zLet ((zu τ11.1 v15 v18.toNatClampNeg v20, τ11.2.1, τ11.2.2)) fun s21 =>
      zLet (x10 + (1 : Int32)) fun v23 =>
      F_X11_hold_20 a0 p1  n v23 s21
    else
      zLet ((1 : Int32)) fun v14 =>
      (v14, τ11)
set_option maxRecDepth 100000 in
noncomputable def F_X11_hold (a0 : Nat) (p1 : Int32) (σ : zS) : Int32 × zS :=
  zLet ((0 : Int32)) fun v1 =>
  zLet ((2 : Int32)) fun v2 =>
  zLet (F_X11_in p1 v1 v2) fun v3 =>
  if v3.toInt = 0 then
    zLet ((0 : Int32)) fun v24 =>
    (v24, σ)
  else
    zLet ((σ.2.2 a0 67).getD 0) fun v5 =>
    zLet ((1 : Int32)) fun v6 =>
    zLet ((zu σ.1 v5 p1.toNatClampNeg (vp_nar .boolean v6), σ.2.1, σ.2.2)) fun s7 =>
    zLet ((0 : Int32)) fun v9 =>
    F_X11_hold_20 a0 p1  10000 v9 s7
set_option maxRecDepth 100000 in
noncomputable def F_X11_restore_22 (a0 : Nat) (p1 : Int32)  : Nat → Int32 → zS → Int32 × zS
  | 0, _, s => (0, s)
  | n + 1, x10, τ11 =>
    zLet ((50 : Int32)) fun v12 =>
    if x10.toInt < v12.toInt then
      zLet ((τ11.2.2 a0 48).getD 0) fun v19 =>
      zLet ((τ11.2.2 a0 68).getD 0) fun v20 =>
      zLet ((50 : Int32)) fun v21 =>
      zLet (v21 * p1) fun v22 =>
      zLet (v22 + x10) fun v23 =>
      zLet (τ11.1 v20 v23.toNatClampNeg) fun v24 =>
      zLet ((zu τ11.1 v19 x10.toNatClampNeg v24, τ11.2.1, τ11.2.2)) fun s25 =>
      zLet (x10 + (1 : Int32)) fun v27 =>
      F_X11_restore_22 a0 p1  n v27 s25
    else
      zLet ((0 : Int32)) fun v14 =>
      zLet ((zu τ11.1 a0 57 v14, τ11.2.1, τ11.2.2)) fun s15 =>
      zLet ((1 : Int32)) fun v18 =>
      (v18, s15)
set_option maxRecDepth 100000 in
noncomputable def F_X11_restore (a0 : Nat) (p1 : Int32) (σ : zS) : Int32 × zS :=
  zLet ((0 : Int32)) fun v1 =>
  zLet ((2 : Int32)) fun v2 =>
  zLet (F_X11_in p1 v1 v2) fun v3 =>
  if v3.toInt = 0 then
    zLet ((0 : Int32)) fun v5 =>
    (v5, σ)
  else
    zLet ((σ.2.2 a0 67).getD 0) fun v6 =>
    zLet (σ.1 v6 p1.toNatClampNeg) fun v7 =>
    if v7.toInt = 0 then
      zLet ((0 : Int32)) fun v28 =>
      (v28, σ)
    else
      zLet ((0 : Int32)) fun v9 =>
      F_X11_restore_22 a0 p1  10000 v9 σ
set_option maxRecDepth 100000 in
noncomputable def F_X11_forget (a0 : Nat) (σ : zS) : Int32 × zS :=
  zLet (σ.1 a0 62) fun v1 =>
  zLet ((0 : Int32)) fun v2 =>
  zLet ((zu σ.1 a0 62 v2, σ.2.1, σ.2.2)) fun s3 =>
  (v1, s3)
set_option maxRecDepth 100000 in
noncomputable def F_X11_feed (a0 : Nat) (p1 : Int32) (p2 : Int32) (p3 : Int32) (p4 : Int32) (p5 : Int32) (σ : zS) : Int32 × zS :=
  zLet (σ.1 a0 2) fun v1 =>
  zLet ((20 : Int32)) fun v2 =>
  zLet (v1 + v2) fun v3 =>
  zLet ((2000 : Int32)) fun v4 =>
  if v4.toInt < v3.toInt then
    zLet ((-1 : Int32)) fun v17 =>
    (v17, σ)
  else
    zLet (F_X11_put a0 p1 σ) fun t6 =>
    zLet (F_X11_put a0 p2 t6) fun t8 =>
    zLet (F_X11_put a0 p3 t8) fun t10 =>
    zLet (F_X11_put a0 p4 t10) fun t12 =>
    zLet (F_X11_put a0 p5 t12) fun t14 =>
    zLet (t14.1 a0 2) fun v16 =>
    (v16, t14)
set_option maxRecDepth 100000 in
noncomputable def F_X11_back (a0 : Nat) (p1 : Int32) (σ : zS) : Int32 × zS :=
  if p1.toInt < 0 then
    zLet ((-1 : Int32)) fun v2 =>
    (v2, σ)
  else
    zLet (σ.1 a0 2) fun v3 =>
    if v3.toInt < p1.toInt then
      zLet ((-1 : Int32)) fun v12 =>
      (v12, σ)
    else
      zLet (σ.1 a0 2) fun v6 =>
      zLet (v6 - p1) fun v7 =>
      zLet ((zu σ.1 a0 2 v7, σ.2.1, σ.2.2)) fun s8 =>
      zLet (s8.1 a0 2) fun v11 =>
      (v11, s8)
set_option maxRecDepth 100000 in
noncomputable def F_X11_token (a0 : Nat) (p1 : Int32) (p2 : Int32) (p3 : Int32) (p4 : Int64) (σ : zS) : zS :=
  zLet ((σ.2.2 a0 5).getD 0) fun v1 =>
  zLet (σ.1 a0 10) fun v2 =>
  zLet ((zu σ.1 v1 v2.toNatClampNeg p1, σ.2.1, σ.2.2)) fun s3 =>
  zLet ((s3.2.2 a0 6).getD 0) fun v6 =>
  zLet (s3.1 a0 10) fun v7 =>
  zLet ((zu s3.1 v6 v7.toNatClampNeg p2, s3.2.1, s3.2.2)) fun s8 =>
  zLet ((s8.2.2 a0 7).getD 0) fun v11 =>
  zLet (s8.1 a0 10) fun v12 =>
  zLet ((zu s8.1 v11 v12.toNatClampNeg p3, s8.2.1, s8.2.2)) fun s13 =>
  zLet ((s13.2.2 a0 8).getD 0) fun v16 =>
  zLet (s13.1 a0 10) fun v17 =>
  zLet ((s13.1, zu s13.2.1 v16 v17.toNatClampNeg p4, s13.2.2)) fun s18 =>
  zLet (s18.1 a0 10) fun v21 =>
  zLet ((1 : Int32)) fun v22 =>
  zLet (v21 + v22) fun v23 =>
  zLet ((zu s18.1 a0 10 v23, s18.2.1, s18.2.2)) fun s24 =>
  s24
set_option maxRecDepth 100000 in
noncomputable def F_X11_sign (a0 : Nat) (p1 : Int32) (p2 : Int32) (p3 : Int32) (σ : zS) : Int32 × zS :=
  zLet ((59 : Int32)) fun v1 =>
  if p2.toInt = v1.toInt then
    zLet ((4 : Int32)) fun v123 =>
    zLet ((43 : Int32)) fun v124 =>
    if p2.toInt = v124.toInt then
      (0, σ)
    else
      zLet ((45 : Int32)) fun v126 =>
      if p2.toInt = v126.toInt then
        (0, σ)
      else
        zLet ((42 : Int32)) fun v128 =>
        if p2.toInt = v128.toInt then
          (0, σ)
        else
          zLet ((47 : Int32)) fun v130 =>
          if p2.toInt = v130.toInt then
            (0, σ)
          else
            zLet ((60 : Int32)) fun v132 =>
            if p2.toInt = v132.toInt then
              (0, σ)
            else
              zLet ((0 : Int32)) fun v134 =>
              zLet (Int64.ofNat 0) fun v135 =>
              zLet (F_X11_token a0 v123 p1 v134 v135 σ) fun t136 =>
              zLet ((1 : Int32)) fun v138 =>
              (v138, t136)
  else
    zLet ((61 : Int32)) fun v3 =>
    if p2.toInt = v3.toInt then
      zLet ((5 : Int32)) fun v107 =>
      zLet ((43 : Int32)) fun v108 =>
      if p2.toInt = v108.toInt then
        (0, σ)
      else
        zLet ((45 : Int32)) fun v110 =>
        if p2.toInt = v110.toInt then
          (0, σ)
        else
          zLet ((42 : Int32)) fun v112 =>
          if p2.toInt = v112.toInt then
            (0, σ)
          else
            zLet ((47 : Int32)) fun v114 =>
            if p2.toInt = v114.toInt then
              (0, σ)
            else
              zLet ((60 : Int32)) fun v116 =>
              if p2.toInt = v116.toInt then
                (0, σ)
              else
                zLet ((0 : Int32)) fun v118 =>
                zLet (Int64.ofNat 0) fun v119 =>
                zLet (F_X11_token a0 v107 p1 v118 v119 σ) fun t120 =>
                zLet ((1 : Int32)) fun v122 =>
                (v122, t120)
    else
      zLet ((40 : Int32)) fun v5 =>
      if p2.toInt = v5.toInt then
        zLet ((6 : Int32)) fun v91 =>
        zLet ((43 : Int32)) fun v92 =>
        if p2.toInt = v92.toInt then
          (0, σ)
        else
          zLet ((45 : Int32)) fun v94 =>
          if p2.toInt = v94.toInt then
            (0, σ)
          else
            zLet ((42 : Int32)) fun v96 =>
            if p2.toInt = v96.toInt then
              (0, σ)
            else
              zLet ((47 : Int32)) fun v98 =>
              if p2.toInt = v98.toInt then
                (0, σ)
              else
                zLet ((60 : Int32)) fun v100 =>
                if p2.toInt = v100.toInt then
                  (0, σ)
                else
                  zLet ((0 : Int32)) fun v102 =>
                  zLet (Int64.ofNat 0) fun v103 =>
                  zLet (F_X11_token a0 v91 p1 v102 v103 σ) fun t104 =>
                  zLet ((1 : Int32)) fun v106 =>
                  (v106, t104)
      else
        zLet ((41 : Int32)) fun v7 =>
        if p2.toInt = v7.toInt then
          zLet ((7 : Int32)) fun v75 =>
          zLet ((43 : Int32)) fun v76 =>
          if p2.toInt = v76.toInt then
            (0, σ)
          else
            zLet ((45 : Int32)) fun v78 =>
            if p2.toInt = v78.toInt then
              (0, σ)
            else
              zLet ((42 : Int32)) fun v80 =>
              if p2.toInt = v80.toInt then
                (0, σ)
              else
                zLet ((47 : Int32)) fun v82 =>
                if p2.toInt = v82.toInt then
                  (0, σ)
                else
                  zLet ((60 : Int32)) fun v84 =>
                  if p2.toInt = v84.toInt then
                    (0, σ)
                  else
                    zLet ((0 : Int32)) fun v86 =>
                    zLet (Int64.ofNat 0) fun v87 =>
                    zLet (F_X11_token a0 v75 p1 v86 v87 σ) fun t88 =>
                    zLet ((1 : Int32)) fun v90 =>
                    (v90, t88)
        else
          zLet ((3 : Int32)) fun v9 =>
          zLet ((43 : Int32)) fun v10 =>
          if p2.toInt = v10.toInt then
            zLet ((8 : Int32)) fun v61 =>
            zLet ((45 : Int32)) fun v62 =>
            if p2.toInt = v62.toInt then
              (0, σ)
            else
              zLet ((42 : Int32)) fun v64 =>
              if p2.toInt = v64.toInt then
                (0, σ)
              else
                zLet ((47 : Int32)) fun v66 =>
                if p2.toInt = v66.toInt then
                  (0, σ)
                else
                  zLet ((60 : Int32)) fun v68 =>
                  if p2.toInt = v68.toInt then
                    (0, σ)
                  else
                    zLet ((0 : Int32)) fun v70 =>
                    zLet (Int64.ofNat 0) fun v71 =>
                    zLet (F_X11_token a0 v61 p1 v70 v71 σ) fun t72 =>
                    zLet ((1 : Int32)) fun v74 =>
                    (v74, t72)
          else
            zLet ((45 : Int32)) fun v12 =>
            if p2.toInt = v12.toInt then
              zLet ((9 : Int32)) fun v49 =>
              zLet ((42 : Int32)) fun v50 =>
              if p2.toInt = v50.toInt then
                (0, σ)
              else
                zLet ((47 : Int32)) fun v52 =>
                if p2.toInt = v52.toInt then
                  (0, σ)
                else
                  zLet ((60 : Int32)) fun v54 =>
                  if p2.toInt = v54.toInt then
                    (0, σ)
                  else
                    zLet ((0 : Int32)) fun v56 =>
                    zLet (Int64.ofNat 0) fun v57 =>
                    zLet (F_X11_token a0 v49 p1 v56 v57 σ) fun t58 =>
                    zLet ((1 : Int32)) fun v60 =>
                    (v60, t58)
            else
              zLet ((42 : Int32)) fun v14 =>
              if p2.toInt = v14.toInt then
                zLet ((10 : Int32)) fun v39 =>
                zLet ((47 : Int32)) fun v40 =>
                if p2.toInt = v40.toInt then
                  (0, σ)
                else
                  zLet ((60 : Int32)) fun v42 =>
                  if p2.toInt = v42.toInt then
                    (0, σ)
                  else
                    zLet ((0 : Int32)) fun v44 =>
                    zLet (Int64.ofNat 0) fun v45 =>
                    zLet (F_X11_token a0 v39 p1 v44 v45 σ) fun t46 =>
                    zLet ((1 : Int32)) fun v48 =>
                    (v48, t46)
              else
                zLet ((47 : Int32)) fun v16 =>
                if p2.toInt = v16.toInt then
                  zLet ((15 : Int32)) fun v31 =>
                  zLet ((60 : Int32)) fun v32 =>
                  if p2.toInt = v32.toInt then
                    (0, σ)
                  else
                    zLet ((0 : Int32)) fun v34 =>
                    zLet (Int64.ofNat 0) fun v35 =>
                    zLet (F_X11_token a0 v31 p1 v34 v35 σ) fun t36 =>
                    zLet ((1 : Int32)) fun v38 =>
                    (v38, t36)
                else
                  zLet ((60 : Int32)) fun v18 =>
                  if p2.toInt = v18.toInt then
                    zLet ((13 : Int32)) fun v25 =>
                    zLet ((0 : Int32)) fun v26 =>
                    zLet (Int64.ofNat 0) fun v27 =>
                    zLet (F_X11_token a0 v25 p1 v26 v27 σ) fun t28 =>
                    zLet ((1 : Int32)) fun v30 =>
                    (v30, t28)
                  else
                    zLet ((0 : Int32)) fun v20 =>
                    zLet (Int64.ofNat 0) fun v21 =>
                    zLet (F_X11_token a0 v9 p1 v20 v21 σ) fun t22 =>
                    zLet ((1 : Int32)) fun v24 =>
                    (v24, t22)
set_option maxRecDepth 100000 in
noncomputable def F_X11_cut_208 (v12 : Int32) (x6 : Int32) (a0 : Nat) (kLp7 : Int32 → zS → zS) : Nat → Int32 → Int32 → zS → zS
  | 0, _, _, s => s
  | n + 1, x41, x42, τ43 =>
    zLet (x6 + x42) fun v44 =>
    zLet (F_X11_byteAt a0 v44 τ43) fun v46 =>
    zLet (F_X11_isDigit v46) fun v47 =>
    if v47.toInt = 0 then
      zLet ((4 : Int32)) fun v49 =>
      if v49.toInt < x42.toInt then
        zLet ((3 : Int32)) fun v56 =>
        zLet (Int64.ofNat 0) fun v57 =>
        zLet (F_X11_token a0 v56 x6 x41 v57 τ43) fun t58 =>
        zLet (x6 + x42) fun v60 =>
        kLp7 v60 t58
      else
        zLet ((2 : Int32)) fun v51 =>
        zLet (Int64.ofNat 0) fun v52 =>
        zLet (F_X11_token a0 v51 x6 x41 v52 τ43) fun t53 =>
        zLet (x6 + x42) fun v55 =>
        kLp7 v55 t53
    else
      zLet ((4 : Int32)) fun v61 =>
      if x42.toInt < v61.toInt then
        zLet ((10 : Int32)) fun v64 =>
        zLet (v64 * x41) fun v65 =>
        zLet (x6 + x42) fun v66 =>
        zLet (F_X11_byteAt a0 v66 τ43) fun v68 =>
        zLet (v65 + v68) fun v69 =>
        zLet ((48 : Int32)) fun v70 =>
        zLet (v69 - v70) fun v71 =>
        zLet (x42 + (1 : Int32)) fun v72 =>
        F_X11_cut_208 v12 x6 a0 kLp7 n v71 v72 τ43
      else
        zLet (x42 + (1 : Int32)) fun v63 =>
        F_X11_cut_208 v12 x6 a0 kLp7 n x41 v63 τ43
set_option maxRecDepth 100000 in
noncomputable def F_X11_cut_146 (x75 : Int64) (x76 : Int32) (v12 : Int32) (x6 : Int32) (a0 : Nat) (kLp7 : Int32 → zS → zS) (kLp77 : Int64 → Int32 → zS → zS) : Nat → Int32 → Int32 → zS → zS
  | 0, _, _, s => s
  | n + 1, x89, x90, τ91 =>
    zLet ((22 : Int32)) fun v92 =>
    if x89.toInt < v92.toInt then
      zLet ((τ91.2.2 a0 9).getD 0) fun v98 =>
      zLet (τ91.2.1 v98 x89.toNatClampNeg) fun v99 =>
      zLet (lg_cmp v99 x75) fun v100 =>
      if v100.toInt = 0 then
        zLet ((20 : Int32)) fun v103 =>
        zLet (v103 + x89) fun v104 =>
        zLet (x89 + (1 : Int32)) fun v105 =>
        F_X11_cut_146 x75 x76 v12 x6 a0 kLp7 kLp77 n v105 v104 τ91
      else
        zLet (x89 + (1 : Int32)) fun v102 =>
        F_X11_cut_146 x75 x76 v12 x6 a0 kLp7 kLp77 n v102 x90 τ91
    else
      zLet ((0 : Int32)) fun v94 =>
      zLet (F_X11_token a0 x90 x6 v94 x75 τ91) fun t95 =>
      zLet (x6 + x76) fun v97 =>
      kLp7 v97 t95
set_option maxRecDepth 100000 in
noncomputable def F_X11_cut_85 (v12 : Int32) (x6 : Int32) (a0 : Nat) (kLp7 : Int32 → zS → zS) : Nat → Int64 → Int32 → zS → zS
  | 0, _, _, s => s
  | n + 1, x75, x76, τ77 =>
    zLet (x6 + x76) fun v78 =>
    zLet (F_X11_byteAt a0 v78 τ77) fun v80 =>
    zLet (F_X11_isLetter v80) fun v81 =>
    if v81.toInt = 0 then
      zLet ((8 : Int32)) fun v83 =>
      if v83.toInt < x76.toInt then
        zLet ((3 : Int32)) fun v106 =>
        zLet ((8 : Int32)) fun v107 =>
        if v107.toInt < x76.toInt then
          zLet ((0 : Int32)) fun v109 =>
          zLet (F_X11_token a0 v106 x6 v109 x75 τ77) fun t110 =>
          zLet (x6 + x76) fun v112 =>
          kLp7 v112 t110
        else
          τ77
      else
        zLet ((1 : Int32)) fun v85 =>
        zLet ((8 : Int32)) fun v86 =>
        if v86.toInt < x76.toInt then
          τ77
        else
          zLet ((0 : Int32)) fun v88 =>
          F_X11_cut_146 x75 x76 v12 x6 a0 kLp7 (F_X11_cut_85 v12 x6 a0 kLp7 n) 10000 v88 v85 τ77
    else
      zLet ((8 : Int32)) fun v113 =>
      if x76.toInt < v113.toInt then
        zLet (x6 + x76) fun v116 =>
        zLet (F_X11_byteAt a0 v116 τ77) fun v118 =>
        zLet (F_X11_appends x75 v118) fun v119 =>
        zLet (x76 + (1 : Int32)) fun v120 =>
        F_X11_cut_85 v12 x6 a0 kLp7 n v119 v120 τ77
      else
        zLet (x76 + (1 : Int32)) fun v115 =>
        F_X11_cut_85 v12 x6 a0 kLp7 n x75 v115 τ77
set_option maxRecDepth 100000 in
noncomputable def F_X11_cut_7 (a0 : Nat)  : Nat → Int32 → zS → zS
  | 0, _, s => s
  | n + 1, x6, τ7 =>
    zLet (τ7.1 a0 10) fun v8 =>
    zLet ((400 : Int32)) fun v9 =>
    if v9.toInt < v8.toInt then
      τ7
    else
      zLet (F_X11_byteAt a0 x6 τ7) fun v12 =>
      zLet (τ7.1 a0 4) fun v13 =>
      if x6.toInt < v13.toInt then
        zLet ((9 : Int32)) fun v15 =>
        if v12.toInt = v15.toInt then
          zLet (x6 + (1 : Int32)) fun v17 =>
          F_X11_cut_7 a0  n v17 τ7
        else
          zLet ((10 : Int32)) fun v18 =>
          if v12.toInt = v18.toInt then
            zLet (x6 + (1 : Int32)) fun v20 =>
            F_X11_cut_7 a0  n v20 τ7
          else
            zLet ((13 : Int32)) fun v21 =>
            if v12.toInt = v21.toInt then
              zLet (x6 + (1 : Int32)) fun v23 =>
              F_X11_cut_7 a0  n v23 τ7
            else
              zLet ((32 : Int32)) fun v24 =>
              if v12.toInt = v24.toInt then
                zLet (x6 + (1 : Int32)) fun v121 =>
                F_X11_cut_7 a0  n v121 τ7
              else
                zLet (F_X11_isLetter v12) fun v26 =>
                if v26.toInt = 0 then
                  zLet (F_X11_isDigit v12) fun v28 =>
                  if v28.toInt = 0 then
                    zLet ((1 : Int32)) fun v30 =>
                    zLet (x6 + v30) fun v31 =>
                    zLet (F_X11_byteAt a0 v31 τ7) fun v33 =>
                    zLet2 (F_X11_sign a0 x6 v12 v33 τ7) fun v35 t34 =>
                    zLet (x6 + v35) fun v38 =>
                    F_X11_cut_7 a0  n v38 t34
                  else
                    zLet ((0 : Int32)) fun v39 =>
                    zLet ((0 : Int32)) fun v40 =>
                    F_X11_cut_208 v12 x6 a0 (F_X11_cut_7 a0  n) 10000 v40 v39 τ7
                else
                  zLet ((0 : Int32)) fun v73 =>
                  zLet (Int64.ofNat 0) fun v74 =>
                  F_X11_cut_85 v12 x6 a0 (F_X11_cut_7 a0  n) 10000 v74 v73 τ7
      else
        zLet ((0 : Int32)) fun v122 =>
        zLet (τ7.1 a0 4) fun v123 =>
        zLet ((0 : Int32)) fun v124 =>
        zLet (Int64.ofNat 0) fun v125 =>
        zLet (F_X11_token a0 v122 v123 v124 v125 τ7) fun t126 =>
        t126
set_option maxRecDepth 100000 in
noncomputable def F_X11_cut (a0 : Nat) (σ : zS) : zS :=
  zLet ((0 : Int32)) fun v1 =>
  zLet ((zu σ.1 a0 10 v1, σ.2.1, σ.2.2)) fun s2 =>
  zLet ((0 : Int32)) fun v5 =>
  F_X11_cut_7 a0  2000000 v5 s2
set_option maxRecDepth 100000 in
noncomputable def F_X11_numberOf_27 (a0 : Nat) (p1 : Int32) (σ : zS)  : Nat → Int32 → Int32
  | 0, _ => 0
  | n + 1, x4 =>
    zLet (σ.1 a0 42) fun v6 =>
    if v6.toInt < x4.toInt then
      zLet ((-1 : Int32)) fun v8 =>
      v8
    else
      zLet ((σ.2.2 a0 20).getD 0) fun v9 =>
      zLet (σ.2.1 v9 x4.toNatClampNeg) fun v10 =>
      zLet ((σ.2.2 a0 8).getD 0) fun v11 =>
      zLet (σ.2.1 v11 p1.toNatClampNeg) fun v12 =>
      zLet (lg_cmp v10 v12) fun v13 =>
      if v13.toInt = 0 then
        x4
      else
        zLet (x4 + (1 : Int32)) fun v15 =>
        F_X11_numberOf_27 a0 p1 σ  n v15
set_option maxRecDepth 100000 in
noncomputable def F_X11_numberOf_27_1 (a0 : Nat) (p1 : Int32) (σ : zS)  : Nat → Int32 → Int32
  | 0, _ => 0
  | n + 1, x24 =>
    zLet (σ.1 a0 42) fun v26 =>
    if v26.toInt < x24.toInt then
      zLet ((-1 : Int32)) fun v28 =>
      v28
    else
      zLet ((σ.2.2 a0 20).getD 0) fun v29 =>
      zLet (σ.2.1 v29 x24.toNatClampNeg) fun v30 =>
      zLet ((σ.2.2 a0 8).getD 0) fun v31 =>
      zLet (σ.2.1 v31 p1.toNatClampNeg) fun v32 =>
      zLet (lg_cmp v30 v32) fun v33 =>
      if v33.toInt = 0 then
        x24
      else
        zLet (x24 + (1 : Int32)) fun v35 =>
        F_X11_numberOf_27_1 a0 p1 σ  n v35
set_option maxRecDepth 100000 in
noncomputable def F_X11_numberOf (a0 : Nat) (p1 : Int32) (σ : zS) : Int32 :=
  zLet (σ.1 a0 41) fun v1 =>
  if v1.toInt = 0 then
    zLet ((1 : Int32)) fun v3 =>
    F_X11_numberOf_27 a0 p1 σ  10000 v3
  else
    zLet ((σ.2.2 a0 20).getD 0) fun v16 =>
    zLet ((0 : Int32)) fun v17 =>
    zLet (σ.2.1 v16 v17.toNatClampNeg) fun v18 =>
    zLet ((σ.2.2 a0 8).getD 0) fun v19 =>
    zLet (σ.2.1 v19 p1.toNatClampNeg) fun v20 =>
    zLet (lg_cmp v18 v20) fun v21 =>
    if v21.toInt = 0 then
      zLet ((0 : Int32)) fun v36 =>
      v36
    else
      zLet ((1 : Int32)) fun v23 =>
      F_X11_numberOf_27_1 a0 p1 σ  10000 v23
set_option maxRecDepth 100000 in
noncomputable def F_X11_named (a0 : Nat) (σ : zS) : Int32 × zS :=
  zLet (σ.1 a0 11) fun v1 =>
  zLet ((1 : Int32)) fun v2 =>
  zLet (F_X11_must a0 v2 σ) fun t3 =>
  zLet (t3.1 a0 13) fun v5 =>
  if v5.toInt = 0 then
    zLet (F_X11_numberOf a0 v1 t3) fun v8 =>
    if v8.toInt < 0 then
      (v1, t3)
    else
      zLet ((3 : Int32)) fun v10 =>
      zLet (F_X11_wrong a0 v10 v1 t3) fun t11 =>
      (v1, t11)
  else
    (v1, t3)
set_option maxRecDepth 100000 in
noncomputable def F_X11_bounded (a0 : Nat) (p1 : Int32) (p2 : Int32) (σ : zS) : Int32 × zS :=
  zLet (σ.1 a0 13) fun v1 =>
  if 0 < v1.toInt then
    zLet ((1 : Int32)) fun v3 =>
    zLet (F_X11_fail a0 v3 σ) fun t4 =>
    (p1, t4)
  else
    zLet ((2 : Int32)) fun v6 =>
    zLet (F_X11_is a0 v6 σ) fun v8 =>
    if v8.toInt = 0 then
      zLet ((1 : Int32)) fun v37 =>
      zLet (F_X11_fail a0 v37 σ) fun t38 =>
      (p1, t38)
    else
      zLet ((σ.2.2 a0 7).getD 0) fun v10 =>
      zLet (σ.1 a0 11) fun v11 =>
      zLet (σ.1 v10 v11.toNatClampNeg) fun v12 =>
      if v12.toInt < p1.toInt then
        zLet ((5 : Int32)) fun v16 =>
        zLet (σ.1 a0 11) fun v17 =>
        zLet (F_X11_wrong a0 v16 v17 σ) fun t18 =>
        zLet (F_X11_goesOn a0  t18) fun t22 =>
        (v12, t22)
      else
        if p2.toInt < v12.toInt then
          zLet ((5 : Int32)) fun v29 =>
          zLet (σ.1 a0 11) fun v30 =>
          zLet (F_X11_wrong a0 v29 v30 σ) fun t31 =>
          zLet (F_X11_goesOn a0  t31) fun t35 =>
          (v12, t35)
        else
          zLet (F_X11_goesOn a0  σ) fun t27 =>
          (v12, t27)
set_option maxRecDepth 100000 in
noncomputable def F_X11_emit (a0 : Nat) (p1 : Int32) (p2 : Int32) (σ : zS) : zS :=
  zLet ((σ.2.2 a0 39).getD 0) fun v1 =>
  zLet (σ.1 a0 38) fun v2 =>
  zLet ((zu σ.1 v1 v2.toNatClampNeg p1, σ.2.1, σ.2.2)) fun s3 =>
  zLet ((s3.2.2 a0 40).getD 0) fun v6 =>
  zLet (s3.1 a0 38) fun v7 =>
  zLet ((zu s3.1 v6 v7.toNatClampNeg p2, s3.2.1, s3.2.2)) fun s8 =>
  zLet (s8.1 a0 38) fun v11 =>
  zLet ((1 : Int32)) fun v12 =>
  zLet (v11 + v12) fun v13 =>
  zLet ((zu s8.1 a0 38 v13, s8.2.1, s8.2.2)) fun s14 =>
  s14
set_option maxRecDepth 100000 in
noncomputable def F_X11_comesOut_0 (a0 : Nat) (p1 : Int32)  : Nat → zS → zS
  | 0, s => s
  | n + 1, τ1 =>
    zLet (τ1.1 a0 44) fun v2 =>
    if 0 < v2.toInt then
      zLet ((τ1.2.2 a0 43).getD 0) fun v4 =>
      zLet (τ1.1 a0 44) fun v5 =>
      zLet ((1 : Int32)) fun v6 =>
      zLet (v5 - v6) fun v7 =>
      zLet (τ1.1 v4 v7.toNatClampNeg) fun v8 =>
      zLet ((6 : Int32)) fun v9 =>
      if v8.toInt = v9.toInt then
        τ1
      else
        if p1.toInt = 0 then
          zLet (τ1.1 a0 44) fun v12 =>
          zLet ((1 : Int32)) fun v13 =>
          zLet (v12 - v13) fun v14 =>
          zLet ((zu τ1.1 a0 44 v14, τ1.2.1, τ1.2.2)) fun s15 =>
          zLet ((8 : Int32)) fun v18 =>
          if v8.toInt = v18.toInt then
            zLet ((2 : Int32)) fun v39 =>
            zLet ((0 : Int32)) fun v40 =>
            zLet (F_X11_emit a0 v39 v40 s15) fun t41 =>
            F_X11_comesOut_0 a0 p1  n  t41
          else
            zLet ((9 : Int32)) fun v20 =>
            if v8.toInt = v20.toInt then
              zLet ((3 : Int32)) fun v34 =>
              zLet ((0 : Int32)) fun v35 =>
              zLet (F_X11_emit a0 v34 v35 s15) fun t36 =>
              F_X11_comesOut_0 a0 p1  n  t36
            else
              zLet ((10 : Int32)) fun v22 =>
              if v8.toInt = v22.toInt then
                zLet ((4 : Int32)) fun v29 =>
                zLet ((0 : Int32)) fun v30 =>
                zLet (F_X11_emit a0 v29 v30 s15) fun t31 =>
                F_X11_comesOut_0 a0 p1  n  t31
              else
                zLet ((5 : Int32)) fun v24 =>
                zLet ((0 : Int32)) fun v25 =>
                zLet (F_X11_emit a0 v24 v25 s15) fun t26 =>
                F_X11_comesOut_0 a0 p1  n  t26
        else
          zLet ((8 : Int32)) fun v44 =>
          if v8.toInt = v44.toInt then
            τ1
          else
            zLet ((9 : Int32)) fun v46 =>
            if v8.toInt = v46.toInt then
              τ1
            else
              zLet (τ1.1 a0 44) fun v48 =>
              zLet ((1 : Int32)) fun v49 =>
              zLet (v48 - v49) fun v50 =>
              zLet ((zu τ1.1 a0 44 v50, τ1.2.1, τ1.2.2)) fun s51 =>
              zLet ((8 : Int32)) fun v54 =>
              if v8.toInt = v54.toInt then
                zLet ((2 : Int32)) fun v75 =>
                zLet ((0 : Int32)) fun v76 =>
                zLet (F_X11_emit a0 v75 v76 s51) fun t77 =>
                F_X11_comesOut_0 a0 p1  n  t77
              else
                zLet ((9 : Int32)) fun v56 =>
                if v8.toInt = v56.toInt then
                  zLet ((3 : Int32)) fun v70 =>
                  zLet ((0 : Int32)) fun v71 =>
                  zLet (F_X11_emit a0 v70 v71 s51) fun t72 =>
                  F_X11_comesOut_0 a0 p1  n  t72
                else
                  zLet ((10 : Int32)) fun v58 =>
                  if v8.toInt = v58.toInt then
                    zLet ((4 : Int32)) fun v65 =>
                    zLet ((0 : Int32)) fun v66 =>
                    zLet (F_X11_emit a0 v65 v66 s51) fun t67 =>
                    F_X11_comesOut_0 a0 p1  n  t67
                  else
                    zLet ((5 : Int32)) fun v60 =>
                    zLet ((0 : Int32)) fun v61 =>
                    zLet (F_X11_emit a0 v60 v61 s51) fun t62 =>
                    F_X11_comesOut_0 a0 p1  n  t62
    else
      τ1
set_option maxRecDepth 100000 in
noncomputable def F_X11_comesOut (a0 : Nat) (p1 : Int32) (σ : zS) : zS :=
  F_X11_comesOut_0 a0 p1  10000  σ
set_option maxRecDepth 100000 in
noncomputable def F_X11_unit (a0 : Nat) (σ : zS) : zS :=
  zLet ((2 : Int32)) fun v1 =>
  zLet (F_X11_is a0 v1 σ) fun v3 =>
  if v3.toInt = 0 then
    zLet (σ.1 a0 13) fun v5 =>
    if v5.toInt = 0 then
      zLet ((σ.2.2 a0 5).getD 0) fun v10 =>
      zLet (σ.1 a0 11) fun v11 =>
      zLet (σ.1 v10 v11.toNatClampNeg) fun v12 =>
      zLet ((33 : Int32)) fun v13 =>
      if v12.toInt < v13.toInt then
        zLet ((1 : Int32)) fun v16 =>
        zLet (F_X11_fail a0 v16 σ) fun t17 =>
        t17
      else
        zLet ((σ.2.2 a0 5).getD 0) fun v20 =>
        zLet (σ.1 a0 11) fun v21 =>
        zLet (σ.1 v20 v21.toNatClampNeg) fun v22 =>
        zLet ((41 : Int32)) fun v23 =>
        if v23.toInt < v22.toInt then
          zLet ((1 : Int32)) fun v26 =>
          zLet (F_X11_fail a0 v26 σ) fun t27 =>
          t27
        else
          zLet ((1 : Int32)) fun v30 =>
          zLet ((σ.2.2 a0 5).getD 0) fun v31 =>
          zLet (σ.1 a0 11) fun v32 =>
          zLet (σ.1 v31 v32.toNatClampNeg) fun v33 =>
          zLet ((33 : Int32)) fun v34 =>
          zLet (v33 - v34) fun v35 =>
          zLet (F_X11_emit a0 v30 v35 σ) fun t36 =>
          zLet (F_X11_goesOn a0  t36) fun t40 =>
          t40
    else
      zLet ((1 : Int32)) fun v7 =>
      zLet (F_X11_fail a0 v7 σ) fun t8 =>
      t8
  else
    zLet ((0 : Int32)) fun v42 =>
    zLet ((σ.2.2 a0 7).getD 0) fun v43 =>
    zLet (σ.1 a0 11) fun v44 =>
    zLet (σ.1 v43 v44.toNatClampNeg) fun v45 =>
    zLet (F_X11_emit a0 v42 v45 σ) fun t46 =>
    zLet (F_X11_goesOn a0  t46) fun t49 =>
    t49
set_option maxRecDepth 100000 in
noncomputable def F_X11_expression_96 (x7 : Int32) (v5 : Int32) (a0 : Nat) (kLp8 : Int32 → zS → zS) (kLp12 : zS → zS) : Nat → zS → zS
  | 0, s => s
  | n + 1, τ21 =>
    zLet ((7 : Int32)) fun v22 =>
    zLet (F_X11_is a0 v22 τ21) fun v24 =>
    if v24.toInt = 0 then
      zLet ((8 : Int32)) fun v26 =>
      zLet (F_X11_is a0 v26 τ21) fun v28 =>
      if v28.toInt = 0 then
        zLet ((9 : Int32)) fun v106 =>
        zLet (F_X11_is a0 v106 τ21) fun v108 =>
        if v108.toInt = 0 then
          zLet ((10 : Int32)) fun v186 =>
          zLet (F_X11_is a0 v186 τ21) fun v188 =>
          if v188.toInt = 0 then
            zLet ((15 : Int32)) fun v266 =>
            zLet (F_X11_is a0 v266 τ21) fun v268 =>
            if v268.toInt = 0 then
              zLet ((0 : Int32)) fun v270 =>
              if v270.toInt = 0 then
                zLet (τ21.1 a0 12) fun v272 =>
                if v5.toInt < v272.toInt then
                  zLet ((1 : Int32)) fun v278 =>
                  zLet (F_X11_fail a0 v278 τ21) fun t279 =>
                  zLet ((0 : Int32)) fun v282 =>
                  zLet (F_X11_comesOut a0 v282 t279) fun t283 =>
                  t283
                else
                  zLet ((0 : Int32)) fun v274 =>
                  zLet (F_X11_comesOut a0 v274 τ21) fun t275 =>
                  t275
              else
                τ21
            else
              zLet ((1 : Int32)) fun v286 =>
              if v286.toInt = 0 then
                τ21
              else
                zLet ((10 : Int32)) fun v288 =>
                zLet (F_X11_is a0 v288 τ21) fun v290 =>
                if v290.toInt = 0 then
                  zLet ((15 : Int32)) fun v314 =>
                  zLet (F_X11_is a0 v314 τ21) fun v316 =>
                  if v316.toInt = 0 then
                    zLet ((0 : Int32)) fun v318 =>
                    zLet (F_X11_comesOut a0 v318 τ21) fun t319 =>
                    zLet ((t319.2.2 a0 43).getD 0) fun v321 =>
                    zLet (t319.1 a0 44) fun v322 =>
                    zLet ((t319.2.2 a0 5).getD 0) fun v323 =>
                    zLet (t319.1 a0 11) fun v324 =>
                    zLet (t319.1 v323 v324.toNatClampNeg) fun v325 =>
                    zLet ((zu t319.1 v321 v322.toNatClampNeg v325, t319.2.1, t319.2.2)) fun s326 =>
                    zLet (s326.1 a0 44) fun v330 =>
                    zLet ((1 : Int32)) fun v331 =>
                    zLet (v330 + v331) fun v332 =>
                    zLet ((zu s326.1 a0 44 v332, s326.2.1, s326.2.2)) fun s333 =>
                    zLet (F_X11_goesOn a0  s333) fun t337 =>
                    kLp8 v286 t337
                  else
                    zLet ((1 : Int32)) fun v340 =>
                    zLet (F_X11_comesOut a0 v340 τ21) fun t341 =>
                    zLet ((t341.2.2 a0 43).getD 0) fun v343 =>
                    zLet (t341.1 a0 44) fun v344 =>
                    zLet ((t341.2.2 a0 5).getD 0) fun v345 =>
                    zLet (t341.1 a0 11) fun v346 =>
                    zLet (t341.1 v345 v346.toNatClampNeg) fun v347 =>
                    zLet ((zu t341.1 v343 v344.toNatClampNeg v347, t341.2.1, t341.2.2)) fun s348 =>
                    zLet (s348.1 a0 44) fun v352 =>
                    zLet ((1 : Int32)) fun v353 =>
                    zLet (v352 + v353) fun v354 =>
                    zLet ((zu s348.1 a0 44 v354, s348.2.1, s348.2.2)) fun s355 =>
                    zLet (F_X11_goesOn a0  s355) fun t359 =>
                    kLp8 v286 t359
                else
                  zLet ((1 : Int32)) fun v292 =>
                  zLet (F_X11_comesOut a0 v292 τ21) fun t293 =>
                  zLet ((t293.2.2 a0 43).getD 0) fun v295 =>
                  zLet (t293.1 a0 44) fun v296 =>
                  zLet ((t293.2.2 a0 5).getD 0) fun v297 =>
                  zLet (t293.1 a0 11) fun v298 =>
                  zLet (t293.1 v297 v298.toNatClampNeg) fun v299 =>
                  zLet ((zu t293.1 v295 v296.toNatClampNeg v299, t293.2.1, t293.2.2)) fun s300 =>
                  zLet (s300.1 a0 44) fun v304 =>
                  zLet ((1 : Int32)) fun v305 =>
                  zLet (v304 + v305) fun v306 =>
                  zLet ((zu s300.1 a0 44 v306, s300.2.1, s300.2.2)) fun s307 =>
                  zLet (F_X11_goesOn a0  s307) fun t311 =>
                  kLp8 v286 t311
          else
            zLet ((1 : Int32)) fun v190 =>
            if v190.toInt = 0 then
              τ21
            else
              zLet ((10 : Int32)) fun v192 =>
              zLet (F_X11_is a0 v192 τ21) fun v194 =>
              if v194.toInt = 0 then
                zLet ((15 : Int32)) fun v218 =>
                zLet (F_X11_is a0 v218 τ21) fun v220 =>
                if v220.toInt = 0 then
                  zLet ((0 : Int32)) fun v222 =>
                  zLet (F_X11_comesOut a0 v222 τ21) fun t223 =>
                  zLet ((t223.2.2 a0 43).getD 0) fun v225 =>
                  zLet (t223.1 a0 44) fun v226 =>
                  zLet ((t223.2.2 a0 5).getD 0) fun v227 =>
                  zLet (t223.1 a0 11) fun v228 =>
                  zLet (t223.1 v227 v228.toNatClampNeg) fun v229 =>
                  zLet ((zu t223.1 v225 v226.toNatClampNeg v229, t223.2.1, t223.2.2)) fun s230 =>
                  zLet (s230.1 a0 44) fun v234 =>
                  zLet ((1 : Int32)) fun v235 =>
                  zLet (v234 + v235) fun v236 =>
                  zLet ((zu s230.1 a0 44 v236, s230.2.1, s230.2.2)) fun s237 =>
                  zLet (F_X11_goesOn a0  s237) fun t241 =>
                  kLp8 v190 t241
                else
                  zLet ((1 : Int32)) fun v244 =>
                  zLet (F_X11_comesOut a0 v244 τ21) fun t245 =>
                  zLet ((t245.2.2 a0 43).getD 0) fun v247 =>
                  zLet (t245.1 a0 44) fun v248 =>
                  zLet ((t245.2.2 a0 5).getD 0) fun v249 =>
                  zLet (t245.1 a0 11) fun v250 =>
                  zLet (t245.1 v249 v250.toNatClampNeg) fun v251 =>
                  zLet ((zu t245.1 v247 v248.toNatClampNeg v251, t245.2.1, t245.2.2)) fun s252 =>
                  zLet (s252.1 a0 44) fun v256 =>
                  zLet ((1 : Int32)) fun v257 =>
                  zLet (v256 + v257) fun v258 =>
                  zLet ((zu s252.1 a0 44 v258, s252.2.1, s252.2.2)) fun s259 =>
                  zLet (F_X11_goesOn a0  s259) fun t263 =>
                  kLp8 v190 t263
              else
                zLet ((1 : Int32)) fun v196 =>
                zLet (F_X11_comesOut a0 v196 τ21) fun t197 =>
                zLet ((t197.2.2 a0 43).getD 0) fun v199 =>
                zLet (t197.1 a0 44) fun v200 =>
                zLet ((t197.2.2 a0 5).getD 0) fun v201 =>
                zLet (t197.1 a0 11) fun v202 =>
                zLet (t197.1 v201 v202.toNatClampNeg) fun v203 =>
                zLet ((zu t197.1 v199 v200.toNatClampNeg v203, t197.2.1, t197.2.2)) fun s204 =>
                zLet (s204.1 a0 44) fun v208 =>
                zLet ((1 : Int32)) fun v209 =>
                zLet (v208 + v209) fun v210 =>
                zLet ((zu s204.1 a0 44 v210, s204.2.1, s204.2.2)) fun s211 =>
                zLet (F_X11_goesOn a0  s211) fun t215 =>
                kLp8 v190 t215
        else
          zLet ((1 : Int32)) fun v110 =>
          if v110.toInt = 0 then
            τ21
          else
            zLet ((10 : Int32)) fun v112 =>
            zLet (F_X11_is a0 v112 τ21) fun v114 =>
            if v114.toInt = 0 then
              zLet ((15 : Int32)) fun v138 =>
              zLet (F_X11_is a0 v138 τ21) fun v140 =>
              if v140.toInt = 0 then
                zLet ((0 : Int32)) fun v142 =>
                zLet (F_X11_comesOut a0 v142 τ21) fun t143 =>
                zLet ((t143.2.2 a0 43).getD 0) fun v145 =>
                zLet (t143.1 a0 44) fun v146 =>
                zLet ((t143.2.2 a0 5).getD 0) fun v147 =>
                zLet (t143.1 a0 11) fun v148 =>
                zLet (t143.1 v147 v148.toNatClampNeg) fun v149 =>
                zLet ((zu t143.1 v145 v146.toNatClampNeg v149, t143.2.1, t143.2.2)) fun s150 =>
                zLet (s150.1 a0 44) fun v154 =>
                zLet ((1 : Int32)) fun v155 =>
                zLet (v154 + v155) fun v156 =>
                zLet ((zu s150.1 a0 44 v156, s150.2.1, s150.2.2)) fun s157 =>
                zLet (F_X11_goesOn a0  s157) fun t161 =>
                kLp8 v110 t161
              else
                zLet ((1 : Int32)) fun v164 =>
                zLet (F_X11_comesOut a0 v164 τ21) fun t165 =>
                zLet ((t165.2.2 a0 43).getD 0) fun v167 =>
                zLet (t165.1 a0 44) fun v168 =>
                zLet ((t165.2.2 a0 5).getD 0) fun v169 =>
                zLet (t165.1 a0 11) fun v170 =>
                zLet (t165.1 v169 v170.toNatClampNeg) fun v171 =>
                zLet ((zu t165.1 v167 v168.toNatClampNeg v171, t165.2.1, t165.2.2)) fun s172 =>
                zLet (s172.1 a0 44) fun v176 =>
                zLet ((1 : Int32)) fun v177 =>
                zLet (v176 + v177) fun v178 =>
                zLet ((zu s172.1 a0 44 v178, s172.2.1, s172.2.2)) fun s179 =>
                zLet (F_X11_goesOn a0  s179) fun t183 =>
                kLp8 v110 t183
            else
              zLet ((1 : Int32)) fun v116 =>
              zLet (F_X11_comesOut a0 v116 τ21) fun t117 =>
              zLet ((t117.2.2 a0 43).getD 0) fun v119 =>
              zLet (t117.1 a0 44) fun v120 =>
              zLet ((t117.2.2 a0 5).getD 0) fun v121 =>
              zLet (t117.1 a0 11) fun v122 =>
              zLet (t117.1 v121 v122.toNatClampNeg) fun v123 =>
              zLet ((zu t117.1 v119 v120.toNatClampNeg v123, t117.2.1, t117.2.2)) fun s124 =>
              zLet (s124.1 a0 44) fun v128 =>
              zLet ((1 : Int32)) fun v129 =>
              zLet (v128 + v129) fun v130 =>
              zLet ((zu s124.1 a0 44 v130, s124.2.1, s124.2.2)) fun s131 =>
              zLet (F_X11_goesOn a0  s131) fun t135 =>
              kLp8 v110 t135
      else
        zLet ((1 : Int32)) fun v30 =>
        if v30.toInt = 0 then
          τ21
        else
          zLet ((10 : Int32)) fun v32 =>
          zLet (F_X11_is a0 v32 τ21) fun v34 =>
          if v34.toInt = 0 then
            zLet ((15 : Int32)) fun v58 =>
            zLet (F_X11_is a0 v58 τ21) fun v60 =>
            if v60.toInt = 0 then
              zLet ((0 : Int32)) fun v62 =>
              zLet (F_X11_comesOut a0 v62 τ21) fun t63 =>
              zLet ((t63.2.2 a0 43).getD 0) fun v65 =>
              zLet (t63.1 a0 44) fun v66 =>
              zLet ((t63.2.2 a0 5).getD 0) fun v67 =>
              zLet (t63.1 a0 11) fun v68 =>
              zLet (t63.1 v67 v68.toNatClampNeg) fun v69 =>
              zLet ((zu t63.1 v65 v66.toNatClampNeg v69, t63.2.1, t63.2.2)) fun s70 =>
              zLet (s70.1 a0 44) fun v74 =>
              zLet ((1 : Int32)) fun v75 =>
              zLet (v74 + v75) fun v76 =>
              zLet ((zu s70.1 a0 44 v76, s70.2.1, s70.2.2)) fun s77 =>
              zLet (F_X11_goesOn a0  s77) fun t81 =>
              kLp8 v30 t81
            else
              zLet ((1 : Int32)) fun v84 =>
              zLet (F_X11_comesOut a0 v84 τ21) fun t85 =>
              zLet ((t85.2.2 a0 43).getD 0) fun v87 =>
              zLet (t85.1 a0 44) fun v88 =>
              zLet ((t85.2.2 a0 5).getD 0) fun v89 =>
              zLet (t85.1 a0 11) fun v90 =>
              zLet (t85.1 v89 v90.toNatClampNeg) fun v91 =>
              zLet ((zu t85.1 v87 v88.toNatClampNeg v91, t85.2.1, t85.2.2)) fun s92 =>
              zLet (s92.1 a0 44) fun v96 =>
              zLet ((1 : Int32)) fun v97 =>
              zLet (v96 + v97) fun v98 =>
              zLet ((zu s92.1 a0 44 v98, s92.2.1, s92.2.2)) fun s99 =>
              zLet (F_X11_goesOn a0  s99) fun t103 =>
              kLp8 v30 t103
          else
            zLet ((1 : Int32)) fun v36 =>
            zLet (F_X11_comesOut a0 v36 τ21) fun t37 =>
            zLet ((t37.2.2 a0 43).getD 0) fun v39 =>
            zLet (t37.1 a0 44) fun v40 =>
            zLet ((t37.2.2 a0 5).getD 0) fun v41 =>
            zLet (t37.1 a0 11) fun v42 =>
            zLet (t37.1 v41 v42.toNatClampNeg) fun v43 =>
            zLet ((zu t37.1 v39 v40.toNatClampNeg v43, t37.2.1, t37.2.2)) fun s44 =>
            zLet (s44.1 a0 44) fun v48 =>
            zLet ((1 : Int32)) fun v49 =>
            zLet (v48 + v49) fun v50 =>
            zLet ((zu s44.1 a0 44 v50, s44.2.1, s44.2.2)) fun s51 =>
            zLet (F_X11_goesOn a0  s51) fun t55 =>
            kLp8 v30 t55
    else
      zLet (τ21.1 a0 12) fun v362 =>
      if v5.toInt < v362.toInt then
        zLet ((0 : Int32)) fun v748 =>
        zLet (F_X11_comesOut a0 v748 τ21) fun t749 =>
        zLet (t749.1 a0 44) fun v752 =>
        zLet ((1 : Int32)) fun v753 =>
        zLet (v752 - v753) fun v754 =>
        zLet ((zu t749.1 a0 44 v754, t749.2.1, t749.2.2)) fun s755 =>
        zLet (s755.1 a0 12) fun v759 =>
        zLet ((1 : Int32)) fun v760 =>
        zLet (v759 - v760) fun v761 =>
        zLet ((zu s755.1 a0 12 v761, s755.2.1, s755.2.2)) fun s762 =>
        zLet (F_X11_goesOn a0  s762) fun t766 =>
        F_X11_expression_96 x7 v5 a0 kLp8 kLp12 n  t766
      else
        zLet ((8 : Int32)) fun v364 =>
        zLet (F_X11_is a0 v364 τ21) fun v366 =>
        if v366.toInt = 0 then
          zLet ((9 : Int32)) fun v456 =>
          zLet (F_X11_is a0 v456 τ21) fun v458 =>
          if v458.toInt = 0 then
            zLet ((10 : Int32)) fun v548 =>
            zLet (F_X11_is a0 v548 τ21) fun v550 =>
            if v550.toInt = 0 then
              zLet ((15 : Int32)) fun v640 =>
              zLet (F_X11_is a0 v640 τ21) fun v642 =>
              if v642.toInt = 0 then
                zLet ((0 : Int32)) fun v644 =>
                if v644.toInt = 0 then
                  zLet (τ21.1 a0 12) fun v646 =>
                  if v5.toInt < v646.toInt then
                    zLet ((1 : Int32)) fun v652 =>
                    zLet (F_X11_fail a0 v652 τ21) fun t653 =>
                    zLet ((0 : Int32)) fun v656 =>
                    zLet (F_X11_comesOut a0 v656 t653) fun t657 =>
                    t657
                  else
                    zLet ((0 : Int32)) fun v648 =>
                    zLet (F_X11_comesOut a0 v648 τ21) fun t649 =>
                    t649
                else
                  τ21
              else
                zLet ((1 : Int32)) fun v660 =>
                if v660.toInt = 0 then
                  τ21
                else
                  zLet ((10 : Int32)) fun v662 =>
                  zLet (F_X11_is a0 v662 τ21) fun v664 =>
                  if v664.toInt = 0 then
                    zLet ((15 : Int32)) fun v692 =>
                    zLet (F_X11_is a0 v692 τ21) fun v694 =>
                    if v694.toInt = 0 then
                      zLet ((0 : Int32)) fun v696 =>
                      zLet (F_X11_comesOut a0 v696 τ21) fun t697 =>
                      zLet ((t697.2.2 a0 43).getD 0) fun v700 =>
                      zLet (t697.1 a0 44) fun v701 =>
                      zLet ((t697.2.2 a0 5).getD 0) fun v702 =>
                      zLet (t697.1 a0 11) fun v703 =>
                      zLet (t697.1 v702 v703.toNatClampNeg) fun v704 =>
                      zLet ((zu t697.1 v700 v701.toNatClampNeg v704, t697.2.1, t697.2.2)) fun s705 =>
                      zLet (s705.1 a0 44) fun v710 =>
                      zLet ((1 : Int32)) fun v711 =>
                      zLet (v710 + v711) fun v712 =>
                      zLet ((zu s705.1 a0 44 v712, s705.2.1, s705.2.2)) fun s713 =>
                      zLet (F_X11_goesOn a0  s713) fun t718 =>
                      kLp8 v660 t718
                    else
                      zLet ((1 : Int32)) fun v722 =>
                      zLet (F_X11_comesOut a0 v722 τ21) fun t723 =>
                      zLet ((t723.2.2 a0 43).getD 0) fun v726 =>
                      zLet (t723.1 a0 44) fun v727 =>
                      zLet ((t723.2.2 a0 5).getD 0) fun v728 =>
                      zLet (t723.1 a0 11) fun v729 =>
                      zLet (t723.1 v728 v729.toNatClampNeg) fun v730 =>
                      zLet ((zu t723.1 v726 v727.toNatClampNeg v730, t723.2.1, t723.2.2)) fun s731 =>
                      zLet (s731.1 a0 44) fun v736 =>
                      zLet ((1 : Int32)) fun v737 =>
                      zLet (v736 + v737) fun v738 =>
                      zLet ((zu s731.1 a0 44 v738, s731.2.1, s731.2.2)) fun s739 =>
                      zLet (F_X11_goesOn a0  s739) fun t744 =>
                      kLp8 v660 t744
                  else
                    zLet ((1 : Int32)) fun v666 =>
                    zLet (F_X11_comesOut a0 v666 τ21) fun t667 =>
                    zLet ((t667.2.2 a0 43).getD 0) fun v670 =>
                    zLet (t667.1 a0 44) fun v671 =>
                    zLet ((t667.2.2 a0 5).getD 0) fun v672 =>
                    zLet (t667.1 a0 11) fun v673 =>
                    zLet (t667.1 v672 v673.toNatClampNeg) fun v674 =>
                    zLet ((zu t667.1 v670 v671.toNatClampNeg v674, t667.2.1, t667.2.2)) fun s675 =>
                    zLet (s675.1 a0 44) fun v680 =>
                    zLet ((1 : Int32)) fun v681 =>
                    zLet (v680 + v681) fun v682 =>
                    zLet ((zu s675.1 a0 44 v682, s675.2.1, s675.2.2)) fun s683 =>
                    zLet (F_X11_goesOn a0  s683) fun t688 =>
                    kLp8 v660 t688
            else
              zLet ((1 : Int32)) fun v552 =>
              if v552.toInt = 0 then
                τ21
              else
                zLet ((10 : Int32)) fun v554 =>
                zLet (F_X11_is a0 v554 τ21) fun v556 =>
                if v556.toInt = 0 then
                  zLet ((15 : Int32)) fun v584 =>
                  zLet (F_X11_is a0 v584 τ21) fun v586 =>
                  if v586.toInt = 0 then
                    zLet ((0 : Int32)) fun v588 =>
                    zLet (F_X11_comesOut a0 v588 τ21) fun t589 =>
                    zLet ((t589.2.2 a0 43).getD 0) fun v592 =>
                    zLet (t589.1 a0 44) fun v593 =>
                    zLet ((t589.2.2 a0 5).getD 0) fun v594 =>
                    zLet (t589.1 a0 11) fun v595 =>
                    zLet (t589.1 v594 v595.toNatClampNeg) fun v596 =>
                    zLet ((zu t589.1 v592 v593.toNatClampNeg v596, t589.2.1, t589.2.2)) fun s597 =>
                    zLet (s597.1 a0 44) fun v602 =>
                    zLet ((1 : Int32)) fun v603 =>
                    zLet (v602 + v603) fun v604 =>
                    zLet ((zu s597.1 a0 44 v604, s597.2.1, s597.2.2)) fun s605 =>
                    zLet (F_X11_goesOn a0  s605) fun t610 =>
                    kLp8 v552 t610
                  else
                    zLet ((1 : Int32)) fun v614 =>
                    zLet (F_X11_comesOut a0 v614 τ21) fun t615 =>
                    zLet ((t615.2.2 a0 43).getD 0) fun v618 =>
                    zLet (t615.1 a0 44) fun v619 =>
                    zLet ((t615.2.2 a0 5).getD 0) fun v620 =>
                    zLet (t615.1 a0 11) fun v621 =>
                    zLet (t615.1 v620 v621.toNatClampNeg) fun v622 =>
                    zLet ((zu t615.1 v618 v619.toNatClampNeg v622, t615.2.1, t615.2.2)) fun s623 =>
                    zLet (s623.1 a0 44) fun v628 =>
                    zLet ((1 : Int32)) fun v629 =>
                    zLet (v628 + v629) fun v630 =>
                    zLet ((zu s623.1 a0 44 v630, s623.2.1, s623.2.2)) fun s631 =>
                    zLet (F_X11_goesOn a0  s631) fun t636 =>
                    kLp8 v552 t636
                else
                  zLet ((1 : Int32)) fun v558 =>
                  zLet (F_X11_comesOut a0 v558 τ21) fun t559 =>
                  zLet ((t559.2.2 a0 43).getD 0) fun v562 =>
                  zLet (t559.1 a0 44) fun v563 =>
                  zLet ((t559.2.2 a0 5).getD 0) fun v564 =>
                  zLet (t559.1 a0 11) fun v565 =>
                  zLet (t559.1 v564 v565.toNatClampNeg) fun v566 =>
                  zLet ((zu t559.1 v562 v563.toNatClampNeg v566, t559.2.1, t559.2.2)) fun s567 =>
                  zLet (s567.1 a0 44) fun v572 =>
                  zLet ((1 : Int32)) fun v573 =>
                  zLet (v572 + v573) fun v574 =>
                  zLet ((zu s567.1 a0 44 v574, s567.2.1, s567.2.2)) fun s575 =>
                  zLet (F_X11_goesOn a0  s575) fun t580 =>
                  kLp8 v552 t580
          else
            zLet ((1 : Int32)) fun v460 =>
            if v460.toInt = 0 then
              τ21
            else
              zLet ((10 : Int32)) fun v462 =>
              zLet (F_X11_is a0 v462 τ21) fun v464 =>
              if v464.toInt = 0 then
                zLet ((15 : Int32)) fun v492 =>
                zLet (F_X11_is a0 v492 τ21) fun v494 =>
                if v494.toInt = 0 then
                  zLet ((0 : Int32)) fun v496 =>
                  zLet (F_X11_comesOut a0 v496 τ21) fun t497 =>
                  zLet ((t497.2.2 a0 43).getD 0) fun v500 =>
                  zLet (t497.1 a0 44) fun v501 =>
                  zLet ((t497.2.2 a0 5).getD 0) fun v502 =>
                  zLet (t497.1 a0 11) fun v503 =>
                  zLet (t497.1 v502 v503.toNatClampNeg) fun v504 =>
                  zLet ((zu t497.1 v500 v501.toNatClampNeg v504, t497.2.1, t497.2.2)) fun s505 =>
                  zLet (s505.1 a0 44) fun v510 =>
                  zLet ((1 : Int32)) fun v511 =>
                  zLet (v510 + v511) fun v512 =>
                  zLet ((zu s505.1 a0 44 v512, s505.2.1, s505.2.2)) fun s513 =>
                  zLet (F_X11_goesOn a0  s513) fun t518 =>
                  kLp8 v460 t518
                else
                  zLet ((1 : Int32)) fun v522 =>
                  zLet (F_X11_comesOut a0 v522 τ21) fun t523 =>
                  zLet ((t523.2.2 a0 43).getD 0) fun v526 =>
                  zLet (t523.1 a0 44) fun v527 =>
                  zLet ((t523.2.2 a0 5).getD 0) fun v528 =>
                  zLet (t523.1 a0 11) fun v529 =>
                  zLet (t523.1 v528 v529.toNatClampNeg) fun v530 =>
                  zLet ((zu t523.1 v526 v527.toNatClampNeg v530, t523.2.1, t523.2.2)) fun s531 =>
                  zLet (s531.1 a0 44) fun v536 =>
                  zLet ((1 : Int32)) fun v537 =>
                  zLet (v536 + v537) fun v538 =>
                  zLet ((zu s531.1 a0 44 v538, s531.2.1, s531.2.2)) fun s539 =>
                  zLet (F_X11_goesOn a0  s539) fun t544 =>
                  kLp8 v460 t544
              else
                zLet ((1 : Int32)) fun v466 =>
                zLet (F_X11_comesOut a0 v466 τ21) fun t467 =>
                zLet ((t467.2.2 a0 43).getD 0) fun v470 =>
                zLet (t467.1 a0 44) fun v471 =>
                zLet ((t467.2.2 a0 5).getD 0) fun v472 =>
                zLet (t467.1 a0 11) fun v473 =>
                zLet (t467.1 v472 v473.toNatClampNeg) fun v474 =>
                zLet ((zu t467.1 v470 v471.toNatClampNeg v474, t467.2.1, t467.2.2)) fun s475 =>
                zLet (s475.1 a0 44) fun v480 =>
                zLet ((1 : Int32)) fun v481 =>
                zLet (v480 + v481) fun v482 =>
                zLet ((zu s475.1 a0 44 v482, s475.2.1, s475.2.2)) fun s483 =>
                zLet (F_X11_goesOn a0  s483) fun t488 =>
                kLp8 v460 t488
        else
          zLet ((1 : Int32)) fun v368 =>
          if v368.toInt = 0 then
            τ21
          else
            zLet ((10 : Int32)) fun v370 =>
            zLet (F_X11_is a0 v370 τ21) fun v372 =>
            if v372.toInt = 0 then
              zLet ((15 : Int32)) fun v400 =>
              zLet (F_X11_is a0 v400 τ21) fun v402 =>
              if v402.toInt = 0 then
                zLet ((0 : Int32)) fun v404 =>
                zLet (F_X11_comesOut a0 v404 τ21) fun t405 =>
                zLet ((t405.2.2 a0 43).getD 0) fun v408 =>
                zLet (t405.1 a0 44) fun v409 =>
                zLet ((t405.2.2 a0 5).getD 0) fun v410 =>
                zLet (t405.1 a0 11) fun v411 =>
                zLet (t405.1 v410 v411.toNatClampNeg) fun v412 =>
                zLet ((zu t405.1 v408 v409.toNatClampNeg v412, t405.2.1, t405.2.2)) fun s413 =>
                zLet (s413.1 a0 44) fun v418 =>
                zLet ((1 : Int32)) fun v419 =>
                zLet (v418 + v419) fun v420 =>
                zLet ((zu s413.1 a0 44 v420, s413.2.1, s413.2.2)) fun s421 =>
                zLet (F_X11_goesOn a0  s421) fun t426 =>
                kLp8 v368 t426
              else
                zLet ((1 : Int32)) fun v430 =>
                zLet (F_X11_comesOut a0 v430 τ21) fun t431 =>
                zLet ((t431.2.2 a0 43).getD 0) fun v434 =>
                zLet (t431.1 a0 44) fun v435 =>
                zLet ((t431.2.2 a0 5).getD 0) fun v436 =>
                zLet (t431.1 a0 11) fun v437 =>
                zLet (t431.1 v436 v437.toNatClampNeg) fun v438 =>
                zLet ((zu t431.1 v434 v435.toNatClampNeg v438, t431.2.1, t431.2.2)) fun s439 =>
                zLet (s439.1 a0 44) fun v444 =>
                zLet ((1 : Int32)) fun v445 =>
                zLet (v444 + v445) fun v446 =>
                zLet ((zu s439.1 a0 44 v446, s439.2.1, s439.2.2)) fun s447 =>
                zLet (F_X11_goesOn a0  s447) fun t452 =>
                kLp8 v368 t452
            else
              zLet ((1 : Int32)) fun v374 =>
              zLet (F_X11_comesOut a0 v374 τ21) fun t375 =>
              zLet ((t375.2.2 a0 43).getD 0) fun v378 =>
              zLet (t375.1 a0 44) fun v379 =>
              zLet ((t375.2.2 a0 5).getD 0) fun v380 =>
              zLet (t375.1 a0 11) fun v381 =>
              zLet (t375.1 v380 v381.toNatClampNeg) fun v382 =>
              zLet ((zu t375.1 v378 v379.toNatClampNeg v382, t375.2.1, t375.2.2)) fun s383 =>
              zLet (s383.1 a0 44) fun v388 =>
              zLet ((1 : Int32)) fun v389 =>
              zLet (v388 + v389) fun v390 =>
              zLet ((zu s383.1 a0 44 v390, s383.2.1, s383.2.2)) fun s391 =>
              zLet (F_X11_goesOn a0  s391) fun t396 =>
              kLp8 v368 t396
set_option maxRecDepth 100000 in
noncomputable def F_X11_expression_23 (x7 : Int32) (v5 : Int32) (a0 : Nat) (kLp8 : Int32 → zS → zS) : Nat → zS → zS
  | 0, s => s
  | n + 1, τ12 =>
    zLet ((6 : Int32)) fun v13 =>
    zLet (F_X11_is a0 v13 τ12) fun v15 =>
    if v15.toInt = 0 then
      zLet (F_X11_unit a0  τ12) fun t17 =>
      zLet (t17.1 a0 13) fun v19 =>
      if 0 < v19.toInt then
        t17
      else
        F_X11_expression_96 x7 v5 a0 kLp8 (F_X11_expression_23 x7 v5 a0 kLp8 n) 10000  t17
    else
      zLet (τ12.1 a0 12) fun v770 =>
      zLet ((6 : Int32)) fun v771 =>
      if v770.toInt = v771.toInt then
        zLet ((2 : Int32)) fun v796 =>
        zLet (F_X11_fail a0 v796 τ12) fun t797 =>
        zLet (t797.1 a0 12) fun v800 =>
        zLet ((1 : Int32)) fun v801 =>
        zLet (v800 + v801) fun v802 =>
        zLet ((zu t797.1 a0 12 v802, t797.2.1, t797.2.2)) fun s803 =>
        zLet (F_X11_goesOn a0  s803) fun t806 =>
        zLet ((t806.2.2 a0 43).getD 0) fun v809 =>
        zLet (t806.1 a0 44) fun v810 =>
        zLet ((6 : Int32)) fun v811 =>
        zLet ((zu t806.1 v809 v810.toNatClampNeg v811, t806.2.1, t806.2.2)) fun s812 =>
        zLet (s812.1 a0 44) fun v816 =>
        zLet ((1 : Int32)) fun v817 =>
        zLet (v816 + v817) fun v818 =>
        zLet ((zu s812.1 a0 44 v818, s812.2.1, s812.2.2)) fun s819 =>
        F_X11_expression_23 x7 v5 a0 kLp8 n  s819
      else
        zLet (τ12.1 a0 12) fun v773 =>
        zLet ((1 : Int32)) fun v774 =>
        zLet (v773 + v774) fun v775 =>
        zLet ((zu τ12.1 a0 12 v775, τ12.2.1, τ12.2.2)) fun s776 =>
        zLet (F_X11_goesOn a0  s776) fun t779 =>
        zLet ((t779.2.2 a0 43).getD 0) fun v782 =>
        zLet (t779.1 a0 44) fun v783 =>
        zLet ((6 : Int32)) fun v784 =>
        zLet ((zu t779.1 v782 v783.toNatClampNeg v784, t779.2.1, t779.2.2)) fun s785 =>
        zLet (s785.1 a0 44) fun v789 =>
        zLet ((1 : Int32)) fun v790 =>
        zLet (v789 + v790) fun v791 =>
        zLet ((zu s785.1 a0 44 v791, s785.2.1, s785.2.2)) fun s792 =>
        F_X11_expression_23 x7 v5 a0 kLp8 n  s792
set_option maxRecDepth 100000 in
noncomputable def F_X11_expression_12 (v5 : Int32) (a0 : Nat)  : Nat → Int32 → zS → zS
  | 0, _, s => s
  | n + 1, x7, τ8 =>
    if x7.toInt = 0 then
      τ8
    else
      zLet (τ8.1 a0 13) fun v10 =>
      if v10.toInt = 0 then
        F_X11_expression_23 x7 v5 a0 (F_X11_expression_12 v5 a0  n) 10000  τ8
      else
        τ8
set_option maxRecDepth 100000 in
noncomputable def F_X11_expression (a0 : Nat) (σ : zS) : zS :=
  zLet ((0 : Int32)) fun v1 =>
  zLet ((zu σ.1 a0 44 v1, σ.2.1, σ.2.2)) fun s2 =>
  zLet (s2.1 a0 12) fun v5 =>
  zLet ((1 : Int32)) fun v6 =>
  F_X11_expression_12 v5 a0  10000 v6 s2
set_option maxRecDepth 100000 in
noncomputable def F_X11_term (a0 : Nat) (σ : zS) : zS :=
  zLet ((σ.2.2 a0 36).getD 0) fun v1 =>
  zLet (σ.1 a0 32) fun v2 =>
  zLet (σ.1 a0 38) fun v3 =>
  zLet ((zu σ.1 v1 v2.toNatClampNeg v3, σ.2.1, σ.2.2)) fun s4 =>
  zLet (s4.1 a0 13) fun v8 =>
  if v8.toInt = 0 then
    zLet (F_X11_expression a0  s4) fun t26 =>
    zLet ((t26.2.2 a0 37).getD 0) fun v29 =>
    zLet (t26.1 a0 32) fun v30 =>
    zLet (t26.1 a0 38) fun v31 =>
    zLet ((zu t26.1 v29 v30.toNatClampNeg v31, t26.2.1, t26.2.2)) fun s32 =>
    zLet (s32.1 a0 32) fun v36 =>
    zLet ((1 : Int32)) fun v37 =>
    zLet (v36 + v37) fun v38 =>
    zLet ((zu s32.1 a0 32 v38, s32.2.1, s32.2.2)) fun s39 =>
    s39
  else
    zLet ((s4.2.2 a0 37).getD 0) fun v10 =>
    zLet (s4.1 a0 32) fun v11 =>
    zLet (s4.1 a0 38) fun v12 =>
    zLet ((zu s4.1 v10 v11.toNatClampNeg v12, s4.2.1, s4.2.2)) fun s13 =>
    zLet (s13.1 a0 32) fun v18 =>
    zLet ((1 : Int32)) fun v19 =>
    zLet (v18 + v19) fun v20 =>
    zLet ((zu s13.1 a0 32 v20, s13.2.1, s13.2.2)) fun s21 =>
    s21
set_option maxRecDepth 100000 in
noncomputable def F_X11_tellLaw_12 (v4 : Int32) (a0 : Nat) (p1 : Int32)  : Nat → Int32 → zS → zS
  | 0, _, s => s
  | n + 1, x6, τ7 =>
    zLet (τ7.1 a0 13) fun v8 =>
    if v8.toInt = 0 then
      zLet ((30 : Int32)) fun v24 =>
      zLet (F_X11_is a0 v24 τ7) fun v26 =>
      if v26.toInt = 0 then
        zLet ((τ7.2.2 a0 33).getD 0) fun v28 =>
        zLet (τ7.1 a0 32) fun v29 =>
        zLet ((0 : Int32)) fun v30 =>
        zLet ((zu τ7.1 v28 v29.toNatClampNeg (vp_nar .boolean v30), τ7.2.1, τ7.2.2)) fun s31 =>
        zLet (F_X11_term a0  s31) fun t35 =>
        zLet ((4 : Int32)) fun v37 =>
        zLet (F_X11_must a0 v37 t35) fun t38 =>
        zLet (t38.1 a0 13) fun v40 =>
        if 0 < v40.toInt then
          t38
        else
          zLet ((t38.2.2 a0 30).getD 0) fun v42 =>
          zLet ((5 : Int32)) fun v43 =>
          zLet (t38.1 a0 19) fun v44 =>
          zLet (v43 * v44) fun v45 =>
          zLet (v45 + p1) fun v46 =>
          zLet ((zu t38.1 v42 v46.toNatClampNeg v4, t38.2.1, t38.2.2)) fun s47 =>
          zLet ((s47.2.2 a0 31).getD 0) fun v51 =>
          zLet ((5 : Int32)) fun v52 =>
          zLet (s47.1 a0 19) fun v53 =>
          zLet (v52 * v53) fun v54 =>
          zLet (v54 + p1) fun v55 =>
          zLet (s47.1 a0 32) fun v56 =>
          zLet ((zu s47.1 v51 v55.toNatClampNeg v56, s47.2.1, s47.2.2)) fun s57 =>
          s57
      else
        zLet ((4 : Int32)) fun v62 =>
        if x6.toInt = v62.toInt then
          zLet ((2 : Int32)) fun v120 =>
          zLet (F_X11_fail a0 v120 τ7) fun t121 =>
          zLet (t121.1 a0 13) fun v123 =>
          if 0 < v123.toInt then
            t121
          else
            t121
        else
          zLet (τ7.1 a0 13) fun v64 =>
          if 0 < v64.toInt then
            τ7
          else
            zLet (x6 + (1 : Int32)) fun v66 =>
            zLet (F_X11_goesOn a0  τ7) fun t67 =>
            zLet ((t67.2.2 a0 33).getD 0) fun v69 =>
            zLet (t67.1 a0 32) fun v70 =>
            zLet ((1 : Int32)) fun v71 =>
            zLet ((zu t67.1 v69 v70.toNatClampNeg (vp_nar .boolean v71), t67.2.1, t67.2.2)) fun s72 =>
            zLet ((s72.2.2 a0 34).getD 0) fun v75 =>
            zLet (s72.1 a0 32) fun v76 =>
            zLet (s72.1 a0 38) fun v77 =>
            zLet ((zu s72.1 v75 v76.toNatClampNeg v77, s72.2.1, s72.2.2)) fun s78 =>
            zLet (F_X11_expression a0  s78) fun t82 =>
            zLet ((13 : Int32)) fun v85 =>
            zLet (F_X11_must a0 v85 t82) fun t86 =>
            zLet ((t86.2.2 a0 35).getD 0) fun v89 =>
            zLet (t86.1 a0 32) fun v90 =>
            zLet (t86.1 a0 38) fun v91 =>
            zLet ((zu t86.1 v89 v90.toNatClampNeg v91, t86.2.1, t86.2.2)) fun s92 =>
            zLet (s92.1 a0 13) fun v96 =>
            if v96.toInt = 0 then
              zLet (F_X11_expression a0  s92) fun t108 =>
              zLet ((31 : Int32)) fun v111 =>
              zLet (F_X11_must a0 v111 t108) fun t112 =>
              zLet (F_X11_term a0  t112) fun t115 =>
              zLet ((32 : Int32)) fun v117 =>
              zLet (F_X11_must a0 v117 t115) fun t118 =>
              F_X11_tellLaw_12 v4 a0 p1  n v66 t118
            else
              zLet ((31 : Int32)) fun v98 =>
              zLet (F_X11_must a0 v98 s92) fun t99 =>
              zLet (F_X11_term a0  t99) fun t103 =>
              zLet ((32 : Int32)) fun v105 =>
              zLet (F_X11_must a0 v105 t103) fun t106 =>
              F_X11_tellLaw_12 v4 a0 p1  n v66 t106
    else
      zLet ((τ7.2.2 a0 33).getD 0) fun v10 =>
      zLet (τ7.1 a0 32) fun v11 =>
      zLet ((0 : Int32)) fun v12 =>
      zLet ((zu τ7.1 v10 v11.toNatClampNeg (vp_nar .boolean v12), τ7.2.1, τ7.2.2)) fun s13 =>
      zLet (F_X11_term a0  s13) fun t17 =>
      zLet ((4 : Int32)) fun v19 =>
      zLet (F_X11_must a0 v19 t17) fun t20 =>
      zLet (t20.1 a0 13) fun v22 =>
      if 0 < v22.toInt then
        t20
      else
        t20
set_option maxRecDepth 100000 in
noncomputable def F_X11_tellLaw (a0 : Nat) (p1 : Int32) (σ : zS) : zS :=
  zLet ((5 : Int32)) fun v1 =>
  zLet (F_X11_must a0 v1 σ) fun t2 =>
  zLet (t2.1 a0 32) fun v4 =>
  zLet ((0 : Int32)) fun v5 =>
  F_X11_tellLaw_12 v4 a0 p1  10000 v5 t2
set_option maxRecDepth 100000 in
noncomputable def F_X11_tellMouth (a0 : Nat) (σ : zS) : zS :=
  zLet2 (F_X11_named a0  σ) fun v2 t1 =>
  zLet ((4 : Int32)) fun v4 =>
  zLet (F_X11_must a0 v4 t1) fun t5 =>
  zLet (t5.1 a0 13) fun v7 =>
  if 0 < v7.toInt then
    t5
  else
    zLet ((1 : Int32)) fun v9 =>
    zLet ((zu t5.1 a0 41 v9, t5.2.1, t5.2.2)) fun s10 =>
    zLet ((s10.2.2 a0 20).getD 0) fun v14 =>
    zLet ((0 : Int32)) fun v15 =>
    zLet ((s10.2.2 a0 8).getD 0) fun v16 =>
    zLet (s10.2.1 v16 v2.toNatClampNeg) fun v17 =>
    zLet ((s10.1, zu s10.2.1 v14 v15.toNatClampNeg v17, s10.2.2)) fun s18 =>
    zLet ((12 : Int32)) fun v22 =>
    zLet (s18.1 a0 19) fun v23 =>
    zLet (v22 * v23) fun v24 =>
    zLet ((s18.2.2 a0 22).getD 0) fun v25 =>
    zLet ((-2 : Int32)) fun v26 =>
    zLet ((zu s18.1 v25 v24.toNatClampNeg v26, s18.2.1, s18.2.2)) fun s27 =>
    zLet ((s27.2.2 a0 23).getD 0) fun v32 =>
    zLet ((0 : Int32)) fun v33 =>
    zLet ((zu s27.1 v32 v24.toNatClampNeg v33, s27.2.1, s27.2.2)) fun s34 =>
    zLet ((s34.2.2 a0 24).getD 0) fun v39 =>
    zLet ((0 : Int32)) fun v40 =>
    zLet ((zu s34.1 v39 v24.toNatClampNeg v40, s34.2.1, s34.2.2)) fun s41 =>
    zLet ((s41.2.2 a0 25).getD 0) fun v46 =>
    zLet ((0 : Int32)) fun v47 =>
    zLet ((zu s41.1 v46 v24.toNatClampNeg v47, s41.2.1, s41.2.2)) fun s48 =>
    zLet ((s48.2.2 a0 21).getD 0) fun v53 =>
    zLet (s48.1 a0 19) fun v54 =>
    zLet (s48.1 a0 42) fun v55 =>
    zLet ((1 : Int32)) fun v56 =>
    zLet (v55 + v56) fun v57 =>
    zLet ((zu s48.1 v53 v54.toNatClampNeg v57, s48.2.1, s48.2.2)) fun s58 =>
    s58
set_option maxRecDepth 100000 in
noncomputable def F_X11_tellPlace (a0 : Nat) (σ : zS) : zS :=
  zLet ((12 : Int32)) fun v1 =>
  zLet (σ.1 a0 19) fun v2 =>
  zLet (v1 * v2) fun v3 =>
  zLet (σ.1 a0 42) fun v4 =>
  zLet (v3 + v4) fun v5 =>
  zLet ((1 : Int32)) fun v6 =>
  zLet (v5 + v6) fun v7 =>
  zLet2 (F_X11_named a0  σ) fun v9 t8 =>
  zLet (t8.1 a0 11) fun v13 =>
  zLet ((1 : Int32)) fun v14 =>
  zLet (F_X11_must a0 v14 t8) fun t15 =>
  zLet (t15.1 a0 13) fun v19 =>
  if 0 < v19.toInt then
    t15
  else
    zLet ((t15.2.2 a0 22).getD 0) fun v21 =>
    zLet (F_X11_numberOf a0 v13 t15) fun v23 =>
    zLet ((zu t15.1 v21 v7.toNatClampNeg v23, t15.2.1, t15.2.2)) fun s24 =>
    zLet ((s24.2.2 a0 22).getD 0) fun v29 =>
    zLet (s24.1 v29 v7.toNatClampNeg) fun v30 =>
    if v30.toInt < 0 then
      zLet ((4 : Int32)) fun v108 =>
      zLet (F_X11_wrong a0 v108 v13 s24) fun t109 =>
      zLet ((t109.2.2 a0 23).getD 0) fun v114 =>
      zLet ((1 : Int32)) fun v115 =>
      zLet ((99 : Int32)) fun v116 =>
      zLet2 (F_X11_bounded a0 v115 v116 t109) fun v118 t117 =>
      zLet ((zu t117.1 v114 v7.toNatClampNeg v118, t117.2.1, t117.2.2)) fun s123 =>
      zLet ((s123.2.2 a0 24).getD 0) fun v127 =>
      zLet ((0 : Int32)) fun v128 =>
      zLet ((99 : Int32)) fun v129 =>
      zLet2 (F_X11_bounded a0 v128 v129 s123) fun v131 t130 =>
      zLet ((zu t130.1 v127 v7.toNatClampNeg v131, t130.2.1, t130.2.2)) fun s136 =>
      zLet ((s136.2.2 a0 25).getD 0) fun v140 =>
      zLet ((0 : Int32)) fun v141 =>
      zLet ((99 : Int32)) fun v142 =>
      zLet2 (F_X11_bounded a0 v141 v142 s136) fun v144 t143 =>
      zLet ((zu t143.1 v140 v7.toNatClampNeg v144, t143.2.1, t143.2.2)) fun s149 =>
      zLet ((4 : Int32)) fun v153 =>
      zLet (F_X11_must a0 v153 s149) fun t154 =>
      zLet (t154.1 a0 13) fun v158 =>
      if 0 < v158.toInt then
        t154
      else
        zLet (t154.1 a0 42) fun v160 =>
        zLet ((1 : Int32)) fun v161 =>
        zLet (v160 + v161) fun v162 =>
        zLet ((zu t154.1 a0 42 v162, t154.2.1, t154.2.2)) fun s163 =>
        zLet ((s163.2.2 a0 20).getD 0) fun v168 =>
        zLet (s163.1 a0 42) fun v169 =>
        zLet ((s163.2.2 a0 8).getD 0) fun v170 =>
        zLet (s163.2.1 v170 v9.toNatClampNeg) fun v171 =>
        zLet ((s163.1, zu s163.2.1 v168 v169.toNatClampNeg v171, s163.2.2)) fun s172 =>
        zLet (s172.1 a0 41) fun v177 =>
        if v177.toInt = 0 then
          s172
        else
          zLet ((s172.2.2 a0 21).getD 0) fun v179 =>
          zLet (s172.1 a0 19) fun v180 =>
          zLet (s172.1 a0 42) fun v181 =>
          zLet ((1 : Int32)) fun v182 =>
          zLet (v181 + v182) fun v183 =>
          zLet ((zu s172.1 v179 v180.toNatClampNeg v183, s172.2.1, s172.2.2)) fun s184 =>
          s184
    else
      zLet ((s24.2.2 a0 23).getD 0) fun v32 =>
      zLet ((1 : Int32)) fun v33 =>
      zLet ((99 : Int32)) fun v34 =>
      zLet2 (F_X11_bounded a0 v33 v34 s24) fun v36 t35 =>
      zLet ((zu t35.1 v32 v7.toNatClampNeg v36, t35.2.1, t35.2.2)) fun s41 =>
      zLet ((s41.2.2 a0 24).getD 0) fun v45 =>
      zLet ((0 : Int32)) fun v46 =>
      zLet ((99 : Int32)) fun v47 =>
      zLet2 (F_X11_bounded a0 v46 v47 s41) fun v49 t48 =>
      zLet ((zu t48.1 v45 v7.toNatClampNeg v49, t48.2.1, t48.2.2)) fun s54 =>
      zLet ((s54.2.2 a0 25).getD 0) fun v58 =>
      zLet ((0 : Int32)) fun v59 =>
      zLet ((99 : Int32)) fun v60 =>
      zLet2 (F_X11_bounded a0 v59 v60 s54) fun v62 t61 =>
      zLet ((zu t61.1 v58 v7.toNatClampNeg v62, t61.2.1, t61.2.2)) fun s67 =>
      zLet ((4 : Int32)) fun v71 =>
      zLet (F_X11_must a0 v71 s67) fun t72 =>
      zLet (t72.1 a0 13) fun v76 =>
      if 0 < v76.toInt then
        t72
      else
        zLet (t72.1 a0 42) fun v78 =>
        zLet ((1 : Int32)) fun v79 =>
        zLet (v78 + v79) fun v80 =>
        zLet ((zu t72.1 a0 42 v80, t72.2.1, t72.2.2)) fun s81 =>
        zLet ((s81.2.2 a0 20).getD 0) fun v86 =>
        zLet (s81.1 a0 42) fun v87 =>
        zLet ((s81.2.2 a0 8).getD 0) fun v88 =>
        zLet (s81.2.1 v88 v9.toNatClampNeg) fun v89 =>
        zLet ((s81.1, zu s81.2.1 v86 v87.toNatClampNeg v89, s81.2.2)) fun s90 =>
        zLet (s90.1 a0 41) fun v95 =>
        if v95.toInt = 0 then
          s90
        else
          zLet ((s90.2.2 a0 21).getD 0) fun v97 =>
          zLet (s90.1 a0 19) fun v98 =>
          zLet (s90.1 a0 42) fun v99 =>
          zLet ((1 : Int32)) fun v100 =>
          zLet (v99 + v100) fun v101 =>
          zLet ((zu s90.1 v97 v98.toNatClampNeg v101, s90.2.1, s90.2.2)) fun s102 =>
          s102
set_option maxRecDepth 100000 in
noncomputable def F_X11_tellOne (a0 : Nat) (σ : zS) : zS :=
  zLet ((σ.2.2 a0 5).getD 0) fun v1 =>
  zLet (σ.1 a0 11) fun v2 =>
  zLet (σ.1 v1 v2.toNatClampNeg) fun v3 =>
  if v3.toInt = 20 then
    zLet (σ.1 a0 41) fun v5 =>
    if v5.toInt = 0 then
      zLet (σ.1 a0 13) fun v7 =>
      if 0 < v7.toInt then
        σ
      else
        zLet (F_X11_goesOn a0  σ) fun t9 =>
        zLet (F_X11_tellMouth a0  t9) fun t12 =>
        t12
    else
      zLet ((2 : Int32)) fun v14 =>
      zLet (F_X11_fail a0 v14 σ) fun t15 =>
      zLet (t15.1 a0 13) fun v19 =>
      if 0 < v19.toInt then
        t15
      else
        zLet (F_X11_goesOn a0  t15) fun t21 =>
        zLet (F_X11_tellMouth a0  t21) fun t24 =>
        t24
  else
    if v3.toInt = 21 then
      zLet (σ.1 a0 42) fun v27 =>
      zLet ((11 : Int32)) fun v28 =>
      if v27.toInt = v28.toInt then
        zLet ((2 : Int32)) fun v37 =>
        zLet (F_X11_fail a0 v37 σ) fun t38 =>
        zLet (t38.1 a0 13) fun v42 =>
        if 0 < v42.toInt then
          t38
        else
          zLet (F_X11_goesOn a0  t38) fun t44 =>
          zLet (F_X11_tellPlace a0  t44) fun t47 =>
          t47
      else
        zLet (σ.1 a0 13) fun v30 =>
        if 0 < v30.toInt then
          σ
        else
          zLet (F_X11_goesOn a0  σ) fun t32 =>
          zLet (F_X11_tellPlace a0  t32) fun t35 =>
          t35
    else
      if v3.toInt = 22 then
        zLet ((σ.2.2 a0 5).getD 0) fun v50 =>
        zLet (σ.1 a0 11) fun v51 =>
        zLet (σ.1 v50 v51.toNatClampNeg) fun v52 =>
        zLet ((22 : Int32)) fun v53 =>
        zLet (v52 - v53) fun v54 =>
        if v54.toInt < 0 then
          zLet ((1 : Int32)) fun v56 =>
          zLet (F_X11_fail a0 v56 σ) fun t57 =>
          zLet (t57.1 a0 13) fun v60 =>
          if 0 < v60.toInt then
            t57
          else
            zLet (F_X11_goesOn a0  t57) fun t62 =>
            zLet (F_X11_tellLaw a0 v54 t62) fun t64 =>
            t64
        else
          zLet ((σ.2.2 a0 5).getD 0) fun v66 =>
          zLet (σ.1 a0 11) fun v67 =>
          zLet (σ.1 v66 v67.toNatClampNeg) fun v68 =>
          zLet ((26 : Int32)) fun v69 =>
          if v69.toInt < v68.toInt then
            zLet ((1 : Int32)) fun v78 =>
            zLet (F_X11_fail a0 v78 σ) fun t79 =>
            zLet (t79.1 a0 13) fun v82 =>
            if 0 < v82.toInt then
              t79
            else
              zLet (F_X11_goesOn a0  t79) fun t84 =>
              zLet (F_X11_tellLaw a0 v54 t84) fun t86 =>
              t86
          else
            zLet (σ.1 a0 13) fun v72 =>
            if 0 < v72.toInt then
              σ
            else
              zLet (F_X11_goesOn a0  σ) fun t74 =>
              zLet (F_X11_tellLaw a0 v54 t74) fun t76 =>
              t76
      else
        if v3.toInt = 23 then
          zLet ((σ.2.2 a0 5).getD 0) fun v89 =>
          zLet (σ.1 a0 11) fun v90 =>
          zLet (σ.1 v89 v90.toNatClampNeg) fun v91 =>
          zLet ((22 : Int32)) fun v92 =>
          zLet (v91 - v92) fun v93 =>
          if v93.toInt < 0 then
            zLet ((1 : Int32)) fun v95 =>
            zLet (F_X11_fail a0 v95 σ) fun t96 =>
            zLet (t96.1 a0 13) fun v99 =>
            if 0 < v99.toInt then
              t96
            else
              zLet (F_X11_goesOn a0  t96) fun t101 =>
              zLet (F_X11_tellLaw a0 v93 t101) fun t103 =>
              t103
          else
            zLet ((σ.2.2 a0 5).getD 0) fun v105 =>
            zLet (σ.1 a0 11) fun v106 =>
            zLet (σ.1 v105 v106.toNatClampNeg) fun v107 =>
            zLet ((26 : Int32)) fun v108 =>
            if v108.toInt < v107.toInt then
              zLet ((1 : Int32)) fun v117 =>
              zLet (F_X11_fail a0 v117 σ) fun t118 =>
              zLet (t118.1 a0 13) fun v121 =>
              if 0 < v121.toInt then
                t118
              else
                zLet (F_X11_goesOn a0  t118) fun t123 =>
                zLet (F_X11_tellLaw a0 v93 t123) fun t125 =>
                t125
            else
              zLet (σ.1 a0 13) fun v111 =>
              if 0 < v111.toInt then
                σ
              else
                zLet (F_X11_goesOn a0  σ) fun t113 =>
                zLet (F_X11_tellLaw a0 v93 t113) fun t115 =>
                t115
        else
          if v3.toInt = 24 then
            zLet ((σ.2.2 a0 5).getD 0) fun v128 =>
            zLet (σ.1 a0 11) fun v129 =>
            zLet (σ.1 v128 v129.toNatClampNeg) fun v130 =>
            zLet ((22 : Int32)) fun v131 =>
            zLet (v130 - v131) fun v132 =>
            if v132.toInt < 0 then
              zLet ((1 : Int32)) fun v134 =>
              zLet (F_X11_fail a0 v134 σ) fun t135 =>
              zLet (t135.1 a0 13) fun v138 =>
              if 0 < v138.toInt then
                t135
              else
                zLet (F_X11_goesOn a0  t135) fun t140 =>
                zLet (F_X11_tellLaw a0 v132 t140) fun t142 =>
                t142
            else
              zLet ((σ.2.2 a0 5).getD 0) fun v144 =>
              zLet (σ.1 a0 11) fun v145 =>
              zLet (σ.1 v144 v145.toNatClampNeg) fun v146 =>
              zLet ((26 : Int32)) fun v147 =>
              if v147.toInt < v146.toInt then
                zLet ((1 : Int32)) fun v156 =>
                zLet (F_X11_fail a0 v156 σ) fun t157 =>
                zLet (t157.1 a0 13) fun v160 =>
                if 0 < v160.toInt then
                  t157
                else
                  zLet (F_X11_goesOn a0  t157) fun t162 =>
                  zLet (F_X11_tellLaw a0 v132 t162) fun t164 =>
                  t164
              else
                zLet (σ.1 a0 13) fun v150 =>
                if 0 < v150.toInt then
                  σ
                else
                  zLet (F_X11_goesOn a0  σ) fun t152 =>
                  zLet (F_X11_tellLaw a0 v132 t152) fun t154 =>
                  t154
          else
            if v3.toInt = 25 then
              zLet ((σ.2.2 a0 5).getD 0) fun v167 =>
              zLet (σ.1 a0 11) fun v168 =>
              zLet (σ.1 v167 v168.toNatClampNeg) fun v169 =>
              zLet ((22 : Int32)) fun v170 =>
              zLet (v169 - v170) fun v171 =>
              if v171.toInt < 0 then
                zLet ((1 : Int32)) fun v173 =>
                zLet (F_X11_fail a0 v173 σ) fun t174 =>
                zLet (t174.1 a0 13) fun v177 =>
                if 0 < v177.toInt then
                  t174
                else
                  zLet (F_X11_goesOn a0  t174) fun t179 =>
                  zLet (F_X11_tellLaw a0 v171 t179) fun t181 =>
                  t181
              else
                zLet ((σ.2.2 a0 5).getD 0) fun v183 =>
                zLet (σ.1 a0 11) fun v184 =>
                zLet (σ.1 v183 v184.toNatClampNeg) fun v185 =>
                zLet ((26 : Int32)) fun v186 =>
                if v186.toInt < v185.toInt then
                  zLet ((1 : Int32)) fun v195 =>
                  zLet (F_X11_fail a0 v195 σ) fun t196 =>
                  zLet (t196.1 a0 13) fun v199 =>
                  if 0 < v199.toInt then
                    t196
                  else
                    zLet (F_X11_goesOn a0  t196) fun t201 =>
                    zLet (F_X11_tellLaw a0 v171 t201) fun t203 =>
                    t203
                else
                  zLet (σ.1 a0 13) fun v189 =>
                  if 0 < v189.toInt then
                    σ
                  else
                    zLet (F_X11_goesOn a0  σ) fun t191 =>
                    zLet (F_X11_tellLaw a0 v171 t191) fun t193 =>
                    t193
            else
              if v3.toInt = 26 then
                zLet ((σ.2.2 a0 5).getD 0) fun v206 =>
                zLet (σ.1 a0 11) fun v207 =>
                zLet (σ.1 v206 v207.toNatClampNeg) fun v208 =>
                zLet ((22 : Int32)) fun v209 =>
                zLet (v208 - v209) fun v210 =>
                if v210.toInt < 0 then
                  zLet ((1 : Int32)) fun v212 =>
                  zLet (F_X11_fail a0 v212 σ) fun t213 =>
                  zLet (t213.1 a0 13) fun v216 =>
                  if 0 < v216.toInt then
                    t213
                  else
                    zLet (F_X11_goesOn a0  t213) fun t218 =>
                    zLet (F_X11_tellLaw a0 v210 t218) fun t220 =>
                    t220
                else
                  zLet ((σ.2.2 a0 5).getD 0) fun v222 =>
                  zLet (σ.1 a0 11) fun v223 =>
                  zLet (σ.1 v222 v223.toNatClampNeg) fun v224 =>
                  zLet ((26 : Int32)) fun v225 =>
                  if v225.toInt < v224.toInt then
                    zLet ((1 : Int32)) fun v234 =>
                    zLet (F_X11_fail a0 v234 σ) fun t235 =>
                    zLet (t235.1 a0 13) fun v238 =>
                    if 0 < v238.toInt then
                      t235
                    else
                      zLet (F_X11_goesOn a0  t235) fun t240 =>
                      zLet (F_X11_tellLaw a0 v210 t240) fun t242 =>
                      t242
                  else
                    zLet (σ.1 a0 13) fun v228 =>
                    if 0 < v228.toInt then
                      σ
                    else
                      zLet (F_X11_goesOn a0  σ) fun t230 =>
                      zLet (F_X11_tellLaw a0 v210 t230) fun t232 =>
                      t232
              else
                if v3.toInt = 27 then
                  zLet (F_X11_goesOn a0  σ) fun t245 =>
                  zLet ((t245.2.2 a0 26).getD 0) fun v247 =>
                  zLet (t245.1 a0 19) fun v248 =>
                  zLet ((0 : Int32)) fun v249 =>
                  zLet ((100 : Int32)) fun v250 =>
                  zLet2 (F_X11_bounded a0 v249 v250 t245) fun v252 t251 =>
                  zLet ((zu t251.1 v247 v248.toNatClampNeg v252, t251.2.1, t251.2.2)) fun s256 =>
                  zLet ((s256.2.2 a0 27).getD 0) fun v259 =>
                  zLet (s256.1 a0 19) fun v260 =>
                  zLet ((0 : Int32)) fun v261 =>
                  zLet ((99 : Int32)) fun v262 =>
                  zLet2 (F_X11_bounded a0 v261 v262 s256) fun v264 t263 =>
                  zLet ((zu t263.1 v259 v260.toNatClampNeg v264, t263.2.1, t263.2.2)) fun s268 =>
                  zLet ((4 : Int32)) fun v271 =>
                  zLet (F_X11_must a0 v271 s268) fun t272 =>
                  t272
                else
                  if v3.toInt = 28 then
                    zLet (F_X11_goesOn a0  σ) fun t276 =>
                    zLet ((t276.2.2 a0 28).getD 0) fun v278 =>
                    zLet (t276.1 a0 19) fun v279 =>
                    zLet ((0 : Int32)) fun v280 =>
                    zLet ((99 : Int32)) fun v281 =>
                    zLet2 (F_X11_bounded a0 v280 v281 t276) fun v283 t282 =>
                    zLet ((zu t282.1 v278 v279.toNatClampNeg v283, t282.2.1, t282.2.2)) fun s287 =>
                    zLet ((4 : Int32)) fun v290 =>
                    zLet (F_X11_must a0 v290 s287) fun t291 =>
                    t291
                  else
                    if v3.toInt = 29 then
                      zLet (F_X11_goesOn a0  σ) fun t295 =>
                      zLet ((t295.2.2 a0 29).getD 0) fun v297 =>
                      zLet (t295.1 a0 19) fun v298 =>
                      zLet ((0 : Int32)) fun v299 =>
                      zLet ((9999 : Int32)) fun v300 =>
                      zLet2 (F_X11_bounded a0 v299 v300 t295) fun v302 t301 =>
                      zLet ((zu t301.1 v297 v298.toNatClampNeg v302, t301.2.1, t301.2.2)) fun s306 =>
                      zLet ((4 : Int32)) fun v309 =>
                      zLet (F_X11_must a0 v309 s306) fun t310 =>
                      t310
                    else
                      zLet ((σ.2.2 a0 5).getD 0) fun v313 =>
                      zLet (σ.1 a0 11) fun v314 =>
                      zLet (σ.1 v313 v314.toNatClampNeg) fun v315 =>
                      zLet ((22 : Int32)) fun v316 =>
                      zLet (v315 - v316) fun v317 =>
                      if v317.toInt < 0 then
                        zLet ((1 : Int32)) fun v319 =>
                        zLet (F_X11_fail a0 v319 σ) fun t320 =>
                        zLet (t320.1 a0 13) fun v323 =>
                        if 0 < v323.toInt then
                          t320
                        else
                          zLet (F_X11_goesOn a0  t320) fun t325 =>
                          zLet (F_X11_tellLaw a0 v317 t325) fun t327 =>
                          t327
                      else
                        zLet ((σ.2.2 a0 5).getD 0) fun v329 =>
                        zLet (σ.1 a0 11) fun v330 =>
                        zLet (σ.1 v329 v330.toNatClampNeg) fun v331 =>
                        zLet ((26 : Int32)) fun v332 =>
                        if v332.toInt < v331.toInt then
                          zLet ((1 : Int32)) fun v341 =>
                          zLet (F_X11_fail a0 v341 σ) fun t342 =>
                          zLet (t342.1 a0 13) fun v345 =>
                          if 0 < v345.toInt then
                            t342
                          else
                            zLet (F_X11_goesOn a0  t342) fun t347 =>
                            zLet (F_X11_tellLaw a0 v317 t347) fun t349 =>
                            t349
                        else
                          zLet (σ.1 a0 13) fun v335 =>
                          if 0 < v335.toInt then
                            σ
                          else
                            zLet (F_X11_goesOn a0  σ) fun t337 =>
                            zLet (F_X11_tellLaw a0 v317 t337) fun t339 =>
                            t339
set_option maxRecDepth 100000 in
noncomputable def F_X11_read_224 (a0 : Nat) (kLp8 : Int32 → zS → Int32 × zS) (kLp133 : zS → Int32 × zS) : Nat → Int32 → zS → Int32 × zS
  | 0, _, s => (0, s)
  | n + 1, x207, τ208 =>
    zLet ((3 : Int32)) fun v209 =>
    if x207.toInt < v209.toInt then
      zLet ((τ208.2.2 a0 67).getD 0) fun v212 =>
      zLet ((0 : Int32)) fun v213 =>
      zLet ((zu τ208.1 v212 x207.toNatClampNeg (vp_nar .boolean v213), τ208.2.1, τ208.2.2)) fun s214 =>
      zLet (x207 + (1 : Int32)) fun v216 =>
      F_X11_read_224 a0 kLp8 kLp133 n v216 s214
    else
      zLet ((0 : Int32)) fun v211 =>
      (v211, τ208)
set_option maxRecDepth 100000 in
noncomputable def F_X11_read_117 (x7 : Int32) (a0 : Nat) (kLp8 : Int32 → zS → Int32 × zS) : Nat → zS → Int32 × zS
  | 0, s => (0, s)
  | n + 1, τ133 =>
    zLet (τ133.1 a0 13) fun v134 =>
    if v134.toInt = 0 then
      zLet ((0 : Int32)) fun v147 =>
      zLet (F_X11_is a0 v147 τ133) fun v149 =>
      if v149.toInt = 0 then
        zLet (F_X11_tellOne a0  τ133) fun t229 =>
        F_X11_read_117 x7 a0 kLp8 n  t229
      else
        zLet (τ133.1 a0 13) fun v151 =>
        if 0 < v151.toInt then
          (0, τ133)
        else
          zLet (τ133.1 a0 15) fun v153 =>
          if 0 < v153.toInt then
            zLet (τ133.1 a0 16) fun v217 =>
            zLet ((zu τ133.1 a0 17 v217, τ133.2.1, τ133.2.2)) fun s218 =>
            zLet (s218.1 a0 13) fun v224 =>
            if 0 < v224.toInt then
              (0, s218)
            else
              zLet (s218.1 a0 15) fun v226 =>
              if 0 < v226.toInt then
                zLet (s218.1 a0 15) fun v228 =>
                (v228, s218)
              else
                (0, s218)
          else
            zLet ((-1 : Int32)) fun v155 =>
            zLet ((zu τ133.1 a0 17 v155, τ133.2.1, τ133.2.2)) fun s156 =>
            zLet (s156.1 a0 13) fun v161 =>
            if 0 < v161.toInt then
              (0, s156)
            else
              zLet (s156.1 a0 15) fun v163 =>
              if 0 < v163.toInt then
                (0, s156)
              else
                zLet (s156.1 a0 19) fun v165 =>
                zLet ((zu s156.1 a0 18 v165, s156.2.1, s156.2.2)) fun s166 =>
                zLet (F_X11_begins a0  s166) fun t173 =>
                zLet (F_X11_keepsRow a0  t173) fun t180 =>
                zLet ((0 : Int32)) fun v187 =>
                zLet ((zu t180.1 a0 57 v187, t180.2.1, t180.2.2)) fun s188 =>
                zLet ((0 : Int32)) fun v196 =>
                zLet ((zu s188.1 a0 62 v196, s188.2.1, s188.2.2)) fun s197 =>
                zLet ((0 : Int32)) fun v206 =>
                F_X11_read_224 a0 kLp8 (F_X11_read_117 x7 a0 kLp8 n) 10000 v206 s197
    else
      zLet (τ133.1 a0 13) fun v136 =>
      if 0 < v136.toInt then
        zLet (τ133.1 a0 14) fun v138 =>
        zLet ((zu τ133.1 a0 17 v138, τ133.2.1, τ133.2.2)) fun s139 =>
        zLet (s139.1 a0 13) fun v144 =>
        if 0 < v144.toInt then
          zLet (s139.1 a0 13) fun v146 =>
          (v146, s139)
        else
          (0, s139)
      else
        (0, τ133)
set_option maxRecDepth 100000 in
noncomputable def F_X11_read_10 (a0 : Nat)  : Nat → Int32 → zS → Int32 × zS
  | 0, _, s => (0, s)
  | n + 1, x7, τ8 =>
    zLet (τ8.1 a0 4) fun v9 =>
    if x7.toInt < v9.toInt then
      zLet ((τ8.2.2 a0 3).getD 0) fun v231 =>
      zLet ((τ8.2.2 a0 1).getD 0) fun v232 =>
      zLet (τ8.1 v232 x7.toNatClampNeg) fun v233 =>
      zLet ((zu τ8.1 v231 x7.toNatClampNeg (vp_nar .byte v233), τ8.2.1, τ8.2.2)) fun s234 =>
      zLet (x7 + (1 : Int32)) fun v237 =>
      F_X11_read_10 a0  n v237 s234
    else
      zLet ((0 : Int32)) fun v11 =>
      zLet ((zu τ8.1 a0 2 v11, τ8.2.1, τ8.2.2)) fun s12 =>
      zLet (F_X11_cut a0  s12) fun t16 =>
      zLet ((0 : Int32)) fun v20 =>
      zLet ((zu t16.1 a0 11 v20, t16.2.1, t16.2.2)) fun s21 =>
      zLet ((0 : Int32)) fun v26 =>
      zLet ((zu s21.1 a0 12 v26, s21.2.1, s21.2.2)) fun s27 =>
      zLet ((0 : Int32)) fun v33 =>
      zLet ((zu s27.1 a0 13 v33, s27.2.1, s27.2.2)) fun s35 =>
      zLet ((0 : Int32)) fun v42 =>
      zLet ((zu s35.1 a0 15 v42, s35.2.1, s35.2.2)) fun s43 =>
      zLet ((1 : Int32)) fun v51 =>
      zLet (s43.1 a0 18) fun v52 =>
      zLet (v51 - v52) fun v53 =>
      zLet ((zu s43.1 a0 19 v53, s43.2.1, s43.2.2)) fun s54 =>
      zLet (s54.1 a0 19) fun v64 =>
      zLet (F_X11_plain a0 v64 s54) fun t65 =>
      zLet ((130 : Int32)) fun v75 =>
      zLet (t65.1 a0 19) fun v76 =>
      zLet (v75 * v76) fun v77 =>
      zLet ((zu t65.1 a0 32 v77, t65.2.1, t65.2.2)) fun s78 =>
      zLet ((420 : Int32)) fun v89 =>
      zLet (s78.1 a0 19) fun v90 =>
      zLet (v89 * v90) fun v91 =>
      zLet ((zu s78.1 a0 38 v91, s78.2.1, s78.2.2)) fun s92 =>
      zLet ((0 : Int32)) fun v104 =>
      zLet ((zu s92.1 a0 41 v104, s92.2.1, s92.2.2)) fun s105 =>
      zLet ((0 : Int32)) fun v118 =>
      zLet ((zu s105.1 a0 42 v118, s105.2.1, s105.2.2)) fun s119 =>
      F_X11_read_117 x7 a0 (F_X11_read_10 a0  n) 10000  s119
set_option maxRecDepth 100000 in
noncomputable def F_X11_read (a0 : Nat) (σ : zS) : Int32 × zS :=
  zLet (σ.1 a0 2) fun v1 =>
  zLet ((zu σ.1 a0 4 v1, σ.2.1, σ.2.2)) fun s2 =>
  zLet ((0 : Int32)) fun v6 =>
  F_X11_read_10 a0  10000 v6 s2
