/-! THE REFERENCE'S WORDS -/
theorem zlt {α β : Type} (x : α) (f : α → β) : zLet x f = f x := Eq.trans (Eq.refl (f x)) (Eq.refl (f x))
theorem zlt2 {α β γ : Type} (x : α × β) (f : α → β → γ) : zLet2 x f = f x.1 x.2 := Eq.trans (Eq.refl (f x.1 x.2)) (Eq.refl (f x.1 x.2))
def zwl : List (List Int) := [[13, 15, 21, 20, 8], [16, 12, 1, 3, 5], [18, 1, 9, 14, 19], [4, 18, 9, 5, 19], [15, 14, 5], [20, 23, 15], [20, 8, 18, 5, 5], [19, 20, 15, 18, 13], [16, 18, 9, 26, 5], [19, 5, 5, 4], [9, 6], [20, 8, 5, 14], [5, 12, 19, 5], [18, 1, 9, 14], [6, 1, 18], [20, 1, 12, 5], [13, 15, 14, 20, 8], [6, 12, 15, 23], [12, 5, 14, 7, 20, 8], [23, 15, 14], [23, 8, 9, 3, 8], [1, 2, 15, 22, 5]]
/-- a word's number: its letters (1 .. 26) to a base -/
def zvb (b : Int) (l : List Int) : Int := l.foldl (fun x c => x * b + c) 0
def zw32 (j : Nat) : Int64 := Int64.ofInt (zvb 32 (zwl.getD j []))
def zw27 (j : Nat) : Int64 := Int64.ofInt (zvb 27 (zwl.getD j []))
theorem zu_j {α : Type} (f : Nat → Nat → α) (a j k : Nat) (v : α) (h : ¬ j = k) : zu f a j v a k = f a k := by
  unfold zu
  rw [if_pos rfl]
  first | rw [if_neg h] | rw [if_neg (fun z => h z.symm)]
theorem ztn (x : Int32) : x.toNatClampNeg = x.toInt.toNat := rfl
theorem zkw_0 : F_X11_word 109 111 117 116 104 0 0 = zw27 0 := by decide +kernel
theorem zkw_1 : F_X11_word 112 108 97 99 101 0 0 = zw27 1 := by decide +kernel
theorem zkw_2 : F_X11_word 114 97 105 110 115 0 0 = zw27 2 := by decide +kernel
theorem zkw_3 : F_X11_word 100 114 105 101 115 0 0 = zw27 3 := by decide +kernel
theorem zkw_4 : F_X11_word 111 110 101 0 0 0 0 = zw27 4 := by decide +kernel
theorem zkw_5 : F_X11_word 116 119 111 0 0 0 0 = zw27 5 := by decide +kernel
theorem zkw_6 : F_X11_word 116 104 114 101 101 0 0 = zw27 6 := by decide +kernel
theorem zkw_7 : F_X11_word 115 116 111 114 109 0 0 = zw27 7 := by decide +kernel
theorem zkw_8 : F_X11_word 112 114 105 122 101 0 0 = zw27 8 := by decide +kernel
theorem zkw_9 : F_X11_word 115 101 101 100 0 0 0 = zw27 9 := by decide +kernel
theorem zkw_10 : F_X11_word 105 102 0 0 0 0 0 = zw27 10 := by decide +kernel
theorem zkw_11 : F_X11_word 116 104 101 110 0 0 0 = zw27 11 := by decide +kernel
theorem zkw_12 : F_X11_word 101 108 115 101 0 0 0 = zw27 12 := by decide +kernel
theorem zkw_13 : F_X11_word 114 97 105 110 0 0 0 = zw27 13 := by decide +kernel
theorem zkw_14 : F_X11_word 102 97 114 0 0 0 0 = zw27 14 := by decide +kernel
theorem zkw_15 : F_X11_word 116 97 108 101 0 0 0 = zw27 15 := by decide +kernel
theorem zkw_16 : F_X11_word 109 111 110 116 104 0 0 = zw27 16 := by decide +kernel
theorem zkw_17 : F_X11_word 102 108 111 119 0 0 0 = zw27 17 := by decide +kernel
theorem zkw_18 : F_X11_word 108 101 110 103 116 104 0 = zw27 18 := by decide +kernel
theorem zkw_19 : F_X11_word 119 111 110 0 0 0 0 = zw27 19 := by decide +kernel
theorem zkw_20 : F_X11_word 119 104 105 99 104 0 0 = zw27 20 := by decide +kernel
theorem zkw_21 : F_X11_word 97 98 111 118 101 0 0 = zw27 21 := by decide +kernel
theorem zkx_0 {x0 x1 x2 x3 x4 x5 x6 : Int32} {v : Int64} (hv : v = F_X11_word x0 x1 x2 x3 x4 x5 x6) (h0 : x0.toInt = 109) (h1 : x1.toInt = 111) (h2 : x2.toInt = 117) (h3 : x3.toInt = 116) (h4 : x4.toInt = 104) (h5 : x5.toInt = 0) (h6 : x6.toInt = 0) : v = zw27 0 := by
  have e0 : x0 = 109 := Int32.toInt_inj.mp (h0.trans (by decide))
  have e1 : x1 = 111 := Int32.toInt_inj.mp (h1.trans (by decide))
  have e2 : x2 = 117 := Int32.toInt_inj.mp (h2.trans (by decide))
  have e3 : x3 = 116 := Int32.toInt_inj.mp (h3.trans (by decide))
  have e4 : x4 = 104 := Int32.toInt_inj.mp (h4.trans (by decide))
  have e5 : x5 = 0 := Int32.toInt_inj.mp (h5.trans (by decide))
  have e6 : x6 = 0 := Int32.toInt_inj.mp (h6.trans (by decide))
  subst e0 e1 e2 e3 e4 e5 e6
  exact hv.trans zkw_0
theorem zkx_1 {x0 x1 x2 x3 x4 x5 x6 : Int32} {v : Int64} (hv : v = F_X11_word x0 x1 x2 x3 x4 x5 x6) (h0 : x0.toInt = 112) (h1 : x1.toInt = 108) (h2 : x2.toInt = 97) (h3 : x3.toInt = 99) (h4 : x4.toInt = 101) (h5 : x5.toInt = 0) (h6 : x6.toInt = 0) : v = zw27 1 := by
  have e0 : x0 = 112 := Int32.toInt_inj.mp (h0.trans (by decide))
  have e1 : x1 = 108 := Int32.toInt_inj.mp (h1.trans (by decide))
  have e2 : x2 = 97 := Int32.toInt_inj.mp (h2.trans (by decide))
  have e3 : x3 = 99 := Int32.toInt_inj.mp (h3.trans (by decide))
  have e4 : x4 = 101 := Int32.toInt_inj.mp (h4.trans (by decide))
  have e5 : x5 = 0 := Int32.toInt_inj.mp (h5.trans (by decide))
  have e6 : x6 = 0 := Int32.toInt_inj.mp (h6.trans (by decide))
  subst e0 e1 e2 e3 e4 e5 e6
  exact hv.trans zkw_1
theorem zkx_2 {x0 x1 x2 x3 x4 x5 x6 : Int32} {v : Int64} (hv : v = F_X11_word x0 x1 x2 x3 x4 x5 x6) (h0 : x0.toInt = 114) (h1 : x1.toInt = 97) (h2 : x2.toInt = 105) (h3 : x3.toInt = 110) (h4 : x4.toInt = 115) (h5 : x5.toInt = 0) (h6 : x6.toInt = 0) : v = zw27 2 := by
  have e0 : x0 = 114 := Int32.toInt_inj.mp (h0.trans (by decide))
  have e1 : x1 = 97 := Int32.toInt_inj.mp (h1.trans (by decide))
  have e2 : x2 = 105 := Int32.toInt_inj.mp (h2.trans (by decide))
  have e3 : x3 = 110 := Int32.toInt_inj.mp (h3.trans (by decide))
  have e4 : x4 = 115 := Int32.toInt_inj.mp (h4.trans (by decide))
  have e5 : x5 = 0 := Int32.toInt_inj.mp (h5.trans (by decide))
  have e6 : x6 = 0 := Int32.toInt_inj.mp (h6.trans (by decide))
  subst e0 e1 e2 e3 e4 e5 e6
  exact hv.trans zkw_2
theorem zkx_3 {x0 x1 x2 x3 x4 x5 x6 : Int32} {v : Int64} (hv : v = F_X11_word x0 x1 x2 x3 x4 x5 x6) (h0 : x0.toInt = 100) (h1 : x1.toInt = 114) (h2 : x2.toInt = 105) (h3 : x3.toInt = 101) (h4 : x4.toInt = 115) (h5 : x5.toInt = 0) (h6 : x6.toInt = 0) : v = zw27 3 := by
  have e0 : x0 = 100 := Int32.toInt_inj.mp (h0.trans (by decide))
  have e1 : x1 = 114 := Int32.toInt_inj.mp (h1.trans (by decide))
  have e2 : x2 = 105 := Int32.toInt_inj.mp (h2.trans (by decide))
  have e3 : x3 = 101 := Int32.toInt_inj.mp (h3.trans (by decide))
  have e4 : x4 = 115 := Int32.toInt_inj.mp (h4.trans (by decide))
  have e5 : x5 = 0 := Int32.toInt_inj.mp (h5.trans (by decide))
  have e6 : x6 = 0 := Int32.toInt_inj.mp (h6.trans (by decide))
  subst e0 e1 e2 e3 e4 e5 e6
  exact hv.trans zkw_3
theorem zkx_4 {x0 x1 x2 x3 x4 x5 x6 : Int32} {v : Int64} (hv : v = F_X11_word x0 x1 x2 x3 x4 x5 x6) (h0 : x0.toInt = 111) (h1 : x1.toInt = 110) (h2 : x2.toInt = 101) (h3 : x3.toInt = 0) (h4 : x4.toInt = 0) (h5 : x5.toInt = 0) (h6 : x6.toInt = 0) : v = zw27 4 := by
  have e0 : x0 = 111 := Int32.toInt_inj.mp (h0.trans (by decide))
  have e1 : x1 = 110 := Int32.toInt_inj.mp (h1.trans (by decide))
  have e2 : x2 = 101 := Int32.toInt_inj.mp (h2.trans (by decide))
  have e3 : x3 = 0 := Int32.toInt_inj.mp (h3.trans (by decide))
  have e4 : x4 = 0 := Int32.toInt_inj.mp (h4.trans (by decide))
  have e5 : x5 = 0 := Int32.toInt_inj.mp (h5.trans (by decide))
  have e6 : x6 = 0 := Int32.toInt_inj.mp (h6.trans (by decide))
  subst e0 e1 e2 e3 e4 e5 e6
  exact hv.trans zkw_4
theorem zkx_5 {x0 x1 x2 x3 x4 x5 x6 : Int32} {v : Int64} (hv : v = F_X11_word x0 x1 x2 x3 x4 x5 x6) (h0 : x0.toInt = 116) (h1 : x1.toInt = 119) (h2 : x2.toInt = 111) (h3 : x3.toInt = 0) (h4 : x4.toInt = 0) (h5 : x5.toInt = 0) (h6 : x6.toInt = 0) : v = zw27 5 := by
  have e0 : x0 = 116 := Int32.toInt_inj.mp (h0.trans (by decide))
  have e1 : x1 = 119 := Int32.toInt_inj.mp (h1.trans (by decide))
  have e2 : x2 = 111 := Int32.toInt_inj.mp (h2.trans (by decide))
  have e3 : x3 = 0 := Int32.toInt_inj.mp (h3.trans (by decide))
  have e4 : x4 = 0 := Int32.toInt_inj.mp (h4.trans (by decide))
  have e5 : x5 = 0 := Int32.toInt_inj.mp (h5.trans (by decide))
  have e6 : x6 = 0 := Int32.toInt_inj.mp (h6.trans (by decide))
  subst e0 e1 e2 e3 e4 e5 e6
  exact hv.trans zkw_5
theorem zkx_6 {x0 x1 x2 x3 x4 x5 x6 : Int32} {v : Int64} (hv : v = F_X11_word x0 x1 x2 x3 x4 x5 x6) (h0 : x0.toInt = 116) (h1 : x1.toInt = 104) (h2 : x2.toInt = 114) (h3 : x3.toInt = 101) (h4 : x4.toInt = 101) (h5 : x5.toInt = 0) (h6 : x6.toInt = 0) : v = zw27 6 := by
  have e0 : x0 = 116 := Int32.toInt_inj.mp (h0.trans (by decide))
  have e1 : x1 = 104 := Int32.toInt_inj.mp (h1.trans (by decide))
  have e2 : x2 = 114 := Int32.toInt_inj.mp (h2.trans (by decide))
  have e3 : x3 = 101 := Int32.toInt_inj.mp (h3.trans (by decide))
  have e4 : x4 = 101 := Int32.toInt_inj.mp (h4.trans (by decide))
  have e5 : x5 = 0 := Int32.toInt_inj.mp (h5.trans (by decide))
  have e6 : x6 = 0 := Int32.toInt_inj.mp (h6.trans (by decide))
  subst e0 e1 e2 e3 e4 e5 e6
  exact hv.trans zkw_6
theorem zkx_7 {x0 x1 x2 x3 x4 x5 x6 : Int32} {v : Int64} (hv : v = F_X11_word x0 x1 x2 x3 x4 x5 x6) (h0 : x0.toInt = 115) (h1 : x1.toInt = 116) (h2 : x2.toInt = 111) (h3 : x3.toInt = 114) (h4 : x4.toInt = 109) (h5 : x5.toInt = 0) (h6 : x6.toInt = 0) : v = zw27 7 := by
  have e0 : x0 = 115 := Int32.toInt_inj.mp (h0.trans (by decide))
  have e1 : x1 = 116 := Int32.toInt_inj.mp (h1.trans (by decide))
  have e2 : x2 = 111 := Int32.toInt_inj.mp (h2.trans (by decide))
  have e3 : x3 = 114 := Int32.toInt_inj.mp (h3.trans (by decide))
  have e4 : x4 = 109 := Int32.toInt_inj.mp (h4.trans (by decide))
  have e5 : x5 = 0 := Int32.toInt_inj.mp (h5.trans (by decide))
  have e6 : x6 = 0 := Int32.toInt_inj.mp (h6.trans (by decide))
  subst e0 e1 e2 e3 e4 e5 e6
  exact hv.trans zkw_7
theorem zkx_8 {x0 x1 x2 x3 x4 x5 x6 : Int32} {v : Int64} (hv : v = F_X11_word x0 x1 x2 x3 x4 x5 x6) (h0 : x0.toInt = 112) (h1 : x1.toInt = 114) (h2 : x2.toInt = 105) (h3 : x3.toInt = 122) (h4 : x4.toInt = 101) (h5 : x5.toInt = 0) (h6 : x6.toInt = 0) : v = zw27 8 := by
  have e0 : x0 = 112 := Int32.toInt_inj.mp (h0.trans (by decide))
  have e1 : x1 = 114 := Int32.toInt_inj.mp (h1.trans (by decide))
  have e2 : x2 = 105 := Int32.toInt_inj.mp (h2.trans (by decide))
  have e3 : x3 = 122 := Int32.toInt_inj.mp (h3.trans (by decide))
  have e4 : x4 = 101 := Int32.toInt_inj.mp (h4.trans (by decide))
  have e5 : x5 = 0 := Int32.toInt_inj.mp (h5.trans (by decide))
  have e6 : x6 = 0 := Int32.toInt_inj.mp (h6.trans (by decide))
  subst e0 e1 e2 e3 e4 e5 e6
  exact hv.trans zkw_8
theorem zkx_9 {x0 x1 x2 x3 x4 x5 x6 : Int32} {v : Int64} (hv : v = F_X11_word x0 x1 x2 x3 x4 x5 x6) (h0 : x0.toInt = 115) (h1 : x1.toInt = 101) (h2 : x2.toInt = 101) (h3 : x3.toInt = 100) (h4 : x4.toInt = 0) (h5 : x5.toInt = 0) (h6 : x6.toInt = 0) : v = zw27 9 := by
  have e0 : x0 = 115 := Int32.toInt_inj.mp (h0.trans (by decide))
  have e1 : x1 = 101 := Int32.toInt_inj.mp (h1.trans (by decide))
  have e2 : x2 = 101 := Int32.toInt_inj.mp (h2.trans (by decide))
  have e3 : x3 = 100 := Int32.toInt_inj.mp (h3.trans (by decide))
  have e4 : x4 = 0 := Int32.toInt_inj.mp (h4.trans (by decide))
  have e5 : x5 = 0 := Int32.toInt_inj.mp (h5.trans (by decide))
  have e6 : x6 = 0 := Int32.toInt_inj.mp (h6.trans (by decide))
  subst e0 e1 e2 e3 e4 e5 e6
  exact hv.trans zkw_9
theorem zkx_10 {x0 x1 x2 x3 x4 x5 x6 : Int32} {v : Int64} (hv : v = F_X11_word x0 x1 x2 x3 x4 x5 x6) (h0 : x0.toInt = 105) (h1 : x1.toInt = 102) (h2 : x2.toInt = 0) (h3 : x3.toInt = 0) (h4 : x4.toInt = 0) (h5 : x5.toInt = 0) (h6 : x6.toInt = 0) : v = zw27 10 := by
  have e0 : x0 = 105 := Int32.toInt_inj.mp (h0.trans (by decide))
  have e1 : x1 = 102 := Int32.toInt_inj.mp (h1.trans (by decide))
  have e2 : x2 = 0 := Int32.toInt_inj.mp (h2.trans (by decide))
  have e3 : x3 = 0 := Int32.toInt_inj.mp (h3.trans (by decide))
  have e4 : x4 = 0 := Int32.toInt_inj.mp (h4.trans (by decide))
  have e5 : x5 = 0 := Int32.toInt_inj.mp (h5.trans (by decide))
  have e6 : x6 = 0 := Int32.toInt_inj.mp (h6.trans (by decide))
  subst e0 e1 e2 e3 e4 e5 e6
  exact hv.trans zkw_10
theorem zkx_11 {x0 x1 x2 x3 x4 x5 x6 : Int32} {v : Int64} (hv : v = F_X11_word x0 x1 x2 x3 x4 x5 x6) (h0 : x0.toInt = 116) (h1 : x1.toInt = 104) (h2 : x2.toInt = 101) (h3 : x3.toInt = 110) (h4 : x4.toInt = 0) (h5 : x5.toInt = 0) (h6 : x6.toInt = 0) : v = zw27 11 := by
  have e0 : x0 = 116 := Int32.toInt_inj.mp (h0.trans (by decide))
  have e1 : x1 = 104 := Int32.toInt_inj.mp (h1.trans (by decide))
  have e2 : x2 = 101 := Int32.toInt_inj.mp (h2.trans (by decide))
  have e3 : x3 = 110 := Int32.toInt_inj.mp (h3.trans (by decide))
  have e4 : x4 = 0 := Int32.toInt_inj.mp (h4.trans (by decide))
  have e5 : x5 = 0 := Int32.toInt_inj.mp (h5.trans (by decide))
  have e6 : x6 = 0 := Int32.toInt_inj.mp (h6.trans (by decide))
  subst e0 e1 e2 e3 e4 e5 e6
  exact hv.trans zkw_11
theorem zkx_12 {x0 x1 x2 x3 x4 x5 x6 : Int32} {v : Int64} (hv : v = F_X11_word x0 x1 x2 x3 x4 x5 x6) (h0 : x0.toInt = 101) (h1 : x1.toInt = 108) (h2 : x2.toInt = 115) (h3 : x3.toInt = 101) (h4 : x4.toInt = 0) (h5 : x5.toInt = 0) (h6 : x6.toInt = 0) : v = zw27 12 := by
  have e0 : x0 = 101 := Int32.toInt_inj.mp (h0.trans (by decide))
  have e1 : x1 = 108 := Int32.toInt_inj.mp (h1.trans (by decide))
  have e2 : x2 = 115 := Int32.toInt_inj.mp (h2.trans (by decide))
  have e3 : x3 = 101 := Int32.toInt_inj.mp (h3.trans (by decide))
  have e4 : x4 = 0 := Int32.toInt_inj.mp (h4.trans (by decide))
  have e5 : x5 = 0 := Int32.toInt_inj.mp (h5.trans (by decide))
  have e6 : x6 = 0 := Int32.toInt_inj.mp (h6.trans (by decide))
  subst e0 e1 e2 e3 e4 e5 e6
  exact hv.trans zkw_12
theorem zkx_13 {x0 x1 x2 x3 x4 x5 x6 : Int32} {v : Int64} (hv : v = F_X11_word x0 x1 x2 x3 x4 x5 x6) (h0 : x0.toInt = 114) (h1 : x1.toInt = 97) (h2 : x2.toInt = 105) (h3 : x3.toInt = 110) (h4 : x4.toInt = 0) (h5 : x5.toInt = 0) (h6 : x6.toInt = 0) : v = zw27 13 := by
  have e0 : x0 = 114 := Int32.toInt_inj.mp (h0.trans (by decide))
  have e1 : x1 = 97 := Int32.toInt_inj.mp (h1.trans (by decide))
  have e2 : x2 = 105 := Int32.toInt_inj.mp (h2.trans (by decide))
  have e3 : x3 = 110 := Int32.toInt_inj.mp (h3.trans (by decide))
  have e4 : x4 = 0 := Int32.toInt_inj.mp (h4.trans (by decide))
  have e5 : x5 = 0 := Int32.toInt_inj.mp (h5.trans (by decide))
  have e6 : x6 = 0 := Int32.toInt_inj.mp (h6.trans (by decide))
  subst e0 e1 e2 e3 e4 e5 e6
  exact hv.trans zkw_13
theorem zkx_14 {x0 x1 x2 x3 x4 x5 x6 : Int32} {v : Int64} (hv : v = F_X11_word x0 x1 x2 x3 x4 x5 x6) (h0 : x0.toInt = 102) (h1 : x1.toInt = 97) (h2 : x2.toInt = 114) (h3 : x3.toInt = 0) (h4 : x4.toInt = 0) (h5 : x5.toInt = 0) (h6 : x6.toInt = 0) : v = zw27 14 := by
  have e0 : x0 = 102 := Int32.toInt_inj.mp (h0.trans (by decide))
  have e1 : x1 = 97 := Int32.toInt_inj.mp (h1.trans (by decide))
  have e2 : x2 = 114 := Int32.toInt_inj.mp (h2.trans (by decide))
  have e3 : x3 = 0 := Int32.toInt_inj.mp (h3.trans (by decide))
  have e4 : x4 = 0 := Int32.toInt_inj.mp (h4.trans (by decide))
  have e5 : x5 = 0 := Int32.toInt_inj.mp (h5.trans (by decide))
  have e6 : x6 = 0 := Int32.toInt_inj.mp (h6.trans (by decide))
  subst e0 e1 e2 e3 e4 e5 e6
  exact hv.trans zkw_14
theorem zkx_15 {x0 x1 x2 x3 x4 x5 x6 : Int32} {v : Int64} (hv : v = F_X11_word x0 x1 x2 x3 x4 x5 x6) (h0 : x0.toInt = 116) (h1 : x1.toInt = 97) (h2 : x2.toInt = 108) (h3 : x3.toInt = 101) (h4 : x4.toInt = 0) (h5 : x5.toInt = 0) (h6 : x6.toInt = 0) : v = zw27 15 := by
  have e0 : x0 = 116 := Int32.toInt_inj.mp (h0.trans (by decide))
  have e1 : x1 = 97 := Int32.toInt_inj.mp (h1.trans (by decide))
  have e2 : x2 = 108 := Int32.toInt_inj.mp (h2.trans (by decide))
  have e3 : x3 = 101 := Int32.toInt_inj.mp (h3.trans (by decide))
  have e4 : x4 = 0 := Int32.toInt_inj.mp (h4.trans (by decide))
  have e5 : x5 = 0 := Int32.toInt_inj.mp (h5.trans (by decide))
  have e6 : x6 = 0 := Int32.toInt_inj.mp (h6.trans (by decide))
  subst e0 e1 e2 e3 e4 e5 e6
  exact hv.trans zkw_15
theorem zkx_16 {x0 x1 x2 x3 x4 x5 x6 : Int32} {v : Int64} (hv : v = F_X11_word x0 x1 x2 x3 x4 x5 x6) (h0 : x0.toInt = 109) (h1 : x1.toInt = 111) (h2 : x2.toInt = 110) (h3 : x3.toInt = 116) (h4 : x4.toInt = 104) (h5 : x5.toInt = 0) (h6 : x6.toInt = 0) : v = zw27 16 := by
  have e0 : x0 = 109 := Int32.toInt_inj.mp (h0.trans (by decide))
  have e1 : x1 = 111 := Int32.toInt_inj.mp (h1.trans (by decide))
  have e2 : x2 = 110 := Int32.toInt_inj.mp (h2.trans (by decide))
  have e3 : x3 = 116 := Int32.toInt_inj.mp (h3.trans (by decide))
  have e4 : x4 = 104 := Int32.toInt_inj.mp (h4.trans (by decide))
  have e5 : x5 = 0 := Int32.toInt_inj.mp (h5.trans (by decide))
  have e6 : x6 = 0 := Int32.toInt_inj.mp (h6.trans (by decide))
  subst e0 e1 e2 e3 e4 e5 e6
  exact hv.trans zkw_16
theorem zkx_17 {x0 x1 x2 x3 x4 x5 x6 : Int32} {v : Int64} (hv : v = F_X11_word x0 x1 x2 x3 x4 x5 x6) (h0 : x0.toInt = 102) (h1 : x1.toInt = 108) (h2 : x2.toInt = 111) (h3 : x3.toInt = 119) (h4 : x4.toInt = 0) (h5 : x5.toInt = 0) (h6 : x6.toInt = 0) : v = zw27 17 := by
  have e0 : x0 = 102 := Int32.toInt_inj.mp (h0.trans (by decide))
  have e1 : x1 = 108 := Int32.toInt_inj.mp (h1.trans (by decide))
  have e2 : x2 = 111 := Int32.toInt_inj.mp (h2.trans (by decide))
  have e3 : x3 = 119 := Int32.toInt_inj.mp (h3.trans (by decide))
  have e4 : x4 = 0 := Int32.toInt_inj.mp (h4.trans (by decide))
  have e5 : x5 = 0 := Int32.toInt_inj.mp (h5.trans (by decide))
  have e6 : x6 = 0 := Int32.toInt_inj.mp (h6.trans (by decide))
  subst e0 e1 e2 e3 e4 e5 e6
  exact hv.trans zkw_17
theorem zkx_18 {x0 x1 x2 x3 x4 x5 x6 : Int32} {v : Int64} (hv : v = F_X11_word x0 x1 x2 x3 x4 x5 x6) (h0 : x0.toInt = 108) (h1 : x1.toInt = 101) (h2 : x2.toInt = 110) (h3 : x3.toInt = 103) (h4 : x4.toInt = 116) (h5 : x5.toInt = 104) (h6 : x6.toInt = 0) : v = zw27 18 := by
  have e0 : x0 = 108 := Int32.toInt_inj.mp (h0.trans (by decide))
  have e1 : x1 = 101 := Int32.toInt_inj.mp (h1.trans (by decide))
  have e2 : x2 = 110 := Int32.toInt_inj.mp (h2.trans (by decide))
  have e3 : x3 = 103 := Int32.toInt_inj.mp (h3.trans (by decide))
  have e4 : x4 = 116 := Int32.toInt_inj.mp (h4.trans (by decide))
  have e5 : x5 = 104 := Int32.toInt_inj.mp (h5.trans (by decide))
  have e6 : x6 = 0 := Int32.toInt_inj.mp (h6.trans (by decide))
  subst e0 e1 e2 e3 e4 e5 e6
  exact hv.trans zkw_18
theorem zkx_19 {x0 x1 x2 x3 x4 x5 x6 : Int32} {v : Int64} (hv : v = F_X11_word x0 x1 x2 x3 x4 x5 x6) (h0 : x0.toInt = 119) (h1 : x1.toInt = 111) (h2 : x2.toInt = 110) (h3 : x3.toInt = 0) (h4 : x4.toInt = 0) (h5 : x5.toInt = 0) (h6 : x6.toInt = 0) : v = zw27 19 := by
  have e0 : x0 = 119 := Int32.toInt_inj.mp (h0.trans (by decide))
  have e1 : x1 = 111 := Int32.toInt_inj.mp (h1.trans (by decide))
  have e2 : x2 = 110 := Int32.toInt_inj.mp (h2.trans (by decide))
  have e3 : x3 = 0 := Int32.toInt_inj.mp (h3.trans (by decide))
  have e4 : x4 = 0 := Int32.toInt_inj.mp (h4.trans (by decide))
  have e5 : x5 = 0 := Int32.toInt_inj.mp (h5.trans (by decide))
  have e6 : x6 = 0 := Int32.toInt_inj.mp (h6.trans (by decide))
  subst e0 e1 e2 e3 e4 e5 e6
  exact hv.trans zkw_19
theorem zkx_20 {x0 x1 x2 x3 x4 x5 x6 : Int32} {v : Int64} (hv : v = F_X11_word x0 x1 x2 x3 x4 x5 x6) (h0 : x0.toInt = 119) (h1 : x1.toInt = 104) (h2 : x2.toInt = 105) (h3 : x3.toInt = 99) (h4 : x4.toInt = 104) (h5 : x5.toInt = 0) (h6 : x6.toInt = 0) : v = zw27 20 := by
  have e0 : x0 = 119 := Int32.toInt_inj.mp (h0.trans (by decide))
  have e1 : x1 = 104 := Int32.toInt_inj.mp (h1.trans (by decide))
  have e2 : x2 = 105 := Int32.toInt_inj.mp (h2.trans (by decide))
  have e3 : x3 = 99 := Int32.toInt_inj.mp (h3.trans (by decide))
  have e4 : x4 = 104 := Int32.toInt_inj.mp (h4.trans (by decide))
  have e5 : x5 = 0 := Int32.toInt_inj.mp (h5.trans (by decide))
  have e6 : x6 = 0 := Int32.toInt_inj.mp (h6.trans (by decide))
  subst e0 e1 e2 e3 e4 e5 e6
  exact hv.trans zkw_20
theorem zkx_21 {x0 x1 x2 x3 x4 x5 x6 : Int32} {v : Int64} (hv : v = F_X11_word x0 x1 x2 x3 x4 x5 x6) (h0 : x0.toInt = 97) (h1 : x1.toInt = 98) (h2 : x2.toInt = 111) (h3 : x3.toInt = 118) (h4 : x4.toInt = 101) (h5 : x5.toInt = 0) (h6 : x6.toInt = 0) : v = zw27 21 := by
  have e0 : x0 = 97 := Int32.toInt_inj.mp (h0.trans (by decide))
  have e1 : x1 = 98 := Int32.toInt_inj.mp (h1.trans (by decide))
  have e2 : x2 = 111 := Int32.toInt_inj.mp (h2.trans (by decide))
  have e3 : x3 = 118 := Int32.toInt_inj.mp (h3.trans (by decide))
  have e4 : x4 = 101 := Int32.toInt_inj.mp (h4.trans (by decide))
  have e5 : x5 = 0 := Int32.toInt_inj.mp (h5.trans (by decide))
  have e6 : x6 = 0 := Int32.toInt_inj.mp (h6.trans (by decide))
  subst e0 e1 e2 e3 e4 e5 e6
  exact hv.trans zkw_21
/-! THE CLASS' WORDS: the letters of the text, read in order -/
def zwt : List Int := "mouth place rains dries one two three storm prize seed if then else rain far tale month flow length won which above ".toList.map (fun c => (c.toNat : Int))
/-- word w, and the words so far -/
def zwa (s : Nat × (Nat → Int64)) (c : Int) : Nat × (Nat → Int64) := if c = 32 then (s.1 + 1, s.2) else (s.1, fun j => if j = s.1 then s.2 s.1 * 32 + Int64.ofInt (c - 96) else s.2 j)
def zwf (k : Nat) : Nat × (Nat → Int64) := (zwt.take k).foldl zwa (0, fun _ => 0)
theorem zwf_end : (zwf 116).1 = 22 ∧ ∀ j : Fin 22, (zwf 116).2 j.val = zw32 j.val := by decide +kernel
