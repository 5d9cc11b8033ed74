/-! THE CLASS' WORDS: one letter more -/
theorem zwch : ∀ k : Fin 116, (F_J0_charAt_5068e 0 (Int32.ofNat k.val)).toInt = zwt.getD k.val 0 := by decide +kernel
theorem zwt_len : zwt.length = 116 := by decide +kernel
theorem zwt_rng : ∀ k : Fin 116, zwt.getD k.val 0 = 32 ∨ (97 ≤ zwt.getD k.val 0 ∧ zwt.getD k.val 0 ≤ 122) := by decide +kernel
theorem zwf_g {α : Type} (f : α → Int → α) (x : α) (l : List Int) {k : Nat} (hk : k < l.length) : (l.take (k + 1)).foldl f x = f ((l.take k).foldl f x) (l.getD k 0) := by
  rw [List.take_add_one, List.foldl_append, List.getD_eq_getElem?_getD, List.getElem?_eq_getElem hk]
  rfl
theorem zwf_s {k : Nat} (hk : k < 116) : zwf (k + 1) = zwa (zwf k) (zwt.getD k 0) := zwf_g zwa (0, fun _ => 0) zwt (by rw [zwt_len]; exact hk)
theorem zwc_at {x : Int32} {k : Nat} (hx : x.toInt = k) (hk : k < 116) : (F_J0_charAt_5068e 0 x).toInt = zwt.getD k 0 := by
  have e : x = Int32.ofNat k := Int32.toInt_inj.mp (by rw [hx, Int32.toInt_ofNat_of_lt (by omega)])
  rw [e]
  exact zwch ⟨k, hk⟩
theorem zwl_w {x : Int64} {c : Int32} (hc : 97 ≤ c.toInt ∧ c.toInt ≤ 122) : F_X8_withLetter x c = x * 32 + Int64.ofInt (c.toInt - 96) := by
  unfold F_X8_withLetter
  have e97 : (97 : Int32).toInt = 97 := by decide
  have e1 : (1 : Int32).toInt = 1 := by decide
  have e : (c - (97 : Int32) + (1 : Int32)).toInt = c.toInt - 96 := by
    have h1 : (c - (97 : Int32)).toInt = c.toInt - 97 := by rw [zb_sub (by rw [e97]; omega) (by rw [e97]; omega), e97]
    rw [zb_add (by rw [h1, e1]; omega) (by rw [h1, e1]; omega), h1, e1]
    omega
  show x * 32 + (c - (97 : Int32) + (1 : Int32)).toInt64 = _
  congr 1
  refine Int64.toInt_inj.mp ?_
  rw [Int32.toInt_toInt64, e, Int64.toInt_ofInt_of_le (by omega) (by omega)]
/-- the state of the reading of the words -/
def zwS (y : Nat) (x8 x9 : Int32) (τ : zS) : Prop := ∃ k : Nat, x8.toInt = k ∧ k ≤ 116 ∧ x9.toInt = (zwf k).1 ∧ ∀ j, τ.2.1 y j = (zwf k).2 j
theorem zwS.blank {y : Nat} {x8 x9 c a8 a9 : Int32} {τ : zS} (h : zwS y x8 x9 τ) (h8 : x8.toInt < 116) (hc : c = F_J0_charAt_5068e 0 x8) (c32 : c.toInt = 32) (ha8 : a8.toInt = x8.toInt + 1) (ha9 : a9.toInt = x9.toInt + 1) : zwS y a8 a9 τ := by
  obtain ⟨k, h1, h2, h3, h4⟩ := h
  have ec := zwc_at h1 (by omega)
  rw [← hc, c32] at ec
  have es := zwf_s (k := k) (by omega)
  rw [← ec] at es
  have e2 : zwf (k + 1) = ((zwf k).1 + 1, (zwf k).2) := es
  refine ⟨k + 1, by omega, by omega, ?_, fun j => ?_⟩
  · rw [e2]; show a9.toInt = (((zwf k).1 + 1 : Nat) : Int); omega
  · rw [e2]; exact h4 j
theorem zwS.letter {y : Nat} {x8 x9 c a8 : Int32} {τ τ' : zS} (h : zwS y x8 x9 τ) (h8 : x8.toInt < 116) (hc : c = F_J0_charAt_5068e 0 x8) (c32 : ¬ c.toInt = 32) (ha8 : a8.toInt = x8.toInt + 1) (es : τ' = (τ.1, zu τ.2.1 y x9.toNatClampNeg (F_X8_withLetter (τ.2.1 y x9.toNatClampNeg) c), τ.2.2)) : zwS y a8 x9 τ' := by
  obtain ⟨k, h1, h2, h3, h4⟩ := h
  have ec := zwc_at h1 (by omega)
  rw [← hc] at ec
  have ez := zwf_s (k := k) (by omega)
  have rg := zwt_rng ⟨k, by omega⟩
  have rg2 : 97 ≤ c.toInt ∧ c.toInt ≤ 122 := by
    rw [ec]
    rcases rg with z | z
    · exact absurd (ec.trans z) c32
    · exact z
  rw [← ec] at ez
  have e2 : zwf (k + 1) = ((zwf k).1, fun j => if j = (zwf k).1 then (zwf k).2 (zwf k).1 * 32 + Int64.ofInt (c.toInt - 96) else (zwf k).2 j) := ez.trans (if_neg c32)
  have en : x9.toNatClampNeg = (zwf k).1 := by rw [ztn, h3]; rfl
  refine ⟨k + 1, by omega, by omega, ?_, fun j => ?_⟩
  · rw [e2]; exact h3
  · rw [es, e2, en]
    show zu τ.2.1 y (zwf k).1 _ y j = if j = (zwf k).1 then _ else _
    rw [zwl_w rg2, h4]
    by_cases cj : j = (zwf k).1
    · rw [if_pos cj, cj, zu_s]
    · rw [if_neg cj, zu_j _ _ _ _ _ (fun z => cj z.symm), h4]
theorem zwf_lt : ∀ k : Fin 116, (zwf k.val).1 < 22 := by decide +kernel
theorem zwf_e2 : ∀ j, j < 22 → (zwf 116).2 j = zw32 j := by decide +kernel
theorem zwS.first {y : Nat} {x8 x9 : Int32} {τ : zS} (h8 : x8.toInt = 0) (h9 : x9.toInt = 0) (hz : ∀ j, τ.2.1 y j = 0) : zwS y x8 x9 τ := ⟨0, h8, by omega, h9, fun j => hz j⟩
theorem zwS.fin {y : Nat} {x8 x9 : Int32} {τ : zS} (h : zwS y x8 x9 τ) (h2 : 116 ≤ x8.toInt ∨ 22 ≤ x9.toInt) : ∀ j, j < 22 → τ.2.1 y j = zw32 j := by
  obtain ⟨k, h1, hk, h3, h4⟩ := h
  have e : k = 116 := by
    by_cases c : k = 116
    · exact c
    · have q := zwf_lt ⟨k, by omega⟩
      have q2 : (zwf k).1 < 22 := q
      omega
  intro j hj
  subst e
  exact (h4 j).trans (zwf_e2 j hj)
